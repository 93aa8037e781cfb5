theorem dX11_pulled_47 : decode cX11_pulled 47 = .ok (.bipush 42, 2) := by decide +kernel
theorem dX11_pulled_49 : decode cX11_pulled 49 = .ok (.iload_n 3, 1) := by decide +kernel
theorem dX11_pulled_50 : decode cX11_pulled 50 = .ok (.iadd, 1) := by decide +kernel
theorem dX11_pulled_51 : decode cX11_pulled 51 = .ok (.iaload, 1) := by decide +kernel
theorem dX11_pulled_52 : decode cX11_pulled 52 = .ok (.ifCond .le 20, 3) := by decide +kernel
theorem dX11_pulled_55 : decode cX11_pulled 55 = .ok (.aload_n 0, 1) := by decide +kernel
theorem dX11_pulled_56 : decode cX11_pulled 56 = .ok (.getfield 35, 3) := by decide +kernel
theorem dX11_pulled_59 : decode cX11_pulled 59 = .ok (.bipush 52, 2) := by decide +kernel
theorem dX11_pulled_61 : decode cX11_pulled 61 = .ok (.bipush 10, 2) := by decide +kernel
theorem dX11_pulled_63 : decode cX11_pulled 63 = .ok (.iload_n 3, 1) := by decide +kernel
theorem dX11_pulled_64 : decode cX11_pulled 64 = .ok (.imul, 1) := by decide +kernel
theorem dX11_pulled_65 : decode cX11_pulled 65 = .ok (.iadd, 1) := by decide +kernel
theorem dX11_pulled_66 : decode cX11_pulled 66 = .ok (.iload_n 1, 1) := by decide +kernel
theorem dX11_pulled_67 : decode cX11_pulled 67 = .ok (.iadd, 1) := by decide +kernel
theorem dX11_pulled_68 : decode cX11_pulled 68 = .ok (.iaload, 1) := by decide +kernel
theorem dX11_pulled_69 : decode cX11_pulled 69 = .ok (.goto 18, 3) := by decide +kernel
theorem dX11_pulled_72 : decode cX11_pulled 72 = .ok (.aload_n 0, 1) := by decide +kernel
theorem dX11_pulled_73 : decode cX11_pulled 73 = .ok (.getfield 35, 3) := by decide +kernel
theorem dX11_pulled_76 : decode cX11_pulled 76 = .ok (.bipush 52, 2) := by decide +kernel
theorem dX11_pulled_78 : decode cX11_pulled 78 = .ok (.bipush 10, 2) := by decide +kernel
theorem dX11_pulled_80 : decode cX11_pulled 80 = .ok (.iload_n 3, 1) := by decide +kernel
theorem dX11_pulled_81 : decode cX11_pulled 81 = .ok (.imul, 1) := by decide +kernel
theorem dX11_pulled_82 : decode cX11_pulled 82 = .ok (.iadd, 1) := by decide +kernel
theorem dX11_pulled_83 : decode cX11_pulled 83 = .ok (.iload_n 1, 1) := by decide +kernel
theorem dX11_pulled_84 : decode cX11_pulled 84 = .ok (.iadd, 1) := by decide +kernel
theorem dX11_pulled_85 : decode cX11_pulled 85 = .ok (.iaload, 1) := by decide +kernel
theorem dX11_pulled_86 : decode cX11_pulled 86 = .ok (.ineg, 1) := by decide +kernel
theorem dX11_pulled_87 : decode cX11_pulled 87 = .ok (.iadd, 1) := by decide +kernel
theorem dX11_pulled_88 : decode cX11_pulled 88 = .ok (.istore_n 2, 1) := by decide +kernel
theorem dX11_pulled_89 : decode cX11_pulled 89 = .ok (.iinc 3 1, 3) := by decide +kernel
theorem dX11_pulled_92 : decode cX11_pulled 92 = .ok (.goto (-88), 3) := by decide +kernel
theorem dX11_pulled_95 : decode cX11_pulled 95 = .ok (.iload_n 2, 1) := by decide +kernel
theorem dX11_pulled_96 : decode cX11_pulled 96 = .ok (.invokestatic 364, 3) := by decide +kernel
theorem dX11_pulled_99 : decode cX11_pulled 99 = .ok (.aload_n 0, 1) := by decide +kernel
theorem dX11_pulled_100 : decode cX11_pulled 100 = .ok (.getfield 35, 3) := by decide +kernel
theorem dX11_pulled_103 : decode cX11_pulled 103 = .ok (.bipush 22, 2) := by decide +kernel
theorem dX11_pulled_105 : decode cX11_pulled 105 = .ok (.iload_n 1, 1) := by decide +kernel
theorem dX11_pulled_106 : decode cX11_pulled 106 = .ok (.iadd, 1) := by decide +kernel
theorem dX11_pulled_107 : decode cX11_pulled 107 = .ok (.iaload, 1) := by decide +kernel
theorem dX11_pulled_108 : decode cX11_pulled 108 = .ok (.if_icmp .le 20, 3) := by decide +kernel
theorem dX11_pulled_111 : decode cX11_pulled 111 = .ok (.aload_n 0, 1) := by decide +kernel
theorem dX11_pulled_112 : decode cX11_pulled 112 = .ok (.getfield 35, 3) := by decide +kernel
theorem dX11_pulled_115 : decode cX11_pulled 115 = .ok (.bipush 42, 2) := by decide +kernel
theorem dX11_pulled_117 : decode cX11_pulled 117 = .ok (.iload_n 1, 1) := by decide +kernel
theorem dX11_pulled_118 : decode cX11_pulled 118 = .ok (.iadd, 1) := by decide +kernel
theorem dX11_pulled_119 : decode cX11_pulled 119 = .ok (.iaload, 1) := by decide +kernel
theorem dX11_pulled_120 : decode cX11_pulled 120 = .ok (.iload_n 2, 1) := by decide +kernel
theorem dX11_pulled_121 : decode cX11_pulled 121 = .ok (.iadd, 1) := by decide +kernel
theorem dX11_pulled_122 : decode cX11_pulled 122 = .ok (.invokestatic 366, 3) := by decide +kernel
theorem dX11_pulled_125 : decode cX11_pulled 125 = .ok (.goto 12, 3) := by decide +kernel
theorem dX11_pulled_128 : decode cX11_pulled 128 = .ok (.aload_n 0, 1) := by decide +kernel
theorem dX11_pulled_129 : decode cX11_pulled 129 = .ok (.getfield 35, 3) := by decide +kernel
theorem dX11_pulled_132 : decode cX11_pulled 132 = .ok (.bipush 42, 2) := by decide +kernel
theorem dX11_pulled_134 : decode cX11_pulled 134 = .ok (.iload_n 1, 1) := by decide +kernel
theorem dX11_pulled_135 : decode cX11_pulled 135 = .ok (.iadd, 1) := by decide +kernel
theorem dX11_pulled_136 : decode cX11_pulled 136 = .ok (.iaload, 1) := by decide +kernel
theorem dX11_pulled_137 : decode cX11_pulled 137 = .ok (.ireturn, 1) := by decide +kernel
theorem dX11_votesFor_0 : decode cX11_votesFor 0 = .ok (.iconst 0, 1) := by decide +kernel
theorem dX11_votesFor_1 : decode cX11_votesFor 1 = .ok (.istore_n 2, 1) := by decide +kernel
theorem dX11_votesFor_2 : decode cX11_votesFor 2 = .ok (.iconst 0, 1) := by decide +kernel
theorem dX11_votesFor_3 : decode cX11_votesFor 3 = .ok (.istore_n 3, 1) := by decide +kernel
theorem dX11_votesFor_4 : decode cX11_votesFor 4 = .ok (.iload_n 3, 1) := by decide +kernel
theorem dX11_votesFor_5 : decode cX11_votesFor 5 = .ok (.aload_n 0, 1) := by decide +kernel
theorem dX11_votesFor_6 : decode cX11_votesFor 6 = .ok (.getfield 35, 3) := by decide +kernel
theorem dX11_votesFor_9 : decode cX11_votesFor 9 = .ok (.iconst 0, 1) := by decide +kernel
theorem dX11_votesFor_10 : decode cX11_votesFor 10 = .ok (.iaload, 1) := by decide +kernel
theorem dX11_votesFor_11 : decode cX11_votesFor 11 = .ok (.if_icmp .ge 54, 3) := by decide +kernel
theorem dX11_votesFor_14 : decode cX11_votesFor 14 = .ok (.iload_n 2, 1) := by decide +kernel
theorem dX11_votesFor_15 : decode cX11_votesFor 15 = .ok (.aload_n 0, 1) := by decide +kernel
theorem dX11_votesFor_16 : decode cX11_votesFor 16 = .ok (.iload_n 3, 1) := by decide +kernel
theorem dX11_votesFor_17 : decode cX11_votesFor 17 = .ok (.invokevirtual 361, 3) := by decide +kernel
theorem dX11_votesFor_20 : decode cX11_votesFor 20 = .ok (.ifCond .eq 36, 3) := by decide +kernel
theorem dX11_votesFor_23 : decode cX11_votesFor 23 = .ok (.aload_n 0, 1) := by decide +kernel
theorem dX11_votesFor_24 : decode cX11_votesFor 24 = .ok (.getfield 35, 3) := by decide +kernel
theorem dX11_votesFor_27 : decode cX11_votesFor 27 = .ok (.bipush 42, 2) := by decide +kernel
theorem dX11_votesFor_29 : decode cX11_votesFor 29 = .ok (.iload_n 3, 1) := by decide +kernel
theorem dX11_votesFor_30 : decode cX11_votesFor 30 = .ok (.iadd, 1) := by decide +kernel
theorem dX11_votesFor_31 : decode cX11_votesFor 31 = .ok (.iaload, 1) := by decide +kernel
theorem dX11_votesFor_32 : decode cX11_votesFor 32 = .ok (.ifCond .le 7, 3) := by decide +kernel
theorem dX11_votesFor_35 : decode cX11_votesFor 35 = .ok (.iconst 1, 1) := by decide +kernel
theorem dX11_votesFor_36 : decode cX11_votesFor 36 = .ok (.goto 4, 3) := by decide +kernel
theorem dX11_votesFor_39 : decode cX11_votesFor 39 = .ok (.iconst 0, 1) := by decide +kernel
theorem dX11_votesFor_40 : decode cX11_votesFor 40 = .ok (.iload_n 1, 1) := by decide +kernel
theorem dX11_votesFor_41 : decode cX11_votesFor 41 = .ok (.ifCond .le 7, 3) := by decide +kernel
theorem dX11_votesFor_44 : decode cX11_votesFor 44 = .ok (.iconst 1, 1) := by decide +kernel
theorem dX11_votesFor_45 : decode cX11_votesFor 45 = .ok (.goto 4, 3) := by decide +kernel
theorem dX11_votesFor_48 : decode cX11_votesFor 48 = .ok (.iconst 0, 1) := by decide +kernel
theorem dX11_votesFor_49 : decode cX11_votesFor 49 = .ok (.if_icmp .ne 7, 3) := by decide +kernel
theorem dX11_votesFor_52 : decode cX11_votesFor 52 = .ok (.iconst 1, 1) := by decide +kernel
theorem dX11_votesFor_53 : decode cX11_votesFor 53 = .ok (.goto 4, 3) := by decide +kernel
theorem dX11_votesFor_56 : decode cX11_votesFor 56 = .ok (.iconst 0, 1) := by decide +kernel
theorem dX11_votesFor_57 : decode cX11_votesFor 57 = .ok (.iadd, 1) := by decide +kernel
theorem dX11_votesFor_58 : decode cX11_votesFor 58 = .ok (.istore_n 2, 1) := by decide +kernel
theorem dX11_votesFor_59 : decode cX11_votesFor 59 = .ok (.iinc 3 1, 3) := by decide +kernel
theorem dX11_votesFor_62 : decode cX11_votesFor 62 = .ok (.goto (-58), 3) := by decide +kernel
theorem dX11_votesFor_65 : decode cX11_votesFor 65 = .ok (.iload_n 2, 1) := by decide +kernel
theorem dX11_votesFor_66 : decode cX11_votesFor 66 = .ok (.ireturn, 1) := by decide +kernel
theorem dX11_talks_0 : decode cX11_talks 0 = .ok (.aload_n 0, 1) := by decide +kernel
theorem dX11_talks_1 : decode cX11_talks 1 = .ok (.getfield 35, 3) := by decide +kernel
theorem dX11_talks_4 : decode cX11_talks 4 = .ok (.bipush 7, 2) := by decide +kernel
theorem dX11_talks_6 : decode cX11_talks 6 = .ok (.dup2, 1) := by decide +kernel
theorem dX11_talks_7 : decode cX11_talks 7 = .ok (.iaload, 1) := by decide +kernel
theorem dX11_talks_8 : decode cX11_talks 8 = .ok (.iconst 1, 1) := by decide +kernel
theorem dX11_talks_9 : decode cX11_talks 9 = .ok (.iadd, 1) := by decide +kernel
theorem dX11_talks_10 : decode cX11_talks 10 = .ok (.iastore, 1) := by decide +kernel
theorem dX11_talks_11 : decode cX11_talks 11 = .ok (.iconst 0, 1) := by decide +kernel
theorem dX11_talks_12 : decode cX11_talks 12 = .ok (.istore_n 2, 1) := by decide +kernel
theorem dX11_talks_13 : decode cX11_talks 13 = .ok (.iload_n 2, 1) := by decide +kernel
theorem dX11_talks_14 : decode cX11_talks 14 = .ok (.aload_n 0, 1) := by decide +kernel
theorem dX11_talks_15 : decode cX11_talks 15 = .ok (.getfield 35, 3) := by decide +kernel
theorem dX11_talks_18 : decode cX11_talks 18 = .ok (.iconst 0, 1) := by decide +kernel
theorem dX11_talks_19 : decode cX11_talks 19 = .ok (.iaload, 1) := by decide +kernel
theorem dX11_talks_20 : decode cX11_talks 20 = .ok (.if_icmp .ge 31, 3) := by decide +kernel
theorem dX11_talks_23 : decode cX11_talks 23 = .ok (.aload_n 0, 1) := by decide +kernel
theorem dX11_talks_24 : decode cX11_talks 24 = .ok (.iload_n 2, 1) := by decide +kernel
theorem dX11_talks_25 : decode cX11_talks 25 = .ok (.invokevirtual 361, 3) := by decide +kernel
theorem dX11_talks_28 : decode cX11_talks 28 = .ok (.ifCond .eq 17, 3) := by decide +kernel
theorem dX11_talks_31 : decode cX11_talks 31 = .ok (.aload_n 0, 1) := by decide +kernel
theorem dX11_talks_32 : decode cX11_talks 32 = .ok (.getfield 35, 3) := by decide +kernel
theorem dX11_talks_35 : decode cX11_talks 35 = .ok (.bipush 42, 2) := by decide +kernel
theorem dX11_talks_37 : decode cX11_talks 37 = .ok (.iload_n 2, 1) := by decide +kernel
theorem dX11_talks_38 : decode cX11_talks 38 = .ok (.iadd, 1) := by decide +kernel
theorem dX11_talks_39 : decode cX11_talks 39 = .ok (.aload_n 0, 1) := by decide +kernel
theorem dX11_talks_40 : decode cX11_talks 40 = .ok (.iload_n 2, 1) := by decide +kernel
theorem dX11_talks_41 : decode cX11_talks 41 = .ok (.invokevirtual 371, 3) := by decide +kernel
theorem dX11_talks_44 : decode cX11_talks 44 = .ok (.iastore, 1) := by decide +kernel
theorem dX11_talks_45 : decode cX11_talks 45 = .ok (.iinc 2 1, 3) := by decide +kernel
theorem dX11_talks_48 : decode cX11_talks 48 = .ok (.goto (-35), 3) := by decide +kernel
theorem dX11_talks_51 : decode cX11_talks 51 = .ok (.iload_n 1, 1) := by decide +kernel
theorem dX11_talks_52 : decode cX11_talks 52 = .ok (.ifCond .eq 28, 3) := by decide +kernel
theorem dX11_talks_55 : decode cX11_talks 55 = .ok (.aload_n 0, 1) := by decide +kernel
theorem dX11_talks_56 : decode cX11_talks 56 = .ok (.getfield 35, 3) := by decide +kernel
theorem dX11_talks_59 : decode cX11_talks 59 = .ok (.iconst 4, 1) := by decide +kernel
theorem dX11_talks_60 : decode cX11_talks 60 = .ok (.iaload, 1) := by decide +kernel
theorem dX11_talks_61 : decode cX11_talks 61 = .ok (.ifCond .eq 19, 3) := by decide +kernel
theorem dX11_talks_64 : decode cX11_talks 64 = .ok (.aload_n 0, 1) := by decide +kernel
theorem dX11_talks_65 : decode cX11_talks 65 = .ok (.getfield 35, 3) := by decide +kernel
theorem dX11_talks_68 : decode cX11_talks 68 = .ok (.bipush 7, 2) := by decide +kernel
theorem dX11_talks_70 : decode cX11_talks 70 = .ok (.iaload, 1) := by decide +kernel
theorem dX11_talks_71 : decode cX11_talks 71 = .ok (.aload_n 0, 1) := by decide +kernel
theorem dX11_talks_72 : decode cX11_talks 72 = .ok (.getfield 35, 3) := by decide +kernel
theorem dX11_talks_75 : decode cX11_talks 75 = .ok (.iconst 4, 1) := by decide +kernel
theorem dX11_talks_76 : decode cX11_talks 76 = .ok (.iaload, 1) := by decide +kernel
theorem dX11_talks_77 : decode cX11_talks 77 = .ok (.if_icmp .ge 4, 3) := by decide +kernel
theorem dX11_talks_80 : decode cX11_talks 80 = .ok (.return_, 1) := by decide +kernel
theorem dX11_talks_81 : decode cX11_talks 81 = .ok (.aload_n 0, 1) := by decide +kernel
theorem dX11_talks_82 : decode cX11_talks 82 = .ok (.iconst 1, 1) := by decide +kernel
theorem dX11_talks_83 : decode cX11_talks 83 = .ok (.invokevirtual 374, 3) := by decide +kernel
theorem dX11_talks_86 : decode cX11_talks 86 = .ok (.aload_n 0, 1) := by decide +kernel
theorem dX11_talks_87 : decode cX11_talks 87 = .ok (.iconst (-1), 1) := by decide +kernel
theorem dX11_talks_88 : decode cX11_talks 88 = .ok (.invokevirtual 374, 3) := by decide +kernel
theorem dX11_talks_91 : decode cX11_talks 91 = .ok (.isub, 1) := by decide +kernel
theorem dX11_talks_92 : decode cX11_talks 92 = .ok (.istore_n 2, 1) := by decide +kernel
theorem dX11_talks_93 : decode cX11_talks 93 = .ok (.iload_n 2, 1) := by decide +kernel
theorem dX11_talks_94 : decode cX11_talks 94 = .ok (.ifCond .le 7, 3) := by decide +kernel
theorem dX11_talks_97 : decode cX11_talks 97 = .ok (.iconst 1, 1) := by decide +kernel
theorem dX11_talks_98 : decode cX11_talks 98 = .ok (.goto 12, 3) := by decide +kernel
theorem dX11_talks_101 : decode cX11_talks 101 = .ok (.iload_n 2, 1) := by decide +kernel
theorem dX11_talks_102 : decode cX11_talks 102 = .ok (.ifCond .ge 7, 3) := by decide +kernel
theorem dX11_talks_105 : decode cX11_talks 105 = .ok (.iconst (-1), 1) := by decide +kernel
theorem dX11_talks_106 : decode cX11_talks 106 = .ok (.goto 4, 3) := by decide +kernel
theorem dX11_talks_109 : decode cX11_talks 109 = .ok (.iconst 0, 1) := by decide +kernel
theorem dX11_talks_110 : decode cX11_talks 110 = .ok (.istore_n 3, 1) := by decide +kernel
theorem dX11_talks_111 : decode cX11_talks 111 = .ok (.iconst 0, 1) := by decide +kernel
theorem dX11_talks_112 : decode cX11_talks 112 = .ok (.istore 4, 2) := by decide +kernel
theorem dX11_talks_114 : decode cX11_talks 114 = .ok (.iload 4, 2) := by decide +kernel
theorem dX11_talks_116 : decode cX11_talks 116 = .ok (.aload_n 0, 1) := by decide +kernel
theorem dX11_talks_117 : decode cX11_talks 117 = .ok (.getfield 35, 3) := by decide +kernel
theorem dX11_talks_120 : decode cX11_talks 120 = .ok (.iconst 0, 1) := by decide +kernel
theorem dX11_talks_121 : decode cX11_talks 121 = .ok (.iaload, 1) := by decide +kernel
theorem dX11_talks_122 : decode cX11_talks 122 = .ok (.if_icmp .ge 43, 3) := by decide +kernel
theorem dX11_talks_125 : decode cX11_talks 125 = .ok (.aload_n 0, 1) := by decide +kernel
theorem dX11_talks_126 : decode cX11_talks 126 = .ok (.iload 4, 2) := by decide +kernel
theorem dX11_talks_128 : decode cX11_talks 128 = .ok (.invokevirtual 361, 3) := by decide +kernel
theorem dX11_talks_131 : decode cX11_talks 131 = .ok (.ifCond .eq 28, 3) := by decide +kernel
theorem dX11_talks_134 : decode cX11_talks 134 = .ok (.aload_n 0, 1) := by decide +kernel
theorem dX11_talks_135 : decode cX11_talks 135 = .ok (.getfield 35, 3) := by decide +kernel
theorem dX11_talks_138 : decode cX11_talks 138 = .ok (.bipush 42, 2) := by decide +kernel
theorem dX11_talks_140 : decode cX11_talks 140 = .ok (.iload 4, 2) := by decide +kernel
theorem dX11_talks_142 : decode cX11_talks 142 = .ok (.iadd, 1) := by decide +kernel
theorem dX11_talks_143 : decode cX11_talks 143 = .ok (.aload_n 0, 1) := by decide +kernel
theorem dX11_talks_144 : decode cX11_talks 144 = .ok (.getfield 35, 3) := by decide +kernel
theorem dX11_talks_147 : decode cX11_talks 147 = .ok (.bipush 42, 2) := by decide +kernel
theorem dX11_talks_149 : decode cX11_talks 149 = .ok (.iload 4, 2) := by decide +kernel
theorem dX11_talks_151 : decode cX11_talks 151 = .ok (.iadd, 1) := by decide +kernel
theorem dX11_talks_152 : decode cX11_talks 152 = .ok (.iaload, 1) := by decide +kernel
theorem dX11_talks_153 : decode cX11_talks 153 = .ok (.iload_n 3, 1) := by decide +kernel
theorem dX11_talks_154 : decode cX11_talks 154 = .ok (.iadd, 1) := by decide +kernel
theorem dX11_talks_155 : decode cX11_talks 155 = .ok (.invokestatic 366, 3) := by decide +kernel
theorem dX11_talks_158 : decode cX11_talks 158 = .ok (.iastore, 1) := by decide +kernel
theorem dX11_talks_159 : decode cX11_talks 159 = .ok (.iinc 4 1, 3) := by decide +kernel
theorem dX11_talks_162 : decode cX11_talks 162 = .ok (.goto (-48), 3) := by decide +kernel
theorem dX11_talks_165 : decode cX11_talks 165 = .ok (.return_, 1) := by decide +kernel
theorem dX11_talksFor_0 : decode cX11_talksFor 0 = .ok (.iconst 0, 1) := by decide +kernel
theorem dX11_talksFor_1 : decode cX11_talksFor 1 = .ok (.istore_n 2, 1) := by decide +kernel
theorem dX11_talksFor_2 : decode cX11_talksFor 2 = .ok (.iload_n 2, 1) := by decide +kernel
theorem dX11_talksFor_3 : decode cX11_talksFor 3 = .ok (.iload_n 1, 1) := by decide +kernel
theorem dX11_talksFor_4 : decode cX11_talksFor 4 = .ok (.if_icmp .ge 14, 3) := by decide +kernel
theorem dX11_talksFor_7 : decode cX11_talksFor 7 = .ok (.aload_n 0, 1) := by decide +kernel
theorem dX11_talksFor_8 : decode cX11_talksFor 8 = .ok (.iconst 1, 1) := by decide +kernel
theorem dX11_talksFor_9 : decode cX11_talksFor 9 = .ok (.invokevirtual 377, 3) := by decide +kernel
theorem dX11_talksFor_12 : decode cX11_talksFor 12 = .ok (.iinc 2 1, 3) := by decide +kernel
theorem dX11_talksFor_15 : decode cX11_talksFor 15 = .ok (.goto (-13), 3) := by decide +kernel
theorem dX11_talksFor_18 : decode cX11_talksFor 18 = .ok (.return_, 1) := by decide +kernel
theorem dX11_judge_0 : decode cX11_judge 0 = .ok (.iload_n 1, 1) := by decide +kernel
theorem dX11_judge_1 : decode cX11_judge 1 = .ok (.iload_n 2, 1) := by decide +kernel
theorem dX11_judge_2 : decode cX11_judge 2 = .ok (.iadd, 1) := by decide +kernel
theorem dX11_judge_3 : decode cX11_judge 3 = .ok (.istore_n 3, 1) := by decide +kernel
theorem dX11_judge_4 : decode cX11_judge 4 = .ok (.iload_n 3, 1) := by decide +kernel
theorem dX11_judge_5 : decode cX11_judge 5 = .ok (.ifCond .ne 5, 3) := by decide +kernel
theorem dX11_judge_8 : decode cX11_judge 8 = .ok (.iconst 0, 1) := by decide +kernel
theorem dX11_judge_9 : decode cX11_judge 9 = .ok (.ireturn, 1) := by decide +kernel
theorem dX11_judge_10 : decode cX11_judge 10 = .ok (.iload_n 0, 1) := by decide +kernel
theorem dX11_judge_11 : decode cX11_judge 11 = .ok (.ifCond .ne 16, 3) := by decide +kernel
theorem dX11_judge_14 : decode cX11_judge 14 = .ok (.iconst 2, 1) := by decide +kernel
theorem dX11_judge_15 : decode cX11_judge 15 = .ok (.iload_n 1, 1) := by decide +kernel
theorem dX11_judge_16 : decode cX11_judge 16 = .ok (.imul, 1) := by decide +kernel
theorem dX11_judge_17 : decode cX11_judge 17 = .ok (.iload_n 3, 1) := by decide +kernel
theorem dX11_judge_18 : decode cX11_judge 18 = .ok (.if_icmp .le 7, 3) := by decide +kernel
theorem dX11_judge_21 : decode cX11_judge 21 = .ok (.iconst 1, 1) := by decide +kernel
theorem dX11_judge_22 : decode cX11_judge 22 = .ok (.goto 4, 3) := by decide +kernel
theorem dX11_judge_25 : decode cX11_judge 25 = .ok (.iconst (-1), 1) := by decide +kernel
theorem dX11_judge_26 : decode cX11_judge 26 = .ok (.ireturn, 1) := by decide +kernel
theorem dX11_judge_27 : decode cX11_judge 27 = .ok (.iload_n 0, 1) := by decide +kernel
theorem dX11_judge_28 : decode cX11_judge 28 = .ok (.iconst 1, 1) := by decide +kernel
theorem dX11_judge_29 : decode cX11_judge 29 = .ok (.if_icmp .ne 23, 3) := by decide +kernel
theorem dX11_judge_32 : decode cX11_judge 32 = .ok (.iload_n 1, 1) := by decide +kernel
theorem dX11_judge_33 : decode cX11_judge 33 = .ok (.iload_n 3, 1) := by decide +kernel
theorem dX11_judge_34 : decode cX11_judge 34 = .ok (.if_icmp .ne 7, 3) := by decide +kernel
theorem dX11_judge_37 : decode cX11_judge 37 = .ok (.iconst 1, 1) := by decide +kernel
theorem dX11_judge_38 : decode cX11_judge 38 = .ok (.goto 13, 3) := by decide +kernel
theorem dX11_judge_41 : decode cX11_judge 41 = .ok (.iload_n 2, 1) := by decide +kernel
theorem dX11_judge_42 : decode cX11_judge 42 = .ok (.iload_n 3, 1) := by decide +kernel
theorem dX11_judge_43 : decode cX11_judge 43 = .ok (.if_icmp .ne 7, 3) := by decide +kernel
theorem dX11_judge_46 : decode cX11_judge 46 = .ok (.iconst (-1), 1) := by decide +kernel
theorem dX11_judge_47 : decode cX11_judge 47 = .ok (.goto 4, 3) := by decide +kernel
theorem dX11_judge_50 : decode cX11_judge 50 = .ok (.iconst 0, 1) := by decide +kernel
theorem dX11_judge_51 : decode cX11_judge 51 = .ok (.ireturn, 1) := by decide +kernel
theorem dX11_judge_52 : decode cX11_judge 52 = .ok (.iconst 3, 1) := by decide +kernel
theorem dX11_judge_53 : decode cX11_judge 53 = .ok (.iload_n 1, 1) := by decide +kernel
theorem dX11_judge_54 : decode cX11_judge 54 = .ok (.imul, 1) := by decide +kernel
theorem dX11_judge_55 : decode cX11_judge 55 = .ok (.iconst 2, 1) := by decide +kernel
theorem dX11_judge_56 : decode cX11_judge 56 = .ok (.iload_n 3, 1) := by decide +kernel
theorem dX11_judge_57 : decode cX11_judge 57 = .ok (.imul, 1) := by decide +kernel
theorem dX11_judge_58 : decode cX11_judge 58 = .ok (.if_icmp .lt 7, 3) := by decide +kernel
theorem dX11_judge_61 : decode cX11_judge 61 = .ok (.iconst 1, 1) := by decide +kernel
theorem dX11_judge_62 : decode cX11_judge 62 = .ok (.goto 17, 3) := by decide +kernel
theorem dX11_judge_65 : decode cX11_judge 65 = .ok (.iconst 3, 1) := by decide +kernel
theorem dX11_judge_66 : decode cX11_judge 66 = .ok (.iload_n 2, 1) := by decide +kernel
theorem dX11_judge_67 : decode cX11_judge 67 = .ok (.imul, 1) := by decide +kernel
theorem dX11_judge_68 : decode cX11_judge 68 = .ok (.iconst 2, 1) := by decide +kernel
theorem dX11_judge_69 : decode cX11_judge 69 = .ok (.iload_n 3, 1) := by decide +kernel
theorem dX11_judge_70 : decode cX11_judge 70 = .ok (.imul, 1) := by decide +kernel
theorem dX11_judge_71 : decode cX11_judge 71 = .ok (.if_icmp .lt 7, 3) := by decide +kernel
theorem dX11_judge_74 : decode cX11_judge 74 = .ok (.iconst (-1), 1) := by decide +kernel
theorem dX11_judge_75 : decode cX11_judge 75 = .ok (.goto 4, 3) := by decide +kernel
theorem dX11_judge_78 : decode cX11_judge 78 = .ok (.iconst 0, 1) := by decide +kernel
theorem dX11_judge_79 : decode cX11_judge 79 = .ok (.ireturn, 1) := by decide +kernel
theorem dX11_judged_0 : decode cX11_judged 0 = .ok (.aload_n 0, 1) := by decide +kernel
theorem dX11_judged_1 : decode cX11_judged 1 = .ok (.getfield 35, 3) := by decide +kernel
theorem dX11_judged_4 : decode cX11_judged 4 = .ok (.iconst 5, 1) := by decide +kernel
theorem dX11_judged_5 : decode cX11_judged 5 = .ok (.iaload, 1) := by decide +kernel
theorem dX11_judged_6 : decode cX11_judged 6 = .ok (.aload_n 0, 1) := by decide +kernel
theorem dX11_judged_7 : decode cX11_judged 7 = .ok (.iconst 1, 1) := by decide +kernel
theorem dX11_judged_8 : decode cX11_judged 8 = .ok (.invokevirtual 374, 3) := by decide +kernel
theorem dX11_judged_11 : decode cX11_judged 11 = .ok (.aload_n 0, 1) := by decide +kernel
theorem dX11_judged_12 : decode cX11_judged 12 = .ok (.iconst (-1), 1) := by decide +kernel
theorem dX11_judged_13 : decode cX11_judged 13 = .ok (.invokevirtual 374, 3) := by decide +kernel
theorem dX11_judged_16 : decode cX11_judged 16 = .ok (.invokestatic 380, 3) := by decide +kernel
theorem dX11_judged_19 : decode cX11_judged 19 = .ok (.ireturn, 1) := by decide +kernel
theorem dX11_talk_0 : decode cX11_talk 0 = .ok (.aload_n 0, 1) := by decide +kernel
theorem dX11_talk_1 : decode cX11_talk 1 = .ok (.iconst 0, 1) := by decide +kernel
theorem dX11_talk_2 : decode cX11_talk 2 = .ok (.putfield 71, 3) := by decide +kernel
theorem dX11_talk_5 : decode cX11_talk 5 = .ok (.aload_n 0, 1) := by decide +kernel
theorem dX11_talk_6 : decode cX11_talk 6 = .ok (.iconst 0, 1) := by decide +kernel
theorem dX11_talk_7 : decode cX11_talk 7 = .ok (.putfield 74, 3) := by decide +kernel
theorem dX11_talk_10 : decode cX11_talk 10 = .ok (.iload_n 1, 1) := by decide +kernel
theorem dX11_talk_11 : decode cX11_talk 11 = .ok (.i2l, 1) := by decide +kernel
theorem dX11_talk_12 : decode cX11_talk 12 = .ok (.lconst 1, 1) := by decide +kernel
theorem dX11_talk_13 : decode cX11_talk 13 = .ok (.ldc2_w 384, 3) := by decide +kernel
theorem dX11_talk_16 : decode cX11_talk 16 = .ok (.invokestatic 106, 3) := by decide +kernel
theorem dX11_talk_19 : decode cX11_talk 19 = .ok (.ifCond .ne 9, 3) := by decide +kernel
theorem dX11_talk_22 : decode cX11_talk 22 = .ok (.aload_n 0, 1) := by decide +kernel
theorem dX11_talk_23 : decode cX11_talk 23 = .ok (.iconst 5, 1) := by decide +kernel
theorem dX11_talk_24 : decode cX11_talk 24 = .ok (.invokevirtual 340, 3) := by decide +kernel
theorem dX11_talk_27 : decode cX11_talk 27 = .ok (.ireturn, 1) := by decide +kernel
theorem dX11_talk_28 : decode cX11_talk 28 = .ok (.aload_n 0, 1) := by decide +kernel
theorem dX11_talk_29 : decode cX11_talk 29 = .ok (.getfield 35, 3) := by decide +kernel
theorem dX11_talk_32 : decode cX11_talk 32 = .ok (.bipush 7, 2) := by decide +kernel
theorem dX11_talk_34 : decode cX11_talk 34 = .ok (.iaload, 1) := by decide +kernel
theorem dX11_talk_35 : decode cX11_talk 35 = .ok (.iload_n 1, 1) := by decide +kernel
theorem dX11_talk_36 : decode cX11_talk 36 = .ok (.iadd, 1) := by decide +kernel
theorem dX11_talk_37 : decode cX11_talk 37 = .ok (.sipush 9999, 3) := by decide +kernel
theorem dX11_talk_40 : decode cX11_talk 40 = .ok (.if_icmp .le 10, 3) := by decide +kernel
theorem dX11_talk_43 : decode cX11_talk 43 = .ok (.aload_n 0, 1) := by decide +kernel
theorem dX11_talk_44 : decode cX11_talk 44 = .ok (.bipush 7, 2) := by decide +kernel
theorem dX11_talk_46 : decode cX11_talk 46 = .ok (.invokevirtual 340, 3) := by decide +kernel
theorem dX11_talk_49 : decode cX11_talk 49 = .ok (.ireturn, 1) := by decide +kernel
theorem dX11_talk_50 : decode cX11_talk 50 = .ok (.aload_n 0, 1) := by decide +kernel
theorem dX11_talk_51 : decode cX11_talk 51 = .ok (.iload_n 1, 1) := by decide +kernel
theorem dX11_talk_52 : decode cX11_talk 52 = .ok (.invokevirtual 386, 3) := by decide +kernel
theorem dX11_talk_55 : decode cX11_talk 55 = .ok (.aload_n 0, 1) := by decide +kernel
theorem dX11_talk_56 : decode cX11_talk 56 = .ok (.invokevirtual 389, 3) := by decide +kernel
theorem dX11_talk_59 : decode cX11_talk 59 = .ok (.ireturn, 1) := by decide +kernel
theorem dX11_endsDay_0 : decode cX11_endsDay 0 = .ok (.aload_n 0, 1) := by decide +kernel
theorem dX11_endsDay_1 : decode cX11_endsDay 1 = .ok (.invokevirtual 389, 3) := by decide +kernel
theorem dX11_endsDay_4 : decode cX11_endsDay 4 = .ok (.istore_n 1, 1) := by decide +kernel
theorem dX11_endsDay_5 : decode cX11_endsDay 5 = .ok (.aload_n 0, 1) := by decide +kernel
theorem dX11_endsDay_6 : decode cX11_endsDay 6 = .ok (.getfield 35, 3) := by decide +kernel
theorem dX11_endsDay_9 : decode cX11_endsDay 9 = .ok (.bipush 8, 2) := by decide +kernel
theorem dX11_endsDay_11 : decode cX11_endsDay 11 = .ok (.iaload, 1) := by decide +kernel
theorem dX11_endsDay_12 : decode cX11_endsDay 12 = .ok (.ifCond .lt 65, 3) := by decide +kernel
theorem dX11_endsDay_15 : decode cX11_endsDay 15 = .ok (.iconst 0, 1) := by decide +kernel
theorem dX11_endsDay_16 : decode cX11_endsDay 16 = .ok (.istore_n 2, 1) := by decide +kernel
theorem dX11_endsDay_17 : decode cX11_endsDay 17 = .ok (.iload_n 2, 1) := by decide +kernel
theorem dX11_endsDay_18 : decode cX11_endsDay 18 = .ok (.aload_n 0, 1) := by decide +kernel
theorem dX11_endsDay_19 : decode cX11_endsDay 19 = .ok (.getfield 35, 3) := by decide +kernel
theorem dX11_endsDay_22 : decode cX11_endsDay 22 = .ok (.iconst 3, 1) := by decide +kernel
theorem dX11_endsDay_23 : decode cX11_endsDay 23 = .ok (.iaload, 1) := by decide +kernel
theorem dX11_endsDay_24 : decode cX11_endsDay 24 = .ok (.if_icmp .ge 34, 3) := by decide +kernel
theorem dX11_endsDay_27 : decode cX11_endsDay 27 = .ok (.aload_n 0, 1) := by decide +kernel
theorem dX11_endsDay_28 : decode cX11_endsDay 28 = .ok (.getfield 35, 3) := by decide +kernel
theorem dX11_endsDay_31 : decode cX11_endsDay 31 = .ok (.sipush 194, 3) := by decide +kernel
theorem dX11_endsDay_34 : decode cX11_endsDay 34 = .ok (.iload_n 2, 1) := by decide +kernel
theorem dX11_endsDay_35 : decode cX11_endsDay 35 = .ok (.iadd, 1) := by decide +kernel
theorem dX11_endsDay_36 : decode cX11_endsDay 36 = .ok (.dup2, 1) := by decide +kernel
theorem dX11_endsDay_37 : decode cX11_endsDay 37 = .ok (.iaload, 1) := by decide +kernel
theorem dX11_endsDay_38 : decode cX11_endsDay 38 = .ok (.aload_n 0, 1) := by decide +kernel
theorem dX11_endsDay_39 : decode cX11_endsDay 39 = .ok (.iload_n 2, 1) := by decide +kernel
theorem dX11_endsDay_40 : decode cX11_endsDay 40 = .ok (.aload_n 0, 1) := by decide +kernel
theorem dX11_endsDay_41 : decode cX11_endsDay 41 = .ok (.getfield 35, 3) := by decide +kernel
theorem dX11_endsDay_44 : decode cX11_endsDay 44 = .ok (.bipush 8, 2) := by decide +kernel
theorem dX11_endsDay_46 : decode cX11_endsDay 46 = .ok (.iaload, 1) := by decide +kernel
theorem dX11_endsDay_47 : decode cX11_endsDay 47 = .ok (.invokevirtual 355, 3) := by decide +kernel
theorem dX11_endsDay_50 : decode cX11_endsDay 50 = .ok (.iadd, 1) := by decide +kernel
theorem dX11_endsDay_51 : decode cX11_endsDay 51 = .ok (.iastore, 1) := by decide +kernel
theorem dX11_endsDay_52 : decode cX11_endsDay 52 = .ok (.iinc 2 1, 3) := by decide +kernel
theorem dX11_endsDay_55 : decode cX11_endsDay 55 = .ok (.goto (-38), 3) := by decide +kernel
theorem dX11_endsDay_58 : decode cX11_endsDay 58 = .ok (.aload_n 0, 1) := by decide +kernel
theorem dX11_endsDay_59 : decode cX11_endsDay 59 = .ok (.getfield 35, 3) := by decide +kernel
theorem dX11_endsDay_62 : decode cX11_endsDay 62 = .ok (.bipush 8, 2) := by decide +kernel
theorem dX11_endsDay_64 : decode cX11_endsDay 64 = .ok (.aload_n 0, 1) := by decide +kernel
theorem dX11_endsDay_65 : decode cX11_endsDay 65 = .ok (.aload_n 0, 1) := by decide +kernel
theorem dX11_endsDay_66 : decode cX11_endsDay 66 = .ok (.getfield 35, 3) := by decide +kernel
theorem dX11_endsDay_69 : decode cX11_endsDay 69 = .ok (.bipush 8, 2) := by decide +kernel
theorem dX11_endsDay_71 : decode cX11_endsDay 71 = .ok (.iaload, 1) := by decide +kernel
theorem dX11_endsDay_72 : decode cX11_endsDay 72 = .ok (.iload_n 1, 1) := by decide +kernel
theorem dX11_endsDay_73 : decode cX11_endsDay 73 = .ok (.invokevirtual 349, 3) := by decide +kernel
theorem dX11_endsDay_76 : decode cX11_endsDay 76 = .ok (.iastore, 1) := by decide +kernel
theorem dX11_endsDay_77 : decode cX11_endsDay 77 = .ok (.aload_n 0, 1) := by decide +kernel
theorem dX11_endsDay_78 : decode cX11_endsDay 78 = .ok (.getfield 35, 3) := by decide +kernel
theorem dX11_endsDay_81 : decode cX11_endsDay 81 = .ok (.bipush 6, 2) := by decide +kernel
theorem dX11_endsDay_83 : decode cX11_endsDay 83 = .ok (.dup2, 1) := by decide +kernel
theorem dX11_endsDay_84 : decode cX11_endsDay 84 = .ok (.iaload, 1) := by decide +kernel
theorem dX11_endsDay_85 : decode cX11_endsDay 85 = .ok (.iconst 1, 1) := by decide +kernel
theorem dX11_endsDay_86 : decode cX11_endsDay 86 = .ok (.iadd, 1) := by decide +kernel
theorem dX11_endsDay_87 : decode cX11_endsDay 87 = .ok (.iastore, 1) := by decide +kernel
theorem dX11_endsDay_88 : decode cX11_endsDay 88 = .ok (.aload_n 0, 1) := by decide +kernel
theorem dX11_endsDay_89 : decode cX11_endsDay 89 = .ok (.getfield 35, 3) := by decide +kernel
theorem dX11_endsDay_92 : decode cX11_endsDay 92 = .ok (.bipush 7, 2) := by decide +kernel
theorem dX11_endsDay_94 : decode cX11_endsDay 94 = .ok (.iconst 0, 1) := by decide +kernel
theorem dX11_endsDay_95 : decode cX11_endsDay 95 = .ok (.iastore, 1) := by decide +kernel
theorem dX11_endsDay_96 : decode cX11_endsDay 96 = .ok (.aload_n 0, 1) := by decide +kernel
theorem dX11_endsDay_97 : decode cX11_endsDay 97 = .ok (.getfield 35, 3) := by decide +kernel
theorem dX11_endsDay_100 : decode cX11_endsDay 100 = .ok (.bipush 11, 2) := by decide +kernel
theorem dX11_endsDay_102 : decode cX11_endsDay 102 = .ok (.iconst 0, 1) := by decide +kernel
theorem dX11_endsDay_103 : decode cX11_endsDay 103 = .ok (.iastore, 1) := by decide +kernel
theorem dX11_endsDay_104 : decode cX11_endsDay 104 = .ok (.aload_n 0, 1) := by decide +kernel
theorem dX11_endsDay_105 : decode cX11_endsDay 105 = .ok (.getfield 35, 3) := by decide +kernel
theorem dX11_endsDay_108 : decode cX11_endsDay 108 = .ok (.bipush 10, 2) := by decide +kernel
theorem dX11_endsDay_110 : decode cX11_endsDay 110 = .ok (.iconst 1, 1) := by decide +kernel
theorem dX11_endsDay_111 : decode cX11_endsDay 111 = .ok (.aload_n 0, 1) := by decide +kernel
theorem dX11_endsDay_112 : decode cX11_endsDay 112 = .ok (.getfield 35, 3) := by decide +kernel
theorem dX11_endsDay_115 : decode cX11_endsDay 115 = .ok (.iconst 0, 1) := by decide +kernel
theorem dX11_endsDay_116 : decode cX11_endsDay 116 = .ok (.iaload, 1) := by decide +kernel
theorem dX11_endsDay_117 : decode cX11_endsDay 117 = .ok (.ishl, 1) := by decide +kernel
theorem dX11_endsDay_118 : decode cX11_endsDay 118 = .ok (.iconst 1, 1) := by decide +kernel
theorem dX11_endsDay_119 : decode cX11_endsDay 119 = .ok (.isub, 1) := by decide +kernel
theorem dX11_endsDay_120 : decode cX11_endsDay 120 = .ok (.iastore, 1) := by decide +kernel
theorem dX11_endsDay_121 : decode cX11_endsDay 121 = .ok (.iconst 0, 1) := by decide +kernel
theorem dX11_endsDay_122 : decode cX11_endsDay 122 = .ok (.istore_n 2, 1) := by decide +kernel
theorem dX11_endsDay_123 : decode cX11_endsDay 123 = .ok (.iload_n 2, 1) := by decide +kernel
theorem dX11_endsDay_124 : decode cX11_endsDay 124 = .ok (.aload_n 0, 1) := by decide +kernel
theorem dX11_endsDay_125 : decode cX11_endsDay 125 = .ok (.getfield 35, 3) := by decide +kernel
theorem dX11_endsDay_128 : decode cX11_endsDay 128 = .ok (.iconst 0, 1) := by decide +kernel
theorem dX11_endsDay_129 : decode cX11_endsDay 129 = .ok (.iaload, 1) := by decide +kernel
theorem dX11_endsDay_130 : decode cX11_endsDay 130 = .ok (.if_icmp .ge 27, 3) := by decide +kernel
theorem dX11_endsDay_133 : decode cX11_endsDay 133 = .ok (.aload_n 0, 1) := by decide +kernel
theorem dX11_endsDay_134 : decode cX11_endsDay 134 = .ok (.getfield 35, 3) := by decide +kernel
theorem dX11_endsDay_137 : decode cX11_endsDay 137 = .ok (.bipush 42, 2) := by decide +kernel
theorem dX11_endsDay_139 : decode cX11_endsDay 139 = .ok (.iload_n 2, 1) := by decide +kernel
theorem dX11_endsDay_140 : decode cX11_endsDay 140 = .ok (.iadd, 1) := by decide +kernel
theorem dX11_endsDay_141 : decode cX11_endsDay 141 = .ok (.aload_n 0, 1) := by decide +kernel
theorem dX11_endsDay_142 : decode cX11_endsDay 142 = .ok (.getfield 35, 3) := by decide +kernel
theorem dX11_endsDay_145 : decode cX11_endsDay 145 = .ok (.bipush 12, 2) := by decide +kernel
theorem dX11_endsDay_147 : decode cX11_endsDay 147 = .ok (.iload_n 2, 1) := by decide +kernel
theorem dX11_endsDay_148 : decode cX11_endsDay 148 = .ok (.iadd, 1) := by decide +kernel
theorem dX11_endsDay_149 : decode cX11_endsDay 149 = .ok (.iaload, 1) := by decide +kernel
theorem dX11_endsDay_150 : decode cX11_endsDay 150 = .ok (.iastore, 1) := by decide +kernel
theorem dX11_endsDay_151 : decode cX11_endsDay 151 = .ok (.iinc 2 1, 3) := by decide +kernel
theorem dX11_endsDay_154 : decode cX11_endsDay 154 = .ok (.goto (-31), 3) := by decide +kernel
theorem dX11_endsDay_157 : decode cX11_endsDay 157 = .ok (.iload_n 1, 1) := by decide +kernel
theorem dX11_endsDay_158 : decode cX11_endsDay 158 = .ok (.ireturn, 1) := by decide +kernel
theorem dX11_endDay_0 : decode cX11_endDay 0 = .ok (.aload_n 0, 1) := by decide +kernel
theorem dX11_endDay_1 : decode cX11_endDay 1 = .ok (.iconst 0, 1) := by decide +kernel
theorem dX11_endDay_2 : decode cX11_endDay 2 = .ok (.putfield 71, 3) := by decide +kernel
theorem dX11_endDay_5 : decode cX11_endDay 5 = .ok (.aload_n 0, 1) := by decide +kernel
theorem dX11_endDay_6 : decode cX11_endDay 6 = .ok (.iconst 0, 1) := by decide +kernel
theorem dX11_endDay_7 : decode cX11_endDay 7 = .ok (.putfield 74, 3) := by decide +kernel
theorem dX11_endDay_10 : decode cX11_endDay 10 = .ok (.aload_n 0, 1) := by decide +kernel
theorem dX11_endDay_11 : decode cX11_endDay 11 = .ok (.getfield 35, 3) := by decide +kernel
theorem dX11_endDay_14 : decode cX11_endDay 14 = .ok (.bipush 6, 2) := by decide +kernel
theorem dX11_endDay_16 : decode cX11_endDay 16 = .ok (.iaload, 1) := by decide +kernel
theorem dX11_endDay_17 : decode cX11_endDay 17 = .ok (.sipush 9999, 3) := by decide +kernel
theorem dX11_endDay_20 : decode cX11_endDay 20 = .ok (.if_icmp .ne 12, 3) := by decide +kernel
theorem dX11_endDay_23 : decode cX11_endDay 23 = .ok (.aload_n 0, 1) := by decide +kernel
theorem dX11_endDay_24 : decode cX11_endDay 24 = .ok (.bipush 7, 2) := by decide +kernel
theorem dX11_endDay_26 : decode cX11_endDay 26 = .ok (.invokevirtual 340, 3) := by decide +kernel
theorem dX11_endDay_29 : decode cX11_endDay 29 = .ok (.goto 7, 3) := by decide +kernel
theorem dX11_endDay_32 : decode cX11_endDay 32 = .ok (.aload_n 0, 1) := by decide +kernel
theorem dX11_endDay_33 : decode cX11_endDay 33 = .ok (.invokevirtual 392, 3) := by decide +kernel
theorem dX11_endDay_36 : decode cX11_endDay 36 = .ok (.ireturn, 1) := by decide +kernel
theorem dX11_strikesOne_0 : decode cX11_strikesOne 0 = .ok (.aload_n 0, 1) := by decide +kernel
theorem dX11_strikesOne_1 : decode cX11_strikesOne 1 = .ok (.iload_n 1, 1) := by decide +kernel
theorem dX11_strikesOne_2 : decode cX11_strikesOne 2 = .ok (.invokevirtual 361, 3) := by decide +kernel
theorem dX11_strikesOne_5 : decode cX11_strikesOne 5 = .ok (.ifCond .ne 5, 3) := by decide +kernel
theorem dX11_strikesOne_8 : decode cX11_strikesOne 8 = .ok (.iconst 0, 1) := by decide +kernel
theorem dX11_strikesOne_9 : decode cX11_strikesOne 9 = .ok (.ireturn, 1) := by decide +kernel
theorem dX11_strikesOne_10 : decode cX11_strikesOne 10 = .ok (.aload_n 0, 1) := by decide +kernel
theorem dX11_strikesOne_11 : decode cX11_strikesOne 11 = .ok (.getfield 35, 3) := by decide +kernel
theorem dX11_strikesOne_14 : decode cX11_strikesOne 14 = .ok (.bipush 10, 2) := by decide +kernel
theorem dX11_strikesOne_16 : decode cX11_strikesOne 16 = .ok (.dup2, 1) := by decide +kernel
theorem dX11_strikesOne_17 : decode cX11_strikesOne 17 = .ok (.iaload, 1) := by decide +kernel
theorem dX11_strikesOne_18 : decode cX11_strikesOne 18 = .ok (.iconst 1, 1) := by decide +kernel
theorem dX11_strikesOne_19 : decode cX11_strikesOne 19 = .ok (.iload_n 1, 1) := by decide +kernel
theorem dX11_strikesOne_20 : decode cX11_strikesOne 20 = .ok (.ishl, 1) := by decide +kernel
theorem dX11_strikesOne_21 : decode cX11_strikesOne 21 = .ok (.iconst (-1), 1) := by decide +kernel
theorem dX11_strikesOne_22 : decode cX11_strikesOne 22 = .ok (.ixor, 1) := by decide +kernel
theorem dX11_strikesOne_23 : decode cX11_strikesOne 23 = .ok (.iand, 1) := by decide +kernel
theorem dX11_strikesOne_24 : decode cX11_strikesOne 24 = .ok (.iastore, 1) := by decide +kernel
theorem dX11_strikesOne_25 : decode cX11_strikesOne 25 = .ok (.iconst 1, 1) := by decide +kernel
theorem dX11_strikesOne_26 : decode cX11_strikesOne 26 = .ok (.ireturn, 1) := by decide +kernel
theorem dX11_seatsOne_0 : decode cX11_seatsOne 0 = .ok (.aload_n 0, 1) := by decide +kernel
theorem dX11_seatsOne_1 : decode cX11_seatsOne 1 = .ok (.iload_n 1, 1) := by decide +kernel
theorem dX11_seatsOne_2 : decode cX11_seatsOne 2 = .ok (.invokevirtual 361, 3) := by decide +kernel
theorem dX11_seatsOne_5 : decode cX11_seatsOne 5 = .ok (.ifCond .eq 5, 3) := by decide +kernel
theorem dX11_seatsOne_8 : decode cX11_seatsOne 8 = .ok (.iconst 0, 1) := by decide +kernel
theorem dX11_seatsOne_9 : decode cX11_seatsOne 9 = .ok (.ireturn, 1) := by decide +kernel
theorem dX11_seatsOne_10 : decode cX11_seatsOne 10 = .ok (.aload_n 0, 1) := by decide +kernel
theorem dX11_seatsOne_11 : decode cX11_seatsOne 11 = .ok (.getfield 35, 3) := by decide +kernel
theorem dX11_seatsOne_14 : decode cX11_seatsOne 14 = .ok (.bipush 10, 2) := by decide +kernel
theorem dX11_seatsOne_16 : decode cX11_seatsOne 16 = .ok (.dup2, 1) := by decide +kernel
theorem dX11_seatsOne_17 : decode cX11_seatsOne 17 = .ok (.iaload, 1) := by decide +kernel
theorem dX11_seatsOne_18 : decode cX11_seatsOne 18 = .ok (.iconst 1, 1) := by decide +kernel
theorem dX11_seatsOne_19 : decode cX11_seatsOne 19 = .ok (.iload_n 1, 1) := by decide +kernel
theorem dX11_seatsOne_20 : decode cX11_seatsOne 20 = .ok (.ishl, 1) := by decide +kernel
theorem dX11_seatsOne_21 : decode cX11_seatsOne 21 = .ok (.ior, 1) := by decide +kernel
theorem dX11_seatsOne_22 : decode cX11_seatsOne 22 = .ok (.iastore, 1) := by decide +kernel
theorem dX11_seatsOne_23 : decode cX11_seatsOne 23 = .ok (.iconst 1, 1) := by decide +kernel
theorem dX11_seatsOne_24 : decode cX11_seatsOne 24 = .ok (.ireturn, 1) := by decide +kernel
theorem dX11_strike_0 : decode cX11_strike 0 = .ok (.aload_n 0, 1) := by decide +kernel
theorem dX11_strike_1 : decode cX11_strike 1 = .ok (.iconst 0, 1) := by decide +kernel
theorem dX11_strike_2 : decode cX11_strike 2 = .ok (.putfield 71, 3) := by decide +kernel
theorem dX11_strike_5 : decode cX11_strike 5 = .ok (.aload_n 0, 1) := by decide +kernel
theorem dX11_strike_6 : decode cX11_strike 6 = .ok (.iconst 0, 1) := by decide +kernel
theorem dX11_strike_7 : decode cX11_strike 7 = .ok (.putfield 74, 3) := by decide +kernel
theorem dX11_strike_10 : decode cX11_strike 10 = .ok (.aload_n 0, 1) := by decide +kernel
theorem dX11_strike_11 : decode cX11_strike 11 = .ok (.iload_n 1, 1) := by decide +kernel
theorem dX11_strike_12 : decode cX11_strike 12 = .ok (.invokevirtual 343, 3) := by decide +kernel
theorem dX11_strike_15 : decode cX11_strike 15 = .ok (.ifCond .ne 9, 3) := by decide +kernel
theorem dX11_strike_18 : decode cX11_strike 18 = .ok (.aload_n 0, 1) := by decide +kernel
theorem dX11_strike_19 : decode cX11_strike 19 = .ok (.iconst 2, 1) := by decide +kernel
theorem dX11_strike_20 : decode cX11_strike 20 = .ok (.invokevirtual 86, 3) := by decide +kernel
theorem dX11_strike_23 : decode cX11_strike 23 = .ok (.ireturn, 1) := by decide +kernel
theorem dX11_strike_24 : decode cX11_strike 24 = .ok (.aload_n 0, 1) := by decide +kernel
theorem dX11_strike_25 : decode cX11_strike 25 = .ok (.iload_n 1, 1) := by decide +kernel
theorem dX11_strike_26 : decode cX11_strike 26 = .ok (.invokevirtual 395, 3) := by decide +kernel
theorem dX11_strike_29 : decode cX11_strike 29 = .ok (.ifCond .ne 12, 3) := by decide +kernel
theorem dX11_strike_32 : decode cX11_strike 32 = .ok (.aload_n 0, 1) := by decide +kernel
theorem dX11_strike_33 : decode cX11_strike 33 = .ok (.bipush 9, 2) := by decide +kernel
theorem dX11_strike_35 : decode cX11_strike 35 = .ok (.invokevirtual 86, 3) := by decide +kernel
theorem dX11_strike_38 : decode cX11_strike 38 = .ok (.ifCond .eq 7, 3) := by decide +kernel
theorem dX11_strike_41 : decode cX11_strike 41 = .ok (.iconst 1, 1) := by decide +kernel
theorem dX11_strike_42 : decode cX11_strike 42 = .ok (.goto 4, 3) := by decide +kernel
theorem dX11_strike_45 : decode cX11_strike 45 = .ok (.iconst 0, 1) := by decide +kernel
theorem dX11_strike_46 : decode cX11_strike 46 = .ok (.ireturn, 1) := by decide +kernel
theorem dX11_seat_0 : decode cX11_seat 0 = .ok (.aload_n 0, 1) := by decide +kernel
theorem dX11_seat_1 : decode cX11_seat 1 = .ok (.iconst 0, 1) := by decide +kernel
theorem dX11_seat_2 : decode cX11_seat 2 = .ok (.putfield 71, 3) := by decide +kernel
theorem dX11_seat_5 : decode cX11_seat 5 = .ok (.aload_n 0, 1) := by decide +kernel
theorem dX11_seat_6 : decode cX11_seat 6 = .ok (.iconst 0, 1) := by decide +kernel
theorem dX11_seat_7 : decode cX11_seat 7 = .ok (.putfield 74, 3) := by decide +kernel
theorem dX11_seat_10 : decode cX11_seat 10 = .ok (.aload_n 0, 1) := by decide +kernel
theorem dX11_seat_11 : decode cX11_seat 11 = .ok (.iload_n 1, 1) := by decide +kernel
theorem dX11_seat_12 : decode cX11_seat 12 = .ok (.invokevirtual 343, 3) := by decide +kernel
theorem dX11_seat_15 : decode cX11_seat 15 = .ok (.ifCond .ne 9, 3) := by decide +kernel
theorem dX11_seat_18 : decode cX11_seat 18 = .ok (.aload_n 0, 1) := by decide +kernel
theorem dX11_seat_19 : decode cX11_seat 19 = .ok (.iconst 2, 1) := by decide +kernel
theorem dX11_seat_20 : decode cX11_seat 20 = .ok (.invokevirtual 86, 3) := by decide +kernel
theorem dX11_seat_23 : decode cX11_seat 23 = .ok (.ireturn, 1) := by decide +kernel
theorem dX11_seat_24 : decode cX11_seat 24 = .ok (.aload_n 0, 1) := by decide +kernel
theorem dX11_seat_25 : decode cX11_seat 25 = .ok (.iload_n 1, 1) := by decide +kernel
theorem dX11_seat_26 : decode cX11_seat 26 = .ok (.invokevirtual 398, 3) := by decide +kernel
theorem dX11_seat_29 : decode cX11_seat 29 = .ok (.ifCond .ne 12, 3) := by decide +kernel
theorem dX11_seat_32 : decode cX11_seat 32 = .ok (.aload_n 0, 1) := by decide +kernel
theorem dX11_seat_33 : decode cX11_seat 33 = .ok (.bipush 9, 2) := by decide +kernel
theorem dX11_seat_35 : decode cX11_seat 35 = .ok (.invokevirtual 86, 3) := by decide +kernel
theorem dX11_seat_38 : decode cX11_seat 38 = .ok (.ifCond .eq 7, 3) := by decide +kernel
theorem dX11_seat_41 : decode cX11_seat 41 = .ok (.iconst 1, 1) := by decide +kernel
theorem dX11_seat_42 : decode cX11_seat 42 = .ok (.goto 4, 3) := by decide +kernel
theorem dX11_seat_45 : decode cX11_seat 45 = .ok (.iconst 0, 1) := by decide +kernel
theorem dX11_seat_46 : decode cX11_seat 46 = .ok (.ireturn, 1) := by decide +kernel
theorem dX11_bribesOne_0 : decode cX11_bribesOne 0 = .ok (.aload_n 0, 1) := by decide +kernel
theorem dX11_bribesOne_1 : decode cX11_bribesOne 1 = .ok (.getfield 35, 3) := by decide +kernel
theorem dX11_bribesOne_4 : decode cX11_bribesOne 4 = .ok (.bipush 9, 2) := by decide +kernel
theorem dX11_bribesOne_6 : decode cX11_bribesOne 6 = .ok (.iaload, 1) := by decide +kernel
theorem dX11_bribesOne_7 : decode cX11_bribesOne 7 = .ok (.aload_n 0, 1) := by decide +kernel
theorem dX11_bribesOne_8 : decode cX11_bribesOne 8 = .ok (.getfield 35, 3) := by decide +kernel
theorem dX11_bribesOne_11 : decode cX11_bribesOne 11 = .ok (.bipush 32, 2) := by decide +kernel
theorem dX11_bribesOne_13 : decode cX11_bribesOne 13 = .ok (.iload_n 1, 1) := by decide +kernel
theorem dX11_bribesOne_14 : decode cX11_bribesOne 14 = .ok (.iadd, 1) := by decide +kernel
theorem dX11_bribesOne_15 : decode cX11_bribesOne 15 = .ok (.iaload, 1) := by decide +kernel
theorem dX11_bribesOne_16 : decode cX11_bribesOne 16 = .ok (.iadd, 1) := by decide +kernel
theorem dX11_bribesOne_17 : decode cX11_bribesOne 17 = .ok (.sipush 9999, 3) := by decide +kernel
theorem dX11_bribesOne_20 : decode cX11_bribesOne 20 = .ok (.if_icmp .le 6, 3) := by decide +kernel
theorem dX11_bribesOne_23 : decode cX11_bribesOne 23 = .ok (.bipush 7, 2) := by decide +kernel
theorem dX11_bribesOne_25 : decode cX11_bribesOne 25 = .ok (.ireturn, 1) := by decide +kernel
theorem dX11_bribesOne_26 : decode cX11_bribesOne 26 = .ok (.aload_n 0, 1) := by decide +kernel
theorem dX11_bribesOne_27 : decode cX11_bribesOne 27 = .ok (.iload_n 1, 1) := by decide +kernel
theorem dX11_bribesOne_28 : decode cX11_bribesOne 28 = .ok (.invokevirtual 361, 3) := by decide +kernel
theorem dX11_bribesOne_31 : decode cX11_bribesOne 31 = .ok (.ifCond .ne 6, 3) := by decide +kernel
theorem dX11_bribesOne_34 : decode cX11_bribesOne 34 = .ok (.bipush 9, 2) := by decide +kernel
theorem dX11_bribesOne_36 : decode cX11_bribesOne 36 = .ok (.ireturn, 1) := by decide +kernel
theorem dX11_bribesOne_37 : decode cX11_bribesOne 37 = .ok (.aload_n 0, 1) := by decide +kernel
theorem dX11_bribesOne_38 : decode cX11_bribesOne 38 = .ok (.getfield 35, 3) := by decide +kernel
theorem dX11_bribesOne_41 : decode cX11_bribesOne 41 = .ok (.bipush 9, 2) := by decide +kernel
theorem dX11_bribesOne_43 : decode cX11_bribesOne 43 = .ok (.dup2, 1) := by decide +kernel
theorem dX11_bribesOne_44 : decode cX11_bribesOne 44 = .ok (.iaload, 1) := by decide +kernel
theorem dX11_bribesOne_45 : decode cX11_bribesOne 45 = .ok (.aload_n 0, 1) := by decide +kernel
theorem dX11_bribesOne_46 : decode cX11_bribesOne 46 = .ok (.getfield 35, 3) := by decide +kernel
theorem dX11_bribesOne_49 : decode cX11_bribesOne 49 = .ok (.bipush 32, 2) := by decide +kernel
theorem dX11_bribesOne_51 : decode cX11_bribesOne 51 = .ok (.iload_n 1, 1) := by decide +kernel
theorem dX11_bribesOne_52 : decode cX11_bribesOne 52 = .ok (.iadd, 1) := by decide +kernel
theorem dX11_bribesOne_53 : decode cX11_bribesOne 53 = .ok (.iaload, 1) := by decide +kernel
theorem dX11_bribesOne_54 : decode cX11_bribesOne 54 = .ok (.iadd, 1) := by decide +kernel
theorem dX11_bribesOne_55 : decode cX11_bribesOne 55 = .ok (.iastore, 1) := by decide +kernel
theorem dX11_bribesOne_56 : decode cX11_bribesOne 56 = .ok (.aload_n 0, 1) := by decide +kernel
theorem dX11_bribesOne_57 : decode cX11_bribesOne 57 = .ok (.getfield 35, 3) := by decide +kernel
theorem dX11_bribesOne_60 : decode cX11_bribesOne 60 = .ok (.bipush 42, 2) := by decide +kernel
theorem dX11_bribesOne_62 : decode cX11_bribesOne 62 = .ok (.iload_n 1, 1) := by decide +kernel
theorem dX11_bribesOne_63 : decode cX11_bribesOne 63 = .ok (.iadd, 1) := by decide +kernel
theorem dX11_bribesOne_64 : decode cX11_bribesOne 64 = .ok (.iload_n 2, 1) := by decide +kernel
theorem dX11_bribesOne_65 : decode cX11_bribesOne 65 = .ok (.ifCond .le 8, 3) := by decide +kernel
theorem dX11_bribesOne_68 : decode cX11_bribesOne 68 = .ok (.bipush 99, 2) := by decide +kernel
theorem dX11_bribesOne_70 : decode cX11_bribesOne 70 = .ok (.goto 5, 3) := by decide +kernel
theorem dX11_bribesOne_73 : decode cX11_bribesOne 73 = .ok (.bipush (-99), 2) := by decide +kernel
theorem dX11_bribesOne_75 : decode cX11_bribesOne 75 = .ok (.iastore, 1) := by decide +kernel
theorem dX11_bribesOne_76 : decode cX11_bribesOne 76 = .ok (.iconst 0, 1) := by decide +kernel
theorem dX11_bribesOne_77 : decode cX11_bribesOne 77 = .ok (.ireturn, 1) := by decide +kernel
theorem dX11_bribe_0 : decode cX11_bribe 0 = .ok (.aload_n 0, 1) := by decide +kernel
theorem dX11_bribe_1 : decode cX11_bribe 1 = .ok (.iconst 0, 1) := by decide +kernel
theorem dX11_bribe_2 : decode cX11_bribe 2 = .ok (.putfield 71, 3) := by decide +kernel
theorem dX11_bribe_5 : decode cX11_bribe 5 = .ok (.aload_n 0, 1) := by decide +kernel
theorem dX11_bribe_6 : decode cX11_bribe 6 = .ok (.iconst 0, 1) := by decide +kernel
theorem dX11_bribe_7 : decode cX11_bribe 7 = .ok (.putfield 74, 3) := by decide +kernel
theorem dX11_bribe_10 : decode cX11_bribe 10 = .ok (.aload_n 0, 1) := by decide +kernel
theorem dX11_bribe_11 : decode cX11_bribe 11 = .ok (.iload_n 1, 1) := by decide +kernel
theorem dX11_bribe_12 : decode cX11_bribe 12 = .ok (.invokevirtual 343, 3) := by decide +kernel
theorem dX11_bribe_15 : decode cX11_bribe 15 = .ok (.ifCond .ne 9, 3) := by decide +kernel
theorem dX11_bribe_18 : decode cX11_bribe 18 = .ok (.aload_n 0, 1) := by decide +kernel
theorem dX11_bribe_19 : decode cX11_bribe 19 = .ok (.iconst 2, 1) := by decide +kernel
theorem dX11_bribe_20 : decode cX11_bribe 20 = .ok (.invokevirtual 340, 3) := by decide +kernel
theorem dX11_bribe_23 : decode cX11_bribe 23 = .ok (.ireturn, 1) := by decide +kernel
theorem dX11_bribe_24 : decode cX11_bribe 24 = .ok (.iload_n 2, 1) := by decide +kernel
theorem dX11_bribe_25 : decode cX11_bribe 25 = .ok (.iconst 1, 1) := by decide +kernel
theorem dX11_bribe_26 : decode cX11_bribe 26 = .ok (.if_icmp .eq 14, 3) := by decide +kernel
theorem dX11_bribe_29 : decode cX11_bribe 29 = .ok (.iload_n 2, 1) := by decide +kernel
theorem dX11_bribe_30 : decode cX11_bribe 30 = .ok (.iconst (-1), 1) := by decide +kernel
theorem dX11_bribe_31 : decode cX11_bribe 31 = .ok (.if_icmp .eq 9, 3) := by decide +kernel
theorem dX11_bribe_34 : decode cX11_bribe 34 = .ok (.aload_n 0, 1) := by decide +kernel
theorem dX11_bribe_35 : decode cX11_bribe 35 = .ok (.iconst 5, 1) := by decide +kernel
theorem dX11_bribe_36 : decode cX11_bribe 36 = .ok (.invokevirtual 340, 3) := by decide +kernel
theorem dX11_bribe_39 : decode cX11_bribe 39 = .ok (.ireturn, 1) := by decide +kernel
theorem dX11_bribe_40 : decode cX11_bribe 40 = .ok (.aload_n 0, 1) := by decide +kernel
theorem dX11_bribe_41 : decode cX11_bribe 41 = .ok (.iload_n 1, 1) := by decide +kernel
theorem dX11_bribe_42 : decode cX11_bribe 42 = .ok (.iload_n 2, 1) := by decide +kernel
theorem dX11_bribe_43 : decode cX11_bribe 43 = .ok (.invokevirtual 401, 3) := by decide +kernel
theorem dX11_bribe_46 : decode cX11_bribe 46 = .ok (.istore_n 3, 1) := by decide +kernel
theorem dX11_bribe_47 : decode cX11_bribe 47 = .ok (.iload_n 3, 1) := by decide +kernel
theorem dX11_bribe_48 : decode cX11_bribe 48 = .ok (.ifCond .le 11, 3) := by decide +kernel
theorem dX11_bribe_51 : decode cX11_bribe 51 = .ok (.aload_n 0, 1) := by decide +kernel
theorem dX11_bribe_52 : decode cX11_bribe 52 = .ok (.iload_n 3, 1) := by decide +kernel
theorem dX11_bribe_53 : decode cX11_bribe 53 = .ok (.invokevirtual 340, 3) := by decide +kernel
theorem dX11_bribe_56 : decode cX11_bribe 56 = .ok (.goto 10, 3) := by decide +kernel
theorem dX11_bribe_59 : decode cX11_bribe 59 = .ok (.aload_n 0, 1) := by decide +kernel
theorem dX11_bribe_60 : decode cX11_bribe 60 = .ok (.getfield 35, 3) := by decide +kernel
theorem dX11_bribe_63 : decode cX11_bribe 63 = .ok (.bipush 9, 2) := by decide +kernel
theorem dX11_bribe_65 : decode cX11_bribe 65 = .ok (.iaload, 1) := by decide +kernel
theorem dX11_bribe_66 : decode cX11_bribe 66 = .ok (.ireturn, 1) := by decide +kernel
theorem dX11_lean_0 : decode cX11_lean 0 = .ok (.aload_n 0, 1) := by decide +kernel
theorem dX11_lean_1 : decode cX11_lean 1 = .ok (.iconst 0, 1) := by decide +kernel
theorem dX11_lean_2 : decode cX11_lean 2 = .ok (.putfield 71, 3) := by decide +kernel
theorem dX11_lean_5 : decode cX11_lean 5 = .ok (.aload_n 0, 1) := by decide +kernel
theorem dX11_lean_6 : decode cX11_lean 6 = .ok (.iconst 0, 1) := by decide +kernel
theorem dX11_lean_7 : decode cX11_lean 7 = .ok (.putfield 74, 3) := by decide +kernel
theorem dX11_lean_10 : decode cX11_lean 10 = .ok (.aload_n 0, 1) := by decide +kernel
theorem dX11_lean_11 : decode cX11_lean 11 = .ok (.iload_n 1, 1) := by decide +kernel
theorem dX11_lean_12 : decode cX11_lean 12 = .ok (.invokevirtual 343, 3) := by decide +kernel
theorem dX11_lean_15 : decode cX11_lean 15 = .ok (.ifCond .ne 9, 3) := by decide +kernel
theorem dX11_lean_18 : decode cX11_lean 18 = .ok (.aload_n 0, 1) := by decide +kernel
theorem dX11_lean_19 : decode cX11_lean 19 = .ok (.iconst 2, 1) := by decide +kernel
theorem dX11_lean_20 : decode cX11_lean 20 = .ok (.invokevirtual 86, 3) := by decide +kernel
theorem dX11_lean_23 : decode cX11_lean 23 = .ok (.ireturn, 1) := by decide +kernel
theorem dX11_lean_24 : decode cX11_lean 24 = .ok (.iload_n 2, 1) := by decide +kernel
theorem dX11_lean_25 : decode cX11_lean 25 = .ok (.i2l, 1) := by decide +kernel
theorem dX11_lean_26 : decode cX11_lean 26 = .ok (.ldc2_w 404, 3) := by decide +kernel
theorem dX11_lean_29 : decode cX11_lean 29 = .ok (.ldc2_w 384, 3) := by decide +kernel
theorem dX11_lean_32 : decode cX11_lean 32 = .ok (.invokestatic 106, 3) := by decide +kernel
theorem dX11_lean_35 : decode cX11_lean 35 = .ok (.ifCond .ne 9, 3) := by decide +kernel
theorem dX11_lean_38 : decode cX11_lean 38 = .ok (.aload_n 0, 1) := by decide +kernel
theorem dX11_lean_39 : decode cX11_lean 39 = .ok (.iconst 5, 1) := by decide +kernel
theorem dX11_lean_40 : decode cX11_lean 40 = .ok (.invokevirtual 86, 3) := by decide +kernel
theorem dX11_lean_43 : decode cX11_lean 43 = .ok (.ireturn, 1) := by decide +kernel
theorem dX11_lean_44 : decode cX11_lean 44 = .ok (.aload_n 0, 1) := by decide +kernel
theorem dX11_lean_45 : decode cX11_lean 45 = .ok (.getfield 35, 3) := by decide +kernel
theorem dX11_lean_48 : decode cX11_lean 48 = .ok (.bipush 42, 2) := by decide +kernel
theorem dX11_lean_50 : decode cX11_lean 50 = .ok (.iload_n 1, 1) := by decide +kernel
theorem dX11_lean_51 : decode cX11_lean 51 = .ok (.iadd, 1) := by decide +kernel
theorem dX11_lean_52 : decode cX11_lean 52 = .ok (.iload_n 2, 1) := by decide +kernel
theorem dX11_lean_53 : decode cX11_lean 53 = .ok (.iastore, 1) := by decide +kernel
theorem dX11_lean_54 : decode cX11_lean 54 = .ok (.iconst 1, 1) := by decide +kernel
theorem dX11_lean_55 : decode cX11_lean 55 = .ok (.ireturn, 1) := by decide +kernel
theorem dX11_votes_0 : decode cX11_votes 0 = .ok (.aload_n 0, 1) := by decide +kernel
theorem dX11_votes_1 : decode cX11_votes 1 = .ok (.iconst 0, 1) := by decide +kernel
theorem dX11_votes_2 : decode cX11_votes 2 = .ok (.putfield 71, 3) := by decide +kernel
theorem dX11_votes_5 : decode cX11_votes 5 = .ok (.aload_n 0, 1) := by decide +kernel
theorem dX11_votes_6 : decode cX11_votes 6 = .ok (.iconst 0, 1) := by decide +kernel
theorem dX11_votes_7 : decode cX11_votes 7 = .ok (.putfield 74, 3) := by decide +kernel
theorem dX11_votes_10 : decode cX11_votes 10 = .ok (.iload_n 1, 1) := by decide +kernel
theorem dX11_votes_11 : decode cX11_votes 11 = .ok (.i2l, 1) := by decide +kernel
theorem dX11_votes_12 : decode cX11_votes 12 = .ok (.lconst 0, 1) := by decide +kernel
theorem dX11_votes_13 : decode cX11_votes 13 = .ok (.lconst 1, 1) := by decide +kernel
theorem dX11_votes_14 : decode cX11_votes 14 = .ok (.invokestatic 106, 3) := by decide +kernel
theorem dX11_votes_17 : decode cX11_votes 17 = .ok (.ifCond .eq 19, 3) := by decide +kernel
theorem dX11_votes_20 : decode cX11_votes 20 = .ok (.aload_n 0, 1) := by decide +kernel
theorem dX11_votes_21 : decode cX11_votes 21 = .ok (.iload_n 1, 1) := by decide +kernel
theorem dX11_votes_22 : decode cX11_votes 22 = .ok (.ifCond .ne 7, 3) := by decide +kernel
theorem dX11_votes_25 : decode cX11_votes 25 = .ok (.iconst 1, 1) := by decide +kernel
theorem dX11_votes_26 : decode cX11_votes 26 = .ok (.goto 4, 3) := by decide +kernel
theorem dX11_votes_29 : decode cX11_votes 29 = .ok (.iconst (-1), 1) := by decide +kernel
theorem dX11_votes_30 : decode cX11_votes 30 = .ok (.invokevirtual 374, 3) := by decide +kernel
theorem dX11_votes_33 : decode cX11_votes 33 = .ok (.goto 8, 3) := by decide +kernel
theorem dX11_votes_36 : decode cX11_votes 36 = .ok (.aload_n 0, 1) := by decide +kernel
theorem dX11_votes_37 : decode cX11_votes 37 = .ok (.iconst 5, 1) := by decide +kernel
theorem dX11_votes_38 : decode cX11_votes 38 = .ok (.invokevirtual 340, 3) := by decide +kernel
theorem dX11_votes_41 : decode cX11_votes 41 = .ok (.ireturn, 1) := by decide +kernel
theorem dX11_verdict_0 : decode cX11_verdict 0 = .ok (.aload_n 0, 1) := by decide +kernel
theorem dX11_verdict_1 : decode cX11_verdict 1 = .ok (.iconst 0, 1) := by decide +kernel
theorem dX11_verdict_2 : decode cX11_verdict 2 = .ok (.putfield 71, 3) := by decide +kernel
theorem dX11_verdict_5 : decode cX11_verdict 5 = .ok (.aload_n 0, 1) := by decide +kernel
theorem dX11_verdict_6 : decode cX11_verdict 6 = .ok (.iconst 0, 1) := by decide +kernel
theorem dX11_verdict_7 : decode cX11_verdict 7 = .ok (.putfield 74, 3) := by decide +kernel
theorem dX11_verdict_10 : decode cX11_verdict 10 = .ok (.aload_n 0, 1) := by decide +kernel
theorem dX11_verdict_11 : decode cX11_verdict 11 = .ok (.invokevirtual 389, 3) := by decide +kernel
theorem dX11_verdict_14 : decode cX11_verdict 14 = .ok (.ireturn, 1) := by decide +kernel
theorem dX11_verdictBy_0 : decode cX11_verdictBy 0 = .ok (.aload_n 0, 1) := by decide +kernel
theorem dX11_verdictBy_1 : decode cX11_verdictBy 1 = .ok (.iconst 0, 1) := by decide +kernel
theorem dX11_verdictBy_2 : decode cX11_verdictBy 2 = .ok (.putfield 71, 3) := by decide +kernel
theorem dX11_verdictBy_5 : decode cX11_verdictBy 5 = .ok (.aload_n 0, 1) := by decide +kernel
theorem dX11_verdictBy_6 : decode cX11_verdictBy 6 = .ok (.iconst 0, 1) := by decide +kernel
theorem dX11_verdictBy_7 : decode cX11_verdictBy 7 = .ok (.putfield 74, 3) := by decide +kernel
theorem dX11_verdictBy_10 : decode cX11_verdictBy 10 = .ok (.iload_n 1, 1) := by decide +kernel
theorem dX11_verdictBy_11 : decode cX11_verdictBy 11 = .ok (.i2l, 1) := by decide +kernel
theorem dX11_verdictBy_12 : decode cX11_verdictBy 12 = .ok (.lconst 0, 1) := by decide +kernel
theorem dX11_verdictBy_13 : decode cX11_verdictBy 13 = .ok (.ldc2_w 406, 3) := by decide +kernel
theorem dX11_verdictBy_16 : decode cX11_verdictBy 16 = .ok (.invokestatic 106, 3) := by decide +kernel
theorem dX11_verdictBy_19 : decode cX11_verdictBy 19 = .ok (.ifCond .eq 20, 3) := by decide +kernel
theorem dX11_verdictBy_22 : decode cX11_verdictBy 22 = .ok (.iload_n 1, 1) := by decide +kernel
theorem dX11_verdictBy_23 : decode cX11_verdictBy 23 = .ok (.aload_n 0, 1) := by decide +kernel
theorem dX11_verdictBy_24 : decode cX11_verdictBy 24 = .ok (.iconst 1, 1) := by decide +kernel
theorem dX11_verdictBy_25 : decode cX11_verdictBy 25 = .ok (.invokevirtual 374, 3) := by decide +kernel
theorem dX11_verdictBy_28 : decode cX11_verdictBy 28 = .ok (.aload_n 0, 1) := by decide +kernel
theorem dX11_verdictBy_29 : decode cX11_verdictBy 29 = .ok (.iconst (-1), 1) := by decide +kernel
theorem dX11_verdictBy_30 : decode cX11_verdictBy 30 = .ok (.invokevirtual 374, 3) := by decide +kernel
theorem dX11_verdictBy_33 : decode cX11_verdictBy 33 = .ok (.invokestatic 380, 3) := by decide +kernel
theorem dX11_verdictBy_36 : decode cX11_verdictBy 36 = .ok (.goto 8, 3) := by decide +kernel
theorem dX11_verdictBy_39 : decode cX11_verdictBy 39 = .ok (.aload_n 0, 1) := by decide +kernel
theorem dX11_verdictBy_40 : decode cX11_verdictBy 40 = .ok (.iconst 5, 1) := by decide +kernel
theorem dX11_verdictBy_41 : decode cX11_verdictBy 41 = .ok (.invokevirtual 340, 3) := by decide +kernel
theorem dX11_verdictBy_44 : decode cX11_verdictBy 44 = .ok (.ireturn, 1) := by decide +kernel
theorem dX11_swing_0 : decode cX11_swing 0 = .ok (.aload_n 0, 1) := by decide +kernel
theorem dX11_swing_1 : decode cX11_swing 1 = .ok (.iconst 0, 1) := by decide +kernel
theorem dX11_swing_2 : decode cX11_swing 2 = .ok (.putfield 71, 3) := by decide +kernel
theorem dX11_swing_5 : decode cX11_swing 5 = .ok (.aload_n 0, 1) := by decide +kernel
theorem dX11_swing_6 : decode cX11_swing 6 = .ok (.iconst 0, 1) := by decide +kernel
theorem dX11_swing_7 : decode cX11_swing 7 = .ok (.putfield 74, 3) := by decide +kernel
theorem dX11_swing_10 : decode cX11_swing 10 = .ok (.iconst 0, 1) := by decide +kernel
theorem dX11_swing_11 : decode cX11_swing 11 = .ok (.istore_n 1, 1) := by decide +kernel
theorem dX11_swing_12 : decode cX11_swing 12 = .ok (.aload_n 0, 1) := by decide +kernel
theorem dX11_swing_13 : decode cX11_swing 13 = .ok (.invokevirtual 389, 3) := by decide +kernel
theorem dX11_swing_16 : decode cX11_swing 16 = .ok (.istore_n 2, 1) := by decide +kernel
theorem dX11_swing_17 : decode cX11_swing 17 = .ok (.iconst 0, 1) := by decide +kernel
theorem dX11_swing_18 : decode cX11_swing 18 = .ok (.istore_n 3, 1) := by decide +kernel
theorem dX11_swing_19 : decode cX11_swing 19 = .ok (.iload_n 3, 1) := by decide +kernel
theorem dX11_swing_20 : decode cX11_swing 20 = .ok (.aload_n 0, 1) := by decide +kernel
theorem dX11_swing_21 : decode cX11_swing 21 = .ok (.getfield 35, 3) := by decide +kernel
theorem dX11_swing_24 : decode cX11_swing 24 = .ok (.iconst 0, 1) := by decide +kernel
theorem dX11_swing_25 : decode cX11_swing 25 = .ok (.iaload, 1) := by decide +kernel
theorem dX11_swing_26 : decode cX11_swing 26 = .ok (.if_icmp .ge 44, 3) := by decide +kernel
theorem dX11_swing_29 : decode cX11_swing 29 = .ok (.aload_n 0, 1) := by decide +kernel
theorem dX11_swing_30 : decode cX11_swing 30 = .ok (.iload_n 3, 1) := by decide +kernel
theorem dX11_swing_31 : decode cX11_swing 31 = .ok (.invokevirtual 395, 3) := by decide +kernel
theorem dX11_swing_34 : decode cX11_swing 34 = .ok (.ifCond .ne 6, 3) := by decide +kernel
theorem dX11_swing_37 : decode cX11_swing 37 = .ok (.goto 27, 3) := by decide +kernel
theorem dX11_swing_40 : decode cX11_swing 40 = .ok (.iload_n 1, 1) := by decide +kernel
theorem dX11_swing_41 : decode cX11_swing 41 = .ok (.aload_n 0, 1) := by decide +kernel
theorem dX11_swing_42 : decode cX11_swing 42 = .ok (.invokevirtual 389, 3) := by decide +kernel
theorem dX11_swing_45 : decode cX11_swing 45 = .ok (.iload_n 2, 1) := by decide +kernel
theorem dX11_swing_46 : decode cX11_swing 46 = .ok (.if_icmp .ne 7, 3) := by decide +kernel
theorem dX11_swing_49 : decode cX11_swing 49 = .ok (.iconst 0, 1) := by decide +kernel
theorem dX11_swing_50 : decode cX11_swing 50 = .ok (.goto 6, 3) := by decide +kernel
theorem dX11_swing_53 : decode cX11_swing 53 = .ok (.iconst 1, 1) := by decide +kernel
theorem dX11_swing_54 : decode cX11_swing 54 = .ok (.iload_n 3, 1) := by decide +kernel
theorem dX11_swing_55 : decode cX11_swing 55 = .ok (.ishl, 1) := by decide +kernel
theorem dX11_swing_56 : decode cX11_swing 56 = .ok (.ior, 1) := by decide +kernel
theorem dX11_swing_57 : decode cX11_swing 57 = .ok (.istore_n 1, 1) := by decide +kernel
theorem dX11_swing_58 : decode cX11_swing 58 = .ok (.aload_n 0, 1) := by decide +kernel
theorem dX11_swing_59 : decode cX11_swing 59 = .ok (.iload_n 3, 1) := by decide +kernel
theorem dX11_swing_60 : decode cX11_swing 60 = .ok (.invokevirtual 398, 3) := by decide +kernel
theorem dX11_swing_63 : decode cX11_swing 63 = .ok (.pop, 1) := by decide +kernel
theorem dX11_swing_64 : decode cX11_swing 64 = .ok (.iinc 3 1, 3) := by decide +kernel
theorem dX11_swing_67 : decode cX11_swing 67 = .ok (.goto (-48), 3) := by decide +kernel
theorem dX11_swing_70 : decode cX11_swing 70 = .ok (.iload_n 1, 1) := by decide +kernel
theorem dX11_swing_71 : decode cX11_swing 71 = .ok (.ireturn, 1) := by decide +kernel
theorem dX11_lacks_0 : decode cX11_lacks 0 = .ok (.aload_n 0, 1) := by decide +kernel
theorem dX11_lacks_1 : decode cX11_lacks 1 = .ok (.iconst 0, 1) := by decide +kernel
theorem dX11_lacks_2 : decode cX11_lacks 2 = .ok (.putfield 71, 3) := by decide +kernel
theorem dX11_lacks_5 : decode cX11_lacks 5 = .ok (.aload_n 0, 1) := by decide +kernel
theorem dX11_lacks_6 : decode cX11_lacks 6 = .ok (.iconst 0, 1) := by decide +kernel
theorem dX11_lacks_7 : decode cX11_lacks 7 = .ok (.putfield 74, 3) := by decide +kernel
theorem dX11_lacks_10 : decode cX11_lacks 10 = .ok (.aload_n 0, 1) := by decide +kernel
theorem dX11_lacks_11 : decode cX11_lacks 11 = .ok (.iconst 1, 1) := by decide +kernel
theorem dX11_lacks_12 : decode cX11_lacks 12 = .ok (.invokevirtual 374, 3) := by decide +kernel
theorem dX11_lacks_15 : decode cX11_lacks 15 = .ok (.istore_n 1, 1) := by decide +kernel
theorem dX11_lacks_16 : decode cX11_lacks 16 = .ok (.aload_n 0, 1) := by decide +kernel
theorem dX11_lacks_17 : decode cX11_lacks 17 = .ok (.iconst (-1), 1) := by decide +kernel
theorem dX11_lacks_18 : decode cX11_lacks 18 = .ok (.invokevirtual 374, 3) := by decide +kernel
theorem dX11_lacks_21 : decode cX11_lacks 21 = .ok (.istore_n 2, 1) := by decide +kernel
theorem dX11_lacks_22 : decode cX11_lacks 22 = .ok (.iload_n 1, 1) := by decide +kernel
theorem dX11_lacks_23 : decode cX11_lacks 23 = .ok (.iload_n 2, 1) := by decide +kernel
theorem dX11_lacks_24 : decode cX11_lacks 24 = .ok (.iadd, 1) := by decide +kernel
theorem dX11_lacks_25 : decode cX11_lacks 25 = .ok (.ifCond .ne 10, 3) := by decide +kernel
theorem dX11_lacks_28 : decode cX11_lacks 28 = .ok (.aload_n 0, 1) := by decide +kernel
theorem dX11_lacks_29 : decode cX11_lacks 29 = .ok (.bipush 8, 2) := by decide +kernel
theorem dX11_lacks_31 : decode cX11_lacks 31 = .ok (.invokevirtual 340, 3) := by decide +kernel
theorem dX11_lacks_34 : decode cX11_lacks 34 = .ok (.ireturn, 1) := by decide +kernel
theorem dX11_lacks_35 : decode cX11_lacks 35 = .ok (.iconst 0, 1) := by decide +kernel
theorem dX11_lacks_36 : decode cX11_lacks 36 = .ok (.istore_n 3, 1) := by decide +kernel
theorem dX11_lacks_37 : decode cX11_lacks 37 = .ok (.aload_n 0, 1) := by decide +kernel
theorem dX11_lacks_38 : decode cX11_lacks 38 = .ok (.getfield 35, 3) := by decide +kernel
theorem dX11_lacks_41 : decode cX11_lacks 41 = .ok (.iconst 5, 1) := by decide +kernel
theorem dX11_lacks_42 : decode cX11_lacks 42 = .ok (.iaload, 1) := by decide +kernel
theorem dX11_lacks_43 : decode cX11_lacks 43 = .ok (.iload_n 1, 1) := by decide +kernel
theorem dX11_lacks_44 : decode cX11_lacks 44 = .ok (.iload_n 3, 1) := by decide +kernel
theorem dX11_lacks_45 : decode cX11_lacks 45 = .ok (.iadd, 1) := by decide +kernel
theorem dX11_lacks_46 : decode cX11_lacks 46 = .ok (.iload_n 2, 1) := by decide +kernel
theorem dX11_lacks_47 : decode cX11_lacks 47 = .ok (.iload_n 3, 1) := by decide +kernel
theorem dX11_lacks_48 : decode cX11_lacks 48 = .ok (.isub, 1) := by decide +kernel
theorem dX11_lacks_49 : decode cX11_lacks 49 = .ok (.invokestatic 380, 3) := by decide +kernel
theorem dX11_lacks_52 : decode cX11_lacks 52 = .ok (.iconst 1, 1) := by decide +kernel
theorem dX11_lacks_53 : decode cX11_lacks 53 = .ok (.if_icmp .eq 9, 3) := by decide +kernel
theorem dX11_lacks_56 : decode cX11_lacks 56 = .ok (.iinc 3 1, 3) := by decide +kernel
theorem dX11_lacks_59 : decode cX11_lacks 59 = .ok (.goto (-22), 3) := by decide +kernel
theorem dX11_lacks_62 : decode cX11_lacks 62 = .ok (.iload_n 3, 1) := by decide +kernel
theorem dX11_lacks_63 : decode cX11_lacks 63 = .ok (.ireturn, 1) := by decide +kernel
theorem dX11_farFrom_0 : decode cX11_farFrom 0 = .ok (.aload_n 0, 1) := by decide +kernel
theorem dX11_farFrom_1 : decode cX11_farFrom 1 = .ok (.getfield 35, 3) := by decide +kernel
theorem dX11_farFrom_4 : decode cX11_farFrom 4 = .ok (.bipush 42, 2) := by decide +kernel
theorem dX11_farFrom_6 : decode cX11_farFrom 6 = .ok (.iload_n 1, 1) := by decide +kernel
theorem dX11_farFrom_7 : decode cX11_farFrom 7 = .ok (.iadd, 1) := by decide +kernel
theorem dX11_farFrom_8 : decode cX11_farFrom 8 = .ok (.iaload, 1) := by decide +kernel
theorem dX11_farFrom_9 : decode cX11_farFrom 9 = .ok (.ifCond .le 15, 3) := by decide +kernel
theorem dX11_farFrom_12 : decode cX11_farFrom 12 = .ok (.aload_n 0, 1) := by decide +kernel
theorem dX11_farFrom_13 : decode cX11_farFrom 13 = .ok (.getfield 35, 3) := by decide +kernel
theorem dX11_farFrom_16 : decode cX11_farFrom 16 = .ok (.bipush 42, 2) := by decide +kernel
theorem dX11_farFrom_18 : decode cX11_farFrom 18 = .ok (.iload_n 1, 1) := by decide +kernel
theorem dX11_farFrom_19 : decode cX11_farFrom 19 = .ok (.iadd, 1) := by decide +kernel
theorem dX11_farFrom_20 : decode cX11_farFrom 20 = .ok (.iaload, 1) := by decide +kernel
theorem dX11_farFrom_21 : decode cX11_farFrom 21 = .ok (.goto 14, 3) := by decide +kernel
theorem dX11_farFrom_24 : decode cX11_farFrom 24 = .ok (.iconst 1, 1) := by decide +kernel
theorem dX11_farFrom_25 : decode cX11_farFrom 25 = .ok (.aload_n 0, 1) := by decide +kernel
theorem dX11_farFrom_26 : decode cX11_farFrom 26 = .ok (.getfield 35, 3) := by decide +kernel
theorem dX11_farFrom_29 : decode cX11_farFrom 29 = .ok (.bipush 42, 2) := by decide +kernel
theorem dX11_farFrom_31 : decode cX11_farFrom 31 = .ok (.iload_n 1, 1) := by decide +kernel
theorem dX11_farFrom_32 : decode cX11_farFrom 32 = .ok (.iadd, 1) := by decide +kernel
theorem dX11_farFrom_33 : decode cX11_farFrom 33 = .ok (.iaload, 1) := by decide +kernel
theorem dX11_farFrom_34 : decode cX11_farFrom 34 = .ok (.isub, 1) := by decide +kernel
theorem dX11_farFrom_35 : decode cX11_farFrom 35 = .ok (.ireturn, 1) := by decide +kernel
theorem dX11_nearest_0 : decode cX11_nearest 0 = .ok (.aload_n 0, 1) := by decide +kernel
theorem dX11_nearest_1 : decode cX11_nearest 1 = .ok (.iconst 0, 1) := by decide +kernel
theorem dX11_nearest_2 : decode cX11_nearest 2 = .ok (.putfield 71, 3) := by decide +kernel
theorem dX11_nearest_5 : decode cX11_nearest 5 = .ok (.aload_n 0, 1) := by decide +kernel
theorem dX11_nearest_6 : decode cX11_nearest 6 = .ok (.iconst 0, 1) := by decide +kernel
theorem dX11_nearest_7 : decode cX11_nearest 7 = .ok (.putfield 74, 3) := by decide +kernel
theorem dX11_nearest_10 : decode cX11_nearest 10 = .ok (.iconst (-1), 1) := by decide +kernel
theorem dX11_nearest_11 : decode cX11_nearest 11 = .ok (.istore_n 1, 1) := by decide +kernel
theorem dX11_nearest_12 : decode cX11_nearest 12 = .ok (.iconst 0, 1) := by decide +kernel
theorem dX11_nearest_13 : decode cX11_nearest 13 = .ok (.istore_n 2, 1) := by decide +kernel
theorem dX11_nearest_14 : decode cX11_nearest 14 = .ok (.iload_n 2, 1) := by decide +kernel
theorem dX11_nearest_15 : decode cX11_nearest 15 = .ok (.aload_n 0, 1) := by decide +kernel
theorem dX11_nearest_16 : decode cX11_nearest 16 = .ok (.getfield 35, 3) := by decide +kernel
theorem dX11_nearest_19 : decode cX11_nearest 19 = .ok (.iconst 0, 1) := by decide +kernel
theorem dX11_nearest_20 : decode cX11_nearest 20 = .ok (.iaload, 1) := by decide +kernel
theorem dX11_nearest_21 : decode cX11_nearest 21 = .ok (.if_icmp .ge 36, 3) := by decide +kernel
theorem dX11_nearest_24 : decode cX11_nearest 24 = .ok (.aload_n 0, 1) := by decide +kernel
theorem dX11_nearest_25 : decode cX11_nearest 25 = .ok (.iload_n 2, 1) := by decide +kernel
theorem dX11_nearest_26 : decode cX11_nearest 26 = .ok (.invokevirtual 361, 3) := by decide +kernel
theorem dX11_nearest_29 : decode cX11_nearest 29 = .ok (.ifCond .eq 22, 3) := by decide +kernel
theorem dX11_nearest_32 : decode cX11_nearest 32 = .ok (.iload_n 1, 1) := by decide +kernel
theorem dX11_nearest_33 : decode cX11_nearest 33 = .ok (.ifCond .lt 16, 3) := by decide +kernel
theorem dX11_nearest_36 : decode cX11_nearest 36 = .ok (.aload_n 0, 1) := by decide +kernel
theorem dX11_nearest_37 : decode cX11_nearest 37 = .ok (.iload_n 2, 1) := by decide +kernel
theorem dX11_nearest_38 : decode cX11_nearest 38 = .ok (.invokevirtual 408, 3) := by decide +kernel
theorem dX11_nearest_41 : decode cX11_nearest 41 = .ok (.aload_n 0, 1) := by decide +kernel
theorem dX11_nearest_42 : decode cX11_nearest 42 = .ok (.iload_n 1, 1) := by decide +kernel
theorem dX11_nearest_43 : decode cX11_nearest 43 = .ok (.invokevirtual 408, 3) := by decide +kernel
theorem dX11_nearest_46 : decode cX11_nearest 46 = .ok (.if_icmp .ge 5, 3) := by decide +kernel
theorem dX11_nearest_49 : decode cX11_nearest 49 = .ok (.iload_n 2, 1) := by decide +kernel
theorem dX11_nearest_50 : decode cX11_nearest 50 = .ok (.istore_n 1, 1) := by decide +kernel
theorem dX11_nearest_51 : decode cX11_nearest 51 = .ok (.iinc 2 1, 3) := by decide +kernel
theorem dX11_nearest_54 : decode cX11_nearest 54 = .ok (.goto (-40), 3) := by decide +kernel
theorem dX11_nearest_57 : decode cX11_nearest 57 = .ok (.iload_n 1, 1) := by decide +kernel
theorem dX11_nearest_58 : decode cX11_nearest 58 = .ok (.ifCond .ge 12, 3) := by decide +kernel
theorem dX11_nearest_61 : decode cX11_nearest 61 = .ok (.aload_n 0, 1) := by decide +kernel
theorem dX11_nearest_62 : decode cX11_nearest 62 = .ok (.bipush 8, 2) := by decide +kernel
theorem dX11_nearest_64 : decode cX11_nearest 64 = .ok (.invokevirtual 340, 3) := by decide +kernel
theorem dX11_nearest_67 : decode cX11_nearest 67 = .ok (.goto 4, 3) := by decide +kernel
theorem dX11_nearest_70 : decode cX11_nearest 70 = .ok (.iload_n 1, 1) := by decide +kernel
theorem dX11_nearest_71 : decode cX11_nearest 71 = .ok (.ireturn, 1) := by decide +kernel
theorem dX11_pull_0 : decode cX11_pull 0 = .ok (.aload_n 0, 1) := by decide +kernel
theorem dX11_pull_1 : decode cX11_pull 1 = .ok (.iconst 0, 1) := by decide +kernel
theorem dX11_pull_2 : decode cX11_pull 2 = .ok (.putfield 71, 3) := by decide +kernel
theorem dX11_pull_5 : decode cX11_pull 5 = .ok (.aload_n 0, 1) := by decide +kernel
theorem dX11_pull_6 : decode cX11_pull 6 = .ok (.iconst 0, 1) := by decide +kernel
theorem dX11_pull_7 : decode cX11_pull 7 = .ok (.putfield 74, 3) := by decide +kernel
theorem dX11_pull_10 : decode cX11_pull 10 = .ok (.aload_n 0, 1) := by decide +kernel
theorem dX11_pull_11 : decode cX11_pull 11 = .ok (.iload_n 1, 1) := by decide +kernel
theorem dX11_pull_12 : decode cX11_pull 12 = .ok (.invokevirtual 343, 3) := by decide +kernel
theorem dX11_pull_15 : decode cX11_pull 15 = .ok (.ifCond .ne 9, 3) := by decide +kernel
theorem dX11_pull_18 : decode cX11_pull 18 = .ok (.aload_n 0, 1) := by decide +kernel
theorem dX11_pull_19 : decode cX11_pull 19 = .ok (.iconst 2, 1) := by decide +kernel
theorem dX11_pull_20 : decode cX11_pull 20 = .ok (.invokevirtual 340, 3) := by decide +kernel
theorem dX11_pull_23 : decode cX11_pull 23 = .ok (.ireturn, 1) := by decide +kernel
theorem dX11_pull_24 : decode cX11_pull 24 = .ok (.aload_n 0, 1) := by decide +kernel
theorem dX11_pull_25 : decode cX11_pull 25 = .ok (.iload_n 1, 1) := by decide +kernel
theorem dX11_pull_26 : decode cX11_pull 26 = .ok (.invokevirtual 361, 3) := by decide +kernel
theorem dX11_pull_29 : decode cX11_pull 29 = .ok (.ifCond .eq 21, 3) := by decide +kernel
theorem dX11_pull_32 : decode cX11_pull 32 = .ok (.aload_n 0, 1) := by decide +kernel
theorem dX11_pull_33 : decode cX11_pull 33 = .ok (.iload_n 1, 1) := by decide +kernel
theorem dX11_pull_34 : decode cX11_pull 34 = .ok (.invokevirtual 371, 3) := by decide +kernel
theorem dX11_pull_37 : decode cX11_pull 37 = .ok (.aload_n 0, 1) := by decide +kernel
theorem dX11_pull_38 : decode cX11_pull 38 = .ok (.getfield 35, 3) := by decide +kernel
theorem dX11_pull_41 : decode cX11_pull 41 = .ok (.bipush 42, 2) := by decide +kernel
theorem dX11_pull_43 : decode cX11_pull 43 = .ok (.iload_n 1, 1) := by decide +kernel
theorem dX11_pull_44 : decode cX11_pull 44 = .ok (.iadd, 1) := by decide +kernel
theorem dX11_pull_45 : decode cX11_pull 45 = .ok (.iaload, 1) := by decide +kernel
theorem dX11_pull_46 : decode cX11_pull 46 = .ok (.isub, 1) := by decide +kernel
theorem dX11_pull_47 : decode cX11_pull 47 = .ok (.goto 9, 3) := by decide +kernel
theorem dX11_pull_50 : decode cX11_pull 50 = .ok (.aload_n 0, 1) := by decide +kernel
theorem dX11_pull_51 : decode cX11_pull 51 = .ok (.bipush 9, 2) := by decide +kernel
theorem dX11_pull_53 : decode cX11_pull 53 = .ok (.invokevirtual 340, 3) := by decide +kernel
theorem dX11_pull_56 : decode cX11_pull 56 = .ok (.ireturn, 1) := by decide +kernel
theorem dX11_behind_0 : decode cX11_behind 0 = .ok (.aload_n 0, 1) := by decide +kernel
theorem dX11_behind_1 : decode cX11_behind 1 = .ok (.iconst 0, 1) := by decide +kernel
theorem dX11_behind_2 : decode cX11_behind 2 = .ok (.putfield 71, 3) := by decide +kernel
theorem dX11_behind_5 : decode cX11_behind 5 = .ok (.aload_n 0, 1) := by decide +kernel
theorem dX11_behind_6 : decode cX11_behind 6 = .ok (.iconst 0, 1) := by decide +kernel
theorem dX11_behind_7 : decode cX11_behind 7 = .ok (.putfield 74, 3) := by decide +kernel
theorem dX11_behind_10 : decode cX11_behind 10 = .ok (.aload_n 0, 1) := by decide +kernel
theorem dX11_behind_11 : decode cX11_behind 11 = .ok (.iload_n 1, 1) := by decide +kernel
theorem dX11_behind_12 : decode cX11_behind 12 = .ok (.invokevirtual 343, 3) := by decide +kernel
theorem dX11_behind_15 : decode cX11_behind 15 = .ok (.ifCond .ne 9, 3) := by decide +kernel
theorem dX11_behind_18 : decode cX11_behind 18 = .ok (.aload_n 0, 1) := by decide +kernel
theorem dX11_behind_19 : decode cX11_behind 19 = .ok (.iconst 2, 1) := by decide +kernel
theorem dX11_behind_20 : decode cX11_behind 20 = .ok (.invokevirtual 340, 3) := by decide +kernel
theorem dX11_behind_23 : decode cX11_behind 23 = .ok (.ireturn, 1) := by decide +kernel
theorem dX11_behind_24 : decode cX11_behind 24 = .ok (.iconst 0, 1) := by decide +kernel
theorem dX11_behind_25 : decode cX11_behind 25 = .ok (.istore_n 2, 1) := by decide +kernel
theorem dX11_behind_26 : decode cX11_behind 26 = .ok (.iconst 1, 1) := by decide +kernel
theorem dX11_behind_27 : decode cX11_behind 27 = .ok (.iload_n 1, 1) := by decide +kernel
theorem dX11_behind_28 : decode cX11_behind 28 = .ok (.ishl, 1) := by decide +kernel
theorem dX11_behind_29 : decode cX11_behind 29 = .ok (.istore_n 3, 1) := by decide +kernel
theorem dX11_behind_30 : decode cX11_behind 30 = .ok (.iload_n 3, 1) := by decide +kernel
theorem dX11_behind_31 : decode cX11_behind 31 = .ok (.iload_n 2, 1) := by decide +kernel
theorem dX11_behind_32 : decode cX11_behind 32 = .ok (.if_icmp .eq 90, 3) := by decide +kernel
theorem dX11_behind_35 : decode cX11_behind 35 = .ok (.iload_n 3, 1) := by decide +kernel
theorem dX11_behind_36 : decode cX11_behind 36 = .ok (.istore_n 2, 1) := by decide +kernel
theorem dX11_behind_37 : decode cX11_behind 37 = .ok (.iconst 0, 1) := by decide +kernel
theorem dX11_behind_38 : decode cX11_behind 38 = .ok (.istore 4, 2) := by decide +kernel
theorem dX11_behind_40 : decode cX11_behind 40 = .ok (.iload 4, 2) := by decide +kernel
theorem dX11_behind_42 : decode cX11_behind 42 = .ok (.aload_n 0, 1) := by decide +kernel
theorem dX11_behind_43 : decode cX11_behind 43 = .ok (.getfield 35, 3) := by decide +kernel
theorem dX11_behind_46 : decode cX11_behind 46 = .ok (.iconst 0, 1) := by decide +kernel
theorem dX11_behind_47 : decode cX11_behind 47 = .ok (.iaload, 1) := by decide +kernel
theorem dX11_behind_48 : decode cX11_behind 48 = .ok (.if_icmp .ge 71, 3) := by decide +kernel
theorem dX11_behind_51 : decode cX11_behind 51 = .ok (.iconst 0, 1) := by decide +kernel
theorem dX11_behind_52 : decode cX11_behind 52 = .ok (.istore 5, 2) := by decide +kernel
theorem dX11_behind_54 : decode cX11_behind 54 = .ok (.iload 5, 2) := by decide +kernel
theorem dX11_behind_56 : decode cX11_behind 56 = .ok (.aload_n 0, 1) := by decide +kernel
theorem dX11_behind_57 : decode cX11_behind 57 = .ok (.getfield 35, 3) := by decide +kernel
theorem dX11_behind_60 : decode cX11_behind 60 = .ok (.iconst 0, 1) := by decide +kernel
theorem dX11_behind_61 : decode cX11_behind 61 = .ok (.iaload, 1) := by decide +kernel
theorem dX11_behind_62 : decode cX11_behind 62 = .ok (.if_icmp .ge 51, 3) := by decide +kernel
theorem dX11_behind_65 : decode cX11_behind 65 = .ok (.iload 4, 2) := by decide +kernel
theorem dX11_behind_67 : decode cX11_behind 67 = .ok (.iload 5, 2) := by decide +kernel
theorem dX11_behind_69 : decode cX11_behind 69 = .ok (.if_icmp .eq 38, 3) := by decide +kernel
theorem dX11_behind_72 : decode cX11_behind 72 = .ok (.iload_n 2, 1) := by decide +kernel
theorem dX11_behind_73 : decode cX11_behind 73 = .ok (.iload 5, 2) := by decide +kernel
theorem dX11_behind_75 : decode cX11_behind 75 = .ok (.invokestatic 110, 3) := by decide +kernel
theorem dX11_behind_78 : decode cX11_behind 78 = .ok (.ifCond .eq 29, 3) := by decide +kernel
theorem dX11_behind_81 : decode cX11_behind 81 = .ok (.aload_n 0, 1) := by decide +kernel
theorem dX11_behind_82 : decode cX11_behind 82 = .ok (.getfield 35, 3) := by decide +kernel
theorem dX11_behind_85 : decode cX11_behind 85 = .ok (.bipush 52, 2) := by decide +kernel
theorem dX11_behind_87 : decode cX11_behind 87 = .ok (.bipush 10, 2) := by decide +kernel
theorem dX11_behind_89 : decode cX11_behind 89 = .ok (.iload 4, 2) := by decide +kernel
theorem dX11_behind_91 : decode cX11_behind 91 = .ok (.imul, 1) := by decide +kernel
theorem dX11_behind_92 : decode cX11_behind 92 = .ok (.iadd, 1) := by decide +kernel
theorem dX11_behind_93 : decode cX11_behind 93 = .ok (.iload 5, 2) := by decide +kernel
theorem dX11_behind_95 : decode cX11_behind 95 = .ok (.iadd, 1) := by decide +kernel
theorem dX11_behind_96 : decode cX11_behind 96 = .ok (.iaload, 1) := by decide +kernel
theorem dX11_behind_97 : decode cX11_behind 97 = .ok (.ifCond .le 10, 3) := by decide +kernel
theorem dX11_behind_100 : decode cX11_behind 100 = .ok (.iload_n 3, 1) := by decide +kernel
theorem dX11_behind_101 : decode cX11_behind 101 = .ok (.iconst 1, 1) := by decide +kernel
theorem dX11_behind_102 : decode cX11_behind 102 = .ok (.iload 4, 2) := by decide +kernel
theorem dX11_behind_104 : decode cX11_behind 104 = .ok (.ishl, 1) := by decide +kernel
theorem dX11_behind_105 : decode cX11_behind 105 = .ok (.ior, 1) := by decide +kernel
theorem dX11_behind_106 : decode cX11_behind 106 = .ok (.istore_n 3, 1) := by decide +kernel
theorem dX11_behind_107 : decode cX11_behind 107 = .ok (.iinc 5 1, 3) := by decide +kernel
theorem dX11_behind_110 : decode cX11_behind 110 = .ok (.goto (-56), 3) := by decide +kernel
theorem dX11_behind_113 : decode cX11_behind 113 = .ok (.iinc 4 1, 3) := by decide +kernel
theorem dX11_behind_116 : decode cX11_behind 116 = .ok (.goto (-76), 3) := by decide +kernel
theorem dX11_behind_119 : decode cX11_behind 119 = .ok (.goto (-89), 3) := by decide +kernel
theorem dX11_behind_122 : decode cX11_behind 122 = .ok (.iload_n 2, 1) := by decide +kernel
theorem dX11_behind_123 : decode cX11_behind 123 = .ok (.iconst 1, 1) := by decide +kernel
theorem dX11_behind_124 : decode cX11_behind 124 = .ok (.iload_n 1, 1) := by decide +kernel
theorem dX11_behind_125 : decode cX11_behind 125 = .ok (.ishl, 1) := by decide +kernel
theorem dX11_behind_126 : decode cX11_behind 126 = .ok (.iconst (-1), 1) := by decide +kernel
theorem dX11_behind_127 : decode cX11_behind 127 = .ok (.ixor, 1) := by decide +kernel
theorem dX11_behind_128 : decode cX11_behind 128 = .ok (.iand, 1) := by decide +kernel
theorem dX11_behind_129 : decode cX11_behind 129 = .ok (.ireturn, 1) := by decide +kernel
theorem dX11_keeps_0 : decode cX11_keeps 0 = .ok (.iconst 0, 1) := by decide +kernel
theorem dX11_keeps_1 : decode cX11_keeps 1 = .ok (.istore_n 1, 1) := by decide +kernel
theorem dX11_keeps_2 : decode cX11_keeps 2 = .ok (.iload_n 1, 1) := by decide +kernel
theorem dX11_keeps_3 : decode cX11_keeps 3 = .ok (.sipush 198, 3) := by decide +kernel
theorem dX11_keeps_6 : decode cX11_keeps 6 = .ok (.if_icmp .ge 21, 3) := by decide +kernel
theorem dX11_keeps_9 : decode cX11_keeps 9 = .ok (.aload_n 0, 1) := by decide +kernel
theorem dX11_keeps_10 : decode cX11_keeps 10 = .ok (.getfield 38, 3) := by decide +kernel
theorem dX11_keeps_13 : decode cX11_keeps 13 = .ok (.iload_n 1, 1) := by decide +kernel
theorem dX11_keeps_14 : decode cX11_keeps 14 = .ok (.aload_n 0, 1) := by decide +kernel
theorem dX11_keeps_15 : decode cX11_keeps 15 = .ok (.getfield 35, 3) := by decide +kernel
theorem dX11_keeps_18 : decode cX11_keeps 18 = .ok (.iload_n 1, 1) := by decide +kernel
theorem dX11_keeps_19 : decode cX11_keeps 19 = .ok (.iaload, 1) := by decide +kernel
theorem dX11_keeps_20 : decode cX11_keeps 20 = .ok (.iastore, 1) := by decide +kernel
theorem dX11_keeps_21 : decode cX11_keeps 21 = .ok (.iinc 1 1, 3) := by decide +kernel
theorem dX11_keeps_24 : decode cX11_keeps 24 = .ok (.goto (-22), 3) := by decide +kernel
theorem dX11_keeps_27 : decode cX11_keeps 27 = .ok (.return_, 1) := by decide +kernel
theorem dX11_gives_0 : decode cX11_gives 0 = .ok (.iconst 0, 1) := by decide +kernel
theorem dX11_gives_1 : decode cX11_gives 1 = .ok (.istore_n 1, 1) := by decide +kernel
theorem dX11_gives_2 : decode cX11_gives 2 = .ok (.iload_n 1, 1) := by decide +kernel
theorem dX11_gives_3 : decode cX11_gives 3 = .ok (.sipush 198, 3) := by decide +kernel
theorem dX11_gives_6 : decode cX11_gives 6 = .ok (.if_icmp .ge 21, 3) := by decide +kernel
theorem dX11_gives_9 : decode cX11_gives 9 = .ok (.aload_n 0, 1) := by decide +kernel
theorem dX11_gives_10 : decode cX11_gives 10 = .ok (.getfield 35, 3) := by decide +kernel
theorem dX11_gives_13 : decode cX11_gives 13 = .ok (.iload_n 1, 1) := by decide +kernel
theorem dX11_gives_14 : decode cX11_gives 14 = .ok (.aload_n 0, 1) := by decide +kernel
theorem dX11_gives_15 : decode cX11_gives 15 = .ok (.getfield 38, 3) := by decide +kernel
theorem dX11_gives_18 : decode cX11_gives 18 = .ok (.iload_n 1, 1) := by decide +kernel
theorem dX11_gives_19 : decode cX11_gives 19 = .ok (.iaload, 1) := by decide +kernel
theorem dX11_gives_20 : decode cX11_gives 20 = .ok (.iastore, 1) := by decide +kernel
theorem dX11_gives_21 : decode cX11_gives 21 = .ok (.iinc 1 1, 3) := by decide +kernel
theorem dX11_gives_24 : decode cX11_gives 24 = .ok (.goto (-22), 3) := by decide +kernel
theorem dX11_gives_27 : decode cX11_gives 27 = .ok (.return_, 1) := by decide +kernel
theorem dX11_cameBefore_0 : decode cX11_cameBefore 0 = .ok (.iconst 0, 1) := by decide +kernel
theorem dX11_cameBefore_1 : decode cX11_cameBefore 1 = .ok (.istore_n 2, 1) := by decide +kernel
theorem dX11_cameBefore_2 : decode cX11_cameBefore 2 = .ok (.iload_n 2, 1) := by decide +kernel
theorem dX11_cameBefore_3 : decode cX11_cameBefore 3 = .ok (.iload_n 1, 1) := by decide +kernel
theorem dX11_cameBefore_4 : decode cX11_cameBefore 4 = .ok (.if_icmp .ge 72, 3) := by decide +kernel
theorem dX11_cameBefore_7 : decode cX11_cameBefore 7 = .ok (.iconst 1, 1) := by decide +kernel
theorem dX11_cameBefore_8 : decode cX11_cameBefore 8 = .ok (.istore_n 3, 1) := by decide +kernel
theorem dX11_cameBefore_9 : decode cX11_cameBefore 9 = .ok (.iconst 0, 1) := by decide +kernel
theorem dX11_cameBefore_10 : decode cX11_cameBefore 10 = .ok (.istore 4, 2) := by decide +kernel
theorem dX11_cameBefore_12 : decode cX11_cameBefore 12 = .ok (.iload 4, 2) := by decide +kernel
theorem dX11_cameBefore_14 : decode cX11_cameBefore 14 = .ok (.aload_n 0, 1) := by decide +kernel
theorem dX11_cameBefore_15 : decode cX11_cameBefore 15 = .ok (.getfield 35, 3) := by decide +kernel
theorem dX11_cameBefore_18 : decode cX11_cameBefore 18 = .ok (.iconst 0, 1) := by decide +kernel
theorem dX11_cameBefore_19 : decode cX11_cameBefore 19 = .ok (.iaload, 1) := by decide +kernel
theorem dX11_cameBefore_20 : decode cX11_cameBefore 20 = .ok (.if_icmp .ge 44, 3) := by decide +kernel
theorem dX11_cameBefore_23 : decode cX11_cameBefore 23 = .ok (.iload_n 3, 1) := by decide +kernel
theorem dX11_cameBefore_24 : decode cX11_cameBefore 24 = .ok (.ifCond .eq 40, 3) := by decide +kernel
theorem dX11_cameBefore_27 : decode cX11_cameBefore 27 = .ok (.aload_n 0, 1) := by decide +kernel
theorem dX11_cameBefore_28 : decode cX11_cameBefore 28 = .ok (.getfield 44, 3) := by decide +kernel
theorem dX11_cameBefore_31 : decode cX11_cameBefore 31 = .ok (.bipush 10, 2) := by decide +kernel
theorem dX11_cameBefore_33 : decode cX11_cameBefore 33 = .ok (.iload_n 2, 1) := by decide +kernel
theorem dX11_cameBefore_34 : decode cX11_cameBefore 34 = .ok (.imul, 1) := by decide +kernel
theorem dX11_cameBefore_35 : decode cX11_cameBefore 35 = .ok (.iload 4, 2) := by decide +kernel
theorem dX11_cameBefore_37 : decode cX11_cameBefore 37 = .ok (.iadd, 1) := by decide +kernel
theorem dX11_cameBefore_38 : decode cX11_cameBefore 38 = .ok (.iaload, 1) := by decide +kernel
theorem dX11_cameBefore_39 : decode cX11_cameBefore 39 = .ok (.aload_n 0, 1) := by decide +kernel
theorem dX11_cameBefore_40 : decode cX11_cameBefore 40 = .ok (.getfield 35, 3) := by decide +kernel
theorem dX11_cameBefore_43 : decode cX11_cameBefore 43 = .ok (.bipush 42, 2) := by decide +kernel
theorem dX11_cameBefore_45 : decode cX11_cameBefore 45 = .ok (.iload 4, 2) := by decide +kernel
theorem dX11_cameBefore_47 : decode cX11_cameBefore 47 = .ok (.iadd, 1) := by decide +kernel
theorem dX11_cameBefore_48 : decode cX11_cameBefore 48 = .ok (.iaload, 1) := by decide +kernel
theorem dX11_cameBefore_49 : decode cX11_cameBefore 49 = .ok (.if_icmp .ne 7, 3) := by decide +kernel
theorem dX11_cameBefore_52 : decode cX11_cameBefore 52 = .ok (.iconst 1, 1) := by decide +kernel
theorem dX11_cameBefore_53 : decode cX11_cameBefore 53 = .ok (.goto 4, 3) := by decide +kernel
theorem dX11_cameBefore_56 : decode cX11_cameBefore 56 = .ok (.iconst 0, 1) := by decide +kernel
theorem dX11_cameBefore_57 : decode cX11_cameBefore 57 = .ok (.istore_n 3, 1) := by decide +kernel
theorem dX11_cameBefore_58 : decode cX11_cameBefore 58 = .ok (.iinc 4 1, 3) := by decide +kernel
theorem dX11_cameBefore_61 : decode cX11_cameBefore 61 = .ok (.goto (-49), 3) := by decide +kernel
theorem dX11_cameBefore_64 : decode cX11_cameBefore 64 = .ok (.iload_n 3, 1) := by decide +kernel
theorem dX11_cameBefore_65 : decode cX11_cameBefore 65 = .ok (.ifCond .eq 5, 3) := by decide +kernel
theorem dX11_cameBefore_68 : decode cX11_cameBefore 68 = .ok (.iload_n 2, 1) := by decide +kernel
theorem dX11_cameBefore_69 : decode cX11_cameBefore 69 = .ok (.ireturn, 1) := by decide +kernel
theorem dX11_cameBefore_70 : decode cX11_cameBefore 70 = .ok (.iinc 2 1, 3) := by decide +kernel
theorem dX11_cameBefore_73 : decode cX11_cameBefore 73 = .ok (.goto (-71), 3) := by decide +kernel
theorem dX11_cameBefore_76 : decode cX11_cameBefore 76 = .ok (.iconst (-1), 1) := by decide +kernel
theorem dX11_cameBefore_77 : decode cX11_cameBefore 77 = .ok (.ireturn, 1) := by decide +kernel
theorem dX11_settles_0 : decode cX11_settles 0 = .ok (.aload_n 0, 1) := by decide +kernel
theorem dX11_settles_1 : decode cX11_settles 1 = .ok (.iconst 0, 1) := by decide +kernel
theorem dX11_settles_2 : decode cX11_settles 2 = .ok (.putfield 71, 3) := by decide +kernel
theorem dX11_settles_5 : decode cX11_settles 5 = .ok (.aload_n 0, 1) := by decide +kernel
theorem dX11_settles_6 : decode cX11_settles 6 = .ok (.iconst 0, 1) := by decide +kernel
theorem dX11_settles_7 : decode cX11_settles 7 = .ok (.putfield 74, 3) := by decide +kernel
theorem dX11_settles_10 : decode cX11_settles 10 = .ok (.iload_n 1, 1) := by decide +kernel
theorem dX11_settles_11 : decode cX11_settles 11 = .ok (.i2l, 1) := by decide +kernel
theorem dX11_settles_12 : decode cX11_settles 12 = .ok (.lconst 0, 1) := by decide +kernel
theorem dX11_settles_13 : decode cX11_settles 13 = .ok (.lconst 1, 1) := by decide +kernel
theorem dX11_settles_14 : decode cX11_settles 14 = .ok (.invokestatic 106, 3) := by decide +kernel
theorem dX11_settles_17 : decode cX11_settles 17 = .ok (.ifCond .ne 9, 3) := by decide +kernel
theorem dX11_settles_20 : decode cX11_settles 20 = .ok (.aload_n 0, 1) := by decide +kernel
theorem dX11_settles_21 : decode cX11_settles 21 = .ok (.iconst 5, 1) := by decide +kernel
theorem dX11_settles_22 : decode cX11_settles 22 = .ok (.invokevirtual 340, 3) := by decide +kernel
theorem dX11_settles_25 : decode cX11_settles 25 = .ok (.ireturn, 1) := by decide +kernel
theorem dX11_settles_26 : decode cX11_settles 26 = .ok (.aload_n 0, 1) := by decide +kernel
theorem dX11_settles_27 : decode cX11_settles 27 = .ok (.invokevirtual 411, 3) := by decide +kernel
theorem dX11_settles_30 : decode cX11_settles 30 = .ok (.iconst (-1), 1) := by decide +kernel
theorem dX11_settles_31 : decode cX11_settles 31 = .ok (.istore_n 2, 1) := by decide +kernel
theorem dX11_settles_32 : decode cX11_settles 32 = .ok (.iconst 0, 1) := by decide +kernel
theorem dX11_settles_33 : decode cX11_settles 33 = .ok (.istore_n 3, 1) := by decide +kernel
theorem dX11_settles_34 : decode cX11_settles 34 = .ok (.iload_n 2, 1) := by decide +kernel
theorem dX11_settles_35 : decode cX11_settles 35 = .ok (.ifCond .ge 76, 3) := by decide +kernel
theorem dX11_settles_38 : decode cX11_settles 38 = .ok (.iload_n 3, 1) := by decide +kernel
theorem dX11_settles_39 : decode cX11_settles 39 = .ok (.sipush 200, 3) := by decide +kernel
theorem dX11_settles_42 : decode cX11_settles 42 = .ok (.if_icmp .gt 69, 3) := by decide +kernel
theorem dX11_settles_45 : decode cX11_settles 45 = .ok (.iconst 0, 1) := by decide +kernel
theorem dX11_settles_46 : decode cX11_settles 46 = .ok (.istore 4, 2) := by decide +kernel
theorem dX11_settles_48 : decode cX11_settles 48 = .ok (.iload 4, 2) := by decide +kernel
theorem dX11_settles_50 : decode cX11_settles 50 = .ok (.aload_n 0, 1) := by decide +kernel
theorem dX11_settles_51 : decode cX11_settles 51 = .ok (.getfield 35, 3) := by decide +kernel
theorem dX11_settles_54 : decode cX11_settles 54 = .ok (.iconst 0, 1) := by decide +kernel
theorem dX11_settles_55 : decode cX11_settles 55 = .ok (.iaload, 1) := by decide +kernel
theorem dX11_settles_56 : decode cX11_settles 56 = .ok (.if_icmp .ge 31, 3) := by decide +kernel
theorem dX11_settles_59 : decode cX11_settles 59 = .ok (.aload_n 0, 1) := by decide +kernel
theorem dX11_settles_60 : decode cX11_settles 60 = .ok (.getfield 44, 3) := by decide +kernel
theorem dX11_settles_63 : decode cX11_settles 63 = .ok (.bipush 10, 2) := by decide +kernel
theorem dX11_settles_65 : decode cX11_settles 65 = .ok (.iload_n 3, 1) := by decide +kernel
theorem dX11_settles_66 : decode cX11_settles 66 = .ok (.imul, 1) := by decide +kernel
theorem dX11_settles_67 : decode cX11_settles 67 = .ok (.iload 4, 2) := by decide +kernel
theorem dX11_settles_69 : decode cX11_settles 69 = .ok (.iadd, 1) := by decide +kernel
theorem dX11_settles_70 : decode cX11_settles 70 = .ok (.aload_n 0, 1) := by decide +kernel
theorem dX11_settles_71 : decode cX11_settles 71 = .ok (.getfield 35, 3) := by decide +kernel
theorem dX11_settles_74 : decode cX11_settles 74 = .ok (.bipush 42, 2) := by decide +kernel
theorem dX11_settles_76 : decode cX11_settles 76 = .ok (.iload 4, 2) := by decide +kernel
theorem dX11_settles_78 : decode cX11_settles 78 = .ok (.iadd, 1) := by decide +kernel
theorem dX11_settles_79 : decode cX11_settles 79 = .ok (.iaload, 1) := by decide +kernel
theorem dX11_settles_80 : decode cX11_settles 80 = .ok (.iastore, 1) := by decide +kernel
theorem dX11_settles_81 : decode cX11_settles 81 = .ok (.iinc 4 1, 3) := by decide +kernel
theorem dX11_settles_84 : decode cX11_settles 84 = .ok (.goto (-36), 3) := by decide +kernel
theorem dX11_settles_87 : decode cX11_settles 87 = .ok (.aload_n 0, 1) := by decide +kernel
theorem dX11_settles_88 : decode cX11_settles 88 = .ok (.iconst 0, 1) := by decide +kernel
theorem dX11_settles_89 : decode cX11_settles 89 = .ok (.invokevirtual 377, 3) := by decide +kernel
theorem dX11_settles_92 : decode cX11_settles 92 = .ok (.iinc 3 1, 3) := by decide +kernel
theorem dX11_settles_95 : decode cX11_settles 95 = .ok (.iload_n 3, 1) := by decide +kernel
theorem dX11_settles_96 : decode cX11_settles 96 = .ok (.sipush 200, 3) := by decide +kernel
theorem dX11_settles_99 : decode cX11_settles 99 = .ok (.if_icmp .gt (-65), 3) := by decide +kernel
theorem dX11_settles_102 : decode cX11_settles 102 = .ok (.aload_n 0, 1) := by decide +kernel
theorem dX11_settles_103 : decode cX11_settles 103 = .ok (.iload_n 3, 1) := by decide +kernel
theorem dX11_settles_104 : decode cX11_settles 104 = .ok (.invokevirtual 414, 3) := by decide +kernel
theorem dX11_settles_107 : decode cX11_settles 107 = .ok (.istore_n 2, 1) := by decide +kernel
theorem dX11_settles_108 : decode cX11_settles 108 = .ok (.goto (-74), 3) := by decide +kernel
theorem dX11_settles_111 : decode cX11_settles 111 = .ok (.aload_n 0, 1) := by decide +kernel
theorem dX11_settles_112 : decode cX11_settles 112 = .ok (.invokevirtual 417, 3) := by decide +kernel
theorem dX11_settles_115 : decode cX11_settles 115 = .ok (.iload_n 2, 1) := by decide +kernel
theorem dX11_settles_116 : decode cX11_settles 116 = .ok (.ifCond .ge 10, 3) := by decide +kernel
theorem dX11_settles_119 : decode cX11_settles 119 = .ok (.aload_n 0, 1) := by decide +kernel
theorem dX11_settles_120 : decode cX11_settles 120 = .ok (.bipush 8, 2) := by decide +kernel
theorem dX11_settles_122 : decode cX11_settles 122 = .ok (.invokevirtual 340, 3) := by decide +kernel
theorem dX11_settles_125 : decode cX11_settles 125 = .ok (.ireturn, 1) := by decide +kernel
theorem dX11_settles_126 : decode cX11_settles 126 = .ok (.iload_n 1, 1) := by decide +kernel
theorem dX11_settles_127 : decode cX11_settles 127 = .ok (.ifCond .ne 7, 3) := by decide +kernel
theorem dX11_settles_130 : decode cX11_settles 130 = .ok (.iload_n 2, 1) := by decide +kernel
theorem dX11_settles_131 : decode cX11_settles 131 = .ok (.goto 6, 3) := by decide +kernel
theorem dX11_settles_134 : decode cX11_settles 134 = .ok (.iload_n 3, 1) := by decide +kernel
theorem dX11_settles_135 : decode cX11_settles 135 = .ok (.iload_n 2, 1) := by decide +kernel
theorem dX11_settles_136 : decode cX11_settles 136 = .ok (.isub, 1) := by decide +kernel
theorem dX11_settles_137 : decode cX11_settles 137 = .ok (.ireturn, 1) := by decide +kernel
theorem dX11_after_0 : decode cX11_after 0 = .ok (.aload_n 0, 1) := by decide +kernel
theorem dX11_after_1 : decode cX11_after 1 = .ok (.iconst 0, 1) := by decide +kernel
theorem dX11_after_2 : decode cX11_after 2 = .ok (.putfield 71, 3) := by decide +kernel
theorem dX11_after_5 : decode cX11_after 5 = .ok (.aload_n 0, 1) := by decide +kernel
theorem dX11_after_6 : decode cX11_after 6 = .ok (.iconst 0, 1) := by decide +kernel
theorem dX11_after_7 : decode cX11_after 7 = .ok (.putfield 74, 3) := by decide +kernel
theorem dX11_after_10 : decode cX11_after 10 = .ok (.iload_n 1, 1) := by decide +kernel
theorem dX11_after_11 : decode cX11_after 11 = .ok (.i2l, 1) := by decide +kernel
theorem dX11_after_12 : decode cX11_after 12 = .ok (.lconst 0, 1) := by decide +kernel
theorem dX11_after_13 : decode cX11_after 13 = .ok (.ldc2_w 420, 3) := by decide +kernel
theorem dX11_after_16 : decode cX11_after 16 = .ok (.invokestatic 106, 3) := by decide +kernel
theorem dX11_after_19 : decode cX11_after 19 = .ok (.ifCond .ne 9, 3) := by decide +kernel
theorem dX11_after_22 : decode cX11_after 22 = .ok (.aload_n 0, 1) := by decide +kernel
theorem dX11_after_23 : decode cX11_after 23 = .ok (.iconst 5, 1) := by decide +kernel
theorem dX11_after_24 : decode cX11_after 24 = .ok (.invokevirtual 340, 3) := by decide +kernel
theorem dX11_after_27 : decode cX11_after 27 = .ok (.ireturn, 1) := by decide +kernel
theorem dX11_after_28 : decode cX11_after 28 = .ok (.aload_n 0, 1) := by decide +kernel
theorem dX11_after_29 : decode cX11_after 29 = .ok (.invokevirtual 411, 3) := by decide +kernel
theorem dX11_after_32 : decode cX11_after 32 = .ok (.aload_n 0, 1) := by decide +kernel
theorem dX11_after_33 : decode cX11_after 33 = .ok (.iload_n 1, 1) := by decide +kernel
theorem dX11_after_34 : decode cX11_after 34 = .ok (.invokevirtual 386, 3) := by decide +kernel
theorem dX11_after_37 : decode cX11_after 37 = .ok (.aload_n 0, 1) := by decide +kernel
theorem dX11_after_38 : decode cX11_after 38 = .ok (.invokevirtual 389, 3) := by decide +kernel
theorem dX11_after_41 : decode cX11_after 41 = .ok (.istore_n 2, 1) := by decide +kernel
theorem dX11_after_42 : decode cX11_after 42 = .ok (.aload_n 0, 1) := by decide +kernel
theorem dX11_after_43 : decode cX11_after 43 = .ok (.invokevirtual 417, 3) := by decide +kernel
theorem dX11_after_46 : decode cX11_after 46 = .ok (.iload_n 2, 1) := by decide +kernel
theorem dX11_after_47 : decode cX11_after 47 = .ok (.ireturn, 1) := by decide +kernel
theorem dX11_isVerdict_0 : decode cX11_isVerdict 0 = .ok (.lload_n 0, 1) := by decide +kernel
theorem dX11_isVerdict_1 : decode cX11_isVerdict 1 = .ok (.ldc2_w 102, 3) := by decide +kernel
theorem dX11_isVerdict_4 : decode cX11_isVerdict 4 = .ok (.lconst 1, 1) := by decide +kernel
theorem dX11_isVerdict_5 : decode cX11_isVerdict 5 = .ok (.invokestatic 106, 3) := by decide +kernel
theorem dX11_isVerdict_8 : decode cX11_isVerdict 8 = .ok (.ireturn, 1) := by decide +kernel
theorem dX11_soonest_0 : decode cX11_soonest 0 = .ok (.aload_n 0, 1) := by decide +kernel
theorem dX11_soonest_1 : decode cX11_soonest 1 = .ok (.iconst 0, 1) := by decide +kernel
theorem dX11_soonest_2 : decode cX11_soonest 2 = .ok (.putfield 71, 3) := by decide +kernel
theorem dX11_soonest_5 : decode cX11_soonest 5 = .ok (.aload_n 0, 1) := by decide +kernel
theorem dX11_soonest_6 : decode cX11_soonest 6 = .ok (.iconst 0, 1) := by decide +kernel
theorem dX11_soonest_7 : decode cX11_soonest 7 = .ok (.putfield 74, 3) := by decide +kernel
theorem dX11_soonest_10 : decode cX11_soonest 10 = .ok (.iload_n 1, 1) := by decide +kernel
theorem dX11_soonest_11 : decode cX11_soonest 11 = .ok (.i2l, 1) := by decide +kernel
theorem dX11_soonest_12 : decode cX11_soonest 12 = .ok (.invokestatic 422, 3) := by decide +kernel
theorem dX11_soonest_15 : decode cX11_soonest 15 = .ok (.ifCond .ne 9, 3) := by decide +kernel
theorem dX11_soonest_18 : decode cX11_soonest 18 = .ok (.aload_n 0, 1) := by decide +kernel
theorem dX11_soonest_19 : decode cX11_soonest 19 = .ok (.iconst 5, 1) := by decide +kernel
theorem dX11_soonest_20 : decode cX11_soonest 20 = .ok (.invokevirtual 340, 3) := by decide +kernel
theorem dX11_soonest_23 : decode cX11_soonest 23 = .ok (.ireturn, 1) := by decide +kernel
theorem dX11_soonest_24 : decode cX11_soonest 24 = .ok (.aload_n 0, 1) := by decide +kernel
theorem dX11_soonest_25 : decode cX11_soonest 25 = .ok (.invokevirtual 411, 3) := by decide +kernel
theorem dX11_soonest_28 : decode cX11_soonest 28 = .ok (.iconst 0, 1) := by decide +kernel
theorem dX11_soonest_29 : decode cX11_soonest 29 = .ok (.istore_n 2, 1) := by decide +kernel
theorem dX11_soonest_30 : decode cX11_soonest 30 = .ok (.iload_n 2, 1) := by decide +kernel
theorem dX11_soonest_31 : decode cX11_soonest 31 = .ok (.sipush 200, 3) := by decide +kernel
theorem dX11_soonest_34 : decode cX11_soonest 34 = .ok (.if_icmp .gt 22, 3) := by decide +kernel
theorem dX11_soonest_37 : decode cX11_soonest 37 = .ok (.aload_n 0, 1) := by decide +kernel
theorem dX11_soonest_38 : decode cX11_soonest 38 = .ok (.invokevirtual 389, 3) := by decide +kernel
theorem dX11_soonest_41 : decode cX11_soonest 41 = .ok (.iload_n 1, 1) := by decide +kernel
theorem dX11_soonest_42 : decode cX11_soonest 42 = .ok (.if_icmp .eq 14, 3) := by decide +kernel
theorem dX11_soonest_45 : decode cX11_soonest 45 = .ok (.aload_n 0, 1) := by decide +kernel
theorem dX11_soonest_46 : decode cX11_soonest 46 = .ok (.iconst 1, 1) := by decide +kernel
theorem dX11_soonest_47 : decode cX11_soonest 47 = .ok (.invokevirtual 377, 3) := by decide +kernel
theorem dX11_soonest_50 : decode cX11_soonest 50 = .ok (.iinc 2 1, 3) := by decide +kernel
theorem dX11_soonest_53 : decode cX11_soonest 53 = .ok (.goto (-23), 3) := by decide +kernel
theorem dX11_soonest_56 : decode cX11_soonest 56 = .ok (.aload_n 0, 1) := by decide +kernel
theorem dX11_soonest_57 : decode cX11_soonest 57 = .ok (.invokevirtual 417, 3) := by decide +kernel
theorem dX11_soonest_60 : decode cX11_soonest 60 = .ok (.iload_n 2, 1) := by decide +kernel
theorem dX11_soonest_61 : decode cX11_soonest 61 = .ok (.sipush 200, 3) := by decide +kernel
theorem dX11_soonest_64 : decode cX11_soonest 64 = .ok (.if_icmp .le 12, 3) := by decide +kernel
theorem dX11_soonest_67 : decode cX11_soonest 67 = .ok (.aload_n 0, 1) := by decide +kernel
theorem dX11_soonest_68 : decode cX11_soonest 68 = .ok (.bipush 8, 2) := by decide +kernel
theorem dX11_soonest_70 : decode cX11_soonest 70 = .ok (.invokevirtual 340, 3) := by decide +kernel
theorem dX11_soonest_73 : decode cX11_soonest 73 = .ok (.goto 4, 3) := by decide +kernel
theorem dX11_soonest_76 : decode cX11_soonest 76 = .ok (.iload_n 2, 1) := by decide +kernel
theorem dX11_soonest_77 : decode cX11_soonest 77 = .ok (.ireturn, 1) := by decide +kernel
theorem dX11_orders_0 : decode cX11_orders 0 = .ok (.iload_n 2, 1) := by decide +kernel
theorem dX11_orders_1 : decode cX11_orders 1 = .ok (.iload_n 3, 1) := by decide +kernel
theorem dX11_orders_2 : decode cX11_orders 2 = .ok (.if_icmp .ne 17, 3) := by decide +kernel
theorem dX11_orders_5 : decode cX11_orders 5 = .ok (.aload_n 0, 1) := by decide +kernel
theorem dX11_orders_6 : decode cX11_orders 6 = .ok (.invokevirtual 389, 3) := by decide +kernel
theorem dX11_orders_9 : decode cX11_orders 9 = .ok (.iload_n 1, 1) := by decide +kernel
theorem dX11_orders_10 : decode cX11_orders 10 = .ok (.if_icmp .ne 7, 3) := by decide +kernel
theorem dX11_orders_13 : decode cX11_orders 13 = .ok (.iconst 1, 1) := by decide +kernel
theorem dX11_orders_14 : decode cX11_orders 14 = .ok (.goto 4, 3) := by decide +kernel
theorem dX11_orders_17 : decode cX11_orders 17 = .ok (.iconst 0, 1) := by decide +kernel
theorem dX11_orders_18 : decode cX11_orders 18 = .ok (.ireturn, 1) := by decide +kernel
theorem dX11_orders_19 : decode cX11_orders 19 = .ok (.iconst 0, 1) := by decide +kernel
theorem dX11_orders_20 : decode cX11_orders 20 = .ok (.istore 4, 2) := by decide +kernel
theorem dX11_orders_22 : decode cX11_orders 22 = .ok (.iload 4, 2) := by decide +kernel
theorem dX11_orders_24 : decode cX11_orders 24 = .ok (.sipush 198, 3) := by decide +kernel
theorem dX11_orders_27 : decode cX11_orders 27 = .ok (.if_icmp .ge 29, 3) := by decide +kernel
theorem dX11_orders_30 : decode cX11_orders 30 = .ok (.aload_n 0, 1) := by decide +kernel
theorem dX11_orders_31 : decode cX11_orders 31 = .ok (.getfield 53, 3) := by decide +kernel
theorem dX11_orders_34 : decode cX11_orders 34 = .ok (.sipush 198, 3) := by decide +kernel
theorem dX11_orders_37 : decode cX11_orders 37 = .ok (.iload_n 2, 1) := by decide +kernel
theorem dX11_orders_38 : decode cX11_orders 38 = .ok (.imul, 1) := by decide +kernel
theorem dX11_orders_39 : decode cX11_orders 39 = .ok (.iload 4, 2) := by decide +kernel
theorem dX11_orders_41 : decode cX11_orders 41 = .ok (.iadd, 1) := by decide +kernel
theorem dX11_orders_42 : decode cX11_orders 42 = .ok (.aload_n 0, 1) := by decide +kernel
theorem dX11_orders_43 : decode cX11_orders 43 = .ok (.getfield 35, 3) := by decide +kernel
theorem dX11_orders_46 : decode cX11_orders 46 = .ok (.iload 4, 2) := by decide +kernel
theorem dX11_orders_48 : decode cX11_orders 48 = .ok (.iaload, 1) := by decide +kernel
theorem dX11_orders_49 : decode cX11_orders 49 = .ok (.iastore, 1) := by decide +kernel
theorem dX11_orders_50 : decode cX11_orders 50 = .ok (.iinc 4 1, 3) := by decide +kernel
theorem dX11_orders_53 : decode cX11_orders 53 = .ok (.goto (-31), 3) := by decide +kernel
theorem dX11_orders_56 : decode cX11_orders 56 = .ok (.iconst 0, 1) := by decide +kernel
theorem dX11_orders_57 : decode cX11_orders 57 = .ok (.istore 4, 2) := by decide +kernel
theorem dX11_orders_59 : decode cX11_orders 59 = .ok (.iload 4, 2) := by decide +kernel
theorem dX11_orders_61 : decode cX11_orders 61 = .ok (.aload_n 0, 1) := by decide +kernel
theorem dX11_orders_62 : decode cX11_orders 62 = .ok (.getfield 35, 3) := by decide +kernel
theorem dX11_orders_65 : decode cX11_orders 65 = .ok (.iconst 1, 1) := by decide +kernel
theorem dX11_orders_66 : decode cX11_orders 66 = .ok (.iaload, 1) := by decide +kernel
theorem dX11_orders_67 : decode cX11_orders 67 = .ok (.if_icmp .ge 102, 3) := by decide +kernel
theorem dX11_orders_70 : decode cX11_orders 70 = .ok (.aload_n 0, 1) := by decide +kernel
theorem dX11_orders_71 : decode cX11_orders 71 = .ok (.getfield 35, 3) := by decide +kernel
theorem dX11_orders_74 : decode cX11_orders 74 = .ok (.bipush 11, 2) := by decide +kernel
theorem dX11_orders_76 : decode cX11_orders 76 = .ok (.iaload, 1) := by decide +kernel
theorem dX11_orders_77 : decode cX11_orders 77 = .ok (.iload 4, 2) := by decide +kernel
theorem dX11_orders_79 : decode cX11_orders 79 = .ok (.invokestatic 110, 3) := by decide +kernel
theorem dX11_orders_82 : decode cX11_orders 82 = .ok (.ifCond .eq 6, 3) := by decide +kernel
theorem dX11_orders_85 : decode cX11_orders 85 = .ok (.goto 78, 3) := by decide +kernel
theorem dX11_orders_88 : decode cX11_orders 88 = .ok (.aload_n 0, 1) := by decide +kernel
theorem dX11_orders_89 : decode cX11_orders 89 = .ok (.getfield 47, 3) := by decide +kernel
theorem dX11_orders_92 : decode cX11_orders 92 = .ok (.iload_n 2, 1) := by decide +kernel
theorem dX11_orders_93 : decode cX11_orders 93 = .ok (.iload 4, 2) := by decide +kernel
theorem dX11_orders_95 : decode cX11_orders 95 = .ok (.iastore, 1) := by decide +kernel
theorem dX11_orders_96 : decode cX11_orders 96 = .ok (.aload_n 0, 1) := by decide +kernel
theorem dX11_orders_97 : decode cX11_orders 97 = .ok (.iload 4, 2) := by decide +kernel
theorem dX11_orders_99 : decode cX11_orders 99 = .ok (.invokevirtual 368, 3) := by decide +kernel
theorem dX11_orders_102 : decode cX11_orders 102 = .ok (.pop, 1) := by decide +kernel
theorem dX11_orders_103 : decode cX11_orders 103 = .ok (.aload_n 0, 1) := by decide +kernel
theorem dX11_orders_104 : decode cX11_orders 104 = .ok (.iconst 1, 1) := by decide +kernel
theorem dX11_orders_105 : decode cX11_orders 105 = .ok (.invokevirtual 377, 3) := by decide +kernel
theorem dX11_orders_108 : decode cX11_orders 108 = .ok (.aload_n 0, 1) := by decide +kernel
theorem dX11_orders_109 : decode cX11_orders 109 = .ok (.iload_n 1, 1) := by decide +kernel
theorem dX11_orders_110 : decode cX11_orders 110 = .ok (.iload_n 2, 1) := by decide +kernel
theorem dX11_orders_111 : decode cX11_orders 111 = .ok (.iconst 1, 1) := by decide +kernel
theorem dX11_orders_112 : decode cX11_orders 112 = .ok (.iadd, 1) := by decide +kernel
theorem dX11_orders_113 : decode cX11_orders 113 = .ok (.iload_n 3, 1) := by decide +kernel
theorem dX11_orders_114 : decode cX11_orders 114 = .ok (.invokevirtual 425, 3) := by decide +kernel
theorem dX11_orders_117 : decode cX11_orders 117 = .ok (.istore 5, 2) := by decide +kernel
theorem dX11_orders_119 : decode cX11_orders 119 = .ok (.iconst 0, 1) := by decide +kernel
theorem dX11_orders_120 : decode cX11_orders 120 = .ok (.istore 6, 2) := by decide +kernel
theorem dX11_orders_122 : decode cX11_orders 122 = .ok (.iload 6, 2) := by decide +kernel
theorem dX11_orders_124 : decode cX11_orders 124 = .ok (.sipush 198, 3) := by decide +kernel
theorem dX11_orders_127 : decode cX11_orders 127 = .ok (.if_icmp .ge 29, 3) := by decide +kernel
theorem dX11_orders_130 : decode cX11_orders 130 = .ok (.aload_n 0, 1) := by decide +kernel
theorem dX11_orders_131 : decode cX11_orders 131 = .ok (.getfield 35, 3) := by decide +kernel
theorem dX11_orders_134 : decode cX11_orders 134 = .ok (.iload 6, 2) := by decide +kernel
theorem dX11_orders_136 : decode cX11_orders 136 = .ok (.aload_n 0, 1) := by decide +kernel
theorem dX11_orders_137 : decode cX11_orders 137 = .ok (.getfield 53, 3) := by decide +kernel
theorem dX11_orders_140 : decode cX11_orders 140 = .ok (.sipush 198, 3) := by decide +kernel
theorem dX11_orders_143 : decode cX11_orders 143 = .ok (.iload_n 2, 1) := by decide +kernel
theorem dX11_orders_144 : decode cX11_orders 144 = .ok (.imul, 1) := by decide +kernel
theorem dX11_orders_145 : decode cX11_orders 145 = .ok (.iload 6, 2) := by decide +kernel
theorem dX11_orders_147 : decode cX11_orders 147 = .ok (.iadd, 1) := by decide +kernel
theorem dX11_orders_148 : decode cX11_orders 148 = .ok (.iaload, 1) := by decide +kernel
theorem dX11_orders_149 : decode cX11_orders 149 = .ok (.iastore, 1) := by decide +kernel
theorem dX11_orders_150 : decode cX11_orders 150 = .ok (.iinc 6 1, 3) := by decide +kernel
theorem dX11_orders_153 : decode cX11_orders 153 = .ok (.goto (-31), 3) := by decide +kernel
theorem dX11_orders_156 : decode cX11_orders 156 = .ok (.iload 5, 2) := by decide +kernel
theorem dX11_orders_158 : decode cX11_orders 158 = .ok (.ifCond .eq 5, 3) := by decide +kernel
theorem dX11_orders_161 : decode cX11_orders 161 = .ok (.iconst 1, 1) := by decide +kernel
theorem dX11_orders_162 : decode cX11_orders 162 = .ok (.ireturn, 1) := by decide +kernel
theorem dX11_orders_163 : decode cX11_orders 163 = .ok (.iinc 4 1, 3) := by decide +kernel
theorem dX11_orders_166 : decode cX11_orders 166 = .ok (.goto (-107), 3) := by decide +kernel
theorem dX11_orders_169 : decode cX11_orders 169 = .ok (.iconst 0, 1) := by decide +kernel
theorem dX11_orders_170 : decode cX11_orders 170 = .ok (.ireturn, 1) := by decide +kernel
theorem dX11_bestOrder_0 : decode cX11_bestOrder 0 = .ok (.aload_n 0, 1) := by decide +kernel
theorem dX11_bestOrder_1 : decode cX11_bestOrder 1 = .ok (.iconst 0, 1) := by decide +kernel
theorem dX11_bestOrder_2 : decode cX11_bestOrder 2 = .ok (.putfield 71, 3) := by decide +kernel
theorem dX11_bestOrder_5 : decode cX11_bestOrder 5 = .ok (.aload_n 0, 1) := by decide +kernel
theorem dX11_bestOrder_6 : decode cX11_bestOrder 6 = .ok (.iconst 0, 1) := by decide +kernel
theorem dX11_bestOrder_7 : decode cX11_bestOrder 7 = .ok (.putfield 74, 3) := by decide +kernel
theorem dX11_bestOrder_10 : decode cX11_bestOrder 10 = .ok (.iload_n 1, 1) := by decide +kernel
theorem dX11_bestOrder_11 : decode cX11_bestOrder 11 = .ok (.i2l, 1) := by decide +kernel
theorem dX11_bestOrder_12 : decode cX11_bestOrder 12 = .ok (.invokestatic 422, 3) := by decide +kernel
theorem dX11_bestOrder_15 : decode cX11_bestOrder 15 = .ok (.ifCond .ne 9, 3) := by decide +kernel
theorem dX11_bestOrder_18 : decode cX11_bestOrder 18 = .ok (.aload_n 0, 1) := by decide +kernel
theorem dX11_bestOrder_19 : decode cX11_bestOrder 19 = .ok (.iconst 5, 1) := by decide +kernel
theorem dX11_bestOrder_20 : decode cX11_bestOrder 20 = .ok (.invokevirtual 340, 3) := by decide +kernel
theorem dX11_bestOrder_23 : decode cX11_bestOrder 23 = .ok (.ireturn, 1) := by decide +kernel
theorem dX11_bestOrder_24 : decode cX11_bestOrder 24 = .ok (.iconst 0, 1) := by decide +kernel
theorem dX11_bestOrder_25 : decode cX11_bestOrder 25 = .ok (.istore_n 2, 1) := by decide +kernel
theorem dX11_bestOrder_26 : decode cX11_bestOrder 26 = .ok (.iload_n 2, 1) := by decide +kernel
theorem dX11_bestOrder_27 : decode cX11_bestOrder 27 = .ok (.iconst 5, 1) := by decide +kernel
theorem dX11_bestOrder_28 : decode cX11_bestOrder 28 = .ok (.if_icmp .ge 54, 3) := by decide +kernel
theorem dX11_bestOrder_31 : decode cX11_bestOrder 31 = .ok (.aload_n 0, 1) := by decide +kernel
theorem dX11_bestOrder_32 : decode cX11_bestOrder 32 = .ok (.iload_n 1, 1) := by decide +kernel
theorem dX11_bestOrder_33 : decode cX11_bestOrder 33 = .ok (.iconst 0, 1) := by decide +kernel
theorem dX11_bestOrder_34 : decode cX11_bestOrder 34 = .ok (.iload_n 2, 1) := by decide +kernel
theorem dX11_bestOrder_35 : decode cX11_bestOrder 35 = .ok (.invokevirtual 425, 3) := by decide +kernel
theorem dX11_bestOrder_38 : decode cX11_bestOrder 38 = .ok (.ifCond .ne 6, 3) := by decide +kernel
theorem dX11_bestOrder_41 : decode cX11_bestOrder 41 = .ok (.goto 35, 3) := by decide +kernel
theorem dX11_bestOrder_44 : decode cX11_bestOrder 44 = .ok (.aload_n 0, 1) := by decide +kernel
theorem dX11_bestOrder_45 : decode cX11_bestOrder 45 = .ok (.iload_n 2, 1) := by decide +kernel
theorem dX11_bestOrder_46 : decode cX11_bestOrder 46 = .ok (.putfield 56, 3) := by decide +kernel
theorem dX11_bestOrder_49 : decode cX11_bestOrder 49 = .ok (.iconst 0, 1) := by decide +kernel
theorem dX11_bestOrder_50 : decode cX11_bestOrder 50 = .ok (.istore_n 3, 1) := by decide +kernel
theorem dX11_bestOrder_51 : decode cX11_bestOrder 51 = .ok (.iload_n 3, 1) := by decide +kernel
theorem dX11_bestOrder_52 : decode cX11_bestOrder 52 = .ok (.iload_n 2, 1) := by decide +kernel
theorem dX11_bestOrder_53 : decode cX11_bestOrder 53 = .ok (.if_icmp .ge 21, 3) := by decide +kernel
theorem dX11_bestOrder_56 : decode cX11_bestOrder 56 = .ok (.aload_n 0, 1) := by decide +kernel
theorem dX11_bestOrder_57 : decode cX11_bestOrder 57 = .ok (.getfield 50, 3) := by decide +kernel
theorem dX11_bestOrder_60 : decode cX11_bestOrder 60 = .ok (.iload_n 3, 1) := by decide +kernel
theorem dX11_bestOrder_61 : decode cX11_bestOrder 61 = .ok (.aload_n 0, 1) := by decide +kernel
theorem dX11_bestOrder_62 : decode cX11_bestOrder 62 = .ok (.getfield 47, 3) := by decide +kernel
theorem dX11_bestOrder_65 : decode cX11_bestOrder 65 = .ok (.iload_n 3, 1) := by decide +kernel
theorem dX11_bestOrder_66 : decode cX11_bestOrder 66 = .ok (.iaload, 1) := by decide +kernel
theorem dX11_bestOrder_67 : decode cX11_bestOrder 67 = .ok (.iastore, 1) := by decide +kernel
theorem dX11_bestOrder_68 : decode cX11_bestOrder 68 = .ok (.iinc 3 1, 3) := by decide +kernel
theorem dX11_bestOrder_71 : decode cX11_bestOrder 71 = .ok (.goto (-20), 3) := by decide +kernel
theorem dX11_bestOrder_74 : decode cX11_bestOrder 74 = .ok (.iload_n 2, 1) := by decide +kernel
theorem dX11_bestOrder_75 : decode cX11_bestOrder 75 = .ok (.ireturn, 1) := by decide +kernel
theorem dX11_bestOrder_76 : decode cX11_bestOrder 76 = .ok (.iinc 2 1, 3) := by decide +kernel
theorem dX11_bestOrder_79 : decode cX11_bestOrder 79 = .ok (.goto (-53), 3) := by decide +kernel
theorem dX11_bestOrder_82 : decode cX11_bestOrder 82 = .ok (.aload_n 0, 1) := by decide +kernel
theorem dX11_bestOrder_83 : decode cX11_bestOrder 83 = .ok (.bipush 8, 2) := by decide +kernel
theorem dX11_bestOrder_85 : decode cX11_bestOrder 85 = .ok (.invokevirtual 340, 3) := by decide +kernel
theorem dX11_bestOrder_88 : decode cX11_bestOrder 88 = .ok (.ireturn, 1) := by decide +kernel
theorem dX11_orderAt_0 : decode cX11_orderAt 0 = .ok (.aload_n 0, 1) := by decide +kernel
theorem dX11_orderAt_1 : decode cX11_orderAt 1 = .ok (.iconst 0, 1) := by decide +kernel
theorem dX11_orderAt_2 : decode cX11_orderAt 2 = .ok (.putfield 71, 3) := by decide +kernel
theorem dX11_orderAt_5 : decode cX11_orderAt 5 = .ok (.aload_n 0, 1) := by decide +kernel
theorem dX11_orderAt_6 : decode cX11_orderAt 6 = .ok (.iconst 0, 1) := by decide +kernel
theorem dX11_orderAt_7 : decode cX11_orderAt 7 = .ok (.putfield 74, 3) := by decide +kernel
theorem dX11_orderAt_10 : decode cX11_orderAt 10 = .ok (.iload_n 1, 1) := by decide +kernel
theorem dX11_orderAt_11 : decode cX11_orderAt 11 = .ok (.i2l, 1) := by decide +kernel
theorem dX11_orderAt_12 : decode cX11_orderAt 12 = .ok (.lconst 0, 1) := by decide +kernel
theorem dX11_orderAt_13 : decode cX11_orderAt 13 = .ok (.aload_n 0, 1) := by decide +kernel
theorem dX11_orderAt_14 : decode cX11_orderAt 14 = .ok (.getfield 56, 3) := by decide +kernel
theorem dX11_orderAt_17 : decode cX11_orderAt 17 = .ok (.iconst 1, 1) := by decide +kernel
theorem dX11_orderAt_18 : decode cX11_orderAt 18 = .ok (.isub, 1) := by decide +kernel
theorem dX11_orderAt_19 : decode cX11_orderAt 19 = .ok (.i2l, 1) := by decide +kernel
theorem dX11_orderAt_20 : decode cX11_orderAt 20 = .ok (.invokestatic 106, 3) := by decide +kernel
theorem dX11_orderAt_23 : decode cX11_orderAt 23 = .ok (.ifCond .eq 12, 3) := by decide +kernel
theorem dX11_orderAt_26 : decode cX11_orderAt 26 = .ok (.aload_n 0, 1) := by decide +kernel
theorem dX11_orderAt_27 : decode cX11_orderAt 27 = .ok (.getfield 50, 3) := by decide +kernel
theorem dX11_orderAt_30 : decode cX11_orderAt 30 = .ok (.iload_n 1, 1) := by decide +kernel
theorem dX11_orderAt_31 : decode cX11_orderAt 31 = .ok (.iaload, 1) := by decide +kernel
theorem dX11_orderAt_32 : decode cX11_orderAt 32 = .ok (.goto 9, 3) := by decide +kernel
theorem dX11_orderAt_35 : decode cX11_orderAt 35 = .ok (.aload_n 0, 1) := by decide +kernel
theorem dX11_orderAt_36 : decode cX11_orderAt 36 = .ok (.bipush 8, 2) := by decide +kernel
theorem dX11_orderAt_38 : decode cX11_orderAt 38 = .ok (.invokevirtual 340, 3) := by decide +kernel
theorem dX11_orderAt_41 : decode cX11_orderAt 41 = .ok (.ireturn, 1) := by decide +kernel
theorem dX11_bribes_0 : decode cX11_bribes 0 = .ok (.aload_n 0, 1) := by decide +kernel
theorem dX11_bribes_1 : decode cX11_bribes 1 = .ok (.iconst 0, 1) := by decide +kernel
theorem dX11_bribes_2 : decode cX11_bribes 2 = .ok (.putfield 71, 3) := by decide +kernel
theorem dX11_bribes_5 : decode cX11_bribes 5 = .ok (.aload_n 0, 1) := by decide +kernel
theorem dX11_bribes_6 : decode cX11_bribes 6 = .ok (.iconst 0, 1) := by decide +kernel
theorem dX11_bribes_7 : decode cX11_bribes 7 = .ok (.putfield 74, 3) := by decide +kernel
theorem dX11_bribes_10 : decode cX11_bribes 10 = .ok (.iload_n 1, 1) := by decide +kernel
theorem dX11_bribes_11 : decode cX11_bribes 11 = .ok (.i2l, 1) := by decide +kernel
theorem dX11_bribes_12 : decode cX11_bribes 12 = .ok (.invokestatic 422, 3) := by decide +kernel
theorem dX11_bribes_15 : decode cX11_bribes 15 = .ok (.ifCond .eq 25, 3) := by decide +kernel
theorem dX11_bribes_18 : decode cX11_bribes 18 = .ok (.iload_n 2, 1) := by decide +kernel
theorem dX11_bribes_19 : decode cX11_bribes 19 = .ok (.iconst 1, 1) := by decide +kernel
theorem dX11_bribes_20 : decode cX11_bribes 20 = .ok (.if_icmp .eq 8, 3) := by decide +kernel
theorem dX11_bribes_23 : decode cX11_bribes 23 = .ok (.iload_n 2, 1) := by decide +kernel
theorem dX11_bribes_24 : decode cX11_bribes 24 = .ok (.iconst (-1), 1) := by decide +kernel
theorem dX11_bribes_25 : decode cX11_bribes 25 = .ok (.if_icmp .ne 15, 3) := by decide +kernel
theorem dX11_bribes_28 : decode cX11_bribes 28 = .ok (.iload_n 3, 1) := by decide +kernel
theorem dX11_bribes_29 : decode cX11_bribes 29 = .ok (.i2l, 1) := by decide +kernel
theorem dX11_bribes_30 : decode cX11_bribes 30 = .ok (.lconst 0, 1) := by decide +kernel
theorem dX11_bribes_31 : decode cX11_bribes 31 = .ok (.ldc2_w 429, 3) := by decide +kernel
theorem dX11_bribes_34 : decode cX11_bribes 34 = .ok (.invokestatic 106, 3) := by decide +kernel
theorem dX11_bribes_37 : decode cX11_bribes 37 = .ok (.ifCond .ne 9, 3) := by decide +kernel
theorem dX11_bribes_40 : decode cX11_bribes 40 = .ok (.aload_n 0, 1) := by decide +kernel
theorem dX11_bribes_41 : decode cX11_bribes 41 = .ok (.iconst 5, 1) := by decide +kernel
theorem dX11_bribes_42 : decode cX11_bribes 42 = .ok (.invokevirtual 340, 3) := by decide +kernel
theorem dX11_bribes_45 : decode cX11_bribes 45 = .ok (.ireturn, 1) := by decide +kernel
theorem dX11_bribes_46 : decode cX11_bribes 46 = .ok (.iconst (-1), 1) := by decide +kernel
theorem dX11_bribes_47 : decode cX11_bribes 47 = .ok (.istore 4, 2) := by decide +kernel
theorem dX11_bribes_49 : decode cX11_bribes 49 = .ok (.iconst 0, 1) := by decide +kernel
theorem dX11_bribes_50 : decode cX11_bribes 50 = .ok (.istore 5, 2) := by decide +kernel
theorem dX11_bribes_52 : decode cX11_bribes 52 = .ok (.iconst 0, 1) := by decide +kernel
theorem dX11_bribes_53 : decode cX11_bribes 53 = .ok (.istore 6, 2) := by decide +kernel
theorem dX11_bribes_55 : decode cX11_bribes 55 = .ok (.iload 6, 2) := by decide +kernel
theorem dX11_bribes_57 : decode cX11_bribes 57 = .ok (.iconst 1, 1) := by decide +kernel
theorem dX11_bribes_58 : decode cX11_bribes 58 = .ok (.aload_n 0, 1) := by decide +kernel
theorem dX11_bribes_59 : decode cX11_bribes 59 = .ok (.getfield 35, 3) := by decide +kernel
theorem dX11_bribes_62 : decode cX11_bribes 62 = .ok (.iconst 0, 1) := by decide +kernel
theorem dX11_bribes_63 : decode cX11_bribes 63 = .ok (.iaload, 1) := by decide +kernel
theorem dX11_bribes_64 : decode cX11_bribes 64 = .ok (.ishl, 1) := by decide +kernel
theorem dX11_bribes_65 : decode cX11_bribes 65 = .ok (.if_icmp .ge 182, 3) := by decide +kernel
theorem dX11_bribes_68 : decode cX11_bribes 68 = .ok (.iload 6, 2) := by decide +kernel
theorem dX11_bribes_70 : decode cX11_bribes 70 = .ok (.aload_n 0, 1) := by decide +kernel
theorem dX11_bribes_71 : decode cX11_bribes 71 = .ok (.getfield 35, 3) := by decide +kernel
theorem dX11_bribes_74 : decode cX11_bribes 74 = .ok (.bipush 10, 2) := by decide +kernel
theorem dX11_bribes_76 : decode cX11_bribes 76 = .ok (.iaload, 1) := by decide +kernel
theorem dX11_bribes_77 : decode cX11_bribes 77 = .ok (.iconst (-1), 1) := by decide +kernel
theorem dX11_bribes_78 : decode cX11_bribes 78 = .ok (.ixor, 1) := by decide +kernel
theorem dX11_bribes_79 : decode cX11_bribes 79 = .ok (.iand, 1) := by decide +kernel
theorem dX11_bribes_80 : decode cX11_bribes 80 = .ok (.ifCond .eq 6, 3) := by decide +kernel
theorem dX11_bribes_83 : decode cX11_bribes 83 = .ok (.goto 158, 3) := by decide +kernel
theorem dX11_bribes_86 : decode cX11_bribes 86 = .ok (.iconst 0, 1) := by decide +kernel
theorem dX11_bribes_87 : decode cX11_bribes 87 = .ok (.istore 7, 2) := by decide +kernel
theorem dX11_bribes_89 : decode cX11_bribes 89 = .ok (.iconst 0, 1) := by decide +kernel
theorem dX11_bribes_90 : decode cX11_bribes 90 = .ok (.istore 8, 2) := by decide +kernel
theorem dX11_bribes_92 : decode cX11_bribes 92 = .ok (.iload 8, 2) := by decide +kernel
theorem dX11_bribes_94 : decode cX11_bribes 94 = .ok (.aload_n 0, 1) := by decide +kernel
theorem dX11_bribes_95 : decode cX11_bribes 95 = .ok (.getfield 35, 3) := by decide +kernel
theorem dX11_bribes_98 : decode cX11_bribes 98 = .ok (.iconst 0, 1) := by decide +kernel
theorem dX11_bribes_99 : decode cX11_bribes 99 = .ok (.iaload, 1) := by decide +kernel
theorem dX11_bribes_100 : decode cX11_bribes 100 = .ok (.if_icmp .ge 38, 3) := by decide +kernel
theorem dX11_bribes_103 : decode cX11_bribes 103 = .ok (.iload 7, 2) := by decide +kernel
theorem dX11_bribes_105 : decode cX11_bribes 105 = .ok (.iload 6, 2) := by decide +kernel
theorem dX11_bribes_107 : decode cX11_bribes 107 = .ok (.iload 8, 2) := by decide +kernel
theorem dX11_bribes_109 : decode cX11_bribes 109 = .ok (.invokestatic 110, 3) := by decide +kernel
theorem dX11_bribes_112 : decode cX11_bribes 112 = .ok (.ifCond .eq 16, 3) := by decide +kernel
theorem dX11_bribes_115 : decode cX11_bribes 115 = .ok (.aload_n 0, 1) := by decide +kernel
theorem dX11_bribes_116 : decode cX11_bribes 116 = .ok (.getfield 35, 3) := by decide +kernel
theorem dX11_bribes_119 : decode cX11_bribes 119 = .ok (.bipush 32, 2) := by decide +kernel
theorem dX11_bribes_121 : decode cX11_bribes 121 = .ok (.iload 8, 2) := by decide +kernel
theorem dX11_bribes_123 : decode cX11_bribes 123 = .ok (.iadd, 1) := by decide +kernel
theorem dX11_bribes_124 : decode cX11_bribes 124 = .ok (.iaload, 1) := by decide +kernel
theorem dX11_bribes_125 : decode cX11_bribes 125 = .ok (.goto 4, 3) := by decide +kernel
theorem dX11_bribes_128 : decode cX11_bribes 128 = .ok (.iconst 0, 1) := by decide +kernel
theorem dX11_bribes_129 : decode cX11_bribes 129 = .ok (.iadd, 1) := by decide +kernel
theorem dX11_bribes_130 : decode cX11_bribes 130 = .ok (.istore 7, 2) := by decide +kernel
theorem dX11_bribes_132 : decode cX11_bribes 132 = .ok (.iinc 8 1, 3) := by decide +kernel
theorem dX11_bribes_135 : decode cX11_bribes 135 = .ok (.goto (-43), 3) := by decide +kernel
theorem dX11_bribes_138 : decode cX11_bribes 138 = .ok (.iload 4, 2) := by decide +kernel
theorem dX11_bribes_140 : decode cX11_bribes 140 = .ok (.ifCond .lt 13, 3) := by decide +kernel
theorem dX11_bribes_143 : decode cX11_bribes 143 = .ok (.iload 7, 2) := by decide +kernel
theorem dX11_bribes_145 : decode cX11_bribes 145 = .ok (.iload 5, 2) := by decide +kernel
theorem dX11_bribes_147 : decode cX11_bribes 147 = .ok (.if_icmp .lt 6, 3) := by decide +kernel
theorem dX11_bribes_150 : decode cX11_bribes 150 = .ok (.goto 91, 3) := by decide +kernel
theorem dX11_bribes_153 : decode cX11_bribes 153 = .ok (.aload_n 0, 1) := by decide +kernel
theorem dX11_bribes_154 : decode cX11_bribes 154 = .ok (.invokevirtual 411, 3) := by decide +kernel
theorem dX11_bribes_157 : decode cX11_bribes 157 = .ok (.iconst 0, 1) := by decide +kernel
theorem dX11_bribes_158 : decode cX11_bribes 158 = .ok (.istore 8, 2) := by decide +kernel
theorem dX11_bribes_160 : decode cX11_bribes 160 = .ok (.iload 8, 2) := by decide +kernel
theorem dX11_bribes_162 : decode cX11_bribes 162 = .ok (.aload_n 0, 1) := by decide +kernel
theorem dX11_bribes_163 : decode cX11_bribes 163 = .ok (.getfield 35, 3) := by decide +kernel
theorem dX11_bribes_166 : decode cX11_bribes 166 = .ok (.iconst 0, 1) := by decide +kernel
theorem dX11_bribes_167 : decode cX11_bribes 167 = .ok (.iaload, 1) := by decide +kernel
theorem dX11_bribes_168 : decode cX11_bribes 168 = .ok (.if_icmp .ge 33, 3) := by decide +kernel
theorem dX11_bribes_171 : decode cX11_bribes 171 = .ok (.iload 6, 2) := by decide +kernel
theorem dX11_bribes_173 : decode cX11_bribes 173 = .ok (.iload 8, 2) := by decide +kernel
theorem dX11_bribes_175 : decode cX11_bribes 175 = .ok (.invokestatic 110, 3) := by decide +kernel
theorem dX11_bribes_178 : decode cX11_bribes 178 = .ok (.ifCond .eq 17, 3) := by decide +kernel
theorem dX11_bribes_181 : decode cX11_bribes 181 = .ok (.aload_n 0, 1) := by decide +kernel
theorem dX11_bribes_182 : decode cX11_bribes 182 = .ok (.getfield 35, 3) := by decide +kernel
theorem dX11_bribes_185 : decode cX11_bribes 185 = .ok (.bipush 42, 2) := by decide +kernel
theorem dX11_bribes_187 : decode cX11_bribes 187 = .ok (.iload 8, 2) := by decide +kernel
theorem dX11_bribes_189 : decode cX11_bribes 189 = .ok (.iadd, 1) := by decide +kernel
theorem dX11_bribes_190 : decode cX11_bribes 190 = .ok (.bipush 99, 2) := by decide +kernel
theorem dX11_bribes_192 : decode cX11_bribes 192 = .ok (.iload_n 2, 1) := by decide +kernel
theorem dX11_bribes_193 : decode cX11_bribes 193 = .ok (.imul, 1) := by decide +kernel
theorem dX11_bribes_194 : decode cX11_bribes 194 = .ok (.iastore, 1) := by decide +kernel
theorem dX11_bribes_195 : decode cX11_bribes 195 = .ok (.iinc 8 1, 3) := by decide +kernel
theorem dX11_bribes_198 : decode cX11_bribes 198 = .ok (.goto (-38), 3) := by decide +kernel
theorem dX11_bribes_201 : decode cX11_bribes 201 = .ok (.aload_n 0, 1) := by decide +kernel
theorem dX11_bribes_202 : decode cX11_bribes 202 = .ok (.iload_n 3, 1) := by decide +kernel
theorem dX11_bribes_203 : decode cX11_bribes 203 = .ok (.invokevirtual 386, 3) := by decide +kernel
theorem dX11_bribes_206 : decode cX11_bribes 206 = .ok (.aload_n 0, 1) := by decide +kernel
theorem dX11_bribes_207 : decode cX11_bribes 207 = .ok (.invokevirtual 389, 3) := by decide +kernel
theorem dX11_bribes_210 : decode cX11_bribes 210 = .ok (.iload_n 1, 1) := by decide +kernel
theorem dX11_bribes_211 : decode cX11_bribes 211 = .ok (.if_icmp .ne 7, 3) := by decide +kernel
theorem dX11_bribes_214 : decode cX11_bribes 214 = .ok (.iconst 1, 1) := by decide +kernel
theorem dX11_bribes_215 : decode cX11_bribes 215 = .ok (.goto 4, 3) := by decide +kernel
theorem dX11_bribes_218 : decode cX11_bribes 218 = .ok (.iconst 0, 1) := by decide +kernel
theorem dX11_bribes_219 : decode cX11_bribes 219 = .ok (.istore 8, 2) := by decide +kernel
theorem dX11_bribes_221 : decode cX11_bribes 221 = .ok (.aload_n 0, 1) := by decide +kernel
theorem dX11_bribes_222 : decode cX11_bribes 222 = .ok (.invokevirtual 417, 3) := by decide +kernel
theorem dX11_bribes_225 : decode cX11_bribes 225 = .ok (.iload 8, 2) := by decide +kernel
theorem dX11_bribes_227 : decode cX11_bribes 227 = .ok (.ifCond .ne 6, 3) := by decide +kernel
theorem dX11_bribes_230 : decode cX11_bribes 230 = .ok (.goto 11, 3) := by decide +kernel
theorem dX11_bribes_233 : decode cX11_bribes 233 = .ok (.iload 6, 2) := by decide +kernel
theorem dX11_bribes_235 : decode cX11_bribes 235 = .ok (.istore 4, 2) := by decide +kernel
theorem dX11_bribes_237 : decode cX11_bribes 237 = .ok (.iload 7, 2) := by decide +kernel
theorem dX11_bribes_239 : decode cX11_bribes 239 = .ok (.istore 5, 2) := by decide +kernel
theorem dX11_bribes_241 : decode cX11_bribes 241 = .ok (.iinc 6 1, 3) := by decide +kernel
theorem dX11_bribes_244 : decode cX11_bribes 244 = .ok (.goto (-189), 3) := by decide +kernel
theorem dX11_bribes_247 : decode cX11_bribes 247 = .ok (.iload 4, 2) := by decide +kernel
theorem dX11_bribes_249 : decode cX11_bribes 249 = .ok (.ifCond .ge 10, 3) := by decide +kernel
theorem dX11_bribes_252 : decode cX11_bribes 252 = .ok (.aload_n 0, 1) := by decide +kernel
theorem dX11_bribes_253 : decode cX11_bribes 253 = .ok (.bipush 8, 2) := by decide +kernel
theorem dX11_bribes_255 : decode cX11_bribes 255 = .ok (.invokevirtual 340, 3) := by decide +kernel
theorem dX11_bribes_258 : decode cX11_bribes 258 = .ok (.ireturn, 1) := by decide +kernel
theorem dX11_bribes_259 : decode cX11_bribes 259 = .ok (.aload_n 0, 1) := by decide +kernel
theorem dX11_bribes_260 : decode cX11_bribes 260 = .ok (.iload 4, 2) := by decide +kernel
theorem dX11_bribes_262 : decode cX11_bribes 262 = .ok (.putfield 59, 3) := by decide +kernel
theorem dX11_bribes_265 : decode cX11_bribes 265 = .ok (.iload 5, 2) := by decide +kernel
theorem dX11_bribes_267 : decode cX11_bribes 267 = .ok (.ireturn, 1) := by decide +kernel
theorem dX11_bribeSet_0 : decode cX11_bribeSet 0 = .ok (.aload_n 0, 1) := by decide +kernel
theorem dX11_bribeSet_1 : decode cX11_bribeSet 1 = .ok (.iconst 0, 1) := by decide +kernel
theorem dX11_bribeSet_2 : decode cX11_bribeSet 2 = .ok (.putfield 71, 3) := by decide +kernel
theorem dX11_bribeSet_5 : decode cX11_bribeSet 5 = .ok (.aload_n 0, 1) := by decide +kernel
theorem dX11_bribeSet_6 : decode cX11_bribeSet 6 = .ok (.iconst 0, 1) := by decide +kernel
theorem dX11_bribeSet_7 : decode cX11_bribeSet 7 = .ok (.putfield 74, 3) := by decide +kernel
theorem dX11_bribeSet_10 : decode cX11_bribeSet 10 = .ok (.aload_n 0, 1) := by decide +kernel
theorem dX11_bribeSet_11 : decode cX11_bribeSet 11 = .ok (.getfield 59, 3) := by decide +kernel
theorem dX11_bribeSet_14 : decode cX11_bribeSet 14 = .ok (.ifCond .ge 12, 3) := by decide +kernel
theorem dX11_bribeSet_17 : decode cX11_bribeSet 17 = .ok (.aload_n 0, 1) := by decide +kernel
theorem dX11_bribeSet_18 : decode cX11_bribeSet 18 = .ok (.bipush 8, 2) := by decide +kernel
theorem dX11_bribeSet_20 : decode cX11_bribeSet 20 = .ok (.invokevirtual 340, 3) := by decide +kernel
theorem dX11_bribeSet_23 : decode cX11_bribeSet 23 = .ok (.goto 7, 3) := by decide +kernel
theorem dX11_bribeSet_26 : decode cX11_bribeSet 26 = .ok (.aload_n 0, 1) := by decide +kernel
theorem dX11_bribeSet_27 : decode cX11_bribeSet 27 = .ok (.getfield 59, 3) := by decide +kernel
theorem dX11_bribeSet_30 : decode cX11_bribeSet 30 = .ok (.ireturn, 1) := by decide +kernel
theorem dX11_plays_0 : decode cX11_plays 0 = .ok (.iload_n 1, 1) := by decide +kernel
theorem dX11_plays_1 : decode cX11_plays 1 = .ok (.ifCond .ne 8, 3) := by decide +kernel
theorem dX11_plays_4 : decode cX11_plays 4 = .ok (.aload_n 0, 1) := by decide +kernel
theorem dX11_plays_5 : decode cX11_plays 5 = .ok (.invokevirtual 389, 3) := by decide +kernel
theorem dX11_plays_8 : decode cX11_plays 8 = .ok (.ireturn, 1) := by decide +kernel
theorem dX11_plays_9 : decode cX11_plays 9 = .ok (.bipush 9, 2) := by decide +kernel
theorem dX11_plays_11 : decode cX11_plays 11 = .ok (.istore 4, 2) := by decide +kernel
theorem dX11_plays_13 : decode cX11_plays 13 = .ok (.iconst 0, 1) := by decide +kernel
theorem dX11_plays_14 : decode cX11_plays 14 = .ok (.istore 5, 2) := by decide +kernel
theorem dX11_plays_16 : decode cX11_plays 16 = .ok (.iload 5, 2) := by decide +kernel
theorem dX11_plays_18 : decode cX11_plays 18 = .ok (.aload_n 0, 1) := by decide +kernel
theorem dX11_plays_19 : decode cX11_plays 19 = .ok (.getfield 35, 3) := by decide +kernel
theorem dX11_plays_22 : decode cX11_plays 22 = .ok (.iconst 0, 1) := by decide +kernel
theorem dX11_plays_23 : decode cX11_plays 23 = .ok (.iaload, 1) := by decide +kernel
theorem dX11_plays_24 : decode cX11_plays 24 = .ok (.if_icmp .ge 67, 3) := by decide +kernel
theorem dX11_plays_27 : decode cX11_plays 27 = .ok (.aload_n 0, 1) := by decide +kernel
theorem dX11_plays_28 : decode cX11_plays 28 = .ok (.iload 5, 2) := by decide +kernel
theorem dX11_plays_30 : decode cX11_plays 30 = .ok (.invokevirtual 395, 3) := by decide +kernel
theorem dX11_plays_33 : decode cX11_plays 33 = .ok (.ifCond .ne 6, 3) := by decide +kernel
theorem dX11_plays_36 : decode cX11_plays 36 = .ok (.goto 49, 3) := by decide +kernel
theorem dX11_plays_39 : decode cX11_plays 39 = .ok (.aload_n 0, 1) := by decide +kernel
theorem dX11_plays_40 : decode cX11_plays 40 = .ok (.iload_n 1, 1) := by decide +kernel
theorem dX11_plays_41 : decode cX11_plays 41 = .ok (.iconst 1, 1) := by decide +kernel
theorem dX11_plays_42 : decode cX11_plays 42 = .ok (.isub, 1) := by decide +kernel
theorem dX11_plays_43 : decode cX11_plays 43 = .ok (.iload_n 2, 1) := by decide +kernel
theorem dX11_plays_44 : decode cX11_plays 44 = .ok (.ineg, 1) := by decide +kernel
theorem dX11_plays_45 : decode cX11_plays 45 = .ok (.iconst 0, 1) := by decide +kernel
theorem dX11_plays_46 : decode cX11_plays 46 = .ok (.invokevirtual 431, 3) := by decide +kernel
theorem dX11_plays_49 : decode cX11_plays 49 = .ok (.iload_n 2, 1) := by decide +kernel
theorem dX11_plays_50 : decode cX11_plays 50 = .ok (.ineg, 1) := by decide +kernel
theorem dX11_plays_51 : decode cX11_plays 51 = .ok (.imul, 1) := by decide +kernel
theorem dX11_plays_52 : decode cX11_plays 52 = .ok (.istore 6, 2) := by decide +kernel
theorem dX11_plays_54 : decode cX11_plays 54 = .ok (.aload_n 0, 1) := by decide +kernel
theorem dX11_plays_55 : decode cX11_plays 55 = .ok (.iload 5, 2) := by decide +kernel
theorem dX11_plays_57 : decode cX11_plays 57 = .ok (.invokevirtual 398, 3) := by decide +kernel
theorem dX11_plays_60 : decode cX11_plays 60 = .ok (.pop, 1) := by decide +kernel
theorem dX11_plays_61 : decode cX11_plays 61 = .ok (.iload 6, 2) := by decide +kernel
theorem dX11_plays_63 : decode cX11_plays 63 = .ok (.iload 4, 2) := by decide +kernel
theorem dX11_plays_65 : decode cX11_plays 65 = .ok (.if_icmp .lt 6, 3) := by decide +kernel
theorem dX11_plays_68 : decode cX11_plays 68 = .ok (.goto 17, 3) := by decide +kernel
theorem dX11_plays_71 : decode cX11_plays 71 = .ok (.iload 6, 2) := by decide +kernel
theorem dX11_plays_73 : decode cX11_plays 73 = .ok (.istore 4, 2) := by decide +kernel
theorem dX11_plays_75 : decode cX11_plays 75 = .ok (.iload_n 3, 1) := by decide +kernel
theorem dX11_plays_76 : decode cX11_plays 76 = .ok (.ifCond .eq 9, 3) := by decide +kernel
theorem dX11_plays_79 : decode cX11_plays 79 = .ok (.aload_n 0, 1) := by decide +kernel
theorem dX11_plays_80 : decode cX11_plays 80 = .ok (.iload 5, 2) := by decide +kernel
theorem dX11_plays_82 : decode cX11_plays 82 = .ok (.putfield 435, 3) := by decide +kernel
theorem dX11_plays_85 : decode cX11_plays 85 = .ok (.iinc 5 1, 3) := by decide +kernel
theorem dX11_plays_88 : decode cX11_plays 88 = .ok (.goto (-72), 3) := by decide +kernel
theorem dX11_plays_91 : decode cX11_plays 91 = .ok (.iload 4, 2) := by decide +kernel
theorem dX11_plays_93 : decode cX11_plays 93 = .ok (.iload_n 2, 1) := by decide +kernel
theorem dX11_plays_94 : decode cX11_plays 94 = .ok (.ineg, 1) := by decide +kernel
theorem dX11_plays_95 : decode cX11_plays 95 = .ok (.imul, 1) := by decide +kernel
theorem dX11_plays_96 : decode cX11_plays 96 = .ok (.ireturn, 1) := by decide +kernel
theorem dX11_whyNoStrikes_0 : decode cX11_whyNoStrikes 0 = .ok (.iload_n 1, 1) := by decide +kernel
theorem dX11_whyNoStrikes_1 : decode cX11_whyNoStrikes 1 = .ok (.i2l, 1) := by decide +kernel
theorem dX11_whyNoStrikes_2 : decode cX11_whyNoStrikes 2 = .ok (.lconst 1, 1) := by decide +kernel
theorem dX11_whyNoStrikes_3 : decode cX11_whyNoStrikes 3 = .ok (.ldc2_w 104, 3) := by decide +kernel
theorem dX11_whyNoStrikes_6 : decode cX11_whyNoStrikes 6 = .ok (.invokestatic 106, 3) := by decide +kernel
theorem dX11_whyNoStrikes_9 : decode cX11_whyNoStrikes 9 = .ok (.ifCond .ne 7, 3) := by decide +kernel
theorem dX11_whyNoStrikes_12 : decode cX11_whyNoStrikes 12 = .ok (.iconst 5, 1) := by decide +kernel
theorem dX11_whyNoStrikes_13 : decode cX11_whyNoStrikes 13 = .ok (.goto 25, 3) := by decide +kernel
theorem dX11_whyNoStrikes_16 : decode cX11_whyNoStrikes 16 = .ok (.aload_n 0, 1) := by decide +kernel
theorem dX11_whyNoStrikes_17 : decode cX11_whyNoStrikes 17 = .ok (.getfield 35, 3) := by decide +kernel
theorem dX11_whyNoStrikes_20 : decode cX11_whyNoStrikes 20 = .ok (.bipush 10, 2) := by decide +kernel
theorem dX11_whyNoStrikes_22 : decode cX11_whyNoStrikes 22 = .ok (.iaload, 1) := by decide +kernel
theorem dX11_whyNoStrikes_23 : decode cX11_whyNoStrikes 23 = .ok (.invokestatic 438, 3) := by decide +kernel
theorem dX11_whyNoStrikes_26 : decode cX11_whyNoStrikes 26 = .ok (.iconst 2, 1) := by decide +kernel
theorem dX11_whyNoStrikes_27 : decode cX11_whyNoStrikes 27 = .ok (.iload_n 1, 1) := by decide +kernel
theorem dX11_whyNoStrikes_28 : decode cX11_whyNoStrikes 28 = .ok (.imul, 1) := by decide +kernel
theorem dX11_whyNoStrikes_29 : decode cX11_whyNoStrikes 29 = .ok (.if_icmp .ge 8, 3) := by decide +kernel
theorem dX11_whyNoStrikes_32 : decode cX11_whyNoStrikes 32 = .ok (.bipush 9, 2) := by decide +kernel
theorem dX11_whyNoStrikes_34 : decode cX11_whyNoStrikes 34 = .ok (.goto 4, 3) := by decide +kernel
theorem dX11_whyNoStrikes_37 : decode cX11_whyNoStrikes 37 = .ok (.iconst 0, 1) := by decide +kernel
theorem dX11_whyNoStrikes_38 : decode cX11_whyNoStrikes 38 = .ok (.ireturn, 1) := by decide +kernel
theorem dX11_strikes_0 : decode cX11_strikes 0 = .ok (.aload_n 0, 1) := by decide +kernel
theorem dX11_strikes_1 : decode cX11_strikes 1 = .ok (.iconst 0, 1) := by decide +kernel
theorem dX11_strikes_2 : decode cX11_strikes 2 = .ok (.putfield 71, 3) := by decide +kernel
theorem dX11_strikes_5 : decode cX11_strikes 5 = .ok (.aload_n 0, 1) := by decide +kernel
theorem dX11_strikes_6 : decode cX11_strikes 6 = .ok (.aload_n 0, 1) := by decide +kernel
theorem dX11_strikes_7 : decode cX11_strikes 7 = .ok (.iload_n 1, 1) := by decide +kernel
theorem dX11_strikes_8 : decode cX11_strikes 8 = .ok (.invokevirtual 441, 3) := by decide +kernel
theorem dX11_strikes_11 : decode cX11_strikes 11 = .ok (.putfield 74, 3) := by decide +kernel
theorem dX11_strikes_14 : decode cX11_strikes 14 = .ok (.aload_n 0, 1) := by decide +kernel
theorem dX11_strikes_15 : decode cX11_strikes 15 = .ok (.getfield 74, 3) := by decide +kernel
theorem dX11_strikes_18 : decode cX11_strikes 18 = .ok (.ifCond .le 7, 3) := by decide +kernel
theorem dX11_strikes_21 : decode cX11_strikes 21 = .ok (.iconst (-1), 1) := by decide +kernel
theorem dX11_strikes_22 : decode cX11_strikes 22 = .ok (.goto 12, 3) := by decide +kernel
theorem dX11_strikes_25 : decode cX11_strikes 25 = .ok (.aload_n 0, 1) := by decide +kernel
theorem dX11_strikes_26 : decode cX11_strikes 26 = .ok (.iconst 2, 1) := by decide +kernel
theorem dX11_strikes_27 : decode cX11_strikes 27 = .ok (.iload_n 1, 1) := by decide +kernel
theorem dX11_strikes_28 : decode cX11_strikes 28 = .ok (.imul, 1) := by decide +kernel
theorem dX11_strikes_29 : decode cX11_strikes 29 = .ok (.iconst (-1), 1) := by decide +kernel
theorem dX11_strikes_30 : decode cX11_strikes 30 = .ok (.iconst 1, 1) := by decide +kernel
theorem dX11_strikes_31 : decode cX11_strikes 31 = .ok (.invokevirtual 431, 3) := by decide +kernel
theorem dX11_strikes_34 : decode cX11_strikes 34 = .ok (.ireturn, 1) := by decide +kernel
theorem dX11_firstStrike_0 : decode cX11_firstStrike 0 = .ok (.aload_n 0, 1) := by decide +kernel
theorem dX11_firstStrike_1 : decode cX11_firstStrike 1 = .ok (.iconst 0, 1) := by decide +kernel
theorem dX11_firstStrike_2 : decode cX11_firstStrike 2 = .ok (.putfield 71, 3) := by decide +kernel
theorem dX11_firstStrike_5 : decode cX11_firstStrike 5 = .ok (.aload_n 0, 1) := by decide +kernel
theorem dX11_firstStrike_6 : decode cX11_firstStrike 6 = .ok (.aload_n 0, 1) := by decide +kernel
theorem dX11_firstStrike_7 : decode cX11_firstStrike 7 = .ok (.iload_n 1, 1) := by decide +kernel
theorem dX11_firstStrike_8 : decode cX11_firstStrike 8 = .ok (.invokevirtual 441, 3) := by decide +kernel
theorem dX11_firstStrike_11 : decode cX11_firstStrike 11 = .ok (.putfield 74, 3) := by decide +kernel
theorem dX11_firstStrike_14 : decode cX11_firstStrike 14 = .ok (.aload_n 0, 1) := by decide +kernel
theorem dX11_firstStrike_15 : decode cX11_firstStrike 15 = .ok (.getfield 74, 3) := by decide +kernel
theorem dX11_firstStrike_18 : decode cX11_firstStrike 18 = .ok (.ifCond .le 5, 3) := by decide +kernel
theorem dX11_firstStrike_21 : decode cX11_firstStrike 21 = .ok (.iconst (-1), 1) := by decide +kernel
theorem dX11_firstStrike_22 : decode cX11_firstStrike 22 = .ok (.ireturn, 1) := by decide +kernel
theorem dX11_firstStrike_23 : decode cX11_firstStrike 23 = .ok (.aload_n 0, 1) := by decide +kernel
theorem dX11_firstStrike_24 : decode cX11_firstStrike 24 = .ok (.iconst 2, 1) := by decide +kernel
theorem dX11_firstStrike_25 : decode cX11_firstStrike 25 = .ok (.iload_n 1, 1) := by decide +kernel
theorem dX11_firstStrike_26 : decode cX11_firstStrike 26 = .ok (.imul, 1) := by decide +kernel
theorem dX11_firstStrike_27 : decode cX11_firstStrike 27 = .ok (.iconst (-1), 1) := by decide +kernel
theorem dX11_firstStrike_28 : decode cX11_firstStrike 28 = .ok (.iconst 1, 1) := by decide +kernel
theorem dX11_firstStrike_29 : decode cX11_firstStrike 29 = .ok (.invokevirtual 431, 3) := by decide +kernel
theorem dX11_firstStrike_32 : decode cX11_firstStrike 32 = .ok (.pop, 1) := by decide +kernel
theorem dX11_firstStrike_33 : decode cX11_firstStrike 33 = .ok (.aload_n 0, 1) := by decide +kernel
theorem dX11_firstStrike_34 : decode cX11_firstStrike 34 = .ok (.getfield 435, 3) := by decide +kernel
theorem dX11_firstStrike_37 : decode cX11_firstStrike 37 = .ok (.ireturn, 1) := by decide +kernel
theorem dX11_drawn_0 : decode cX11_drawn 0 = .ok (.aload_n 0, 1) := by decide +kernel
theorem dX11_drawn_1 : decode cX11_drawn 1 = .ok (.iconst 0, 1) := by decide +kernel
theorem dX11_drawn_2 : decode cX11_drawn 2 = .ok (.putfield 71, 3) := by decide +kernel
theorem dX11_drawn_5 : decode cX11_drawn 5 = .ok (.aload_n 0, 1) := by decide +kernel
theorem dX11_drawn_6 : decode cX11_drawn 6 = .ok (.iconst 0, 1) := by decide +kernel
theorem dX11_drawn_7 : decode cX11_drawn 7 = .ok (.putfield 74, 3) := by decide +kernel
theorem dX11_drawn_10 : decode cX11_drawn 10 = .ok (.iload_n 1, 1) := by decide +kernel
theorem dX11_drawn_11 : decode cX11_drawn 11 = .ok (.i2l, 1) := by decide +kernel
theorem dX11_drawn_12 : decode cX11_drawn 12 = .ok (.lconst 1, 1) := by decide +kernel
theorem dX11_drawn_13 : decode cX11_drawn 13 = .ok (.aload_n 0, 1) := by decide +kernel
theorem dX11_drawn_14 : decode cX11_drawn 14 = .ok (.getfield 35, 3) := by decide +kernel
theorem dX11_drawn_17 : decode cX11_drawn 17 = .ok (.iconst 0, 1) := by decide +kernel
theorem dX11_drawn_18 : decode cX11_drawn 18 = .ok (.iaload, 1) := by decide +kernel
theorem dX11_drawn_19 : decode cX11_drawn 19 = .ok (.i2l, 1) := by decide +kernel
theorem dX11_drawn_20 : decode cX11_drawn 20 = .ok (.invokestatic 106, 3) := by decide +kernel
theorem dX11_drawn_23 : decode cX11_drawn 23 = .ok (.ifCond .eq 23, 3) := by decide +kernel
theorem dX11_drawn_26 : decode cX11_drawn 26 = .ok (.iload_n 2, 1) := by decide +kernel
theorem dX11_drawn_27 : decode cX11_drawn 27 = .ok (.i2l, 1) := by decide +kernel
theorem dX11_drawn_28 : decode cX11_drawn 28 = .ok (.lconst 0, 1) := by decide +kernel
theorem dX11_drawn_29 : decode cX11_drawn 29 = .ok (.ldc2_w 429, 3) := by decide +kernel
theorem dX11_drawn_32 : decode cX11_drawn 32 = .ok (.invokestatic 106, 3) := by decide +kernel
theorem dX11_drawn_35 : decode cX11_drawn 35 = .ok (.ifCond .eq 11, 3) := by decide +kernel
theorem dX11_drawn_38 : decode cX11_drawn 38 = .ok (.iload_n 3, 1) := by decide +kernel
theorem dX11_drawn_39 : decode cX11_drawn 39 = .ok (.i2l, 1) := by decide +kernel
theorem dX11_drawn_40 : decode cX11_drawn 40 = .ok (.invokestatic 422, 3) := by decide +kernel
theorem dX11_drawn_43 : decode cX11_drawn 43 = .ok (.ifCond .ne 9, 3) := by decide +kernel
theorem dX11_drawn_46 : decode cX11_drawn 46 = .ok (.aload_n 0, 1) := by decide +kernel
theorem dX11_drawn_47 : decode cX11_drawn 47 = .ok (.iconst 5, 1) := by decide +kernel
theorem dX11_drawn_48 : decode cX11_drawn 48 = .ok (.invokevirtual 86, 3) := by decide +kernel
theorem dX11_drawn_51 : decode cX11_drawn 51 = .ok (.ireturn, 1) := by decide +kernel
theorem dX11_drawn_52 : decode cX11_drawn 52 = .ok (.aload_n 0, 1) := by decide +kernel
theorem dX11_drawn_53 : decode cX11_drawn 53 = .ok (.invokevirtual 411, 3) := by decide +kernel
theorem dX11_drawn_56 : decode cX11_drawn 56 = .ok (.lconst 0, 1) := by decide +kernel
theorem dX11_drawn_57 : decode cX11_drawn 57 = .ok (.lstore 4, 2) := by decide +kernel
theorem dX11_drawn_59 : decode cX11_drawn 59 = .ok (.lconst 0, 1) := by decide +kernel
theorem dX11_drawn_60 : decode cX11_drawn 60 = .ok (.lstore 6, 2) := by decide +kernel
theorem dX11_drawn_62 : decode cX11_drawn 62 = .ok (.iconst 0, 1) := by decide +kernel
theorem dX11_drawn_63 : decode cX11_drawn 63 = .ok (.istore 8, 2) := by decide +kernel
theorem dX11_drawn_65 : decode cX11_drawn 65 = .ok (.iload 8, 2) := by decide +kernel
theorem dX11_drawn_67 : decode cX11_drawn 67 = .ok (.iconst 1, 1) := by decide +kernel
theorem dX11_drawn_68 : decode cX11_drawn 68 = .ok (.aload_n 0, 1) := by decide +kernel
theorem dX11_drawn_69 : decode cX11_drawn 69 = .ok (.getfield 35, 3) := by decide +kernel
theorem dX11_drawn_72 : decode cX11_drawn 72 = .ok (.iconst 0, 1) := by decide +kernel
theorem dX11_drawn_73 : decode cX11_drawn 73 = .ok (.iaload, 1) := by decide +kernel
theorem dX11_drawn_74 : decode cX11_drawn 74 = .ok (.ishl, 1) := by decide +kernel
theorem dX11_drawn_75 : decode cX11_drawn 75 = .ok (.if_icmp .ge 107, 3) := by decide +kernel
theorem dX11_drawn_78 : decode cX11_drawn 78 = .ok (.iload 8, 2) := by decide +kernel
theorem dX11_drawn_80 : decode cX11_drawn 80 = .ok (.invokestatic 438, 3) := by decide +kernel
theorem dX11_drawn_83 : decode cX11_drawn 83 = .ok (.iload_n 1, 1) := by decide +kernel
theorem dX11_drawn_84 : decode cX11_drawn 84 = .ok (.if_icmp .eq 6, 3) := by decide +kernel
theorem dX11_drawn_87 : decode cX11_drawn 87 = .ok (.goto 89, 3) := by decide +kernel
theorem dX11_drawn_90 : decode cX11_drawn 90 = .ok (.lload 4, 2) := by decide +kernel
theorem dX11_drawn_92 : decode cX11_drawn 92 = .ok (.lconst 1, 1) := by decide +kernel
theorem dX11_drawn_93 : decode cX11_drawn 93 = .ok (.ladd, 1) := by decide +kernel
theorem dX11_drawn_94 : decode cX11_drawn 94 = .ok (.lstore 4, 2) := by decide +kernel
theorem dX11_drawn_96 : decode cX11_drawn 96 = .ok (.aload_n 0, 1) := by decide +kernel
theorem dX11_drawn_97 : decode cX11_drawn 97 = .ok (.getfield 35, 3) := by decide +kernel
theorem dX11_drawn_100 : decode cX11_drawn 100 = .ok (.bipush 10, 2) := by decide +kernel
theorem dX11_drawn_102 : decode cX11_drawn 102 = .ok (.iload 8, 2) := by decide +kernel
theorem dX11_drawn_104 : decode cX11_drawn 104 = .ok (.iastore, 1) := by decide +kernel
theorem dX11_drawn_105 : decode cX11_drawn 105 = .ok (.aload_n 0, 1) := by decide +kernel
theorem dX11_drawn_106 : decode cX11_drawn 106 = .ok (.getfield 35, 3) := by decide +kernel
theorem dX11_drawn_109 : decode cX11_drawn 109 = .ok (.bipush 7, 2) := by decide +kernel
theorem dX11_drawn_111 : decode cX11_drawn 111 = .ok (.iconst 0, 1) := by decide +kernel
theorem dX11_drawn_112 : decode cX11_drawn 112 = .ok (.iastore, 1) := by decide +kernel
theorem dX11_drawn_113 : decode cX11_drawn 113 = .ok (.iconst 0, 1) := by decide +kernel
theorem dX11_drawn_114 : decode cX11_drawn 114 = .ok (.istore 9, 2) := by decide +kernel
theorem dX11_drawn_116 : decode cX11_drawn 116 = .ok (.iload 9, 2) := by decide +kernel
theorem dX11_drawn_118 : decode cX11_drawn 118 = .ok (.aload_n 0, 1) := by decide +kernel
theorem dX11_drawn_119 : decode cX11_drawn 119 = .ok (.getfield 35, 3) := by decide +kernel
theorem dX11_drawn_122 : decode cX11_drawn 122 = .ok (.iconst 0, 1) := by decide +kernel
theorem dX11_drawn_123 : decode cX11_drawn 123 = .ok (.iaload, 1) := by decide +kernel
theorem dX11_drawn_124 : decode cX11_drawn 124 = .ok (.if_icmp .ge 29, 3) := by decide +kernel
theorem dX11_drawn_127 : decode cX11_drawn 127 = .ok (.aload_n 0, 1) := by decide +kernel
theorem dX11_drawn_128 : decode cX11_drawn 128 = .ok (.getfield 35, 3) := by decide +kernel
theorem dX11_drawn_131 : decode cX11_drawn 131 = .ok (.bipush 42, 2) := by decide +kernel
theorem dX11_drawn_133 : decode cX11_drawn 133 = .ok (.iload 9, 2) := by decide +kernel
theorem dX11_drawn_135 : decode cX11_drawn 135 = .ok (.iadd, 1) := by decide +kernel
theorem dX11_drawn_136 : decode cX11_drawn 136 = .ok (.aload_n 0, 1) := by decide +kernel
theorem dX11_drawn_137 : decode cX11_drawn 137 = .ok (.getfield 35, 3) := by decide +kernel
theorem dX11_drawn_140 : decode cX11_drawn 140 = .ok (.bipush 12, 2) := by decide +kernel
theorem dX11_drawn_142 : decode cX11_drawn 142 = .ok (.iload 9, 2) := by decide +kernel
theorem dX11_drawn_144 : decode cX11_drawn 144 = .ok (.iadd, 1) := by decide +kernel
theorem dX11_drawn_145 : decode cX11_drawn 145 = .ok (.iaload, 1) := by decide +kernel
theorem dX11_drawn_146 : decode cX11_drawn 146 = .ok (.iastore, 1) := by decide +kernel
theorem dX11_drawn_147 : decode cX11_drawn 147 = .ok (.iinc 9 1, 3) := by decide +kernel
theorem dX11_drawn_150 : decode cX11_drawn 150 = .ok (.goto (-34), 3) := by decide +kernel
theorem dX11_drawn_153 : decode cX11_drawn 153 = .ok (.aload_n 0, 1) := by decide +kernel
theorem dX11_drawn_154 : decode cX11_drawn 154 = .ok (.iload_n 2, 1) := by decide +kernel
theorem dX11_drawn_155 : decode cX11_drawn 155 = .ok (.invokevirtual 386, 3) := by decide +kernel
theorem dX11_drawn_158 : decode cX11_drawn 158 = .ok (.lload 6, 2) := by decide +kernel
theorem dX11_drawn_160 : decode cX11_drawn 160 = .ok (.aload_n 0, 1) := by decide +kernel
theorem dX11_drawn_161 : decode cX11_drawn 161 = .ok (.invokevirtual 389, 3) := by decide +kernel
theorem dX11_drawn_164 : decode cX11_drawn 164 = .ok (.iload_n 3, 1) := by decide +kernel
theorem dX11_drawn_165 : decode cX11_drawn 165 = .ok (.if_icmp .ne 7, 3) := by decide +kernel
theorem dX11_drawn_168 : decode cX11_drawn 168 = .ok (.lconst 1, 1) := by decide +kernel
theorem dX11_drawn_169 : decode cX11_drawn 169 = .ok (.goto 4, 3) := by decide +kernel
theorem dX11_drawn_172 : decode cX11_drawn 172 = .ok (.lconst 0, 1) := by decide +kernel
theorem dX11_drawn_173 : decode cX11_drawn 173 = .ok (.ladd, 1) := by decide +kernel
theorem dX11_drawn_174 : decode cX11_drawn 174 = .ok (.lstore 6, 2) := by decide +kernel
theorem dX11_drawn_176 : decode cX11_drawn 176 = .ok (.iinc 8 1, 3) := by decide +kernel
theorem dX11_drawn_179 : decode cX11_drawn 179 = .ok (.goto (-114), 3) := by decide +kernel
theorem dX11_drawn_182 : decode cX11_drawn 182 = .ok (.aload_n 0, 1) := by decide +kernel
theorem dX11_drawn_183 : decode cX11_drawn 183 = .ok (.invokevirtual 417, 3) := by decide +kernel
theorem dX11_drawn_186 : decode cX11_drawn 186 = .ok (.aload_n 0, 1) := by decide +kernel
theorem dX11_drawn_187 : decode cX11_drawn 187 = .ok (.lload 6, 2) := by decide +kernel
theorem dX11_drawn_189 : decode cX11_drawn 189 = .ok (.lload 4, 2) := by decide +kernel
theorem dX11_drawn_191 : decode cX11_drawn 191 = .ok (.invokevirtual 444, 3) := by decide +kernel
theorem dX11_drawn_194 : decode cX11_drawn 194 = .ok (.ireturn, 1) := by decide +kernel
theorem dX11_goesRow_0 : decode cX11_goesRow 0 = .ok (.aload_n 0, 1) := by decide +kernel
theorem dX11_goesRow_1 : decode cX11_goesRow 1 = .ok (.iload_n 1, 1) := by decide +kernel
theorem dX11_goesRow_2 : decode cX11_goesRow 2 = .ok (.invokevirtual 358, 3) := by decide +kernel
theorem dX11_goesRow_5 : decode cX11_goesRow 5 = .ok (.ifCond .ne 5, 3) := by decide +kernel
theorem dX11_goesRow_8 : decode cX11_goesRow 8 = .ok (.iconst 1, 1) := by decide +kernel
theorem dX11_goesRow_9 : decode cX11_goesRow 9 = .ok (.ireturn, 1) := by decide +kernel
theorem dX11_goesRow_10 : decode cX11_goesRow 10 = .ok (.aload_n 0, 1) := by decide +kernel
theorem dX11_goesRow_11 : decode cX11_goesRow 11 = .ok (.getfield 17, 3) := by decide +kernel
theorem dX11_goesRow_14 : decode cX11_goesRow 14 = .ok (.iload_n 1, 1) := by decide +kernel
theorem dX11_goesRow_15 : decode cX11_goesRow 15 = .ok (.iaload, 1) := by decide +kernel
theorem dX11_goesRow_16 : decode cX11_goesRow 16 = .ok (.ifCond .ge 5, 3) := by decide +kernel
theorem dX11_goesRow_19 : decode cX11_goesRow 19 = .ok (.iconst 3, 1) := by decide +kernel
theorem dX11_goesRow_20 : decode cX11_goesRow 20 = .ok (.ireturn, 1) := by decide +kernel
theorem dX11_goesRow_21 : decode cX11_goesRow 21 = .ok (.aload_n 0, 1) := by decide +kernel
theorem dX11_goesRow_22 : decode cX11_goesRow 22 = .ok (.getfield 17, 3) := by decide +kernel
theorem dX11_goesRow_25 : decode cX11_goesRow 25 = .ok (.iload_n 1, 1) := by decide +kernel
theorem dX11_goesRow_26 : decode cX11_goesRow 26 = .ok (.iaload, 1) := by decide +kernel
theorem dX11_goesRow_27 : decode cX11_goesRow 27 = .ok (.iload_n 2, 1) := by decide +kernel
theorem dX11_goesRow_28 : decode cX11_goesRow 28 = .ok (.if_icmp .ge 5, 3) := by decide +kernel
theorem dX11_goesRow_31 : decode cX11_goesRow 31 = .ok (.iconst 4, 1) := by decide +kernel
theorem dX11_goesRow_32 : decode cX11_goesRow 32 = .ok (.ireturn, 1) := by decide +kernel
theorem dX11_goesRow_33 : decode cX11_goesRow 33 = .ok (.iload_n 2, 1) := by decide +kernel
theorem dX11_goesRow_34 : decode cX11_goesRow 34 = .ok (.i2l, 1) := by decide +kernel
theorem dX11_goesRow_35 : decode cX11_goesRow 35 = .ok (.lconst 0, 1) := by decide +kernel
theorem dX11_goesRow_36 : decode cX11_goesRow 36 = .ok (.ldc2_w 448, 3) := by decide +kernel
theorem dX11_goesRow_39 : decode cX11_goesRow 39 = .ok (.invokestatic 106, 3) := by decide +kernel
theorem dX11_goesRow_42 : decode cX11_goesRow 42 = .ok (.ifCond .ne 5, 3) := by decide +kernel
theorem dX11_goesRow_45 : decode cX11_goesRow 45 = .ok (.iconst 5, 1) := by decide +kernel
theorem dX11_goesRow_46 : decode cX11_goesRow 46 = .ok (.ireturn, 1) := by decide +kernel
theorem dX11_goesRow_47 : decode cX11_goesRow 47 = .ok (.iconst 0, 1) := by decide +kernel
theorem dX11_goesRow_48 : decode cX11_goesRow 48 = .ok (.istore_n 3, 1) := by decide +kernel
theorem dX11_goesRow_49 : decode cX11_goesRow 49 = .ok (.iload_n 3, 1) := by decide +kernel
theorem dX11_goesRow_50 : decode cX11_goesRow 50 = .ok (.iload_n 2, 1) := by decide +kernel
theorem dX11_goesRow_51 : decode cX11_goesRow 51 = .ok (.if_icmp .ge 23, 3) := by decide +kernel
theorem dX11_goesRow_54 : decode cX11_goesRow 54 = .ok (.aload_n 0, 1) := by decide +kernel
theorem dX11_goesRow_55 : decode cX11_goesRow 55 = .ok (.iload_n 1, 1) := by decide +kernel
theorem dX11_goesRow_56 : decode cX11_goesRow 56 = .ok (.iload_n 3, 1) := by decide +kernel
theorem dX11_goesRow_57 : decode cX11_goesRow 57 = .ok (.invokevirtual 450, 3) := by decide +kernel
theorem dX11_goesRow_60 : decode cX11_goesRow 60 = .ok (.invokestatic 422, 3) := by decide +kernel
theorem dX11_goesRow_63 : decode cX11_goesRow 63 = .ok (.ifCond .ne 5, 3) := by decide +kernel
theorem dX11_goesRow_66 : decode cX11_goesRow 66 = .ok (.iconst 5, 1) := by decide +kernel
theorem dX11_goesRow_67 : decode cX11_goesRow 67 = .ok (.ireturn, 1) := by decide +kernel
theorem dX11_goesRow_68 : decode cX11_goesRow 68 = .ok (.iinc 3 1, 3) := by decide +kernel
theorem dX11_goesRow_71 : decode cX11_goesRow 71 = .ok (.goto (-22), 3) := by decide +kernel
theorem dX11_goesRow_74 : decode cX11_goesRow 74 = .ok (.aload_n 0, 1) := by decide +kernel
theorem dX11_goesRow_75 : decode cX11_goesRow 75 = .ok (.getfield 35, 3) := by decide +kernel
theorem dX11_goesRow_78 : decode cX11_goesRow 78 = .ok (.bipush 8, 2) := by decide +kernel
theorem dX11_goesRow_80 : decode cX11_goesRow 80 = .ok (.iaload, 1) := by decide +kernel
theorem dX11_goesRow_81 : decode cX11_goesRow 81 = .ok (.ifCond .ge 8, 3) := by decide +kernel
theorem dX11_goesRow_84 : decode cX11_goesRow 84 = .ok (.bipush 8, 2) := by decide +kernel
theorem dX11_goesRow_86 : decode cX11_goesRow 86 = .ok (.goto 4, 3) := by decide +kernel
theorem dX11_goesRow_89 : decode cX11_goesRow 89 = .ok (.iconst 0, 1) := by decide +kernel
theorem dX11_goesRow_90 : decode cX11_goesRow 90 = .ok (.ireturn, 1) := by decide +kernel
theorem dX11_growsRow_0 : decode cX11_growsRow 0 = .ok (.iconst 0, 1) := by decide +kernel
theorem dX11_growsRow_1 : decode cX11_growsRow 1 = .ok (.istore 4, 2) := by decide +kernel
theorem dX11_growsRow_3 : decode cX11_growsRow 3 = .ok (.aload_n 0, 1) := by decide +kernel
theorem dX11_growsRow_4 : decode cX11_growsRow 4 = .ok (.aload_n 0, 1) := by decide +kernel
theorem dX11_growsRow_5 : decode cX11_growsRow 5 = .ok (.getfield 35, 3) := by decide +kernel
theorem dX11_growsRow_8 : decode cX11_growsRow 8 = .ok (.bipush 8, 2) := by decide +kernel
theorem dX11_growsRow_10 : decode cX11_growsRow 10 = .ok (.iaload, 1) := by decide +kernel
theorem dX11_growsRow_11 : decode cX11_growsRow 11 = .ok (.putfield 454, 3) := by decide +kernel
theorem dX11_growsRow_14 : decode cX11_growsRow 14 = .ok (.iconst 0, 1) := by decide +kernel
theorem dX11_growsRow_15 : decode cX11_growsRow 15 = .ok (.istore 5, 2) := by decide +kernel
theorem dX11_growsRow_17 : decode cX11_growsRow 17 = .ok (.iload 5, 2) := by decide +kernel
theorem dX11_growsRow_19 : decode cX11_growsRow 19 = .ok (.iload_n 2, 1) := by decide +kernel
theorem dX11_growsRow_20 : decode cX11_growsRow 20 = .ok (.if_icmp .ge 51, 3) := by decide +kernel
theorem dX11_growsRow_23 : decode cX11_growsRow 23 = .ok (.iload 4, 2) := by decide +kernel
theorem dX11_growsRow_25 : decode cX11_growsRow 25 = .ok (.iload_n 3, 1) := by decide +kernel
theorem dX11_growsRow_26 : decode cX11_growsRow 26 = .ok (.ifCond .ge 7, 3) := by decide +kernel
theorem dX11_growsRow_29 : decode cX11_growsRow 29 = .ok (.iconst 0, 1) := by decide +kernel
theorem dX11_growsRow_30 : decode cX11_growsRow 30 = .ok (.goto 12, 3) := by decide +kernel
theorem dX11_growsRow_33 : decode cX11_growsRow 33 = .ok (.aload_n 0, 1) := by decide +kernel
theorem dX11_growsRow_34 : decode cX11_growsRow 34 = .ok (.iload_n 3, 1) := by decide +kernel
theorem dX11_growsRow_35 : decode cX11_growsRow 35 = .ok (.aload_n 0, 1) := by decide +kernel
theorem dX11_growsRow_36 : decode cX11_growsRow 36 = .ok (.getfield 454, 3) := by decide +kernel
theorem dX11_growsRow_39 : decode cX11_growsRow 39 = .ok (.invokevirtual 355, 3) := by decide +kernel
theorem dX11_growsRow_42 : decode cX11_growsRow 42 = .ok (.iadd, 1) := by decide +kernel
theorem dX11_growsRow_43 : decode cX11_growsRow 43 = .ok (.istore 4, 2) := by decide +kernel
theorem dX11_growsRow_45 : decode cX11_growsRow 45 = .ok (.aload_n 0, 1) := by decide +kernel
theorem dX11_growsRow_46 : decode cX11_growsRow 46 = .ok (.aload_n 0, 1) := by decide +kernel
theorem dX11_growsRow_47 : decode cX11_growsRow 47 = .ok (.aload_n 0, 1) := by decide +kernel
theorem dX11_growsRow_48 : decode cX11_growsRow 48 = .ok (.getfield 454, 3) := by decide +kernel
theorem dX11_growsRow_51 : decode cX11_growsRow 51 = .ok (.aload_n 0, 1) := by decide +kernel
theorem dX11_growsRow_52 : decode cX11_growsRow 52 = .ok (.iload_n 1, 1) := by decide +kernel
theorem dX11_growsRow_53 : decode cX11_growsRow 53 = .ok (.iload 5, 2) := by decide +kernel
theorem dX11_growsRow_55 : decode cX11_growsRow 55 = .ok (.invokevirtual 450, 3) := by decide +kernel
theorem dX11_growsRow_58 : decode cX11_growsRow 58 = .ok (.l2i, 1) := by decide +kernel
theorem dX11_growsRow_59 : decode cX11_growsRow 59 = .ok (.invokevirtual 349, 3) := by decide +kernel
theorem dX11_growsRow_62 : decode cX11_growsRow 62 = .ok (.putfield 454, 3) := by decide +kernel
theorem dX11_growsRow_65 : decode cX11_growsRow 65 = .ok (.iinc 5 1, 3) := by decide +kernel
theorem dX11_growsRow_68 : decode cX11_growsRow 68 = .ok (.goto (-51), 3) := by decide +kernel
theorem dX11_growsRow_71 : decode cX11_growsRow 71 = .ok (.iload 4, 2) := by decide +kernel
theorem dX11_growsRow_73 : decode cX11_growsRow 73 = .ok (.ireturn, 1) := by decide +kernel
theorem dX11_row_0 : decode cX11_row 0 = .ok (.aload_n 0, 1) := by decide +kernel
theorem dX11_row_1 : decode cX11_row 1 = .ok (.iconst 0, 1) := by decide +kernel
theorem dX11_row_2 : decode cX11_row 2 = .ok (.putfield 71, 3) := by decide +kernel
theorem dX11_row_5 : decode cX11_row 5 = .ok (.aload_n 0, 1) := by decide +kernel
theorem dX11_row_6 : decode cX11_row 6 = .ok (.aload_n 0, 1) := by decide +kernel
theorem dX11_row_7 : decode cX11_row 7 = .ok (.iload_n 1, 1) := by decide +kernel
theorem dX11_row_8 : decode cX11_row 8 = .ok (.iload_n 2, 1) := by decide +kernel
theorem dX11_row_9 : decode cX11_row 9 = .ok (.invokevirtual 457, 3) := by decide +kernel
theorem dX11_row_12 : decode cX11_row 12 = .ok (.putfield 74, 3) := by decide +kernel
theorem dX11_row_15 : decode cX11_row 15 = .ok (.aload_n 0, 1) := by decide +kernel
theorem dX11_row_16 : decode cX11_row 16 = .ok (.getfield 74, 3) := by decide +kernel
theorem dX11_row_19 : decode cX11_row 19 = .ok (.ifCond .le 5, 3) := by decide +kernel
theorem dX11_row_22 : decode cX11_row 22 = .ok (.iconst (-1), 1) := by decide +kernel
theorem dX11_row_23 : decode cX11_row 23 = .ok (.ireturn, 1) := by decide +kernel
theorem dX11_row_24 : decode cX11_row 24 = .ok (.aload_n 0, 1) := by decide +kernel
theorem dX11_row_25 : decode cX11_row 25 = .ok (.iload_n 1, 1) := by decide +kernel
theorem dX11_row_26 : decode cX11_row 26 = .ok (.iload_n 2, 1) := by decide +kernel
theorem dX11_row_27 : decode cX11_row 27 = .ok (.iconst (-1), 1) := by decide +kernel
theorem dX11_row_28 : decode cX11_row 28 = .ok (.invokevirtual 460, 3) := by decide +kernel
theorem dX11_row_31 : decode cX11_row 31 = .ok (.pop, 1) := by decide +kernel
theorem dX11_row_32 : decode cX11_row 32 = .ok (.aload_n 0, 1) := by decide +kernel
theorem dX11_row_33 : decode cX11_row 33 = .ok (.getfield 454, 3) := by decide +kernel
theorem dX11_row_36 : decode cX11_row 36 = .ok (.ireturn, 1) := by decide +kernel
theorem dX11_rowGrows_0 : decode cX11_rowGrows 0 = .ok (.aload_n 0, 1) := by decide +kernel
theorem dX11_rowGrows_1 : decode cX11_rowGrows 1 = .ok (.iconst 0, 1) := by decide +kernel
theorem dX11_rowGrows_2 : decode cX11_rowGrows 2 = .ok (.putfield 71, 3) := by decide +kernel
theorem dX11_rowGrows_5 : decode cX11_rowGrows 5 = .ok (.aload_n 0, 1) := by decide +kernel
theorem dX11_rowGrows_6 : decode cX11_rowGrows 6 = .ok (.aload_n 0, 1) := by decide +kernel
theorem dX11_rowGrows_7 : decode cX11_rowGrows 7 = .ok (.iload_n 1, 1) := by decide +kernel
theorem dX11_rowGrows_8 : decode cX11_rowGrows 8 = .ok (.iload_n 2, 1) := by decide +kernel
theorem dX11_rowGrows_9 : decode cX11_rowGrows 9 = .ok (.invokevirtual 457, 3) := by decide +kernel
theorem dX11_rowGrows_12 : decode cX11_rowGrows 12 = .ok (.putfield 74, 3) := by decide +kernel
theorem dX11_rowGrows_15 : decode cX11_rowGrows 15 = .ok (.aload_n 0, 1) := by decide +kernel
theorem dX11_rowGrows_16 : decode cX11_rowGrows 16 = .ok (.getfield 74, 3) := by decide +kernel
theorem dX11_rowGrows_19 : decode cX11_rowGrows 19 = .ok (.ifCond .le 5, 3) := by decide +kernel
theorem dX11_rowGrows_22 : decode cX11_rowGrows 22 = .ok (.iconst (-1), 1) := by decide +kernel
theorem dX11_rowGrows_23 : decode cX11_rowGrows 23 = .ok (.ireturn, 1) := by decide +kernel
theorem dX11_rowGrows_24 : decode cX11_rowGrows 24 = .ok (.aload_n 0, 1) := by decide +kernel
theorem dX11_rowGrows_25 : decode cX11_rowGrows 25 = .ok (.iload_n 3, 1) := by decide +kernel
theorem dX11_rowGrows_26 : decode cX11_rowGrows 26 = .ok (.invokevirtual 352, 3) := by decide +kernel
theorem dX11_rowGrows_29 : decode cX11_rowGrows 29 = .ok (.ifCond .eq 13, 3) := by decide +kernel
theorem dX11_rowGrows_32 : decode cX11_rowGrows 32 = .ok (.aload_n 0, 1) := by decide +kernel
theorem dX11_rowGrows_33 : decode cX11_rowGrows 33 = .ok (.iload_n 1, 1) := by decide +kernel
theorem dX11_rowGrows_34 : decode cX11_rowGrows 34 = .ok (.iload_n 2, 1) := by decide +kernel
theorem dX11_rowGrows_35 : decode cX11_rowGrows 35 = .ok (.iload_n 3, 1) := by decide +kernel
theorem dX11_rowGrows_36 : decode cX11_rowGrows 36 = .ok (.invokevirtual 460, 3) := by decide +kernel
theorem dX11_rowGrows_39 : decode cX11_rowGrows 39 = .ok (.goto 8, 3) := by decide +kernel
theorem dX11_rowGrows_42 : decode cX11_rowGrows 42 = .ok (.aload_n 0, 1) := by decide +kernel
theorem dX11_rowGrows_43 : decode cX11_rowGrows 43 = .ok (.iconst 2, 1) := by decide +kernel
theorem dX11_rowGrows_44 : decode cX11_rowGrows 44 = .ok (.invokevirtual 340, 3) := by decide +kernel
theorem dX11_rowGrows_47 : decode cX11_rowGrows 47 = .ok (.ireturn, 1) := by decide +kernel
theorem dX11_behindSet_0 : decode cX11_behindSet 0 = .ok (.iconst 0, 1) := by decide +kernel
theorem dX11_behindSet_1 : decode cX11_behindSet 1 = .ok (.istore_n 2, 1) := by decide +kernel
theorem dX11_behindSet_2 : decode cX11_behindSet 2 = .ok (.iconst 0, 1) := by decide +kernel
theorem dX11_behindSet_3 : decode cX11_behindSet 3 = .ok (.istore_n 3, 1) := by decide +kernel
theorem dX11_behindSet_4 : decode cX11_behindSet 4 = .ok (.iload_n 3, 1) := by decide +kernel
theorem dX11_behindSet_5 : decode cX11_behindSet 5 = .ok (.aload_n 0, 1) := by decide +kernel
theorem dX11_behindSet_6 : decode cX11_behindSet 6 = .ok (.getfield 35, 3) := by decide +kernel
theorem dX11_behindSet_9 : decode cX11_behindSet 9 = .ok (.iconst 2, 1) := by decide +kernel
theorem dX11_behindSet_10 : decode cX11_behindSet 10 = .ok (.iaload, 1) := by decide +kernel
theorem dX11_behindSet_11 : decode cX11_behindSet 11 = .ok (.if_icmp .ge 49, 3) := by decide +kernel
theorem dX11_behindSet_14 : decode cX11_behindSet 14 = .ok (.iload_n 2, 1) := by decide +kernel
theorem dX11_behindSet_15 : decode cX11_behindSet 15 = .ok (.iload_n 1, 1) := by decide +kernel
theorem dX11_behindSet_16 : decode cX11_behindSet 16 = .ok (.iload_n 3, 1) := by decide +kernel
theorem dX11_behindSet_17 : decode cX11_behindSet 17 = .ok (.invokestatic 110, 3) := by decide +kernel
theorem dX11_behindSet_20 : decode cX11_behindSet 20 = .ok (.ifCond .eq 31, 3) := by decide +kernel
theorem dX11_behindSet_23 : decode cX11_behindSet 23 = .ok (.iconst 1, 1) := by decide +kernel
theorem dX11_behindSet_24 : decode cX11_behindSet 24 = .ok (.aload_n 0, 1) := by decide +kernel
theorem dX11_behindSet_25 : decode cX11_behindSet 25 = .ok (.getfield 35, 3) := by decide +kernel
theorem dX11_behindSet_28 : decode cX11_behindSet 28 = .ok (.sipush 158, 3) := by decide +kernel
theorem dX11_behindSet_31 : decode cX11_behindSet 31 = .ok (.iload_n 3, 1) := by decide +kernel
theorem dX11_behindSet_32 : decode cX11_behindSet 32 = .ok (.iadd, 1) := by decide +kernel
theorem dX11_behindSet_33 : decode cX11_behindSet 33 = .ok (.iaload, 1) := by decide +kernel
theorem dX11_behindSet_34 : decode cX11_behindSet 34 = .ok (.ishl, 1) := by decide +kernel
theorem dX11_behindSet_35 : decode cX11_behindSet 35 = .ok (.iconst 1, 1) := by decide +kernel
theorem dX11_behindSet_36 : decode cX11_behindSet 36 = .ok (.aload_n 0, 1) := by decide +kernel
theorem dX11_behindSet_37 : decode cX11_behindSet 37 = .ok (.getfield 35, 3) := by decide +kernel
theorem dX11_behindSet_40 : decode cX11_behindSet 40 = .ok (.sipush 164, 3) := by decide +kernel
theorem dX11_behindSet_43 : decode cX11_behindSet 43 = .ok (.iload_n 3, 1) := by decide +kernel
theorem dX11_behindSet_44 : decode cX11_behindSet 44 = .ok (.iadd, 1) := by decide +kernel
theorem dX11_behindSet_45 : decode cX11_behindSet 45 = .ok (.iaload, 1) := by decide +kernel
theorem dX11_behindSet_46 : decode cX11_behindSet 46 = .ok (.ishl, 1) := by decide +kernel
theorem dX11_behindSet_47 : decode cX11_behindSet 47 = .ok (.ior, 1) := by decide +kernel
theorem dX11_behindSet_48 : decode cX11_behindSet 48 = .ok (.goto 4, 3) := by decide +kernel
theorem dX11_behindSet_51 : decode cX11_behindSet 51 = .ok (.iconst 0, 1) := by decide +kernel
theorem dX11_behindSet_52 : decode cX11_behindSet 52 = .ok (.ior, 1) := by decide +kernel
theorem dX11_behindSet_53 : decode cX11_behindSet 53 = .ok (.istore_n 2, 1) := by decide +kernel
theorem dX11_behindSet_54 : decode cX11_behindSet 54 = .ok (.iinc 3 1, 3) := by decide +kernel
theorem dX11_behindSet_57 : decode cX11_behindSet 57 = .ok (.goto (-53), 3) := by decide +kernel
theorem dX11_behindSet_60 : decode cX11_behindSet 60 = .ok (.iload_n 2, 1) := by decide +kernel
theorem dX11_behindSet_61 : decode cX11_behindSet 61 = .ok (.ireturn, 1) := by decide +kernel
theorem dX11_way_0 : decode cX11_way 0 = .ok (.aload_n 0, 1) := by decide +kernel
theorem dX11_way_1 : decode cX11_way 1 = .ok (.iconst 0, 1) := by decide +kernel
theorem dX11_way_2 : decode cX11_way 2 = .ok (.putfield 71, 3) := by decide +kernel
theorem dX11_way_5 : decode cX11_way 5 = .ok (.aload_n 0, 1) := by decide +kernel
theorem dX11_way_6 : decode cX11_way 6 = .ok (.iconst 0, 1) := by decide +kernel
theorem dX11_way_7 : decode cX11_way 7 = .ok (.putfield 74, 3) := by decide +kernel
theorem dX11_way_10 : decode cX11_way 10 = .ok (.aload_n 0, 1) := by decide +kernel
theorem dX11_way_11 : decode cX11_way 11 = .ok (.iload_n 1, 1) := by decide +kernel
theorem dX11_way_12 : decode cX11_way 12 = .ok (.invokevirtual 346, 3) := by decide +kernel
theorem dX11_way_15 : decode cX11_way 15 = .ok (.ifCond .ne 9, 3) := by decide +kernel
theorem dX11_way_18 : decode cX11_way 18 = .ok (.aload_n 0, 1) := by decide +kernel
theorem dX11_way_19 : decode cX11_way 19 = .ok (.iconst 2, 1) := by decide +kernel
theorem dX11_way_20 : decode cX11_way 20 = .ok (.invokevirtual 340, 3) := by decide +kernel
theorem dX11_way_23 : decode cX11_way 23 = .ok (.ireturn, 1) := by decide +kernel
theorem dX11_way_24 : decode cX11_way 24 = .ok (.iconst 1, 1) := by decide +kernel
theorem dX11_way_25 : decode cX11_way 25 = .ok (.aload_n 0, 1) := by decide +kernel
theorem dX11_way_26 : decode cX11_way 26 = .ok (.getfield 35, 3) := by decide +kernel
theorem dX11_way_29 : decode cX11_way 29 = .ok (.bipush 8, 2) := by decide +kernel
theorem dX11_way_31 : decode cX11_way 31 = .ok (.iaload, 1) := by decide +kernel
theorem dX11_way_32 : decode cX11_way 32 = .ok (.ishl, 1) := by decide +kernel
theorem dX11_way_33 : decode cX11_way 33 = .ok (.istore_n 2, 1) := by decide +kernel
theorem dX11_way_34 : decode cX11_way 34 = .ok (.iconst 0, 1) := by decide +kernel
theorem dX11_way_35 : decode cX11_way 35 = .ok (.istore_n 3, 1) := by decide +kernel
theorem dX11_way_36 : decode cX11_way 36 = .ok (.iload_n 3, 1) := by decide +kernel
theorem dX11_way_37 : decode cX11_way 37 = .ok (.bipush 6, 2) := by decide +kernel
theorem dX11_way_39 : decode cX11_way 39 = .ok (.if_icmp .gt 27, 3) := by decide +kernel
theorem dX11_way_42 : decode cX11_way 42 = .ok (.iload_n 2, 1) := by decide +kernel
theorem dX11_way_43 : decode cX11_way 43 = .ok (.iload_n 1, 1) := by decide +kernel
theorem dX11_way_44 : decode cX11_way 44 = .ok (.invokestatic 110, 3) := by decide +kernel
theorem dX11_way_47 : decode cX11_way 47 = .ok (.ifCond .eq 5, 3) := by decide +kernel
theorem dX11_way_50 : decode cX11_way 50 = .ok (.iload_n 3, 1) := by decide +kernel
theorem dX11_way_51 : decode cX11_way 51 = .ok (.ireturn, 1) := by decide +kernel
theorem dX11_way_52 : decode cX11_way 52 = .ok (.iload_n 2, 1) := by decide +kernel
theorem dX11_way_53 : decode cX11_way 53 = .ok (.aload_n 0, 1) := by decide +kernel
theorem dX11_way_54 : decode cX11_way 54 = .ok (.iload_n 2, 1) := by decide +kernel
theorem dX11_way_55 : decode cX11_way 55 = .ok (.invokevirtual 463, 3) := by decide +kernel
theorem dX11_way_58 : decode cX11_way 58 = .ok (.ior, 1) := by decide +kernel
theorem dX11_way_59 : decode cX11_way 59 = .ok (.istore_n 2, 1) := by decide +kernel
theorem dX11_way_60 : decode cX11_way 60 = .ok (.iinc 3 1, 3) := by decide +kernel
theorem dX11_way_63 : decode cX11_way 63 = .ok (.goto (-27), 3) := by decide +kernel
theorem dX11_way_66 : decode cX11_way 66 = .ok (.aload_n 0, 1) := by decide +kernel
theorem dX11_way_67 : decode cX11_way 67 = .ok (.bipush 8, 2) := by decide +kernel
theorem dX11_way_69 : decode cX11_way 69 = .ok (.invokevirtual 340, 3) := by decide +kernel
theorem dX11_way_72 : decode cX11_way 72 = .ok (.ireturn, 1) := by decide +kernel
theorem dX11_reach_0 : decode cX11_reach 0 = .ok (.aload_n 0, 1) := by decide +kernel
theorem dX11_reach_1 : decode cX11_reach 1 = .ok (.iconst 0, 1) := by decide +kernel
theorem dX11_reach_2 : decode cX11_reach 2 = .ok (.putfield 71, 3) := by decide +kernel
theorem dX11_reach_5 : decode cX11_reach 5 = .ok (.aload_n 0, 1) := by decide +kernel
theorem dX11_reach_6 : decode cX11_reach 6 = .ok (.iconst 0, 1) := by decide +kernel
theorem dX11_reach_7 : decode cX11_reach 7 = .ok (.putfield 74, 3) := by decide +kernel
theorem dX11_reach_10 : decode cX11_reach 10 = .ok (.aload_n 0, 1) := by decide +kernel
theorem dX11_reach_11 : decode cX11_reach 11 = .ok (.getfield 35, 3) := by decide +kernel
theorem dX11_reach_14 : decode cX11_reach 14 = .ok (.bipush 8, 2) := by decide +kernel
theorem dX11_reach_16 : decode cX11_reach 16 = .ok (.iaload, 1) := by decide +kernel
theorem dX11_reach_17 : decode cX11_reach 17 = .ok (.ifCond .ge 7, 3) := by decide +kernel
theorem dX11_reach_20 : decode cX11_reach 20 = .ok (.iconst 0, 1) := by decide +kernel
theorem dX11_reach_21 : decode cX11_reach 21 = .ok (.goto 12, 3) := by decide +kernel
theorem dX11_reach_24 : decode cX11_reach 24 = .ok (.iconst 1, 1) := by decide +kernel
theorem dX11_reach_25 : decode cX11_reach 25 = .ok (.aload_n 0, 1) := by decide +kernel
theorem dX11_reach_26 : decode cX11_reach 26 = .ok (.getfield 35, 3) := by decide +kernel
theorem dX11_reach_29 : decode cX11_reach 29 = .ok (.bipush 8, 2) := by decide +kernel
theorem dX11_reach_31 : decode cX11_reach 31 = .ok (.iaload, 1) := by decide +kernel
theorem dX11_reach_32 : decode cX11_reach 32 = .ok (.ishl, 1) := by decide +kernel
theorem dX11_reach_33 : decode cX11_reach 33 = .ok (.istore_n 1, 1) := by decide +kernel
theorem dX11_reach_34 : decode cX11_reach 34 = .ok (.iconst 0, 1) := by decide +kernel
theorem dX11_reach_35 : decode cX11_reach 35 = .ok (.istore_n 2, 1) := by decide +kernel
theorem dX11_reach_36 : decode cX11_reach 36 = .ok (.iload_n 2, 1) := by decide +kernel
theorem dX11_reach_37 : decode cX11_reach 37 = .ok (.bipush 6, 2) := by decide +kernel
theorem dX11_reach_39 : decode cX11_reach 39 = .ok (.if_icmp .ge 17, 3) := by decide +kernel
theorem dX11_reach_42 : decode cX11_reach 42 = .ok (.iload_n 1, 1) := by decide +kernel
theorem dX11_reach_43 : decode cX11_reach 43 = .ok (.aload_n 0, 1) := by decide +kernel
theorem dX11_reach_44 : decode cX11_reach 44 = .ok (.iload_n 1, 1) := by decide +kernel
theorem dX11_reach_45 : decode cX11_reach 45 = .ok (.invokevirtual 463, 3) := by decide +kernel
theorem dX11_reach_48 : decode cX11_reach 48 = .ok (.ior, 1) := by decide +kernel
theorem dX11_reach_49 : decode cX11_reach 49 = .ok (.istore_n 1, 1) := by decide +kernel
theorem dX11_reach_50 : decode cX11_reach 50 = .ok (.iinc 2 1, 3) := by decide +kernel
theorem dX11_reach_53 : decode cX11_reach 53 = .ok (.goto (-17), 3) := by decide +kernel
theorem dX11_reach_56 : decode cX11_reach 56 = .ok (.iload_n 1, 1) := by decide +kernel
theorem dX11_reach_57 : decode cX11_reach 57 = .ok (.ireturn, 1) := by decide +kernel
theorem dX11_harvests_0 : decode cX11_harvests 0 = .ok (.iconst 0, 1) := by decide +kernel
theorem dX11_harvests_1 : decode cX11_harvests 1 = .ok (.istore_n 3, 1) := by decide +kernel
theorem dX11_harvests_2 : decode cX11_harvests 2 = .ok (.iload_n 3, 1) := by decide +kernel
theorem dX11_harvests_3 : decode cX11_harvests 3 = .ok (.bipush 6, 2) := by decide +kernel
theorem dX11_harvests_5 : decode cX11_harvests 5 = .ok (.if_icmp .ge 16, 3) := by decide +kernel
theorem dX11_harvests_8 : decode cX11_harvests 8 = .ok (.aload_n 0, 1) := by decide +kernel
theorem dX11_harvests_9 : decode cX11_harvests 9 = .ok (.getfield 62, 3) := by decide +kernel
theorem dX11_harvests_12 : decode cX11_harvests 12 = .ok (.iload_n 3, 1) := by decide +kernel
theorem dX11_harvests_13 : decode cX11_harvests 13 = .ok (.iconst 0, 1) := by decide +kernel
theorem dX11_harvests_14 : decode cX11_harvests 14 = .ok (.iastore, 1) := by decide +kernel
theorem dX11_harvests_15 : decode cX11_harvests 15 = .ok (.iinc 3 1, 3) := by decide +kernel
theorem dX11_harvests_18 : decode cX11_harvests 18 = .ok (.goto (-16), 3) := by decide +kernel
theorem dX11_harvests_21 : decode cX11_harvests 21 = .ok (.iconst 1, 1) := by decide +kernel
theorem dX11_harvests_22 : decode cX11_harvests 22 = .ok (.istore_n 3, 1) := by decide +kernel
theorem dX11_harvests_23 : decode cX11_harvests 23 = .ok (.iload_n 3, 1) := by decide +kernel
theorem dX11_harvests_24 : decode cX11_harvests 24 = .ok (.iload_n 2, 1) := by decide +kernel
theorem dX11_harvests_25 : decode cX11_harvests 25 = .ok (.if_icmp .gt 109, 3) := by decide +kernel
theorem dX11_harvests_28 : decode cX11_harvests 28 = .ok (.iconst 0, 1) := by decide +kernel
theorem dX11_harvests_29 : decode cX11_harvests 29 = .ok (.istore 4, 2) := by decide +kernel
theorem dX11_harvests_31 : decode cX11_harvests 31 = .ok (.iload 4, 2) := by decide +kernel
theorem dX11_harvests_33 : decode cX11_harvests 33 = .ok (.aload_n 0, 1) := by decide +kernel
theorem dX11_harvests_34 : decode cX11_harvests 34 = .ok (.getfield 35, 3) := by decide +kernel
theorem dX11_harvests_37 : decode cX11_harvests 37 = .ok (.iconst 2, 1) := by decide +kernel
theorem dX11_harvests_38 : decode cX11_harvests 38 = .ok (.iaload, 1) := by decide +kernel
theorem dX11_harvests_39 : decode cX11_harvests 39 = .ok (.if_icmp .ge 89, 3) := by decide +kernel
theorem dX11_harvests_42 : decode cX11_harvests 42 = .ok (.aload_n 0, 1) := by decide +kernel
theorem dX11_harvests_43 : decode cX11_harvests 43 = .ok (.getfield 62, 3) := by decide +kernel
theorem dX11_harvests_46 : decode cX11_harvests 46 = .ok (.bipush 6, 2) := by decide +kernel
theorem dX11_harvests_48 : decode cX11_harvests 48 = .ok (.iload_n 3, 1) := by decide +kernel
theorem dX11_harvests_49 : decode cX11_harvests 49 = .ok (.iconst 1, 1) := by decide +kernel
theorem dX11_harvests_50 : decode cX11_harvests 50 = .ok (.isub, 1) := by decide +kernel
theorem dX11_harvests_51 : decode cX11_harvests 51 = .ok (.imul, 1) := by decide +kernel
theorem dX11_harvests_52 : decode cX11_harvests 52 = .ok (.iload 4, 2) := by decide +kernel
theorem dX11_harvests_54 : decode cX11_harvests 54 = .ok (.iadd, 1) := by decide +kernel
theorem dX11_harvests_55 : decode cX11_harvests 55 = .ok (.iaload, 1) := by decide +kernel
theorem dX11_harvests_56 : decode cX11_harvests 56 = .ok (.istore 5, 2) := by decide +kernel
theorem dX11_harvests_58 : decode cX11_harvests 58 = .ok (.iconst (-1), 1) := by decide +kernel
theorem dX11_harvests_59 : decode cX11_harvests 59 = .ok (.istore 6, 2) := by decide +kernel
theorem dX11_harvests_61 : decode cX11_harvests 61 = .ok (.iload 6, 2) := by decide +kernel
theorem dX11_harvests_63 : decode cX11_harvests 63 = .ok (.iconst 2, 1) := by decide +kernel
theorem dX11_harvests_64 : decode cX11_harvests 64 = .ok (.if_icmp .ge 36, 3) := by decide +kernel
theorem dX11_harvests_67 : decode cX11_harvests 67 = .ok (.iload 5, 2) := by decide +kernel
theorem dX11_harvests_69 : decode cX11_harvests 69 = .ok (.aload_n 0, 1) := by decide +kernel
theorem dX11_harvests_70 : decode cX11_harvests 70 = .ok (.getfield 62, 3) := by decide +kernel
theorem dX11_harvests_73 : decode cX11_harvests 73 = .ok (.bipush 6, 2) := by decide +kernel
theorem dX11_harvests_75 : decode cX11_harvests 75 = .ok (.iload_n 3, 1) := by decide +kernel
theorem dX11_harvests_76 : decode cX11_harvests 76 = .ok (.iconst 1, 1) := by decide +kernel
theorem dX11_harvests_77 : decode cX11_harvests 77 = .ok (.isub, 1) := by decide +kernel
theorem dX11_harvests_78 : decode cX11_harvests 78 = .ok (.imul, 1) := by decide +kernel
theorem dX11_harvests_79 : decode cX11_harvests 79 = .ok (.aload_n 0, 1) := by decide +kernel
theorem dX11_harvests_80 : decode cX11_harvests 80 = .ok (.iload 4, 2) := by decide +kernel
theorem dX11_harvests_82 : decode cX11_harvests 82 = .ok (.iload 6, 2) := by decide +kernel
theorem dX11_harvests_84 : decode cX11_harvests 84 = .ok (.invokevirtual 349, 3) := by decide +kernel
theorem dX11_harvests_87 : decode cX11_harvests 87 = .ok (.iadd, 1) := by decide +kernel
theorem dX11_harvests_88 : decode cX11_harvests 88 = .ok (.iaload, 1) := by decide +kernel
theorem dX11_harvests_89 : decode cX11_harvests 89 = .ok (.invokestatic 264, 3) := by decide +kernel
theorem dX11_harvests_92 : decode cX11_harvests 92 = .ok (.istore 5, 2) := by decide +kernel
theorem dX11_harvests_94 : decode cX11_harvests 94 = .ok (.iinc 6 2, 3) := by decide +kernel
theorem dX11_harvests_97 : decode cX11_harvests 97 = .ok (.goto (-36), 3) := by decide +kernel
theorem dX11_harvests_100 : decode cX11_harvests 100 = .ok (.aload_n 0, 1) := by decide +kernel
theorem dX11_harvests_101 : decode cX11_harvests 101 = .ok (.getfield 62, 3) := by decide +kernel
theorem dX11_harvests_104 : decode cX11_harvests 104 = .ok (.bipush 6, 2) := by decide +kernel
theorem dX11_harvests_106 : decode cX11_harvests 106 = .ok (.iload_n 3, 1) := by decide +kernel
theorem dX11_harvests_107 : decode cX11_harvests 107 = .ok (.imul, 1) := by decide +kernel
theorem dX11_harvests_108 : decode cX11_harvests 108 = .ok (.iload 4, 2) := by decide +kernel
theorem dX11_harvests_110 : decode cX11_harvests 110 = .ok (.iadd, 1) := by decide +kernel
theorem dX11_harvests_111 : decode cX11_harvests 111 = .ok (.iload 5, 2) := by decide +kernel
theorem dX11_harvests_113 : decode cX11_harvests 113 = .ok (.aload_n 0, 1) := by decide +kernel
theorem dX11_harvests_114 : decode cX11_harvests 114 = .ok (.iload_n 1, 1) := by decide +kernel
theorem dX11_harvests_115 : decode cX11_harvests 115 = .ok (.iload 4, 2) := by decide +kernel
theorem dX11_harvests_117 : decode cX11_harvests 117 = .ok (.invokevirtual 355, 3) := by decide +kernel
theorem dX11_harvests_120 : decode cX11_harvests 120 = .ok (.iadd, 1) := by decide +kernel
theorem dX11_harvests_121 : decode cX11_harvests 121 = .ok (.iastore, 1) := by decide +kernel
theorem dX11_harvests_122 : decode cX11_harvests 122 = .ok (.iinc 4 1, 3) := by decide +kernel
theorem dX11_harvests_125 : decode cX11_harvests 125 = .ok (.goto (-94), 3) := by decide +kernel
theorem dX11_harvests_128 : decode cX11_harvests 128 = .ok (.iinc 3 1, 3) := by decide +kernel
theorem dX11_harvests_131 : decode cX11_harvests 131 = .ok (.goto (-108), 3) := by decide +kernel
theorem dX11_harvests_134 : decode cX11_harvests 134 = .ok (.return_, 1) := by decide +kernel
theorem dX11_whyNoHarvest_0 : decode cX11_whyNoHarvest 0 = .ok (.aload_n 0, 1) := by decide +kernel
theorem dX11_whyNoHarvest_1 : decode cX11_whyNoHarvest 1 = .ok (.iload_n 1, 1) := by decide +kernel
theorem dX11_whyNoHarvest_2 : decode cX11_whyNoHarvest 2 = .ok (.invokevirtual 352, 3) := by decide +kernel
theorem dX11_whyNoHarvest_5 : decode cX11_whyNoHarvest 5 = .ok (.ifCond .ne 7, 3) := by decide +kernel
theorem dX11_whyNoHarvest_8 : decode cX11_whyNoHarvest 8 = .ok (.iconst 2, 1) := by decide +kernel
theorem dX11_whyNoHarvest_9 : decode cX11_whyNoHarvest 9 = .ok (.goto 35, 3) := by decide +kernel
theorem dX11_whyNoHarvest_12 : decode cX11_whyNoHarvest 12 = .ok (.iload_n 2, 1) := by decide +kernel
theorem dX11_whyNoHarvest_13 : decode cX11_whyNoHarvest 13 = .ok (.i2l, 1) := by decide +kernel
theorem dX11_whyNoHarvest_14 : decode cX11_whyNoHarvest 14 = .ok (.lconst 1, 1) := by decide +kernel
theorem dX11_whyNoHarvest_15 : decode cX11_whyNoHarvest 15 = .ok (.ldc2_w 165, 3) := by decide +kernel
theorem dX11_whyNoHarvest_18 : decode cX11_whyNoHarvest 18 = .ok (.invokestatic 106, 3) := by decide +kernel
theorem dX11_whyNoHarvest_21 : decode cX11_whyNoHarvest 21 = .ok (.ifCond .ne 7, 3) := by decide +kernel
theorem dX11_whyNoHarvest_24 : decode cX11_whyNoHarvest 24 = .ok (.iconst 5, 1) := by decide +kernel
theorem dX11_whyNoHarvest_25 : decode cX11_whyNoHarvest 25 = .ok (.goto 19, 3) := by decide +kernel
theorem dX11_whyNoHarvest_28 : decode cX11_whyNoHarvest 28 = .ok (.aload_n 0, 1) := by decide +kernel
theorem dX11_whyNoHarvest_29 : decode cX11_whyNoHarvest 29 = .ok (.getfield 35, 3) := by decide +kernel
theorem dX11_whyNoHarvest_32 : decode cX11_whyNoHarvest 32 = .ok (.bipush 8, 2) := by decide +kernel
theorem dX11_whyNoHarvest_34 : decode cX11_whyNoHarvest 34 = .ok (.iaload, 1) := by decide +kernel
theorem dX11_whyNoHarvest_35 : decode cX11_whyNoHarvest 35 = .ok (.ifCond .ge 8, 3) := by decide +kernel
theorem dX11_whyNoHarvest_38 : decode cX11_whyNoHarvest 38 = .ok (.bipush 8, 2) := by decide +kernel
theorem dX11_whyNoHarvest_40 : decode cX11_whyNoHarvest 40 = .ok (.goto 4, 3) := by decide +kernel
theorem dX11_whyNoHarvest_43 : decode cX11_whyNoHarvest 43 = .ok (.iconst 0, 1) := by decide +kernel
theorem dX11_whyNoHarvest_44 : decode cX11_whyNoHarvest 44 = .ok (.ireturn, 1) := by decide +kernel
theorem dX11_harvest_0 : decode cX11_harvest 0 = .ok (.aload_n 0, 1) := by decide +kernel
theorem dX11_harvest_1 : decode cX11_harvest 1 = .ok (.iconst 0, 1) := by decide +kernel
theorem dX11_harvest_2 : decode cX11_harvest 2 = .ok (.putfield 71, 3) := by decide +kernel
theorem dX11_harvest_5 : decode cX11_harvest 5 = .ok (.aload_n 0, 1) := by decide +kernel
theorem dX11_harvest_6 : decode cX11_harvest 6 = .ok (.aload_n 0, 1) := by decide +kernel
theorem dX11_harvest_7 : decode cX11_harvest 7 = .ok (.iload_n 1, 1) := by decide +kernel
theorem dX11_harvest_8 : decode cX11_harvest 8 = .ok (.iload_n 2, 1) := by decide +kernel
theorem dX11_harvest_9 : decode cX11_harvest 9 = .ok (.invokevirtual 466, 3) := by decide +kernel
theorem dX11_harvest_12 : decode cX11_harvest 12 = .ok (.putfield 74, 3) := by decide +kernel
theorem dX11_harvest_15 : decode cX11_harvest 15 = .ok (.aload_n 0, 1) := by decide +kernel
theorem dX11_harvest_16 : decode cX11_harvest 16 = .ok (.getfield 74, 3) := by decide +kernel
theorem dX11_harvest_19 : decode cX11_harvest 19 = .ok (.ifCond .le 5, 3) := by decide +kernel
theorem dX11_harvest_22 : decode cX11_harvest 22 = .ok (.iconst (-1), 1) := by decide +kernel
theorem dX11_harvest_23 : decode cX11_harvest 23 = .ok (.ireturn, 1) := by decide +kernel
theorem dX11_harvest_24 : decode cX11_harvest 24 = .ok (.aload_n 0, 1) := by decide +kernel
theorem dX11_harvest_25 : decode cX11_harvest 25 = .ok (.iload_n 1, 1) := by decide +kernel
theorem dX11_harvest_26 : decode cX11_harvest 26 = .ok (.iload_n 2, 1) := by decide +kernel
theorem dX11_harvest_27 : decode cX11_harvest 27 = .ok (.invokevirtual 469, 3) := by decide +kernel
theorem dX11_harvest_30 : decode cX11_harvest 30 = .ok (.aload_n 0, 1) := by decide +kernel
theorem dX11_harvest_31 : decode cX11_harvest 31 = .ok (.getfield 62, 3) := by decide +kernel
theorem dX11_harvest_34 : decode cX11_harvest 34 = .ok (.bipush 6, 2) := by decide +kernel
theorem dX11_harvest_36 : decode cX11_harvest 36 = .ok (.iload_n 2, 1) := by decide +kernel
theorem dX11_harvest_37 : decode cX11_harvest 37 = .ok (.imul, 1) := by decide +kernel
theorem dX11_harvest_38 : decode cX11_harvest 38 = .ok (.aload_n 0, 1) := by decide +kernel
theorem dX11_harvest_39 : decode cX11_harvest 39 = .ok (.getfield 35, 3) := by decide +kernel
theorem dX11_harvest_42 : decode cX11_harvest 42 = .ok (.bipush 8, 2) := by decide +kernel
theorem dX11_harvest_44 : decode cX11_harvest 44 = .ok (.iaload, 1) := by decide +kernel
theorem dX11_harvest_45 : decode cX11_harvest 45 = .ok (.iadd, 1) := by decide +kernel
theorem dX11_harvest_46 : decode cX11_harvest 46 = .ok (.iaload, 1) := by decide +kernel
theorem dX11_harvest_47 : decode cX11_harvest 47 = .ok (.ireturn, 1) := by decide +kernel
theorem dX11_harvestNow_0 : decode cX11_harvestNow 0 = .ok (.aload_n 0, 1) := by decide +kernel
theorem dX11_harvestNow_1 : decode cX11_harvestNow 1 = .ok (.iconst 0, 1) := by decide +kernel
theorem dX11_harvestNow_2 : decode cX11_harvestNow 2 = .ok (.putfield 71, 3) := by decide +kernel
theorem dX11_harvestNow_5 : decode cX11_harvestNow 5 = .ok (.aload_n 0, 1) := by decide +kernel
theorem dX11_harvestNow_6 : decode cX11_harvestNow 6 = .ok (.aload_n 0, 1) := by decide +kernel
theorem dX11_harvestNow_7 : decode cX11_harvestNow 7 = .ok (.iload_n 1, 1) := by decide +kernel
theorem dX11_harvestNow_8 : decode cX11_harvestNow 8 = .ok (.iload_n 2, 1) := by decide +kernel
theorem dX11_harvestNow_9 : decode cX11_harvestNow 9 = .ok (.invokevirtual 466, 3) := by decide +kernel
theorem dX11_harvestNow_12 : decode cX11_harvestNow 12 = .ok (.putfield 74, 3) := by decide +kernel
theorem dX11_harvestNow_15 : decode cX11_harvestNow 15 = .ok (.aload_n 0, 1) := by decide +kernel
theorem dX11_harvestNow_16 : decode cX11_harvestNow 16 = .ok (.getfield 74, 3) := by decide +kernel
theorem dX11_harvestNow_19 : decode cX11_harvestNow 19 = .ok (.ifCond .le 5, 3) := by decide +kernel
theorem dX11_harvestNow_22 : decode cX11_harvestNow 22 = .ok (.iconst (-1), 1) := by decide +kernel
theorem dX11_harvestNow_23 : decode cX11_harvestNow 23 = .ok (.ireturn, 1) := by decide +kernel
theorem dX11_harvestNow_24 : decode cX11_harvestNow 24 = .ok (.aload_n 0, 1) := by decide +kernel
theorem dX11_harvestNow_25 : decode cX11_harvestNow 25 = .ok (.iload_n 1, 1) := by decide +kernel
theorem dX11_harvestNow_26 : decode cX11_harvestNow 26 = .ok (.iload_n 2, 1) := by decide +kernel
theorem dX11_harvestNow_27 : decode cX11_harvestNow 27 = .ok (.invokevirtual 469, 3) := by decide +kernel
theorem dX11_harvestNow_30 : decode cX11_harvestNow 30 = .ok (.iconst 1, 1) := by decide +kernel
theorem dX11_harvestNow_31 : decode cX11_harvestNow 31 = .ok (.istore_n 3, 1) := by decide +kernel
theorem dX11_harvestNow_32 : decode cX11_harvestNow 32 = .ok (.iconst 0, 1) := by decide +kernel
theorem dX11_harvestNow_33 : decode cX11_harvestNow 33 = .ok (.istore 4, 2) := by decide +kernel
theorem dX11_harvestNow_35 : decode cX11_harvestNow 35 = .ok (.iload 4, 2) := by decide +kernel
theorem dX11_harvestNow_37 : decode cX11_harvestNow 37 = .ok (.bipush (-2), 2) := by decide +kernel
theorem dX11_harvestNow_39 : decode cX11_harvestNow 39 = .ok (.if_icmp .le 64, 3) := by decide +kernel
theorem dX11_harvestNow_42 : decode cX11_harvestNow 42 = .ok (.aload_n 0, 1) := by decide +kernel
theorem dX11_harvestNow_43 : decode cX11_harvestNow 43 = .ok (.getfield 62, 3) := by decide +kernel
theorem dX11_harvestNow_46 : decode cX11_harvestNow 46 = .ok (.bipush 6, 2) := by decide +kernel
theorem dX11_harvestNow_48 : decode cX11_harvestNow 48 = .ok (.iload_n 2, 1) := by decide +kernel
theorem dX11_harvestNow_49 : decode cX11_harvestNow 49 = .ok (.iconst 1, 1) := by decide +kernel
theorem dX11_harvestNow_50 : decode cX11_harvestNow 50 = .ok (.isub, 1) := by decide +kernel
theorem dX11_harvestNow_51 : decode cX11_harvestNow 51 = .ok (.imul, 1) := by decide +kernel
theorem dX11_harvestNow_52 : decode cX11_harvestNow 52 = .ok (.aload_n 0, 1) := by decide +kernel
theorem dX11_harvestNow_53 : decode cX11_harvestNow 53 = .ok (.aload_n 0, 1) := by decide +kernel
theorem dX11_harvestNow_54 : decode cX11_harvestNow 54 = .ok (.getfield 35, 3) := by decide +kernel
theorem dX11_harvestNow_57 : decode cX11_harvestNow 57 = .ok (.bipush 8, 2) := by decide +kernel
theorem dX11_harvestNow_59 : decode cX11_harvestNow 59 = .ok (.iaload, 1) := by decide +kernel
theorem dX11_harvestNow_60 : decode cX11_harvestNow 60 = .ok (.iload 4, 2) := by decide +kernel
theorem dX11_harvestNow_62 : decode cX11_harvestNow 62 = .ok (.invokevirtual 349, 3) := by decide +kernel
theorem dX11_harvestNow_65 : decode cX11_harvestNow 65 = .ok (.iadd, 1) := by decide +kernel
theorem dX11_harvestNow_66 : decode cX11_harvestNow 66 = .ok (.iaload, 1) := by decide +kernel
theorem dX11_harvestNow_67 : decode cX11_harvestNow 67 = .ok (.aload_n 0, 1) := by decide +kernel
theorem dX11_harvestNow_68 : decode cX11_harvestNow 68 = .ok (.getfield 62, 3) := by decide +kernel
theorem dX11_harvestNow_71 : decode cX11_harvestNow 71 = .ok (.bipush 6, 2) := by decide +kernel
theorem dX11_harvestNow_73 : decode cX11_harvestNow 73 = .ok (.iload_n 2, 1) := by decide +kernel
theorem dX11_harvestNow_74 : decode cX11_harvestNow 74 = .ok (.iconst 1, 1) := by decide +kernel
theorem dX11_harvestNow_75 : decode cX11_harvestNow 75 = .ok (.isub, 1) := by decide +kernel
theorem dX11_harvestNow_76 : decode cX11_harvestNow 76 = .ok (.imul, 1) := by decide +kernel
theorem dX11_harvestNow_77 : decode cX11_harvestNow 77 = .ok (.aload_n 0, 1) := by decide +kernel
theorem dX11_harvestNow_78 : decode cX11_harvestNow 78 = .ok (.aload_n 0, 1) := by decide +kernel
theorem dX11_harvestNow_79 : decode cX11_harvestNow 79 = .ok (.getfield 35, 3) := by decide +kernel
theorem dX11_harvestNow_82 : decode cX11_harvestNow 82 = .ok (.bipush 8, 2) := by decide +kernel
theorem dX11_harvestNow_84 : decode cX11_harvestNow 84 = .ok (.iaload, 1) := by decide +kernel
theorem dX11_harvestNow_85 : decode cX11_harvestNow 85 = .ok (.iload_n 3, 1) := by decide +kernel
theorem dX11_harvestNow_86 : decode cX11_harvestNow 86 = .ok (.invokevirtual 349, 3) := by decide +kernel
theorem dX11_harvestNow_89 : decode cX11_harvestNow 89 = .ok (.iadd, 1) := by decide +kernel
theorem dX11_harvestNow_90 : decode cX11_harvestNow 90 = .ok (.iaload, 1) := by decide +kernel
theorem dX11_harvestNow_91 : decode cX11_harvestNow 91 = .ok (.if_icmp .le 6, 3) := by decide +kernel
theorem dX11_harvestNow_94 : decode cX11_harvestNow 94 = .ok (.iload 4, 2) := by decide +kernel
theorem dX11_harvestNow_96 : decode cX11_harvestNow 96 = .ok (.istore_n 3, 1) := by decide +kernel
theorem dX11_harvestNow_97 : decode cX11_harvestNow 97 = .ok (.iinc 4 (-1), 3) := by decide +kernel
theorem dX11_harvestNow_100 : decode cX11_harvestNow 100 = .ok (.goto (-65), 3) := by decide +kernel
theorem dX11_harvestNow_103 : decode cX11_harvestNow 103 = .ok (.iload_n 3, 1) := by decide +kernel
theorem dX11_harvestNow_104 : decode cX11_harvestNow 104 = .ok (.ireturn, 1) := by decide +kernel
theorem dX11_draw_0 : decode cX11_draw 0 = .ok (.aload_n 0, 1) := by decide +kernel
theorem dX11_draw_1 : decode cX11_draw 1 = .ok (.aload_n 0, 1) := by decide +kernel
theorem dX11_draw_2 : decode cX11_draw 2 = .ok (.getfield 472, 3) := by decide +kernel
theorem dX11_draw_5 : decode cX11_draw 5 = .ok (.sipush 2927, 3) := by decide +kernel
theorem dX11_draw_8 : decode cX11_draw 8 = .ok (.imul, 1) := by decide +kernel
theorem dX11_draw_9 : decode cX11_draw 9 = .ok (.sipush 10627, 3) := by decide +kernel
theorem dX11_draw_12 : decode cX11_draw 12 = .ok (.iadd, 1) := by decide +kernel
theorem dX11_draw_13 : decode cX11_draw 13 = .ok (.ldc_w 475, 3) := by decide +kernel
theorem dX11_draw_16 : decode cX11_draw 16 = .ok (.irem, 1) := by decide +kernel
theorem dX11_draw_17 : decode cX11_draw 17 = .ok (.putfield 472, 3) := by decide +kernel
theorem dX11_draw_20 : decode cX11_draw 20 = .ok (.aload_n 0, 1) := by decide +kernel
theorem dX11_draw_21 : decode cX11_draw 21 = .ok (.getfield 472, 3) := by decide +kernel
theorem dX11_draw_24 : decode cX11_draw 24 = .ok (.bipush 8, 2) := by decide +kernel
theorem dX11_draw_26 : decode cX11_draw 26 = .ok (.idiv, 1) := by decide +kernel
theorem dX11_draw_27 : decode cX11_draw 27 = .ok (.iload_n 1, 1) := by decide +kernel
theorem dX11_draw_28 : decode cX11_draw 28 = .ok (.irem, 1) := by decide +kernel
theorem dX11_draw_29 : decode cX11_draw 29 = .ok (.ireturn, 1) := by decide +kernel
theorem dX11_moods_0 : decode cX11_moods 0 = .ok (.iconst 0, 1) := by decide +kernel
theorem dX11_moods_1 : decode cX11_moods 1 = .ok (.istore_n 1, 1) := by decide +kernel
theorem dX11_moods_2 : decode cX11_moods 2 = .ok (.iload_n 1, 1) := by decide +kernel
theorem dX11_moods_3 : decode cX11_moods 3 = .ok (.aload_n 0, 1) := by decide +kernel
theorem dX11_moods_4 : decode cX11_moods 4 = .ok (.getfield 35, 3) := by decide +kernel
theorem dX11_moods_7 : decode cX11_moods 7 = .ok (.iconst 0, 1) := by decide +kernel
theorem dX11_moods_8 : decode cX11_moods 8 = .ok (.iaload, 1) := by decide +kernel
theorem dX11_moods_9 : decode cX11_moods 9 = .ok (.if_icmp .ge 47, 3) := by decide +kernel
theorem dX11_moods_12 : decode cX11_moods 12 = .ok (.aload_n 0, 1) := by decide +kernel
theorem dX11_moods_13 : decode cX11_moods 13 = .ok (.iload_n 1, 1) := by decide +kernel
theorem dX11_moods_14 : decode cX11_moods 14 = .ok (.invokevirtual 361, 3) := by decide +kernel
theorem dX11_moods_17 : decode cX11_moods 17 = .ok (.ifCond .eq 33, 3) := by decide +kernel
theorem dX11_moods_20 : decode cX11_moods 20 = .ok (.aload_n 0, 1) := by decide +kernel
theorem dX11_moods_21 : decode cX11_moods 21 = .ok (.getfield 35, 3) := by decide +kernel
theorem dX11_moods_24 : decode cX11_moods 24 = .ok (.bipush 42, 2) := by decide +kernel
theorem dX11_moods_26 : decode cX11_moods 26 = .ok (.iload_n 1, 1) := by decide +kernel
theorem dX11_moods_27 : decode cX11_moods 27 = .ok (.iadd, 1) := by decide +kernel
theorem dX11_moods_28 : decode cX11_moods 28 = .ok (.aload_n 0, 1) := by decide +kernel
theorem dX11_moods_29 : decode cX11_moods 29 = .ok (.getfield 35, 3) := by decide +kernel
theorem dX11_moods_32 : decode cX11_moods 32 = .ok (.bipush 42, 2) := by decide +kernel
theorem dX11_moods_34 : decode cX11_moods 34 = .ok (.iload_n 1, 1) := by decide +kernel
theorem dX11_moods_35 : decode cX11_moods 35 = .ok (.iadd, 1) := by decide +kernel
theorem dX11_moods_36 : decode cX11_moods 36 = .ok (.iaload, 1) := by decide +kernel
theorem dX11_moods_37 : decode cX11_moods 37 = .ok (.aload_n 0, 1) := by decide +kernel
theorem dX11_moods_38 : decode cX11_moods 38 = .ok (.bipush 9, 2) := by decide +kernel
theorem dX11_moods_40 : decode cX11_moods 40 = .ok (.invokevirtual 476, 3) := by decide +kernel
theorem dX11_moods_43 : decode cX11_moods 43 = .ok (.iadd, 1) := by decide +kernel
theorem dX11_moods_44 : decode cX11_moods 44 = .ok (.iconst 4, 1) := by decide +kernel
theorem dX11_moods_45 : decode cX11_moods 45 = .ok (.isub, 1) := by decide +kernel
theorem dX11_moods_46 : decode cX11_moods 46 = .ok (.invokestatic 366, 3) := by decide +kernel
theorem dX11_moods_49 : decode cX11_moods 49 = .ok (.iastore, 1) := by decide +kernel
theorem dX11_moods_50 : decode cX11_moods 50 = .ok (.iinc 1 1, 3) := by decide +kernel
theorem dX11_moods_53 : decode cX11_moods 53 = .ok (.goto (-51), 3) := by decide +kernel
theorem dX11_moods_56 : decode cX11_moods 56 = .ok (.return_, 1) := by decide +kernel
theorem dX11_dayEnds_0 : decode cX11_dayEnds 0 = .ok (.aload_n 0, 1) := by decide +kernel
theorem dX11_dayEnds_1 : decode cX11_dayEnds 1 = .ok (.getfield 35, 3) := by decide +kernel
theorem dX11_dayEnds_4 : decode cX11_dayEnds 4 = .ok (.bipush 6, 2) := by decide +kernel
theorem dX11_dayEnds_6 : decode cX11_dayEnds 6 = .ok (.iaload, 1) := by decide +kernel
theorem dX11_dayEnds_7 : decode cX11_dayEnds 7 = .ok (.sipush 9999, 3) := by decide +kernel
theorem dX11_dayEnds_10 : decode cX11_dayEnds 10 = .ok (.if_icmp .ne 5, 3) := by decide +kernel
theorem dX11_dayEnds_13 : decode cX11_dayEnds 13 = .ok (.iconst 0, 1) := by decide +kernel
theorem dX11_dayEnds_14 : decode cX11_dayEnds 14 = .ok (.ireturn, 1) := by decide +kernel
theorem dX11_dayEnds_15 : decode cX11_dayEnds 15 = .ok (.aload_n 0, 1) := by decide +kernel
theorem dX11_dayEnds_16 : decode cX11_dayEnds 16 = .ok (.invokevirtual 392, 3) := by decide +kernel
theorem dX11_dayEnds_19 : decode cX11_dayEnds 19 = .ok (.istore_n 1, 1) := by decide +kernel
theorem dX11_dayEnds_20 : decode cX11_dayEnds 20 = .ok (.aload_n 0, 1) := by decide +kernel
theorem dX11_dayEnds_21 : decode cX11_dayEnds 21 = .ok (.dup, 1) := by decide +kernel
theorem dX11_dayEnds_22 : decode cX11_dayEnds 22 = .ok (.getfield 479, 3) := by decide +kernel
theorem dX11_dayEnds_25 : decode cX11_dayEnds 25 = .ok (.iconst 1, 1) := by decide +kernel
theorem dX11_dayEnds_26 : decode cX11_dayEnds 26 = .ok (.iadd, 1) := by decide +kernel
theorem dX11_dayEnds_27 : decode cX11_dayEnds 27 = .ok (.putfield 479, 3) := by decide +kernel
theorem dX11_dayEnds_30 : decode cX11_dayEnds 30 = .ok (.aload_n 0, 1) := by decide +kernel
theorem dX11_dayEnds_31 : decode cX11_dayEnds 31 = .ok (.dup, 1) := by decide +kernel
theorem dX11_dayEnds_32 : decode cX11_dayEnds 32 = .ok (.getfield 482, 3) := by decide +kernel
theorem dX11_dayEnds_35 : decode cX11_dayEnds 35 = .ok (.iload_n 1, 1) := by decide +kernel
theorem dX11_dayEnds_36 : decode cX11_dayEnds 36 = .ok (.ifCond .le 7, 3) := by decide +kernel
theorem dX11_dayEnds_39 : decode cX11_dayEnds 39 = .ok (.iconst 1, 1) := by decide +kernel
theorem dX11_dayEnds_40 : decode cX11_dayEnds 40 = .ok (.goto 4, 3) := by decide +kernel
theorem dX11_dayEnds_43 : decode cX11_dayEnds 43 = .ok (.iconst 0, 1) := by decide +kernel
theorem dX11_dayEnds_44 : decode cX11_dayEnds 44 = .ok (.iadd, 1) := by decide +kernel
theorem dX11_dayEnds_45 : decode cX11_dayEnds 45 = .ok (.putfield 482, 3) := by decide +kernel
theorem dX11_dayEnds_48 : decode cX11_dayEnds 48 = .ok (.aload_n 0, 1) := by decide +kernel
theorem dX11_dayEnds_49 : decode cX11_dayEnds 49 = .ok (.dup, 1) := by decide +kernel
theorem dX11_dayEnds_50 : decode cX11_dayEnds 50 = .ok (.getfield 485, 3) := by decide +kernel
theorem dX11_dayEnds_53 : decode cX11_dayEnds 53 = .ok (.iload_n 1, 1) := by decide +kernel
theorem dX11_dayEnds_54 : decode cX11_dayEnds 54 = .ok (.ifCond .ne 7, 3) := by decide +kernel
theorem dX11_dayEnds_57 : decode cX11_dayEnds 57 = .ok (.iconst 1, 1) := by decide +kernel
theorem dX11_dayEnds_58 : decode cX11_dayEnds 58 = .ok (.goto 4, 3) := by decide +kernel
theorem dX11_dayEnds_61 : decode cX11_dayEnds 61 = .ok (.iconst 0, 1) := by decide +kernel
theorem dX11_dayEnds_62 : decode cX11_dayEnds 62 = .ok (.iadd, 1) := by decide +kernel
theorem dX11_dayEnds_63 : decode cX11_dayEnds 63 = .ok (.putfield 485, 3) := by decide +kernel
theorem dX11_dayEnds_66 : decode cX11_dayEnds 66 = .ok (.iconst 1, 1) := by decide +kernel
theorem dX11_dayEnds_67 : decode cX11_dayEnds 67 = .ok (.ireturn, 1) := by decide +kernel
theorem dX11_does_0 : decode cX11_does 0 = .ok (.aload_n 0, 1) := by decide +kernel
theorem dX11_does_1 : decode cX11_does 1 = .ok (.getfield 35, 3) := by decide +kernel
theorem dX11_does_4 : decode cX11_does 4 = .ok (.iload_n 1, 1) := by decide +kernel
theorem dX11_does_5 : decode cX11_does 5 = .ok (.iaload, 1) := by decide +kernel
theorem dX11_does_6 : decode cX11_does 6 = .ok (.istore_n 2, 1) := by decide +kernel
theorem dX11_does_7 : decode cX11_does 7 = .ok (.aload_n 0, 1) := by decide +kernel
theorem dX11_does_8 : decode cX11_does 8 = .ok (.getfield 35, 3) := by decide +kernel
theorem dX11_does_11 : decode cX11_does 11 = .ok (.iload_n 1, 1) := by decide +kernel
theorem dX11_does_12 : decode cX11_does 12 = .ok (.iconst 1, 1) := by decide +kernel
theorem dX11_does_13 : decode cX11_does 13 = .ok (.iadd, 1) := by decide +kernel
theorem dX11_does_14 : decode cX11_does 14 = .ok (.iaload, 1) := by decide +kernel
theorem dX11_does_15 : decode cX11_does 15 = .ok (.istore_n 3, 1) := by decide +kernel
theorem dX11_does_16 : decode cX11_does 16 = .ok (.iload_n 2, 1) := by decide +kernel
theorem dX11_does_17 : decode cX11_does 17 = .ok (.iconst 2, 1) := by decide +kernel
theorem dX11_does_18 : decode cX11_does 18 = .ok (.if_icmp .ne 8, 3) := by decide +kernel
