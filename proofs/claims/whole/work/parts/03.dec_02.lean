theorem dX10_swing_41 : decode cX10_swing 41 = .ok (.iconst 0, 1) := by decide +kernel
theorem dX10_swing_42 : decode cX10_swing 42 = .ok (.istore 6, 2) := by decide +kernel
theorem dX10_swing_44 : decode cX10_swing 44 = .ok (.iconst 0, 1) := by decide +kernel
theorem dX10_swing_45 : decode cX10_swing 45 = .ok (.istore 7, 2) := by decide +kernel
theorem dX10_swing_47 : decode cX10_swing 47 = .ok (.iload 7, 2) := by decide +kernel
theorem dX10_swing_49 : decode cX10_swing 49 = .ok (.aload_n 0, 1) := by decide +kernel
theorem dX10_swing_50 : decode cX10_swing 50 = .ok (.getfield 19, 3) := by decide +kernel
theorem dX10_swing_53 : decode cX10_swing 53 = .ok (.getfield 175, 3) := by decide +kernel
theorem dX10_swing_56 : decode cX10_swing 56 = .ok (.getfield 194, 3) := by decide +kernel
theorem dX10_swing_59 : decode cX10_swing 59 = .ok (.iconst 0, 1) := by decide +kernel
theorem dX10_swing_60 : decode cX10_swing 60 = .ok (.iaload, 1) := by decide +kernel
theorem dX10_swing_61 : decode cX10_swing 61 = .ok (.if_icmp .ge 79, 3) := by decide +kernel
theorem dX10_swing_64 : decode cX10_swing 64 = .ok (.aload_n 1, 1) := by decide +kernel
theorem dX10_swing_65 : decode cX10_swing 65 = .ok (.iload 7, 2) := by decide +kernel
theorem dX10_swing_67 : decode cX10_swing 67 = .ok (.invokevirtual 293, 3) := by decide +kernel
theorem dX10_swing_70 : decode cX10_swing 70 = .ok (.ifCond .eq 64, 3) := by decide +kernel
theorem dX10_swing_73 : decode cX10_swing 73 = .ok (.aload_n 1, 1) := by decide +kernel
theorem dX10_swing_74 : decode cX10_swing 74 = .ok (.getfield 241, 3) := by decide +kernel
theorem dX10_swing_77 : decode cX10_swing 77 = .ok (.iload 7, 2) := by decide +kernel
theorem dX10_swing_79 : decode cX10_swing 79 = .ok (.iaload, 1) := by decide +kernel
theorem dX10_swing_80 : decode cX10_swing 80 = .ok (.ifCond .le 7, 3) := by decide +kernel
theorem dX10_swing_83 : decode cX10_swing 83 = .ok (.iconst 1, 1) := by decide +kernel
theorem dX10_swing_84 : decode cX10_swing 84 = .ok (.goto 4, 3) := by decide +kernel
theorem dX10_swing_87 : decode cX10_swing 87 = .ok (.iconst 0, 1) := by decide +kernel
theorem dX10_swing_88 : decode cX10_swing 88 = .ok (.istore 8, 2) := by decide +kernel
theorem dX10_swing_90 : decode cX10_swing 90 = .ok (.iload 8, 2) := by decide +kernel
theorem dX10_swing_92 : decode cX10_swing 92 = .ok (.ifCond .eq 15, 3) := by decide +kernel
theorem dX10_swing_95 : decode cX10_swing 95 = .ok (.iload_n 2, 1) := by decide +kernel
theorem dX10_swing_96 : decode cX10_swing 96 = .ok (.iload_n 3, 1) := by decide +kernel
theorem dX10_swing_97 : decode cX10_swing 97 = .ok (.iconst 1, 1) := by decide +kernel
theorem dX10_swing_98 : decode cX10_swing 98 = .ok (.isub, 1) := by decide +kernel
theorem dX10_swing_99 : decode cX10_swing 99 = .ok (.iload 4, 2) := by decide +kernel
theorem dX10_swing_101 : decode cX10_swing 101 = .ok (.invokestatic 320, 3) := by decide +kernel
theorem dX10_swing_104 : decode cX10_swing 104 = .ok (.goto 12, 3) := by decide +kernel
theorem dX10_swing_107 : decode cX10_swing 107 = .ok (.iload_n 2, 1) := by decide +kernel
theorem dX10_swing_108 : decode cX10_swing 108 = .ok (.iload_n 3, 1) := by decide +kernel
theorem dX10_swing_109 : decode cX10_swing 109 = .ok (.iload 4, 2) := by decide +kernel
theorem dX10_swing_111 : decode cX10_swing 111 = .ok (.iconst 1, 1) := by decide +kernel
theorem dX10_swing_112 : decode cX10_swing 112 = .ok (.isub, 1) := by decide +kernel
theorem dX10_swing_113 : decode cX10_swing 113 = .ok (.invokestatic 320, 3) := by decide +kernel
theorem dX10_swing_116 : decode cX10_swing 116 = .ok (.istore 9, 2) := by decide +kernel
theorem dX10_swing_118 : decode cX10_swing 118 = .ok (.iload 9, 2) := by decide +kernel
theorem dX10_swing_120 : decode cX10_swing 120 = .ok (.iload 5, 2) := by decide +kernel
theorem dX10_swing_122 : decode cX10_swing 122 = .ok (.if_icmp .eq 12, 3) := by decide +kernel
theorem dX10_swing_125 : decode cX10_swing 125 = .ok (.iload 6, 2) := by decide +kernel
theorem dX10_swing_127 : decode cX10_swing 127 = .ok (.iconst 1, 1) := by decide +kernel
theorem dX10_swing_128 : decode cX10_swing 128 = .ok (.iload 7, 2) := by decide +kernel
theorem dX10_swing_130 : decode cX10_swing 130 = .ok (.ishl, 1) := by decide +kernel
theorem dX10_swing_131 : decode cX10_swing 131 = .ok (.ior, 1) := by decide +kernel
theorem dX10_swing_132 : decode cX10_swing 132 = .ok (.istore 6, 2) := by decide +kernel
theorem dX10_swing_134 : decode cX10_swing 134 = .ok (.iinc 7 1, 3) := by decide +kernel
theorem dX10_swing_137 : decode cX10_swing 137 = .ok (.goto (-90), 3) := by decide +kernel
theorem dX10_swing_140 : decode cX10_swing 140 = .ok (.aload_n 0, 1) := by decide +kernel
theorem dX10_swing_141 : decode cX10_swing 141 = .ok (.iload 6, 2) := by decide +kernel
theorem dX10_swing_143 : decode cX10_swing 143 = .ok (.invokevirtual 197, 3) := by decide +kernel
theorem dX10_swing_146 : decode cX10_swing 146 = .ok (.ireturn, 1) := by decide +kernel
theorem dX10_lacks_0 : decode cX10_lacks 0 = .ok (.aload_n 0, 1) := by decide +kernel
theorem dX10_lacks_1 : decode cX10_lacks 1 = .ok (.getfield 19, 3) := by decide +kernel
theorem dX10_lacks_4 : decode cX10_lacks 4 = .ok (.getfield 182, 3) := by decide +kernel
theorem dX10_lacks_7 : decode cX10_lacks 7 = .ok (.invokevirtual 317, 3) := by decide +kernel
theorem dX10_lacks_10 : decode cX10_lacks 10 = .ok (.istore_n 1, 1) := by decide +kernel
theorem dX10_lacks_11 : decode cX10_lacks 11 = .ok (.iload_n 1, 1) := by decide +kernel
theorem dX10_lacks_12 : decode cX10_lacks 12 = .ok (.ifCond .ne 10, 3) := by decide +kernel
theorem dX10_lacks_15 : decode cX10_lacks 15 = .ok (.aload_n 0, 1) := by decide +kernel
theorem dX10_lacks_16 : decode cX10_lacks 16 = .ok (.bipush 8, 2) := by decide +kernel
theorem dX10_lacks_18 : decode cX10_lacks 18 = .ok (.invokevirtual 133, 3) := by decide +kernel
theorem dX10_lacks_21 : decode cX10_lacks 21 = .ok (.ireturn, 1) := by decide +kernel
theorem dX10_lacks_22 : decode cX10_lacks 22 = .ok (.aload_n 0, 1) := by decide +kernel
theorem dX10_lacks_23 : decode cX10_lacks 23 = .ok (.getfield 19, 3) := by decide +kernel
theorem dX10_lacks_26 : decode cX10_lacks 26 = .ok (.getfield 182, 3) := by decide +kernel
theorem dX10_lacks_29 : decode cX10_lacks 29 = .ok (.invokevirtual 313, 3) := by decide +kernel
theorem dX10_lacks_32 : decode cX10_lacks 32 = .ok (.istore_n 2, 1) := by decide +kernel
theorem dX10_lacks_33 : decode cX10_lacks 33 = .ok (.iconst 0, 1) := by decide +kernel
theorem dX10_lacks_34 : decode cX10_lacks 34 = .ok (.istore_n 3, 1) := by decide +kernel
theorem dX10_lacks_35 : decode cX10_lacks 35 = .ok (.iload_n 2, 1) := by decide +kernel
theorem dX10_lacks_36 : decode cX10_lacks 36 = .ok (.iload_n 3, 1) := by decide +kernel
theorem dX10_lacks_37 : decode cX10_lacks 37 = .ok (.iadd, 1) := by decide +kernel
theorem dX10_lacks_38 : decode cX10_lacks 38 = .ok (.iload_n 1, 1) := by decide +kernel
theorem dX10_lacks_39 : decode cX10_lacks 39 = .ok (.if_icmp .ge 34, 3) := by decide +kernel
theorem dX10_lacks_42 : decode cX10_lacks 42 = .ok (.aload_n 0, 1) := by decide +kernel
theorem dX10_lacks_43 : decode cX10_lacks 43 = .ok (.getfield 19, 3) := by decide +kernel
theorem dX10_lacks_46 : decode cX10_lacks 46 = .ok (.getfield 175, 3) := by decide +kernel
theorem dX10_lacks_49 : decode cX10_lacks 49 = .ok (.getfield 213, 3) := by decide +kernel
theorem dX10_lacks_52 : decode cX10_lacks 52 = .ok (.iload_n 2, 1) := by decide +kernel
theorem dX10_lacks_53 : decode cX10_lacks 53 = .ok (.iload_n 3, 1) := by decide +kernel
theorem dX10_lacks_54 : decode cX10_lacks 54 = .ok (.iadd, 1) := by decide +kernel
theorem dX10_lacks_55 : decode cX10_lacks 55 = .ok (.iload_n 1, 1) := by decide +kernel
theorem dX10_lacks_56 : decode cX10_lacks 56 = .ok (.iload_n 2, 1) := by decide +kernel
theorem dX10_lacks_57 : decode cX10_lacks 57 = .ok (.isub, 1) := by decide +kernel
theorem dX10_lacks_58 : decode cX10_lacks 58 = .ok (.iload_n 3, 1) := by decide +kernel
theorem dX10_lacks_59 : decode cX10_lacks 59 = .ok (.isub, 1) := by decide +kernel
theorem dX10_lacks_60 : decode cX10_lacks 60 = .ok (.invokestatic 320, 3) := by decide +kernel
theorem dX10_lacks_63 : decode cX10_lacks 63 = .ok (.iconst 1, 1) := by decide +kernel
theorem dX10_lacks_64 : decode cX10_lacks 64 = .ok (.if_icmp .eq 9, 3) := by decide +kernel
theorem dX10_lacks_67 : decode cX10_lacks 67 = .ok (.iinc 3 1, 3) := by decide +kernel
theorem dX10_lacks_70 : decode cX10_lacks 70 = .ok (.goto (-35), 3) := by decide +kernel
theorem dX10_lacks_73 : decode cX10_lacks 73 = .ok (.aload_n 0, 1) := by decide +kernel
theorem dX10_lacks_74 : decode cX10_lacks 74 = .ok (.iload_n 3, 1) := by decide +kernel
theorem dX10_lacks_75 : decode cX10_lacks 75 = .ok (.invokevirtual 197, 3) := by decide +kernel
theorem dX10_lacks_78 : decode cX10_lacks 78 = .ok (.ireturn, 1) := by decide +kernel
theorem dX10_nearest_0 : decode cX10_nearest 0 = .ok (.iconst (-1), 1) := by decide +kernel
theorem dX10_nearest_1 : decode cX10_nearest 1 = .ok (.istore_n 1, 1) := by decide +kernel
theorem dX10_nearest_2 : decode cX10_nearest 2 = .ok (.iconst 0, 1) := by decide +kernel
theorem dX10_nearest_3 : decode cX10_nearest 3 = .ok (.istore_n 2, 1) := by decide +kernel
theorem dX10_nearest_4 : decode cX10_nearest 4 = .ok (.iconst 0, 1) := by decide +kernel
theorem dX10_nearest_5 : decode cX10_nearest 5 = .ok (.istore_n 3, 1) := by decide +kernel
theorem dX10_nearest_6 : decode cX10_nearest 6 = .ok (.iload_n 3, 1) := by decide +kernel
theorem dX10_nearest_7 : decode cX10_nearest 7 = .ok (.aload_n 0, 1) := by decide +kernel
theorem dX10_nearest_8 : decode cX10_nearest 8 = .ok (.getfield 19, 3) := by decide +kernel
theorem dX10_nearest_11 : decode cX10_nearest 11 = .ok (.getfield 175, 3) := by decide +kernel
theorem dX10_nearest_14 : decode cX10_nearest 14 = .ok (.getfield 194, 3) := by decide +kernel
theorem dX10_nearest_17 : decode cX10_nearest 17 = .ok (.iconst 0, 1) := by decide +kernel
theorem dX10_nearest_18 : decode cX10_nearest 18 = .ok (.iaload, 1) := by decide +kernel
theorem dX10_nearest_19 : decode cX10_nearest 19 = .ok (.if_icmp .ge 69, 3) := by decide +kernel
theorem dX10_nearest_22 : decode cX10_nearest 22 = .ok (.aload_n 0, 1) := by decide +kernel
theorem dX10_nearest_23 : decode cX10_nearest 23 = .ok (.getfield 19, 3) := by decide +kernel
theorem dX10_nearest_26 : decode cX10_nearest 26 = .ok (.getfield 182, 3) := by decide +kernel
theorem dX10_nearest_29 : decode cX10_nearest 29 = .ok (.iload_n 3, 1) := by decide +kernel
theorem dX10_nearest_30 : decode cX10_nearest 30 = .ok (.invokevirtual 293, 3) := by decide +kernel
theorem dX10_nearest_33 : decode cX10_nearest 33 = .ok (.ifCond .eq 49, 3) := by decide +kernel
theorem dX10_nearest_36 : decode cX10_nearest 36 = .ok (.aload_n 0, 1) := by decide +kernel
theorem dX10_nearest_37 : decode cX10_nearest 37 = .ok (.getfield 19, 3) := by decide +kernel
theorem dX10_nearest_40 : decode cX10_nearest 40 = .ok (.getfield 182, 3) := by decide +kernel
theorem dX10_nearest_43 : decode cX10_nearest 43 = .ok (.getfield 241, 3) := by decide +kernel
theorem dX10_nearest_46 : decode cX10_nearest 46 = .ok (.iload_n 3, 1) := by decide +kernel
theorem dX10_nearest_47 : decode cX10_nearest 47 = .ok (.iaload, 1) := by decide +kernel
theorem dX10_nearest_48 : decode cX10_nearest 48 = .ok (.istore 4, 2) := by decide +kernel
theorem dX10_nearest_50 : decode cX10_nearest 50 = .ok (.iload 4, 2) := by decide +kernel
theorem dX10_nearest_52 : decode cX10_nearest 52 = .ok (.ifCond .le 8, 3) := by decide +kernel
theorem dX10_nearest_55 : decode cX10_nearest 55 = .ok (.iload 4, 2) := by decide +kernel
theorem dX10_nearest_57 : decode cX10_nearest 57 = .ok (.goto 7, 3) := by decide +kernel
theorem dX10_nearest_60 : decode cX10_nearest 60 = .ok (.iconst 1, 1) := by decide +kernel
theorem dX10_nearest_61 : decode cX10_nearest 61 = .ok (.iload 4, 2) := by decide +kernel
theorem dX10_nearest_63 : decode cX10_nearest 63 = .ok (.isub, 1) := by decide +kernel
theorem dX10_nearest_64 : decode cX10_nearest 64 = .ok (.istore 5, 2) := by decide +kernel
theorem dX10_nearest_66 : decode cX10_nearest 66 = .ok (.iload_n 1, 1) := by decide +kernel
theorem dX10_nearest_67 : decode cX10_nearest 67 = .ok (.iconst (-1), 1) := by decide +kernel
theorem dX10_nearest_68 : decode cX10_nearest 68 = .ok (.if_icmp .eq 9, 3) := by decide +kernel
theorem dX10_nearest_71 : decode cX10_nearest 71 = .ok (.iload 5, 2) := by decide +kernel
theorem dX10_nearest_73 : decode cX10_nearest 73 = .ok (.iload_n 2, 1) := by decide +kernel
theorem dX10_nearest_74 : decode cX10_nearest 74 = .ok (.if_icmp .ge 8, 3) := by decide +kernel
theorem dX10_nearest_77 : decode cX10_nearest 77 = .ok (.iload_n 3, 1) := by decide +kernel
theorem dX10_nearest_78 : decode cX10_nearest 78 = .ok (.istore_n 1, 1) := by decide +kernel
theorem dX10_nearest_79 : decode cX10_nearest 79 = .ok (.iload 5, 2) := by decide +kernel
theorem dX10_nearest_81 : decode cX10_nearest 81 = .ok (.istore_n 2, 1) := by decide +kernel
theorem dX10_nearest_82 : decode cX10_nearest 82 = .ok (.iinc 3 1, 3) := by decide +kernel
theorem dX10_nearest_85 : decode cX10_nearest 85 = .ok (.goto (-79), 3) := by decide +kernel
theorem dX10_nearest_88 : decode cX10_nearest 88 = .ok (.iload_n 1, 1) := by decide +kernel
theorem dX10_nearest_89 : decode cX10_nearest 89 = .ok (.iconst (-1), 1) := by decide +kernel
theorem dX10_nearest_90 : decode cX10_nearest 90 = .ok (.if_icmp .ne 12, 3) := by decide +kernel
theorem dX10_nearest_93 : decode cX10_nearest 93 = .ok (.aload_n 0, 1) := by decide +kernel
theorem dX10_nearest_94 : decode cX10_nearest 94 = .ok (.bipush 8, 2) := by decide +kernel
theorem dX10_nearest_96 : decode cX10_nearest 96 = .ok (.invokevirtual 133, 3) := by decide +kernel
theorem dX10_nearest_99 : decode cX10_nearest 99 = .ok (.goto 8, 3) := by decide +kernel
theorem dX10_nearest_102 : decode cX10_nearest 102 = .ok (.aload_n 0, 1) := by decide +kernel
theorem dX10_nearest_103 : decode cX10_nearest 103 = .ok (.iload_n 1, 1) := by decide +kernel
theorem dX10_nearest_104 : decode cX10_nearest 104 = .ok (.invokevirtual 197, 3) := by decide +kernel
theorem dX10_nearest_107 : decode cX10_nearest 107 = .ok (.ireturn, 1) := by decide +kernel
theorem dX10_pull_0 : decode cX10_pull 0 = .ok (.aload_n 0, 1) := by decide +kernel
theorem dX10_pull_1 : decode cX10_pull 1 = .ok (.iconst 0, 1) := by decide +kernel
theorem dX10_pull_2 : decode cX10_pull 2 = .ok (.iload_n 1, 1) := by decide +kernel
theorem dX10_pull_3 : decode cX10_pull 3 = .ok (.invokevirtual 237, 3) := by decide +kernel
theorem dX10_pull_6 : decode cX10_pull 6 = .ok (.ifCond .eq 9, 3) := by decide +kernel
theorem dX10_pull_9 : decode cX10_pull 9 = .ok (.aload_n 0, 1) := by decide +kernel
theorem dX10_pull_10 : decode cX10_pull 10 = .ok (.iconst 2, 1) := by decide +kernel
theorem dX10_pull_11 : decode cX10_pull 11 = .ok (.invokevirtual 133, 3) := by decide +kernel
theorem dX10_pull_14 : decode cX10_pull 14 = .ok (.ireturn, 1) := by decide +kernel
theorem dX10_pull_15 : decode cX10_pull 15 = .ok (.aload_n 0, 1) := by decide +kernel
theorem dX10_pull_16 : decode cX10_pull 16 = .ok (.getfield 19, 3) := by decide +kernel
theorem dX10_pull_19 : decode cX10_pull 19 = .ok (.getfield 182, 3) := by decide +kernel
theorem dX10_pull_22 : decode cX10_pull 22 = .ok (.iload_n 1, 1) := by decide +kernel
theorem dX10_pull_23 : decode cX10_pull 23 = .ok (.invokevirtual 293, 3) := by decide +kernel
theorem dX10_pull_26 : decode cX10_pull 26 = .ok (.ifCond .ne 10, 3) := by decide +kernel
theorem dX10_pull_29 : decode cX10_pull 29 = .ok (.aload_n 0, 1) := by decide +kernel
theorem dX10_pull_30 : decode cX10_pull 30 = .ok (.bipush 9, 2) := by decide +kernel
theorem dX10_pull_32 : decode cX10_pull 32 = .ok (.invokevirtual 133, 3) := by decide +kernel
theorem dX10_pull_35 : decode cX10_pull 35 = .ok (.ireturn, 1) := by decide +kernel
theorem dX10_pull_36 : decode cX10_pull 36 = .ok (.aload_n 0, 1) := by decide +kernel
theorem dX10_pull_37 : decode cX10_pull 37 = .ok (.getfield 72, 3) := by decide +kernel
theorem dX10_pull_40 : decode cX10_pull 40 = .ok (.aload_n 0, 1) := by decide +kernel
theorem dX10_pull_41 : decode cX10_pull 41 = .ok (.getfield 19, 3) := by decide +kernel
theorem dX10_pull_44 : decode cX10_pull 44 = .ok (.getfield 182, 3) := by decide +kernel
theorem dX10_pull_47 : decode cX10_pull 47 = .ok (.invokevirtual 324, 3) := by decide +kernel
theorem dX10_pull_50 : decode cX10_pull 50 = .ok (.aload_n 0, 1) := by decide +kernel
theorem dX10_pull_51 : decode cX10_pull 51 = .ok (.getfield 72, 3) := by decide +kernel
theorem dX10_pull_54 : decode cX10_pull 54 = .ok (.iload_n 1, 1) := by decide +kernel
theorem dX10_pull_55 : decode cX10_pull 55 = .ok (.aload_n 0, 1) := by decide +kernel
theorem dX10_pull_56 : decode cX10_pull 56 = .ok (.getfield 72, 3) := by decide +kernel
theorem dX10_pull_59 : decode cX10_pull 59 = .ok (.aload_n 0, 1) := by decide +kernel
theorem dX10_pull_60 : decode cX10_pull 60 = .ok (.getfield 19, 3) := by decide +kernel
theorem dX10_pull_63 : decode cX10_pull 63 = .ok (.getfield 175, 3) := by decide +kernel
theorem dX10_pull_66 : decode cX10_pull 66 = .ok (.iload_n 1, 1) := by decide +kernel
theorem dX10_pull_67 : decode cX10_pull 67 = .ok (.invokevirtual 327, 3) := by decide +kernel
theorem dX10_pull_70 : decode cX10_pull 70 = .ok (.invokevirtual 330, 3) := by decide +kernel
theorem dX10_pull_73 : decode cX10_pull 73 = .ok (.pop, 1) := by decide +kernel
theorem dX10_pull_74 : decode cX10_pull 74 = .ok (.aload_n 0, 1) := by decide +kernel
theorem dX10_pull_75 : decode cX10_pull 75 = .ok (.aload_n 0, 1) := by decide +kernel
theorem dX10_pull_76 : decode cX10_pull 76 = .ok (.getfield 72, 3) := by decide +kernel
theorem dX10_pull_79 : decode cX10_pull 79 = .ok (.getfield 241, 3) := by decide +kernel
theorem dX10_pull_82 : decode cX10_pull 82 = .ok (.iload_n 1, 1) := by decide +kernel
theorem dX10_pull_83 : decode cX10_pull 83 = .ok (.iaload, 1) := by decide +kernel
theorem dX10_pull_84 : decode cX10_pull 84 = .ok (.aload_n 0, 1) := by decide +kernel
theorem dX10_pull_85 : decode cX10_pull 85 = .ok (.getfield 19, 3) := by decide +kernel
theorem dX10_pull_88 : decode cX10_pull 88 = .ok (.getfield 182, 3) := by decide +kernel
theorem dX10_pull_91 : decode cX10_pull 91 = .ok (.getfield 241, 3) := by decide +kernel
theorem dX10_pull_94 : decode cX10_pull 94 = .ok (.iload_n 1, 1) := by decide +kernel
theorem dX10_pull_95 : decode cX10_pull 95 = .ok (.iaload, 1) := by decide +kernel
theorem dX10_pull_96 : decode cX10_pull 96 = .ok (.isub, 1) := by decide +kernel
theorem dX10_pull_97 : decode cX10_pull 97 = .ok (.invokevirtual 197, 3) := by decide +kernel
theorem dX10_pull_100 : decode cX10_pull 100 = .ok (.ireturn, 1) := by decide +kernel
theorem dX10_behind_0 : decode cX10_behind 0 = .ok (.aload_n 0, 1) := by decide +kernel
theorem dX10_behind_1 : decode cX10_behind 1 = .ok (.iconst 0, 1) := by decide +kernel
theorem dX10_behind_2 : decode cX10_behind 2 = .ok (.iload_n 1, 1) := by decide +kernel
theorem dX10_behind_3 : decode cX10_behind 3 = .ok (.invokevirtual 237, 3) := by decide +kernel
theorem dX10_behind_6 : decode cX10_behind 6 = .ok (.ifCond .eq 9, 3) := by decide +kernel
theorem dX10_behind_9 : decode cX10_behind 9 = .ok (.aload_n 0, 1) := by decide +kernel
theorem dX10_behind_10 : decode cX10_behind 10 = .ok (.iconst 2, 1) := by decide +kernel
theorem dX10_behind_11 : decode cX10_behind 11 = .ok (.invokevirtual 133, 3) := by decide +kernel
theorem dX10_behind_14 : decode cX10_behind 14 = .ok (.ireturn, 1) := by decide +kernel
theorem dX10_behind_15 : decode cX10_behind 15 = .ok (.aload_n 0, 1) := by decide +kernel
theorem dX10_behind_16 : decode cX10_behind 16 = .ok (.aload_n 0, 1) := by decide +kernel
theorem dX10_behind_17 : decode cX10_behind 17 = .ok (.getfield 19, 3) := by decide +kernel
theorem dX10_behind_20 : decode cX10_behind 20 = .ok (.getfield 175, 3) := by decide +kernel
theorem dX10_behind_23 : decode cX10_behind 23 = .ok (.iload_n 1, 1) := by decide +kernel
theorem dX10_behind_24 : decode cX10_behind 24 = .ok (.invokevirtual 333, 3) := by decide +kernel
theorem dX10_behind_27 : decode cX10_behind 27 = .ok (.invokevirtual 197, 3) := by decide +kernel
theorem dX10_behind_30 : decode cX10_behind 30 = .ok (.ireturn, 1) := by decide +kernel
theorem dX10_settles_0 : decode cX10_settles 0 = .ok (.iload_n 1, 1) := by decide +kernel
theorem dX10_settles_1 : decode cX10_settles 1 = .ok (.ifCond .lt 8, 3) := by decide +kernel
theorem dX10_settles_4 : decode cX10_settles 4 = .ok (.iload_n 1, 1) := by decide +kernel
theorem dX10_settles_5 : decode cX10_settles 5 = .ok (.iconst 1, 1) := by decide +kernel
theorem dX10_settles_6 : decode cX10_settles 6 = .ok (.if_icmp .le 9, 3) := by decide +kernel
theorem dX10_settles_9 : decode cX10_settles 9 = .ok (.aload_n 0, 1) := by decide +kernel
theorem dX10_settles_10 : decode cX10_settles 10 = .ok (.iconst 5, 1) := by decide +kernel
theorem dX10_settles_11 : decode cX10_settles 11 = .ok (.invokevirtual 133, 3) := by decide +kernel
theorem dX10_settles_14 : decode cX10_settles 14 = .ok (.ireturn, 1) := by decide +kernel
theorem dX10_settles_15 : decode cX10_settles 15 = .ok (.aload_n 0, 1) := by decide +kernel
theorem dX10_settles_16 : decode cX10_settles 16 = .ok (.getfield 72, 3) := by decide +kernel
theorem dX10_settles_19 : decode cX10_settles 19 = .ok (.aload_n 0, 1) := by decide +kernel
theorem dX10_settles_20 : decode cX10_settles 20 = .ok (.getfield 19, 3) := by decide +kernel
theorem dX10_settles_23 : decode cX10_settles 23 = .ok (.getfield 182, 3) := by decide +kernel
theorem dX10_settles_26 : decode cX10_settles 26 = .ok (.invokevirtual 324, 3) := by decide +kernel
theorem dX10_settles_29 : decode cX10_settles 29 = .ok (.aload_n 0, 1) := by decide +kernel
theorem dX10_settles_30 : decode cX10_settles 30 = .ok (.getfield 65, 3) := by decide +kernel
theorem dX10_settles_33 : decode cX10_settles 33 = .ok (.aload_n 0, 1) := by decide +kernel
theorem dX10_settles_34 : decode cX10_settles 34 = .ok (.getfield 19, 3) := by decide +kernel
theorem dX10_settles_37 : decode cX10_settles 37 = .ok (.getfield 175, 3) := by decide +kernel
theorem dX10_settles_40 : decode cX10_settles 40 = .ok (.aload_n 0, 1) := by decide +kernel
theorem dX10_settles_41 : decode cX10_settles 41 = .ok (.getfield 72, 3) := by decide +kernel
theorem dX10_settles_44 : decode cX10_settles 44 = .ok (.invokevirtual 336, 3) := by decide +kernel
theorem dX10_settles_47 : decode cX10_settles 47 = .ok (.ifCond .ne 10, 3) := by decide +kernel
theorem dX10_settles_50 : decode cX10_settles 50 = .ok (.aload_n 0, 1) := by decide +kernel
theorem dX10_settles_51 : decode cX10_settles 51 = .ok (.bipush 8, 2) := by decide +kernel
theorem dX10_settles_53 : decode cX10_settles 53 = .ok (.invokevirtual 133, 3) := by decide +kernel
theorem dX10_settles_56 : decode cX10_settles 56 = .ok (.ireturn, 1) := by decide +kernel
theorem dX10_settles_57 : decode cX10_settles 57 = .ok (.aload_n 0, 1) := by decide +kernel
theorem dX10_settles_58 : decode cX10_settles 58 = .ok (.iload_n 1, 1) := by decide +kernel
theorem dX10_settles_59 : decode cX10_settles 59 = .ok (.ifCond .ne 13, 3) := by decide +kernel
theorem dX10_settles_62 : decode cX10_settles 62 = .ok (.aload_n 0, 1) := by decide +kernel
theorem dX10_settles_63 : decode cX10_settles 63 = .ok (.getfield 65, 3) := by decide +kernel
theorem dX10_settles_66 : decode cX10_settles 66 = .ok (.getfield 340, 3) := by decide +kernel
theorem dX10_settles_69 : decode cX10_settles 69 = .ok (.goto 10, 3) := by decide +kernel
theorem dX10_settles_72 : decode cX10_settles 72 = .ok (.aload_n 0, 1) := by decide +kernel
theorem dX10_settles_73 : decode cX10_settles 73 = .ok (.getfield 65, 3) := by decide +kernel
theorem dX10_settles_76 : decode cX10_settles 76 = .ok (.getfield 343, 3) := by decide +kernel
theorem dX10_settles_79 : decode cX10_settles 79 = .ok (.invokevirtual 197, 3) := by decide +kernel
theorem dX10_settles_82 : decode cX10_settles 82 = .ok (.ireturn, 1) := by decide +kernel
theorem dX10_after_0 : decode cX10_after 0 = .ok (.iload_n 1, 1) := by decide +kernel
theorem dX10_after_1 : decode cX10_after 1 = .ok (.ifCond .lt 10, 3) := by decide +kernel
theorem dX10_after_4 : decode cX10_after 4 = .ok (.iload_n 1, 1) := by decide +kernel
theorem dX10_after_5 : decode cX10_after 5 = .ok (.sipush 200, 3) := by decide +kernel
theorem dX10_after_8 : decode cX10_after 8 = .ok (.if_icmp .le 9, 3) := by decide +kernel
theorem dX10_after_11 : decode cX10_after 11 = .ok (.aload_n 0, 1) := by decide +kernel
theorem dX10_after_12 : decode cX10_after 12 = .ok (.iconst 5, 1) := by decide +kernel
theorem dX10_after_13 : decode cX10_after 13 = .ok (.invokevirtual 133, 3) := by decide +kernel
theorem dX10_after_16 : decode cX10_after 16 = .ok (.ireturn, 1) := by decide +kernel
theorem dX10_after_17 : decode cX10_after 17 = .ok (.aload_n 0, 1) := by decide +kernel
theorem dX10_after_18 : decode cX10_after 18 = .ok (.getfield 72, 3) := by decide +kernel
theorem dX10_after_21 : decode cX10_after 21 = .ok (.aload_n 0, 1) := by decide +kernel
theorem dX10_after_22 : decode cX10_after 22 = .ok (.getfield 19, 3) := by decide +kernel
theorem dX10_after_25 : decode cX10_after 25 = .ok (.getfield 182, 3) := by decide +kernel
theorem dX10_after_28 : decode cX10_after 28 = .ok (.invokevirtual 324, 3) := by decide +kernel
theorem dX10_after_31 : decode cX10_after 31 = .ok (.aload_n 0, 1) := by decide +kernel
theorem dX10_after_32 : decode cX10_after 32 = .ok (.getfield 72, 3) := by decide +kernel
theorem dX10_after_35 : decode cX10_after 35 = .ok (.aload_n 0, 1) := by decide +kernel
theorem dX10_after_36 : decode cX10_after 36 = .ok (.getfield 19, 3) := by decide +kernel
theorem dX10_after_39 : decode cX10_after 39 = .ok (.getfield 175, 3) := by decide +kernel
theorem dX10_after_42 : decode cX10_after 42 = .ok (.iload_n 1, 1) := by decide +kernel
theorem dX10_after_43 : decode cX10_after 43 = .ok (.invokevirtual 282, 3) := by decide +kernel
theorem dX10_after_46 : decode cX10_after 46 = .ok (.aload_n 0, 1) := by decide +kernel
theorem dX10_after_47 : decode cX10_after 47 = .ok (.aload_n 0, 1) := by decide +kernel
theorem dX10_after_48 : decode cX10_after 48 = .ok (.getfield 72, 3) := by decide +kernel
theorem dX10_after_51 : decode cX10_after 51 = .ok (.aload_n 0, 1) := by decide +kernel
theorem dX10_after_52 : decode cX10_after 52 = .ok (.getfield 19, 3) := by decide +kernel
theorem dX10_after_55 : decode cX10_after 55 = .ok (.getfield 175, 3) := by decide +kernel
theorem dX10_after_58 : decode cX10_after 58 = .ok (.getfield 213, 3) := by decide +kernel
theorem dX10_after_61 : decode cX10_after 61 = .ok (.invokevirtual 286, 3) := by decide +kernel
theorem dX10_after_64 : decode cX10_after 64 = .ok (.invokevirtual 197, 3) := by decide +kernel
theorem dX10_after_67 : decode cX10_after 67 = .ok (.ireturn, 1) := by decide +kernel
theorem dX10_soonest_0 : decode cX10_soonest 0 = .ok (.iload_n 1, 1) := by decide +kernel
theorem dX10_soonest_1 : decode cX10_soonest 1 = .ok (.i2l, 1) := by decide +kernel
theorem dX10_soonest_2 : decode cX10_soonest 2 = .ok (.invokestatic 259, 3) := by decide +kernel
theorem dX10_soonest_5 : decode cX10_soonest 5 = .ok (.ifCond .eq 9, 3) := by decide +kernel
theorem dX10_soonest_8 : decode cX10_soonest 8 = .ok (.aload_n 0, 1) := by decide +kernel
theorem dX10_soonest_9 : decode cX10_soonest 9 = .ok (.iconst 5, 1) := by decide +kernel
theorem dX10_soonest_10 : decode cX10_soonest 10 = .ok (.invokevirtual 133, 3) := by decide +kernel
theorem dX10_soonest_13 : decode cX10_soonest 13 = .ok (.ireturn, 1) := by decide +kernel
theorem dX10_soonest_14 : decode cX10_soonest 14 = .ok (.aload_n 0, 1) := by decide +kernel
theorem dX10_soonest_15 : decode cX10_soonest 15 = .ok (.getfield 72, 3) := by decide +kernel
theorem dX10_soonest_18 : decode cX10_soonest 18 = .ok (.aload_n 0, 1) := by decide +kernel
theorem dX10_soonest_19 : decode cX10_soonest 19 = .ok (.getfield 19, 3) := by decide +kernel
theorem dX10_soonest_22 : decode cX10_soonest 22 = .ok (.getfield 182, 3) := by decide +kernel
theorem dX10_soonest_25 : decode cX10_soonest 25 = .ok (.invokevirtual 324, 3) := by decide +kernel
theorem dX10_soonest_28 : decode cX10_soonest 28 = .ok (.iconst 0, 1) := by decide +kernel
theorem dX10_soonest_29 : decode cX10_soonest 29 = .ok (.istore_n 2, 1) := by decide +kernel
theorem dX10_soonest_30 : decode cX10_soonest 30 = .ok (.iload_n 2, 1) := by decide +kernel
theorem dX10_soonest_31 : decode cX10_soonest 31 = .ok (.sipush 200, 3) := by decide +kernel
theorem dX10_soonest_34 : decode cX10_soonest 34 = .ok (.if_icmp .gt 51, 3) := by decide +kernel
theorem dX10_soonest_37 : decode cX10_soonest 37 = .ok (.aload_n 0, 1) := by decide +kernel
theorem dX10_soonest_38 : decode cX10_soonest 38 = .ok (.getfield 72, 3) := by decide +kernel
theorem dX10_soonest_41 : decode cX10_soonest 41 = .ok (.aload_n 0, 1) := by decide +kernel
theorem dX10_soonest_42 : decode cX10_soonest 42 = .ok (.getfield 19, 3) := by decide +kernel
theorem dX10_soonest_45 : decode cX10_soonest 45 = .ok (.getfield 175, 3) := by decide +kernel
theorem dX10_soonest_48 : decode cX10_soonest 48 = .ok (.getfield 213, 3) := by decide +kernel
theorem dX10_soonest_51 : decode cX10_soonest 51 = .ok (.invokevirtual 286, 3) := by decide +kernel
theorem dX10_soonest_54 : decode cX10_soonest 54 = .ok (.iload_n 1, 1) := by decide +kernel
theorem dX10_soonest_55 : decode cX10_soonest 55 = .ok (.if_icmp .ne 9, 3) := by decide +kernel
theorem dX10_soonest_58 : decode cX10_soonest 58 = .ok (.aload_n 0, 1) := by decide +kernel
theorem dX10_soonest_59 : decode cX10_soonest 59 = .ok (.iload_n 2, 1) := by decide +kernel
theorem dX10_soonest_60 : decode cX10_soonest 60 = .ok (.invokevirtual 197, 3) := by decide +kernel
theorem dX10_soonest_63 : decode cX10_soonest 63 = .ok (.ireturn, 1) := by decide +kernel
theorem dX10_soonest_64 : decode cX10_soonest 64 = .ok (.aload_n 0, 1) := by decide +kernel
theorem dX10_soonest_65 : decode cX10_soonest 65 = .ok (.getfield 72, 3) := by decide +kernel
theorem dX10_soonest_68 : decode cX10_soonest 68 = .ok (.aload_n 0, 1) := by decide +kernel
theorem dX10_soonest_69 : decode cX10_soonest 69 = .ok (.getfield 19, 3) := by decide +kernel
theorem dX10_soonest_72 : decode cX10_soonest 72 = .ok (.getfield 175, 3) := by decide +kernel
theorem dX10_soonest_75 : decode cX10_soonest 75 = .ok (.iconst 1, 1) := by decide +kernel
theorem dX10_soonest_76 : decode cX10_soonest 76 = .ok (.invokevirtual 282, 3) := by decide +kernel
theorem dX10_soonest_79 : decode cX10_soonest 79 = .ok (.iinc 2 1, 3) := by decide +kernel
theorem dX10_soonest_82 : decode cX10_soonest 82 = .ok (.goto (-52), 3) := by decide +kernel
theorem dX10_soonest_85 : decode cX10_soonest 85 = .ok (.aload_n 0, 1) := by decide +kernel
theorem dX10_soonest_86 : decode cX10_soonest 86 = .ok (.bipush 8, 2) := by decide +kernel
theorem dX10_soonest_88 : decode cX10_soonest 88 = .ok (.invokevirtual 133, 3) := by decide +kernel
theorem dX10_soonest_91 : decode cX10_soonest 91 = .ok (.ireturn, 1) := by decide +kernel
theorem dX10_bestOrder_0 : decode cX10_bestOrder 0 = .ok (.iload_n 1, 1) := by decide +kernel
theorem dX10_bestOrder_1 : decode cX10_bestOrder 1 = .ok (.i2l, 1) := by decide +kernel
theorem dX10_bestOrder_2 : decode cX10_bestOrder 2 = .ok (.invokestatic 259, 3) := by decide +kernel
theorem dX10_bestOrder_5 : decode cX10_bestOrder 5 = .ok (.ifCond .eq 9, 3) := by decide +kernel
theorem dX10_bestOrder_8 : decode cX10_bestOrder 8 = .ok (.aload_n 0, 1) := by decide +kernel
theorem dX10_bestOrder_9 : decode cX10_bestOrder 9 = .ok (.iconst 5, 1) := by decide +kernel
theorem dX10_bestOrder_10 : decode cX10_bestOrder 10 = .ok (.invokevirtual 133, 3) := by decide +kernel
theorem dX10_bestOrder_13 : decode cX10_bestOrder 13 = .ok (.ireturn, 1) := by decide +kernel
theorem dX10_bestOrder_14 : decode cX10_bestOrder 14 = .ok (.aload_n 0, 1) := by decide +kernel
theorem dX10_bestOrder_15 : decode cX10_bestOrder 15 = .ok (.getfield 65, 3) := by decide +kernel
theorem dX10_bestOrder_18 : decode cX10_bestOrder 18 = .ok (.aload_n 0, 1) := by decide +kernel
theorem dX10_bestOrder_19 : decode cX10_bestOrder 19 = .ok (.getfield 19, 3) := by decide +kernel
theorem dX10_bestOrder_22 : decode cX10_bestOrder 22 = .ok (.getfield 175, 3) := by decide +kernel
theorem dX10_bestOrder_25 : decode cX10_bestOrder 25 = .ok (.aload_n 0, 1) := by decide +kernel
theorem dX10_bestOrder_26 : decode cX10_bestOrder 26 = .ok (.getfield 19, 3) := by decide +kernel
theorem dX10_bestOrder_29 : decode cX10_bestOrder 29 = .ok (.getfield 182, 3) := by decide +kernel
theorem dX10_bestOrder_32 : decode cX10_bestOrder 32 = .ok (.iload_n 1, 1) := by decide +kernel
theorem dX10_bestOrder_33 : decode cX10_bestOrder 33 = .ok (.invokevirtual 346, 3) := by decide +kernel
theorem dX10_bestOrder_36 : decode cX10_bestOrder 36 = .ok (.ifCond .ne 10, 3) := by decide +kernel
theorem dX10_bestOrder_39 : decode cX10_bestOrder 39 = .ok (.aload_n 0, 1) := by decide +kernel
theorem dX10_bestOrder_40 : decode cX10_bestOrder 40 = .ok (.bipush 8, 2) := by decide +kernel
theorem dX10_bestOrder_42 : decode cX10_bestOrder 42 = .ok (.invokevirtual 133, 3) := by decide +kernel
theorem dX10_bestOrder_45 : decode cX10_bestOrder 45 = .ok (.ireturn, 1) := by decide +kernel
theorem dX10_bestOrder_46 : decode cX10_bestOrder 46 = .ok (.aload_n 0, 1) := by decide +kernel
theorem dX10_bestOrder_47 : decode cX10_bestOrder 47 = .ok (.aload_n 0, 1) := by decide +kernel
theorem dX10_bestOrder_48 : decode cX10_bestOrder 48 = .ok (.getfield 65, 3) := by decide +kernel
theorem dX10_bestOrder_51 : decode cX10_bestOrder 51 = .ok (.getfield 350, 3) := by decide +kernel
theorem dX10_bestOrder_54 : decode cX10_bestOrder 54 = .ok (.invokevirtual 197, 3) := by decide +kernel
theorem dX10_bestOrder_57 : decode cX10_bestOrder 57 = .ok (.ireturn, 1) := by decide +kernel
theorem dX10_orderAt_0 : decode cX10_orderAt 0 = .ok (.iload_n 1, 1) := by decide +kernel
theorem dX10_orderAt_1 : decode cX10_orderAt 1 = .ok (.ifCond .lt 14, 3) := by decide +kernel
theorem dX10_orderAt_4 : decode cX10_orderAt 4 = .ok (.iload_n 1, 1) := by decide +kernel
theorem dX10_orderAt_5 : decode cX10_orderAt 5 = .ok (.aload_n 0, 1) := by decide +kernel
theorem dX10_orderAt_6 : decode cX10_orderAt 6 = .ok (.getfield 65, 3) := by decide +kernel
theorem dX10_orderAt_9 : decode cX10_orderAt 9 = .ok (.getfield 350, 3) := by decide +kernel
theorem dX10_orderAt_12 : decode cX10_orderAt 12 = .ok (.if_icmp .lt 10, 3) := by decide +kernel
theorem dX10_orderAt_15 : decode cX10_orderAt 15 = .ok (.aload_n 0, 1) := by decide +kernel
theorem dX10_orderAt_16 : decode cX10_orderAt 16 = .ok (.bipush 8, 2) := by decide +kernel
theorem dX10_orderAt_18 : decode cX10_orderAt 18 = .ok (.invokevirtual 133, 3) := by decide +kernel
theorem dX10_orderAt_21 : decode cX10_orderAt 21 = .ok (.ireturn, 1) := by decide +kernel
theorem dX10_orderAt_22 : decode cX10_orderAt 22 = .ok (.aload_n 0, 1) := by decide +kernel
theorem dX10_orderAt_23 : decode cX10_orderAt 23 = .ok (.aload_n 0, 1) := by decide +kernel
theorem dX10_orderAt_24 : decode cX10_orderAt 24 = .ok (.getfield 65, 3) := by decide +kernel
theorem dX10_orderAt_27 : decode cX10_orderAt 27 = .ok (.getfield 353, 3) := by decide +kernel
theorem dX10_orderAt_30 : decode cX10_orderAt 30 = .ok (.iload_n 1, 1) := by decide +kernel
theorem dX10_orderAt_31 : decode cX10_orderAt 31 = .ok (.iaload, 1) := by decide +kernel
theorem dX10_orderAt_32 : decode cX10_orderAt 32 = .ok (.invokevirtual 197, 3) := by decide +kernel
theorem dX10_orderAt_35 : decode cX10_orderAt 35 = .ok (.ireturn, 1) := by decide +kernel
theorem dX10_bribes_0 : decode cX10_bribes 0 = .ok (.iload_n 1, 1) := by decide +kernel
theorem dX10_bribes_1 : decode cX10_bribes 1 = .ok (.i2l, 1) := by decide +kernel
theorem dX10_bribes_2 : decode cX10_bribes 2 = .ok (.invokestatic 259, 3) := by decide +kernel
theorem dX10_bribes_5 : decode cX10_bribes 5 = .ok (.ifCond .ne 17, 3) := by decide +kernel
theorem dX10_bribes_8 : decode cX10_bribes 8 = .ok (.iload_n 2, 1) := by decide +kernel
theorem dX10_bribes_9 : decode cX10_bribes 9 = .ok (.invokestatic 302, 3) := by decide +kernel
theorem dX10_bribes_12 : decode cX10_bribes 12 = .ok (.ifCond .ne 10, 3) := by decide +kernel
theorem dX10_bribes_15 : decode cX10_bribes 15 = .ok (.iload_n 3, 1) := by decide +kernel
theorem dX10_bribes_16 : decode cX10_bribes 16 = .ok (.invokestatic 356, 3) := by decide +kernel
theorem dX10_bribes_19 : decode cX10_bribes 19 = .ok (.ifCond .eq 9, 3) := by decide +kernel
theorem dX10_bribes_22 : decode cX10_bribes 22 = .ok (.aload_n 0, 1) := by decide +kernel
theorem dX10_bribes_23 : decode cX10_bribes 23 = .ok (.iconst 5, 1) := by decide +kernel
theorem dX10_bribes_24 : decode cX10_bribes 24 = .ok (.invokevirtual 133, 3) := by decide +kernel
theorem dX10_bribes_27 : decode cX10_bribes 27 = .ok (.ireturn, 1) := by decide +kernel
theorem dX10_bribes_28 : decode cX10_bribes 28 = .ok (.aload_n 0, 1) := by decide +kernel
theorem dX10_bribes_29 : decode cX10_bribes 29 = .ok (.iload_n 1, 1) := by decide +kernel
theorem dX10_bribes_30 : decode cX10_bribes 30 = .ok (.iload_n 2, 1) := by decide +kernel
theorem dX10_bribes_31 : decode cX10_bribes 31 = .ok (.iload_n 3, 1) := by decide +kernel
theorem dX10_bribes_32 : decode cX10_bribes 32 = .ok (.invokevirtual 359, 3) := by decide +kernel
theorem dX10_bribes_35 : decode cX10_bribes 35 = .ok (.istore 4, 2) := by decide +kernel
theorem dX10_bribes_37 : decode cX10_bribes 37 = .ok (.iload 4, 2) := by decide +kernel
theorem dX10_bribes_39 : decode cX10_bribes 39 = .ok (.iconst (-1), 1) := by decide +kernel
theorem dX10_bribes_40 : decode cX10_bribes 40 = .ok (.if_icmp .ne 10, 3) := by decide +kernel
theorem dX10_bribes_43 : decode cX10_bribes 43 = .ok (.aload_n 0, 1) := by decide +kernel
theorem dX10_bribes_44 : decode cX10_bribes 44 = .ok (.bipush 8, 2) := by decide +kernel
theorem dX10_bribes_46 : decode cX10_bribes 46 = .ok (.invokevirtual 133, 3) := by decide +kernel
theorem dX10_bribes_49 : decode cX10_bribes 49 = .ok (.ireturn, 1) := by decide +kernel
theorem dX10_bribes_50 : decode cX10_bribes 50 = .ok (.aload_n 0, 1) := by decide +kernel
theorem dX10_bribes_51 : decode cX10_bribes 51 = .ok (.getfield 65, 3) := by decide +kernel
theorem dX10_bribes_54 : decode cX10_bribes 54 = .ok (.iload 4, 2) := by decide +kernel
theorem dX10_bribes_56 : decode cX10_bribes 56 = .ok (.putfield 362, 3) := by decide +kernel
theorem dX10_bribes_59 : decode cX10_bribes 59 = .ok (.aload_n 0, 1) := by decide +kernel
theorem dX10_bribes_60 : decode cX10_bribes 60 = .ok (.aload_n 0, 1) := by decide +kernel
theorem dX10_bribes_61 : decode cX10_bribes 61 = .ok (.getfield 19, 3) := by decide +kernel
theorem dX10_bribes_64 : decode cX10_bribes 64 = .ok (.getfield 175, 3) := by decide +kernel
theorem dX10_bribes_67 : decode cX10_bribes 67 = .ok (.iload 4, 2) := by decide +kernel
theorem dX10_bribes_69 : decode cX10_bribes 69 = .ok (.invokevirtual 365, 3) := by decide +kernel
theorem dX10_bribes_72 : decode cX10_bribes 72 = .ok (.invokevirtual 197, 3) := by decide +kernel
theorem dX10_bribes_75 : decode cX10_bribes 75 = .ok (.ireturn, 1) := by decide +kernel
theorem dX10_bribeSet_0 : decode cX10_bribeSet 0 = .ok (.aload_n 0, 1) := by decide +kernel
theorem dX10_bribeSet_1 : decode cX10_bribeSet 1 = .ok (.getfield 65, 3) := by decide +kernel
theorem dX10_bribeSet_4 : decode cX10_bribeSet 4 = .ok (.getfield 362, 3) := by decide +kernel
theorem dX10_bribeSet_7 : decode cX10_bribeSet 7 = .ok (.iconst (-1), 1) := by decide +kernel
theorem dX10_bribeSet_8 : decode cX10_bribeSet 8 = .ok (.if_icmp .ne 12, 3) := by decide +kernel
theorem dX10_bribeSet_11 : decode cX10_bribeSet 11 = .ok (.aload_n 0, 1) := by decide +kernel
theorem dX10_bribeSet_12 : decode cX10_bribeSet 12 = .ok (.bipush 8, 2) := by decide +kernel
theorem dX10_bribeSet_14 : decode cX10_bribeSet 14 = .ok (.invokevirtual 133, 3) := by decide +kernel
theorem dX10_bribeSet_17 : decode cX10_bribeSet 17 = .ok (.goto 14, 3) := by decide +kernel
theorem dX10_bribeSet_20 : decode cX10_bribeSet 20 = .ok (.aload_n 0, 1) := by decide +kernel
theorem dX10_bribeSet_21 : decode cX10_bribeSet 21 = .ok (.aload_n 0, 1) := by decide +kernel
theorem dX10_bribeSet_22 : decode cX10_bribeSet 22 = .ok (.getfield 65, 3) := by decide +kernel
theorem dX10_bribeSet_25 : decode cX10_bribeSet 25 = .ok (.getfield 362, 3) := by decide +kernel
theorem dX10_bribeSet_28 : decode cX10_bribeSet 28 = .ok (.invokevirtual 197, 3) := by decide +kernel
theorem dX10_bribeSet_31 : decode cX10_bribeSet 31 = .ok (.ireturn, 1) := by decide +kernel
theorem dX10_strikes_0 : decode cX10_strikes 0 = .ok (.aload_n 0, 1) := by decide +kernel
theorem dX10_strikes_1 : decode cX10_strikes 1 = .ok (.iload_n 1, 1) := by decide +kernel
theorem dX10_strikes_2 : decode cX10_strikes 2 = .ok (.invokevirtual 368, 3) := by decide +kernel
theorem dX10_strikes_5 : decode cX10_strikes 5 = .ok (.istore_n 2, 1) := by decide +kernel
theorem dX10_strikes_6 : decode cX10_strikes 6 = .ok (.iload_n 2, 1) := by decide +kernel
theorem dX10_strikes_7 : decode cX10_strikes 7 = .ok (.ifCond .eq 9, 3) := by decide +kernel
theorem dX10_strikes_10 : decode cX10_strikes 10 = .ok (.aload_n 0, 1) := by decide +kernel
theorem dX10_strikes_11 : decode cX10_strikes 11 = .ok (.iload_n 2, 1) := by decide +kernel
theorem dX10_strikes_12 : decode cX10_strikes 12 = .ok (.invokevirtual 133, 3) := by decide +kernel
theorem dX10_strikes_15 : decode cX10_strikes 15 = .ok (.ireturn, 1) := by decide +kernel
theorem dX10_strikes_16 : decode cX10_strikes 16 = .ok (.aload_n 0, 1) := by decide +kernel
theorem dX10_strikes_17 : decode cX10_strikes 17 = .ok (.getfield 19, 3) := by decide +kernel
theorem dX10_strikes_20 : decode cX10_strikes 20 = .ok (.getfield 182, 3) := by decide +kernel
theorem dX10_strikes_23 : decode cX10_strikes 23 = .ok (.invokevirtual 313, 3) := by decide +kernel
theorem dX10_strikes_26 : decode cX10_strikes 26 = .ok (.istore_n 3, 1) := by decide +kernel
theorem dX10_strikes_27 : decode cX10_strikes 27 = .ok (.aload_n 0, 1) := by decide +kernel
theorem dX10_strikes_28 : decode cX10_strikes 28 = .ok (.aload_n 0, 1) := by decide +kernel
theorem dX10_strikes_29 : decode cX10_strikes 29 = .ok (.getfield 19, 3) := by decide +kernel
theorem dX10_strikes_32 : decode cX10_strikes 32 = .ok (.getfield 175, 3) := by decide +kernel
theorem dX10_strikes_35 : decode cX10_strikes 35 = .ok (.getfield 213, 3) := by decide +kernel
theorem dX10_strikes_38 : decode cX10_strikes 38 = .ok (.iload_n 3, 1) := by decide +kernel
theorem dX10_strikes_39 : decode cX10_strikes 39 = .ok (.aload_n 0, 1) := by decide +kernel
theorem dX10_strikes_40 : decode cX10_strikes 40 = .ok (.getfield 19, 3) := by decide +kernel
theorem dX10_strikes_43 : decode cX10_strikes 43 = .ok (.getfield 182, 3) := by decide +kernel
theorem dX10_strikes_46 : decode cX10_strikes 46 = .ok (.invokevirtual 317, 3) := by decide +kernel
theorem dX10_strikes_49 : decode cX10_strikes 49 = .ok (.iload_n 3, 1) := by decide +kernel
theorem dX10_strikes_50 : decode cX10_strikes 50 = .ok (.isub, 1) := by decide +kernel
theorem dX10_strikes_51 : decode cX10_strikes 51 = .ok (.iconst 2, 1) := by decide +kernel
theorem dX10_strikes_52 : decode cX10_strikes 52 = .ok (.iload_n 1, 1) := by decide +kernel
theorem dX10_strikes_53 : decode cX10_strikes 53 = .ok (.imul, 1) := by decide +kernel
theorem dX10_strikes_54 : decode cX10_strikes 54 = .ok (.invokestatic 371, 3) := by decide +kernel
theorem dX10_strikes_57 : decode cX10_strikes 57 = .ok (.invokevirtual 197, 3) := by decide +kernel
theorem dX10_strikes_60 : decode cX10_strikes 60 = .ok (.ireturn, 1) := by decide +kernel
theorem dX10_firstStrike_0 : decode cX10_firstStrike 0 = .ok (.aload_n 0, 1) := by decide +kernel
theorem dX10_firstStrike_1 : decode cX10_firstStrike 1 = .ok (.iload_n 1, 1) := by decide +kernel
theorem dX10_firstStrike_2 : decode cX10_firstStrike 2 = .ok (.invokevirtual 368, 3) := by decide +kernel
theorem dX10_firstStrike_5 : decode cX10_firstStrike 5 = .ok (.istore_n 2, 1) := by decide +kernel
theorem dX10_firstStrike_6 : decode cX10_firstStrike 6 = .ok (.iload_n 2, 1) := by decide +kernel
theorem dX10_firstStrike_7 : decode cX10_firstStrike 7 = .ok (.ifCond .eq 9, 3) := by decide +kernel
theorem dX10_firstStrike_10 : decode cX10_firstStrike 10 = .ok (.aload_n 0, 1) := by decide +kernel
theorem dX10_firstStrike_11 : decode cX10_firstStrike 11 = .ok (.iload_n 2, 1) := by decide +kernel
theorem dX10_firstStrike_12 : decode cX10_firstStrike 12 = .ok (.invokevirtual 133, 3) := by decide +kernel
theorem dX10_firstStrike_15 : decode cX10_firstStrike 15 = .ok (.ireturn, 1) := by decide +kernel
theorem dX10_firstStrike_16 : decode cX10_firstStrike 16 = .ok (.aload_n 0, 1) := by decide +kernel
theorem dX10_firstStrike_17 : decode cX10_firstStrike 17 = .ok (.aload_n 0, 1) := by decide +kernel
theorem dX10_firstStrike_18 : decode cX10_firstStrike 18 = .ok (.iconst 2, 1) := by decide +kernel
theorem dX10_firstStrike_19 : decode cX10_firstStrike 19 = .ok (.iload_n 1, 1) := by decide +kernel
theorem dX10_firstStrike_20 : decode cX10_firstStrike 20 = .ok (.imul, 1) := by decide +kernel
theorem dX10_firstStrike_21 : decode cX10_firstStrike 21 = .ok (.invokevirtual 375, 3) := by decide +kernel
theorem dX10_firstStrike_24 : decode cX10_firstStrike 24 = .ok (.invokevirtual 197, 3) := by decide +kernel
theorem dX10_firstStrike_27 : decode cX10_firstStrike 27 = .ok (.ireturn, 1) := by decide +kernel
theorem dX10_drawn_0 : decode cX10_drawn 0 = .ok (.aload_n 0, 1) := by decide +kernel
theorem dX10_drawn_1 : decode cX10_drawn 1 = .ok (.getfield 19, 3) := by decide +kernel
theorem dX10_drawn_4 : decode cX10_drawn 4 = .ok (.getfield 175, 3) := by decide +kernel
theorem dX10_drawn_7 : decode cX10_drawn 7 = .ok (.getfield 194, 3) := by decide +kernel
theorem dX10_drawn_10 : decode cX10_drawn 10 = .ok (.iconst 0, 1) := by decide +kernel
theorem dX10_drawn_11 : decode cX10_drawn 11 = .ok (.iaload, 1) := by decide +kernel
theorem dX10_drawn_12 : decode cX10_drawn 12 = .ok (.istore 4, 2) := by decide +kernel
theorem dX10_drawn_14 : decode cX10_drawn 14 = .ok (.iload_n 1, 1) := by decide +kernel
theorem dX10_drawn_15 : decode cX10_drawn 15 = .ok (.iconst 1, 1) := by decide +kernel
theorem dX10_drawn_16 : decode cX10_drawn 16 = .ok (.if_icmp .lt 24, 3) := by decide +kernel
theorem dX10_drawn_19 : decode cX10_drawn 19 = .ok (.iload_n 1, 1) := by decide +kernel
theorem dX10_drawn_20 : decode cX10_drawn 20 = .ok (.iload 4, 2) := by decide +kernel
theorem dX10_drawn_22 : decode cX10_drawn 22 = .ok (.if_icmp .gt 18, 3) := by decide +kernel
theorem dX10_drawn_25 : decode cX10_drawn 25 = .ok (.iload_n 2, 1) := by decide +kernel
theorem dX10_drawn_26 : decode cX10_drawn 26 = .ok (.invokestatic 356, 3) := by decide +kernel
theorem dX10_drawn_29 : decode cX10_drawn 29 = .ok (.ifCond .ne 11, 3) := by decide +kernel
theorem dX10_drawn_32 : decode cX10_drawn 32 = .ok (.iload_n 3, 1) := by decide +kernel
theorem dX10_drawn_33 : decode cX10_drawn 33 = .ok (.i2l, 1) := by decide +kernel
theorem dX10_drawn_34 : decode cX10_drawn 34 = .ok (.invokestatic 259, 3) := by decide +kernel
theorem dX10_drawn_37 : decode cX10_drawn 37 = .ok (.ifCond .eq 9, 3) := by decide +kernel
theorem dX10_drawn_40 : decode cX10_drawn 40 = .ok (.aload_n 0, 1) := by decide +kernel
theorem dX10_drawn_41 : decode cX10_drawn 41 = .ok (.iconst 5, 1) := by decide +kernel
theorem dX10_drawn_42 : decode cX10_drawn 42 = .ok (.invokevirtual 114, 3) := by decide +kernel
theorem dX10_drawn_45 : decode cX10_drawn 45 = .ok (.ireturn, 1) := by decide +kernel
theorem dX10_drawn_46 : decode cX10_drawn 46 = .ok (.iconst 0, 1) := by decide +kernel
theorem dX10_drawn_47 : decode cX10_drawn 47 = .ok (.istore 5, 2) := by decide +kernel
theorem dX10_drawn_49 : decode cX10_drawn 49 = .ok (.iconst 0, 1) := by decide +kernel
theorem dX10_drawn_50 : decode cX10_drawn 50 = .ok (.istore 6, 2) := by decide +kernel
theorem dX10_drawn_52 : decode cX10_drawn 52 = .ok (.iconst 1, 1) := by decide +kernel
theorem dX10_drawn_53 : decode cX10_drawn 53 = .ok (.istore 7, 2) := by decide +kernel
theorem dX10_drawn_55 : decode cX10_drawn 55 = .ok (.iload 7, 2) := by decide +kernel
theorem dX10_drawn_57 : decode cX10_drawn 57 = .ok (.iconst 1, 1) := by decide +kernel
theorem dX10_drawn_58 : decode cX10_drawn 58 = .ok (.iload 4, 2) := by decide +kernel
theorem dX10_drawn_60 : decode cX10_drawn 60 = .ok (.ishl, 1) := by decide +kernel
theorem dX10_drawn_61 : decode cX10_drawn 61 = .ok (.if_icmp .ge 83, 3) := by decide +kernel
theorem dX10_drawn_64 : decode cX10_drawn 64 = .ok (.iload 7, 2) := by decide +kernel
theorem dX10_drawn_66 : decode cX10_drawn 66 = .ok (.invokestatic 378, 3) := by decide +kernel
theorem dX10_drawn_69 : decode cX10_drawn 69 = .ok (.iload_n 1, 1) := by decide +kernel
theorem dX10_drawn_70 : decode cX10_drawn 70 = .ok (.if_icmp .ne 68, 3) := by decide +kernel
theorem dX10_drawn_73 : decode cX10_drawn 73 = .ok (.iinc 5 1, 3) := by decide +kernel
theorem dX10_drawn_76 : decode cX10_drawn 76 = .ok (.aload_n 0, 1) := by decide +kernel
theorem dX10_drawn_77 : decode cX10_drawn 77 = .ok (.getfield 72, 3) := by decide +kernel
theorem dX10_drawn_80 : decode cX10_drawn 80 = .ok (.aload_n 0, 1) := by decide +kernel
theorem dX10_drawn_81 : decode cX10_drawn 81 = .ok (.getfield 19, 3) := by decide +kernel
theorem dX10_drawn_84 : decode cX10_drawn 84 = .ok (.getfield 175, 3) := by decide +kernel
theorem dX10_drawn_87 : decode cX10_drawn 87 = .ok (.invokevirtual 383, 3) := by decide +kernel
theorem dX10_drawn_90 : decode cX10_drawn 90 = .ok (.aload_n 0, 1) := by decide +kernel
theorem dX10_drawn_91 : decode cX10_drawn 91 = .ok (.getfield 72, 3) := by decide +kernel
theorem dX10_drawn_94 : decode cX10_drawn 94 = .ok (.iload 7, 2) := by decide +kernel
theorem dX10_drawn_96 : decode cX10_drawn 96 = .ok (.putfield 231, 3) := by decide +kernel
theorem dX10_drawn_99 : decode cX10_drawn 99 = .ok (.aload_n 0, 1) := by decide +kernel
theorem dX10_drawn_100 : decode cX10_drawn 100 = .ok (.getfield 72, 3) := by decide +kernel
theorem dX10_drawn_103 : decode cX10_drawn 103 = .ok (.aload_n 0, 1) := by decide +kernel
theorem dX10_drawn_104 : decode cX10_drawn 104 = .ok (.getfield 19, 3) := by decide +kernel
theorem dX10_drawn_107 : decode cX10_drawn 107 = .ok (.getfield 175, 3) := by decide +kernel
theorem dX10_drawn_110 : decode cX10_drawn 110 = .ok (.iload_n 2, 1) := by decide +kernel
theorem dX10_drawn_111 : decode cX10_drawn 111 = .ok (.invokevirtual 282, 3) := by decide +kernel
theorem dX10_drawn_114 : decode cX10_drawn 114 = .ok (.aload_n 0, 1) := by decide +kernel
theorem dX10_drawn_115 : decode cX10_drawn 115 = .ok (.getfield 72, 3) := by decide +kernel
theorem dX10_drawn_118 : decode cX10_drawn 118 = .ok (.aload_n 0, 1) := by decide +kernel
theorem dX10_drawn_119 : decode cX10_drawn 119 = .ok (.getfield 19, 3) := by decide +kernel
theorem dX10_drawn_122 : decode cX10_drawn 122 = .ok (.getfield 175, 3) := by decide +kernel
theorem dX10_drawn_125 : decode cX10_drawn 125 = .ok (.getfield 213, 3) := by decide +kernel
theorem dX10_drawn_128 : decode cX10_drawn 128 = .ok (.invokevirtual 286, 3) := by decide +kernel
theorem dX10_drawn_131 : decode cX10_drawn 131 = .ok (.iload_n 3, 1) := by decide +kernel
theorem dX10_drawn_132 : decode cX10_drawn 132 = .ok (.if_icmp .ne 6, 3) := by decide +kernel
theorem dX10_drawn_135 : decode cX10_drawn 135 = .ok (.iinc 6 1, 3) := by decide +kernel
theorem dX10_drawn_138 : decode cX10_drawn 138 = .ok (.iinc 7 1, 3) := by decide +kernel
theorem dX10_drawn_141 : decode cX10_drawn 141 = .ok (.goto (-86), 3) := by decide +kernel
theorem dX10_drawn_144 : decode cX10_drawn 144 = .ok (.aload_n 0, 1) := by decide +kernel
theorem dX10_drawn_145 : decode cX10_drawn 145 = .ok (.iload 6, 2) := by decide +kernel
theorem dX10_drawn_147 : decode cX10_drawn 147 = .ok (.i2l, 1) := by decide +kernel
theorem dX10_drawn_148 : decode cX10_drawn 148 = .ok (.iload 5, 2) := by decide +kernel
theorem dX10_drawn_150 : decode cX10_drawn 150 = .ok (.i2l, 1) := by decide +kernel
theorem dX10_drawn_151 : decode cX10_drawn 151 = .ok (.invokevirtual 386, 3) := by decide +kernel
theorem dX10_drawn_154 : decode cX10_drawn 154 = .ok (.aload_n 0, 1) := by decide +kernel
theorem dX10_drawn_155 : decode cX10_drawn 155 = .ok (.invokevirtual 121, 3) := by decide +kernel
theorem dX10_drawn_158 : decode cX10_drawn 158 = .ok (.ireturn, 1) := by decide +kernel
theorem dX10_row_0 : decode cX10_row 0 = .ok (.aload_n 0, 1) := by decide +kernel
theorem dX10_row_1 : decode cX10_row 1 = .ok (.iload_n 1, 1) := by decide +kernel
theorem dX10_row_2 : decode cX10_row 2 = .ok (.iload_n 2, 1) := by decide +kernel
theorem dX10_row_3 : decode cX10_row 3 = .ok (.invokevirtual 390, 3) := by decide +kernel
theorem dX10_row_6 : decode cX10_row 6 = .ok (.istore_n 3, 1) := by decide +kernel
theorem dX10_row_7 : decode cX10_row 7 = .ok (.iload_n 3, 1) := by decide +kernel
theorem dX10_row_8 : decode cX10_row 8 = .ok (.ifCond .eq 9, 3) := by decide +kernel
theorem dX10_row_11 : decode cX10_row 11 = .ok (.aload_n 0, 1) := by decide +kernel
theorem dX10_row_12 : decode cX10_row 12 = .ok (.iload_n 3, 1) := by decide +kernel
theorem dX10_row_13 : decode cX10_row 13 = .ok (.invokevirtual 133, 3) := by decide +kernel
theorem dX10_row_16 : decode cX10_row 16 = .ok (.ireturn, 1) := by decide +kernel
theorem dX10_row_17 : decode cX10_row 17 = .ok (.aload_n 0, 1) := by decide +kernel
theorem dX10_row_18 : decode cX10_row 18 = .ok (.getfield 19, 3) := by decide +kernel
theorem dX10_row_21 : decode cX10_row 21 = .ok (.getfield 182, 3) := by decide +kernel
theorem dX10_row_24 : decode cX10_row 24 = .ok (.getfield 225, 3) := by decide +kernel
theorem dX10_row_27 : decode cX10_row 27 = .ok (.istore 4, 2) := by decide +kernel
theorem dX10_row_29 : decode cX10_row 29 = .ok (.iconst 0, 1) := by decide +kernel
theorem dX10_row_30 : decode cX10_row 30 = .ok (.istore 5, 2) := by decide +kernel
theorem dX10_row_32 : decode cX10_row 32 = .ok (.iload 5, 2) := by decide +kernel
theorem dX10_row_34 : decode cX10_row 34 = .ok (.iload_n 2, 1) := by decide +kernel
theorem dX10_row_35 : decode cX10_row 35 = .ok (.if_icmp .ge 36, 3) := by decide +kernel
theorem dX10_row_38 : decode cX10_row 38 = .ok (.aload_n 0, 1) := by decide +kernel
theorem dX10_row_39 : decode cX10_row 39 = .ok (.getfield 19, 3) := by decide +kernel
theorem dX10_row_42 : decode cX10_row 42 = .ok (.getfield 175, 3) := by decide +kernel
theorem dX10_row_45 : decode cX10_row 45 = .ok (.iload 4, 2) := by decide +kernel
theorem dX10_row_47 : decode cX10_row 47 = .ok (.aload_n 0, 1) := by decide +kernel
theorem dX10_row_48 : decode cX10_row 48 = .ok (.getfield 10, 3) := by decide +kernel
theorem dX10_row_51 : decode cX10_row 51 = .ok (.getfield 137, 3) := by decide +kernel
theorem dX10_row_54 : decode cX10_row 54 = .ok (.iload_n 1, 1) := by decide +kernel
theorem dX10_row_55 : decode cX10_row 55 = .ok (.aaload, 1) := by decide +kernel
theorem dX10_row_56 : decode cX10_row 56 = .ok (.iload 5, 2) := by decide +kernel
theorem dX10_row_58 : decode cX10_row 58 = .ok (.laload, 1) := by decide +kernel
theorem dX10_row_59 : decode cX10_row 59 = .ok (.l2i, 1) := by decide +kernel
theorem dX10_row_60 : decode cX10_row 60 = .ok (.invokevirtual 263, 3) := by decide +kernel
theorem dX10_row_63 : decode cX10_row 63 = .ok (.istore 4, 2) := by decide +kernel
theorem dX10_row_65 : decode cX10_row 65 = .ok (.iinc 5 1, 3) := by decide +kernel
theorem dX10_row_68 : decode cX10_row 68 = .ok (.goto (-36), 3) := by decide +kernel
theorem dX10_row_71 : decode cX10_row 71 = .ok (.aload_n 0, 1) := by decide +kernel
theorem dX10_row_72 : decode cX10_row 72 = .ok (.iload 4, 2) := by decide +kernel
theorem dX10_row_74 : decode cX10_row 74 = .ok (.invokevirtual 197, 3) := by decide +kernel
theorem dX10_row_77 : decode cX10_row 77 = .ok (.ireturn, 1) := by decide +kernel
theorem dX10_rowGrows_0 : decode cX10_rowGrows 0 = .ok (.aload_n 0, 1) := by decide +kernel
theorem dX10_rowGrows_1 : decode cX10_rowGrows 1 = .ok (.iload_n 1, 1) := by decide +kernel
theorem dX10_rowGrows_2 : decode cX10_rowGrows 2 = .ok (.iload_n 2, 1) := by decide +kernel
theorem dX10_rowGrows_3 : decode cX10_rowGrows 3 = .ok (.invokevirtual 390, 3) := by decide +kernel
theorem dX10_rowGrows_6 : decode cX10_rowGrows 6 = .ok (.istore 4, 2) := by decide +kernel
theorem dX10_rowGrows_8 : decode cX10_rowGrows 8 = .ok (.iload 4, 2) := by decide +kernel
theorem dX10_rowGrows_10 : decode cX10_rowGrows 10 = .ok (.ifCond .eq 10, 3) := by decide +kernel
theorem dX10_rowGrows_13 : decode cX10_rowGrows 13 = .ok (.aload_n 0, 1) := by decide +kernel
theorem dX10_rowGrows_14 : decode cX10_rowGrows 14 = .ok (.iload 4, 2) := by decide +kernel
theorem dX10_rowGrows_16 : decode cX10_rowGrows 16 = .ok (.invokevirtual 133, 3) := by decide +kernel
theorem dX10_rowGrows_19 : decode cX10_rowGrows 19 = .ok (.ireturn, 1) := by decide +kernel
theorem dX10_rowGrows_20 : decode cX10_rowGrows 20 = .ok (.aload_n 0, 1) := by decide +kernel
theorem dX10_rowGrows_21 : decode cX10_rowGrows 21 = .ok (.iconst 3, 1) := by decide +kernel
theorem dX10_rowGrows_22 : decode cX10_rowGrows 22 = .ok (.iload_n 3, 1) := by decide +kernel
theorem dX10_rowGrows_23 : decode cX10_rowGrows 23 = .ok (.invokevirtual 237, 3) := by decide +kernel
theorem dX10_rowGrows_26 : decode cX10_rowGrows 26 = .ok (.ifCond .eq 9, 3) := by decide +kernel
theorem dX10_rowGrows_29 : decode cX10_rowGrows 29 = .ok (.aload_n 0, 1) := by decide +kernel
theorem dX10_rowGrows_30 : decode cX10_rowGrows 30 = .ok (.iconst 2, 1) := by decide +kernel
theorem dX10_rowGrows_31 : decode cX10_rowGrows 31 = .ok (.invokevirtual 133, 3) := by decide +kernel
theorem dX10_rowGrows_34 : decode cX10_rowGrows 34 = .ok (.ireturn, 1) := by decide +kernel
theorem dX10_rowGrows_35 : decode cX10_rowGrows 35 = .ok (.aload_n 0, 1) := by decide +kernel
theorem dX10_rowGrows_36 : decode cX10_rowGrows 36 = .ok (.getfield 19, 3) := by decide +kernel
theorem dX10_rowGrows_39 : decode cX10_rowGrows 39 = .ok (.getfield 182, 3) := by decide +kernel
theorem dX10_rowGrows_42 : decode cX10_rowGrows 42 = .ok (.getfield 225, 3) := by decide +kernel
theorem dX10_rowGrows_45 : decode cX10_rowGrows 45 = .ok (.istore 5, 2) := by decide +kernel
theorem dX10_rowGrows_47 : decode cX10_rowGrows 47 = .ok (.iconst 0, 1) := by decide +kernel
theorem dX10_rowGrows_48 : decode cX10_rowGrows 48 = .ok (.istore 6, 2) := by decide +kernel
theorem dX10_rowGrows_50 : decode cX10_rowGrows 50 = .ok (.iconst 0, 1) := by decide +kernel
theorem dX10_rowGrows_51 : decode cX10_rowGrows 51 = .ok (.istore 7, 2) := by decide +kernel
theorem dX10_rowGrows_53 : decode cX10_rowGrows 53 = .ok (.iload 7, 2) := by decide +kernel
theorem dX10_rowGrows_55 : decode cX10_rowGrows 55 = .ok (.iload_n 2, 1) := by decide +kernel
theorem dX10_rowGrows_56 : decode cX10_rowGrows 56 = .ok (.if_icmp .ge 54, 3) := by decide +kernel
theorem dX10_rowGrows_59 : decode cX10_rowGrows 59 = .ok (.iload 6, 2) := by decide +kernel
theorem dX10_rowGrows_61 : decode cX10_rowGrows 61 = .ok (.aload_n 0, 1) := by decide +kernel
theorem dX10_rowGrows_62 : decode cX10_rowGrows 62 = .ok (.getfield 19, 3) := by decide +kernel
theorem dX10_rowGrows_65 : decode cX10_rowGrows 65 = .ok (.getfield 175, 3) := by decide +kernel
theorem dX10_rowGrows_68 : decode cX10_rowGrows 68 = .ok (.iload_n 3, 1) := by decide +kernel
theorem dX10_rowGrows_69 : decode cX10_rowGrows 69 = .ok (.iload 5, 2) := by decide +kernel
theorem dX10_rowGrows_71 : decode cX10_rowGrows 71 = .ok (.invokevirtual 266, 3) := by decide +kernel
theorem dX10_rowGrows_74 : decode cX10_rowGrows 74 = .ok (.iadd, 1) := by decide +kernel
theorem dX10_rowGrows_75 : decode cX10_rowGrows 75 = .ok (.istore 6, 2) := by decide +kernel
theorem dX10_rowGrows_77 : decode cX10_rowGrows 77 = .ok (.aload_n 0, 1) := by decide +kernel
theorem dX10_rowGrows_78 : decode cX10_rowGrows 78 = .ok (.getfield 19, 3) := by decide +kernel
theorem dX10_rowGrows_81 : decode cX10_rowGrows 81 = .ok (.getfield 175, 3) := by decide +kernel
theorem dX10_rowGrows_84 : decode cX10_rowGrows 84 = .ok (.iload 5, 2) := by decide +kernel
theorem dX10_rowGrows_86 : decode cX10_rowGrows 86 = .ok (.aload_n 0, 1) := by decide +kernel
theorem dX10_rowGrows_87 : decode cX10_rowGrows 87 = .ok (.getfield 10, 3) := by decide +kernel
theorem dX10_rowGrows_90 : decode cX10_rowGrows 90 = .ok (.getfield 137, 3) := by decide +kernel
theorem dX10_rowGrows_93 : decode cX10_rowGrows 93 = .ok (.iload_n 1, 1) := by decide +kernel
theorem dX10_rowGrows_94 : decode cX10_rowGrows 94 = .ok (.aaload, 1) := by decide +kernel
theorem dX10_rowGrows_95 : decode cX10_rowGrows 95 = .ok (.iload 7, 2) := by decide +kernel
theorem dX10_rowGrows_97 : decode cX10_rowGrows 97 = .ok (.laload, 1) := by decide +kernel
theorem dX10_rowGrows_98 : decode cX10_rowGrows 98 = .ok (.l2i, 1) := by decide +kernel
theorem dX10_rowGrows_99 : decode cX10_rowGrows 99 = .ok (.invokevirtual 263, 3) := by decide +kernel
theorem dX10_rowGrows_102 : decode cX10_rowGrows 102 = .ok (.istore 5, 2) := by decide +kernel
theorem dX10_rowGrows_104 : decode cX10_rowGrows 104 = .ok (.iinc 7 1, 3) := by decide +kernel
theorem dX10_rowGrows_107 : decode cX10_rowGrows 107 = .ok (.goto (-54), 3) := by decide +kernel
theorem dX10_rowGrows_110 : decode cX10_rowGrows 110 = .ok (.aload_n 0, 1) := by decide +kernel
theorem dX10_rowGrows_111 : decode cX10_rowGrows 111 = .ok (.iload 6, 2) := by decide +kernel
theorem dX10_rowGrows_113 : decode cX10_rowGrows 113 = .ok (.invokevirtual 197, 3) := by decide +kernel
theorem dX10_rowGrows_116 : decode cX10_rowGrows 116 = .ok (.ireturn, 1) := by decide +kernel
theorem dX10_way_0 : decode cX10_way 0 = .ok (.aload_n 0, 1) := by decide +kernel
theorem dX10_way_1 : decode cX10_way 1 = .ok (.iconst 2, 1) := by decide +kernel
theorem dX10_way_2 : decode cX10_way 2 = .ok (.iload_n 1, 1) := by decide +kernel
theorem dX10_way_3 : decode cX10_way 3 = .ok (.invokevirtual 237, 3) := by decide +kernel
theorem dX10_way_6 : decode cX10_way 6 = .ok (.ifCond .eq 9, 3) := by decide +kernel
theorem dX10_way_9 : decode cX10_way 9 = .ok (.aload_n 0, 1) := by decide +kernel
theorem dX10_way_10 : decode cX10_way 10 = .ok (.iconst 2, 1) := by decide +kernel
theorem dX10_way_11 : decode cX10_way 11 = .ok (.invokevirtual 133, 3) := by decide +kernel
theorem dX10_way_14 : decode cX10_way 14 = .ok (.ireturn, 1) := by decide +kernel
theorem dX10_way_15 : decode cX10_way 15 = .ok (.iconst 1, 1) := by decide +kernel
theorem dX10_way_16 : decode cX10_way 16 = .ok (.aload_n 0, 1) := by decide +kernel
theorem dX10_way_17 : decode cX10_way 17 = .ok (.getfield 19, 3) := by decide +kernel
theorem dX10_way_20 : decode cX10_way 20 = .ok (.getfield 182, 3) := by decide +kernel
theorem dX10_way_23 : decode cX10_way 23 = .ok (.getfield 225, 3) := by decide +kernel
theorem dX10_way_26 : decode cX10_way 26 = .ok (.ishl, 1) := by decide +kernel
theorem dX10_way_27 : decode cX10_way 27 = .ok (.istore_n 2, 1) := by decide +kernel
theorem dX10_way_28 : decode cX10_way 28 = .ok (.iconst 0, 1) := by decide +kernel
theorem dX10_way_29 : decode cX10_way 29 = .ok (.istore_n 3, 1) := by decide +kernel
theorem dX10_way_30 : decode cX10_way 30 = .ok (.iload_n 3, 1) := by decide +kernel
theorem dX10_way_31 : decode cX10_way 31 = .ok (.bipush 6, 2) := by decide +kernel
theorem dX10_way_33 : decode cX10_way 33 = .ok (.if_icmp .ge 35, 3) := by decide +kernel
theorem dX10_way_36 : decode cX10_way 36 = .ok (.iload_n 2, 1) := by decide +kernel
theorem dX10_way_37 : decode cX10_way 37 = .ok (.iload_n 1, 1) := by decide +kernel
theorem dX10_way_38 : decode cX10_way 38 = .ok (.ishr, 1) := by decide +kernel
theorem dX10_way_39 : decode cX10_way 39 = .ok (.iconst 1, 1) := by decide +kernel
theorem dX10_way_40 : decode cX10_way 40 = .ok (.iand, 1) := by decide +kernel
theorem dX10_way_41 : decode cX10_way 41 = .ok (.ifCond .eq 9, 3) := by decide +kernel
theorem dX10_way_44 : decode cX10_way 44 = .ok (.aload_n 0, 1) := by decide +kernel
theorem dX10_way_45 : decode cX10_way 45 = .ok (.iload_n 3, 1) := by decide +kernel
theorem dX10_way_46 : decode cX10_way 46 = .ok (.invokevirtual 197, 3) := by decide +kernel
theorem dX10_way_49 : decode cX10_way 49 = .ok (.ireturn, 1) := by decide +kernel
theorem dX10_way_50 : decode cX10_way 50 = .ok (.aload_n 0, 1) := by decide +kernel
theorem dX10_way_51 : decode cX10_way 51 = .ok (.getfield 19, 3) := by decide +kernel
theorem dX10_way_54 : decode cX10_way 54 = .ok (.getfield 175, 3) := by decide +kernel
theorem dX10_way_57 : decode cX10_way 57 = .ok (.iload_n 2, 1) := by decide +kernel
theorem dX10_way_58 : decode cX10_way 58 = .ok (.invokevirtual 393, 3) := by decide +kernel
theorem dX10_way_61 : decode cX10_way 61 = .ok (.istore_n 2, 1) := by decide +kernel
theorem dX10_way_62 : decode cX10_way 62 = .ok (.iinc 3 1, 3) := by decide +kernel
theorem dX10_way_65 : decode cX10_way 65 = .ok (.goto (-35), 3) := by decide +kernel
theorem dX10_way_68 : decode cX10_way 68 = .ok (.aload_n 0, 1) := by decide +kernel
theorem dX10_way_69 : decode cX10_way 69 = .ok (.bipush 8, 2) := by decide +kernel
theorem dX10_way_71 : decode cX10_way 71 = .ok (.invokevirtual 133, 3) := by decide +kernel
theorem dX10_way_74 : decode cX10_way 74 = .ok (.ireturn, 1) := by decide +kernel
theorem dX10_harvest_0 : decode cX10_harvest 0 = .ok (.aload_n 0, 1) := by decide +kernel
theorem dX10_harvest_1 : decode cX10_harvest 1 = .ok (.iload_n 1, 1) := by decide +kernel
theorem dX10_harvest_2 : decode cX10_harvest 2 = .ok (.iload_n 2, 1) := by decide +kernel
theorem dX10_harvest_3 : decode cX10_harvest 3 = .ok (.invokevirtual 396, 3) := by decide +kernel
theorem dX10_harvest_6 : decode cX10_harvest 6 = .ok (.istore_n 3, 1) := by decide +kernel
theorem dX10_harvest_7 : decode cX10_harvest 7 = .ok (.iload_n 3, 1) := by decide +kernel
theorem dX10_harvest_8 : decode cX10_harvest 8 = .ok (.ifCond .eq 9, 3) := by decide +kernel
theorem dX10_harvest_11 : decode cX10_harvest 11 = .ok (.aload_n 0, 1) := by decide +kernel
theorem dX10_harvest_12 : decode cX10_harvest 12 = .ok (.iload_n 3, 1) := by decide +kernel
theorem dX10_harvest_13 : decode cX10_harvest 13 = .ok (.invokevirtual 133, 3) := by decide +kernel
theorem dX10_harvest_16 : decode cX10_harvest 16 = .ok (.ireturn, 1) := by decide +kernel
theorem dX10_harvest_17 : decode cX10_harvest 17 = .ok (.aload_n 0, 1) := by decide +kernel
theorem dX10_harvest_18 : decode cX10_harvest 18 = .ok (.getfield 65, 3) := by decide +kernel
theorem dX10_harvest_21 : decode cX10_harvest 21 = .ok (.aload_n 0, 1) := by decide +kernel
theorem dX10_harvest_22 : decode cX10_harvest 22 = .ok (.getfield 19, 3) := by decide +kernel
theorem dX10_harvest_25 : decode cX10_harvest 25 = .ok (.getfield 175, 3) := by decide +kernel
theorem dX10_harvest_28 : decode cX10_harvest 28 = .ok (.iload_n 1, 1) := by decide +kernel
theorem dX10_harvest_29 : decode cX10_harvest 29 = .ok (.iload_n 2, 1) := by decide +kernel
theorem dX10_harvest_30 : decode cX10_harvest 30 = .ok (.invokevirtual 399, 3) := by decide +kernel
theorem dX10_harvest_33 : decode cX10_harvest 33 = .ok (.aload_n 0, 1) := by decide +kernel
theorem dX10_harvest_34 : decode cX10_harvest 34 = .ok (.aload_n 0, 1) := by decide +kernel
theorem dX10_harvest_35 : decode cX10_harvest 35 = .ok (.getfield 65, 3) := by decide +kernel
theorem dX10_harvest_38 : decode cX10_harvest 38 = .ok (.getfield 402, 3) := by decide +kernel
theorem dX10_harvest_41 : decode cX10_harvest 41 = .ok (.aload_n 0, 1) := by decide +kernel
theorem dX10_harvest_42 : decode cX10_harvest 42 = .ok (.getfield 19, 3) := by decide +kernel
theorem dX10_harvest_45 : decode cX10_harvest 45 = .ok (.getfield 182, 3) := by decide +kernel
theorem dX10_harvest_48 : decode cX10_harvest 48 = .ok (.getfield 225, 3) := by decide +kernel
theorem dX10_harvest_51 : decode cX10_harvest 51 = .ok (.iaload, 1) := by decide +kernel
theorem dX10_harvest_52 : decode cX10_harvest 52 = .ok (.invokevirtual 197, 3) := by decide +kernel
theorem dX10_harvest_55 : decode cX10_harvest 55 = .ok (.ireturn, 1) := by decide +kernel
theorem dX10_harvestNow_0 : decode cX10_harvestNow 0 = .ok (.aload_n 0, 1) := by decide +kernel
theorem dX10_harvestNow_1 : decode cX10_harvestNow 1 = .ok (.iload_n 1, 1) := by decide +kernel
theorem dX10_harvestNow_2 : decode cX10_harvestNow 2 = .ok (.iload_n 2, 1) := by decide +kernel
theorem dX10_harvestNow_3 : decode cX10_harvestNow 3 = .ok (.invokevirtual 396, 3) := by decide +kernel
theorem dX10_harvestNow_6 : decode cX10_harvestNow 6 = .ok (.istore_n 3, 1) := by decide +kernel
theorem dX10_harvestNow_7 : decode cX10_harvestNow 7 = .ok (.iload_n 3, 1) := by decide +kernel
theorem dX10_harvestNow_8 : decode cX10_harvestNow 8 = .ok (.ifCond .eq 9, 3) := by decide +kernel
theorem dX10_harvestNow_11 : decode cX10_harvestNow 11 = .ok (.aload_n 0, 1) := by decide +kernel
theorem dX10_harvestNow_12 : decode cX10_harvestNow 12 = .ok (.iload_n 3, 1) := by decide +kernel
theorem dX10_harvestNow_13 : decode cX10_harvestNow 13 = .ok (.invokevirtual 133, 3) := by decide +kernel
theorem dX10_harvestNow_16 : decode cX10_harvestNow 16 = .ok (.ireturn, 1) := by decide +kernel
theorem dX10_harvestNow_17 : decode cX10_harvestNow 17 = .ok (.aload_n 0, 1) := by decide +kernel
theorem dX10_harvestNow_18 : decode cX10_harvestNow 18 = .ok (.getfield 65, 3) := by decide +kernel
theorem dX10_harvestNow_21 : decode cX10_harvestNow 21 = .ok (.aload_n 0, 1) := by decide +kernel
theorem dX10_harvestNow_22 : decode cX10_harvestNow 22 = .ok (.getfield 19, 3) := by decide +kernel
theorem dX10_harvestNow_25 : decode cX10_harvestNow 25 = .ok (.getfield 175, 3) := by decide +kernel
theorem dX10_harvestNow_28 : decode cX10_harvestNow 28 = .ok (.iload_n 1, 1) := by decide +kernel
theorem dX10_harvestNow_29 : decode cX10_harvestNow 29 = .ok (.iload_n 2, 1) := by decide +kernel
theorem dX10_harvestNow_30 : decode cX10_harvestNow 30 = .ok (.iconst 1, 1) := by decide +kernel
theorem dX10_harvestNow_31 : decode cX10_harvestNow 31 = .ok (.isub, 1) := by decide +kernel
theorem dX10_harvestNow_32 : decode cX10_harvestNow 32 = .ok (.invokevirtual 399, 3) := by decide +kernel
theorem dX10_harvestNow_35 : decode cX10_harvestNow 35 = .ok (.aload_n 0, 1) := by decide +kernel
theorem dX10_harvestNow_36 : decode cX10_harvestNow 36 = .ok (.aload_n 0, 1) := by decide +kernel
theorem dX10_harvestNow_37 : decode cX10_harvestNow 37 = .ok (.getfield 65, 3) := by decide +kernel
theorem dX10_harvestNow_40 : decode cX10_harvestNow 40 = .ok (.aload_n 0, 1) := by decide +kernel
theorem dX10_harvestNow_41 : decode cX10_harvestNow 41 = .ok (.getfield 19, 3) := by decide +kernel
theorem dX10_harvestNow_44 : decode cX10_harvestNow 44 = .ok (.getfield 175, 3) := by decide +kernel
theorem dX10_harvestNow_47 : decode cX10_harvestNow 47 = .ok (.aload_n 0, 1) := by decide +kernel
theorem dX10_harvestNow_48 : decode cX10_harvestNow 48 = .ok (.getfield 19, 3) := by decide +kernel
theorem dX10_harvestNow_51 : decode cX10_harvestNow 51 = .ok (.getfield 182, 3) := by decide +kernel
theorem dX10_harvestNow_54 : decode cX10_harvestNow 54 = .ok (.getfield 225, 3) := by decide +kernel
theorem dX10_harvestNow_57 : decode cX10_harvestNow 57 = .ok (.invokevirtual 405, 3) := by decide +kernel
theorem dX10_harvestNow_60 : decode cX10_harvestNow 60 = .ok (.invokevirtual 197, 3) := by decide +kernel
theorem dX10_harvestNow_63 : decode cX10_harvestNow 63 = .ok (.ireturn, 1) := by decide +kernel
theorem dX10_reach_0 : decode cX10_reach 0 = .ok (.aload_n 0, 1) := by decide +kernel
theorem dX10_reach_1 : decode cX10_reach 1 = .ok (.invokevirtual 222, 3) := by decide +kernel
theorem dX10_reach_4 : decode cX10_reach 4 = .ok (.ifCond .eq 9, 3) := by decide +kernel
theorem dX10_reach_7 : decode cX10_reach 7 = .ok (.aload_n 0, 1) := by decide +kernel
theorem dX10_reach_8 : decode cX10_reach 8 = .ok (.iconst 0, 1) := by decide +kernel
theorem dX10_reach_9 : decode cX10_reach 9 = .ok (.invokevirtual 197, 3) := by decide +kernel
theorem dX10_reach_12 : decode cX10_reach 12 = .ok (.ireturn, 1) := by decide +kernel
theorem dX10_reach_13 : decode cX10_reach 13 = .ok (.iconst 1, 1) := by decide +kernel
theorem dX10_reach_14 : decode cX10_reach 14 = .ok (.aload_n 0, 1) := by decide +kernel
theorem dX10_reach_15 : decode cX10_reach 15 = .ok (.getfield 19, 3) := by decide +kernel
theorem dX10_reach_18 : decode cX10_reach 18 = .ok (.getfield 182, 3) := by decide +kernel
theorem dX10_reach_21 : decode cX10_reach 21 = .ok (.getfield 225, 3) := by decide +kernel
theorem dX10_reach_24 : decode cX10_reach 24 = .ok (.ishl, 1) := by decide +kernel
theorem dX10_reach_25 : decode cX10_reach 25 = .ok (.istore_n 1, 1) := by decide +kernel
theorem dX10_reach_26 : decode cX10_reach 26 = .ok (.iconst 0, 1) := by decide +kernel
theorem dX10_reach_27 : decode cX10_reach 27 = .ok (.istore_n 2, 1) := by decide +kernel
theorem dX10_reach_28 : decode cX10_reach 28 = .ok (.iload_n 2, 1) := by decide +kernel
theorem dX10_reach_29 : decode cX10_reach 29 = .ok (.bipush 6, 2) := by decide +kernel
theorem dX10_reach_31 : decode cX10_reach 31 = .ok (.if_icmp .ge 21, 3) := by decide +kernel
theorem dX10_reach_34 : decode cX10_reach 34 = .ok (.aload_n 0, 1) := by decide +kernel
theorem dX10_reach_35 : decode cX10_reach 35 = .ok (.getfield 19, 3) := by decide +kernel
theorem dX10_reach_38 : decode cX10_reach 38 = .ok (.getfield 175, 3) := by decide +kernel
theorem dX10_reach_41 : decode cX10_reach 41 = .ok (.iload_n 1, 1) := by decide +kernel
theorem dX10_reach_42 : decode cX10_reach 42 = .ok (.invokevirtual 393, 3) := by decide +kernel
theorem dX10_reach_45 : decode cX10_reach 45 = .ok (.istore_n 1, 1) := by decide +kernel
theorem dX10_reach_46 : decode cX10_reach 46 = .ok (.iinc 2 1, 3) := by decide +kernel
theorem dX10_reach_49 : decode cX10_reach 49 = .ok (.goto (-21), 3) := by decide +kernel
theorem dX10_reach_52 : decode cX10_reach 52 = .ok (.aload_n 0, 1) := by decide +kernel
theorem dX10_reach_53 : decode cX10_reach 53 = .ok (.iload_n 1, 1) := by decide +kernel
theorem dX10_reach_54 : decode cX10_reach 54 = .ok (.invokevirtual 197, 3) := by decide +kernel
theorem dX10_reach_57 : decode cX10_reach 57 = .ok (.ireturn, 1) := by decide +kernel
theorem dX10_live_0 : decode cX10_live 0 = .ok (.iload_n 1, 1) := by decide +kernel
theorem dX10_live_1 : decode cX10_live 1 = .ok (.invokestatic 408, 3) := by decide +kernel
theorem dX10_live_4 : decode cX10_live 4 = .ok (.ifCond .eq 9, 3) := by decide +kernel
theorem dX10_live_7 : decode cX10_live 7 = .ok (.aload_n 0, 1) := by decide +kernel
theorem dX10_live_8 : decode cX10_live 8 = .ok (.iconst 5, 1) := by decide +kernel
theorem dX10_live_9 : decode cX10_live 9 = .ok (.invokevirtual 133, 3) := by decide +kernel
theorem dX10_live_12 : decode cX10_live 12 = .ok (.ireturn, 1) := by decide +kernel
theorem dX10_live_13 : decode cX10_live 13 = .ok (.aload_n 0, 1) := by decide +kernel
theorem dX10_live_14 : decode cX10_live 14 = .ok (.getfield 19, 3) := by decide +kernel
theorem dX10_live_17 : decode cX10_live 17 = .ok (.getfield 188, 3) := by decide +kernel
theorem dX10_live_20 : decode cX10_live 20 = .ok (.getfield 411, 3) := by decide +kernel
theorem dX10_live_23 : decode cX10_live 23 = .ok (.ifCond .ne 10, 3) := by decide +kernel
theorem dX10_live_26 : decode cX10_live 26 = .ok (.aload_n 0, 1) := by decide +kernel
theorem dX10_live_27 : decode cX10_live 27 = .ok (.bipush 8, 2) := by decide +kernel
theorem dX10_live_29 : decode cX10_live 29 = .ok (.invokevirtual 133, 3) := by decide +kernel
theorem dX10_live_32 : decode cX10_live 32 = .ok (.ireturn, 1) := by decide +kernel
theorem dX10_live_33 : decode cX10_live 33 = .ok (.aload_n 0, 1) := by decide +kernel
theorem dX10_live_34 : decode cX10_live 34 = .ok (.getfield 79, 3) := by decide +kernel
theorem dX10_live_37 : decode cX10_live 37 = .ok (.aload_n 0, 1) := by decide +kernel
theorem dX10_live_38 : decode cX10_live 38 = .ok (.getfield 19, 3) := by decide +kernel
theorem dX10_live_41 : decode cX10_live 41 = .ok (.aload_n 0, 1) := by decide +kernel
theorem dX10_live_42 : decode cX10_live 42 = .ok (.getfield 19, 3) := by decide +kernel
theorem dX10_live_45 : decode cX10_live 45 = .ok (.getfield 182, 3) := by decide +kernel
theorem dX10_live_48 : decode cX10_live 48 = .ok (.iload_n 1, 1) := by decide +kernel
theorem dX10_live_49 : decode cX10_live 49 = .ok (.invokevirtual 414, 3) := by decide +kernel
theorem dX10_live_52 : decode cX10_live 52 = .ok (.aload_n 0, 1) := by decide +kernel
theorem dX10_live_53 : decode cX10_live 53 = .ok (.iconst 1, 1) := by decide +kernel
theorem dX10_live_54 : decode cX10_live 54 = .ok (.putfield 86, 3) := by decide +kernel
theorem dX10_live_57 : decode cX10_live 57 = .ok (.aload_n 0, 1) := by decide +kernel
theorem dX10_live_58 : decode cX10_live 58 = .ok (.aload_n 0, 1) := by decide +kernel
theorem dX10_live_59 : decode cX10_live 59 = .ok (.getfield 79, 3) := by decide +kernel
theorem dX10_live_62 : decode cX10_live 62 = .ok (.getfield 418, 3) := by decide +kernel
theorem dX10_live_65 : decode cX10_live 65 = .ok (.invokevirtual 197, 3) := by decide +kernel
theorem dX10_live_68 : decode cX10_live 68 = .ok (.ireturn, 1) := by decide +kernel
theorem dX10_lived_0 : decode cX10_lived 0 = .ok (.iload_n 1, 1) := by decide +kernel
theorem dX10_lived_1 : decode cX10_lived 1 = .ok (.ifCond .lt 8, 3) := by decide +kernel
theorem dX10_lived_4 : decode cX10_lived 4 = .ok (.iload_n 1, 1) := by decide +kernel
theorem dX10_lived_5 : decode cX10_lived 5 = .ok (.iconst 4, 1) := by decide +kernel
theorem dX10_lived_6 : decode cX10_lived 6 = .ok (.if_icmp .le 9, 3) := by decide +kernel
theorem dX10_lived_9 : decode cX10_lived 9 = .ok (.aload_n 0, 1) := by decide +kernel
theorem dX10_lived_10 : decode cX10_lived 10 = .ok (.iconst 5, 1) := by decide +kernel
theorem dX10_lived_11 : decode cX10_lived 11 = .ok (.invokevirtual 133, 3) := by decide +kernel
theorem dX10_lived_14 : decode cX10_lived 14 = .ok (.ireturn, 1) := by decide +kernel
theorem dX10_lived_15 : decode cX10_lived 15 = .ok (.aload_n 0, 1) := by decide +kernel
theorem dX10_lived_16 : decode cX10_lived 16 = .ok (.getfield 86, 3) := by decide +kernel
theorem dX10_lived_19 : decode cX10_lived 19 = .ok (.ifCond .ne 10, 3) := by decide +kernel
theorem dX10_lived_22 : decode cX10_lived 22 = .ok (.aload_n 0, 1) := by decide +kernel
theorem dX10_lived_23 : decode cX10_lived 23 = .ok (.bipush 8, 2) := by decide +kernel
theorem dX10_lived_25 : decode cX10_lived 25 = .ok (.invokevirtual 133, 3) := by decide +kernel
theorem dX10_lived_28 : decode cX10_lived 28 = .ok (.ireturn, 1) := by decide +kernel
theorem dX10_lived_29 : decode cX10_lived 29 = .ok (.iload_n 1, 1) := by decide +kernel
theorem dX10_lived_30 : decode cX10_lived 30 = .ok (.tableswitch 78 0 3 #[30, 42, 54, 66], 30) := by decide +kernel
theorem dX10_lived_60 : decode cX10_lived 60 = .ok (.aload_n 0, 1) := by decide +kernel
theorem dX10_lived_61 : decode cX10_lived 61 = .ok (.aload_n 0, 1) := by decide +kernel
theorem dX10_lived_62 : decode cX10_lived 62 = .ok (.getfield 79, 3) := by decide +kernel
theorem dX10_lived_65 : decode cX10_lived 65 = .ok (.getfield 419, 3) := by decide +kernel
theorem dX10_lived_68 : decode cX10_lived 68 = .ok (.invokevirtual 197, 3) := by decide +kernel
theorem dX10_lived_71 : decode cX10_lived 71 = .ok (.ireturn, 1) := by decide +kernel
theorem dX10_lived_72 : decode cX10_lived 72 = .ok (.aload_n 0, 1) := by decide +kernel
theorem dX10_lived_73 : decode cX10_lived 73 = .ok (.aload_n 0, 1) := by decide +kernel
theorem dX10_lived_74 : decode cX10_lived 74 = .ok (.getfield 79, 3) := by decide +kernel
theorem dX10_lived_77 : decode cX10_lived 77 = .ok (.getfield 422, 3) := by decide +kernel
theorem dX10_lived_80 : decode cX10_lived 80 = .ok (.invokevirtual 197, 3) := by decide +kernel
theorem dX10_lived_83 : decode cX10_lived 83 = .ok (.ireturn, 1) := by decide +kernel
theorem dX10_lived_84 : decode cX10_lived 84 = .ok (.aload_n 0, 1) := by decide +kernel
theorem dX10_lived_85 : decode cX10_lived 85 = .ok (.aload_n 0, 1) := by decide +kernel
theorem dX10_lived_86 : decode cX10_lived 86 = .ok (.getfield 79, 3) := by decide +kernel
theorem dX10_lived_89 : decode cX10_lived 89 = .ok (.getfield 425, 3) := by decide +kernel
theorem dX10_lived_92 : decode cX10_lived 92 = .ok (.invokevirtual 197, 3) := by decide +kernel
theorem dX10_lived_95 : decode cX10_lived 95 = .ok (.ireturn, 1) := by decide +kernel
theorem dX10_lived_96 : decode cX10_lived 96 = .ok (.aload_n 0, 1) := by decide +kernel
theorem dX10_lived_97 : decode cX10_lived 97 = .ok (.aload_n 0, 1) := by decide +kernel
theorem dX10_lived_98 : decode cX10_lived 98 = .ok (.getfield 79, 3) := by decide +kernel
theorem dX10_lived_101 : decode cX10_lived 101 = .ok (.getfield 428, 3) := by decide +kernel
theorem dX10_lived_104 : decode cX10_lived 104 = .ok (.invokevirtual 197, 3) := by decide +kernel
theorem dX10_lived_107 : decode cX10_lived 107 = .ok (.ireturn, 1) := by decide +kernel
theorem dX10_lived_108 : decode cX10_lived 108 = .ok (.aload_n 0, 1) := by decide +kernel
theorem dX10_lived_109 : decode cX10_lived 109 = .ok (.aload_n 0, 1) := by decide +kernel
theorem dX10_lived_110 : decode cX10_lived 110 = .ok (.getfield 79, 3) := by decide +kernel
theorem dX10_lived_113 : decode cX10_lived 113 = .ok (.getfield 431, 3) := by decide +kernel
theorem dX10_lived_116 : decode cX10_lived 116 = .ok (.ifCond .eq 7, 3) := by decide +kernel
theorem dX10_lived_119 : decode cX10_lived 119 = .ok (.iconst 1, 1) := by decide +kernel
theorem dX10_lived_120 : decode cX10_lived 120 = .ok (.goto 4, 3) := by decide +kernel
theorem dX10_lived_123 : decode cX10_lived 123 = .ok (.iconst 0, 1) := by decide +kernel
theorem dX10_lived_124 : decode cX10_lived 124 = .ok (.invokevirtual 197, 3) := by decide +kernel
theorem dX10_lived_127 : decode cX10_lived 127 = .ok (.ireturn, 1) := by decide +kernel
theorem dX10_mean_0 : decode cX10_mean 0 = .ok (.aload_n 0, 1) := by decide +kernel
theorem dX10_mean_1 : decode cX10_mean 1 = .ok (.iconst 3, 1) := by decide +kernel
theorem dX10_mean_2 : decode cX10_mean 2 = .ok (.iload_n 1, 1) := by decide +kernel
theorem dX10_mean_3 : decode cX10_mean 3 = .ok (.invokevirtual 237, 3) := by decide +kernel
theorem dX10_mean_6 : decode cX10_mean 6 = .ok (.ifCond .eq 9, 3) := by decide +kernel
theorem dX10_mean_9 : decode cX10_mean 9 = .ok (.aload_n 0, 1) := by decide +kernel
theorem dX10_mean_10 : decode cX10_mean 10 = .ok (.iconst 2, 1) := by decide +kernel
theorem dX10_mean_11 : decode cX10_mean 11 = .ok (.invokevirtual 114, 3) := by decide +kernel
theorem dX10_mean_14 : decode cX10_mean 14 = .ok (.ireturn, 1) := by decide +kernel
theorem dX10_mean_15 : decode cX10_mean 15 = .ok (.iload_n 3, 1) := by decide +kernel
theorem dX10_mean_16 : decode cX10_mean 16 = .ok (.iconst 1, 1) := by decide +kernel
theorem dX10_mean_17 : decode cX10_mean 17 = .ok (.if_icmp .lt 27, 3) := by decide +kernel
theorem dX10_mean_20 : decode cX10_mean 20 = .ok (.iload_n 3, 1) := by decide +kernel
theorem dX10_mean_21 : decode cX10_mean 21 = .ok (.bipush 20, 2) := by decide +kernel
theorem dX10_mean_23 : decode cX10_mean 23 = .ok (.if_icmp .gt 21, 3) := by decide +kernel
theorem dX10_mean_26 : decode cX10_mean 26 = .ok (.iload_n 2, 1) := by decide +kernel
theorem dX10_mean_27 : decode cX10_mean 27 = .ok (.invokestatic 408, 3) := by decide +kernel
theorem dX10_mean_30 : decode cX10_mean 30 = .ok (.ifCond .ne 14, 3) := by decide +kernel
theorem dX10_mean_33 : decode cX10_mean 33 = .ok (.iload_n 2, 1) := by decide +kernel
theorem dX10_mean_34 : decode cX10_mean 34 = .ok (.iload_n 3, 1) := by decide +kernel
theorem dX10_mean_35 : decode cX10_mean 35 = .ok (.iadd, 1) := by decide +kernel
theorem dX10_mean_36 : decode cX10_mean 36 = .ok (.iconst 1, 1) := by decide +kernel
theorem dX10_mean_37 : decode cX10_mean 37 = .ok (.isub, 1) := by decide +kernel
theorem dX10_mean_38 : decode cX10_mean 38 = .ok (.invokestatic 408, 3) := by decide +kernel
theorem dX10_mean_41 : decode cX10_mean 41 = .ok (.ifCond .eq 9, 3) := by decide +kernel
theorem dX10_mean_44 : decode cX10_mean 44 = .ok (.aload_n 0, 1) := by decide +kernel
theorem dX10_mean_45 : decode cX10_mean 45 = .ok (.iconst 5, 1) := by decide +kernel
theorem dX10_mean_46 : decode cX10_mean 46 = .ok (.invokevirtual 114, 3) := by decide +kernel
theorem dX10_mean_49 : decode cX10_mean 49 = .ok (.ireturn, 1) := by decide +kernel
theorem dX10_mean_50 : decode cX10_mean 50 = .ok (.aload_n 0, 1) := by decide +kernel
theorem dX10_mean_51 : decode cX10_mean 51 = .ok (.getfield 19, 3) := by decide +kernel
theorem dX10_mean_54 : decode cX10_mean 54 = .ok (.getfield 188, 3) := by decide +kernel
theorem dX10_mean_57 : decode cX10_mean 57 = .ok (.getfield 411, 3) := by decide +kernel
theorem dX10_mean_60 : decode cX10_mean 60 = .ok (.ifCond .ne 10, 3) := by decide +kernel
theorem dX10_mean_63 : decode cX10_mean 63 = .ok (.aload_n 0, 1) := by decide +kernel
theorem dX10_mean_64 : decode cX10_mean 64 = .ok (.bipush 8, 2) := by decide +kernel
theorem dX10_mean_66 : decode cX10_mean 66 = .ok (.invokevirtual 114, 3) := by decide +kernel
theorem dX10_mean_69 : decode cX10_mean 69 = .ok (.ireturn, 1) := by decide +kernel
theorem dX10_mean_70 : decode cX10_mean 70 = .ok (.lconst 0, 1) := by decide +kernel
theorem dX10_mean_71 : decode cX10_mean 71 = .ok (.lstore 4, 2) := by decide +kernel
theorem dX10_mean_73 : decode cX10_mean 73 = .ok (.iconst 0, 1) := by decide +kernel
theorem dX10_mean_74 : decode cX10_mean 74 = .ok (.istore 6, 2) := by decide +kernel
theorem dX10_mean_76 : decode cX10_mean 76 = .ok (.iload 6, 2) := by decide +kernel
theorem dX10_mean_78 : decode cX10_mean 78 = .ok (.iload_n 3, 1) := by decide +kernel
theorem dX10_mean_79 : decode cX10_mean 79 = .ok (.if_icmp .ge 57, 3) := by decide +kernel
theorem dX10_mean_82 : decode cX10_mean 82 = .ok (.aload_n 0, 1) := by decide +kernel
theorem dX10_mean_83 : decode cX10_mean 83 = .ok (.getfield 72, 3) := by decide +kernel
theorem dX10_mean_86 : decode cX10_mean 86 = .ok (.aload_n 0, 1) := by decide +kernel
theorem dX10_mean_87 : decode cX10_mean 87 = .ok (.getfield 19, 3) := by decide +kernel
theorem dX10_mean_90 : decode cX10_mean 90 = .ok (.getfield 182, 3) := by decide +kernel
theorem dX10_mean_93 : decode cX10_mean 93 = .ok (.invokevirtual 324, 3) := by decide +kernel
theorem dX10_mean_96 : decode cX10_mean 96 = .ok (.aload_n 0, 1) := by decide +kernel
theorem dX10_mean_97 : decode cX10_mean 97 = .ok (.getfield 83, 3) := by decide +kernel
theorem dX10_mean_100 : decode cX10_mean 100 = .ok (.aload_n 0, 1) := by decide +kernel
theorem dX10_mean_101 : decode cX10_mean 101 = .ok (.getfield 19, 3) := by decide +kernel
theorem dX10_mean_104 : decode cX10_mean 104 = .ok (.aload_n 0, 1) := by decide +kernel
theorem dX10_mean_105 : decode cX10_mean 105 = .ok (.getfield 72, 3) := by decide +kernel
theorem dX10_mean_108 : decode cX10_mean 108 = .ok (.iload_n 2, 1) := by decide +kernel
theorem dX10_mean_109 : decode cX10_mean 109 = .ok (.iload 6, 2) := by decide +kernel
theorem dX10_mean_111 : decode cX10_mean 111 = .ok (.iadd, 1) := by decide +kernel
theorem dX10_mean_112 : decode cX10_mean 112 = .ok (.invokevirtual 414, 3) := by decide +kernel
theorem dX10_mean_115 : decode cX10_mean 115 = .ok (.lload 4, 2) := by decide +kernel
theorem dX10_mean_117 : decode cX10_mean 117 = .ok (.aload_n 0, 1) := by decide +kernel
theorem dX10_mean_118 : decode cX10_mean 118 = .ok (.getfield 72, 3) := by decide +kernel
theorem dX10_mean_121 : decode cX10_mean 121 = .ok (.getfield 269, 3) := by decide +kernel
theorem dX10_mean_124 : decode cX10_mean 124 = .ok (.iload_n 1, 1) := by decide +kernel
theorem dX10_mean_125 : decode cX10_mean 125 = .ok (.iaload, 1) := by decide +kernel
theorem dX10_mean_126 : decode cX10_mean 126 = .ok (.i2l, 1) := by decide +kernel
theorem dX10_mean_127 : decode cX10_mean 127 = .ok (.ladd, 1) := by decide +kernel
theorem dX10_mean_128 : decode cX10_mean 128 = .ok (.lstore 4, 2) := by decide +kernel
theorem dX10_mean_130 : decode cX10_mean 130 = .ok (.iinc 6 1, 3) := by decide +kernel
theorem dX10_mean_133 : decode cX10_mean 133 = .ok (.goto (-57), 3) := by decide +kernel
theorem dX10_mean_136 : decode cX10_mean 136 = .ok (.aload_n 0, 1) := by decide +kernel
theorem dX10_mean_137 : decode cX10_mean 137 = .ok (.lload 4, 2) := by decide +kernel
theorem dX10_mean_139 : decode cX10_mean 139 = .ok (.iload_n 3, 1) := by decide +kernel
theorem dX10_mean_140 : decode cX10_mean 140 = .ok (.i2l, 1) := by decide +kernel
theorem dX10_mean_141 : decode cX10_mean 141 = .ok (.invokevirtual 386, 3) := by decide +kernel
theorem dX10_mean_144 : decode cX10_mean 144 = .ok (.aload_n 0, 1) := by decide +kernel
theorem dX10_mean_145 : decode cX10_mean 145 = .ok (.invokevirtual 121, 3) := by decide +kernel
theorem dX10_mean_148 : decode cX10_mean 148 = .ok (.ireturn, 1) := by decide +kernel
theorem dX10_mark_0 : decode cX10_mark 0 = .ok (.aload_n 0, 1) := by decide +kernel
theorem dX10_mark_1 : decode cX10_mark 1 = .ok (.getfield 90, 3) := by decide +kernel
theorem dX10_mark_4 : decode cX10_mark 4 = .ok (.iconst 3, 1) := by decide +kernel
theorem dX10_mark_5 : decode cX10_mark 5 = .ok (.if_icmp .lt 10, 3) := by decide +kernel
theorem dX10_mark_8 : decode cX10_mark 8 = .ok (.aload_n 0, 1) := by decide +kernel
theorem dX10_mark_9 : decode cX10_mark 9 = .ok (.bipush 7, 2) := by decide +kernel
theorem dX10_mark_11 : decode cX10_mark 11 = .ok (.invokevirtual 133, 3) := by decide +kernel
theorem dX10_mark_14 : decode cX10_mark 14 = .ok (.ireturn, 1) := by decide +kernel
theorem dX10_mark_15 : decode cX10_mark 15 = .ok (.aload_n 0, 1) := by decide +kernel
theorem dX10_mark_16 : decode cX10_mark 16 = .ok (.getfield 23, 3) := by decide +kernel
theorem dX10_mark_19 : decode cX10_mark 19 = .ok (.aload_n 0, 1) := by decide +kernel
theorem dX10_mark_20 : decode cX10_mark 20 = .ok (.getfield 90, 3) := by decide +kernel
theorem dX10_mark_23 : decode cX10_mark 23 = .ok (.aaload, 1) := by decide +kernel
theorem dX10_mark_24 : decode cX10_mark 24 = .ok (.aload_n 0, 1) := by decide +kernel
theorem dX10_mark_25 : decode cX10_mark 25 = .ok (.getfield 19, 3) := by decide +kernel
theorem dX10_mark_28 : decode cX10_mark 28 = .ok (.invokevirtual 434, 3) := by decide +kernel
theorem dX10_mark_31 : decode cX10_mark 31 = .ok (.aload_n 0, 1) := by decide +kernel
theorem dX10_mark_32 : decode cX10_mark 32 = .ok (.dup, 1) := by decide +kernel
theorem dX10_mark_33 : decode cX10_mark 33 = .ok (.getfield 90, 3) := by decide +kernel
theorem dX10_mark_36 : decode cX10_mark 36 = .ok (.iconst 1, 1) := by decide +kernel
theorem dX10_mark_37 : decode cX10_mark 37 = .ok (.iadd, 1) := by decide +kernel
theorem dX10_mark_38 : decode cX10_mark 38 = .ok (.putfield 90, 3) := by decide +kernel
theorem dX10_mark_41 : decode cX10_mark 41 = .ok (.aload_n 0, 1) := by decide +kernel
theorem dX10_mark_42 : decode cX10_mark 42 = .ok (.aload_n 0, 1) := by decide +kernel
theorem dX10_mark_43 : decode cX10_mark 43 = .ok (.getfield 90, 3) := by decide +kernel
theorem dX10_mark_46 : decode cX10_mark 46 = .ok (.invokevirtual 197, 3) := by decide +kernel
theorem dX10_mark_49 : decode cX10_mark 49 = .ok (.ireturn, 1) := by decide +kernel
theorem dX10_back_0 : decode cX10_back 0 = .ok (.aload_n 0, 1) := by decide +kernel
theorem dX10_back_1 : decode cX10_back 1 = .ok (.getfield 90, 3) := by decide +kernel
theorem dX10_back_4 : decode cX10_back 4 = .ok (.ifCond .gt 10, 3) := by decide +kernel
theorem dX10_back_7 : decode cX10_back 7 = .ok (.aload_n 0, 1) := by decide +kernel
theorem dX10_back_8 : decode cX10_back 8 = .ok (.bipush 8, 2) := by decide +kernel
theorem dX10_back_10 : decode cX10_back 10 = .ok (.invokevirtual 133, 3) := by decide +kernel
theorem dX10_back_13 : decode cX10_back 13 = .ok (.ireturn, 1) := by decide +kernel
theorem dX10_back_14 : decode cX10_back 14 = .ok (.aload_n 0, 1) := by decide +kernel
theorem dX10_back_15 : decode cX10_back 15 = .ok (.dup, 1) := by decide +kernel
theorem dX10_back_16 : decode cX10_back 16 = .ok (.getfield 90, 3) := by decide +kernel
theorem dX10_back_19 : decode cX10_back 19 = .ok (.iconst 1, 1) := by decide +kernel
theorem dX10_back_20 : decode cX10_back 20 = .ok (.isub, 1) := by decide +kernel
theorem dX10_back_21 : decode cX10_back 21 = .ok (.putfield 90, 3) := by decide +kernel
theorem dX10_back_24 : decode cX10_back 24 = .ok (.aload_n 0, 1) := by decide +kernel
theorem dX10_back_25 : decode cX10_back 25 = .ok (.getfield 19, 3) := by decide +kernel
theorem dX10_back_28 : decode cX10_back 28 = .ok (.aload_n 0, 1) := by decide +kernel
theorem dX10_back_29 : decode cX10_back 29 = .ok (.getfield 23, 3) := by decide +kernel
theorem dX10_back_32 : decode cX10_back 32 = .ok (.aload_n 0, 1) := by decide +kernel
theorem dX10_back_33 : decode cX10_back 33 = .ok (.getfield 90, 3) := by decide +kernel
theorem dX10_back_36 : decode cX10_back 36 = .ok (.aaload, 1) := by decide +kernel
theorem dX10_back_37 : decode cX10_back 37 = .ok (.invokevirtual 434, 3) := by decide +kernel
theorem dX10_back_40 : decode cX10_back 40 = .ok (.aload_n 0, 1) := by decide +kernel
theorem dX10_back_41 : decode cX10_back 41 = .ok (.aload_n 0, 1) := by decide +kernel
theorem dX10_back_42 : decode cX10_back 42 = .ok (.getfield 90, 3) := by decide +kernel
theorem dX10_back_45 : decode cX10_back 45 = .ok (.invokevirtual 197, 3) := by decide +kernel
theorem dX10_back_48 : decode cX10_back 48 = .ok (.ireturn, 1) := by decide +kernel
theorem dX10_answer_0 : decode cX10_answer 0 = .ok (.aload_n 0, 1) := by decide +kernel
theorem dX10_answer_1 : decode cX10_answer 1 = .ok (.iconst 0, 1) := by decide +kernel
theorem dX10_answer_2 : decode cX10_answer 2 = .ok (.putfield 94, 3) := by decide +kernel
theorem dX10_answer_5 : decode cX10_answer 5 = .ok (.iload_n 1, 1) := by decide +kernel
theorem dX10_answer_6 : decode cX10_answer 6 = .ok (.ireturn, 1) := by decide +kernel
theorem dX10_agree_0 : decode cX10_agree 0 = .ok (.aload_n 0, 1) := by decide +kernel
theorem dX10_agree_1 : decode cX10_agree 1 = .ok (.iconst 0, 1) := by decide +kernel
theorem dX10_agree_2 : decode cX10_agree 2 = .ok (.putfield 94, 3) := by decide +kernel
theorem dX10_agree_5 : decode cX10_agree 5 = .ok (.iconst 1, 1) := by decide +kernel
theorem dX10_agree_6 : decode cX10_agree 6 = .ok (.ireturn, 1) := by decide +kernel
theorem dX10_none_0 : decode cX10_none 0 = .ok (.aload_n 0, 1) := by decide +kernel
theorem dX10_none_1 : decode cX10_none 1 = .ok (.iload_n 1, 1) := by decide +kernel
theorem dX10_none_2 : decode cX10_none 2 = .ok (.putfield 94, 3) := by decide +kernel
theorem dX10_none_5 : decode cX10_none 5 = .ok (.iconst (-1), 1) := by decide +kernel
theorem dX10_none_6 : decode cX10_none 6 = .ok (.ireturn, 1) := by decide +kernel
theorem dX10_refuse_0 : decode cX10_refuse 0 = .ok (.aload_n 0, 1) := by decide +kernel
theorem dX10_refuse_1 : decode cX10_refuse 1 = .ok (.iload_n 1, 1) := by decide +kernel
theorem dX10_refuse_2 : decode cX10_refuse 2 = .ok (.putfield 94, 3) := by decide +kernel
theorem dX10_refuse_5 : decode cX10_refuse 5 = .ok (.iconst 0, 1) := by decide +kernel
theorem dX10_refuse_6 : decode cX10_refuse 6 = .ok (.ireturn, 1) := by decide +kernel
theorem dX10_tellFraction_0 : decode cX10_tellFraction 0 = .ok (.lload_n 1, 1) := by decide +kernel
theorem dX10_tellFraction_1 : decode cX10_tellFraction 1 = .ok (.invokestatic 437, 3) := by decide +kernel
theorem dX10_tellFraction_4 : decode cX10_tellFraction 4 = .ok (.lload_n 3, 1) := by decide +kernel
theorem dX10_tellFraction_5 : decode cX10_tellFraction 5 = .ok (.invokestatic 443, 3) := by decide +kernel
theorem dX10_tellFraction_8 : decode cX10_tellFraction 8 = .ok (.lstore 5, 2) := by decide +kernel
theorem dX10_tellFraction_10 : decode cX10_tellFraction 10 = .ok (.lload 5, 2) := by decide +kernel
theorem dX10_tellFraction_12 : decode cX10_tellFraction 12 = .ok (.lconst 0, 1) := by decide +kernel
theorem dX10_tellFraction_13 : decode cX10_tellFraction 13 = .ok (.lcmp, 1) := by decide +kernel
theorem dX10_tellFraction_14 : decode cX10_tellFraction 14 = .ok (.ifCond .le 19, 3) := by decide +kernel
theorem dX10_tellFraction_17 : decode cX10_tellFraction 17 = .ok (.aload_n 0, 1) := by decide +kernel
theorem dX10_tellFraction_18 : decode cX10_tellFraction 18 = .ok (.lload_n 1, 1) := by decide +kernel
theorem dX10_tellFraction_19 : decode cX10_tellFraction 19 = .ok (.lload 5, 2) := by decide +kernel
theorem dX10_tellFraction_21 : decode cX10_tellFraction 21 = .ok (.ldiv, 1) := by decide +kernel
theorem dX10_tellFraction_22 : decode cX10_tellFraction 22 = .ok (.putfield 103, 3) := by decide +kernel
theorem dX10_tellFraction_25 : decode cX10_tellFraction 25 = .ok (.aload_n 0, 1) := by decide +kernel
theorem dX10_tellFraction_26 : decode cX10_tellFraction 26 = .ok (.lload_n 3, 1) := by decide +kernel
theorem dX10_tellFraction_27 : decode cX10_tellFraction 27 = .ok (.lload 5, 2) := by decide +kernel
theorem dX10_tellFraction_29 : decode cX10_tellFraction 29 = .ok (.ldiv, 1) := by decide +kernel
theorem dX10_tellFraction_30 : decode cX10_tellFraction 30 = .ok (.putfield 107, 3) := by decide +kernel
theorem dX10_tellFraction_33 : decode cX10_tellFraction 33 = .ok (.return_, 1) := by decide +kernel
theorem dX10_commonDivisor_0 : decode cX10_commonDivisor 0 = .ok (.lload_n 0, 1) := by decide +kernel
theorem dX10_commonDivisor_1 : decode cX10_commonDivisor 1 = .ok (.lstore 4, 2) := by decide +kernel
theorem dX10_commonDivisor_3 : decode cX10_commonDivisor 3 = .ok (.lload_n 2, 1) := by decide +kernel
theorem dX10_commonDivisor_4 : decode cX10_commonDivisor 4 = .ok (.lstore 6, 2) := by decide +kernel
theorem dX10_commonDivisor_6 : decode cX10_commonDivisor 6 = .ok (.iconst 0, 1) := by decide +kernel
theorem dX10_commonDivisor_7 : decode cX10_commonDivisor 7 = .ok (.istore 8, 2) := by decide +kernel
theorem dX10_commonDivisor_9 : decode cX10_commonDivisor 9 = .ok (.iload 8, 2) := by decide +kernel
theorem dX10_commonDivisor_11 : decode cX10_commonDivisor 11 = .ok (.bipush 100, 2) := by decide +kernel
theorem dX10_commonDivisor_13 : decode cX10_commonDivisor 13 = .ok (.if_icmp .ge 31, 3) := by decide +kernel
theorem dX10_commonDivisor_16 : decode cX10_commonDivisor 16 = .ok (.lload 6, 2) := by decide +kernel
theorem dX10_commonDivisor_18 : decode cX10_commonDivisor 18 = .ok (.lconst 0, 1) := by decide +kernel
theorem dX10_commonDivisor_19 : decode cX10_commonDivisor 19 = .ok (.lcmp, 1) := by decide +kernel
theorem dX10_commonDivisor_20 : decode cX10_commonDivisor 20 = .ok (.ifCond .le 24, 3) := by decide +kernel
theorem dX10_commonDivisor_23 : decode cX10_commonDivisor 23 = .ok (.lload 4, 2) := by decide +kernel
theorem dX10_commonDivisor_25 : decode cX10_commonDivisor 25 = .ok (.lload 6, 2) := by decide +kernel
theorem dX10_commonDivisor_27 : decode cX10_commonDivisor 27 = .ok (.lrem, 1) := by decide +kernel
theorem dX10_commonDivisor_28 : decode cX10_commonDivisor 28 = .ok (.lstore 9, 2) := by decide +kernel
theorem dX10_commonDivisor_30 : decode cX10_commonDivisor 30 = .ok (.lload 6, 2) := by decide +kernel
theorem dX10_commonDivisor_32 : decode cX10_commonDivisor 32 = .ok (.lstore 4, 2) := by decide +kernel
theorem dX10_commonDivisor_34 : decode cX10_commonDivisor 34 = .ok (.lload 9, 2) := by decide +kernel
theorem dX10_commonDivisor_36 : decode cX10_commonDivisor 36 = .ok (.lstore 6, 2) := by decide +kernel
theorem dX10_commonDivisor_38 : decode cX10_commonDivisor 38 = .ok (.iinc 8 1, 3) := by decide +kernel
theorem dX10_commonDivisor_41 : decode cX10_commonDivisor 41 = .ok (.goto (-32), 3) := by decide +kernel
theorem dX10_commonDivisor_44 : decode cX10_commonDivisor 44 = .ok (.lload 4, 2) := by decide +kernel
theorem dX10_commonDivisor_46 : decode cX10_commonDivisor 46 = .ok (.lreturn, 1) := by decide +kernel
theorem dX10_keepFault_0 : decode cX10_keepFault 0 = .ok (.aload_n 0, 1) := by decide +kernel
theorem dX10_keepFault_1 : decode cX10_keepFault 1 = .ok (.aload_n 0, 1) := by decide +kernel
theorem dX10_keepFault_2 : decode cX10_keepFault 2 = .ok (.getfield 44, 3) := by decide +kernel
theorem dX10_keepFault_5 : decode cX10_keepFault 5 = .ok (.getfield 447, 3) := by decide +kernel
theorem dX10_keepFault_8 : decode cX10_keepFault 8 = .ok (.putfield 97, 3) := by decide +kernel
theorem dX10_keepFault_11 : decode cX10_keepFault 11 = .ok (.aload_n 0, 1) := by decide +kernel
theorem dX10_keepFault_12 : decode cX10_keepFault 12 = .ok (.aload_n 0, 1) := by decide +kernel
theorem dX10_keepFault_13 : decode cX10_keepFault 13 = .ok (.getfield 44, 3) := by decide +kernel
theorem dX10_keepFault_16 : decode cX10_keepFault 16 = .ok (.getfield 447, 3) := by decide +kernel
theorem dX10_keepFault_19 : decode cX10_keepFault 19 = .ok (.ifCond .ne 7, 3) := by decide +kernel
theorem dX10_keepFault_22 : decode cX10_keepFault 22 = .ok (.iconst (-1), 1) := by decide +kernel
theorem dX10_keepFault_23 : decode cX10_keepFault 23 = .ok (.goto 10, 3) := by decide +kernel
theorem dX10_keepFault_26 : decode cX10_keepFault 26 = .ok (.aload_n 0, 1) := by decide +kernel
theorem dX10_keepFault_27 : decode cX10_keepFault 27 = .ok (.getfield 44, 3) := by decide +kernel
theorem dX10_keepFault_30 : decode cX10_keepFault 30 = .ok (.getfield 450, 3) := by decide +kernel
theorem dX10_keepFault_33 : decode cX10_keepFault 33 = .ok (.putfield 100, 3) := by decide +kernel
theorem dX10_keepFault_36 : decode cX10_keepFault 36 = .ok (.aload_n 0, 1) := by decide +kernel
theorem dX10_keepFault_37 : decode cX10_keepFault 37 = .ok (.getfield 97, 3) := by decide +kernel
theorem dX10_keepFault_40 : decode cX10_keepFault 40 = .ok (.ifCond .eq 7, 3) := by decide +kernel
theorem dX10_keepFault_43 : decode cX10_keepFault 43 = .ok (.iconst 1, 1) := by decide +kernel
theorem dX10_keepFault_44 : decode cX10_keepFault 44 = .ok (.goto 4, 3) := by decide +kernel
theorem dX10_keepFault_47 : decode cX10_keepFault 47 = .ok (.iconst 0, 1) := by decide +kernel
theorem dX10_keepFault_48 : decode cX10_keepFault 48 = .ok (.ireturn, 1) := by decide +kernel
theorem dX10_isTray_0 : decode cX10_isTray 0 = .ok (.iload_n 0, 1) := by decide +kernel
theorem dX10_isTray_1 : decode cX10_isTray 1 = .ok (.ifCond .lt 12, 3) := by decide +kernel
theorem dX10_isTray_4 : decode cX10_isTray 4 = .ok (.iload_n 0, 1) := by decide +kernel
theorem dX10_isTray_5 : decode cX10_isTray 5 = .ok (.iconst 4, 1) := by decide +kernel
theorem dX10_isTray_6 : decode cX10_isTray 6 = .ok (.if_icmp .ge 7, 3) := by decide +kernel
theorem dX10_isTray_9 : decode cX10_isTray 9 = .ok (.iconst 1, 1) := by decide +kernel
theorem dX10_isTray_10 : decode cX10_isTray 10 = .ok (.goto 4, 3) := by decide +kernel
theorem dX10_isTray_13 : decode cX10_isTray 13 = .ok (.iconst 0, 1) := by decide +kernel
theorem dX10_isTray_14 : decode cX10_isTray 14 = .ok (.ireturn, 1) := by decide +kernel
theorem dX10_isNo_0 : decode cX10_isNo 0 = .ok (.iload_n 2, 1) := by decide +kernel
theorem dX10_isNo_1 : decode cX10_isNo 1 = .ok (.ifCond .lt 19, 3) := by decide +kernel
theorem dX10_isNo_4 : decode cX10_isNo 4 = .ok (.iload_n 2, 1) := by decide +kernel
theorem dX10_isNo_5 : decode cX10_isNo 5 = .ok (.aload_n 0, 1) := by decide +kernel
theorem dX10_isNo_6 : decode cX10_isNo 6 = .ok (.getfield 19, 3) := by decide +kernel
theorem dX10_isNo_9 : decode cX10_isNo 9 = .ok (.getfield 175, 3) := by decide +kernel
theorem dX10_isNo_12 : decode cX10_isNo 12 = .ok (.getfield 194, 3) := by decide +kernel
theorem dX10_isNo_15 : decode cX10_isNo 15 = .ok (.iload_n 1, 1) := by decide +kernel
theorem dX10_isNo_16 : decode cX10_isNo 16 = .ok (.iaload, 1) := by decide +kernel
theorem dX10_isNo_17 : decode cX10_isNo 17 = .ok (.if_icmp .lt 7, 3) := by decide +kernel
theorem dX10_isNo_20 : decode cX10_isNo 20 = .ok (.iconst 1, 1) := by decide +kernel
theorem dX10_isNo_21 : decode cX10_isNo 21 = .ok (.goto 4, 3) := by decide +kernel
theorem dX10_isNo_24 : decode cX10_isNo 24 = .ok (.iconst 0, 1) := by decide +kernel
theorem dX10_isNo_25 : decode cX10_isNo 25 = .ok (.ireturn, 1) := by decide +kernel
theorem dX10_hasNoWeather_0 : decode cX10_hasNoWeather 0 = .ok (.aload_n 0, 1) := by decide +kernel
theorem dX10_hasNoWeather_1 : decode cX10_hasNoWeather 1 = .ok (.getfield 19, 3) := by decide +kernel
theorem dX10_hasNoWeather_4 : decode cX10_hasNoWeather 4 = .ok (.getfield 175, 3) := by decide +kernel
theorem dX10_hasNoWeather_7 : decode cX10_hasNoWeather 7 = .ok (.getfield 194, 3) := by decide +kernel
theorem dX10_hasNoWeather_10 : decode cX10_hasNoWeather 10 = .ok (.iconst 2, 1) := by decide +kernel
theorem dX10_hasNoWeather_11 : decode cX10_hasNoWeather 11 = .ok (.iaload, 1) := by decide +kernel
theorem dX10_hasNoWeather_12 : decode cX10_hasNoWeather 12 = .ok (.ifCond .ne 7, 3) := by decide +kernel
theorem dX10_hasNoWeather_15 : decode cX10_hasNoWeather 15 = .ok (.iconst 1, 1) := by decide +kernel
theorem dX10_hasNoWeather_16 : decode cX10_hasNoWeather 16 = .ok (.goto 4, 3) := by decide +kernel
theorem dX10_hasNoWeather_19 : decode cX10_hasNoWeather 19 = .ok (.iconst 0, 1) := by decide +kernel
theorem dX10_hasNoWeather_20 : decode cX10_hasNoWeather 20 = .ok (.ireturn, 1) := by decide +kernel
theorem dX10_isNoVerdict_0 : decode cX10_isNoVerdict 0 = .ok (.lload_n 0, 1) := by decide +kernel
theorem dX10_isNoVerdict_1 : decode cX10_isNoVerdict 1 = .ok (.ldc2_w 451, 3) := by decide +kernel
theorem dX10_isNoVerdict_4 : decode cX10_isNoVerdict 4 = .ok (.lcmp, 1) := by decide +kernel
theorem dX10_isNoVerdict_5 : decode cX10_isNoVerdict 5 = .ok (.ifCond .lt 9, 3) := by decide +kernel
theorem dX10_isNoVerdict_8 : decode cX10_isNoVerdict 8 = .ok (.lload_n 0, 1) := by decide +kernel
theorem dX10_isNoVerdict_9 : decode cX10_isNoVerdict 9 = .ok (.lconst 1, 1) := by decide +kernel
theorem dX10_isNoVerdict_10 : decode cX10_isNoVerdict 10 = .ok (.lcmp, 1) := by decide +kernel
theorem dX10_isNoVerdict_11 : decode cX10_isNoVerdict 11 = .ok (.ifCond .le 7, 3) := by decide +kernel
theorem dX10_isNoVerdict_14 : decode cX10_isNoVerdict 14 = .ok (.iconst 1, 1) := by decide +kernel
theorem dX10_isNoVerdict_15 : decode cX10_isNoVerdict 15 = .ok (.goto 4, 3) := by decide +kernel
theorem dX10_isNoVerdict_18 : decode cX10_isNoVerdict 18 = .ok (.iconst 0, 1) := by decide +kernel
theorem dX10_isNoVerdict_19 : decode cX10_isNoVerdict 19 = .ok (.ireturn, 1) := by decide +kernel
theorem dX10_isNoSide_0 : decode cX10_isNoSide 0 = .ok (.iload_n 0, 1) := by decide +kernel
theorem dX10_isNoSide_1 : decode cX10_isNoSide 1 = .ok (.iconst 1, 1) := by decide +kernel
theorem dX10_isNoSide_2 : decode cX10_isNoSide 2 = .ok (.if_icmp .eq 12, 3) := by decide +kernel
theorem dX10_isNoSide_5 : decode cX10_isNoSide 5 = .ok (.iload_n 0, 1) := by decide +kernel
theorem dX10_isNoSide_6 : decode cX10_isNoSide 6 = .ok (.iconst (-1), 1) := by decide +kernel
theorem dX10_isNoSide_7 : decode cX10_isNoSide 7 = .ok (.if_icmp .eq 7, 3) := by decide +kernel
theorem dX10_isNoSide_10 : decode cX10_isNoSide 10 = .ok (.iconst 1, 1) := by decide +kernel
theorem dX10_isNoSide_11 : decode cX10_isNoSide 11 = .ok (.goto 4, 3) := by decide +kernel
theorem dX10_isNoSide_14 : decode cX10_isNoSide 14 = .ok (.iconst 0, 1) := by decide +kernel
theorem dX10_isNoSide_15 : decode cX10_isNoSide 15 = .ok (.ireturn, 1) := by decide +kernel
theorem dX10_isNoFewRounds_0 : decode cX10_isNoFewRounds 0 = .ok (.iload_n 0, 1) := by decide +kernel
theorem dX10_isNoFewRounds_1 : decode cX10_isNoFewRounds 1 = .ok (.ifCond .lt 9, 3) := by decide +kernel
theorem dX10_isNoFewRounds_4 : decode cX10_isNoFewRounds 4 = .ok (.iload_n 0, 1) := by decide +kernel
theorem dX10_isNoFewRounds_5 : decode cX10_isNoFewRounds 5 = .ok (.bipush 9, 2) := by decide +kernel
theorem dX10_isNoFewRounds_7 : decode cX10_isNoFewRounds 7 = .ok (.if_icmp .le 7, 3) := by decide +kernel
theorem dX10_isNoFewRounds_10 : decode cX10_isNoFewRounds 10 = .ok (.iconst 1, 1) := by decide +kernel
theorem dX10_isNoFewRounds_11 : decode cX10_isNoFewRounds 11 = .ok (.goto 4, 3) := by decide +kernel
theorem dX10_isNoFewRounds_14 : decode cX10_isNoFewRounds 14 = .ok (.iconst 0, 1) := by decide +kernel
theorem dX10_isNoFewRounds_15 : decode cX10_isNoFewRounds 15 = .ok (.ireturn, 1) := by decide +kernel
theorem dX10_isNoSeed_0 : decode cX10_isNoSeed 0 = .ok (.iload_n 0, 1) := by decide +kernel
theorem dX10_isNoSeed_1 : decode cX10_isNoSeed 1 = .ok (.ifCond .lt 10, 3) := by decide +kernel
theorem dX10_isNoSeed_4 : decode cX10_isNoSeed 4 = .ok (.iload_n 0, 1) := by decide +kernel
theorem dX10_isNoSeed_5 : decode cX10_isNoSeed 5 = .ok (.sipush 9999, 3) := by decide +kernel
theorem dX10_isNoSeed_8 : decode cX10_isNoSeed 8 = .ok (.if_icmp .le 7, 3) := by decide +kernel
theorem dX10_isNoSeed_11 : decode cX10_isNoSeed 11 = .ok (.iconst 1, 1) := by decide +kernel
theorem dX10_isNoSeed_12 : decode cX10_isNoSeed 12 = .ok (.goto 4, 3) := by decide +kernel
theorem dX10_isNoSeed_15 : decode cX10_isNoSeed 15 = .ok (.iconst 0, 1) := by decide +kernel
theorem dX10_isNoSeed_16 : decode cX10_isNoSeed 16 = .ok (.ireturn, 1) := by decide +kernel
theorem dX10_wrongTray_0 : decode cX10_wrongTray 0 = .ok (.iload_n 1, 1) := by decide +kernel
theorem dX10_wrongTray_1 : decode cX10_wrongTray 1 = .ok (.invokestatic 110, 3) := by decide +kernel
theorem dX10_wrongTray_4 : decode cX10_wrongTray 4 = .ok (.ifCond .ne 5, 3) := by decide +kernel
theorem dX10_wrongTray_7 : decode cX10_wrongTray 7 = .ok (.iconst 1, 1) := by decide +kernel
theorem dX10_wrongTray_8 : decode cX10_wrongTray 8 = .ok (.ireturn, 1) := by decide +kernel
theorem dX10_wrongTray_9 : decode cX10_wrongTray 9 = .ok (.aload_n 0, 1) := by decide +kernel
theorem dX10_wrongTray_10 : decode cX10_wrongTray 10 = .ok (.getfield 10, 3) := by decide +kernel
theorem dX10_wrongTray_13 : decode cX10_wrongTray 13 = .ok (.iload_n 1, 1) := by decide +kernel
theorem dX10_wrongTray_14 : decode cX10_wrongTray 14 = .ok (.invokevirtual 141, 3) := by decide +kernel
theorem dX10_wrongTray_17 : decode cX10_wrongTray 17 = .ok (.ifCond .eq 7, 3) := by decide +kernel
theorem dX10_wrongTray_20 : decode cX10_wrongTray 20 = .ok (.iconst 3, 1) := by decide +kernel
theorem dX10_wrongTray_21 : decode cX10_wrongTray 21 = .ok (.goto 4, 3) := by decide +kernel
theorem dX10_wrongTray_24 : decode cX10_wrongTray 24 = .ok (.iconst 0, 1) := by decide +kernel
theorem dX10_wrongTray_25 : decode cX10_wrongTray 25 = .ok (.ireturn, 1) := by decide +kernel
theorem dX10_wrongPlace_0 : decode cX10_wrongPlace 0 = .ok (.aload_n 0, 1) := by decide +kernel
theorem dX10_wrongPlace_1 : decode cX10_wrongPlace 1 = .ok (.iload_n 1, 1) := by decide +kernel
theorem dX10_wrongPlace_2 : decode cX10_wrongPlace 2 = .ok (.invokevirtual 453, 3) := by decide +kernel
theorem dX10_wrongPlace_5 : decode cX10_wrongPlace 5 = .ok (.istore_n 3, 1) := by decide +kernel
theorem dX10_wrongPlace_6 : decode cX10_wrongPlace 6 = .ok (.iload_n 3, 1) := by decide +kernel
theorem dX10_wrongPlace_7 : decode cX10_wrongPlace 7 = .ok (.ifCond .eq 5, 3) := by decide +kernel
theorem dX10_wrongPlace_10 : decode cX10_wrongPlace 10 = .ok (.iload_n 3, 1) := by decide +kernel
theorem dX10_wrongPlace_11 : decode cX10_wrongPlace 11 = .ok (.ireturn, 1) := by decide +kernel
theorem dX10_wrongPlace_12 : decode cX10_wrongPlace 12 = .ok (.aload_n 0, 1) := by decide +kernel
theorem dX10_wrongPlace_13 : decode cX10_wrongPlace 13 = .ok (.getfield 10, 3) := by decide +kernel
theorem dX10_wrongPlace_16 : decode cX10_wrongPlace 16 = .ok (.iload_n 1, 1) := by decide +kernel
theorem dX10_wrongPlace_17 : decode cX10_wrongPlace 17 = .ok (.iload_n 2, 1) := by decide +kernel
theorem dX10_wrongPlace_18 : decode cX10_wrongPlace 18 = .ok (.iconst 1, 1) := by decide +kernel
theorem dX10_wrongPlace_19 : decode cX10_wrongPlace 19 = .ok (.invokevirtual 148, 3) := by decide +kernel
theorem dX10_wrongPlace_22 : decode cX10_wrongPlace 22 = .ok (.ifCond .eq 7, 3) := by decide +kernel
theorem dX10_wrongPlace_25 : decode cX10_wrongPlace 25 = .ok (.iconst 0, 1) := by decide +kernel
theorem dX10_wrongPlace_26 : decode cX10_wrongPlace 26 = .ok (.goto 4, 3) := by decide +kernel
theorem dX10_wrongPlace_29 : decode cX10_wrongPlace 29 = .ok (.iconst 4, 1) := by decide +kernel
theorem dX10_wrongPlace_30 : decode cX10_wrongPlace 30 = .ok (.ireturn, 1) := by decide +kernel
theorem dX10_wrongRow_0 : decode cX10_wrongRow 0 = .ok (.aload_n 0, 1) := by decide +kernel
theorem dX10_wrongRow_1 : decode cX10_wrongRow 1 = .ok (.iload_n 1, 1) := by decide +kernel
theorem dX10_wrongRow_2 : decode cX10_wrongRow 2 = .ok (.invokevirtual 453, 3) := by decide +kernel
theorem dX10_wrongRow_5 : decode cX10_wrongRow 5 = .ok (.istore_n 3, 1) := by decide +kernel
theorem dX10_wrongRow_6 : decode cX10_wrongRow 6 = .ok (.iload_n 3, 1) := by decide +kernel
theorem dX10_wrongRow_7 : decode cX10_wrongRow 7 = .ok (.ifCond .eq 5, 3) := by decide +kernel
theorem dX10_wrongRow_10 : decode cX10_wrongRow 10 = .ok (.iload_n 3, 1) := by decide +kernel
theorem dX10_wrongRow_11 : decode cX10_wrongRow 11 = .ok (.ireturn, 1) := by decide +kernel
theorem dX10_wrongRow_12 : decode cX10_wrongRow 12 = .ok (.iload_n 2, 1) := by decide +kernel
theorem dX10_wrongRow_13 : decode cX10_wrongRow 13 = .ok (.aload_n 0, 1) := by decide +kernel
theorem dX10_wrongRow_14 : decode cX10_wrongRow 14 = .ok (.getfield 10, 3) := by decide +kernel
theorem dX10_wrongRow_17 : decode cX10_wrongRow 17 = .ok (.getfield 456, 3) := by decide +kernel
theorem dX10_wrongRow_20 : decode cX10_wrongRow 20 = .ok (.iload_n 1, 1) := by decide +kernel
theorem dX10_wrongRow_21 : decode cX10_wrongRow 21 = .ok (.iaload, 1) := by decide +kernel
theorem dX10_wrongRow_22 : decode cX10_wrongRow 22 = .ok (.if_icmp .le 7, 3) := by decide +kernel
theorem dX10_wrongRow_25 : decode cX10_wrongRow 25 = .ok (.iconst 4, 1) := by decide +kernel
theorem dX10_wrongRow_26 : decode cX10_wrongRow 26 = .ok (.goto 4, 3) := by decide +kernel
theorem dX10_wrongRow_29 : decode cX10_wrongRow 29 = .ok (.iconst 0, 1) := by decide +kernel
theorem dX10_wrongRow_30 : decode cX10_wrongRow 30 = .ok (.ireturn, 1) := by decide +kernel
theorem dX10_wrongVerdicts_0 : decode cX10_wrongVerdicts 0 = .ok (.aload_n 0, 1) := by decide +kernel
theorem dX10_wrongVerdicts_1 : decode cX10_wrongVerdicts 1 = .ok (.iload_n 1, 1) := by decide +kernel
theorem dX10_wrongVerdicts_2 : decode cX10_wrongVerdicts 2 = .ok (.iload_n 2, 1) := by decide +kernel
theorem dX10_wrongVerdicts_3 : decode cX10_wrongVerdicts 3 = .ok (.invokevirtual 272, 3) := by decide +kernel
theorem dX10_wrongVerdicts_6 : decode cX10_wrongVerdicts 6 = .ok (.istore_n 3, 1) := by decide +kernel
theorem dX10_wrongVerdicts_7 : decode cX10_wrongVerdicts 7 = .ok (.iload_n 3, 1) := by decide +kernel
theorem dX10_wrongVerdicts_8 : decode cX10_wrongVerdicts 8 = .ok (.ifCond .eq 5, 3) := by decide +kernel
theorem dX10_wrongVerdicts_11 : decode cX10_wrongVerdicts 11 = .ok (.iload_n 3, 1) := by decide +kernel
theorem dX10_wrongVerdicts_12 : decode cX10_wrongVerdicts 12 = .ok (.ireturn, 1) := by decide +kernel
theorem dX10_wrongVerdicts_13 : decode cX10_wrongVerdicts 13 = .ok (.iload_n 2, 1) := by decide +kernel
theorem dX10_wrongVerdicts_14 : decode cX10_wrongVerdicts 14 = .ok (.ifCond .ge 5, 3) := by decide +kernel
theorem dX10_wrongVerdicts_17 : decode cX10_wrongVerdicts 17 = .ok (.iconst 5, 1) := by decide +kernel
theorem dX10_wrongVerdicts_18 : decode cX10_wrongVerdicts 18 = .ok (.ireturn, 1) := by decide +kernel
theorem dX10_wrongVerdicts_19 : decode cX10_wrongVerdicts 19 = .ok (.iconst 0, 1) := by decide +kernel
theorem dX10_wrongVerdicts_20 : decode cX10_wrongVerdicts 20 = .ok (.istore 4, 2) := by decide +kernel
theorem dX10_wrongVerdicts_22 : decode cX10_wrongVerdicts 22 = .ok (.iload 4, 2) := by decide +kernel
theorem dX10_wrongVerdicts_24 : decode cX10_wrongVerdicts 24 = .ok (.iload_n 2, 1) := by decide +kernel
theorem dX10_wrongVerdicts_25 : decode cX10_wrongVerdicts 25 = .ok (.if_icmp .ge 29, 3) := by decide +kernel
theorem dX10_wrongVerdicts_28 : decode cX10_wrongVerdicts 28 = .ok (.aload_n 0, 1) := by decide +kernel
theorem dX10_wrongVerdicts_29 : decode cX10_wrongVerdicts 29 = .ok (.getfield 10, 3) := by decide +kernel
theorem dX10_wrongVerdicts_32 : decode cX10_wrongVerdicts 32 = .ok (.getfield 137, 3) := by decide +kernel
theorem dX10_wrongVerdicts_35 : decode cX10_wrongVerdicts 35 = .ok (.iload_n 1, 1) := by decide +kernel
theorem dX10_wrongVerdicts_36 : decode cX10_wrongVerdicts 36 = .ok (.aaload, 1) := by decide +kernel
theorem dX10_wrongVerdicts_37 : decode cX10_wrongVerdicts 37 = .ok (.iload 4, 2) := by decide +kernel
theorem dX10_wrongVerdicts_39 : decode cX10_wrongVerdicts 39 = .ok (.laload, 1) := by decide +kernel
theorem dX10_wrongVerdicts_40 : decode cX10_wrongVerdicts 40 = .ok (.invokestatic 259, 3) := by decide +kernel
theorem dX10_wrongVerdicts_43 : decode cX10_wrongVerdicts 43 = .ok (.ifCond .eq 5, 3) := by decide +kernel
theorem dX10_wrongVerdicts_46 : decode cX10_wrongVerdicts 46 = .ok (.iconst 5, 1) := by decide +kernel
theorem dX10_wrongVerdicts_47 : decode cX10_wrongVerdicts 47 = .ok (.ireturn, 1) := by decide +kernel
theorem dX10_wrongVerdicts_48 : decode cX10_wrongVerdicts 48 = .ok (.iinc 4 1, 3) := by decide +kernel
theorem dX10_wrongVerdicts_51 : decode cX10_wrongVerdicts 51 = .ok (.goto (-29), 3) := by decide +kernel
theorem dX10_wrongVerdicts_54 : decode cX10_wrongVerdicts 54 = .ok (.aload_n 0, 1) := by decide +kernel
theorem dX10_wrongVerdicts_55 : decode cX10_wrongVerdicts 55 = .ok (.invokevirtual 222, 3) := by decide +kernel
theorem dX10_wrongVerdicts_58 : decode cX10_wrongVerdicts 58 = .ok (.ifCond .eq 8, 3) := by decide +kernel
theorem dX10_wrongVerdicts_61 : decode cX10_wrongVerdicts 61 = .ok (.bipush 8, 2) := by decide +kernel
theorem dX10_wrongVerdicts_63 : decode cX10_wrongVerdicts 63 = .ok (.goto 4, 3) := by decide +kernel
theorem dX10_wrongVerdicts_66 : decode cX10_wrongVerdicts 66 = .ok (.iconst 0, 1) := by decide +kernel
theorem dX10_wrongVerdicts_67 : decode cX10_wrongVerdicts 67 = .ok (.ireturn, 1) := by decide +kernel
theorem dX10_wrongStrikes_0 : decode cX10_wrongStrikes 0 = .ok (.iload_n 1, 1) := by decide +kernel
theorem dX10_wrongStrikes_1 : decode cX10_wrongStrikes 1 = .ok (.iconst 1, 1) := by decide +kernel
theorem dX10_wrongStrikes_2 : decode cX10_wrongStrikes 2 = .ok (.if_icmp .lt 8, 3) := by decide +kernel
theorem dX10_wrongStrikes_5 : decode cX10_wrongStrikes 5 = .ok (.iload_n 1, 1) := by decide +kernel
theorem dX10_wrongStrikes_6 : decode cX10_wrongStrikes 6 = .ok (.iconst 3, 1) := by decide +kernel
theorem dX10_wrongStrikes_7 : decode cX10_wrongStrikes 7 = .ok (.if_icmp .le 5, 3) := by decide +kernel
theorem dX10_wrongStrikes_10 : decode cX10_wrongStrikes 10 = .ok (.iconst 5, 1) := by decide +kernel
theorem dX10_wrongStrikes_11 : decode cX10_wrongStrikes 11 = .ok (.ireturn, 1) := by decide +kernel
theorem dX10_wrongStrikes_12 : decode cX10_wrongStrikes 12 = .ok (.aload_n 0, 1) := by decide +kernel
theorem dX10_wrongStrikes_13 : decode cX10_wrongStrikes 13 = .ok (.getfield 19, 3) := by decide +kernel
theorem dX10_wrongStrikes_16 : decode cX10_wrongStrikes 16 = .ok (.getfield 182, 3) := by decide +kernel
theorem dX10_wrongStrikes_19 : decode cX10_wrongStrikes 19 = .ok (.invokevirtual 317, 3) := by decide +kernel
theorem dX10_wrongStrikes_22 : decode cX10_wrongStrikes 22 = .ok (.iconst 2, 1) := by decide +kernel
theorem dX10_wrongStrikes_23 : decode cX10_wrongStrikes 23 = .ok (.iload_n 1, 1) := by decide +kernel
theorem dX10_wrongStrikes_24 : decode cX10_wrongStrikes 24 = .ok (.imul, 1) := by decide +kernel
theorem dX10_wrongStrikes_25 : decode cX10_wrongStrikes 25 = .ok (.if_icmp .ge 8, 3) := by decide +kernel
theorem dX10_wrongStrikes_28 : decode cX10_wrongStrikes 28 = .ok (.bipush 9, 2) := by decide +kernel
theorem dX10_wrongStrikes_30 : decode cX10_wrongStrikes 30 = .ok (.goto 4, 3) := by decide +kernel
theorem dX10_wrongStrikes_33 : decode cX10_wrongStrikes 33 = .ok (.iconst 0, 1) := by decide +kernel
theorem dX10_wrongStrikes_34 : decode cX10_wrongStrikes 34 = .ok (.ireturn, 1) := by decide +kernel
theorem dX10_wrongHarvest_0 : decode cX10_wrongHarvest 0 = .ok (.aload_n 0, 1) := by decide +kernel
theorem dX10_wrongHarvest_1 : decode cX10_wrongHarvest 1 = .ok (.iconst 3, 1) := by decide +kernel
theorem dX10_wrongHarvest_2 : decode cX10_wrongHarvest 2 = .ok (.iload_n 1, 1) := by decide +kernel
theorem dX10_wrongHarvest_3 : decode cX10_wrongHarvest 3 = .ok (.invokevirtual 237, 3) := by decide +kernel
theorem dX10_wrongHarvest_6 : decode cX10_wrongHarvest 6 = .ok (.ifCond .eq 5, 3) := by decide +kernel
theorem dX10_wrongHarvest_9 : decode cX10_wrongHarvest 9 = .ok (.iconst 2, 1) := by decide +kernel
theorem dX10_wrongHarvest_10 : decode cX10_wrongHarvest 10 = .ok (.ireturn, 1) := by decide +kernel
theorem dX10_wrongHarvest_11 : decode cX10_wrongHarvest 11 = .ok (.iload_n 2, 1) := by decide +kernel
theorem dX10_wrongHarvest_12 : decode cX10_wrongHarvest 12 = .ok (.iconst 1, 1) := by decide +kernel
theorem dX10_wrongHarvest_13 : decode cX10_wrongHarvest 13 = .ok (.if_icmp .lt 9, 3) := by decide +kernel
theorem dX10_wrongHarvest_16 : decode cX10_wrongHarvest 16 = .ok (.iload_n 2, 1) := by decide +kernel
theorem dX10_wrongHarvest_17 : decode cX10_wrongHarvest 17 = .ok (.bipush 20, 2) := by decide +kernel
theorem dX10_wrongHarvest_19 : decode cX10_wrongHarvest 19 = .ok (.if_icmp .le 5, 3) := by decide +kernel
theorem dX10_wrongHarvest_22 : decode cX10_wrongHarvest 22 = .ok (.iconst 5, 1) := by decide +kernel
theorem dX10_wrongHarvest_23 : decode cX10_wrongHarvest 23 = .ok (.ireturn, 1) := by decide +kernel
theorem dX10_wrongHarvest_24 : decode cX10_wrongHarvest 24 = .ok (.aload_n 0, 1) := by decide +kernel
theorem dX10_wrongHarvest_25 : decode cX10_wrongHarvest 25 = .ok (.invokevirtual 222, 3) := by decide +kernel
theorem dX10_wrongHarvest_28 : decode cX10_wrongHarvest 28 = .ok (.ifCond .eq 8, 3) := by decide +kernel
theorem dX10_wrongHarvest_31 : decode cX10_wrongHarvest 31 = .ok (.bipush 8, 2) := by decide +kernel
theorem dX10_wrongHarvest_33 : decode cX10_wrongHarvest 33 = .ok (.goto 4, 3) := by decide +kernel
theorem dX10_wrongHarvest_36 : decode cX10_wrongHarvest 36 = .ok (.iconst 0, 1) := by decide +kernel
theorem dX10_wrongHarvest_37 : decode cX10_wrongHarvest 37 = .ok (.ireturn, 1) := by decide +kernel
theorem dX10_rule_0 : decode cX10_rule 0 = .ok (.iload_n 1, 1) := by decide +kernel
theorem dX10_rule_1 : decode cX10_rule 1 = .ok (.iload_n 2, 1) := by decide +kernel
theorem dX10_rule_2 : decode cX10_rule 2 = .ok (.iadd, 1) := by decide +kernel
theorem dX10_rule_3 : decode cX10_rule 3 = .ok (.istore_n 3, 1) := by decide +kernel
theorem dX10_rule_4 : decode cX10_rule 4 = .ok (.iload_n 3, 1) := by decide +kernel
theorem dX10_rule_5 : decode cX10_rule 5 = .ok (.ifCond .ne 5, 3) := by decide +kernel
theorem dX10_rule_8 : decode cX10_rule 8 = .ok (.iconst 0, 1) := by decide +kernel
theorem dX10_rule_9 : decode cX10_rule 9 = .ok (.ireturn, 1) := by decide +kernel
theorem dX10_rule_10 : decode cX10_rule 10 = .ok (.iload_n 0, 1) := by decide +kernel
theorem dX10_rule_11 : decode cX10_rule 11 = .ok (.ifCond .ne 16, 3) := by decide +kernel
theorem dX10_rule_14 : decode cX10_rule 14 = .ok (.iconst 2, 1) := by decide +kernel
theorem dX10_rule_15 : decode cX10_rule 15 = .ok (.iload_n 1, 1) := by decide +kernel
theorem dX10_rule_16 : decode cX10_rule 16 = .ok (.imul, 1) := by decide +kernel
theorem dX10_rule_17 : decode cX10_rule 17 = .ok (.iload_n 3, 1) := by decide +kernel
theorem dX10_rule_18 : decode cX10_rule 18 = .ok (.if_icmp .le 7, 3) := by decide +kernel
theorem dX10_rule_21 : decode cX10_rule 21 = .ok (.iconst 1, 1) := by decide +kernel
theorem dX10_rule_22 : decode cX10_rule 22 = .ok (.goto 4, 3) := by decide +kernel
theorem dX10_rule_25 : decode cX10_rule 25 = .ok (.iconst (-1), 1) := by decide +kernel
theorem dX10_rule_26 : decode cX10_rule 26 = .ok (.ireturn, 1) := by decide +kernel
theorem dX10_rule_27 : decode cX10_rule 27 = .ok (.iload_n 0, 1) := by decide +kernel
theorem dX10_rule_28 : decode cX10_rule 28 = .ok (.iconst 1, 1) := by decide +kernel
theorem dX10_rule_29 : decode cX10_rule 29 = .ok (.if_icmp .ne 23, 3) := by decide +kernel
theorem dX10_rule_32 : decode cX10_rule 32 = .ok (.iload_n 1, 1) := by decide +kernel
theorem dX10_rule_33 : decode cX10_rule 33 = .ok (.iload_n 3, 1) := by decide +kernel
theorem dX10_rule_34 : decode cX10_rule 34 = .ok (.if_icmp .ne 7, 3) := by decide +kernel
theorem dX10_rule_37 : decode cX10_rule 37 = .ok (.iconst 1, 1) := by decide +kernel
theorem dX10_rule_38 : decode cX10_rule 38 = .ok (.goto 13, 3) := by decide +kernel
theorem dX10_rule_41 : decode cX10_rule 41 = .ok (.iload_n 2, 1) := by decide +kernel
theorem dX10_rule_42 : decode cX10_rule 42 = .ok (.iload_n 3, 1) := by decide +kernel
theorem dX10_rule_43 : decode cX10_rule 43 = .ok (.if_icmp .ne 7, 3) := by decide +kernel
theorem dX10_rule_46 : decode cX10_rule 46 = .ok (.iconst (-1), 1) := by decide +kernel
theorem dX10_rule_47 : decode cX10_rule 47 = .ok (.goto 4, 3) := by decide +kernel
theorem dX10_rule_50 : decode cX10_rule 50 = .ok (.iconst 0, 1) := by decide +kernel
theorem dX10_rule_51 : decode cX10_rule 51 = .ok (.ireturn, 1) := by decide +kernel
theorem dX10_rule_52 : decode cX10_rule 52 = .ok (.iconst 3, 1) := by decide +kernel
theorem dX10_rule_53 : decode cX10_rule 53 = .ok (.iload_n 1, 1) := by decide +kernel
theorem dX10_rule_54 : decode cX10_rule 54 = .ok (.imul, 1) := by decide +kernel
theorem dX10_rule_55 : decode cX10_rule 55 = .ok (.iconst 2, 1) := by decide +kernel
theorem dX10_rule_56 : decode cX10_rule 56 = .ok (.iload_n 3, 1) := by decide +kernel
theorem dX10_rule_57 : decode cX10_rule 57 = .ok (.imul, 1) := by decide +kernel
theorem dX10_rule_58 : decode cX10_rule 58 = .ok (.if_icmp .lt 7, 3) := by decide +kernel
theorem dX10_rule_61 : decode cX10_rule 61 = .ok (.iconst 1, 1) := by decide +kernel
theorem dX10_rule_62 : decode cX10_rule 62 = .ok (.goto 17, 3) := by decide +kernel
theorem dX10_rule_65 : decode cX10_rule 65 = .ok (.iconst 3, 1) := by decide +kernel
theorem dX10_rule_66 : decode cX10_rule 66 = .ok (.iload_n 2, 1) := by decide +kernel
theorem dX10_rule_67 : decode cX10_rule 67 = .ok (.imul, 1) := by decide +kernel
theorem dX10_rule_68 : decode cX10_rule 68 = .ok (.iconst 2, 1) := by decide +kernel
theorem dX10_rule_69 : decode cX10_rule 69 = .ok (.iload_n 3, 1) := by decide +kernel
theorem dX10_rule_70 : decode cX10_rule 70 = .ok (.imul, 1) := by decide +kernel
theorem dX10_rule_71 : decode cX10_rule 71 = .ok (.if_icmp .lt 7, 3) := by decide +kernel
theorem dX10_rule_74 : decode cX10_rule 74 = .ok (.iconst (-1), 1) := by decide +kernel
theorem dX10_rule_75 : decode cX10_rule 75 = .ok (.goto 4, 3) := by decide +kernel
theorem dX10_rule_78 : decode cX10_rule 78 = .ok (.iconst 0, 1) := by decide +kernel
theorem dX10_rule_79 : decode cX10_rule 79 = .ok (.ireturn, 1) := by decide +kernel
theorem dX10_cheapestSet_0 : decode cX10_cheapestSet 0 = .ok (.aload_n 0, 1) := by decide +kernel
theorem dX10_cheapestSet_1 : decode cX10_cheapestSet 1 = .ok (.getfield 19, 3) := by decide +kernel
theorem dX10_cheapestSet_4 : decode cX10_cheapestSet 4 = .ok (.getfield 175, 3) := by decide +kernel
theorem dX10_cheapestSet_7 : decode cX10_cheapestSet 7 = .ok (.astore 4, 2) := by decide +kernel
theorem dX10_cheapestSet_9 : decode cX10_cheapestSet 9 = .ok (.aload_n 0, 1) := by decide +kernel
theorem dX10_cheapestSet_10 : decode cX10_cheapestSet 10 = .ok (.getfield 19, 3) := by decide +kernel
theorem dX10_cheapestSet_13 : decode cX10_cheapestSet 13 = .ok (.getfield 182, 3) := by decide +kernel
theorem dX10_cheapestSet_16 : decode cX10_cheapestSet 16 = .ok (.getfield 231, 3) := by decide +kernel
theorem dX10_cheapestSet_19 : decode cX10_cheapestSet 19 = .ok (.istore 5, 2) := by decide +kernel
theorem dX10_cheapestSet_21 : decode cX10_cheapestSet 21 = .ok (.iconst (-1), 1) := by decide +kernel
theorem dX10_cheapestSet_22 : decode cX10_cheapestSet 22 = .ok (.istore 6, 2) := by decide +kernel
theorem dX10_cheapestSet_24 : decode cX10_cheapestSet 24 = .ok (.iconst 0, 1) := by decide +kernel
theorem dX10_cheapestSet_25 : decode cX10_cheapestSet 25 = .ok (.istore 7, 2) := by decide +kernel
theorem dX10_cheapestSet_27 : decode cX10_cheapestSet 27 = .ok (.iconst 0, 1) := by decide +kernel
theorem dX10_cheapestSet_28 : decode cX10_cheapestSet 28 = .ok (.istore 8, 2) := by decide +kernel
theorem dX10_cheapestSet_30 : decode cX10_cheapestSet 30 = .ok (.iload 8, 2) := by decide +kernel
theorem dX10_cheapestSet_32 : decode cX10_cheapestSet 32 = .ok (.iconst 1, 1) := by decide +kernel
theorem dX10_cheapestSet_33 : decode cX10_cheapestSet 33 = .ok (.aload 4, 2) := by decide +kernel
theorem dX10_cheapestSet_35 : decode cX10_cheapestSet 35 = .ok (.getfield 194, 3) := by decide +kernel
theorem dX10_cheapestSet_38 : decode cX10_cheapestSet 38 = .ok (.iconst 0, 1) := by decide +kernel
theorem dX10_cheapestSet_39 : decode cX10_cheapestSet 39 = .ok (.iaload, 1) := by decide +kernel
theorem dX10_cheapestSet_40 : decode cX10_cheapestSet 40 = .ok (.ishl, 1) := by decide +kernel
theorem dX10_cheapestSet_41 : decode cX10_cheapestSet 41 = .ok (.if_icmp .ge 61, 3) := by decide +kernel
theorem dX10_cheapestSet_44 : decode cX10_cheapestSet 44 = .ok (.iload 8, 2) := by decide +kernel
theorem dX10_cheapestSet_46 : decode cX10_cheapestSet 46 = .ok (.iload 5, 2) := by decide +kernel
theorem dX10_cheapestSet_48 : decode cX10_cheapestSet 48 = .ok (.iand, 1) := by decide +kernel
theorem dX10_cheapestSet_49 : decode cX10_cheapestSet 49 = .ok (.iload 8, 2) := by decide +kernel
theorem dX10_cheapestSet_51 : decode cX10_cheapestSet 51 = .ok (.if_icmp .ne 45, 3) := by decide +kernel
theorem dX10_cheapestSet_54 : decode cX10_cheapestSet 54 = .ok (.aload 4, 2) := by decide +kernel
theorem dX10_cheapestSet_56 : decode cX10_cheapestSet 56 = .ok (.iload 8, 2) := by decide +kernel
theorem dX10_cheapestSet_58 : decode cX10_cheapestSet 58 = .ok (.invokevirtual 365, 3) := by decide +kernel
theorem dX10_cheapestSet_61 : decode cX10_cheapestSet 61 = .ok (.istore 9, 2) := by decide +kernel
theorem dX10_cheapestSet_63 : decode cX10_cheapestSet 63 = .ok (.iload 6, 2) := by decide +kernel
theorem dX10_cheapestSet_65 : decode cX10_cheapestSet 65 = .ok (.iconst (-1), 1) := by decide +kernel
theorem dX10_cheapestSet_66 : decode cX10_cheapestSet 66 = .ok (.if_icmp .eq 10, 3) := by decide +kernel
theorem dX10_cheapestSet_69 : decode cX10_cheapestSet 69 = .ok (.iload 9, 2) := by decide +kernel
theorem dX10_cheapestSet_71 : decode cX10_cheapestSet 71 = .ok (.iload 7, 2) := by decide +kernel
theorem dX10_cheapestSet_73 : decode cX10_cheapestSet 73 = .ok (.if_icmp .ge 23, 3) := by decide +kernel
theorem dX10_cheapestSet_76 : decode cX10_cheapestSet 76 = .ok (.aload_n 0, 1) := by decide +kernel
theorem dX10_cheapestSet_77 : decode cX10_cheapestSet 77 = .ok (.iload 8, 2) := by decide +kernel
theorem dX10_cheapestSet_79 : decode cX10_cheapestSet 79 = .ok (.iload_n 1, 1) := by decide +kernel
theorem dX10_cheapestSet_80 : decode cX10_cheapestSet 80 = .ok (.iload_n 2, 1) := by decide +kernel
theorem dX10_cheapestSet_81 : decode cX10_cheapestSet 81 = .ok (.iload_n 3, 1) := by decide +kernel
theorem dX10_cheapestSet_82 : decode cX10_cheapestSet 82 = .ok (.invokevirtual 459, 3) := by decide +kernel
theorem dX10_cheapestSet_85 : decode cX10_cheapestSet 85 = .ok (.ifCond .eq 11, 3) := by decide +kernel
theorem dX10_cheapestSet_88 : decode cX10_cheapestSet 88 = .ok (.iload 8, 2) := by decide +kernel
theorem dX10_cheapestSet_90 : decode cX10_cheapestSet 90 = .ok (.istore 6, 2) := by decide +kernel
theorem dX10_cheapestSet_92 : decode cX10_cheapestSet 92 = .ok (.iload 9, 2) := by decide +kernel
theorem dX10_cheapestSet_94 : decode cX10_cheapestSet 94 = .ok (.istore 7, 2) := by decide +kernel
theorem dX10_cheapestSet_96 : decode cX10_cheapestSet 96 = .ok (.iinc 8 1, 3) := by decide +kernel
theorem dX10_cheapestSet_99 : decode cX10_cheapestSet 99 = .ok (.goto (-69), 3) := by decide +kernel
theorem dX10_cheapestSet_102 : decode cX10_cheapestSet 102 = .ok (.iload 6, 2) := by decide +kernel
theorem dX10_cheapestSet_104 : decode cX10_cheapestSet 104 = .ok (.ireturn, 1) := by decide +kernel
theorem dX10_wins_0 : decode cX10_wins 0 = .ok (.aload_n 0, 1) := by decide +kernel
theorem dX10_wins_1 : decode cX10_wins 1 = .ok (.getfield 72, 3) := by decide +kernel
theorem dX10_wins_4 : decode cX10_wins 4 = .ok (.aload_n 0, 1) := by decide +kernel
theorem dX10_wins_5 : decode cX10_wins 5 = .ok (.getfield 19, 3) := by decide +kernel
theorem dX10_wins_8 : decode cX10_wins 8 = .ok (.getfield 182, 3) := by decide +kernel
theorem dX10_wins_11 : decode cX10_wins 11 = .ok (.invokevirtual 324, 3) := by decide +kernel
theorem dX10_wins_14 : decode cX10_wins 14 = .ok (.iconst 0, 1) := by decide +kernel
theorem dX10_wins_15 : decode cX10_wins 15 = .ok (.istore 5, 2) := by decide +kernel
theorem dX10_wins_17 : decode cX10_wins 17 = .ok (.iload 5, 2) := by decide +kernel
theorem dX10_wins_19 : decode cX10_wins 19 = .ok (.bipush 10, 2) := by decide +kernel
theorem dX10_wins_21 : decode cX10_wins 21 = .ok (.if_icmp .ge 32, 3) := by decide +kernel
theorem dX10_wins_24 : decode cX10_wins 24 = .ok (.iload_n 1, 1) := by decide +kernel
theorem dX10_wins_25 : decode cX10_wins 25 = .ok (.iload 5, 2) := by decide +kernel
theorem dX10_wins_27 : decode cX10_wins 27 = .ok (.ishr, 1) := by decide +kernel
theorem dX10_wins_28 : decode cX10_wins 28 = .ok (.iconst 1, 1) := by decide +kernel
theorem dX10_wins_29 : decode cX10_wins 29 = .ok (.iand, 1) := by decide +kernel
theorem dX10_wins_30 : decode cX10_wins 30 = .ok (.ifCond .eq 17, 3) := by decide +kernel
theorem dX10_wins_33 : decode cX10_wins 33 = .ok (.aload_n 0, 1) := by decide +kernel
theorem dX10_wins_34 : decode cX10_wins 34 = .ok (.getfield 72, 3) := by decide +kernel
theorem dX10_wins_37 : decode cX10_wins 37 = .ok (.getfield 241, 3) := by decide +kernel
theorem dX10_wins_40 : decode cX10_wins 40 = .ok (.iload 5, 2) := by decide +kernel
theorem dX10_wins_42 : decode cX10_wins 42 = .ok (.iload_n 3, 1) := by decide +kernel
theorem dX10_wins_43 : decode cX10_wins 43 = .ok (.bipush 99, 2) := by decide +kernel
theorem dX10_wins_45 : decode cX10_wins 45 = .ok (.imul, 1) := by decide +kernel
theorem dX10_wins_46 : decode cX10_wins 46 = .ok (.iastore, 1) := by decide +kernel
theorem dX10_wins_47 : decode cX10_wins 47 = .ok (.iinc 5 1, 3) := by decide +kernel
theorem dX10_wins_50 : decode cX10_wins 50 = .ok (.goto (-33), 3) := by decide +kernel
theorem dX10_wins_53 : decode cX10_wins 53 = .ok (.aload_n 0, 1) := by decide +kernel
theorem dX10_wins_54 : decode cX10_wins 54 = .ok (.getfield 72, 3) := by decide +kernel
theorem dX10_wins_57 : decode cX10_wins 57 = .ok (.aload_n 0, 1) := by decide +kernel
theorem dX10_wins_58 : decode cX10_wins 58 = .ok (.getfield 19, 3) := by decide +kernel
theorem dX10_wins_61 : decode cX10_wins 61 = .ok (.getfield 175, 3) := by decide +kernel
theorem dX10_wins_64 : decode cX10_wins 64 = .ok (.iload 4, 2) := by decide +kernel
theorem dX10_wins_66 : decode cX10_wins 66 = .ok (.invokevirtual 282, 3) := by decide +kernel
theorem dX10_wins_69 : decode cX10_wins 69 = .ok (.aload_n 0, 1) := by decide +kernel
theorem dX10_wins_70 : decode cX10_wins 70 = .ok (.getfield 72, 3) := by decide +kernel
theorem dX10_wins_73 : decode cX10_wins 73 = .ok (.aload_n 0, 1) := by decide +kernel
theorem dX10_wins_74 : decode cX10_wins 74 = .ok (.getfield 19, 3) := by decide +kernel
theorem dX10_wins_77 : decode cX10_wins 77 = .ok (.getfield 175, 3) := by decide +kernel
theorem dX10_wins_80 : decode cX10_wins 80 = .ok (.getfield 213, 3) := by decide +kernel
theorem dX10_wins_83 : decode cX10_wins 83 = .ok (.invokevirtual 286, 3) := by decide +kernel
theorem dX10_wins_86 : decode cX10_wins 86 = .ok (.iload_n 2, 1) := by decide +kernel
theorem dX10_wins_87 : decode cX10_wins 87 = .ok (.if_icmp .ne 7, 3) := by decide +kernel
theorem dX10_wins_90 : decode cX10_wins 90 = .ok (.iconst 1, 1) := by decide +kernel
theorem dX10_wins_91 : decode cX10_wins 91 = .ok (.goto 4, 3) := by decide +kernel
theorem dX10_wins_94 : decode cX10_wins 94 = .ok (.iconst 0, 1) := by decide +kernel
theorem dX10_wins_95 : decode cX10_wins 95 = .ok (.ireturn, 1) := by decide +kernel
theorem dX10_bestPlay_0 : decode cX10_bestPlay 0 = .ok (.iload_n 3, 1) := by decide +kernel
theorem dX10_bestPlay_1 : decode cX10_bestPlay 1 = .ok (.ifCond .le 9, 3) := by decide +kernel
theorem dX10_bestPlay_4 : decode cX10_bestPlay 4 = .ok (.iload_n 1, 1) := by decide +kernel
theorem dX10_bestPlay_5 : decode cX10_bestPlay 5 = .ok (.iload_n 2, 1) := by decide +kernel
theorem dX10_bestPlay_6 : decode cX10_bestPlay 6 = .ok (.iadd, 1) := by decide +kernel
theorem dX10_bestPlay_7 : decode cX10_bestPlay 7 = .ok (.ifCond .gt 10, 3) := by decide +kernel
theorem dX10_bestPlay_10 : decode cX10_bestPlay 10 = .ok (.iload_n 0, 1) := by decide +kernel
theorem dX10_bestPlay_11 : decode cX10_bestPlay 11 = .ok (.iload_n 1, 1) := by decide +kernel
theorem dX10_bestPlay_12 : decode cX10_bestPlay 12 = .ok (.iload_n 2, 1) := by decide +kernel
theorem dX10_bestPlay_13 : decode cX10_bestPlay 13 = .ok (.invokestatic 320, 3) := by decide +kernel
theorem dX10_bestPlay_16 : decode cX10_bestPlay 16 = .ok (.ireturn, 1) := by decide +kernel
theorem dX10_bestPlay_17 : decode cX10_bestPlay 17 = .ok (.iload_n 1, 1) := by decide +kernel
theorem dX10_bestPlay_18 : decode cX10_bestPlay 18 = .ok (.ifCond .ne 15, 3) := by decide +kernel
theorem dX10_bestPlay_21 : decode cX10_bestPlay 21 = .ok (.iload_n 0, 1) := by decide +kernel
theorem dX10_bestPlay_22 : decode cX10_bestPlay 22 = .ok (.iconst 0, 1) := by decide +kernel
theorem dX10_bestPlay_23 : decode cX10_bestPlay 23 = .ok (.iload_n 2, 1) := by decide +kernel
theorem dX10_bestPlay_24 : decode cX10_bestPlay 24 = .ok (.iconst 1, 1) := by decide +kernel
theorem dX10_bestPlay_25 : decode cX10_bestPlay 25 = .ok (.isub, 1) := by decide +kernel
theorem dX10_bestPlay_26 : decode cX10_bestPlay 26 = .ok (.iload_n 3, 1) := by decide +kernel
theorem dX10_bestPlay_27 : decode cX10_bestPlay 27 = .ok (.iconst 1, 1) := by decide +kernel
theorem dX10_bestPlay_28 : decode cX10_bestPlay 28 = .ok (.isub, 1) := by decide +kernel
theorem dX10_bestPlay_29 : decode cX10_bestPlay 29 = .ok (.invokestatic 371, 3) := by decide +kernel
theorem dX10_bestPlay_32 : decode cX10_bestPlay 32 = .ok (.ireturn, 1) := by decide +kernel
theorem dX10_bestPlay_33 : decode cX10_bestPlay 33 = .ok (.iload_n 2, 1) := by decide +kernel
theorem dX10_bestPlay_34 : decode cX10_bestPlay 34 = .ok (.ifCond .ne 15, 3) := by decide +kernel
theorem dX10_bestPlay_37 : decode cX10_bestPlay 37 = .ok (.iload_n 0, 1) := by decide +kernel
theorem dX10_bestPlay_38 : decode cX10_bestPlay 38 = .ok (.iload_n 1, 1) := by decide +kernel
theorem dX10_bestPlay_39 : decode cX10_bestPlay 39 = .ok (.iconst 1, 1) := by decide +kernel
theorem dX10_bestPlay_40 : decode cX10_bestPlay 40 = .ok (.isub, 1) := by decide +kernel
theorem dX10_bestPlay_41 : decode cX10_bestPlay 41 = .ok (.iconst 0, 1) := by decide +kernel
theorem dX10_bestPlay_42 : decode cX10_bestPlay 42 = .ok (.iload_n 3, 1) := by decide +kernel
theorem dX10_bestPlay_43 : decode cX10_bestPlay 43 = .ok (.iconst 1, 1) := by decide +kernel
theorem dX10_bestPlay_44 : decode cX10_bestPlay 44 = .ok (.isub, 1) := by decide +kernel
theorem dX10_bestPlay_45 : decode cX10_bestPlay 45 = .ok (.invokestatic 371, 3) := by decide +kernel
theorem dX10_bestPlay_48 : decode cX10_bestPlay 48 = .ok (.ireturn, 1) := by decide +kernel
theorem dX10_bestPlay_49 : decode cX10_bestPlay 49 = .ok (.iload_n 0, 1) := by decide +kernel
theorem dX10_bestPlay_50 : decode cX10_bestPlay 50 = .ok (.iload_n 1, 1) := by decide +kernel
theorem dX10_bestPlay_51 : decode cX10_bestPlay 51 = .ok (.iconst 1, 1) := by decide +kernel
theorem dX10_bestPlay_52 : decode cX10_bestPlay 52 = .ok (.isub, 1) := by decide +kernel
theorem dX10_bestPlay_53 : decode cX10_bestPlay 53 = .ok (.iload_n 2, 1) := by decide +kernel
theorem dX10_bestPlay_54 : decode cX10_bestPlay 54 = .ok (.iload_n 3, 1) := by decide +kernel
theorem dX10_bestPlay_55 : decode cX10_bestPlay 55 = .ok (.iconst 1, 1) := by decide +kernel
theorem dX10_bestPlay_56 : decode cX10_bestPlay 56 = .ok (.isub, 1) := by decide +kernel
theorem dX10_bestPlay_57 : decode cX10_bestPlay 57 = .ok (.invokestatic 371, 3) := by decide +kernel
theorem dX10_bestPlay_60 : decode cX10_bestPlay 60 = .ok (.istore 4, 2) := by decide +kernel
theorem dX10_bestPlay_62 : decode cX10_bestPlay 62 = .ok (.iload_n 0, 1) := by decide +kernel
theorem dX10_bestPlay_63 : decode cX10_bestPlay 63 = .ok (.iload_n 1, 1) := by decide +kernel
theorem dX10_bestPlay_64 : decode cX10_bestPlay 64 = .ok (.iload_n 2, 1) := by decide +kernel
theorem dX10_bestPlay_65 : decode cX10_bestPlay 65 = .ok (.iconst 1, 1) := by decide +kernel
theorem dX10_bestPlay_66 : decode cX10_bestPlay 66 = .ok (.isub, 1) := by decide +kernel
theorem dX10_bestPlay_67 : decode cX10_bestPlay 67 = .ok (.iload_n 3, 1) := by decide +kernel
theorem dX10_bestPlay_68 : decode cX10_bestPlay 68 = .ok (.iconst 1, 1) := by decide +kernel
theorem dX10_bestPlay_69 : decode cX10_bestPlay 69 = .ok (.isub, 1) := by decide +kernel
theorem dX10_bestPlay_70 : decode cX10_bestPlay 70 = .ok (.invokestatic 371, 3) := by decide +kernel
theorem dX10_bestPlay_73 : decode cX10_bestPlay 73 = .ok (.istore 5, 2) := by decide +kernel
theorem dX10_bestPlay_75 : decode cX10_bestPlay 75 = .ok (.iload_n 3, 1) := by decide +kernel
theorem dX10_bestPlay_76 : decode cX10_bestPlay 76 = .ok (.iconst 2, 1) := by decide +kernel
theorem dX10_bestPlay_77 : decode cX10_bestPlay 77 = .ok (.irem, 1) := by decide +kernel
theorem dX10_bestPlay_78 : decode cX10_bestPlay 78 = .ok (.ifCond .ne 7, 3) := by decide +kernel
theorem dX10_bestPlay_81 : decode cX10_bestPlay 81 = .ok (.iconst 1, 1) := by decide +kernel
theorem dX10_bestPlay_82 : decode cX10_bestPlay 82 = .ok (.goto 4, 3) := by decide +kernel
theorem dX10_bestPlay_85 : decode cX10_bestPlay 85 = .ok (.iconst 0, 1) := by decide +kernel
theorem dX10_bestPlay_86 : decode cX10_bestPlay 86 = .ok (.istore 6, 2) := by decide +kernel
theorem dX10_bestPlay_88 : decode cX10_bestPlay 88 = .ok (.iload 6, 2) := by decide +kernel
theorem dX10_bestPlay_90 : decode cX10_bestPlay 90 = .ok (.ifCond .eq 13, 3) := by decide +kernel
theorem dX10_bestPlay_93 : decode cX10_bestPlay 93 = .ok (.iload 4, 2) := by decide +kernel
theorem dX10_bestPlay_95 : decode cX10_bestPlay 95 = .ok (.iload 5, 2) := by decide +kernel
theorem dX10_bestPlay_97 : decode cX10_bestPlay 97 = .ok (.invokestatic 463, 3) := by decide +kernel
theorem dX10_bestPlay_100 : decode cX10_bestPlay 100 = .ok (.goto 10, 3) := by decide +kernel
theorem dX10_bestPlay_103 : decode cX10_bestPlay 103 = .ok (.iload 4, 2) := by decide +kernel
theorem dX10_bestPlay_105 : decode cX10_bestPlay 105 = .ok (.iload 5, 2) := by decide +kernel
theorem dX10_bestPlay_107 : decode cX10_bestPlay 107 = .ok (.invokestatic 466, 3) := by decide +kernel
theorem dX10_bestPlay_110 : decode cX10_bestPlay 110 = .ok (.ireturn, 1) := by decide +kernel
theorem dX10_firstOfBest_0 : decode cX10_firstOfBest 0 = .ok (.aload_n 0, 1) := by decide +kernel
theorem dX10_firstOfBest_1 : decode cX10_firstOfBest 1 = .ok (.getfield 19, 3) := by decide +kernel
theorem dX10_firstOfBest_4 : decode cX10_firstOfBest 4 = .ok (.getfield 182, 3) := by decide +kernel
theorem dX10_firstOfBest_7 : decode cX10_firstOfBest 7 = .ok (.astore_n 2, 1) := by decide +kernel
theorem dX10_firstOfBest_8 : decode cX10_firstOfBest 8 = .ok (.aload_n 0, 1) := by decide +kernel
theorem dX10_firstOfBest_9 : decode cX10_firstOfBest 9 = .ok (.getfield 19, 3) := by decide +kernel
theorem dX10_firstOfBest_12 : decode cX10_firstOfBest 12 = .ok (.getfield 175, 3) := by decide +kernel
theorem dX10_firstOfBest_15 : decode cX10_firstOfBest 15 = .ok (.getfield 213, 3) := by decide +kernel
theorem dX10_firstOfBest_18 : decode cX10_firstOfBest 18 = .ok (.istore_n 3, 1) := by decide +kernel
theorem dX10_firstOfBest_19 : decode cX10_firstOfBest 19 = .ok (.aload_n 2, 1) := by decide +kernel
theorem dX10_firstOfBest_20 : decode cX10_firstOfBest 20 = .ok (.invokevirtual 313, 3) := by decide +kernel
theorem dX10_firstOfBest_23 : decode cX10_firstOfBest 23 = .ok (.istore 4, 2) := by decide +kernel
theorem dX10_firstOfBest_25 : decode cX10_firstOfBest 25 = .ok (.aload_n 2, 1) := by decide +kernel
theorem dX10_firstOfBest_26 : decode cX10_firstOfBest 26 = .ok (.invokevirtual 317, 3) := by decide +kernel
theorem dX10_firstOfBest_29 : decode cX10_firstOfBest 29 = .ok (.iload 4, 2) := by decide +kernel
theorem dX10_firstOfBest_31 : decode cX10_firstOfBest 31 = .ok (.isub, 1) := by decide +kernel
theorem dX10_firstOfBest_32 : decode cX10_firstOfBest 32 = .ok (.istore 5, 2) := by decide +kernel
theorem dX10_firstOfBest_34 : decode cX10_firstOfBest 34 = .ok (.iload_n 3, 1) := by decide +kernel
theorem dX10_firstOfBest_35 : decode cX10_firstOfBest 35 = .ok (.iload 4, 2) := by decide +kernel
theorem dX10_firstOfBest_37 : decode cX10_firstOfBest 37 = .ok (.iload 5, 2) := by decide +kernel
theorem dX10_firstOfBest_39 : decode cX10_firstOfBest 39 = .ok (.iload_n 1, 1) := by decide +kernel
theorem dX10_firstOfBest_40 : decode cX10_firstOfBest 40 = .ok (.invokestatic 371, 3) := by decide +kernel
theorem dX10_firstOfBest_43 : decode cX10_firstOfBest 43 = .ok (.istore 6, 2) := by decide +kernel
theorem dX10_firstOfBest_45 : decode cX10_firstOfBest 45 = .ok (.iconst 0, 1) := by decide +kernel
theorem dX10_firstOfBest_46 : decode cX10_firstOfBest 46 = .ok (.istore 7, 2) := by decide +kernel
theorem dX10_firstOfBest_48 : decode cX10_firstOfBest 48 = .ok (.iload 7, 2) := by decide +kernel
theorem dX10_firstOfBest_50 : decode cX10_firstOfBest 50 = .ok (.aload_n 0, 1) := by decide +kernel
theorem dX10_firstOfBest_51 : decode cX10_firstOfBest 51 = .ok (.getfield 19, 3) := by decide +kernel
theorem dX10_firstOfBest_54 : decode cX10_firstOfBest 54 = .ok (.getfield 175, 3) := by decide +kernel
theorem dX10_firstOfBest_57 : decode cX10_firstOfBest 57 = .ok (.getfield 194, 3) := by decide +kernel
theorem dX10_firstOfBest_60 : decode cX10_firstOfBest 60 = .ok (.iconst 0, 1) := by decide +kernel
theorem dX10_firstOfBest_61 : decode cX10_firstOfBest 61 = .ok (.iaload, 1) := by decide +kernel
theorem dX10_firstOfBest_62 : decode cX10_firstOfBest 62 = .ok (.if_icmp .ge 62, 3) := by decide +kernel
theorem dX10_firstOfBest_65 : decode cX10_firstOfBest 65 = .ok (.aload_n 2, 1) := by decide +kernel
theorem dX10_firstOfBest_66 : decode cX10_firstOfBest 66 = .ok (.iload 7, 2) := by decide +kernel
theorem dX10_firstOfBest_68 : decode cX10_firstOfBest 68 = .ok (.invokevirtual 293, 3) := by decide +kernel
theorem dX10_firstOfBest_71 : decode cX10_firstOfBest 71 = .ok (.ifCond .eq 47, 3) := by decide +kernel
theorem dX10_firstOfBest_74 : decode cX10_firstOfBest 74 = .ok (.aload_n 2, 1) := by decide +kernel
theorem dX10_firstOfBest_75 : decode cX10_firstOfBest 75 = .ok (.getfield 241, 3) := by decide +kernel
theorem dX10_firstOfBest_78 : decode cX10_firstOfBest 78 = .ok (.iload 7, 2) := by decide +kernel
theorem dX10_firstOfBest_80 : decode cX10_firstOfBest 80 = .ok (.iaload, 1) := by decide +kernel
theorem dX10_firstOfBest_81 : decode cX10_firstOfBest 81 = .ok (.ifCond .le 7, 3) := by decide +kernel
theorem dX10_firstOfBest_84 : decode cX10_firstOfBest 84 = .ok (.iconst 1, 1) := by decide +kernel
theorem dX10_firstOfBest_85 : decode cX10_firstOfBest 85 = .ok (.goto 4, 3) := by decide +kernel
theorem dX10_firstOfBest_88 : decode cX10_firstOfBest 88 = .ok (.iconst 0, 1) := by decide +kernel
theorem dX10_firstOfBest_89 : decode cX10_firstOfBest 89 = .ok (.istore 8, 2) := by decide +kernel
theorem dX10_firstOfBest_91 : decode cX10_firstOfBest 91 = .ok (.iload_n 3, 1) := by decide +kernel
theorem dX10_firstOfBest_92 : decode cX10_firstOfBest 92 = .ok (.iload 4, 2) := by decide +kernel
theorem dX10_firstOfBest_94 : decode cX10_firstOfBest 94 = .ok (.iload 8, 2) := by decide +kernel
theorem dX10_firstOfBest_96 : decode cX10_firstOfBest 96 = .ok (.isub, 1) := by decide +kernel
theorem dX10_firstOfBest_97 : decode cX10_firstOfBest 97 = .ok (.iload 5, 2) := by decide +kernel
theorem dX10_firstOfBest_99 : decode cX10_firstOfBest 99 = .ok (.iconst 1, 1) := by decide +kernel
theorem dX10_firstOfBest_100 : decode cX10_firstOfBest 100 = .ok (.isub, 1) := by decide +kernel
theorem dX10_firstOfBest_101 : decode cX10_firstOfBest 101 = .ok (.iload 8, 2) := by decide +kernel
theorem dX10_firstOfBest_103 : decode cX10_firstOfBest 103 = .ok (.iadd, 1) := by decide +kernel
theorem dX10_firstOfBest_104 : decode cX10_firstOfBest 104 = .ok (.iload_n 1, 1) := by decide +kernel
theorem dX10_firstOfBest_105 : decode cX10_firstOfBest 105 = .ok (.iconst 1, 1) := by decide +kernel
theorem dX10_firstOfBest_106 : decode cX10_firstOfBest 106 = .ok (.isub, 1) := by decide +kernel
theorem dX10_firstOfBest_107 : decode cX10_firstOfBest 107 = .ok (.invokestatic 371, 3) := by decide +kernel
theorem dX10_firstOfBest_110 : decode cX10_firstOfBest 110 = .ok (.iload 6, 2) := by decide +kernel
theorem dX10_firstOfBest_112 : decode cX10_firstOfBest 112 = .ok (.if_icmp .ne 6, 3) := by decide +kernel
theorem dX10_firstOfBest_115 : decode cX10_firstOfBest 115 = .ok (.iload 7, 2) := by decide +kernel
theorem dX10_firstOfBest_117 : decode cX10_firstOfBest 117 = .ok (.ireturn, 1) := by decide +kernel
theorem dX10_firstOfBest_118 : decode cX10_firstOfBest 118 = .ok (.iinc 7 1, 3) := by decide +kernel
theorem dX10_firstOfBest_121 : decode cX10_firstOfBest 121 = .ok (.goto (-73), 3) := by decide +kernel
theorem dX10_firstOfBest_124 : decode cX10_firstOfBest 124 = .ok (.iconst (-1), 1) := by decide +kernel
theorem dX10_firstOfBest_125 : decode cX10_firstOfBest 125 = .ok (.ireturn, 1) := by decide +kernel
theorem dX11_init_0 : decode cX11_init 0 = .ok (.aload_n 0, 1) := by decide +kernel
theorem dX11_init_1 : decode cX11_init 1 = .ok (.invokespecial 1, 3) := by decide +kernel
theorem dX11_init_4 : decode cX11_init 4 = .ok (.aload_n 0, 1) := by decide +kernel
theorem dX11_init_5 : decode cX11_init 5 = .ok (.lconst 1, 1) := by decide +kernel
theorem dX11_init_6 : decode cX11_init 6 = .ok (.putfield 7, 3) := by decide +kernel
theorem dX11_init_9 : decode cX11_init 9 = .ok (.aload_n 0, 1) := by decide +kernel
theorem dX11_init_10 : decode cX11_init 10 = .ok (.iconst 4, 1) := by decide +kernel
theorem dX11_init_11 : decode cX11_init 11 = .ok (.newarray .int, 2) := by decide +kernel
theorem dX11_init_13 : decode cX11_init 13 = .ok (.putfield 13, 3) := by decide +kernel
theorem dX11_init_16 : decode cX11_init 16 = .ok (.aload_n 0, 1) := by decide +kernel
theorem dX11_init_17 : decode cX11_init 17 = .ok (.iconst 4, 1) := by decide +kernel
theorem dX11_init_18 : decode cX11_init 18 = .ok (.newarray .int, 2) := by decide +kernel
theorem dX11_init_20 : decode cX11_init 20 = .ok (.putfield 17, 3) := by decide +kernel
theorem dX11_init_23 : decode cX11_init 23 = .ok (.aload_n 0, 1) := by decide +kernel
theorem dX11_init_24 : decode cX11_init 24 = .ok (.sipush 240, 3) := by decide +kernel
theorem dX11_init_27 : decode cX11_init 27 = .ok (.newarray .long, 2) := by decide +kernel
theorem dX11_init_29 : decode cX11_init 29 = .ok (.putfield 20, 3) := by decide +kernel
theorem dX11_init_32 : decode cX11_init 32 = .ok (.aload_n 0, 1) := by decide +kernel
theorem dX11_init_33 : decode cX11_init 33 = .ok (.sipush 900, 3) := by decide +kernel
theorem dX11_init_36 : decode cX11_init 36 = .ok (.newarray .byte, 2) := by decide +kernel
theorem dX11_init_38 : decode cX11_init 38 = .ok (.putfield 24, 3) := by decide +kernel
theorem dX11_init_41 : decode cX11_init 41 = .ok (.aload_n 0, 1) := by decide +kernel
theorem dX11_init_42 : decode cX11_init 42 = .ok (.iconst (-1), 1) := by decide +kernel
theorem dX11_init_43 : decode cX11_init 43 = .ok (.putfield 28, 3) := by decide +kernel
theorem dX11_init_46 : decode cX11_init 46 = .ok (.aload_n 0, 1) := by decide +kernel
theorem dX11_init_47 : decode cX11_init 47 = .ok (.iconst (-1), 1) := by decide +kernel
theorem dX11_init_48 : decode cX11_init 48 = .ok (.putfield 32, 3) := by decide +kernel
theorem dX11_init_51 : decode cX11_init 51 = .ok (.aload_n 0, 1) := by decide +kernel
theorem dX11_init_52 : decode cX11_init 52 = .ok (.sipush 2375, 3) := by decide +kernel
theorem dX11_init_55 : decode cX11_init 55 = .ok (.newarray .int, 2) := by decide +kernel
theorem dX11_init_57 : decode cX11_init 57 = .ok (.putfield 35, 3) := by decide +kernel
theorem dX11_init_60 : decode cX11_init 60 = .ok (.aload_n 0, 1) := by decide +kernel
theorem dX11_init_61 : decode cX11_init 61 = .ok (.sipush 198, 3) := by decide +kernel
theorem dX11_init_64 : decode cX11_init 64 = .ok (.newarray .int, 2) := by decide +kernel
theorem dX11_init_66 : decode cX11_init 66 = .ok (.putfield 38, 3) := by decide +kernel
theorem dX11_init_69 : decode cX11_init 69 = .ok (.aload_n 0, 1) := by decide +kernel
theorem dX11_init_70 : decode cX11_init 70 = .ok (.sipush 130, 3) := by decide +kernel
theorem dX11_init_73 : decode cX11_init 73 = .ok (.newarray .long, 2) := by decide +kernel
theorem dX11_init_75 : decode cX11_init 75 = .ok (.putfield 41, 3) := by decide +kernel
theorem dX11_init_78 : decode cX11_init 78 = .ok (.aload_n 0, 1) := by decide +kernel
theorem dX11_init_79 : decode cX11_init 79 = .ok (.sipush 2010, 3) := by decide +kernel
theorem dX11_init_82 : decode cX11_init 82 = .ok (.newarray .int, 2) := by decide +kernel
theorem dX11_init_84 : decode cX11_init 84 = .ok (.putfield 44, 3) := by decide +kernel
theorem dX11_init_87 : decode cX11_init 87 = .ok (.aload_n 0, 1) := by decide +kernel
theorem dX11_init_88 : decode cX11_init 88 = .ok (.iconst 4, 1) := by decide +kernel
theorem dX11_init_89 : decode cX11_init 89 = .ok (.newarray .int, 2) := by decide +kernel
theorem dX11_init_91 : decode cX11_init 91 = .ok (.putfield 47, 3) := by decide +kernel
theorem dX11_init_94 : decode cX11_init 94 = .ok (.aload_n 0, 1) := by decide +kernel
theorem dX11_init_95 : decode cX11_init 95 = .ok (.iconst 4, 1) := by decide +kernel
theorem dX11_init_96 : decode cX11_init 96 = .ok (.newarray .int, 2) := by decide +kernel
theorem dX11_init_98 : decode cX11_init 98 = .ok (.putfield 50, 3) := by decide +kernel
theorem dX11_init_101 : decode cX11_init 101 = .ok (.aload_n 0, 1) := by decide +kernel
theorem dX11_init_102 : decode cX11_init 102 = .ok (.sipush 990, 3) := by decide +kernel
theorem dX11_init_105 : decode cX11_init 105 = .ok (.newarray .int, 2) := by decide +kernel
theorem dX11_init_107 : decode cX11_init 107 = .ok (.putfield 53, 3) := by decide +kernel
theorem dX11_init_110 : decode cX11_init 110 = .ok (.aload_n 0, 1) := by decide +kernel
theorem dX11_init_111 : decode cX11_init 111 = .ok (.iconst (-1), 1) := by decide +kernel
theorem dX11_init_112 : decode cX11_init 112 = .ok (.putfield 56, 3) := by decide +kernel
theorem dX11_init_115 : decode cX11_init 115 = .ok (.aload_n 0, 1) := by decide +kernel
theorem dX11_init_116 : decode cX11_init 116 = .ok (.iconst (-1), 1) := by decide +kernel
theorem dX11_init_117 : decode cX11_init 117 = .ok (.putfield 59, 3) := by decide +kernel
theorem dX11_init_120 : decode cX11_init 120 = .ok (.aload_n 0, 1) := by decide +kernel
theorem dX11_init_121 : decode cX11_init 121 = .ok (.bipush 126, 2) := by decide +kernel
theorem dX11_init_123 : decode cX11_init 123 = .ok (.newarray .int, 2) := by decide +kernel
theorem dX11_init_125 : decode cX11_init 125 = .ok (.putfield 62, 3) := by decide +kernel
theorem dX11_init_128 : decode cX11_init 128 = .ok (.aload_n 0, 1) := by decide +kernel
theorem dX11_init_129 : decode cX11_init 129 = .ok (.iconst 5, 1) := by decide +kernel
theorem dX11_init_130 : decode cX11_init 130 = .ok (.newarray .int, 2) := by decide +kernel
theorem dX11_init_132 : decode cX11_init 132 = .ok (.putfield 65, 3) := by decide +kernel
theorem dX11_init_135 : decode cX11_init 135 = .ok (.aload_n 0, 1) := by decide +kernel
theorem dX11_init_136 : decode cX11_init 136 = .ok (.sipush 198, 3) := by decide +kernel
theorem dX11_init_139 : decode cX11_init 139 = .ok (.newarray .int, 2) := by decide +kernel
theorem dX11_init_141 : decode cX11_init 141 = .ok (.putfield 68, 3) := by decide +kernel
theorem dX11_init_144 : decode cX11_init 144 = .ok (.iconst 0, 1) := by decide +kernel
theorem dX11_init_145 : decode cX11_init 145 = .ok (.istore_n 1, 1) := by decide +kernel
theorem dX11_init_146 : decode cX11_init 146 = .ok (.iload_n 1, 1) := by decide +kernel
theorem dX11_init_147 : decode cX11_init 147 = .ok (.iconst 4, 1) := by decide +kernel
theorem dX11_init_148 : decode cX11_init 148 = .ok (.if_icmp .ge 16, 3) := by decide +kernel
theorem dX11_init_151 : decode cX11_init 151 = .ok (.aload_n 0, 1) := by decide +kernel
theorem dX11_init_152 : decode cX11_init 152 = .ok (.getfield 17, 3) := by decide +kernel
theorem dX11_init_155 : decode cX11_init 155 = .ok (.iload_n 1, 1) := by decide +kernel
theorem dX11_init_156 : decode cX11_init 156 = .ok (.iconst (-1), 1) := by decide +kernel
theorem dX11_init_157 : decode cX11_init 157 = .ok (.iastore, 1) := by decide +kernel
theorem dX11_init_158 : decode cX11_init 158 = .ok (.iinc 1 1, 3) := by decide +kernel
theorem dX11_init_161 : decode cX11_init 161 = .ok (.goto (-15), 3) := by decide +kernel
theorem dX11_init_164 : decode cX11_init 164 = .ok (.aload_n 0, 1) := by decide +kernel
theorem dX11_init_165 : decode cX11_init 165 = .ok (.getfield 35, 3) := by decide +kernel
theorem dX11_init_168 : decode cX11_init 168 = .ok (.bipush 8, 2) := by decide +kernel
theorem dX11_init_170 : decode cX11_init 170 = .ok (.iconst (-1), 1) := by decide +kernel
theorem dX11_init_171 : decode cX11_init 171 = .ok (.iastore, 1) := by decide +kernel
theorem dX11_init_172 : decode cX11_init 172 = .ok (.return_, 1) := by decide +kernel
theorem dX11_status_0 : decode cX11_status 0 = .ok (.aload_n 0, 1) := by decide +kernel
theorem dX11_status_1 : decode cX11_status 1 = .ok (.iconst 0, 1) := by decide +kernel
theorem dX11_status_2 : decode cX11_status 2 = .ok (.putfield 71, 3) := by decide +kernel
theorem dX11_status_5 : decode cX11_status 5 = .ok (.aload_n 0, 1) := by decide +kernel
theorem dX11_status_6 : decode cX11_status 6 = .ok (.getfield 74, 3) := by decide +kernel
theorem dX11_status_9 : decode cX11_status 9 = .ok (.ireturn, 1) := by decide +kernel
theorem dX11_top_0 : decode cX11_top 0 = .ok (.aload_n 0, 1) := by decide +kernel
theorem dX11_top_1 : decode cX11_top 1 = .ok (.iconst 0, 1) := by decide +kernel
theorem dX11_top_2 : decode cX11_top 2 = .ok (.putfield 71, 3) := by decide +kernel
theorem dX11_top_5 : decode cX11_top 5 = .ok (.aload_n 0, 1) := by decide +kernel
theorem dX11_top_6 : decode cX11_top 6 = .ok (.getfield 77, 3) := by decide +kernel
theorem dX11_top_9 : decode cX11_top 9 = .ok (.lreturn, 1) := by decide +kernel
theorem dX11_bottom_0 : decode cX11_bottom 0 = .ok (.aload_n 0, 1) := by decide +kernel
theorem dX11_bottom_1 : decode cX11_bottom 1 = .ok (.iconst 0, 1) := by decide +kernel
theorem dX11_bottom_2 : decode cX11_bottom 2 = .ok (.putfield 71, 3) := by decide +kernel
theorem dX11_bottom_5 : decode cX11_bottom 5 = .ok (.aload_n 0, 1) := by decide +kernel
theorem dX11_bottom_6 : decode cX11_bottom 6 = .ok (.getfield 7, 3) := by decide +kernel
theorem dX11_bottom_9 : decode cX11_bottom 9 = .ok (.lreturn, 1) := by decide +kernel
theorem dX11_refuse_0 : decode cX11_refuse 0 = .ok (.aload_n 0, 1) := by decide +kernel
theorem dX11_refuse_1 : decode cX11_refuse 1 = .ok (.iload_n 1, 1) := by decide +kernel
theorem dX11_refuse_2 : decode cX11_refuse 2 = .ok (.putfield 74, 3) := by decide +kernel
theorem dX11_refuse_5 : decode cX11_refuse 5 = .ok (.iconst (-1), 1) := by decide +kernel
theorem dX11_refuse_6 : decode cX11_refuse 6 = .ok (.ireturn, 1) := by decide +kernel
theorem dX11_no_0 : decode cX11_no 0 = .ok (.aload_n 0, 1) := by decide +kernel
theorem dX11_no_1 : decode cX11_no 1 = .ok (.iload_n 1, 1) := by decide +kernel
theorem dX11_no_2 : decode cX11_no 2 = .ok (.putfield 74, 3) := by decide +kernel
theorem dX11_no_5 : decode cX11_no 5 = .ok (.iconst 0, 1) := by decide +kernel
theorem dX11_no_6 : decode cX11_no 6 = .ok (.ireturn, 1) := by decide +kernel
theorem dX11_isIn_0 : decode cX11_isIn 0 = .ok (.lload_n 0, 1) := by decide +kernel
theorem dX11_isIn_1 : decode cX11_isIn 1 = .ok (.lload_n 2, 1) := by decide +kernel
theorem dX11_isIn_2 : decode cX11_isIn 2 = .ok (.lcmp, 1) := by decide +kernel
theorem dX11_isIn_3 : decode cX11_isIn 3 = .ok (.ifCond .lt 14, 3) := by decide +kernel
theorem dX11_isIn_6 : decode cX11_isIn 6 = .ok (.lload_n 0, 1) := by decide +kernel
theorem dX11_isIn_7 : decode cX11_isIn 7 = .ok (.lload 4, 2) := by decide +kernel
theorem dX11_isIn_9 : decode cX11_isIn 9 = .ok (.lcmp, 1) := by decide +kernel
theorem dX11_isIn_10 : decode cX11_isIn 10 = .ok (.ifCond .gt 7, 3) := by decide +kernel
theorem dX11_isIn_13 : decode cX11_isIn 13 = .ok (.iconst 1, 1) := by decide +kernel
theorem dX11_isIn_14 : decode cX11_isIn 14 = .ok (.goto 4, 3) := by decide +kernel
theorem dX11_isIn_17 : decode cX11_isIn 17 = .ok (.iconst 0, 1) := by decide +kernel
theorem dX11_isIn_18 : decode cX11_isIn 18 = .ok (.ireturn, 1) := by decide +kernel
theorem dX11_fraction_0 : decode cX11_fraction 0 = .ok (.lload_n 1, 1) := by decide +kernel
theorem dX11_fraction_1 : decode cX11_fraction 1 = .ok (.invokestatic 80, 3) := by decide +kernel
theorem dX11_fraction_4 : decode cX11_fraction 4 = .ok (.lstore 5, 2) := by decide +kernel
theorem dX11_fraction_6 : decode cX11_fraction 6 = .ok (.lload_n 3, 1) := by decide +kernel
theorem dX11_fraction_7 : decode cX11_fraction 7 = .ok (.lstore 7, 2) := by decide +kernel
theorem dX11_fraction_9 : decode cX11_fraction 9 = .ok (.lload 7, 2) := by decide +kernel
theorem dX11_fraction_11 : decode cX11_fraction 11 = .ok (.lconst 0, 1) := by decide +kernel
theorem dX11_fraction_12 : decode cX11_fraction 12 = .ok (.lcmp, 1) := by decide +kernel
theorem dX11_fraction_13 : decode cX11_fraction 13 = .ok (.ifCond .eq 21, 3) := by decide +kernel
theorem dX11_fraction_16 : decode cX11_fraction 16 = .ok (.lload 5, 2) := by decide +kernel
theorem dX11_fraction_18 : decode cX11_fraction 18 = .ok (.lload 7, 2) := by decide +kernel
theorem dX11_fraction_20 : decode cX11_fraction 20 = .ok (.lrem, 1) := by decide +kernel
theorem dX11_fraction_21 : decode cX11_fraction 21 = .ok (.lstore 9, 2) := by decide +kernel
theorem dX11_fraction_23 : decode cX11_fraction 23 = .ok (.lload 7, 2) := by decide +kernel
theorem dX11_fraction_25 : decode cX11_fraction 25 = .ok (.lstore 5, 2) := by decide +kernel
theorem dX11_fraction_27 : decode cX11_fraction 27 = .ok (.lload 9, 2) := by decide +kernel
theorem dX11_fraction_29 : decode cX11_fraction 29 = .ok (.lstore 7, 2) := by decide +kernel
theorem dX11_fraction_31 : decode cX11_fraction 31 = .ok (.goto (-22), 3) := by decide +kernel
theorem dX11_fraction_34 : decode cX11_fraction 34 = .ok (.aload_n 0, 1) := by decide +kernel
theorem dX11_fraction_35 : decode cX11_fraction 35 = .ok (.lload_n 1, 1) := by decide +kernel
theorem dX11_fraction_36 : decode cX11_fraction 36 = .ok (.lload 5, 2) := by decide +kernel
theorem dX11_fraction_38 : decode cX11_fraction 38 = .ok (.ldiv, 1) := by decide +kernel
theorem dX11_fraction_39 : decode cX11_fraction 39 = .ok (.putfield 77, 3) := by decide +kernel
theorem dX11_fraction_42 : decode cX11_fraction 42 = .ok (.aload_n 0, 1) := by decide +kernel
theorem dX11_fraction_43 : decode cX11_fraction 43 = .ok (.lload_n 3, 1) := by decide +kernel
theorem dX11_fraction_44 : decode cX11_fraction 44 = .ok (.lload 5, 2) := by decide +kernel
theorem dX11_fraction_46 : decode cX11_fraction 46 = .ok (.ldiv, 1) := by decide +kernel
theorem dX11_fraction_47 : decode cX11_fraction 47 = .ok (.putfield 7, 3) := by decide +kernel
theorem dX11_fraction_50 : decode cX11_fraction 50 = .ok (.iconst 1, 1) := by decide +kernel
theorem dX11_fraction_51 : decode cX11_fraction 51 = .ok (.ireturn, 1) := by decide +kernel
theorem dX11_cut_0 : decode cX11_cut 0 = .ok (.iload_n 0, 1) := by decide +kernel
theorem dX11_cut_1 : decode cX11_cut 1 = .ok (.ifCond .ne 10, 3) := by decide +kernel
theorem dX11_cut_4 : decode cX11_cut 4 = .ok (.lload_n 1, 1) := by decide +kernel
theorem dX11_cut_5 : decode cX11_cut 5 = .ok (.l2i, 1) := by decide +kernel
theorem dX11_cut_6 : decode cX11_cut 6 = .ok (.i2b, 1) := by decide +kernel
theorem dX11_cut_7 : decode cX11_cut 7 = .ok (.i2l, 1) := by decide +kernel
theorem dX11_cut_8 : decode cX11_cut 8 = .ok (.goto 27, 3) := by decide +kernel
theorem dX11_cut_11 : decode cX11_cut 11 = .ok (.iload_n 0, 1) := by decide +kernel
theorem dX11_cut_12 : decode cX11_cut 12 = .ok (.iconst 1, 1) := by decide +kernel
theorem dX11_cut_13 : decode cX11_cut 13 = .ok (.if_icmp .ne 10, 3) := by decide +kernel
theorem dX11_cut_16 : decode cX11_cut 16 = .ok (.lload_n 1, 1) := by decide +kernel
theorem dX11_cut_17 : decode cX11_cut 17 = .ok (.l2i, 1) := by decide +kernel
theorem dX11_cut_18 : decode cX11_cut 18 = .ok (.i2s, 1) := by decide +kernel
theorem dX11_cut_19 : decode cX11_cut 19 = .ok (.i2l, 1) := by decide +kernel
theorem dX11_cut_20 : decode cX11_cut 20 = .ok (.goto 15, 3) := by decide +kernel
theorem dX11_cut_23 : decode cX11_cut 23 = .ok (.iload_n 0, 1) := by decide +kernel
theorem dX11_cut_24 : decode cX11_cut 24 = .ok (.iconst 2, 1) := by decide +kernel
theorem dX11_cut_25 : decode cX11_cut 25 = .ok (.if_icmp .ne 9, 3) := by decide +kernel
theorem dX11_cut_28 : decode cX11_cut 28 = .ok (.lload_n 1, 1) := by decide +kernel
theorem dX11_cut_29 : decode cX11_cut 29 = .ok (.l2i, 1) := by decide +kernel
theorem dX11_cut_30 : decode cX11_cut 30 = .ok (.i2l, 1) := by decide +kernel
theorem dX11_cut_31 : decode cX11_cut 31 = .ok (.goto 4, 3) := by decide +kernel
theorem dX11_cut_34 : decode cX11_cut 34 = .ok (.lload_n 1, 1) := by decide +kernel
theorem dX11_cut_35 : decode cX11_cut 35 = .ok (.lreturn, 1) := by decide +kernel
theorem dX11_tray_0 : decode cX11_tray 0 = .ok (.aload_n 0, 1) := by decide +kernel
theorem dX11_tray_1 : decode cX11_tray 1 = .ok (.iconst 0, 1) := by decide +kernel
theorem dX11_tray_2 : decode cX11_tray 2 = .ok (.putfield 71, 3) := by decide +kernel
theorem dX11_tray_5 : decode cX11_tray 5 = .ok (.aload_n 0, 1) := by decide +kernel
theorem dX11_tray_6 : decode cX11_tray 6 = .ok (.iconst 0, 1) := by decide +kernel
theorem dX11_tray_7 : decode cX11_tray 7 = .ok (.putfield 74, 3) := by decide +kernel
theorem dX11_tray_10 : decode cX11_tray 10 = .ok (.iload_n 1, 1) := by decide +kernel
theorem dX11_tray_11 : decode cX11_tray 11 = .ok (.ifCond .lt 17, 3) := by decide +kernel
theorem dX11_tray_14 : decode cX11_tray 14 = .ok (.iload_n 1, 1) := by decide +kernel
theorem dX11_tray_15 : decode cX11_tray 15 = .ok (.iconst 4, 1) := by decide +kernel
theorem dX11_tray_16 : decode cX11_tray 16 = .ok (.if_icmp .ge 12, 3) := by decide +kernel
theorem dX11_tray_19 : decode cX11_tray 19 = .ok (.iload_n 2, 1) := by decide +kernel
theorem dX11_tray_20 : decode cX11_tray 20 = .ok (.ifCond .lt 8, 3) := by decide +kernel
theorem dX11_tray_23 : decode cX11_tray 23 = .ok (.iload_n 2, 1) := by decide +kernel
theorem dX11_tray_24 : decode cX11_tray 24 = .ok (.iconst 3, 1) := by decide +kernel
theorem dX11_tray_25 : decode cX11_tray 25 = .ok (.if_icmp .le 9, 3) := by decide +kernel
theorem dX11_tray_28 : decode cX11_tray 28 = .ok (.aload_n 0, 1) := by decide +kernel
theorem dX11_tray_29 : decode cX11_tray 29 = .ok (.iconst 1, 1) := by decide +kernel
theorem dX11_tray_30 : decode cX11_tray 30 = .ok (.invokevirtual 86, 3) := by decide +kernel
theorem dX11_tray_33 : decode cX11_tray 33 = .ok (.ireturn, 1) := by decide +kernel
theorem dX11_tray_34 : decode cX11_tray 34 = .ok (.iload_n 3, 1) := by decide +kernel
theorem dX11_tray_35 : decode cX11_tray 35 = .ok (.bipush 60, 2) := by decide +kernel
theorem dX11_tray_37 : decode cX11_tray 37 = .ok (.if_icmp .le 9, 3) := by decide +kernel
theorem dX11_tray_40 : decode cX11_tray 40 = .ok (.aload_n 0, 1) := by decide +kernel
theorem dX11_tray_41 : decode cX11_tray 41 = .ok (.iconst 5, 1) := by decide +kernel
theorem dX11_tray_42 : decode cX11_tray 42 = .ok (.invokevirtual 86, 3) := by decide +kernel
theorem dX11_tray_45 : decode cX11_tray 45 = .ok (.ireturn, 1) := by decide +kernel
theorem dX11_tray_46 : decode cX11_tray 46 = .ok (.iload_n 3, 1) := by decide +kernel
theorem dX11_tray_47 : decode cX11_tray 47 = .ok (.ifCond .ge 10, 3) := by decide +kernel
theorem dX11_tray_50 : decode cX11_tray 50 = .ok (.aload_n 0, 1) := by decide +kernel
theorem dX11_tray_51 : decode cX11_tray 51 = .ok (.bipush 6, 2) := by decide +kernel
theorem dX11_tray_53 : decode cX11_tray 53 = .ok (.invokevirtual 86, 3) := by decide +kernel
theorem dX11_tray_56 : decode cX11_tray 56 = .ok (.ireturn, 1) := by decide +kernel
theorem dX11_tray_57 : decode cX11_tray 57 = .ok (.aload_n 0, 1) := by decide +kernel
theorem dX11_tray_58 : decode cX11_tray 58 = .ok (.getfield 13, 3) := by decide +kernel
theorem dX11_tray_61 : decode cX11_tray 61 = .ok (.iload_n 1, 1) := by decide +kernel
theorem dX11_tray_62 : decode cX11_tray 62 = .ok (.iload_n 2, 1) := by decide +kernel
theorem dX11_tray_63 : decode cX11_tray 63 = .ok (.iastore, 1) := by decide +kernel
theorem dX11_tray_64 : decode cX11_tray 64 = .ok (.aload_n 0, 1) := by decide +kernel
theorem dX11_tray_65 : decode cX11_tray 65 = .ok (.getfield 17, 3) := by decide +kernel
theorem dX11_tray_68 : decode cX11_tray 68 = .ok (.iload_n 1, 1) := by decide +kernel
theorem dX11_tray_69 : decode cX11_tray 69 = .ok (.iload_n 3, 1) := by decide +kernel
theorem dX11_tray_70 : decode cX11_tray 70 = .ok (.iastore, 1) := by decide +kernel
theorem dX11_tray_71 : decode cX11_tray 71 = .ok (.iconst 0, 1) := by decide +kernel
theorem dX11_tray_72 : decode cX11_tray 72 = .ok (.istore 4, 2) := by decide +kernel
theorem dX11_tray_74 : decode cX11_tray 74 = .ok (.iload 4, 2) := by decide +kernel
theorem dX11_tray_76 : decode cX11_tray 76 = .ok (.iload_n 3, 1) := by decide +kernel
theorem dX11_tray_77 : decode cX11_tray 77 = .ok (.if_icmp .ge 22, 3) := by decide +kernel
theorem dX11_tray_80 : decode cX11_tray 80 = .ok (.aload_n 0, 1) := by decide +kernel
theorem dX11_tray_81 : decode cX11_tray 81 = .ok (.getfield 20, 3) := by decide +kernel
theorem dX11_tray_84 : decode cX11_tray 84 = .ok (.bipush 60, 2) := by decide +kernel
theorem dX11_tray_86 : decode cX11_tray 86 = .ok (.iload_n 1, 1) := by decide +kernel
theorem dX11_tray_87 : decode cX11_tray 87 = .ok (.imul, 1) := by decide +kernel
theorem dX11_tray_88 : decode cX11_tray 88 = .ok (.iload 4, 2) := by decide +kernel
theorem dX11_tray_90 : decode cX11_tray 90 = .ok (.iadd, 1) := by decide +kernel
theorem dX11_tray_91 : decode cX11_tray 91 = .ok (.lconst 0, 1) := by decide +kernel
theorem dX11_tray_92 : decode cX11_tray 92 = .ok (.lastore, 1) := by decide +kernel
theorem dX11_tray_93 : decode cX11_tray 93 = .ok (.iinc 4 1, 3) := by decide +kernel
theorem dX11_tray_96 : decode cX11_tray 96 = .ok (.goto (-22), 3) := by decide +kernel
theorem dX11_tray_99 : decode cX11_tray 99 = .ok (.iconst 1, 1) := by decide +kernel
theorem dX11_tray_100 : decode cX11_tray 100 = .ok (.ireturn, 1) := by decide +kernel
theorem dX11_trayed_0 : decode cX11_trayed 0 = .ok (.iload_n 1, 1) := by decide +kernel
theorem dX11_trayed_1 : decode cX11_trayed 1 = .ok (.ifCond .lt 8, 3) := by decide +kernel
theorem dX11_trayed_4 : decode cX11_trayed 4 = .ok (.iload_n 1, 1) := by decide +kernel
theorem dX11_trayed_5 : decode cX11_trayed 5 = .ok (.iconst 4, 1) := by decide +kernel
theorem dX11_trayed_6 : decode cX11_trayed 6 = .ok (.if_icmp .lt 7, 3) := by decide +kernel
theorem dX11_trayed_9 : decode cX11_trayed 9 = .ok (.iconst 1, 1) := by decide +kernel
theorem dX11_trayed_10 : decode cX11_trayed 10 = .ok (.goto 17, 3) := by decide +kernel
theorem dX11_trayed_13 : decode cX11_trayed 13 = .ok (.aload_n 0, 1) := by decide +kernel
theorem dX11_trayed_14 : decode cX11_trayed 14 = .ok (.getfield 17, 3) := by decide +kernel
theorem dX11_trayed_17 : decode cX11_trayed 17 = .ok (.iload_n 1, 1) := by decide +kernel
theorem dX11_trayed_18 : decode cX11_trayed 18 = .ok (.iaload, 1) := by decide +kernel
theorem dX11_trayed_19 : decode cX11_trayed 19 = .ok (.ifCond .ge 7, 3) := by decide +kernel
theorem dX11_trayed_22 : decode cX11_trayed 22 = .ok (.iconst 3, 1) := by decide +kernel
theorem dX11_trayed_23 : decode cX11_trayed 23 = .ok (.goto 4, 3) := by decide +kernel
theorem dX11_trayed_26 : decode cX11_trayed 26 = .ok (.iconst 0, 1) := by decide +kernel
theorem dX11_trayed_27 : decode cX11_trayed 27 = .ok (.ireturn, 1) := by decide +kernel
theorem dX11_placed_0 : decode cX11_placed 0 = .ok (.aload_n 0, 1) := by decide +kernel
theorem dX11_placed_1 : decode cX11_placed 1 = .ok (.iload_n 1, 1) := by decide +kernel
theorem dX11_placed_2 : decode cX11_placed 2 = .ok (.invokevirtual 90, 3) := by decide +kernel
theorem dX11_placed_5 : decode cX11_placed 5 = .ok (.istore_n 3, 1) := by decide +kernel
theorem dX11_placed_6 : decode cX11_placed 6 = .ok (.iload_n 3, 1) := by decide +kernel
theorem dX11_placed_7 : decode cX11_placed 7 = .ok (.ifCond .le 7, 3) := by decide +kernel
theorem dX11_placed_10 : decode cX11_placed 10 = .ok (.iload_n 3, 1) := by decide +kernel
theorem dX11_placed_11 : decode cX11_placed 11 = .ok (.goto 22, 3) := by decide +kernel
theorem dX11_placed_14 : decode cX11_placed 14 = .ok (.iload_n 2, 1) := by decide +kernel
theorem dX11_placed_15 : decode cX11_placed 15 = .ok (.ifCond .lt 13, 3) := by decide +kernel
theorem dX11_placed_18 : decode cX11_placed 18 = .ok (.iload_n 2, 1) := by decide +kernel
theorem dX11_placed_19 : decode cX11_placed 19 = .ok (.aload_n 0, 1) := by decide +kernel
theorem dX11_placed_20 : decode cX11_placed 20 = .ok (.getfield 17, 3) := by decide +kernel
theorem dX11_placed_23 : decode cX11_placed 23 = .ok (.iload_n 1, 1) := by decide +kernel
theorem dX11_placed_24 : decode cX11_placed 24 = .ok (.iaload, 1) := by decide +kernel
theorem dX11_placed_25 : decode cX11_placed 25 = .ok (.if_icmp .lt 7, 3) := by decide +kernel
theorem dX11_placed_28 : decode cX11_placed 28 = .ok (.iconst 4, 1) := by decide +kernel
theorem dX11_placed_29 : decode cX11_placed 29 = .ok (.goto 4, 3) := by decide +kernel
theorem dX11_placed_32 : decode cX11_placed 32 = .ok (.iconst 0, 1) := by decide +kernel
theorem dX11_placed_33 : decode cX11_placed 33 = .ok (.ireturn, 1) := by decide +kernel
theorem dX11_write_0 : decode cX11_write 0 = .ok (.aload_n 0, 1) := by decide +kernel
theorem dX11_write_1 : decode cX11_write 1 = .ok (.iconst 0, 1) := by decide +kernel
theorem dX11_write_2 : decode cX11_write 2 = .ok (.putfield 71, 3) := by decide +kernel
theorem dX11_write_5 : decode cX11_write 5 = .ok (.aload_n 0, 1) := by decide +kernel
theorem dX11_write_6 : decode cX11_write 6 = .ok (.aload_n 0, 1) := by decide +kernel
theorem dX11_write_7 : decode cX11_write 7 = .ok (.iload_n 1, 1) := by decide +kernel
theorem dX11_write_8 : decode cX11_write 8 = .ok (.iload_n 2, 1) := by decide +kernel
theorem dX11_write_9 : decode cX11_write 9 = .ok (.invokevirtual 94, 3) := by decide +kernel
theorem dX11_write_12 : decode cX11_write 12 = .ok (.putfield 74, 3) := by decide +kernel
theorem dX11_write_15 : decode cX11_write 15 = .ok (.aload_n 0, 1) := by decide +kernel
theorem dX11_write_16 : decode cX11_write 16 = .ok (.getfield 74, 3) := by decide +kernel
theorem dX11_write_19 : decode cX11_write 19 = .ok (.ifCond .le 5, 3) := by decide +kernel
theorem dX11_write_22 : decode cX11_write 22 = .ok (.iconst 0, 1) := by decide +kernel
theorem dX11_write_23 : decode cX11_write 23 = .ok (.ireturn, 1) := by decide +kernel
theorem dX11_write_24 : decode cX11_write 24 = .ok (.aload_n 0, 1) := by decide +kernel
theorem dX11_write_25 : decode cX11_write 25 = .ok (.getfield 20, 3) := by decide +kernel
theorem dX11_write_28 : decode cX11_write 28 = .ok (.bipush 60, 2) := by decide +kernel
theorem dX11_write_30 : decode cX11_write 30 = .ok (.iload_n 1, 1) := by decide +kernel
theorem dX11_write_31 : decode cX11_write 31 = .ok (.imul, 1) := by decide +kernel
theorem dX11_write_32 : decode cX11_write 32 = .ok (.iload_n 2, 1) := by decide +kernel
theorem dX11_write_33 : decode cX11_write 33 = .ok (.iadd, 1) := by decide +kernel
theorem dX11_write_34 : decode cX11_write 34 = .ok (.aload_n 0, 1) := by decide +kernel
theorem dX11_write_35 : decode cX11_write 35 = .ok (.getfield 13, 3) := by decide +kernel
theorem dX11_write_38 : decode cX11_write 38 = .ok (.iload_n 1, 1) := by decide +kernel
theorem dX11_write_39 : decode cX11_write 39 = .ok (.iaload, 1) := by decide +kernel
theorem dX11_write_40 : decode cX11_write 40 = .ok (.lload_n 3, 1) := by decide +kernel
theorem dX11_write_41 : decode cX11_write 41 = .ok (.invokestatic 98, 3) := by decide +kernel
theorem dX11_write_44 : decode cX11_write 44 = .ok (.lastore, 1) := by decide +kernel
theorem dX11_write_45 : decode cX11_write 45 = .ok (.iconst 1, 1) := by decide +kernel
theorem dX11_write_46 : decode cX11_write 46 = .ok (.ireturn, 1) := by decide +kernel
theorem dX11_read_0 : decode cX11_read 0 = .ok (.aload_n 0, 1) := by decide +kernel
theorem dX11_read_1 : decode cX11_read 1 = .ok (.iconst 0, 1) := by decide +kernel
theorem dX11_read_2 : decode cX11_read 2 = .ok (.putfield 71, 3) := by decide +kernel
theorem dX11_read_5 : decode cX11_read 5 = .ok (.aload_n 0, 1) := by decide +kernel
theorem dX11_read_6 : decode cX11_read 6 = .ok (.aload_n 0, 1) := by decide +kernel
theorem dX11_read_7 : decode cX11_read 7 = .ok (.iload_n 1, 1) := by decide +kernel
theorem dX11_read_8 : decode cX11_read 8 = .ok (.iload_n 2, 1) := by decide +kernel
theorem dX11_read_9 : decode cX11_read 9 = .ok (.invokevirtual 94, 3) := by decide +kernel
theorem dX11_read_12 : decode cX11_read 12 = .ok (.putfield 74, 3) := by decide +kernel
theorem dX11_read_15 : decode cX11_read 15 = .ok (.aload_n 0, 1) := by decide +kernel
theorem dX11_read_16 : decode cX11_read 16 = .ok (.getfield 74, 3) := by decide +kernel
theorem dX11_read_19 : decode cX11_read 19 = .ok (.ifCond .le 9, 3) := by decide +kernel
theorem dX11_read_22 : decode cX11_read 22 = .ok (.ldc2_w 102, 3) := by decide +kernel
theorem dX11_read_25 : decode cX11_read 25 = .ok (.goto 14, 3) := by decide +kernel
theorem dX11_read_28 : decode cX11_read 28 = .ok (.aload_n 0, 1) := by decide +kernel
theorem dX11_read_29 : decode cX11_read 29 = .ok (.getfield 20, 3) := by decide +kernel
theorem dX11_read_32 : decode cX11_read 32 = .ok (.bipush 60, 2) := by decide +kernel
theorem dX11_read_34 : decode cX11_read 34 = .ok (.iload_n 1, 1) := by decide +kernel
theorem dX11_read_35 : decode cX11_read 35 = .ok (.imul, 1) := by decide +kernel
theorem dX11_read_36 : decode cX11_read 36 = .ok (.iload_n 2, 1) := by decide +kernel
theorem dX11_read_37 : decode cX11_read 37 = .ok (.iadd, 1) := by decide +kernel
theorem dX11_read_38 : decode cX11_read 38 = .ok (.laload, 1) := by decide +kernel
theorem dX11_read_39 : decode cX11_read 39 = .ok (.lreturn, 1) := by decide +kernel
theorem dX11_pour_0 : decode cX11_pour 0 = .ok (.aload_n 0, 1) := by decide +kernel
theorem dX11_pour_1 : decode cX11_pour 1 = .ok (.iconst 0, 1) := by decide +kernel
theorem dX11_pour_2 : decode cX11_pour 2 = .ok (.putfield 71, 3) := by decide +kernel
theorem dX11_pour_5 : decode cX11_pour 5 = .ok (.aload_n 0, 1) := by decide +kernel
theorem dX11_pour_6 : decode cX11_pour 6 = .ok (.iconst 0, 1) := by decide +kernel
theorem dX11_pour_7 : decode cX11_pour 7 = .ok (.putfield 74, 3) := by decide +kernel
theorem dX11_pour_10 : decode cX11_pour 10 = .ok (.iload_n 1, 1) := by decide +kernel
theorem dX11_pour_11 : decode cX11_pour 11 = .ok (.ifCond .lt 17, 3) := by decide +kernel
theorem dX11_pour_14 : decode cX11_pour 14 = .ok (.iload_n 1, 1) := by decide +kernel
theorem dX11_pour_15 : decode cX11_pour 15 = .ok (.iconst 4, 1) := by decide +kernel
theorem dX11_pour_16 : decode cX11_pour 16 = .ok (.if_icmp .ge 12, 3) := by decide +kernel
theorem dX11_pour_19 : decode cX11_pour 19 = .ok (.iload_n 3, 1) := by decide +kernel
theorem dX11_pour_20 : decode cX11_pour 20 = .ok (.ifCond .lt 8, 3) := by decide +kernel
theorem dX11_pour_23 : decode cX11_pour 23 = .ok (.iload_n 3, 1) := by decide +kernel
theorem dX11_pour_24 : decode cX11_pour 24 = .ok (.iconst 4, 1) := by decide +kernel
theorem dX11_pour_25 : decode cX11_pour 25 = .ok (.if_icmp .lt 9, 3) := by decide +kernel
theorem dX11_pour_28 : decode cX11_pour 28 = .ok (.aload_n 0, 1) := by decide +kernel
theorem dX11_pour_29 : decode cX11_pour 29 = .ok (.iconst 1, 1) := by decide +kernel
theorem dX11_pour_30 : decode cX11_pour 30 = .ok (.invokevirtual 86, 3) := by decide +kernel
theorem dX11_pour_33 : decode cX11_pour 33 = .ok (.ireturn, 1) := by decide +kernel
theorem dX11_pour_34 : decode cX11_pour 34 = .ok (.aload_n 0, 1) := by decide +kernel
theorem dX11_pour_35 : decode cX11_pour 35 = .ok (.getfield 17, 3) := by decide +kernel
theorem dX11_pour_38 : decode cX11_pour 38 = .ok (.iload_n 1, 1) := by decide +kernel
theorem dX11_pour_39 : decode cX11_pour 39 = .ok (.iaload, 1) := by decide +kernel
theorem dX11_pour_40 : decode cX11_pour 40 = .ok (.ifCond .lt 12, 3) := by decide +kernel
theorem dX11_pour_43 : decode cX11_pour 43 = .ok (.aload_n 0, 1) := by decide +kernel
theorem dX11_pour_44 : decode cX11_pour 44 = .ok (.getfield 17, 3) := by decide +kernel
theorem dX11_pour_47 : decode cX11_pour 47 = .ok (.iload_n 3, 1) := by decide +kernel
theorem dX11_pour_48 : decode cX11_pour 48 = .ok (.iaload, 1) := by decide +kernel
theorem dX11_pour_49 : decode cX11_pour 49 = .ok (.ifCond .ge 9, 3) := by decide +kernel
theorem dX11_pour_52 : decode cX11_pour 52 = .ok (.aload_n 0, 1) := by decide +kernel
theorem dX11_pour_53 : decode cX11_pour 53 = .ok (.iconst 3, 1) := by decide +kernel
theorem dX11_pour_54 : decode cX11_pour 54 = .ok (.invokevirtual 86, 3) := by decide +kernel
theorem dX11_pour_57 : decode cX11_pour 57 = .ok (.ireturn, 1) := by decide +kernel
theorem dX11_pour_58 : decode cX11_pour 58 = .ok (.aload_n 0, 1) := by decide +kernel
theorem dX11_pour_59 : decode cX11_pour 59 = .ok (.getfield 13, 3) := by decide +kernel
theorem dX11_pour_62 : decode cX11_pour 62 = .ok (.iload_n 1, 1) := by decide +kernel
theorem dX11_pour_63 : decode cX11_pour 63 = .ok (.iaload, 1) := by decide +kernel
theorem dX11_pour_64 : decode cX11_pour 64 = .ok (.aload_n 0, 1) := by decide +kernel
theorem dX11_pour_65 : decode cX11_pour 65 = .ok (.getfield 13, 3) := by decide +kernel
theorem dX11_pour_68 : decode cX11_pour 68 = .ok (.iload_n 3, 1) := by decide +kernel
theorem dX11_pour_69 : decode cX11_pour 69 = .ok (.iaload, 1) := by decide +kernel
theorem dX11_pour_70 : decode cX11_pour 70 = .ok (.if_icmp .eq 10, 3) := by decide +kernel
theorem dX11_pour_73 : decode cX11_pour 73 = .ok (.aload_n 0, 1) := by decide +kernel
theorem dX11_pour_74 : decode cX11_pour 74 = .ok (.bipush 11, 2) := by decide +kernel
theorem dX11_pour_76 : decode cX11_pour 76 = .ok (.invokevirtual 86, 3) := by decide +kernel
theorem dX11_pour_79 : decode cX11_pour 79 = .ok (.ireturn, 1) := by decide +kernel
theorem dX11_pour_80 : decode cX11_pour 80 = .ok (.iload 5, 2) := by decide +kernel
theorem dX11_pour_82 : decode cX11_pour 82 = .ok (.ifCond .ge 10, 3) := by decide +kernel
theorem dX11_pour_85 : decode cX11_pour 85 = .ok (.aload_n 0, 1) := by decide +kernel
theorem dX11_pour_86 : decode cX11_pour 86 = .ok (.bipush 6, 2) := by decide +kernel
theorem dX11_pour_88 : decode cX11_pour 88 = .ok (.invokevirtual 86, 3) := by decide +kernel
theorem dX11_pour_91 : decode cX11_pour 91 = .ok (.ireturn, 1) := by decide +kernel
theorem dX11_pour_92 : decode cX11_pour 92 = .ok (.iload_n 2, 1) := by decide +kernel
theorem dX11_pour_93 : decode cX11_pour 93 = .ok (.ifCond .lt 43, 3) := by decide +kernel
theorem dX11_pour_96 : decode cX11_pour 96 = .ok (.iload 4, 2) := by decide +kernel
theorem dX11_pour_98 : decode cX11_pour 98 = .ok (.ifCond .lt 38, 3) := by decide +kernel
theorem dX11_pour_101 : decode cX11_pour 101 = .ok (.iload_n 2, 1) := by decide +kernel
theorem dX11_pour_102 : decode cX11_pour 102 = .ok (.i2l, 1) := by decide +kernel
theorem dX11_pour_103 : decode cX11_pour 103 = .ok (.iload 5, 2) := by decide +kernel
theorem dX11_pour_105 : decode cX11_pour 105 = .ok (.i2l, 1) := by decide +kernel
theorem dX11_pour_106 : decode cX11_pour 106 = .ok (.ladd, 1) := by decide +kernel
theorem dX11_pour_107 : decode cX11_pour 107 = .ok (.aload_n 0, 1) := by decide +kernel
theorem dX11_pour_108 : decode cX11_pour 108 = .ok (.getfield 17, 3) := by decide +kernel
theorem dX11_pour_111 : decode cX11_pour 111 = .ok (.iload_n 1, 1) := by decide +kernel
theorem dX11_pour_112 : decode cX11_pour 112 = .ok (.iaload, 1) := by decide +kernel
theorem dX11_pour_113 : decode cX11_pour 113 = .ok (.i2l, 1) := by decide +kernel
theorem dX11_pour_114 : decode cX11_pour 114 = .ok (.lcmp, 1) := by decide +kernel
theorem dX11_pour_115 : decode cX11_pour 115 = .ok (.ifCond .gt 21, 3) := by decide +kernel
theorem dX11_pour_118 : decode cX11_pour 118 = .ok (.iload 4, 2) := by decide +kernel
theorem dX11_pour_120 : decode cX11_pour 120 = .ok (.i2l, 1) := by decide +kernel
theorem dX11_pour_121 : decode cX11_pour 121 = .ok (.iload 5, 2) := by decide +kernel
theorem dX11_pour_123 : decode cX11_pour 123 = .ok (.i2l, 1) := by decide +kernel
theorem dX11_pour_124 : decode cX11_pour 124 = .ok (.ladd, 1) := by decide +kernel
theorem dX11_pour_125 : decode cX11_pour 125 = .ok (.aload_n 0, 1) := by decide +kernel
theorem dX11_pour_126 : decode cX11_pour 126 = .ok (.getfield 17, 3) := by decide +kernel
theorem dX11_pour_129 : decode cX11_pour 129 = .ok (.iload_n 3, 1) := by decide +kernel
theorem dX11_pour_130 : decode cX11_pour 130 = .ok (.iaload, 1) := by decide +kernel
theorem dX11_pour_131 : decode cX11_pour 131 = .ok (.i2l, 1) := by decide +kernel
theorem dX11_pour_132 : decode cX11_pour 132 = .ok (.lcmp, 1) := by decide +kernel
theorem dX11_pour_133 : decode cX11_pour 133 = .ok (.ifCond .le 9, 3) := by decide +kernel
theorem dX11_pour_136 : decode cX11_pour 136 = .ok (.aload_n 0, 1) := by decide +kernel
theorem dX11_pour_137 : decode cX11_pour 137 = .ok (.iconst 4, 1) := by decide +kernel
theorem dX11_pour_138 : decode cX11_pour 138 = .ok (.invokevirtual 86, 3) := by decide +kernel
theorem dX11_pour_141 : decode cX11_pour 141 = .ok (.ireturn, 1) := by decide +kernel
theorem dX11_pour_142 : decode cX11_pour 142 = .ok (.iload_n 2, 1) := by decide +kernel
theorem dX11_pour_143 : decode cX11_pour 143 = .ok (.iload 4, 2) := by decide +kernel
theorem dX11_pour_145 : decode cX11_pour 145 = .ok (.if_icmp .ge 7, 3) := by decide +kernel
theorem dX11_pour_148 : decode cX11_pour 148 = .ok (.iconst 1, 1) := by decide +kernel
theorem dX11_pour_149 : decode cX11_pour 149 = .ok (.goto 4, 3) := by decide +kernel
theorem dX11_pour_152 : decode cX11_pour 152 = .ok (.iconst 0, 1) := by decide +kernel
theorem dX11_pour_153 : decode cX11_pour 153 = .ok (.istore 6, 2) := by decide +kernel
theorem dX11_pour_155 : decode cX11_pour 155 = .ok (.iconst 0, 1) := by decide +kernel
theorem dX11_pour_156 : decode cX11_pour 156 = .ok (.istore 7, 2) := by decide +kernel
theorem dX11_pour_158 : decode cX11_pour 158 = .ok (.iload 7, 2) := by decide +kernel
theorem dX11_pour_160 : decode cX11_pour 160 = .ok (.iload 5, 2) := by decide +kernel
theorem dX11_pour_162 : decode cX11_pour 162 = .ok (.if_icmp .ge 57, 3) := by decide +kernel
theorem dX11_pour_165 : decode cX11_pour 165 = .ok (.iload 6, 2) := by decide +kernel
theorem dX11_pour_167 : decode cX11_pour 167 = .ok (.ifCond .eq 13, 3) := by decide +kernel
theorem dX11_pour_170 : decode cX11_pour 170 = .ok (.iload 5, 2) := by decide +kernel
theorem dX11_pour_172 : decode cX11_pour 172 = .ok (.iconst 1, 1) := by decide +kernel
theorem dX11_pour_173 : decode cX11_pour 173 = .ok (.isub, 1) := by decide +kernel
theorem dX11_pour_174 : decode cX11_pour 174 = .ok (.iload 7, 2) := by decide +kernel
theorem dX11_pour_176 : decode cX11_pour 176 = .ok (.isub, 1) := by decide +kernel
theorem dX11_pour_177 : decode cX11_pour 177 = .ok (.goto 5, 3) := by decide +kernel
theorem dX11_pour_180 : decode cX11_pour 180 = .ok (.iload 7, 2) := by decide +kernel
theorem dX11_pour_182 : decode cX11_pour 182 = .ok (.istore 8, 2) := by decide +kernel
theorem dX11_pour_184 : decode cX11_pour 184 = .ok (.aload_n 0, 1) := by decide +kernel
theorem dX11_pour_185 : decode cX11_pour 185 = .ok (.getfield 20, 3) := by decide +kernel
theorem dX11_pour_188 : decode cX11_pour 188 = .ok (.bipush 60, 2) := by decide +kernel
theorem dX11_pour_190 : decode cX11_pour 190 = .ok (.iload_n 3, 1) := by decide +kernel
theorem dX11_pour_191 : decode cX11_pour 191 = .ok (.imul, 1) := by decide +kernel
theorem dX11_pour_192 : decode cX11_pour 192 = .ok (.iload 4, 2) := by decide +kernel
theorem dX11_pour_194 : decode cX11_pour 194 = .ok (.iadd, 1) := by decide +kernel
theorem dX11_pour_195 : decode cX11_pour 195 = .ok (.iload 8, 2) := by decide +kernel
theorem dX11_pour_197 : decode cX11_pour 197 = .ok (.iadd, 1) := by decide +kernel
theorem dX11_pour_198 : decode cX11_pour 198 = .ok (.aload_n 0, 1) := by decide +kernel
theorem dX11_pour_199 : decode cX11_pour 199 = .ok (.getfield 20, 3) := by decide +kernel
theorem dX11_pour_202 : decode cX11_pour 202 = .ok (.bipush 60, 2) := by decide +kernel
theorem dX11_pour_204 : decode cX11_pour 204 = .ok (.iload_n 1, 1) := by decide +kernel
theorem dX11_pour_205 : decode cX11_pour 205 = .ok (.imul, 1) := by decide +kernel
theorem dX11_pour_206 : decode cX11_pour 206 = .ok (.iload_n 2, 1) := by decide +kernel
theorem dX11_pour_207 : decode cX11_pour 207 = .ok (.iadd, 1) := by decide +kernel
theorem dX11_pour_208 : decode cX11_pour 208 = .ok (.iload 8, 2) := by decide +kernel
theorem dX11_pour_210 : decode cX11_pour 210 = .ok (.iadd, 1) := by decide +kernel
theorem dX11_pour_211 : decode cX11_pour 211 = .ok (.laload, 1) := by decide +kernel
theorem dX11_pour_212 : decode cX11_pour 212 = .ok (.lastore, 1) := by decide +kernel
theorem dX11_pour_213 : decode cX11_pour 213 = .ok (.iinc 7 1, 3) := by decide +kernel
theorem dX11_pour_216 : decode cX11_pour 216 = .ok (.goto (-58), 3) := by decide +kernel
theorem dX11_pour_219 : decode cX11_pour 219 = .ok (.iconst 1, 1) := by decide +kernel
theorem dX11_pour_220 : decode cX11_pour 220 = .ok (.ireturn, 1) := by decide +kernel
theorem dX11_numberOf_0 : decode cX11_numberOf 0 = .ok (.aload_n 0, 1) := by decide +kernel
theorem dX11_numberOf_1 : decode cX11_numberOf 1 = .ok (.getfield 20, 3) := by decide +kernel
theorem dX11_numberOf_4 : decode cX11_numberOf 4 = .ok (.bipush 60, 2) := by decide +kernel
theorem dX11_numberOf_6 : decode cX11_numberOf 6 = .ok (.iload_n 1, 1) := by decide +kernel
theorem dX11_numberOf_7 : decode cX11_numberOf 7 = .ok (.imul, 1) := by decide +kernel
theorem dX11_numberOf_8 : decode cX11_numberOf 8 = .ok (.iload_n 2, 1) := by decide +kernel
theorem dX11_numberOf_9 : decode cX11_numberOf 9 = .ok (.iadd, 1) := by decide +kernel
theorem dX11_numberOf_10 : decode cX11_numberOf 10 = .ok (.laload, 1) := by decide +kernel
theorem dX11_numberOf_11 : decode cX11_numberOf 11 = .ok (.lreturn, 1) := by decide +kernel
theorem dX11_isTray_0 : decode cX11_isTray 0 = .ok (.iload_n 1, 1) := by decide +kernel
theorem dX11_isTray_1 : decode cX11_isTray 1 = .ok (.i2l, 1) := by decide +kernel
theorem dX11_isTray_2 : decode cX11_isTray 2 = .ok (.lconst 0, 1) := by decide +kernel
theorem dX11_isTray_3 : decode cX11_isTray 3 = .ok (.ldc2_w 104, 3) := by decide +kernel
theorem dX11_isTray_6 : decode cX11_isTray 6 = .ok (.invokestatic 106, 3) := by decide +kernel
theorem dX11_isTray_9 : decode cX11_isTray 9 = .ok (.ireturn, 1) := by decide +kernel
theorem dX11_has_0 : decode cX11_has 0 = .ok (.iload_n 0, 1) := by decide +kernel
theorem dX11_has_1 : decode cX11_has 1 = .ok (.iload_n 1, 1) := by decide +kernel
theorem dX11_has_2 : decode cX11_has 2 = .ok (.ishr, 1) := by decide +kernel
theorem dX11_has_3 : decode cX11_has 3 = .ok (.iconst 1, 1) := by decide +kernel
theorem dX11_has_4 : decode cX11_has 4 = .ok (.iand, 1) := by decide +kernel
theorem dX11_has_5 : decode cX11_has 5 = .ok (.iconst 1, 1) := by decide +kernel
theorem dX11_has_6 : decode cX11_has 6 = .ok (.if_icmp .ne 7, 3) := by decide +kernel
theorem dX11_has_9 : decode cX11_has 9 = .ok (.iconst 1, 1) := by decide +kernel
theorem dX11_has_10 : decode cX11_has 10 = .ok (.goto 4, 3) := by decide +kernel
theorem dX11_has_13 : decode cX11_has 13 = .ok (.iconst 0, 1) := by decide +kernel
theorem dX11_has_14 : decode cX11_has 14 = .ok (.ireturn, 1) := by decide +kernel
theorem dX11_sizeOf_0 : decode cX11_sizeOf 0 = .ok (.iconst 0, 1) := by decide +kernel
theorem dX11_sizeOf_1 : decode cX11_sizeOf 1 = .ok (.istore_n 1, 1) := by decide +kernel
theorem dX11_sizeOf_2 : decode cX11_sizeOf 2 = .ok (.iconst 0, 1) := by decide +kernel
theorem dX11_sizeOf_3 : decode cX11_sizeOf 3 = .ok (.istore_n 2, 1) := by decide +kernel
theorem dX11_sizeOf_4 : decode cX11_sizeOf 4 = .ok (.iload_n 2, 1) := by decide +kernel
theorem dX11_sizeOf_5 : decode cX11_sizeOf 5 = .ok (.bipush 10, 2) := by decide +kernel
theorem dX11_sizeOf_7 : decode cX11_sizeOf 7 = .ok (.if_icmp .ge 25, 3) := by decide +kernel
theorem dX11_sizeOf_10 : decode cX11_sizeOf 10 = .ok (.iload_n 1, 1) := by decide +kernel
theorem dX11_sizeOf_11 : decode cX11_sizeOf 11 = .ok (.iload_n 0, 1) := by decide +kernel
theorem dX11_sizeOf_12 : decode cX11_sizeOf 12 = .ok (.iload_n 2, 1) := by decide +kernel
theorem dX11_sizeOf_13 : decode cX11_sizeOf 13 = .ok (.invokestatic 110, 3) := by decide +kernel
theorem dX11_sizeOf_16 : decode cX11_sizeOf 16 = .ok (.ifCond .eq 7, 3) := by decide +kernel
theorem dX11_sizeOf_19 : decode cX11_sizeOf 19 = .ok (.iconst 1, 1) := by decide +kernel
theorem dX11_sizeOf_20 : decode cX11_sizeOf 20 = .ok (.goto 4, 3) := by decide +kernel
theorem dX11_sizeOf_23 : decode cX11_sizeOf 23 = .ok (.iconst 0, 1) := by decide +kernel
theorem dX11_sizeOf_24 : decode cX11_sizeOf 24 = .ok (.iadd, 1) := by decide +kernel
theorem dX11_sizeOf_25 : decode cX11_sizeOf 25 = .ok (.istore_n 1, 1) := by decide +kernel
theorem dX11_sizeOf_26 : decode cX11_sizeOf 26 = .ok (.iinc 2 1, 3) := by decide +kernel
theorem dX11_sizeOf_29 : decode cX11_sizeOf 29 = .ok (.goto (-25), 3) := by decide +kernel
theorem dX11_sizeOf_32 : decode cX11_sizeOf 32 = .ok (.iload_n 1, 1) := by decide +kernel
theorem dX11_sizeOf_33 : decode cX11_sizeOf 33 = .ok (.ireturn, 1) := by decide +kernel
theorem dX11_look2_0 : decode cX11_look2 0 = .ok (.iload_n 1, 1) := by decide +kernel
theorem dX11_look2_1 : decode cX11_look2 1 = .ok (.aload_n 0, 1) := by decide +kernel
theorem dX11_look2_2 : decode cX11_look2 2 = .ok (.getfield 114, 3) := by decide +kernel
theorem dX11_look2_5 : decode cX11_look2 5 = .ok (.if_icmp .ge 16, 3) := by decide +kernel
theorem dX11_look2_8 : decode cX11_look2 8 = .ok (.aload_n 0, 1) := by decide +kernel
theorem dX11_look2_9 : decode cX11_look2 9 = .ok (.getfield 24, 3) := by decide +kernel
theorem dX11_look2_12 : decode cX11_look2 12 = .ok (.iload_n 1, 1) := by decide +kernel
theorem dX11_look2_13 : decode cX11_look2 13 = .ok (.baload, 1) := by decide +kernel
theorem dX11_look2_14 : decode cX11_look2 14 = .ok (.sipush 255, 3) := by decide +kernel
theorem dX11_look2_17 : decode cX11_look2 17 = .ok (.iand, 1) := by decide +kernel
theorem dX11_look2_18 : decode cX11_look2 18 = .ok (.goto 4, 3) := by decide +kernel
theorem dX11_look2_21 : decode cX11_look2 21 = .ok (.iconst 0, 1) := by decide +kernel
theorem dX11_look2_22 : decode cX11_look2 22 = .ok (.ireturn, 1) := by decide +kernel
theorem dX11_isLetter_0 : decode cX11_isLetter 0 = .ok (.iload_n 0, 1) := by decide +kernel
theorem dX11_isLetter_1 : decode cX11_isLetter 1 = .ok (.bipush 97, 2) := by decide +kernel
theorem dX11_isLetter_3 : decode cX11_isLetter 3 = .ok (.if_icmp .lt 13, 3) := by decide +kernel
theorem dX11_isLetter_6 : decode cX11_isLetter 6 = .ok (.iload_n 0, 1) := by decide +kernel
theorem dX11_isLetter_7 : decode cX11_isLetter 7 = .ok (.bipush 122, 2) := by decide +kernel
theorem dX11_isLetter_9 : decode cX11_isLetter 9 = .ok (.if_icmp .gt 7, 3) := by decide +kernel
theorem dX11_isLetter_12 : decode cX11_isLetter 12 = .ok (.iconst 1, 1) := by decide +kernel
theorem dX11_isLetter_13 : decode cX11_isLetter 13 = .ok (.goto 4, 3) := by decide +kernel
theorem dX11_isLetter_16 : decode cX11_isLetter 16 = .ok (.iconst 0, 1) := by decide +kernel
theorem dX11_isLetter_17 : decode cX11_isLetter 17 = .ok (.ireturn, 1) := by decide +kernel
theorem dX11_isDigit_0 : decode cX11_isDigit 0 = .ok (.iload_n 0, 1) := by decide +kernel
theorem dX11_isDigit_1 : decode cX11_isDigit 1 = .ok (.bipush 48, 2) := by decide +kernel
theorem dX11_isDigit_3 : decode cX11_isDigit 3 = .ok (.if_icmp .lt 13, 3) := by decide +kernel
theorem dX11_isDigit_6 : decode cX11_isDigit 6 = .ok (.iload_n 0, 1) := by decide +kernel
theorem dX11_isDigit_7 : decode cX11_isDigit 7 = .ok (.bipush 57, 2) := by decide +kernel
theorem dX11_isDigit_9 : decode cX11_isDigit 9 = .ok (.if_icmp .gt 7, 3) := by decide +kernel
theorem dX11_isDigit_12 : decode cX11_isDigit 12 = .ok (.iconst 1, 1) := by decide +kernel
theorem dX11_isDigit_13 : decode cX11_isDigit 13 = .ok (.goto 4, 3) := by decide +kernel
theorem dX11_isDigit_16 : decode cX11_isDigit 16 = .ok (.iconst 0, 1) := by decide +kernel
theorem dX11_isDigit_17 : decode cX11_isDigit 17 = .ok (.ireturn, 1) := by decide +kernel
theorem dX11_isSignByte_0 : decode cX11_isSignByte 0 = .ok (.iload_n 1, 1) := by decide +kernel
theorem dX11_isSignByte_1 : decode cX11_isSignByte 1 = .ok (.bipush 59, 2) := by decide +kernel
theorem dX11_isSignByte_3 : decode cX11_isSignByte 3 = .ok (.if_icmp .eq 21, 3) := by decide +kernel
theorem dX11_isSignByte_6 : decode cX11_isSignByte 6 = .ok (.iload_n 1, 1) := by decide +kernel
theorem dX11_isSignByte_7 : decode cX11_isSignByte 7 = .ok (.bipush 60, 2) := by decide +kernel
theorem dX11_isSignByte_9 : decode cX11_isSignByte 9 = .ok (.if_icmp .eq 15, 3) := by decide +kernel
theorem dX11_isSignByte_12 : decode cX11_isSignByte 12 = .ok (.iload_n 1, 1) := by decide +kernel
theorem dX11_isSignByte_13 : decode cX11_isSignByte 13 = .ok (.bipush 62, 2) := by decide +kernel
theorem dX11_isSignByte_15 : decode cX11_isSignByte 15 = .ok (.if_icmp .eq 9, 3) := by decide +kernel
theorem dX11_isSignByte_18 : decode cX11_isSignByte 18 = .ok (.iload_n 1, 1) := by decide +kernel
theorem dX11_isSignByte_19 : decode cX11_isSignByte 19 = .ok (.bipush 61, 2) := by decide +kernel
theorem dX11_isSignByte_21 : decode cX11_isSignByte 21 = .ok (.if_icmp .ne 7, 3) := by decide +kernel
theorem dX11_isSignByte_24 : decode cX11_isSignByte 24 = .ok (.iconst 1, 1) := by decide +kernel
theorem dX11_isSignByte_25 : decode cX11_isSignByte 25 = .ok (.goto 4, 3) := by decide +kernel
theorem dX11_isSignByte_28 : decode cX11_isSignByte 28 = .ok (.iconst 0, 1) := by decide +kernel
theorem dX11_isSignByte_29 : decode cX11_isSignByte 29 = .ok (.ireturn, 1) := by decide +kernel
theorem dX11_next_0 : decode cX11_next 0 = .ok (.aload_n 0, 1) := by decide +kernel
theorem dX11_next_1 : decode cX11_next 1 = .ok (.aload_n 0, 1) := by decide +kernel
theorem dX11_next_2 : decode cX11_next 2 = .ok (.getfield 117, 3) := by decide +kernel
theorem dX11_next_5 : decode cX11_next 5 = .ok (.putfield 120, 3) := by decide +kernel
theorem dX11_next_8 : decode cX11_next 8 = .ok (.aload_n 0, 1) := by decide +kernel
theorem dX11_next_9 : decode cX11_next 9 = .ok (.getfield 120, 3) := by decide +kernel
theorem dX11_next_12 : decode cX11_next 12 = .ok (.aload_n 0, 1) := by decide +kernel
theorem dX11_next_13 : decode cX11_next 13 = .ok (.getfield 114, 3) := by decide +kernel
theorem dX11_next_16 : decode cX11_next 16 = .ok (.if_icmp .ge 42, 3) := by decide +kernel
theorem dX11_next_19 : decode cX11_next 19 = .ok (.aload_n 0, 1) := by decide +kernel
theorem dX11_next_20 : decode cX11_next 20 = .ok (.aload_n 0, 1) := by decide +kernel
theorem dX11_next_21 : decode cX11_next 21 = .ok (.getfield 120, 3) := by decide +kernel
theorem dX11_next_24 : decode cX11_next 24 = .ok (.invokevirtual 123, 3) := by decide +kernel
theorem dX11_next_27 : decode cX11_next 27 = .ok (.bipush 10, 2) := by decide +kernel
theorem dX11_next_29 : decode cX11_next 29 = .ok (.if_icmp .eq 16, 3) := by decide +kernel
theorem dX11_next_32 : decode cX11_next 32 = .ok (.aload_n 0, 1) := by decide +kernel
theorem dX11_next_33 : decode cX11_next 33 = .ok (.aload_n 0, 1) := by decide +kernel
theorem dX11_next_34 : decode cX11_next 34 = .ok (.getfield 120, 3) := by decide +kernel
theorem dX11_next_37 : decode cX11_next 37 = .ok (.invokevirtual 123, 3) := by decide +kernel
theorem dX11_next_40 : decode cX11_next 40 = .ok (.bipush 32, 2) := by decide +kernel
theorem dX11_next_42 : decode cX11_next 42 = .ok (.if_icmp .ne 16, 3) := by decide +kernel
theorem dX11_next_45 : decode cX11_next 45 = .ok (.aload_n 0, 1) := by decide +kernel
theorem dX11_next_46 : decode cX11_next 46 = .ok (.dup, 1) := by decide +kernel
theorem dX11_next_47 : decode cX11_next 47 = .ok (.getfield 120, 3) := by decide +kernel
theorem dX11_next_50 : decode cX11_next 50 = .ok (.iconst 1, 1) := by decide +kernel
theorem dX11_next_51 : decode cX11_next 51 = .ok (.iadd, 1) := by decide +kernel
theorem dX11_next_52 : decode cX11_next 52 = .ok (.putfield 120, 3) := by decide +kernel
theorem dX11_next_55 : decode cX11_next 55 = .ok (.goto (-47), 3) := by decide +kernel
theorem dX11_next_58 : decode cX11_next 58 = .ok (.aload_n 0, 1) := by decide +kernel
theorem dX11_next_59 : decode cX11_next 59 = .ok (.aload_n 0, 1) := by decide +kernel
theorem dX11_next_60 : decode cX11_next 60 = .ok (.getfield 120, 3) := by decide +kernel
theorem dX11_next_63 : decode cX11_next 63 = .ok (.putfield 117, 3) := by decide +kernel
theorem dX11_next_66 : decode cX11_next 66 = .ok (.aload_n 0, 1) := by decide +kernel
theorem dX11_next_67 : decode cX11_next 67 = .ok (.getfield 120, 3) := by decide +kernel
theorem dX11_next_70 : decode cX11_next 70 = .ok (.aload_n 0, 1) := by decide +kernel
theorem dX11_next_71 : decode cX11_next 71 = .ok (.getfield 114, 3) := by decide +kernel
theorem dX11_next_74 : decode cX11_next 74 = .ok (.if_icmp .lt 9, 3) := by decide +kernel
theorem dX11_next_77 : decode cX11_next 77 = .ok (.aload_n 0, 1) := by decide +kernel
theorem dX11_next_78 : decode cX11_next 78 = .ok (.iconst 0, 1) := by decide +kernel
theorem dX11_next_79 : decode cX11_next 79 = .ok (.putfield 126, 3) := by decide +kernel
theorem dX11_next_82 : decode cX11_next 82 = .ok (.return_, 1) := by decide +kernel
theorem dX11_next_83 : decode cX11_next 83 = .ok (.aload_n 0, 1) := by decide +kernel
theorem dX11_next_84 : decode cX11_next 84 = .ok (.aload_n 0, 1) := by decide +kernel
theorem dX11_next_85 : decode cX11_next 85 = .ok (.getfield 120, 3) := by decide +kernel
theorem dX11_next_88 : decode cX11_next 88 = .ok (.invokevirtual 123, 3) := by decide +kernel
theorem dX11_next_91 : decode cX11_next 91 = .ok (.istore_n 1, 1) := by decide +kernel
theorem dX11_next_92 : decode cX11_next 92 = .ok (.iload_n 1, 1) := by decide +kernel
theorem dX11_next_93 : decode cX11_next 93 = .ok (.invokestatic 129, 3) := by decide +kernel
theorem dX11_next_96 : decode cX11_next 96 = .ok (.ifCond .eq 102, 3) := by decide +kernel
theorem dX11_next_99 : decode cX11_next 99 = .ok (.aload_n 0, 1) := by decide +kernel
theorem dX11_next_100 : decode cX11_next 100 = .ok (.iconst 1, 1) := by decide +kernel
theorem dX11_next_101 : decode cX11_next 101 = .ok (.putfield 126, 3) := by decide +kernel
theorem dX11_next_104 : decode cX11_next 104 = .ok (.aload_n 0, 1) := by decide +kernel
theorem dX11_next_105 : decode cX11_next 105 = .ok (.lconst 0, 1) := by decide +kernel
theorem dX11_next_106 : decode cX11_next 106 = .ok (.putfield 132, 3) := by decide +kernel
theorem dX11_next_109 : decode cX11_next 109 = .ok (.aload_n 0, 1) := by decide +kernel
theorem dX11_next_110 : decode cX11_next 110 = .ok (.aload_n 0, 1) := by decide +kernel
theorem dX11_next_111 : decode cX11_next 111 = .ok (.getfield 117, 3) := by decide +kernel
theorem dX11_next_114 : decode cX11_next 114 = .ok (.invokevirtual 123, 3) := by decide +kernel
theorem dX11_next_117 : decode cX11_next 117 = .ok (.invokestatic 129, 3) := by decide +kernel
theorem dX11_next_120 : decode cX11_next 120 = .ok (.ifCond .eq 62, 3) := by decide +kernel
theorem dX11_next_123 : decode cX11_next 123 = .ok (.aload_n 0, 1) := by decide +kernel
theorem dX11_next_124 : decode cX11_next 124 = .ok (.aload_n 0, 1) := by decide +kernel
theorem dX11_next_125 : decode cX11_next 125 = .ok (.getfield 117, 3) := by decide +kernel
theorem dX11_next_128 : decode cX11_next 128 = .ok (.aload_n 0, 1) := by decide +kernel
theorem dX11_next_129 : decode cX11_next 129 = .ok (.getfield 120, 3) := by decide +kernel
theorem dX11_next_132 : decode cX11_next 132 = .ok (.isub, 1) := by decide +kernel
theorem dX11_next_133 : decode cX11_next 133 = .ok (.bipush 8, 2) := by decide +kernel
theorem dX11_next_135 : decode cX11_next 135 = .ok (.if_icmp .ge 28, 3) := by decide +kernel
theorem dX11_next_138 : decode cX11_next 138 = .ok (.aload_n 0, 1) := by decide +kernel
theorem dX11_next_139 : decode cX11_next 139 = .ok (.getfield 132, 3) := by decide +kernel
theorem dX11_next_142 : decode cX11_next 142 = .ok (.ldc2_w 135, 3) := by decide +kernel
theorem dX11_next_145 : decode cX11_next 145 = .ok (.lmul, 1) := by decide +kernel
theorem dX11_next_146 : decode cX11_next 146 = .ok (.aload_n 0, 1) := by decide +kernel
theorem dX11_next_147 : decode cX11_next 147 = .ok (.aload_n 0, 1) := by decide +kernel
theorem dX11_next_148 : decode cX11_next 148 = .ok (.getfield 117, 3) := by decide +kernel
theorem dX11_next_151 : decode cX11_next 151 = .ok (.invokevirtual 123, 3) := by decide +kernel
theorem dX11_next_154 : decode cX11_next 154 = .ok (.i2l, 1) := by decide +kernel
theorem dX11_next_155 : decode cX11_next 155 = .ok (.ladd, 1) := by decide +kernel
theorem dX11_next_156 : decode cX11_next 156 = .ok (.ldc2_w 137, 3) := by decide +kernel
theorem dX11_next_159 : decode cX11_next 159 = .ok (.lsub, 1) := by decide +kernel
theorem dX11_next_160 : decode cX11_next 160 = .ok (.goto 6, 3) := by decide +kernel
theorem dX11_next_163 : decode cX11_next 163 = .ok (.ldc2_w 102, 3) := by decide +kernel
theorem dX11_next_166 : decode cX11_next 166 = .ok (.putfield 132, 3) := by decide +kernel
theorem dX11_next_169 : decode cX11_next 169 = .ok (.aload_n 0, 1) := by decide +kernel
theorem dX11_next_170 : decode cX11_next 170 = .ok (.dup, 1) := by decide +kernel
theorem dX11_next_171 : decode cX11_next 171 = .ok (.getfield 117, 3) := by decide +kernel
theorem dX11_next_174 : decode cX11_next 174 = .ok (.iconst 1, 1) := by decide +kernel
theorem dX11_next_175 : decode cX11_next 175 = .ok (.iadd, 1) := by decide +kernel
theorem dX11_next_176 : decode cX11_next 176 = .ok (.putfield 117, 3) := by decide +kernel
theorem dX11_next_179 : decode cX11_next 179 = .ok (.goto (-70), 3) := by decide +kernel
theorem dX11_next_182 : decode cX11_next 182 = .ok (.aload_n 0, 1) := by decide +kernel
theorem dX11_next_183 : decode cX11_next 183 = .ok (.aload_n 0, 1) := by decide +kernel
theorem dX11_next_184 : decode cX11_next 184 = .ok (.getfield 117, 3) := by decide +kernel
theorem dX11_next_187 : decode cX11_next 187 = .ok (.aload_n 0, 1) := by decide +kernel
theorem dX11_next_188 : decode cX11_next 188 = .ok (.getfield 120, 3) := by decide +kernel
theorem dX11_next_191 : decode cX11_next 191 = .ok (.isub, 1) := by decide +kernel
theorem dX11_next_192 : decode cX11_next 192 = .ok (.putfield 139, 3) := by decide +kernel
theorem dX11_next_195 : decode cX11_next 195 = .ok (.goto 135, 3) := by decide +kernel
theorem dX11_next_198 : decode cX11_next 198 = .ok (.iload_n 1, 1) := by decide +kernel
theorem dX11_next_199 : decode cX11_next 199 = .ok (.invokestatic 142, 3) := by decide +kernel
theorem dX11_next_202 : decode cX11_next 202 = .ok (.ifCond .eq 96, 3) := by decide +kernel
theorem dX11_next_205 : decode cX11_next 205 = .ok (.aload_n 0, 1) := by decide +kernel
theorem dX11_next_206 : decode cX11_next 206 = .ok (.iconst 0, 1) := by decide +kernel
theorem dX11_next_207 : decode cX11_next 207 = .ok (.putfield 145, 3) := by decide +kernel
theorem dX11_next_210 : decode cX11_next 210 = .ok (.aload_n 0, 1) := by decide +kernel
theorem dX11_next_211 : decode cX11_next 211 = .ok (.aload_n 0, 1) := by decide +kernel
theorem dX11_next_212 : decode cX11_next 212 = .ok (.getfield 117, 3) := by decide +kernel
theorem dX11_next_215 : decode cX11_next 215 = .ok (.invokevirtual 123, 3) := by decide +kernel
theorem dX11_next_218 : decode cX11_next 218 = .ok (.invokestatic 142, 3) := by decide +kernel
theorem dX11_next_221 : decode cX11_next 221 = .ok (.ifCond .eq 52, 3) := by decide +kernel
theorem dX11_next_224 : decode cX11_next 224 = .ok (.aload_n 0, 1) := by decide +kernel
theorem dX11_next_225 : decode cX11_next 225 = .ok (.getfield 117, 3) := by decide +kernel
theorem dX11_next_228 : decode cX11_next 228 = .ok (.aload_n 0, 1) := by decide +kernel
theorem dX11_next_229 : decode cX11_next 229 = .ok (.getfield 120, 3) := by decide +kernel
theorem dX11_next_232 : decode cX11_next 232 = .ok (.isub, 1) := by decide +kernel
