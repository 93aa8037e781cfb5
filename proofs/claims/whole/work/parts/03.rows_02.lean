set_option maxRecDepth 20000 in
theorem gX8_readWeeks_X5_needStop : GoodIn wsX8_readWeeks (wsV RX8 55 RX5 yX5_needStop wsX5_needStop) := goodIn_app (goodIn_of _ (by decide +kernel)) ggX8_readWeeks_X5_needStop
set_option maxRecDepth 20000 in
theorem ggX8_readWeeks_X5_fail : GoodIn wsX8_readWeeks wsX5_fail := goodIn_r _ [59, 20, 30, 27, 21, 144, 145, 146, 147, 148, 149, 150, 151, 152, 153, 154, 155] (by decide +kernel) (by decide +kernel)
set_option maxRecDepth 20000 in
theorem gX8_readWeeks_X5_fail : GoodIn wsX8_readWeeks (wsV RX8 59 RX5 yX5_fail wsX5_fail) := goodIn_app (goodIn_of _ (by decide +kernel)) ggX8_readWeeks_X5_fail
theorem dX8_readWeeks_0 : decode cX8_readWeeks 0 = .ok (.aload 4, 2) := by decide +kernel
theorem dX8_readWeeks_2 : decode cX8_readWeeks 2 = .ok (.invokevirtual 19, 3) := by decide +kernel
theorem dX8_readWeeks_5 : decode cX8_readWeeks 5 = .ok (.aload 4, 2) := by decide +kernel
theorem dX8_readWeeks_7 : decode cX8_readWeeks 7 = .ok (.iconst 1, 1) := by decide +kernel
theorem dX8_readWeeks_8 : decode cX8_readWeeks 8 = .ok (.putfield 24, 3) := by decide +kernel
theorem dX8_readWeeks_11 : decode cX8_readWeeks 11 = .ok (.aload_n 0, 1) := by decide +kernel
theorem dX8_readWeeks_12 : decode cX8_readWeeks 12 = .ok (.iconst 0, 1) := by decide +kernel
theorem dX8_readWeeks_13 : decode cX8_readWeeks 13 = .ok (.putfield 15, 3) := by decide +kernel
theorem dX8_readWeeks_16 : decode cX8_readWeeks 16 = .ok (.aload_n 1, 1) := by decide +kernel
theorem dX8_readWeeks_17 : decode cX8_readWeeks 17 = .ok (.iload_n 2, 1) := by decide +kernel
theorem dX8_readWeeks_18 : decode cX8_readWeeks 18 = .ok (.invokevirtual 28, 3) := by decide +kernel
theorem dX8_readWeeks_21 : decode cX8_readWeeks 21 = .ok (.iconst 0, 1) := by decide +kernel
theorem dX8_readWeeks_22 : decode cX8_readWeeks 22 = .ok (.istore 5, 2) := by decide +kernel
theorem dX8_readWeeks_24 : decode cX8_readWeeks 24 = .ok (.iload 5, 2) := by decide +kernel
theorem dX8_readWeeks_26 : decode cX8_readWeeks 26 = .ok (.iload_n 2, 1) := by decide +kernel
theorem dX8_readWeeks_27 : decode cX8_readWeeks 27 = .ok (.if_icmp .gt 79, 3) := by decide +kernel
theorem dX8_readWeeks_30 : decode cX8_readWeeks 30 = .ok (.aload_n 1, 1) := by decide +kernel
theorem dX8_readWeeks_31 : decode cX8_readWeeks 31 = .ok (.getfield 34, 3) := by decide +kernel
theorem dX8_readWeeks_34 : decode cX8_readWeeks 34 = .ok (.ifCond .ne 72, 3) := by decide +kernel
theorem dX8_readWeeks_37 : decode cX8_readWeeks 37 = .ok (.aload_n 1, 1) := by decide +kernel
theorem dX8_readWeeks_38 : decode cX8_readWeeks 38 = .ok (.getfield 37, 3) := by decide +kernel
theorem dX8_readWeeks_41 : decode cX8_readWeeks 41 = .ok (.ifCond .eq 65, 3) := by decide +kernel
theorem dX8_readWeeks_44 : decode cX8_readWeeks 44 = .ok (.aload_n 1, 1) := by decide +kernel
theorem dX8_readWeeks_45 : decode cX8_readWeeks 45 = .ok (.invokevirtual 40, 3) := by decide +kernel
theorem dX8_readWeeks_48 : decode cX8_readWeeks 48 = .ok (.bipush 28, 2) := by decide +kernel
theorem dX8_readWeeks_50 : decode cX8_readWeeks 50 = .ok (.if_icmp .ne 13, 3) := by decide +kernel
theorem dX8_readWeeks_53 : decode cX8_readWeeks 53 = .ok (.aload_n 0, 1) := by decide +kernel
theorem dX8_readWeeks_54 : decode cX8_readWeeks 54 = .ok (.aload_n 1, 1) := by decide +kernel
theorem dX8_readWeeks_55 : decode cX8_readWeeks 55 = .ok (.aload 4, 2) := by decide +kernel
theorem dX8_readWeeks_57 : decode cX8_readWeeks 57 = .ok (.invokevirtual 44, 3) := by decide +kernel
theorem dX8_readWeeks_60 : decode cX8_readWeeks 60 = .ok (.goto 28, 3) := by decide +kernel
theorem dX8_readWeeks_63 : decode cX8_readWeeks 63 = .ok (.aload_n 0, 1) := by decide +kernel
theorem dX8_readWeeks_64 : decode cX8_readWeeks 64 = .ok (.aload_n 1, 1) := by decide +kernel
theorem dX8_readWeeks_65 : decode cX8_readWeeks 65 = .ok (.aload 4, 2) := by decide +kernel
theorem dX8_readWeeks_67 : decode cX8_readWeeks 67 = .ok (.invokevirtual 48, 3) := by decide +kernel
theorem dX8_readWeeks_70 : decode cX8_readWeeks 70 = .ok (.ifCond .eq 17, 3) := by decide +kernel
theorem dX8_readWeeks_73 : decode cX8_readWeeks 73 = .ok (.aload_n 1, 1) := by decide +kernel
theorem dX8_readWeeks_74 : decode cX8_readWeeks 74 = .ok (.aload_n 3, 1) := by decide +kernel
theorem dX8_readWeeks_75 : decode cX8_readWeeks 75 = .ok (.aload 4, 2) := by decide +kernel
theorem dX8_readWeeks_77 : decode cX8_readWeeks 77 = .ok (.invokestatic 51, 3) := by decide +kernel
theorem dX8_readWeeks_80 : decode cX8_readWeeks 80 = .ok (.ifCond .eq 7, 3) := by decide +kernel
theorem dX8_readWeeks_83 : decode cX8_readWeeks 83 = .ok (.iconst 1, 1) := by decide +kernel
theorem dX8_readWeeks_84 : decode cX8_readWeeks 84 = .ok (.goto 4, 3) := by decide +kernel
theorem dX8_readWeeks_87 : decode cX8_readWeeks 87 = .ok (.iconst 0, 1) := by decide +kernel
theorem dX8_readWeeks_88 : decode cX8_readWeeks 88 = .ok (.istore 6, 2) := by decide +kernel
theorem dX8_readWeeks_90 : decode cX8_readWeeks 90 = .ok (.iload 6, 2) := by decide +kernel
theorem dX8_readWeeks_92 : decode cX8_readWeeks 92 = .ok (.ifCond .eq 8, 3) := by decide +kernel
theorem dX8_readWeeks_95 : decode cX8_readWeeks 95 = .ok (.aload_n 1, 1) := by decide +kernel
theorem dX8_readWeeks_96 : decode cX8_readWeeks 96 = .ok (.invokevirtual 55, 3) := by decide +kernel
theorem dX8_readWeeks_99 : decode cX8_readWeeks 99 = .ok (.pop, 1) := by decide +kernel
theorem dX8_readWeeks_100 : decode cX8_readWeeks 100 = .ok (.iinc 5 1, 3) := by decide +kernel
theorem dX8_readWeeks_103 : decode cX8_readWeeks 103 = .ok (.goto (-79), 3) := by decide +kernel
theorem dX8_readWeeks_106 : decode cX8_readWeeks 106 = .ok (.aload_n 0, 1) := by decide +kernel
theorem dX8_readWeeks_107 : decode cX8_readWeeks 107 = .ok (.getfield 15, 3) := by decide +kernel
theorem dX8_readWeeks_110 : decode cX8_readWeeks 110 = .ok (.ifCond .le 9, 3) := by decide +kernel
theorem dX8_readWeeks_113 : decode cX8_readWeeks 113 = .ok (.aload_n 1, 1) := by decide +kernel
theorem dX8_readWeeks_114 : decode cX8_readWeeks 114 = .ok (.iconst 2, 1) := by decide +kernel
theorem dX8_readWeeks_115 : decode cX8_readWeeks 115 = .ok (.invokevirtual 59, 3) := by decide +kernel
theorem dX8_readWeeks_118 : decode cX8_readWeeks 118 = .ok (.pop, 1) := by decide +kernel
theorem dX8_readWeeks_119 : decode cX8_readWeeks 119 = .ok (.return_, 1) := by decide +kernel
set_option maxRecDepth 20000 in
theorem ggX8_closes_X5_fail : GoodIn wsX8_closes wsX5_fail := goodIn_r _ [8, 9, 10, 11, 12, 59, 60, 61, 62, 63, 64, 65, 66, 67, 68, 69, 70] (by decide +kernel) (by decide +kernel)
set_option maxRecDepth 20000 in
theorem gX8_closes_X5_fail : GoodIn wsX8_closes (wsV RX8 59 RX5 yX5_fail wsX5_fail) := goodIn_app (goodIn_of _ (by decide +kernel)) ggX8_closes_X5_fail
set_option maxRecDepth 20000 in
theorem ggX8_closes_X7_addRow : GoodIn wsX8_closes wsX7_addRow := goodIn_r _ [17, 18, 19, 20, 21, 22, 23, 24, 50, 51, 52, 53, 54, 55, 56, 57, 58] (by decide +kernel) (by decide +kernel)
set_option maxRecDepth 20000 in
theorem gX8_closes_X7_addRow : GoodIn wsX8_closes (wsV RX8 63 RX7 yX7_addRow wsX7_addRow) := goodIn_app (goodIn_of _ (by decide +kernel)) ggX8_closes_X7_addRow
set_option maxRecDepth 20000 in
theorem ggX8_closes_X5_advance : GoodIn wsX8_closes wsX5_advance := goodIn_r _ [28, 29, 30, 31, 11, 32, 33, 10, 34, 35, 36, 7, 37, 38, 39, 40, 41, 42, 43, 44, 45, 46, 47, 59, 60, 61, 62, 63, 64, 65, 66, 67, 68, 69, 70] (by decide +kernel) (by decide +kernel)
set_option maxRecDepth 20000 in
theorem gX8_closes_X5_advance : GoodIn wsX8_closes (wsV RX8 70 RX5 yX5_advance wsX5_advance) := goodIn_app (goodIn_of _ (by decide +kernel)) ggX8_closes_X5_advance
theorem dX8_closes_0 : decode cX8_closes 0 = .ok (.aload_n 0, 1) := by decide +kernel
theorem dX8_closes_1 : decode cX8_closes 1 = .ok (.getfield 15, 3) := by decide +kernel
theorem dX8_closes_4 : decode cX8_closes 4 = .ok (.ifCond .gt 9, 3) := by decide +kernel
theorem dX8_closes_7 : decode cX8_closes 7 = .ok (.aload_n 1, 1) := by decide +kernel
theorem dX8_closes_8 : decode cX8_closes 8 = .ok (.iconst 2, 1) := by decide +kernel
theorem dX8_closes_9 : decode cX8_closes 9 = .ok (.invokevirtual 59, 3) := by decide +kernel
theorem dX8_closes_12 : decode cX8_closes 12 = .ok (.ireturn, 1) := by decide +kernel
theorem dX8_closes_13 : decode cX8_closes 13 = .ok (.aload_n 0, 1) := by decide +kernel
theorem dX8_closes_14 : decode cX8_closes 14 = .ok (.dup, 1) := by decide +kernel
theorem dX8_closes_15 : decode cX8_closes 15 = .ok (.getfield 15, 3) := by decide +kernel
theorem dX8_closes_18 : decode cX8_closes 18 = .ok (.iconst 1, 1) := by decide +kernel
theorem dX8_closes_19 : decode cX8_closes 19 = .ok (.isub, 1) := by decide +kernel
theorem dX8_closes_20 : decode cX8_closes 20 = .ok (.putfield 15, 3) := by decide +kernel
theorem dX8_closes_23 : decode cX8_closes 23 = .ok (.aload_n 0, 1) := by decide +kernel
theorem dX8_closes_24 : decode cX8_closes 24 = .ok (.getfield 9, 3) := by decide +kernel
theorem dX8_closes_27 : decode cX8_closes 27 = .ok (.aload_n 0, 1) := by decide +kernel
theorem dX8_closes_28 : decode cX8_closes 28 = .ok (.getfield 15, 3) := by decide +kernel
theorem dX8_closes_31 : decode cX8_closes 31 = .ok (.iaload, 1) := by decide +kernel
theorem dX8_closes_32 : decode cX8_closes 32 = .ok (.istore_n 3, 1) := by decide +kernel
theorem dX8_closes_33 : decode cX8_closes 33 = .ok (.aload_n 2, 1) := by decide +kernel
theorem dX8_closes_34 : decode cX8_closes 34 = .ok (.bipush 28, 2) := by decide +kernel
theorem dX8_closes_36 : decode cX8_closes 36 = .ok (.invokevirtual 63, 3) := by decide +kernel
theorem dX8_closes_39 : decode cX8_closes 39 = .ok (.istore 4, 2) := by decide +kernel
theorem dX8_closes_41 : decode cX8_closes 41 = .ok (.aload_n 2, 1) := by decide +kernel
theorem dX8_closes_42 : decode cX8_closes 42 = .ok (.getfield 67, 3) := by decide +kernel
theorem dX8_closes_45 : decode cX8_closes 45 = .ok (.iload 4, 2) := by decide +kernel
theorem dX8_closes_47 : decode cX8_closes 47 = .ok (.iload_n 3, 1) := by decide +kernel
theorem dX8_closes_48 : decode cX8_closes 48 = .ok (.iastore, 1) := by decide +kernel
theorem dX8_closes_49 : decode cX8_closes 49 = .ok (.aload_n 2, 1) := by decide +kernel
theorem dX8_closes_50 : decode cX8_closes 50 = .ok (.getfield 67, 3) := by decide +kernel
theorem dX8_closes_53 : decode cX8_closes 53 = .ok (.iload_n 3, 1) := by decide +kernel
theorem dX8_closes_54 : decode cX8_closes 54 = .ok (.iload 4, 2) := by decide +kernel
theorem dX8_closes_56 : decode cX8_closes 56 = .ok (.iastore, 1) := by decide +kernel
theorem dX8_closes_57 : decode cX8_closes 57 = .ok (.aload_n 1, 1) := by decide +kernel
theorem dX8_closes_58 : decode cX8_closes 58 = .ok (.invokevirtual 70, 3) := by decide +kernel
theorem dX8_closes_61 : decode cX8_closes 61 = .ok (.iconst 1, 1) := by decide +kernel
theorem dX8_closes_62 : decode cX8_closes 62 = .ok (.ireturn, 1) := by decide +kernel
set_option maxRecDepth 20000 in
theorem ggX8_begins_X5_word : GoodIn wsX8_begins wsX5_word := goodIn_r _ [8, 9, 10, 63, 64, 65, 66, 67, 68, 69, 70, 71, 72, 73, 74] (by decide +kernel) (by decide +kernel)
set_option maxRecDepth 20000 in
theorem gX8_begins_X5_word : GoodIn wsX8_begins (wsV RX8 40 RX5 yX5_word wsX5_word) := goodIn_app (goodIn_of _ (by decide +kernel)) ggX8_begins_X5_word
set_option maxRecDepth 20000 in
theorem ggX8_begins_X5_fail : GoodIn wsX8_begins wsX5_fail := goodIn_r _ [14, 15, 9, 16, 17, 63, 64, 65, 66, 67, 68, 69, 70, 71, 72, 73, 74] (by decide +kernel) (by decide +kernel)
set_option maxRecDepth 20000 in
theorem gX8_begins_X5_fail : GoodIn wsX8_begins (wsV RX8 59 RX5 yX5_fail wsX5_fail) := goodIn_app (goodIn_of _ (by decide +kernel)) ggX8_begins_X5_fail
set_option maxRecDepth 20000 in
theorem ggX8_begins_X7_addRow : GoodIn wsX8_begins wsX7_addRow := goodIn_r _ [22, 23, 24, 25, 26, 27, 28, 29, 52, 53, 54, 55, 56, 57, 58, 59, 60] (by decide +kernel) (by decide +kernel)
set_option maxRecDepth 20000 in
theorem gX8_begins_X7_addRow : GoodIn wsX8_begins (wsV RX8 63 RX7 yX7_addRow wsX7_addRow) := goodIn_app (goodIn_of _ (by decide +kernel)) ggX8_begins_X7_addRow
set_option maxRecDepth 20000 in
theorem ggX8_begins_X5_advance : GoodIn wsX8_begins wsX5_advance := goodIn_r _ [33, 34, 35, 36, 16, 10, 37, 9, 38, 39, 40, 7, 41, 42, 43, 44, 45, 46, 47, 48, 49, 50, 51, 63, 64, 65, 66, 67, 68, 69, 70, 71, 72, 73, 74] (by decide +kernel) (by decide +kernel)
set_option maxRecDepth 20000 in
theorem gX8_begins_X5_advance : GoodIn wsX8_begins (wsV RX8 70 RX5 yX5_advance wsX5_advance) := goodIn_app (goodIn_of _ (by decide +kernel)) ggX8_begins_X5_advance
theorem dX8_begins_0 : decode cX8_begins 0 = .ok (.aload_n 1, 1) := by decide +kernel
theorem dX8_begins_1 : decode cX8_begins 1 = .ok (.invokevirtual 40, 3) := by decide +kernel
theorem dX8_begins_4 : decode cX8_begins 4 = .ok (.istore_n 3, 1) := by decide +kernel
theorem dX8_begins_5 : decode cX8_begins 5 = .ok (.iload_n 3, 1) := by decide +kernel
theorem dX8_begins_6 : decode cX8_begins 6 = .ok (.bipush 25, 2) := by decide +kernel
theorem dX8_begins_8 : decode cX8_begins 8 = .ok (.if_icmp .eq 9, 3) := by decide +kernel
theorem dX8_begins_11 : decode cX8_begins 11 = .ok (.iload_n 3, 1) := by decide +kernel
theorem dX8_begins_12 : decode cX8_begins 12 = .ok (.bipush 27, 2) := by decide +kernel
theorem dX8_begins_14 : decode cX8_begins 14 = .ok (.if_icmp .ne 7, 3) := by decide +kernel
theorem dX8_begins_17 : decode cX8_begins 17 = .ok (.iconst 1, 1) := by decide +kernel
theorem dX8_begins_18 : decode cX8_begins 18 = .ok (.goto 4, 3) := by decide +kernel
theorem dX8_begins_21 : decode cX8_begins 21 = .ok (.iconst 0, 1) := by decide +kernel
theorem dX8_begins_22 : decode cX8_begins 22 = .ok (.istore 4, 2) := by decide +kernel
theorem dX8_begins_24 : decode cX8_begins 24 = .ok (.iload 4, 2) := by decide +kernel
theorem dX8_begins_26 : decode cX8_begins 26 = .ok (.ifCond .ne 27, 3) := by decide +kernel
theorem dX8_begins_29 : decode cX8_begins 29 = .ok (.iload_n 3, 1) := by decide +kernel
theorem dX8_begins_30 : decode cX8_begins 30 = .ok (.bipush 29, 2) := by decide +kernel
theorem dX8_begins_32 : decode cX8_begins 32 = .ok (.if_icmp .eq 21, 3) := by decide +kernel
theorem dX8_begins_35 : decode cX8_begins 35 = .ok (.iload_n 3, 1) := by decide +kernel
theorem dX8_begins_36 : decode cX8_begins 36 = .ok (.bipush 18, 2) := by decide +kernel
theorem dX8_begins_38 : decode cX8_begins 38 = .ok (.if_icmp .lt 9, 3) := by decide +kernel
theorem dX8_begins_41 : decode cX8_begins 41 = .ok (.iload_n 3, 1) := by decide +kernel
theorem dX8_begins_42 : decode cX8_begins 42 = .ok (.bipush 24, 2) := by decide +kernel
theorem dX8_begins_44 : decode cX8_begins 44 = .ok (.if_icmp .le 9, 3) := by decide +kernel
theorem dX8_begins_47 : decode cX8_begins 47 = .ok (.aload_n 1, 1) := by decide +kernel
theorem dX8_begins_48 : decode cX8_begins 48 = .ok (.iconst 2, 1) := by decide +kernel
theorem dX8_begins_49 : decode cX8_begins 49 = .ok (.invokevirtual 59, 3) := by decide +kernel
theorem dX8_begins_52 : decode cX8_begins 52 = .ok (.ireturn, 1) := by decide +kernel
theorem dX8_begins_53 : decode cX8_begins 53 = .ok (.aload_n 2, 1) := by decide +kernel
theorem dX8_begins_54 : decode cX8_begins 54 = .ok (.getfield 73, 3) := by decide +kernel
theorem dX8_begins_57 : decode cX8_begins 57 = .ok (.bipush 30, 2) := by decide +kernel
theorem dX8_begins_59 : decode cX8_begins 59 = .ok (.if_icmp .lt 10, 3) := by decide +kernel
theorem dX8_begins_62 : decode cX8_begins 62 = .ok (.aload_n 1, 1) := by decide +kernel
theorem dX8_begins_63 : decode cX8_begins 63 = .ok (.bipush 6, 2) := by decide +kernel
theorem dX8_begins_65 : decode cX8_begins 65 = .ok (.invokevirtual 59, 3) := by decide +kernel
theorem dX8_begins_68 : decode cX8_begins 68 = .ok (.ireturn, 1) := by decide +kernel
theorem dX8_begins_69 : decode cX8_begins 69 = .ok (.iload 4, 2) := by decide +kernel
theorem dX8_begins_71 : decode cX8_begins 71 = .ok (.ifCond .eq 18, 3) := by decide +kernel
theorem dX8_begins_74 : decode cX8_begins 74 = .ok (.aload_n 0, 1) := by decide +kernel
theorem dX8_begins_75 : decode cX8_begins 75 = .ok (.getfield 15, 3) := by decide +kernel
theorem dX8_begins_78 : decode cX8_begins 78 = .ok (.iconst 3, 1) := by decide +kernel
theorem dX8_begins_79 : decode cX8_begins 79 = .ok (.if_icmp .lt 10, 3) := by decide +kernel
theorem dX8_begins_82 : decode cX8_begins 82 = .ok (.aload_n 1, 1) := by decide +kernel
theorem dX8_begins_83 : decode cX8_begins 83 = .ok (.bipush 7, 2) := by decide +kernel
theorem dX8_begins_85 : decode cX8_begins 85 = .ok (.invokevirtual 59, 3) := by decide +kernel
theorem dX8_begins_88 : decode cX8_begins 88 = .ok (.ireturn, 1) := by decide +kernel
theorem dX8_begins_89 : decode cX8_begins 89 = .ok (.aload_n 2, 1) := by decide +kernel
theorem dX8_begins_90 : decode cX8_begins 90 = .ok (.iload_n 3, 1) := by decide +kernel
theorem dX8_begins_91 : decode cX8_begins 91 = .ok (.invokevirtual 63, 3) := by decide +kernel
theorem dX8_begins_94 : decode cX8_begins 94 = .ok (.istore 5, 2) := by decide +kernel
theorem dX8_begins_96 : decode cX8_begins 96 = .ok (.aload_n 2, 1) := by decide +kernel
theorem dX8_begins_97 : decode cX8_begins 97 = .ok (.dup, 1) := by decide +kernel
theorem dX8_begins_98 : decode cX8_begins 98 = .ok (.getfield 73, 3) := by decide +kernel
theorem dX8_begins_101 : decode cX8_begins 101 = .ok (.iconst 1, 1) := by decide +kernel
theorem dX8_begins_102 : decode cX8_begins 102 = .ok (.iadd, 1) := by decide +kernel
theorem dX8_begins_103 : decode cX8_begins 103 = .ok (.putfield 73, 3) := by decide +kernel
theorem dX8_begins_106 : decode cX8_begins 106 = .ok (.iload 4, 2) := by decide +kernel
theorem dX8_begins_108 : decode cX8_begins 108 = .ok (.ifCond .eq 24, 3) := by decide +kernel
theorem dX8_begins_111 : decode cX8_begins 111 = .ok (.aload_n 0, 1) := by decide +kernel
theorem dX8_begins_112 : decode cX8_begins 112 = .ok (.getfield 9, 3) := by decide +kernel
theorem dX8_begins_115 : decode cX8_begins 115 = .ok (.aload_n 0, 1) := by decide +kernel
theorem dX8_begins_116 : decode cX8_begins 116 = .ok (.getfield 15, 3) := by decide +kernel
theorem dX8_begins_119 : decode cX8_begins 119 = .ok (.iload 5, 2) := by decide +kernel
theorem dX8_begins_121 : decode cX8_begins 121 = .ok (.iastore, 1) := by decide +kernel
theorem dX8_begins_122 : decode cX8_begins 122 = .ok (.aload_n 0, 1) := by decide +kernel
theorem dX8_begins_123 : decode cX8_begins 123 = .ok (.dup, 1) := by decide +kernel
theorem dX8_begins_124 : decode cX8_begins 124 = .ok (.getfield 15, 3) := by decide +kernel
theorem dX8_begins_127 : decode cX8_begins 127 = .ok (.iconst 1, 1) := by decide +kernel
theorem dX8_begins_128 : decode cX8_begins 128 = .ok (.iadd, 1) := by decide +kernel
theorem dX8_begins_129 : decode cX8_begins 129 = .ok (.putfield 15, 3) := by decide +kernel
theorem dX8_begins_132 : decode cX8_begins 132 = .ok (.aload_n 1, 1) := by decide +kernel
theorem dX8_begins_133 : decode cX8_begins 133 = .ok (.invokevirtual 70, 3) := by decide +kernel
theorem dX8_begins_136 : decode cX8_begins 136 = .ok (.iconst 1, 1) := by decide +kernel
theorem dX8_begins_137 : decode cX8_begins 137 = .ok (.ireturn, 1) := by decide +kernel
set_option maxRecDepth 20000 in
theorem ggX8_readRest_X5_needKnown : GoodIn wsX8_readRest wsX5_needKnown := goodIn_r _ [10, 11, 12, 13, 9, 14, 15, 16, 17, 18, 19, 20, 21, 22, 23, 24, 25, 26, 27, 28, 29, 30, 31, 32, 33, 34, 35, 36, 37, 38, 39, 40, 41, 42, 43, 44, 45, 46, 47, 48, 49, 50, 51, 52, 53, 54, 55, 56, 57, 98, 99, 100, 101, 102, 103, 104, 105, 106, 107, 108, 109, 110, 111, 112, 113, 114, 115, 116, 117, 118, 119, 120, 121, 122] (by decide +kernel) (by decide +kernel)
set_option maxRecDepth 20000 in
theorem gX8_readRest_X5_needKnown : GoodIn wsX8_readRest (wsV RX8 82 RX5 yX5_needKnown wsX5_needKnown) := goodIn_app (goodIn_of _ (by decide +kernel)) ggX8_readRest_X5_needKnown
set_option maxRecDepth 20000 in
theorem ggX8_readRest_X5_needNumber : GoodIn wsX8_readRest wsX5_needNumber := goodIn_r _ [61, 21, 22, 16, 23, 24, 25, 9, 26, 27, 28, 29, 37, 38, 39, 40, 41, 42, 43, 15, 44, 45, 46, 47, 48, 49, 50, 51, 52, 53, 54, 55, 56, 57, 98, 99, 100, 101, 102, 103, 104, 105, 106, 107, 108, 109] (by decide +kernel) (by decide +kernel)
set_option maxRecDepth 20000 in
theorem gX8_readRest_X5_needNumber : GoodIn wsX8_readRest (wsV RX8 86 RX5 yX5_needNumber wsX5_needNumber) := goodIn_app (goodIn_of _ (by decide +kernel)) ggX8_readRest_X5_needNumber
set_option maxRecDepth 20000 in
theorem ggX8_readRest_X8_readTest : GoodIn wsX8_readRest wsX8_readTest := goodIn_r _ [65, 3, 66, 4, 5, 67, 68, 69, 70, 9, 71, 21, 22, 72, 24, 25, 26, 27, 28, 29, 73, 38, 39, 40, 41, 42, 43, 15, 44, 45, 46, 47, 48, 49, 50, 51, 52, 53, 54, 55, 56, 57, 6, 7, 8, 10, 11, 12, 13, 14, 16, 17, 18, 19, 20, 23, 30, 31, 32, 33, 34, 35, 36, 37, 74, 75, 76, 77, 58, 59, 60, 61, 78, 79, 80, 81, 82, 83, 84, 85, 86, 87, 89, 90, 91, 92, 93, 94, 95, 96, 97, 98, 99, 100, 101, 102, 103, 104, 105, 106, 107, 108, 109, 110, 111, 112, 113, 114, 115, 116, 117, 118, 119, 120, 121, 122] (by decide +kernel) (by decide +kernel)
set_option maxRecDepth 20000 in
theorem gX8_readRest_X8_readTest : GoodIn wsX8_readRest (va_wsS RX8 90 yX8_readTest wsX8_readTest) := goodIn_app (goodIn_of _ (by decide +kernel)) ggX8_readRest_X8_readTest
set_option maxRecDepth 20000 in
theorem ggX8_readRest_X5_takeWord : GoodIn wsX8_readRest wsX5_takeWord := goodIn_r _ [85, 86, 69, 70, 9, 71, 21, 22, 37, 38, 39, 40, 41, 42, 43, 28, 15, 44, 45, 46, 47, 48, 49, 50, 51, 52, 53, 54, 55, 56, 57, 98, 99, 100, 101, 102, 103, 104, 105, 106, 107, 108, 109] (by decide +kernel) (by decide +kernel)
set_option maxRecDepth 20000 in
theorem gX8_readRest_X5_takeWord : GoodIn wsX8_readRest (wsV RX8 103 RX5 yX5_takeWord wsX5_takeWord) := goodIn_app (goodIn_of _ (by decide +kernel)) ggX8_readRest_X5_takeWord
theorem dX8_readRest_0 : decode cX8_readRest 0 = .ok (.aload_n 2, 1) := by decide +kernel
theorem dX8_readRest_1 : decode cX8_readRest 1 = .ok (.getfield 76, 3) := by decide +kernel
theorem dX8_readRest_4 : decode cX8_readRest 4 = .ok (.iconst 1, 1) := by decide +kernel
theorem dX8_readRest_5 : decode cX8_readRest 5 = .ok (.isub, 1) := by decide +kernel
theorem dX8_readRest_6 : decode cX8_readRest 6 = .ok (.istore_n 3, 1) := by decide +kernel
theorem dX8_readRest_7 : decode cX8_readRest 7 = .ok (.iconst 1, 1) := by decide +kernel
theorem dX8_readRest_8 : decode cX8_readRest 8 = .ok (.istore 4, 2) := by decide +kernel
theorem dX8_readRest_10 : decode cX8_readRest 10 = .ok (.aload_n 2, 1) := by decide +kernel
theorem dX8_readRest_11 : decode cX8_readRest 11 = .ok (.getfield 79, 3) := by decide +kernel
theorem dX8_readRest_14 : decode cX8_readRest 14 = .ok (.iload_n 3, 1) := by decide +kernel
theorem dX8_readRest_15 : decode cX8_readRest 15 = .ok (.iaload, 1) := by decide +kernel
theorem dX8_readRest_16 : decode cX8_readRest 16 = .ok (.tableswitch 110 18 27 #[56, 67, 110, 91, 91, 91, 110, 102, 110, 79], 56) := by decide +kernel
theorem dX8_readRest_72 : decode cX8_readRest 72 = .ok (.aload_n 0, 1) := by decide +kernel
theorem dX8_readRest_73 : decode cX8_readRest 73 = .ok (.aload_n 1, 1) := by decide +kernel
theorem dX8_readRest_74 : decode cX8_readRest 74 = .ok (.iconst 1, 1) := by decide +kernel
theorem dX8_readRest_75 : decode cX8_readRest 75 = .ok (.invokevirtual 82, 3) := by decide +kernel
theorem dX8_readRest_78 : decode cX8_readRest 78 = .ok (.istore 4, 2) := by decide +kernel
theorem dX8_readRest_80 : decode cX8_readRest 80 = .ok (.goto 46, 3) := by decide +kernel
theorem dX8_readRest_83 : decode cX8_readRest 83 = .ok (.aload_n 0, 1) := by decide +kernel
theorem dX8_readRest_84 : decode cX8_readRest 84 = .ok (.iconst 1, 1) := by decide +kernel
theorem dX8_readRest_85 : decode cX8_readRest 85 = .ok (.bipush 99, 2) := by decide +kernel
theorem dX8_readRest_87 : decode cX8_readRest 87 = .ok (.invokevirtual 86, 3) := by decide +kernel
theorem dX8_readRest_90 : decode cX8_readRest 90 = .ok (.istore 4, 2) := by decide +kernel
theorem dX8_readRest_92 : decode cX8_readRest 92 = .ok (.goto 34, 3) := by decide +kernel
theorem dX8_readRest_95 : decode cX8_readRest 95 = .ok (.aload_n 0, 1) := by decide +kernel
theorem dX8_readRest_96 : decode cX8_readRest 96 = .ok (.iconst 1, 1) := by decide +kernel
theorem dX8_readRest_97 : decode cX8_readRest 97 = .ok (.bipush 99, 2) := by decide +kernel
theorem dX8_readRest_99 : decode cX8_readRest 99 = .ok (.invokevirtual 86, 3) := by decide +kernel
theorem dX8_readRest_102 : decode cX8_readRest 102 = .ok (.istore 4, 2) := by decide +kernel
theorem dX8_readRest_104 : decode cX8_readRest 104 = .ok (.goto 22, 3) := by decide +kernel
theorem dX8_readRest_107 : decode cX8_readRest 107 = .ok (.aload_n 0, 1) := by decide +kernel
theorem dX8_readRest_108 : decode cX8_readRest 108 = .ok (.aload_n 1, 1) := by decide +kernel
theorem dX8_readRest_109 : decode cX8_readRest 109 = .ok (.iconst 0, 1) := by decide +kernel
theorem dX8_readRest_110 : decode cX8_readRest 110 = .ok (.invokevirtual 82, 3) := by decide +kernel
theorem dX8_readRest_113 : decode cX8_readRest 113 = .ok (.istore 4, 2) := by decide +kernel
theorem dX8_readRest_115 : decode cX8_readRest 115 = .ok (.goto 11, 3) := by decide +kernel
theorem dX8_readRest_118 : decode cX8_readRest 118 = .ok (.aload_n 0, 1) := by decide +kernel
theorem dX8_readRest_119 : decode cX8_readRest 119 = .ok (.aload_n 1, 1) := by decide +kernel
theorem dX8_readRest_120 : decode cX8_readRest 120 = .ok (.aload_n 2, 1) := by decide +kernel
theorem dX8_readRest_121 : decode cX8_readRest 121 = .ok (.iload_n 3, 1) := by decide +kernel
theorem dX8_readRest_122 : decode cX8_readRest 122 = .ok (.invokestatic 90, 3) := by decide +kernel
theorem dX8_readRest_125 : decode cX8_readRest 125 = .ok (.ireturn, 1) := by decide +kernel
theorem dX8_readRest_126 : decode cX8_readRest 126 = .ok (.aload_n 2, 1) := by decide +kernel
theorem dX8_readRest_127 : decode cX8_readRest 127 = .ok (.getfield 94, 3) := by decide +kernel
theorem dX8_readRest_130 : decode cX8_readRest 130 = .ok (.iload_n 3, 1) := by decide +kernel
theorem dX8_readRest_131 : decode cX8_readRest 131 = .ok (.aload_n 0, 1) := by decide +kernel
theorem dX8_readRest_132 : decode cX8_readRest 132 = .ok (.getfield 97, 3) := by decide +kernel
theorem dX8_readRest_135 : decode cX8_readRest 135 = .ok (.iastore, 1) := by decide +kernel
theorem dX8_readRest_136 : decode cX8_readRest 136 = .ok (.iload 4, 2) := by decide +kernel
theorem dX8_readRest_138 : decode cX8_readRest 138 = .ok (.ifCond .eq 33, 3) := by decide +kernel
theorem dX8_readRest_141 : decode cX8_readRest 141 = .ok (.aload_n 2, 1) := by decide +kernel
theorem dX8_readRest_142 : decode cX8_readRest 142 = .ok (.getfield 79, 3) := by decide +kernel
theorem dX8_readRest_145 : decode cX8_readRest 145 = .ok (.iload_n 3, 1) := by decide +kernel
theorem dX8_readRest_146 : decode cX8_readRest 146 = .ok (.iaload, 1) := by decide +kernel
theorem dX8_readRest_147 : decode cX8_readRest 147 = .ok (.bipush 23, 2) := by decide +kernel
theorem dX8_readRest_149 : decode cX8_readRest 149 = .ok (.if_icmp .ne 22, 3) := by decide +kernel
theorem dX8_readRest_152 : decode cX8_readRest 152 = .ok (.aload_n 2, 1) := by decide +kernel
theorem dX8_readRest_153 : decode cX8_readRest 153 = .ok (.getfield 100, 3) := by decide +kernel
theorem dX8_readRest_156 : decode cX8_readRest 156 = .ok (.iload_n 3, 1) := by decide +kernel
theorem dX8_readRest_157 : decode cX8_readRest 157 = .ok (.aload_n 0, 1) := by decide +kernel
theorem dX8_readRest_158 : decode cX8_readRest 158 = .ok (.iconst 2, 1) := by decide +kernel
theorem dX8_readRest_159 : decode cX8_readRest 159 = .ok (.invokevirtual 103, 3) := by decide +kernel
theorem dX8_readRest_162 : decode cX8_readRest 162 = .ok (.ifCond .eq 7, 3) := by decide +kernel
theorem dX8_readRest_165 : decode cX8_readRest 165 = .ok (.iconst (-1), 1) := by decide +kernel
theorem dX8_readRest_166 : decode cX8_readRest 166 = .ok (.goto 4, 3) := by decide +kernel
theorem dX8_readRest_169 : decode cX8_readRest 169 = .ok (.iconst 1, 1) := by decide +kernel
theorem dX8_readRest_170 : decode cX8_readRest 170 = .ok (.iastore, 1) := by decide +kernel
theorem dX8_readRest_171 : decode cX8_readRest 171 = .ok (.iload 4, 2) := by decide +kernel
theorem dX8_readRest_173 : decode cX8_readRest 173 = .ok (.ireturn, 1) := by decide +kernel
set_option maxRecDepth 20000 in
theorem ggX8_readTest_X5_word : GoodIn wsX8_readTest wsX5_word := goodIn_r _ [10, 11, 12, 91, 92, 93, 94, 95, 96, 97, 98, 99, 100, 101, 102] (by decide +kernel) (by decide +kernel)
set_option maxRecDepth 20000 in
theorem gX8_readTest_X5_word : GoodIn wsX8_readTest (wsV RX8 40 RX5 yX5_word wsX5_word) := goodIn_app (goodIn_of _ (by decide +kernel)) ggX8_readTest_X5_word
set_option maxRecDepth 20000 in
theorem ggX8_readTest_X5_fail : GoodIn wsX8_readTest wsX5_fail := goodIn_r _ [16, 17, 11, 18, 19, 91, 92, 93, 94, 95, 96, 97, 98, 99, 100, 101, 102] (by decide +kernel) (by decide +kernel)
set_option maxRecDepth 20000 in
theorem gX8_readTest_X5_fail : GoodIn wsX8_readTest (wsV RX8 59 RX5 yX5_fail wsX5_fail) := goodIn_app (goodIn_of _ (by decide +kernel)) ggX8_readTest_X5_fail
set_option maxRecDepth 20000 in
theorem ggX8_readTest_X5_advance : GoodIn wsX8_readTest wsX5_advance := goodIn_r _ [23, 24, 25, 26, 18, 12, 27, 11, 28, 29, 30, 9, 31, 32, 33, 34, 35, 36, 37, 38, 39, 40, 41, 91, 92, 93, 94, 95, 96, 97, 98, 99, 100, 101, 102] (by decide +kernel) (by decide +kernel)
set_option maxRecDepth 20000 in
theorem gX8_readTest_X5_advance : GoodIn wsX8_readTest (wsV RX8 70 RX5 yX5_advance wsX5_advance) := goodIn_app (goodIn_of _ (by decide +kernel)) ggX8_readTest_X5_advance
set_option maxRecDepth 20000 in
theorem ggX8_readTest_X5_needKnown : GoodIn wsX8_readTest wsX5_needKnown := goodIn_r _ [45, 46, 47, 48, 9, 49, 27, 50, 51, 52, 53, 54, 11, 12, 55, 14, 15, 16, 17, 18, 19, 56, 57, 58, 59, 60, 61, 62, 63, 21, 22, 23, 24, 25, 26, 28, 29, 30, 31, 32, 33, 34, 35, 36, 37, 38, 39, 40, 41, 91, 92, 93, 94, 95, 96, 97, 98, 99, 100, 101, 102, 103, 104, 105, 106, 107, 108, 109, 110, 111, 112, 113, 114, 115] (by decide +kernel) (by decide +kernel)
set_option maxRecDepth 20000 in
theorem gX8_readTest_X5_needKnown : GoodIn wsX8_readTest (wsV RX8 82 RX5 yX5_needKnown wsX5_needKnown) := goodIn_app (goodIn_of _ (by decide +kernel)) ggX8_readTest_X5_needKnown
set_option maxRecDepth 20000 in
theorem ggX8_readTest_X5_needCompares : GoodIn wsX8_readTest wsX5_needCompares := goodIn_r _ [67, 11, 12, 50, 55, 14, 15, 9, 16, 17, 18, 19, 63, 21, 22, 23, 24, 25, 26, 27, 28, 29, 30, 31, 32, 33, 34, 35, 36, 37, 38, 39, 40, 41, 91, 92, 93, 94, 95, 96, 97, 98, 99, 100, 101, 102] (by decide +kernel) (by decide +kernel)
set_option maxRecDepth 20000 in
theorem gX8_readTest_X5_needCompares : GoodIn wsX8_readTest (wsV RX8 109 RX5 yX5_needCompares wsX5_needCompares) := goodIn_app (goodIn_of _ (by decide +kernel)) ggX8_readTest_X5_needCompares
set_option maxRecDepth 20000 in
theorem ggX8_readTest_X5_needNumber : GoodIn wsX8_readTest wsX5_needNumber := goodIn_r _ [71, 11, 12, 50, 55, 14, 15, 9, 16, 17, 18, 19, 63, 21, 22, 23, 24, 25, 26, 27, 28, 29, 30, 31, 32, 33, 34, 35, 36, 37, 38, 39, 40, 41, 91, 92, 93, 94, 95, 96, 97, 98, 99, 100, 101, 102] (by decide +kernel) (by decide +kernel)
set_option maxRecDepth 20000 in
theorem gX8_readTest_X5_needNumber : GoodIn wsX8_readTest (wsV RX8 86 RX5 yX5_needNumber wsX5_needNumber) := goodIn_app (goodIn_of _ (by decide +kernel)) ggX8_readTest_X5_needNumber
set_option maxRecDepth 20000 in
theorem ggX8_readTest_X5_needEither : GoodIn wsX8_readTest wsX5_needEither := goodIn_r _ [75, 50, 76, 77, 78, 9, 79, 80, 7, 8, 10, 11, 12, 63, 21, 22, 23, 24, 25, 26, 18, 27, 28, 29, 30, 31, 32, 33, 34, 35, 36, 37, 38, 39, 40, 41, 81, 69, 70, 71, 55, 14, 15, 16, 17, 19, 91, 92, 93, 94, 95, 96, 97, 98, 99, 100, 101, 102] (by decide +kernel) (by decide +kernel)
set_option maxRecDepth 20000 in
theorem gX8_readTest_X5_needEither : GoodIn wsX8_readTest (wsV RX8 112 RX5 yX5_needEither wsX5_needEither) := goodIn_app (goodIn_of _ (by decide +kernel)) ggX8_readTest_X5_needEither
theorem dX8_readTest_0 : decode cX8_readTest 0 = .ok (.aload_n 0, 1) := by decide +kernel
theorem dX8_readTest_1 : decode cX8_readTest 1 = .ok (.invokevirtual 40, 3) := by decide +kernel
theorem dX8_readTest_4 : decode cX8_readTest 4 = .ok (.istore 4, 2) := by decide +kernel
theorem dX8_readTest_6 : decode cX8_readTest 6 = .ok (.iload 4, 2) := by decide +kernel
theorem dX8_readTest_8 : decode cX8_readTest 8 = .ok (.bipush 26, 2) := by decide +kernel
theorem dX8_readTest_10 : decode cX8_readTest 10 = .ok (.if_icmp .eq 23, 3) := by decide +kernel
theorem dX8_readTest_13 : decode cX8_readTest 13 = .ok (.iload 4, 2) := by decide +kernel
theorem dX8_readTest_15 : decode cX8_readTest 15 = .ok (.bipush 7, 2) := by decide +kernel
theorem dX8_readTest_17 : decode cX8_readTest 17 = .ok (.if_icmp .eq 16, 3) := by decide +kernel
theorem dX8_readTest_20 : decode cX8_readTest 20 = .ok (.iload 4, 2) := by decide +kernel
theorem dX8_readTest_22 : decode cX8_readTest 22 = .ok (.bipush 11, 2) := by decide +kernel
theorem dX8_readTest_24 : decode cX8_readTest 24 = .ok (.if_icmp .eq 9, 3) := by decide +kernel
theorem dX8_readTest_27 : decode cX8_readTest 27 = .ok (.aload_n 0, 1) := by decide +kernel
theorem dX8_readTest_28 : decode cX8_readTest 28 = .ok (.iconst 2, 1) := by decide +kernel
theorem dX8_readTest_29 : decode cX8_readTest 29 = .ok (.invokevirtual 59, 3) := by decide +kernel
theorem dX8_readTest_32 : decode cX8_readTest 32 = .ok (.ireturn, 1) := by decide +kernel
theorem dX8_readTest_33 : decode cX8_readTest 33 = .ok (.aload_n 2, 1) := by decide +kernel
theorem dX8_readTest_34 : decode cX8_readTest 34 = .ok (.getfield 94, 3) := by decide +kernel
theorem dX8_readTest_37 : decode cX8_readTest 37 = .ok (.iload_n 3, 1) := by decide +kernel
theorem dX8_readTest_38 : decode cX8_readTest 38 = .ok (.iload 4, 2) := by decide +kernel
theorem dX8_readTest_40 : decode cX8_readTest 40 = .ok (.iastore, 1) := by decide +kernel
theorem dX8_readTest_41 : decode cX8_readTest 41 = .ok (.aload_n 0, 1) := by decide +kernel
theorem dX8_readTest_42 : decode cX8_readTest 42 = .ok (.invokevirtual 70, 3) := by decide +kernel
theorem dX8_readTest_45 : decode cX8_readTest 45 = .ok (.iload 4, 2) := by decide +kernel
theorem dX8_readTest_47 : decode cX8_readTest 47 = .ok (.bipush 26, 2) := by decide +kernel
theorem dX8_readTest_49 : decode cX8_readTest 49 = .ok (.if_icmp .eq 35, 3) := by decide +kernel
theorem dX8_readTest_52 : decode cX8_readTest 52 = .ok (.aload_n 0, 1) := by decide +kernel
theorem dX8_readTest_53 : decode cX8_readTest 53 = .ok (.aload_n 1, 1) := by decide +kernel
theorem dX8_readTest_54 : decode cX8_readTest 54 = .ok (.iload 4, 2) := by decide +kernel
theorem dX8_readTest_56 : decode cX8_readTest 56 = .ok (.bipush 7, 2) := by decide +kernel
theorem dX8_readTest_58 : decode cX8_readTest 58 = .ok (.if_icmp .ne 7, 3) := by decide +kernel
theorem dX8_readTest_61 : decode cX8_readTest 61 = .ok (.iconst 2, 1) := by decide +kernel
theorem dX8_readTest_62 : decode cX8_readTest 62 = .ok (.goto 4, 3) := by decide +kernel
theorem dX8_readTest_65 : decode cX8_readTest 65 = .ok (.iconst 3, 1) := by decide +kernel
theorem dX8_readTest_66 : decode cX8_readTest 66 = .ok (.invokevirtual 82, 3) := by decide +kernel
theorem dX8_readTest_69 : decode cX8_readTest 69 = .ok (.ifCond .ne 5, 3) := by decide +kernel
theorem dX8_readTest_72 : decode cX8_readTest 72 = .ok (.iconst 0, 1) := by decide +kernel
theorem dX8_readTest_73 : decode cX8_readTest 73 = .ok (.ireturn, 1) := by decide +kernel
theorem dX8_readTest_74 : decode cX8_readTest 74 = .ok (.aload_n 2, 1) := by decide +kernel
theorem dX8_readTest_75 : decode cX8_readTest 75 = .ok (.getfield 106, 3) := by decide +kernel
theorem dX8_readTest_78 : decode cX8_readTest 78 = .ok (.iload_n 3, 1) := by decide +kernel
theorem dX8_readTest_79 : decode cX8_readTest 79 = .ok (.aload_n 0, 1) := by decide +kernel
theorem dX8_readTest_80 : decode cX8_readTest 80 = .ok (.getfield 97, 3) := by decide +kernel
theorem dX8_readTest_83 : decode cX8_readTest 83 = .ok (.iastore, 1) := by decide +kernel
theorem dX8_readTest_84 : decode cX8_readTest 84 = .ok (.iload 4, 2) := by decide +kernel
theorem dX8_readTest_86 : decode cX8_readTest 86 = .ok (.bipush 7, 2) := by decide +kernel
theorem dX8_readTest_88 : decode cX8_readTest 88 = .ok (.if_icmp .ne 5, 3) := by decide +kernel
theorem dX8_readTest_91 : decode cX8_readTest 91 = .ok (.iconst 1, 1) := by decide +kernel
theorem dX8_readTest_92 : decode cX8_readTest 92 = .ok (.ireturn, 1) := by decide +kernel
theorem dX8_readTest_93 : decode cX8_readTest 93 = .ok (.aload_n 0, 1) := by decide +kernel
theorem dX8_readTest_94 : decode cX8_readTest 94 = .ok (.invokevirtual 109, 3) := by decide +kernel
theorem dX8_readTest_97 : decode cX8_readTest 97 = .ok (.ifCond .ne 5, 3) := by decide +kernel
theorem dX8_readTest_100 : decode cX8_readTest 100 = .ok (.iconst 0, 1) := by decide +kernel
theorem dX8_readTest_101 : decode cX8_readTest 101 = .ok (.ireturn, 1) := by decide +kernel
theorem dX8_readTest_102 : decode cX8_readTest 102 = .ok (.aload_n 2, 1) := by decide +kernel
theorem dX8_readTest_103 : decode cX8_readTest 103 = .ok (.getfield 100, 3) := by decide +kernel
theorem dX8_readTest_106 : decode cX8_readTest 106 = .ok (.iload_n 3, 1) := by decide +kernel
theorem dX8_readTest_107 : decode cX8_readTest 107 = .ok (.aload_n 0, 1) := by decide +kernel
theorem dX8_readTest_108 : decode cX8_readTest 108 = .ok (.getfield 97, 3) := by decide +kernel
theorem dX8_readTest_111 : decode cX8_readTest 111 = .ok (.iastore, 1) := by decide +kernel
theorem dX8_readTest_112 : decode cX8_readTest 112 = .ok (.iload 4, 2) := by decide +kernel
theorem dX8_readTest_114 : decode cX8_readTest 114 = .ok (.bipush 26, 2) := by decide +kernel
theorem dX8_readTest_116 : decode cX8_readTest 116 = .ok (.if_icmp .ne 13, 3) := by decide +kernel
theorem dX8_readTest_119 : decode cX8_readTest 119 = .ok (.aload_n 0, 1) := by decide +kernel
theorem dX8_readTest_120 : decode cX8_readTest 120 = .ok (.iconst 0, 1) := by decide +kernel
theorem dX8_readTest_121 : decode cX8_readTest 121 = .ok (.bipush 10, 2) := by decide +kernel
theorem dX8_readTest_123 : decode cX8_readTest 123 = .ok (.invokevirtual 86, 3) := by decide +kernel
theorem dX8_readTest_126 : decode cX8_readTest 126 = .ok (.goto 10, 3) := by decide +kernel
theorem dX8_readTest_129 : decode cX8_readTest 129 = .ok (.aload_n 0, 1) := by decide +kernel
theorem dX8_readTest_130 : decode cX8_readTest 130 = .ok (.sipush 9999, 3) := by decide +kernel
theorem dX8_readTest_133 : decode cX8_readTest 133 = .ok (.invokevirtual 112, 3) := by decide +kernel
theorem dX8_readTest_136 : decode cX8_readTest 136 = .ok (.istore 5, 2) := by decide +kernel
theorem dX8_readTest_138 : decode cX8_readTest 138 = .ok (.aload_n 2, 1) := by decide +kernel
theorem dX8_readTest_139 : decode cX8_readTest 139 = .ok (.getfield 115, 3) := by decide +kernel
theorem dX8_readTest_142 : decode cX8_readTest 142 = .ok (.iload_n 3, 1) := by decide +kernel
theorem dX8_readTest_143 : decode cX8_readTest 143 = .ok (.aload_n 0, 1) := by decide +kernel
theorem dX8_readTest_144 : decode cX8_readTest 144 = .ok (.getfield 97, 3) := by decide +kernel
theorem dX8_readTest_147 : decode cX8_readTest 147 = .ok (.iastore, 1) := by decide +kernel
theorem dX8_readTest_148 : decode cX8_readTest 148 = .ok (.iload 5, 2) := by decide +kernel
theorem dX8_readTest_150 : decode cX8_readTest 150 = .ok (.ireturn, 1) := by decide +kernel
set_option maxRecDepth 20000 in
theorem ggX9_init_X1_init : GoodIn wsX9_init wsX1_init := goodIn_r _ [17, 18, 2, 3, 19, 20, 21, 22, 23, 24, 25, 26, 27, 28, 29, 30, 31, 32, 33, 57, 58, 59, 60, 61, 62, 63, 64, 65, 66, 67, 68, 69] (by decide +kernel) (by decide +kernel)
set_option maxRecDepth 20000 in
theorem gX9_init_X1_init_n9 : GoodIn wsX9_init (wsX1_init) := ggX9_init_X1_init
set_option maxRecDepth 20000 in
theorem ggX9_init_X3_init : GoodIn wsX9_init wsX3_init := goodIn_r _ [35, 36, 2, 3, 19, 37, 38, 39, 40, 41, 42, 43, 44, 73, 74, 75, 76, 77, 78, 79, 80] (by decide +kernel) (by decide +kernel)
set_option maxRecDepth 20000 in
theorem gX9_init_X3_init_n18 : GoodIn wsX9_init (wsX3_init) := ggX9_init_X3_init
set_option maxRecDepth 20000 in
theorem ggX9_init_X7_init : GoodIn wsX9_init wsX7_init := goodIn_r _ [46, 47, 2, 3, 19, 48, 49, 50, 51, 52, 53, 54, 55, 56, 81, 82, 83, 84, 85, 86, 87, 88, 89] (by decide +kernel) (by decide +kernel)
set_option maxRecDepth 20000 in
theorem gX9_init_X7_init_n25 : GoodIn wsX9_init (wsX7_init) := ggX9_init_X7_init
theorem dX9_init_0 : decode cX9_init 0 = .ok (.aload_n 0, 1) := by decide +kernel
theorem dX9_init_1 : decode cX9_init 1 = .ok (.invokespecial 1, 3) := by decide +kernel
theorem dX9_init_4 : decode cX9_init 4 = .ok (.aload_n 0, 1) := by decide +kernel
theorem dX9_init_5 : decode cX9_init 5 = .ok (.new 7, 3) := by decide +kernel
theorem dX9_init_8 : decode cX9_init 8 = .ok (.dup, 1) := by decide +kernel
theorem dX9_init_9 : decode cX9_init 9 = .ok (.invokespecial 9, 3) := by decide +kernel
theorem dX9_init_12 : decode cX9_init 12 = .ok (.putfield 10, 3) := by decide +kernel
theorem dX9_init_15 : decode cX9_init 15 = .ok (.aload_n 0, 1) := by decide +kernel
theorem dX9_init_16 : decode cX9_init 16 = .ok (.new 16, 3) := by decide +kernel
theorem dX9_init_19 : decode cX9_init 19 = .ok (.dup, 1) := by decide +kernel
theorem dX9_init_20 : decode cX9_init 20 = .ok (.invokespecial 18, 3) := by decide +kernel
theorem dX9_init_23 : decode cX9_init 23 = .ok (.putfield 19, 3) := by decide +kernel
theorem dX9_init_26 : decode cX9_init 26 = .ok (.aload_n 0, 1) := by decide +kernel
theorem dX9_init_27 : decode cX9_init 27 = .ok (.new 23, 3) := by decide +kernel
theorem dX9_init_30 : decode cX9_init 30 = .ok (.dup, 1) := by decide +kernel
theorem dX9_init_31 : decode cX9_init 31 = .ok (.invokespecial 25, 3) := by decide +kernel
theorem dX9_init_34 : decode cX9_init 34 = .ok (.putfield 26, 3) := by decide +kernel
theorem dX9_init_37 : decode cX9_init 37 = .ok (.return_, 1) := by decide +kernel
set_option maxRecDepth 20000 in
theorem ggX9_copyFrom_X1_copyFrom : GoodIn wsX9_copyFrom wsX1_copyFrom := goodIn_r _ [8, 9, 10, 11, 12, 13, 14, 15, 16, 17, 18, 19, 20, 21, 22, 23, 24, 25, 58, 59, 60, 61, 62, 63, 64, 65, 66, 67, 68, 69, 70] (by decide +kernel) (by decide +kernel)
set_option maxRecDepth 20000 in
theorem gX9_copyFrom_X1_copyFrom : GoodIn wsX9_copyFrom (wsV RX9 30 RX1 yX1_copyFrom wsX1_copyFrom) := goodIn_app (goodIn_of _ (by decide +kernel)) ggX9_copyFrom_X1_copyFrom
set_option maxRecDepth 20000 in
theorem ggX9_copyFrom_X3_copyFrom : GoodIn wsX9_copyFrom wsX3_copyFrom := goodIn_r _ [30, 31, 32, 11, 12, 13, 33, 34, 35, 36, 37, 38, 39, 71, 72, 73, 74, 75, 76, 77, 78] (by decide +kernel) (by decide +kernel)
set_option maxRecDepth 20000 in
theorem gX9_copyFrom_X3_copyFrom : GoodIn wsX9_copyFrom (wsV RX9 34 RX3 yX3_copyFrom wsX3_copyFrom) := goodIn_app (goodIn_of _ (by decide +kernel)) ggX9_copyFrom_X3_copyFrom
set_option maxRecDepth 20000 in
theorem ggX9_copyFrom_X7_copyFrom : GoodIn wsX9_copyFrom wsX7_copyFrom := goodIn_r _ [44, 45, 46, 11, 12, 13, 47, 48, 49, 50, 51, 52, 53, 54, 79, 80, 81, 82, 83, 84, 85, 86, 87] (by decide +kernel) (by decide +kernel)
set_option maxRecDepth 20000 in
theorem gX9_copyFrom_X7_copyFrom : GoodIn wsX9_copyFrom (wsV RX9 37 RX7 yX7_copyFrom wsX7_copyFrom) := goodIn_app (goodIn_of _ (by decide +kernel)) ggX9_copyFrom_X7_copyFrom
theorem dX9_copyFrom_0 : decode cX9_copyFrom 0 = .ok (.aload_n 0, 1) := by decide +kernel
theorem dX9_copyFrom_1 : decode cX9_copyFrom 1 = .ok (.getfield 10, 3) := by decide +kernel
theorem dX9_copyFrom_4 : decode cX9_copyFrom 4 = .ok (.aload_n 1, 1) := by decide +kernel
theorem dX9_copyFrom_5 : decode cX9_copyFrom 5 = .ok (.getfield 10, 3) := by decide +kernel
theorem dX9_copyFrom_8 : decode cX9_copyFrom 8 = .ok (.invokevirtual 30, 3) := by decide +kernel
theorem dX9_copyFrom_11 : decode cX9_copyFrom 11 = .ok (.aload_n 0, 1) := by decide +kernel
theorem dX9_copyFrom_12 : decode cX9_copyFrom 12 = .ok (.getfield 19, 3) := by decide +kernel
theorem dX9_copyFrom_15 : decode cX9_copyFrom 15 = .ok (.aload_n 1, 1) := by decide +kernel
theorem dX9_copyFrom_16 : decode cX9_copyFrom 16 = .ok (.getfield 19, 3) := by decide +kernel
theorem dX9_copyFrom_19 : decode cX9_copyFrom 19 = .ok (.invokevirtual 34, 3) := by decide +kernel
theorem dX9_copyFrom_22 : decode cX9_copyFrom 22 = .ok (.aload_n 0, 1) := by decide +kernel
theorem dX9_copyFrom_23 : decode cX9_copyFrom 23 = .ok (.getfield 26, 3) := by decide +kernel
theorem dX9_copyFrom_26 : decode cX9_copyFrom 26 = .ok (.aload_n 1, 1) := by decide +kernel
theorem dX9_copyFrom_27 : decode cX9_copyFrom 27 = .ok (.getfield 26, 3) := by decide +kernel
theorem dX9_copyFrom_30 : decode cX9_copyFrom 30 = .ok (.invokevirtual 37, 3) := by decide +kernel
theorem dX9_copyFrom_33 : decode cX9_copyFrom 33 = .ok (.return_, 1) := by decide +kernel
set_option maxRecDepth 20000 in
theorem ggX10_init_X6_init : GoodIn wsX10_init wsX6_init := goodIn_r _ [54, 55, 2, 3, 56, 57, 58, 59, 60, 61, 213, 214, 215] (by decide +kernel) (by decide +kernel)
set_option maxRecDepth 20000 in
theorem gX10_init_X6_init_n9 : GoodIn wsX10_init (wsX6_init) := ggX10_init_X6_init
set_option maxRecDepth 20000 in
theorem ggX10_init_X9_init : GoodIn wsX10_init wsX9_init := goodIn_r _ [63, 64, 2, 3, 65, 14, 15, 66, 67, 38, 39, 68, 69, 18, 19, 70, 71, 72, 73, 59, 74, 57, 75, 76, 77, 78, 79, 80, 81, 82, 83, 84, 85, 86, 87, 88, 89, 90, 91, 92, 93, 94, 95, 96, 97, 98, 99, 100, 101, 102, 103, 104, 105, 106, 107, 108, 109, 238, 239, 240, 241, 242, 243, 244, 245, 246, 247, 248, 249, 250, 235, 236, 237, 286, 287, 288, 289, 290, 291, 292, 293, 251, 252, 253, 254, 255, 256, 257, 258, 259] (by decide +kernel) (by decide +kernel)
set_option maxRecDepth 20000 in
theorem gX10_init_X9_init_n18 : GoodIn wsX10_init (wsX9_init) := ggX10_init_X9_init
set_option maxRecDepth 20000 in
theorem ggX10_init_X1_init : GoodIn wsX10_init wsX1_init := goodIn_r _ [72, 73, 2, 3, 59, 74, 57, 75, 76, 77, 78, 79, 80, 81, 82, 83, 84, 85, 86, 238, 239, 240, 241, 242, 243, 244, 245, 246, 247, 248, 249, 250] (by decide +kernel) (by decide +kernel)
set_option maxRecDepth 20000 in
theorem gX10_init_X1_init_n29 : GoodIn wsX10_init (wsX1_init) := ggX10_init_X1_init
set_option maxRecDepth 20000 in
theorem ggX10_init_X7_init : GoodIn wsX10_init wsX7_init := goodIn_r _ [99, 100, 2, 3, 59, 101, 102, 103, 104, 105, 106, 107, 108, 109, 251, 252, 253, 254, 255, 256, 257, 258, 259] (by decide +kernel) (by decide +kernel)
set_option maxRecDepth 20000 in
theorem gX10_init_X7_init_n36 : GoodIn wsX10_init (wsX7_init) := ggX10_init_X7_init
set_option maxRecDepth 20000 in
theorem ggX10_init_X5_init : GoodIn wsX10_init wsX5_init := goodIn_r _ [112, 113, 2, 3, 114, 115, 57, 116, 117, 118, 119, 120, 121, 122, 123, 124, 125, 126, 127, 128, 129, 130, 131, 132, 133, 134, 135, 136, 137, 138, 139, 140, 141, 142, 143, 144, 145, 146, 147, 148, 149, 150, 151, 152, 153, 154, 155, 156, 157, 158, 159, 160, 161, 162, 163, 164, 165, 166, 167, 168, 169, 170, 171, 172, 173, 174, 175, 176, 260, 261, 262, 263, 264, 265, 266, 267, 268, 269, 270, 271] (by decide +kernel) (by decide +kernel)
set_option maxRecDepth 20000 in
theorem gX10_init_X5_init : GoodIn wsX10_init (wsX5_init) := ggX10_init_X5_init
set_option maxRecDepth 20000 in
theorem ggX10_init_X2_init : GoodIn wsX10_init wsX2_init := goodIn_r _ [178, 179, 2, 3, 180, 272] (by decide +kernel) (by decide +kernel)
set_option maxRecDepth 20000 in
theorem gX10_init_X2_init_n50 : GoodIn wsX10_init (wsX2_init) := ggX10_init_X2_init
set_option maxRecDepth 20000 in
theorem ggX10_init_X8_init : GoodIn wsX10_init wsX8_init := goodIn_r _ [182, 183, 2, 3, 59, 184, 185, 273, 274] (by decide +kernel) (by decide +kernel)
set_option maxRecDepth 20000 in
theorem gX10_init_X8_init_n57 : GoodIn wsX10_init (wsX8_init) := ggX10_init_X8_init
set_option maxRecDepth 20000 in
theorem ggX10_init_X0_init : GoodIn wsX10_init wsX0_init := goodIn_r _ [188, 189, 2, 3, 57, 190, 191, 192, 193, 59, 194, 195, 196, 197, 198, 199, 200, 201, 38, 39, 87, 88, 89, 90, 91, 92, 93, 94, 95, 96, 97, 275, 276, 277, 278, 279, 280, 281, 282, 283, 284, 285, 286, 287, 288, 289, 290, 291, 292, 293] (by decide +kernel) (by decide +kernel)
set_option maxRecDepth 20000 in
theorem gX10_init_X0_init : GoodIn wsX10_init (wsX0_init) := ggX10_init_X0_init
set_option maxRecDepth 20000 in
theorem ggX10_init_X3_init : GoodIn wsX10_init wsX3_init := goodIn_r _ [88, 89, 2, 3, 59, 90, 91, 92, 93, 94, 95, 96, 97, 286, 287, 288, 289, 290, 291, 292, 293] (by decide +kernel) (by decide +kernel)
set_option maxRecDepth 20000 in
theorem gX10_init_X3_init_n71 : GoodIn wsX10_init (wsX3_init) := ggX10_init_X3_init
set_option maxRecDepth 20000 in
theorem ggX10_init_X4_init : GoodIn wsX10_init wsX4_init := goodIn_r _ [203, 204, 2, 3, 59, 205, 206, 207, 208, 209, 210, 211, 212, 294, 295, 296, 297, 298, 299, 300, 301] (by decide +kernel) (by decide +kernel)
set_option maxRecDepth 20000 in
theorem gX10_init_X4_init_n78 : GoodIn wsX10_init (wsX4_init) := ggX10_init_X4_init
theorem dX10_init_0 : decode cX10_init 0 = .ok (.aload_n 0, 1) := by decide +kernel
theorem dX10_init_1 : decode cX10_init 1 = .ok (.invokespecial 1, 3) := by decide +kernel
theorem dX10_init_4 : decode cX10_init 4 = .ok (.aload_n 0, 1) := by decide +kernel
theorem dX10_init_5 : decode cX10_init 5 = .ok (.new 7, 3) := by decide +kernel
theorem dX10_init_8 : decode cX10_init 8 = .ok (.dup, 1) := by decide +kernel
theorem dX10_init_9 : decode cX10_init 9 = .ok (.invokespecial 9, 3) := by decide +kernel
theorem dX10_init_12 : decode cX10_init 12 = .ok (.putfield 10, 3) := by decide +kernel
theorem dX10_init_15 : decode cX10_init 15 = .ok (.aload_n 0, 1) := by decide +kernel
theorem dX10_init_16 : decode cX10_init 16 = .ok (.new 16, 3) := by decide +kernel
theorem dX10_init_19 : decode cX10_init 19 = .ok (.dup, 1) := by decide +kernel
theorem dX10_init_20 : decode cX10_init 20 = .ok (.invokespecial 18, 3) := by decide +kernel
theorem dX10_init_23 : decode cX10_init 23 = .ok (.putfield 19, 3) := by decide +kernel
theorem dX10_init_26 : decode cX10_init 26 = .ok (.aload_n 0, 1) := by decide +kernel
theorem dX10_init_27 : decode cX10_init 27 = .ok (.iconst 3, 1) := by decide +kernel
theorem dX10_init_28 : decode cX10_init 28 = .ok (.anewarray 16, 3) := by decide +kernel
theorem dX10_init_31 : decode cX10_init 31 = .ok (.putfield 23, 3) := by decide +kernel
theorem dX10_init_34 : decode cX10_init 34 = .ok (.aload_n 0, 1) := by decide +kernel
theorem dX10_init_35 : decode cX10_init 35 = .ok (.new 27, 3) := by decide +kernel
theorem dX10_init_38 : decode cX10_init 38 = .ok (.dup, 1) := by decide +kernel
theorem dX10_init_39 : decode cX10_init 39 = .ok (.invokespecial 29, 3) := by decide +kernel
theorem dX10_init_42 : decode cX10_init 42 = .ok (.putfield 30, 3) := by decide +kernel
theorem dX10_init_45 : decode cX10_init 45 = .ok (.aload_n 0, 1) := by decide +kernel
theorem dX10_init_46 : decode cX10_init 46 = .ok (.new 34, 3) := by decide +kernel
theorem dX10_init_49 : decode cX10_init 49 = .ok (.dup, 1) := by decide +kernel
theorem dX10_init_50 : decode cX10_init 50 = .ok (.invokespecial 36, 3) := by decide +kernel
theorem dX10_init_53 : decode cX10_init 53 = .ok (.putfield 37, 3) := by decide +kernel
theorem dX10_init_56 : decode cX10_init 56 = .ok (.aload_n 0, 1) := by decide +kernel
theorem dX10_init_57 : decode cX10_init 57 = .ok (.new 41, 3) := by decide +kernel
theorem dX10_init_60 : decode cX10_init 60 = .ok (.dup, 1) := by decide +kernel
theorem dX10_init_61 : decode cX10_init 61 = .ok (.invokespecial 43, 3) := by decide +kernel
theorem dX10_init_64 : decode cX10_init 64 = .ok (.putfield 44, 3) := by decide +kernel
theorem dX10_init_67 : decode cX10_init 67 = .ok (.aload_n 0, 1) := by decide +kernel
theorem dX10_init_68 : decode cX10_init 68 = .ok (.new 48, 3) := by decide +kernel
theorem dX10_init_71 : decode cX10_init 71 = .ok (.dup, 1) := by decide +kernel
theorem dX10_init_72 : decode cX10_init 72 = .ok (.invokespecial 50, 3) := by decide +kernel
theorem dX10_init_75 : decode cX10_init 75 = .ok (.putfield 51, 3) := by decide +kernel
theorem dX10_init_78 : decode cX10_init 78 = .ok (.aload_n 0, 1) := by decide +kernel
theorem dX10_init_79 : decode cX10_init 79 = .ok (.new 55, 3) := by decide +kernel
theorem dX10_init_82 : decode cX10_init 82 = .ok (.dup, 1) := by decide +kernel
theorem dX10_init_83 : decode cX10_init 83 = .ok (.invokespecial 57, 3) := by decide +kernel
theorem dX10_init_86 : decode cX10_init 86 = .ok (.putfield 58, 3) := by decide +kernel
theorem dX10_init_89 : decode cX10_init 89 = .ok (.aload_n 0, 1) := by decide +kernel
theorem dX10_init_90 : decode cX10_init 90 = .ok (.new 62, 3) := by decide +kernel
theorem dX10_init_93 : decode cX10_init 93 = .ok (.dup, 1) := by decide +kernel
theorem dX10_init_94 : decode cX10_init 94 = .ok (.invokespecial 64, 3) := by decide +kernel
theorem dX10_init_97 : decode cX10_init 97 = .ok (.putfield 65, 3) := by decide +kernel
theorem dX10_init_100 : decode cX10_init 100 = .ok (.aload_n 0, 1) := by decide +kernel
theorem dX10_init_101 : decode cX10_init 101 = .ok (.new 69, 3) := by decide +kernel
theorem dX10_init_104 : decode cX10_init 104 = .ok (.dup, 1) := by decide +kernel
theorem dX10_init_105 : decode cX10_init 105 = .ok (.invokespecial 71, 3) := by decide +kernel
theorem dX10_init_108 : decode cX10_init 108 = .ok (.putfield 72, 3) := by decide +kernel
theorem dX10_init_111 : decode cX10_init 111 = .ok (.aload_n 0, 1) := by decide +kernel
theorem dX10_init_112 : decode cX10_init 112 = .ok (.new 76, 3) := by decide +kernel
theorem dX10_init_115 : decode cX10_init 115 = .ok (.dup, 1) := by decide +kernel
theorem dX10_init_116 : decode cX10_init 116 = .ok (.invokespecial 78, 3) := by decide +kernel
theorem dX10_init_119 : decode cX10_init 119 = .ok (.putfield 79, 3) := by decide +kernel
theorem dX10_init_122 : decode cX10_init 122 = .ok (.aload_n 0, 1) := by decide +kernel
theorem dX10_init_123 : decode cX10_init 123 = .ok (.new 76, 3) := by decide +kernel
theorem dX10_init_126 : decode cX10_init 126 = .ok (.dup, 1) := by decide +kernel
theorem dX10_init_127 : decode cX10_init 127 = .ok (.invokespecial 78, 3) := by decide +kernel
theorem dX10_init_130 : decode cX10_init 130 = .ok (.putfield 83, 3) := by decide +kernel
theorem dX10_init_133 : decode cX10_init 133 = .ok (.aload_n 0, 1) := by decide +kernel
theorem dX10_init_134 : decode cX10_init 134 = .ok (.iconst 0, 1) := by decide +kernel
theorem dX10_init_135 : decode cX10_init 135 = .ok (.putfield 86, 3) := by decide +kernel
theorem dX10_init_138 : decode cX10_init 138 = .ok (.aload_n 0, 1) := by decide +kernel
theorem dX10_init_139 : decode cX10_init 139 = .ok (.iconst 0, 1) := by decide +kernel
theorem dX10_init_140 : decode cX10_init 140 = .ok (.putfield 90, 3) := by decide +kernel
theorem dX10_init_143 : decode cX10_init 143 = .ok (.aload_n 0, 1) := by decide +kernel
theorem dX10_init_144 : decode cX10_init 144 = .ok (.iconst 0, 1) := by decide +kernel
theorem dX10_init_145 : decode cX10_init 145 = .ok (.putfield 94, 3) := by decide +kernel
theorem dX10_init_148 : decode cX10_init 148 = .ok (.aload_n 0, 1) := by decide +kernel
theorem dX10_init_149 : decode cX10_init 149 = .ok (.iconst (-1), 1) := by decide +kernel
theorem dX10_init_150 : decode cX10_init 150 = .ok (.putfield 97, 3) := by decide +kernel
theorem dX10_init_153 : decode cX10_init 153 = .ok (.aload_n 0, 1) := by decide +kernel
theorem dX10_init_154 : decode cX10_init 154 = .ok (.iconst (-1), 1) := by decide +kernel
theorem dX10_init_155 : decode cX10_init 155 = .ok (.putfield 100, 3) := by decide +kernel
theorem dX10_init_158 : decode cX10_init 158 = .ok (.aload_n 0, 1) := by decide +kernel
theorem dX10_init_159 : decode cX10_init 159 = .ok (.lconst 0, 1) := by decide +kernel
theorem dX10_init_160 : decode cX10_init 160 = .ok (.putfield 103, 3) := by decide +kernel
theorem dX10_init_163 : decode cX10_init 163 = .ok (.aload_n 0, 1) := by decide +kernel
theorem dX10_init_164 : decode cX10_init 164 = .ok (.lconst 1, 1) := by decide +kernel
theorem dX10_init_165 : decode cX10_init 165 = .ok (.putfield 107, 3) := by decide +kernel
theorem dX10_init_168 : decode cX10_init 168 = .ok (.iconst 0, 1) := by decide +kernel
theorem dX10_init_169 : decode cX10_init 169 = .ok (.istore_n 1, 1) := by decide +kernel
theorem dX10_init_170 : decode cX10_init 170 = .ok (.iload_n 1, 1) := by decide +kernel
theorem dX10_init_171 : decode cX10_init 171 = .ok (.iconst 3, 1) := by decide +kernel
theorem dX10_init_172 : decode cX10_init 172 = .ok (.if_icmp .ge 22, 3) := by decide +kernel
theorem dX10_init_175 : decode cX10_init 175 = .ok (.aload_n 0, 1) := by decide +kernel
theorem dX10_init_176 : decode cX10_init 176 = .ok (.getfield 23, 3) := by decide +kernel
theorem dX10_init_179 : decode cX10_init 179 = .ok (.iload_n 1, 1) := by decide +kernel
theorem dX10_init_180 : decode cX10_init 180 = .ok (.new 16, 3) := by decide +kernel
theorem dX10_init_183 : decode cX10_init 183 = .ok (.dup, 1) := by decide +kernel
theorem dX10_init_184 : decode cX10_init 184 = .ok (.invokespecial 18, 3) := by decide +kernel
theorem dX10_init_187 : decode cX10_init 187 = .ok (.aastore, 1) := by decide +kernel
theorem dX10_init_188 : decode cX10_init 188 = .ok (.iinc 1 1, 3) := by decide +kernel
theorem dX10_init_191 : decode cX10_init 191 = .ok (.goto (-21), 3) := by decide +kernel
theorem dX10_init_194 : decode cX10_init 194 = .ok (.return_, 1) := by decide +kernel
theorem dX10_status_0 : decode cX10_status 0 = .ok (.aload_n 0, 1) := by decide +kernel
theorem dX10_status_1 : decode cX10_status 1 = .ok (.getfield 94, 3) := by decide +kernel
theorem dX10_status_4 : decode cX10_status 4 = .ok (.ireturn, 1) := by decide +kernel
theorem dX10_top_0 : decode cX10_top 0 = .ok (.aload_n 0, 1) := by decide +kernel
theorem dX10_top_1 : decode cX10_top 1 = .ok (.getfield 103, 3) := by decide +kernel
theorem dX10_top_4 : decode cX10_top 4 = .ok (.lreturn, 1) := by decide +kernel
theorem dX10_bottom_0 : decode cX10_bottom 0 = .ok (.aload_n 0, 1) := by decide +kernel
theorem dX10_bottom_1 : decode cX10_bottom 1 = .ok (.getfield 107, 3) := by decide +kernel
theorem dX10_bottom_4 : decode cX10_bottom 4 = .ok (.lreturn, 1) := by decide +kernel
set_option maxRecDepth 20000 in
theorem ggX10_tray_X10_isTray : GoodIn wsX10_tray wsX10_isTray := goodIn_r _ [5] (by decide +kernel) (by decide +kernel)
set_option maxRecDepth 20000 in
theorem gX10_tray_X10_isTray : GoodIn wsX10_tray (va_wsS RX10 110 yX10_isTray wsX10_isTray) := goodIn_app (goodIn_of _ (by decide +kernel)) ggX10_tray_X10_isTray
set_option maxRecDepth 20000 in
theorem ggX10_tray_X10_refuse : GoodIn wsX10_tray wsX10_refuse := goodIn_r _ [9, 10, 23, 24, 25, 26, 27, 28, 29, 30, 31, 32, 33, 34, 35, 36, 37, 38, 39, 40, 41] (by decide +kernel) (by decide +kernel)
set_option maxRecDepth 20000 in
theorem gX10_tray_X10_refuse : GoodIn wsX10_tray (wsV RX10 114 RX10 yX10_refuse wsX10_refuse) := goodIn_app (goodIn_of _ (by decide +kernel)) ggX10_tray_X10_refuse
set_option maxRecDepth 20000 in
theorem ggX10_tray_X6_lay : GoodIn wsX10_tray wsX6_lay := goodIn_r _ [15, 16, 17, 18, 42, 43, 44] (by decide +kernel) (by decide +kernel)
set_option maxRecDepth 20000 in
theorem gX10_tray_X6_lay : GoodIn wsX10_tray (wsV RX10 117 RX6 yX6_lay wsX6_lay) := goodIn_app (goodIn_of _ (by decide +kernel)) ggX10_tray_X6_lay
set_option maxRecDepth 20000 in
theorem ggX10_tray_X10_agree : GoodIn wsX10_tray wsX10_agree := goodIn_r _ [22, 10, 23, 24, 25, 26, 27, 28, 29, 30, 31, 32, 33, 34, 35, 36, 37, 38, 39, 40, 41] (by decide +kernel) (by decide +kernel)
set_option maxRecDepth 20000 in
theorem gX10_tray_X10_agree : GoodIn wsX10_tray (wsV RX10 121 RX10 yX10_agree wsX10_agree) := goodIn_app (goodIn_of _ (by decide +kernel)) ggX10_tray_X10_agree
theorem dX10_tray_0 : decode cX10_tray 0 = .ok (.iload_n 1, 1) := by decide +kernel
theorem dX10_tray_1 : decode cX10_tray 1 = .ok (.invokestatic 110, 3) := by decide +kernel
theorem dX10_tray_4 : decode cX10_tray 4 = .ok (.ifCond .eq 12, 3) := by decide +kernel
theorem dX10_tray_7 : decode cX10_tray 7 = .ok (.iload_n 2, 1) := by decide +kernel
theorem dX10_tray_8 : decode cX10_tray 8 = .ok (.ifCond .lt 8, 3) := by decide +kernel
theorem dX10_tray_11 : decode cX10_tray 11 = .ok (.iload_n 2, 1) := by decide +kernel
theorem dX10_tray_12 : decode cX10_tray 12 = .ok (.iconst 4, 1) := by decide +kernel
theorem dX10_tray_13 : decode cX10_tray 13 = .ok (.if_icmp .lt 9, 3) := by decide +kernel
theorem dX10_tray_16 : decode cX10_tray 16 = .ok (.aload_n 0, 1) := by decide +kernel
theorem dX10_tray_17 : decode cX10_tray 17 = .ok (.iconst 1, 1) := by decide +kernel
theorem dX10_tray_18 : decode cX10_tray 18 = .ok (.invokevirtual 114, 3) := by decide +kernel
theorem dX10_tray_21 : decode cX10_tray 21 = .ok (.ireturn, 1) := by decide +kernel
theorem dX10_tray_22 : decode cX10_tray 22 = .ok (.iload_n 3, 1) := by decide +kernel
theorem dX10_tray_23 : decode cX10_tray 23 = .ok (.bipush 60, 2) := by decide +kernel
theorem dX10_tray_25 : decode cX10_tray 25 = .ok (.if_icmp .le 9, 3) := by decide +kernel
theorem dX10_tray_28 : decode cX10_tray 28 = .ok (.aload_n 0, 1) := by decide +kernel
theorem dX10_tray_29 : decode cX10_tray 29 = .ok (.iconst 5, 1) := by decide +kernel
theorem dX10_tray_30 : decode cX10_tray 30 = .ok (.invokevirtual 114, 3) := by decide +kernel
theorem dX10_tray_33 : decode cX10_tray 33 = .ok (.ireturn, 1) := by decide +kernel
theorem dX10_tray_34 : decode cX10_tray 34 = .ok (.iload_n 3, 1) := by decide +kernel
theorem dX10_tray_35 : decode cX10_tray 35 = .ok (.ifCond .ge 10, 3) := by decide +kernel
theorem dX10_tray_38 : decode cX10_tray 38 = .ok (.aload_n 0, 1) := by decide +kernel
theorem dX10_tray_39 : decode cX10_tray 39 = .ok (.bipush 6, 2) := by decide +kernel
theorem dX10_tray_41 : decode cX10_tray 41 = .ok (.invokevirtual 114, 3) := by decide +kernel
theorem dX10_tray_44 : decode cX10_tray 44 = .ok (.ireturn, 1) := by decide +kernel
theorem dX10_tray_45 : decode cX10_tray 45 = .ok (.aload_n 0, 1) := by decide +kernel
theorem dX10_tray_46 : decode cX10_tray 46 = .ok (.getfield 10, 3) := by decide +kernel
theorem dX10_tray_49 : decode cX10_tray 49 = .ok (.iload_n 1, 1) := by decide +kernel
theorem dX10_tray_50 : decode cX10_tray 50 = .ok (.iload_n 2, 1) := by decide +kernel
theorem dX10_tray_51 : decode cX10_tray 51 = .ok (.iload_n 3, 1) := by decide +kernel
theorem dX10_tray_52 : decode cX10_tray 52 = .ok (.invokevirtual 117, 3) := by decide +kernel
theorem dX10_tray_55 : decode cX10_tray 55 = .ok (.aload_n 0, 1) := by decide +kernel
theorem dX10_tray_56 : decode cX10_tray 56 = .ok (.invokevirtual 121, 3) := by decide +kernel
theorem dX10_tray_59 : decode cX10_tray 59 = .ok (.ireturn, 1) := by decide +kernel
set_option maxRecDepth 20000 in
theorem ggX10_write_X10_wrongPlace : GoodIn wsX10_write wsX10_wrongPlace := goodIn_r _ [6, 1, 7, 8, 9, 5, 10, 11, 12, 13, 14, 15, 16, 17, 18, 19, 20, 21, 22, 23, 39, 40, 41, 42, 43, 44, 45, 46, 47, 48, 49, 50, 51, 52, 53, 54, 55, 56, 57, 58, 59, 60] (by decide +kernel) (by decide +kernel)
set_option maxRecDepth 20000 in
theorem gX10_write_X10_wrongPlace : GoodIn wsX10_write (wsV RX10 125 RX10 yX10_wrongPlace wsX10_wrongPlace) := goodIn_app (goodIn_of _ (by decide +kernel)) ggX10_write_X10_wrongPlace
set_option maxRecDepth 20000 in
theorem ggX10_write_X10_refuse : GoodIn wsX10_write wsX10_refuse := goodIn_r _ [27, 28, 39, 40, 41, 42, 43, 44, 45, 46, 47, 48, 49, 50, 51, 52, 53, 54, 55, 56, 57] (by decide +kernel) (by decide +kernel)
set_option maxRecDepth 20000 in
theorem gX10_write_X10_refuse : GoodIn wsX10_write (wsV RX10 114 RX10 yX10_refuse wsX10_refuse) := goodIn_app (goodIn_of _ (by decide +kernel)) ggX10_write_X10_refuse
set_option maxRecDepth 20000 in
theorem ggX10_write_X6_put : GoodIn wsX10_write wsX6_put := goodIn_r _ [32, 33, 34, 58, 59, 60] (by decide +kernel) (by decide +kernel)
set_option maxRecDepth 20000 in
theorem gX10_write_X6_put : GoodIn wsX10_write (wsV RX10 129 RX6 yX6_put wsX6_put) := goodIn_app (goodIn_of _ (by decide +kernel)) ggX10_write_X6_put
set_option maxRecDepth 20000 in
theorem ggX10_write_X10_agree : GoodIn wsX10_write wsX10_agree := goodIn_r _ [38, 28, 39, 40, 41, 42, 43, 44, 45, 46, 47, 48, 49, 50, 51, 52, 53, 54, 55, 56, 57] (by decide +kernel) (by decide +kernel)
set_option maxRecDepth 20000 in
theorem gX10_write_X10_agree : GoodIn wsX10_write (wsV RX10 121 RX10 yX10_agree wsX10_agree) := goodIn_app (goodIn_of _ (by decide +kernel)) ggX10_write_X10_agree
theorem dX10_write_0 : decode cX10_write 0 = .ok (.aload_n 0, 1) := by decide +kernel
theorem dX10_write_1 : decode cX10_write 1 = .ok (.iload_n 1, 1) := by decide +kernel
theorem dX10_write_2 : decode cX10_write 2 = .ok (.iload_n 2, 1) := by decide +kernel
theorem dX10_write_3 : decode cX10_write 3 = .ok (.invokevirtual 125, 3) := by decide +kernel
theorem dX10_write_6 : decode cX10_write 6 = .ok (.istore 5, 2) := by decide +kernel
theorem dX10_write_8 : decode cX10_write 8 = .ok (.iload 5, 2) := by decide +kernel
theorem dX10_write_10 : decode cX10_write 10 = .ok (.ifCond .eq 10, 3) := by decide +kernel
theorem dX10_write_13 : decode cX10_write 13 = .ok (.aload_n 0, 1) := by decide +kernel
theorem dX10_write_14 : decode cX10_write 14 = .ok (.iload 5, 2) := by decide +kernel
theorem dX10_write_16 : decode cX10_write 16 = .ok (.invokevirtual 114, 3) := by decide +kernel
theorem dX10_write_19 : decode cX10_write 19 = .ok (.ireturn, 1) := by decide +kernel
theorem dX10_write_20 : decode cX10_write 20 = .ok (.aload_n 0, 1) := by decide +kernel
theorem dX10_write_21 : decode cX10_write 21 = .ok (.getfield 10, 3) := by decide +kernel
theorem dX10_write_24 : decode cX10_write 24 = .ok (.iload_n 1, 1) := by decide +kernel
theorem dX10_write_25 : decode cX10_write 25 = .ok (.iload_n 2, 1) := by decide +kernel
theorem dX10_write_26 : decode cX10_write 26 = .ok (.lload_n 3, 1) := by decide +kernel
theorem dX10_write_27 : decode cX10_write 27 = .ok (.invokevirtual 129, 3) := by decide +kernel
theorem dX10_write_30 : decode cX10_write 30 = .ok (.aload_n 0, 1) := by decide +kernel
theorem dX10_write_31 : decode cX10_write 31 = .ok (.invokevirtual 121, 3) := by decide +kernel
theorem dX10_write_34 : decode cX10_write 34 = .ok (.ireturn, 1) := by decide +kernel
set_option maxRecDepth 20000 in
theorem ggX10_read_X10_wrongPlace : GoodIn wsX10_read wsX10_wrongPlace := goodIn_r _ [8, 2, 9, 10, 11, 7, 12, 13, 14, 15, 16, 17, 18, 19, 20, 21, 22, 23, 24, 25, 30, 31, 32, 33, 34, 35, 36, 37, 38, 39, 40, 41, 42, 43, 44, 45, 46, 47, 48, 49, 50, 51] (by decide +kernel) (by decide +kernel)
set_option maxRecDepth 20000 in
theorem gX10_read_X10_wrongPlace : GoodIn wsX10_read (wsV RX10 125 RX10 yX10_wrongPlace wsX10_wrongPlace) := goodIn_app (goodIn_of _ (by decide +kernel)) ggX10_read_X10_wrongPlace
set_option maxRecDepth 20000 in
theorem ggX10_read_X10_none : GoodIn wsX10_read wsX10_none := goodIn_r _ [29, 1, 30, 31, 32, 33, 34, 35, 36, 37, 38, 39, 40, 41, 42, 43, 44, 45, 46, 47, 48] (by decide +kernel) (by decide +kernel)
set_option maxRecDepth 20000 in
theorem gX10_read_X10_none : GoodIn wsX10_read (wsV RX10 133 RX10 yX10_none wsX10_none) := goodIn_app (goodIn_of _ (by decide +kernel)) ggX10_read_X10_none
theorem dX10_read_0 : decode cX10_read 0 = .ok (.aload_n 0, 1) := by decide +kernel
theorem dX10_read_1 : decode cX10_read 1 = .ok (.iload_n 1, 1) := by decide +kernel
theorem dX10_read_2 : decode cX10_read 2 = .ok (.iload_n 2, 1) := by decide +kernel
theorem dX10_read_3 : decode cX10_read 3 = .ok (.invokevirtual 125, 3) := by decide +kernel
theorem dX10_read_6 : decode cX10_read 6 = .ok (.istore_n 3, 1) := by decide +kernel
theorem dX10_read_7 : decode cX10_read 7 = .ok (.iload_n 3, 1) := by decide +kernel
theorem dX10_read_8 : decode cX10_read 8 = .ok (.ifCond .eq 10, 3) := by decide +kernel
theorem dX10_read_11 : decode cX10_read 11 = .ok (.aload_n 0, 1) := by decide +kernel
theorem dX10_read_12 : decode cX10_read 12 = .ok (.iload_n 3, 1) := by decide +kernel
theorem dX10_read_13 : decode cX10_read 13 = .ok (.invokevirtual 133, 3) := by decide +kernel
theorem dX10_read_16 : decode cX10_read 16 = .ok (.i2l, 1) := by decide +kernel
theorem dX10_read_17 : decode cX10_read 17 = .ok (.lreturn, 1) := by decide +kernel
theorem dX10_read_18 : decode cX10_read 18 = .ok (.aload_n 0, 1) := by decide +kernel
theorem dX10_read_19 : decode cX10_read 19 = .ok (.iconst 0, 1) := by decide +kernel
theorem dX10_read_20 : decode cX10_read 20 = .ok (.putfield 94, 3) := by decide +kernel
theorem dX10_read_23 : decode cX10_read 23 = .ok (.aload_n 0, 1) := by decide +kernel
theorem dX10_read_24 : decode cX10_read 24 = .ok (.getfield 10, 3) := by decide +kernel
theorem dX10_read_27 : decode cX10_read 27 = .ok (.getfield 137, 3) := by decide +kernel
theorem dX10_read_30 : decode cX10_read 30 = .ok (.iload_n 1, 1) := by decide +kernel
theorem dX10_read_31 : decode cX10_read 31 = .ok (.aaload, 1) := by decide +kernel
theorem dX10_read_32 : decode cX10_read 32 = .ok (.iload_n 2, 1) := by decide +kernel
theorem dX10_read_33 : decode cX10_read 33 = .ok (.laload, 1) := by decide +kernel
theorem dX10_read_34 : decode cX10_read 34 = .ok (.lreturn, 1) := by decide +kernel
set_option maxRecDepth 20000 in
theorem ggX10_pour_X10_isTray : GoodIn wsX10_pour wsX10_isTray := goodIn_r _ [11] (by decide +kernel) (by decide +kernel)
set_option maxRecDepth 20000 in
theorem gX10_pour_X10_isTray : GoodIn wsX10_pour (va_wsS RX10 110 yX10_isTray wsX10_isTray) := goodIn_app (goodIn_of _ (by decide +kernel)) ggX10_pour_X10_isTray
set_option maxRecDepth 20000 in
theorem ggX10_pour_X10_refuse : GoodIn wsX10_pour wsX10_refuse := goodIn_r _ [15, 16, 31, 32, 33, 34, 35, 36, 37, 38, 39, 40, 41, 42, 43, 44, 45, 46, 47, 48, 49] (by decide +kernel) (by decide +kernel)
set_option maxRecDepth 20000 in
theorem gX10_pour_X10_refuse : GoodIn wsX10_pour (wsV RX10 114 RX10 yX10_refuse wsX10_refuse) := goodIn_app (goodIn_of _ (by decide +kernel)) ggX10_pour_X10_refuse
set_option maxRecDepth 20000 in
theorem ggX10_pour_X6_isMissing : GoodIn wsX10_pour wsX6_isMissing := goodIn_r _ [21, 22, 50, 51, 52] (by decide +kernel) (by decide +kernel)
set_option maxRecDepth 20000 in
theorem gX10_pour_X6_isMissing : GoodIn wsX10_pour (wsV RX10 141 RX6 yX6_isMissing wsX6_isMissing) := goodIn_app (goodIn_of _ (by decide +kernel)) ggX10_pour_X6_isMissing
set_option maxRecDepth 20000 in
theorem ggX10_pour_X6_holds : GoodIn wsX10_pour wsX6_holds := goodIn_r _ [26, 22, 50, 51, 52] (by decide +kernel) (by decide +kernel)
set_option maxRecDepth 20000 in
theorem gX10_pour_X6_holds : GoodIn wsX10_pour (wsV RX10 148 RX6 yX6_holds wsX6_holds) := goodIn_app (goodIn_of _ (by decide +kernel)) ggX10_pour_X6_holds
set_option maxRecDepth 20000 in
theorem ggX10_pour_X10_agree : GoodIn wsX10_pour wsX10_agree := goodIn_r _ [30, 16, 31, 32, 33, 34, 35, 36, 37, 38, 39, 40, 41, 42, 43, 44, 45, 46, 47, 48, 49] (by decide +kernel) (by decide +kernel)
set_option maxRecDepth 20000 in
theorem gX10_pour_X10_agree : GoodIn wsX10_pour (wsV RX10 121 RX10 yX10_agree wsX10_agree) := goodIn_app (goodIn_of _ (by decide +kernel)) ggX10_pour_X10_agree
theorem dX10_pour_0 : decode cX10_pour 0 = .ok (.iload_n 1, 1) := by decide +kernel
theorem dX10_pour_1 : decode cX10_pour 1 = .ok (.invokestatic 110, 3) := by decide +kernel
theorem dX10_pour_4 : decode cX10_pour 4 = .ok (.ifCond .eq 10, 3) := by decide +kernel
theorem dX10_pour_7 : decode cX10_pour 7 = .ok (.iload_n 3, 1) := by decide +kernel
theorem dX10_pour_8 : decode cX10_pour 8 = .ok (.invokestatic 110, 3) := by decide +kernel
theorem dX10_pour_11 : decode cX10_pour 11 = .ok (.ifCond .ne 9, 3) := by decide +kernel
theorem dX10_pour_14 : decode cX10_pour 14 = .ok (.aload_n 0, 1) := by decide +kernel
theorem dX10_pour_15 : decode cX10_pour 15 = .ok (.iconst 1, 1) := by decide +kernel
theorem dX10_pour_16 : decode cX10_pour 16 = .ok (.invokevirtual 114, 3) := by decide +kernel
theorem dX10_pour_19 : decode cX10_pour 19 = .ok (.ireturn, 1) := by decide +kernel
theorem dX10_pour_20 : decode cX10_pour 20 = .ok (.aload_n 0, 1) := by decide +kernel
theorem dX10_pour_21 : decode cX10_pour 21 = .ok (.getfield 10, 3) := by decide +kernel
theorem dX10_pour_24 : decode cX10_pour 24 = .ok (.iload_n 1, 1) := by decide +kernel
theorem dX10_pour_25 : decode cX10_pour 25 = .ok (.invokevirtual 141, 3) := by decide +kernel
theorem dX10_pour_28 : decode cX10_pour 28 = .ok (.ifCond .ne 14, 3) := by decide +kernel
theorem dX10_pour_31 : decode cX10_pour 31 = .ok (.aload_n 0, 1) := by decide +kernel
theorem dX10_pour_32 : decode cX10_pour 32 = .ok (.getfield 10, 3) := by decide +kernel
theorem dX10_pour_35 : decode cX10_pour 35 = .ok (.iload_n 3, 1) := by decide +kernel
theorem dX10_pour_36 : decode cX10_pour 36 = .ok (.invokevirtual 141, 3) := by decide +kernel
theorem dX10_pour_39 : decode cX10_pour 39 = .ok (.ifCond .eq 9, 3) := by decide +kernel
theorem dX10_pour_42 : decode cX10_pour 42 = .ok (.aload_n 0, 1) := by decide +kernel
theorem dX10_pour_43 : decode cX10_pour 43 = .ok (.iconst 3, 1) := by decide +kernel
theorem dX10_pour_44 : decode cX10_pour 44 = .ok (.invokevirtual 114, 3) := by decide +kernel
theorem dX10_pour_47 : decode cX10_pour 47 = .ok (.ireturn, 1) := by decide +kernel
theorem dX10_pour_48 : decode cX10_pour 48 = .ok (.aload_n 0, 1) := by decide +kernel
theorem dX10_pour_49 : decode cX10_pour 49 = .ok (.getfield 10, 3) := by decide +kernel
theorem dX10_pour_52 : decode cX10_pour 52 = .ok (.getfield 144, 3) := by decide +kernel
theorem dX10_pour_55 : decode cX10_pour 55 = .ok (.iload_n 1, 1) := by decide +kernel
theorem dX10_pour_56 : decode cX10_pour 56 = .ok (.iaload, 1) := by decide +kernel
theorem dX10_pour_57 : decode cX10_pour 57 = .ok (.aload_n 0, 1) := by decide +kernel
theorem dX10_pour_58 : decode cX10_pour 58 = .ok (.getfield 10, 3) := by decide +kernel
theorem dX10_pour_61 : decode cX10_pour 61 = .ok (.getfield 144, 3) := by decide +kernel
theorem dX10_pour_64 : decode cX10_pour 64 = .ok (.iload_n 3, 1) := by decide +kernel
theorem dX10_pour_65 : decode cX10_pour 65 = .ok (.iaload, 1) := by decide +kernel
theorem dX10_pour_66 : decode cX10_pour 66 = .ok (.if_icmp .eq 10, 3) := by decide +kernel
theorem dX10_pour_69 : decode cX10_pour 69 = .ok (.aload_n 0, 1) := by decide +kernel
theorem dX10_pour_70 : decode cX10_pour 70 = .ok (.bipush 11, 2) := by decide +kernel
theorem dX10_pour_72 : decode cX10_pour 72 = .ok (.invokevirtual 114, 3) := by decide +kernel
theorem dX10_pour_75 : decode cX10_pour 75 = .ok (.ireturn, 1) := by decide +kernel
theorem dX10_pour_76 : decode cX10_pour 76 = .ok (.iload 5, 2) := by decide +kernel
theorem dX10_pour_78 : decode cX10_pour 78 = .ok (.ifCond .ge 10, 3) := by decide +kernel
theorem dX10_pour_81 : decode cX10_pour 81 = .ok (.aload_n 0, 1) := by decide +kernel
theorem dX10_pour_82 : decode cX10_pour 82 = .ok (.bipush 6, 2) := by decide +kernel
theorem dX10_pour_84 : decode cX10_pour 84 = .ok (.invokevirtual 114, 3) := by decide +kernel
theorem dX10_pour_87 : decode cX10_pour 87 = .ok (.ireturn, 1) := by decide +kernel
theorem dX10_pour_88 : decode cX10_pour 88 = .ok (.aload_n 0, 1) := by decide +kernel
theorem dX10_pour_89 : decode cX10_pour 89 = .ok (.getfield 10, 3) := by decide +kernel
theorem dX10_pour_92 : decode cX10_pour 92 = .ok (.iload_n 1, 1) := by decide +kernel
theorem dX10_pour_93 : decode cX10_pour 93 = .ok (.iload_n 2, 1) := by decide +kernel
theorem dX10_pour_94 : decode cX10_pour 94 = .ok (.iload 5, 2) := by decide +kernel
theorem dX10_pour_96 : decode cX10_pour 96 = .ok (.invokevirtual 148, 3) := by decide +kernel
theorem dX10_pour_99 : decode cX10_pour 99 = .ok (.ifCond .eq 18, 3) := by decide +kernel
theorem dX10_pour_102 : decode cX10_pour 102 = .ok (.aload_n 0, 1) := by decide +kernel
theorem dX10_pour_103 : decode cX10_pour 103 = .ok (.getfield 10, 3) := by decide +kernel
theorem dX10_pour_106 : decode cX10_pour 106 = .ok (.iload_n 3, 1) := by decide +kernel
theorem dX10_pour_107 : decode cX10_pour 107 = .ok (.iload 4, 2) := by decide +kernel
theorem dX10_pour_109 : decode cX10_pour 109 = .ok (.iload 5, 2) := by decide +kernel
theorem dX10_pour_111 : decode cX10_pour 111 = .ok (.invokevirtual 148, 3) := by decide +kernel
theorem dX10_pour_114 : decode cX10_pour 114 = .ok (.ifCond .ne 9, 3) := by decide +kernel
theorem dX10_pour_117 : decode cX10_pour 117 = .ok (.aload_n 0, 1) := by decide +kernel
theorem dX10_pour_118 : decode cX10_pour 118 = .ok (.iconst 4, 1) := by decide +kernel
theorem dX10_pour_119 : decode cX10_pour 119 = .ok (.invokevirtual 114, 3) := by decide +kernel
theorem dX10_pour_122 : decode cX10_pour 122 = .ok (.ireturn, 1) := by decide +kernel
theorem dX10_pour_123 : decode cX10_pour 123 = .ok (.aload_n 0, 1) := by decide +kernel
theorem dX10_pour_124 : decode cX10_pour 124 = .ok (.getfield 10, 3) := by decide +kernel
theorem dX10_pour_127 : decode cX10_pour 127 = .ok (.getfield 137, 3) := by decide +kernel
theorem dX10_pour_130 : decode cX10_pour 130 = .ok (.iload_n 1, 1) := by decide +kernel
theorem dX10_pour_131 : decode cX10_pour 131 = .ok (.aaload, 1) := by decide +kernel
theorem dX10_pour_132 : decode cX10_pour 132 = .ok (.iload_n 2, 1) := by decide +kernel
theorem dX10_pour_133 : decode cX10_pour 133 = .ok (.aload_n 0, 1) := by decide +kernel
theorem dX10_pour_134 : decode cX10_pour 134 = .ok (.getfield 10, 3) := by decide +kernel
theorem dX10_pour_137 : decode cX10_pour 137 = .ok (.getfield 137, 3) := by decide +kernel
theorem dX10_pour_140 : decode cX10_pour 140 = .ok (.iload_n 3, 1) := by decide +kernel
theorem dX10_pour_141 : decode cX10_pour 141 = .ok (.aaload, 1) := by decide +kernel
theorem dX10_pour_142 : decode cX10_pour 142 = .ok (.iload 4, 2) := by decide +kernel
theorem dX10_pour_144 : decode cX10_pour 144 = .ok (.iload 5, 2) := by decide +kernel
theorem dX10_pour_146 : decode cX10_pour 146 = .ok (.invokestatic 152, 3) := by decide +kernel
theorem dX10_pour_149 : decode cX10_pour 149 = .ok (.aload_n 0, 1) := by decide +kernel
theorem dX10_pour_150 : decode cX10_pour 150 = .ok (.invokevirtual 121, 3) := by decide +kernel
theorem dX10_pour_153 : decode cX10_pour 153 = .ok (.ireturn, 1) := by decide +kernel
set_option maxRecDepth 20000 in
theorem ggX10_feed_X5_hasRoom : GoodIn wsX10_feed wsX5_hasRoom := goodIn_r _ [7, 8, 33, 34, 35, 36, 37, 38, 39, 40, 41, 42, 43, 44] (by decide +kernel) (by decide +kernel)
set_option maxRecDepth 20000 in
theorem gX10_feed_X5_hasRoom : GoodIn wsX10_feed (wsV RX10 158 RX5 yX5_hasRoom wsX5_hasRoom) := goodIn_app (goodIn_of _ (by decide +kernel)) ggX10_feed_X5_hasRoom
set_option maxRecDepth 20000 in
theorem ggX10_feed_X5_append : GoodIn wsX10_feed wsX5_append := goodIn_r _ [12, 8, 13, 33, 34, 35, 36, 37, 38, 39, 40, 41, 42, 43, 44] (by decide +kernel) (by decide +kernel)
set_option maxRecDepth 20000 in
theorem gX10_feed_X5_append : GoodIn wsX10_feed (wsV RX10 161 RX5 yX5_append wsX5_append) := goodIn_app (goodIn_of _ (by decide +kernel)) ggX10_feed_X5_append
theorem dX10_feed_0 : decode cX10_feed 0 = .ok (.aload_n 0, 1) := by decide +kernel
theorem dX10_feed_1 : decode cX10_feed 1 = .ok (.getfield 44, 3) := by decide +kernel
theorem dX10_feed_4 : decode cX10_feed 4 = .ok (.bipush 20, 2) := by decide +kernel
theorem dX10_feed_6 : decode cX10_feed 6 = .ok (.invokevirtual 158, 3) := by decide +kernel
theorem dX10_feed_9 : decode cX10_feed 9 = .ok (.ifCond .ne 5, 3) := by decide +kernel
theorem dX10_feed_12 : decode cX10_feed 12 = .ok (.iconst (-1), 1) := by decide +kernel
theorem dX10_feed_13 : decode cX10_feed 13 = .ok (.ireturn, 1) := by decide +kernel
theorem dX10_feed_14 : decode cX10_feed 14 = .ok (.aload_n 0, 1) := by decide +kernel
theorem dX10_feed_15 : decode cX10_feed 15 = .ok (.getfield 44, 3) := by decide +kernel
theorem dX10_feed_18 : decode cX10_feed 18 = .ok (.iload_n 1, 1) := by decide +kernel
theorem dX10_feed_19 : decode cX10_feed 19 = .ok (.invokevirtual 161, 3) := by decide +kernel
theorem dX10_feed_22 : decode cX10_feed 22 = .ok (.aload_n 0, 1) := by decide +kernel
theorem dX10_feed_23 : decode cX10_feed 23 = .ok (.getfield 44, 3) := by decide +kernel
theorem dX10_feed_26 : decode cX10_feed 26 = .ok (.iload_n 2, 1) := by decide +kernel
theorem dX10_feed_27 : decode cX10_feed 27 = .ok (.invokevirtual 161, 3) := by decide +kernel
theorem dX10_feed_30 : decode cX10_feed 30 = .ok (.aload_n 0, 1) := by decide +kernel
theorem dX10_feed_31 : decode cX10_feed 31 = .ok (.getfield 44, 3) := by decide +kernel
theorem dX10_feed_34 : decode cX10_feed 34 = .ok (.iload_n 3, 1) := by decide +kernel
theorem dX10_feed_35 : decode cX10_feed 35 = .ok (.invokevirtual 161, 3) := by decide +kernel
theorem dX10_feed_38 : decode cX10_feed 38 = .ok (.aload_n 0, 1) := by decide +kernel
theorem dX10_feed_39 : decode cX10_feed 39 = .ok (.getfield 44, 3) := by decide +kernel
theorem dX10_feed_42 : decode cX10_feed 42 = .ok (.iload 4, 2) := by decide +kernel
theorem dX10_feed_44 : decode cX10_feed 44 = .ok (.invokevirtual 161, 3) := by decide +kernel
theorem dX10_feed_47 : decode cX10_feed 47 = .ok (.aload_n 0, 1) := by decide +kernel
theorem dX10_feed_48 : decode cX10_feed 48 = .ok (.getfield 44, 3) := by decide +kernel
theorem dX10_feed_51 : decode cX10_feed 51 = .ok (.iload 5, 2) := by decide +kernel
theorem dX10_feed_53 : decode cX10_feed 53 = .ok (.invokevirtual 161, 3) := by decide +kernel
theorem dX10_feed_56 : decode cX10_feed 56 = .ok (.aload_n 0, 1) := by decide +kernel
theorem dX10_feed_57 : decode cX10_feed 57 = .ok (.getfield 44, 3) := by decide +kernel
theorem dX10_feed_60 : decode cX10_feed 60 = .ok (.getfield 165, 3) := by decide +kernel
theorem dX10_feed_63 : decode cX10_feed 63 = .ok (.ireturn, 1) := by decide +kernel
set_option maxRecDepth 20000 in
theorem ggX10_court_X10_none : GoodIn wsX10_court wsX10_none := goodIn_r _ [14, 15, 246, 247, 248, 249, 250, 251, 252, 253, 254, 255, 256, 257, 258, 259, 260, 261, 262, 263, 264] (by decide +kernel) (by decide +kernel)
set_option maxRecDepth 20000 in
theorem gX10_court_X10_none : GoodIn wsX10_court (wsV RX10 133 RX10 yX10_none wsX10_none) := goodIn_app (goodIn_of _ (by decide +kernel)) ggX10_court_X10_none
set_option maxRecDepth 20000 in
theorem ggX10_court_X2_readCourt : GoodIn wsX10_court wsX2_readCourt := goodIn_r _ [20, 21, 22, 23, 24, 25, 26, 27, 28, 29, 30, 31, 32, 33, 34, 35, 36, 37, 38, 39, 40, 41, 42, 43, 44, 45, 46, 47, 48, 49, 50, 51, 52, 53, 54, 55, 56, 57, 58, 59, 60, 61, 62, 63, 64, 65, 66, 67, 68, 69, 19, 70, 71, 72, 73, 74, 75, 76, 77, 78, 79, 80, 81, 82, 83, 84, 85, 86, 87, 88, 89, 90, 91, 92, 93, 94, 95, 96, 97, 98, 99, 100, 101, 102, 103, 104, 105, 106, 107, 108, 109, 110, 111, 112, 113, 114, 115, 116, 117, 118, 119, 120, 121, 122, 123, 124, 125, 126, 127, 128, 129, 130, 131, 132, 133, 134, 135, 136, 137, 138, 139, 140, 141, 142, 143, 144, 145, 146, 147, 148, 149, 150, 151, 152, 153, 154, 155, 156, 157, 158, 159, 160, 161, 162, 163, 164, 165, 166, 167, 168, 169, 170, 171, 172, 173, 174, 175, 176, 177, 178, 179, 180, 181, 182, 183, 184, 185, 186, 187, 188, 189, 190, 191, 192, 293, 265, 266, 267, 268, 269, 270, 271, 272, 273, 274, 275, 276, 280, 281, 282, 283, 284, 285, 286, 287, 288, 289, 290, 291, 292] (by decide +kernel) (by decide +kernel)
set_option maxRecDepth 20000 in
theorem gX10_court_X2_readCourt : GoodIn wsX10_court (wsV RX10 168 RX2 yX2_readCourt wsX2_readCourt) := goodIn_app (goodIn_of _ (by decide +kernel)) ggX10_court_X2_readCourt
set_option maxRecDepth 20000 in
theorem ggX10_court_X10_keepFault : GoodIn wsX10_court wsX10_keepFault := goodIn_r _ [196, 1, 197, 198, 199, 200, 246, 247, 248, 249, 250, 251, 252, 253, 254, 255, 256, 257, 258, 259, 260, 261, 262, 263, 264, 265, 266, 267, 268, 269, 270, 271, 272, 273, 274, 275, 276] (by decide +kernel) (by decide +kernel)
set_option maxRecDepth 20000 in
theorem gX10_court_X10_keepFault : GoodIn wsX10_court (wsV RX10 172 RX10 yX10_keepFault wsX10_keepFault) := goodIn_app (goodIn_of _ (by decide +kernel)) ggX10_court_X10_keepFault
set_option maxRecDepth 20000 in
theorem ggX10_court_X1_copyFrom : GoodIn wsX10_court wsX1_copyFrom := goodIn_r _ [204, 29, 205, 206, 207, 208, 102, 209, 210, 211, 30, 31, 212, 213, 214, 32, 33, 34, 280, 281, 282, 283, 284, 285, 286, 287, 288, 289, 290, 291, 292] (by decide +kernel) (by decide +kernel)
set_option maxRecDepth 20000 in
theorem gX10_court_X1_copyFrom : GoodIn wsX10_court (wsV RX10 178 RX1 yX1_copyFrom wsX1_copyFrom) := goodIn_app (goodIn_of _ (by decide +kernel)) ggX10_court_X1_copyFrom
set_option maxRecDepth 20000 in
theorem ggX10_court_X3_openCourt : GoodIn wsX10_court wsX3_openCourt := goodIn_r _ [219, 220, 221, 222, 223, 224, 225, 226, 218, 227, 228, 229, 230, 231, 232, 233, 294, 295, 296, 297, 298, 299, 300, 301, 280, 281, 282, 283, 284, 285, 286, 287, 288, 289, 290, 291, 292] (by decide +kernel) (by decide +kernel)
set_option maxRecDepth 20000 in
theorem gX10_court_X3_openCourt : GoodIn wsX10_court (wsV RX10 185 RX3 yX3_openCourt wsX3_openCourt) := goodIn_app (goodIn_of _ (by decide +kernel)) ggX10_court_X3_openCourt
set_option maxRecDepth 20000 in
theorem ggX10_court_X7_clear : GoodIn wsX10_court wsX7_clear := goodIn_r _ [238, 239, 240, 241, 302, 303, 304, 305, 306, 307, 308, 309, 310] (by decide +kernel) (by decide +kernel)
set_option maxRecDepth 20000 in
theorem gX10_court_X7_clear : GoodIn wsX10_court (wsV RX10 191 RX7 yX7_clear wsX7_clear) := goodIn_app (goodIn_of _ (by decide +kernel)) ggX10_court_X7_clear
set_option maxRecDepth 20000 in
theorem ggX10_court_X10_answer : GoodIn wsX10_court wsX10_answer := goodIn_r _ [245, 15, 246, 247, 248, 249, 250, 251, 252, 253, 254, 255, 256, 257, 258, 259, 260, 261, 262, 263, 264] (by decide +kernel) (by decide +kernel)
set_option maxRecDepth 20000 in
theorem gX10_court_X10_answer : GoodIn wsX10_court (wsV RX10 197 RX10 yX10_answer wsX10_answer) := goodIn_app (goodIn_of _ (by decide +kernel)) ggX10_court_X10_answer
theorem dX10_court_0 : decode cX10_court 0 = .ok (.iload_n 1, 1) := by decide +kernel
theorem dX10_court_1 : decode cX10_court 1 = .ok (.ifCond .lt 14, 3) := by decide +kernel
theorem dX10_court_4 : decode cX10_court 4 = .ok (.iload_n 1, 1) := by decide +kernel
theorem dX10_court_5 : decode cX10_court 5 = .ok (.aload_n 0, 1) := by decide +kernel
theorem dX10_court_6 : decode cX10_court 6 = .ok (.getfield 44, 3) := by decide +kernel
theorem dX10_court_9 : decode cX10_court 9 = .ok (.getfield 165, 3) := by decide +kernel
theorem dX10_court_12 : decode cX10_court 12 = .ok (.if_icmp .le 9, 3) := by decide +kernel
theorem dX10_court_15 : decode cX10_court 15 = .ok (.aload_n 0, 1) := by decide +kernel
theorem dX10_court_16 : decode cX10_court 16 = .ok (.iconst 5, 1) := by decide +kernel
theorem dX10_court_17 : decode cX10_court 17 = .ok (.invokevirtual 133, 3) := by decide +kernel
theorem dX10_court_20 : decode cX10_court 20 = .ok (.ireturn, 1) := by decide +kernel
theorem dX10_court_21 : decode cX10_court 21 = .ok (.aload_n 0, 1) := by decide +kernel
theorem dX10_court_22 : decode cX10_court 22 = .ok (.getfield 51, 3) := by decide +kernel
theorem dX10_court_25 : decode cX10_court 25 = .ok (.aload_n 0, 1) := by decide +kernel
theorem dX10_court_26 : decode cX10_court 26 = .ok (.getfield 44, 3) := by decide +kernel
theorem dX10_court_29 : decode cX10_court 29 = .ok (.iload_n 1, 1) := by decide +kernel
theorem dX10_court_30 : decode cX10_court 30 = .ok (.aload_n 0, 1) := by decide +kernel
theorem dX10_court_31 : decode cX10_court 31 = .ok (.getfield 30, 3) := by decide +kernel
theorem dX10_court_34 : decode cX10_court 34 = .ok (.invokevirtual 168, 3) := by decide +kernel
theorem dX10_court_37 : decode cX10_court 37 = .ok (.aload_n 0, 1) := by decide +kernel
theorem dX10_court_38 : decode cX10_court 38 = .ok (.getfield 44, 3) := by decide +kernel
theorem dX10_court_41 : decode cX10_court 41 = .ok (.iconst 0, 1) := by decide +kernel
theorem dX10_court_42 : decode cX10_court 42 = .ok (.putfield 165, 3) := by decide +kernel
theorem dX10_court_45 : decode cX10_court 45 = .ok (.aload_n 0, 1) := by decide +kernel
theorem dX10_court_46 : decode cX10_court 46 = .ok (.invokevirtual 172, 3) := by decide +kernel
theorem dX10_court_49 : decode cX10_court 49 = .ok (.ifCond .eq 10, 3) := by decide +kernel
theorem dX10_court_52 : decode cX10_court 52 = .ok (.aload_n 0, 1) := by decide +kernel
theorem dX10_court_53 : decode cX10_court 53 = .ok (.bipush 10, 2) := by decide +kernel
theorem dX10_court_55 : decode cX10_court 55 = .ok (.invokevirtual 133, 3) := by decide +kernel
theorem dX10_court_58 : decode cX10_court 58 = .ok (.ireturn, 1) := by decide +kernel
theorem dX10_court_59 : decode cX10_court 59 = .ok (.aload_n 0, 1) := by decide +kernel
theorem dX10_court_60 : decode cX10_court 60 = .ok (.getfield 19, 3) := by decide +kernel
theorem dX10_court_63 : decode cX10_court 63 = .ok (.getfield 175, 3) := by decide +kernel
theorem dX10_court_66 : decode cX10_court 66 = .ok (.aload_n 0, 1) := by decide +kernel
theorem dX10_court_67 : decode cX10_court 67 = .ok (.getfield 30, 3) := by decide +kernel
theorem dX10_court_70 : decode cX10_court 70 = .ok (.invokevirtual 178, 3) := by decide +kernel
theorem dX10_court_73 : decode cX10_court 73 = .ok (.aload_n 0, 1) := by decide +kernel
theorem dX10_court_74 : decode cX10_court 74 = .ok (.getfield 19, 3) := by decide +kernel
theorem dX10_court_77 : decode cX10_court 77 = .ok (.getfield 182, 3) := by decide +kernel
theorem dX10_court_80 : decode cX10_court 80 = .ok (.aload_n 0, 1) := by decide +kernel
theorem dX10_court_81 : decode cX10_court 81 = .ok (.getfield 19, 3) := by decide +kernel
theorem dX10_court_84 : decode cX10_court 84 = .ok (.getfield 175, 3) := by decide +kernel
theorem dX10_court_87 : decode cX10_court 87 = .ok (.invokevirtual 185, 3) := by decide +kernel
theorem dX10_court_90 : decode cX10_court 90 = .ok (.aload_n 0, 1) := by decide +kernel
theorem dX10_court_91 : decode cX10_court 91 = .ok (.getfield 19, 3) := by decide +kernel
theorem dX10_court_94 : decode cX10_court 94 = .ok (.getfield 188, 3) := by decide +kernel
theorem dX10_court_97 : decode cX10_court 97 = .ok (.invokevirtual 191, 3) := by decide +kernel
theorem dX10_court_100 : decode cX10_court 100 = .ok (.aload_n 0, 1) := by decide +kernel
theorem dX10_court_101 : decode cX10_court 101 = .ok (.aload_n 0, 1) := by decide +kernel
theorem dX10_court_102 : decode cX10_court 102 = .ok (.getfield 19, 3) := by decide +kernel
theorem dX10_court_105 : decode cX10_court 105 = .ok (.getfield 175, 3) := by decide +kernel
theorem dX10_court_108 : decode cX10_court 108 = .ok (.getfield 194, 3) := by decide +kernel
theorem dX10_court_111 : decode cX10_court 111 = .ok (.iconst 0, 1) := by decide +kernel
theorem dX10_court_112 : decode cX10_court 112 = .ok (.iaload, 1) := by decide +kernel
theorem dX10_court_113 : decode cX10_court 113 = .ok (.invokevirtual 197, 3) := by decide +kernel
theorem dX10_court_116 : decode cX10_court 116 = .ok (.ireturn, 1) := by decide +kernel
set_option maxRecDepth 20000 in
theorem ggX10_weeks_X10_none : GoodIn wsX10_weeks wsX10_none := goodIn_r _ [13, 14, 171, 172, 173, 174, 175, 176, 177, 178, 179, 180, 181, 182, 183, 184, 185, 186, 187, 188, 189] (by decide +kernel) (by decide +kernel)
set_option maxRecDepth 20000 in
theorem gX10_weeks_X10_none : GoodIn wsX10_weeks (wsV RX10 133 RX10 yX10_none wsX10_none) := goodIn_app (goodIn_of _ (by decide +kernel)) ggX10_weeks_X10_none
set_option maxRecDepth 20000 in
theorem ggX10_weeks_X8_readWeeks : GoodIn wsX10_weeks wsX8_readWeeks := goodIn_r _ [19, 20, 21, 22, 23, 24, 25, 26, 27, 28, 29, 30, 31, 32, 33, 34, 35, 36, 37, 38, 39, 40, 41, 42, 43, 44, 45, 46, 47, 48, 49, 50, 51, 52, 53, 54, 55, 56, 57, 58, 59, 60, 61, 62, 63, 64, 65, 66, 67, 68, 69, 70, 18, 71, 72, 73, 74, 75, 76, 77, 78, 79, 80, 81, 82, 83, 84, 85, 86, 87, 88, 89, 90, 91, 92, 93, 94, 95, 96, 97, 98, 99, 100, 101, 102, 103, 104, 105, 106, 107, 108, 109, 110, 111, 112, 113, 114, 115, 116, 117, 118, 119, 120, 121, 122, 123, 124, 125, 126, 127, 128, 129, 130, 131, 132, 133, 134, 135, 136, 137, 138, 139, 140, 141, 142, 143, 144, 145, 146, 147, 148, 149, 150, 205, 206, 207, 208, 209, 210, 211, 212, 213, 214, 215, 190, 191, 192, 193, 194, 195, 196, 197, 198, 199, 200, 201, 216, 217, 218, 219, 220, 221, 222, 223, 224, 225, 226, 227, 228] (by decide +kernel) (by decide +kernel)
set_option maxRecDepth 20000 in
theorem gX10_weeks_X8_readWeeks : GoodIn wsX10_weeks (wsV RX10 200 RX8 yX8_readWeeks wsX8_readWeeks) := goodIn_app (goodIn_of _ (by decide +kernel)) ggX10_weeks_X8_readWeeks
set_option maxRecDepth 20000 in
theorem ggX10_weeks_X10_keepFault : GoodIn wsX10_weeks wsX10_keepFault := goodIn_r _ [154, 1, 155, 156, 157, 158, 171, 172, 173, 174, 175, 176, 177, 178, 179, 180, 181, 182, 183, 184, 185, 186, 187, 188, 189, 190, 191, 192, 193, 194, 195, 196, 197, 198, 199, 200, 201] (by decide +kernel) (by decide +kernel)
set_option maxRecDepth 20000 in
theorem gX10_weeks_X10_keepFault : GoodIn wsX10_weeks (wsV RX10 172 RX10 yX10_keepFault wsX10_keepFault) := goodIn_app (goodIn_of _ (by decide +kernel)) ggX10_weeks_X10_keepFault
set_option maxRecDepth 20000 in
theorem ggX10_weeks_X7_copyFrom : GoodIn wsX10_weeks wsX7_copyFrom := goodIn_r _ [162, 82, 163, 164, 165, 166, 83, 84, 85, 86, 87, 29, 30, 31, 205, 206, 207, 208, 209, 210, 211, 212, 213] (by decide +kernel) (by decide +kernel)
set_option maxRecDepth 20000 in
theorem gX10_weeks_X7_copyFrom : GoodIn wsX10_weeks (wsV RX10 204 RX7 yX7_copyFrom wsX7_copyFrom) := goodIn_app (goodIn_of _ (by decide +kernel)) ggX10_weeks_X7_copyFrom
set_option maxRecDepth 20000 in
theorem ggX10_weeks_X10_answer : GoodIn wsX10_weeks wsX10_answer := goodIn_r _ [170, 14, 171, 172, 173, 174, 175, 176, 177, 178, 179, 180, 181, 182, 183, 184, 185, 186, 187, 188, 189] (by decide +kernel) (by decide +kernel)
set_option maxRecDepth 20000 in
theorem gX10_weeks_X10_answer : GoodIn wsX10_weeks (wsV RX10 197 RX10 yX10_answer wsX10_answer) := goodIn_app (goodIn_of _ (by decide +kernel)) ggX10_weeks_X10_answer
theorem dX10_weeks_0 : decode cX10_weeks 0 = .ok (.iload_n 1, 1) := by decide +kernel
theorem dX10_weeks_1 : decode cX10_weeks 1 = .ok (.ifCond .lt 21, 3) := by decide +kernel
theorem dX10_weeks_4 : decode cX10_weeks 4 = .ok (.iload_n 1, 1) := by decide +kernel
theorem dX10_weeks_5 : decode cX10_weeks 5 = .ok (.aload_n 0, 1) := by decide +kernel
theorem dX10_weeks_6 : decode cX10_weeks 6 = .ok (.getfield 44, 3) := by decide +kernel
theorem dX10_weeks_9 : decode cX10_weeks 9 = .ok (.getfield 165, 3) := by decide +kernel
theorem dX10_weeks_12 : decode cX10_weeks 12 = .ok (.if_icmp .gt 10, 3) := by decide +kernel
theorem dX10_weeks_15 : decode cX10_weeks 15 = .ok (.iload_n 1, 1) := by decide +kernel
theorem dX10_weeks_16 : decode cX10_weeks 16 = .ok (.sipush 300, 3) := by decide +kernel
theorem dX10_weeks_19 : decode cX10_weeks 19 = .ok (.if_icmp .le 9, 3) := by decide +kernel
theorem dX10_weeks_22 : decode cX10_weeks 22 = .ok (.aload_n 0, 1) := by decide +kernel
theorem dX10_weeks_23 : decode cX10_weeks 23 = .ok (.iconst 5, 1) := by decide +kernel
theorem dX10_weeks_24 : decode cX10_weeks 24 = .ok (.invokevirtual 133, 3) := by decide +kernel
theorem dX10_weeks_27 : decode cX10_weeks 27 = .ok (.ireturn, 1) := by decide +kernel
theorem dX10_weeks_28 : decode cX10_weeks 28 = .ok (.aload_n 0, 1) := by decide +kernel
theorem dX10_weeks_29 : decode cX10_weeks 29 = .ok (.getfield 58, 3) := by decide +kernel
theorem dX10_weeks_32 : decode cX10_weeks 32 = .ok (.aload_n 0, 1) := by decide +kernel
theorem dX10_weeks_33 : decode cX10_weeks 33 = .ok (.getfield 44, 3) := by decide +kernel
theorem dX10_weeks_36 : decode cX10_weeks 36 = .ok (.iload_n 1, 1) := by decide +kernel
theorem dX10_weeks_37 : decode cX10_weeks 37 = .ok (.aload_n 0, 1) := by decide +kernel
theorem dX10_weeks_38 : decode cX10_weeks 38 = .ok (.getfield 19, 3) := by decide +kernel
theorem dX10_weeks_41 : decode cX10_weeks 41 = .ok (.getfield 175, 3) := by decide +kernel
theorem dX10_weeks_44 : decode cX10_weeks 44 = .ok (.aload_n 0, 1) := by decide +kernel
theorem dX10_weeks_45 : decode cX10_weeks 45 = .ok (.getfield 37, 3) := by decide +kernel
theorem dX10_weeks_48 : decode cX10_weeks 48 = .ok (.invokevirtual 200, 3) := by decide +kernel
theorem dX10_weeks_51 : decode cX10_weeks 51 = .ok (.aload_n 0, 1) := by decide +kernel
theorem dX10_weeks_52 : decode cX10_weeks 52 = .ok (.getfield 44, 3) := by decide +kernel
theorem dX10_weeks_55 : decode cX10_weeks 55 = .ok (.iconst 0, 1) := by decide +kernel
theorem dX10_weeks_56 : decode cX10_weeks 56 = .ok (.putfield 165, 3) := by decide +kernel
theorem dX10_weeks_59 : decode cX10_weeks 59 = .ok (.aload_n 0, 1) := by decide +kernel
theorem dX10_weeks_60 : decode cX10_weeks 60 = .ok (.invokevirtual 172, 3) := by decide +kernel
theorem dX10_weeks_63 : decode cX10_weeks 63 = .ok (.ifCond .eq 10, 3) := by decide +kernel
theorem dX10_weeks_66 : decode cX10_weeks 66 = .ok (.aload_n 0, 1) := by decide +kernel
theorem dX10_weeks_67 : decode cX10_weeks 67 = .ok (.bipush 10, 2) := by decide +kernel
theorem dX10_weeks_69 : decode cX10_weeks 69 = .ok (.invokevirtual 133, 3) := by decide +kernel
theorem dX10_weeks_72 : decode cX10_weeks 72 = .ok (.ireturn, 1) := by decide +kernel
theorem dX10_weeks_73 : decode cX10_weeks 73 = .ok (.aload_n 0, 1) := by decide +kernel
theorem dX10_weeks_74 : decode cX10_weeks 74 = .ok (.getfield 19, 3) := by decide +kernel
theorem dX10_weeks_77 : decode cX10_weeks 77 = .ok (.getfield 188, 3) := by decide +kernel
theorem dX10_weeks_80 : decode cX10_weeks 80 = .ok (.aload_n 0, 1) := by decide +kernel
theorem dX10_weeks_81 : decode cX10_weeks 81 = .ok (.getfield 37, 3) := by decide +kernel
theorem dX10_weeks_84 : decode cX10_weeks 84 = .ok (.invokevirtual 204, 3) := by decide +kernel
theorem dX10_weeks_87 : decode cX10_weeks 87 = .ok (.aload_n 0, 1) := by decide +kernel
theorem dX10_weeks_88 : decode cX10_weeks 88 = .ok (.aload_n 0, 1) := by decide +kernel
theorem dX10_weeks_89 : decode cX10_weeks 89 = .ok (.getfield 19, 3) := by decide +kernel
theorem dX10_weeks_92 : decode cX10_weeks 92 = .ok (.getfield 188, 3) := by decide +kernel
theorem dX10_weeks_95 : decode cX10_weeks 95 = .ok (.getfield 207, 3) := by decide +kernel
theorem dX10_weeks_98 : decode cX10_weeks 98 = .ok (.invokevirtual 197, 3) := by decide +kernel
theorem dX10_weeks_101 : decode cX10_weeks 101 = .ok (.ireturn, 1) := by decide +kernel
theorem dX10_fault_0 : decode cX10_fault 0 = .ok (.iload_n 1, 1) := by decide +kernel
theorem dX10_fault_1 : decode cX10_fault 1 = .ok (.ifCond .ne 8, 3) := by decide +kernel
theorem dX10_fault_4 : decode cX10_fault 4 = .ok (.aload_n 0, 1) := by decide +kernel
theorem dX10_fault_5 : decode cX10_fault 5 = .ok (.getfield 97, 3) := by decide +kernel
theorem dX10_fault_8 : decode cX10_fault 8 = .ok (.ireturn, 1) := by decide +kernel
theorem dX10_fault_9 : decode cX10_fault 9 = .ok (.iload_n 1, 1) := by decide +kernel
theorem dX10_fault_10 : decode cX10_fault 10 = .ok (.iconst 1, 1) := by decide +kernel
theorem dX10_fault_11 : decode cX10_fault 11 = .ok (.if_icmp .ne 10, 3) := by decide +kernel
theorem dX10_fault_14 : decode cX10_fault 14 = .ok (.aload_n 0, 1) := by decide +kernel
theorem dX10_fault_15 : decode cX10_fault 15 = .ok (.getfield 100, 3) := by decide +kernel
theorem dX10_fault_18 : decode cX10_fault 18 = .ok (.goto 4, 3) := by decide +kernel
theorem dX10_fault_21 : decode cX10_fault 21 = .ok (.iconst (-1), 1) := by decide +kernel
theorem dX10_fault_22 : decode cX10_fault 22 = .ok (.ireturn, 1) := by decide +kernel
set_option maxRecDepth 20000 in
theorem ggX10_many_X10_none : GoodIn wsX10_many wsX10_none := goodIn_r _ [17, 18, 27, 28, 29, 30, 31, 32, 33, 34, 35, 36, 37, 38, 39, 40, 41, 42, 43, 44, 45] (by decide +kernel) (by decide +kernel)
set_option maxRecDepth 20000 in
theorem gX10_many_X10_none : GoodIn wsX10_many (wsV RX10 133 RX10 yX10_none wsX10_none) := goodIn_app (goodIn_of _ (by decide +kernel)) ggX10_many_X10_none
set_option maxRecDepth 20000 in
theorem ggX10_many_X10_answer : GoodIn wsX10_many wsX10_answer := goodIn_r _ [22, 18, 27, 28, 29, 30, 31, 32, 33, 34, 35, 36, 37, 38, 39, 40, 41, 42, 43, 44, 45] (by decide +kernel) (by decide +kernel)
set_option maxRecDepth 20000 in
theorem gX10_many_X10_answer : GoodIn wsX10_many (wsV RX10 197 RX10 yX10_answer wsX10_answer) := goodIn_app (goodIn_of _ (by decide +kernel)) ggX10_many_X10_answer
set_option maxRecDepth 20000 in
theorem ggX10_many_X10_hasNoWeather : GoodIn wsX10_many wsX10_hasNoWeather := goodIn_r _ [26, 1, 2, 12, 27, 28, 29, 30, 31, 32, 33, 34, 35, 36, 37, 38, 39, 40, 41, 42, 43, 44, 45, 46, 47, 48, 49, 50, 51, 52, 53, 54, 55, 56, 57, 58, 59, 60, 61] (by decide +kernel) (by decide +kernel)
set_option maxRecDepth 20000 in
theorem gX10_many_X10_hasNoWeather : GoodIn wsX10_many (wsV RX10 222 RX10 yX10_hasNoWeather wsX10_hasNoWeather) := goodIn_app (goodIn_of _ (by decide +kernel)) ggX10_many_X10_hasNoWeather
theorem dX10_many_0 : decode cX10_many 0 = .ok (.iload_n 1, 1) := by decide +kernel
theorem dX10_many_1 : decode cX10_many 1 = .ok (.ifCond .lt 9, 3) := by decide +kernel
theorem dX10_many_4 : decode cX10_many 4 = .ok (.iload_n 1, 1) := by decide +kernel
theorem dX10_many_5 : decode cX10_many 5 = .ok (.bipush 11, 2) := by decide +kernel
theorem dX10_many_7 : decode cX10_many 7 = .ok (.if_icmp .le 9, 3) := by decide +kernel
theorem dX10_many_10 : decode cX10_many 10 = .ok (.aload_n 0, 1) := by decide +kernel
theorem dX10_many_11 : decode cX10_many 11 = .ok (.iconst 5, 1) := by decide +kernel
theorem dX10_many_12 : decode cX10_many 12 = .ok (.invokevirtual 133, 3) := by decide +kernel
theorem dX10_many_15 : decode cX10_many 15 = .ok (.ireturn, 1) := by decide +kernel
theorem dX10_many_16 : decode cX10_many 16 = .ok (.aload_n 0, 1) := by decide +kernel
theorem dX10_many_17 : decode cX10_many 17 = .ok (.getfield 19, 3) := by decide +kernel
theorem dX10_many_20 : decode cX10_many 20 = .ok (.getfield 175, 3) := by decide +kernel
theorem dX10_many_23 : decode cX10_many 23 = .ok (.astore_n 2, 1) := by decide +kernel
theorem dX10_many_24 : decode cX10_many 24 = .ok (.aload_n 0, 1) := by decide +kernel
theorem dX10_many_25 : decode cX10_many 25 = .ok (.getfield 19, 3) := by decide +kernel
theorem dX10_many_28 : decode cX10_many 28 = .ok (.getfield 182, 3) := by decide +kernel
theorem dX10_many_31 : decode cX10_many 31 = .ok (.astore_n 3, 1) := by decide +kernel
theorem dX10_many_32 : decode cX10_many 32 = .ok (.iload_n 1, 1) := by decide +kernel
theorem dX10_many_33 : decode cX10_many 33 = .ok (.tableswitch 151 4 11 #[47, 72, 81, 90, 99, 124, 133, 142], 47) := by decide +kernel
theorem dX10_many_80 : decode cX10_many 80 = .ok (.aload_n 2, 1) := by decide +kernel
theorem dX10_many_81 : decode cX10_many 81 = .ok (.getfield 210, 3) := by decide +kernel
theorem dX10_many_84 : decode cX10_many 84 = .ok (.ifCond .ne 12, 3) := by decide +kernel
theorem dX10_many_87 : decode cX10_many 87 = .ok (.aload_n 0, 1) := by decide +kernel
theorem dX10_many_88 : decode cX10_many 88 = .ok (.bipush 8, 2) := by decide +kernel
theorem dX10_many_90 : decode cX10_many 90 = .ok (.invokevirtual 133, 3) := by decide +kernel
theorem dX10_many_93 : decode cX10_many 93 = .ok (.goto 11, 3) := by decide +kernel
theorem dX10_many_96 : decode cX10_many 96 = .ok (.aload_n 0, 1) := by decide +kernel
theorem dX10_many_97 : decode cX10_many 97 = .ok (.aload_n 2, 1) := by decide +kernel
theorem dX10_many_98 : decode cX10_many 98 = .ok (.getfield 210, 3) := by decide +kernel
theorem dX10_many_101 : decode cX10_many 101 = .ok (.invokevirtual 197, 3) := by decide +kernel
theorem dX10_many_104 : decode cX10_many 104 = .ok (.ireturn, 1) := by decide +kernel
theorem dX10_many_105 : decode cX10_many 105 = .ok (.aload_n 0, 1) := by decide +kernel
theorem dX10_many_106 : decode cX10_many 106 = .ok (.aload_n 2, 1) := by decide +kernel
theorem dX10_many_107 : decode cX10_many 107 = .ok (.getfield 213, 3) := by decide +kernel
theorem dX10_many_110 : decode cX10_many 110 = .ok (.invokevirtual 197, 3) := by decide +kernel
theorem dX10_many_113 : decode cX10_many 113 = .ok (.ireturn, 1) := by decide +kernel
theorem dX10_many_114 : decode cX10_many 114 = .ok (.aload_n 0, 1) := by decide +kernel
theorem dX10_many_115 : decode cX10_many 115 = .ok (.aload_n 3, 1) := by decide +kernel
theorem dX10_many_116 : decode cX10_many 116 = .ok (.getfield 216, 3) := by decide +kernel
theorem dX10_many_119 : decode cX10_many 119 = .ok (.invokevirtual 197, 3) := by decide +kernel
theorem dX10_many_122 : decode cX10_many 122 = .ok (.ireturn, 1) := by decide +kernel
theorem dX10_many_123 : decode cX10_many 123 = .ok (.aload_n 0, 1) := by decide +kernel
theorem dX10_many_124 : decode cX10_many 124 = .ok (.aload_n 3, 1) := by decide +kernel
theorem dX10_many_125 : decode cX10_many 125 = .ok (.getfield 219, 3) := by decide +kernel
theorem dX10_many_128 : decode cX10_many 128 = .ok (.invokevirtual 197, 3) := by decide +kernel
theorem dX10_many_131 : decode cX10_many 131 = .ok (.ireturn, 1) := by decide +kernel
theorem dX10_many_132 : decode cX10_many 132 = .ok (.aload_n 0, 1) := by decide +kernel
theorem dX10_many_133 : decode cX10_many 133 = .ok (.invokevirtual 222, 3) := by decide +kernel
theorem dX10_many_136 : decode cX10_many 136 = .ok (.ifCond .eq 12, 3) := by decide +kernel
theorem dX10_many_139 : decode cX10_many 139 = .ok (.aload_n 0, 1) := by decide +kernel
theorem dX10_many_140 : decode cX10_many 140 = .ok (.bipush 8, 2) := by decide +kernel
theorem dX10_many_142 : decode cX10_many 142 = .ok (.invokevirtual 133, 3) := by decide +kernel
theorem dX10_many_145 : decode cX10_many 145 = .ok (.goto 11, 3) := by decide +kernel
theorem dX10_many_148 : decode cX10_many 148 = .ok (.aload_n 0, 1) := by decide +kernel
theorem dX10_many_149 : decode cX10_many 149 = .ok (.aload_n 3, 1) := by decide +kernel
theorem dX10_many_150 : decode cX10_many 150 = .ok (.getfield 225, 3) := by decide +kernel
theorem dX10_many_153 : decode cX10_many 153 = .ok (.invokevirtual 197, 3) := by decide +kernel
theorem dX10_many_156 : decode cX10_many 156 = .ok (.ireturn, 1) := by decide +kernel
theorem dX10_many_157 : decode cX10_many 157 = .ok (.aload_n 0, 1) := by decide +kernel
theorem dX10_many_158 : decode cX10_many 158 = .ok (.aload_n 3, 1) := by decide +kernel
theorem dX10_many_159 : decode cX10_many 159 = .ok (.getfield 228, 3) := by decide +kernel
theorem dX10_many_162 : decode cX10_many 162 = .ok (.invokevirtual 197, 3) := by decide +kernel
theorem dX10_many_165 : decode cX10_many 165 = .ok (.ireturn, 1) := by decide +kernel
theorem dX10_many_166 : decode cX10_many 166 = .ok (.aload_n 0, 1) := by decide +kernel
theorem dX10_many_167 : decode cX10_many 167 = .ok (.aload_n 3, 1) := by decide +kernel
theorem dX10_many_168 : decode cX10_many 168 = .ok (.getfield 231, 3) := by decide +kernel
theorem dX10_many_171 : decode cX10_many 171 = .ok (.invokevirtual 197, 3) := by decide +kernel
theorem dX10_many_174 : decode cX10_many 174 = .ok (.ireturn, 1) := by decide +kernel
theorem dX10_many_175 : decode cX10_many 175 = .ok (.aload_n 0, 1) := by decide +kernel
theorem dX10_many_176 : decode cX10_many 176 = .ok (.aload_n 3, 1) := by decide +kernel
theorem dX10_many_177 : decode cX10_many 177 = .ok (.getfield 234, 3) := by decide +kernel
theorem dX10_many_180 : decode cX10_many 180 = .ok (.invokevirtual 197, 3) := by decide +kernel
theorem dX10_many_183 : decode cX10_many 183 = .ok (.ireturn, 1) := by decide +kernel
theorem dX10_many_184 : decode cX10_many 184 = .ok (.aload_n 0, 1) := by decide +kernel
theorem dX10_many_185 : decode cX10_many 185 = .ok (.aload_n 2, 1) := by decide +kernel
theorem dX10_many_186 : decode cX10_many 186 = .ok (.getfield 194, 3) := by decide +kernel
theorem dX10_many_189 : decode cX10_many 189 = .ok (.iload_n 1, 1) := by decide +kernel
theorem dX10_many_190 : decode cX10_many 190 = .ok (.iaload, 1) := by decide +kernel
theorem dX10_many_191 : decode cX10_many 191 = .ok (.invokevirtual 197, 3) := by decide +kernel
theorem dX10_many_194 : decode cX10_many 194 = .ok (.ireturn, 1) := by decide +kernel
set_option maxRecDepth 20000 in
theorem ggX10_juror_X10_isNo : GoodIn wsX10_juror wsX10_isNo := goodIn_r _ [12, 1, 4, 13, 23, 24, 25, 26, 27, 28, 29, 30, 31, 32, 33, 34, 35, 36, 37, 38, 39, 40, 41, 42, 43, 44, 53, 54, 55, 56, 57, 58, 59, 60, 61, 62, 63, 64, 65] (by decide +kernel) (by decide +kernel)
set_option maxRecDepth 20000 in
theorem gX10_juror_X10_isNo : GoodIn wsX10_juror (wsV RX10 237 RX10 yX10_isNo wsX10_isNo) := goodIn_app (goodIn_of _ (by decide +kernel)) ggX10_juror_X10_isNo
set_option maxRecDepth 20000 in
theorem ggX10_juror_X10_none : GoodIn wsX10_juror wsX10_none := goodIn_r _ [17, 18, 23, 24, 25, 26, 27, 28, 29, 30, 31, 32, 33, 34, 35, 36, 37, 38, 39, 40, 41] (by decide +kernel) (by decide +kernel)
set_option maxRecDepth 20000 in
theorem gX10_juror_X10_none : GoodIn wsX10_juror (wsV RX10 133 RX10 yX10_none wsX10_none) := goodIn_app (goodIn_of _ (by decide +kernel)) ggX10_juror_X10_none
set_option maxRecDepth 20000 in
theorem ggX10_juror_X10_answer : GoodIn wsX10_juror wsX10_answer := goodIn_r _ [22, 18, 23, 24, 25, 26, 27, 28, 29, 30, 31, 32, 33, 34, 35, 36, 37, 38, 39, 40, 41] (by decide +kernel) (by decide +kernel)
set_option maxRecDepth 20000 in
theorem gX10_juror_X10_answer : GoodIn wsX10_juror (wsV RX10 197 RX10 yX10_answer wsX10_answer) := goodIn_app (goodIn_of _ (by decide +kernel)) ggX10_juror_X10_answer
theorem dX10_juror_0 : decode cX10_juror 0 = .ok (.aload_n 0, 1) := by decide +kernel
theorem dX10_juror_1 : decode cX10_juror 1 = .ok (.iconst 0, 1) := by decide +kernel
theorem dX10_juror_2 : decode cX10_juror 2 = .ok (.iload_n 1, 1) := by decide +kernel
theorem dX10_juror_3 : decode cX10_juror 3 = .ok (.invokevirtual 237, 3) := by decide +kernel
theorem dX10_juror_6 : decode cX10_juror 6 = .ok (.ifCond .eq 9, 3) := by decide +kernel
theorem dX10_juror_9 : decode cX10_juror 9 = .ok (.aload_n 0, 1) := by decide +kernel
theorem dX10_juror_10 : decode cX10_juror 10 = .ok (.iconst 2, 1) := by decide +kernel
theorem dX10_juror_11 : decode cX10_juror 11 = .ok (.invokevirtual 133, 3) := by decide +kernel
theorem dX10_juror_14 : decode cX10_juror 14 = .ok (.ireturn, 1) := by decide +kernel
theorem dX10_juror_15 : decode cX10_juror 15 = .ok (.iload_n 2, 1) := by decide +kernel
theorem dX10_juror_16 : decode cX10_juror 16 = .ok (.tableswitch 100 0 3 #[32, 49, 66, 83], 32) := by decide +kernel
theorem dX10_juror_48 : decode cX10_juror 48 = .ok (.aload_n 0, 1) := by decide +kernel
theorem dX10_juror_49 : decode cX10_juror 49 = .ok (.aload_n 0, 1) := by decide +kernel
theorem dX10_juror_50 : decode cX10_juror 50 = .ok (.getfield 19, 3) := by decide +kernel
theorem dX10_juror_53 : decode cX10_juror 53 = .ok (.getfield 182, 3) := by decide +kernel
theorem dX10_juror_56 : decode cX10_juror 56 = .ok (.getfield 241, 3) := by decide +kernel
theorem dX10_juror_59 : decode cX10_juror 59 = .ok (.iload_n 1, 1) := by decide +kernel
theorem dX10_juror_60 : decode cX10_juror 60 = .ok (.iaload, 1) := by decide +kernel
theorem dX10_juror_61 : decode cX10_juror 61 = .ok (.invokevirtual 197, 3) := by decide +kernel
theorem dX10_juror_64 : decode cX10_juror 64 = .ok (.ireturn, 1) := by decide +kernel
theorem dX10_juror_65 : decode cX10_juror 65 = .ok (.aload_n 0, 1) := by decide +kernel
theorem dX10_juror_66 : decode cX10_juror 66 = .ok (.aload_n 0, 1) := by decide +kernel
theorem dX10_juror_67 : decode cX10_juror 67 = .ok (.getfield 19, 3) := by decide +kernel
theorem dX10_juror_70 : decode cX10_juror 70 = .ok (.getfield 175, 3) := by decide +kernel
theorem dX10_juror_73 : decode cX10_juror 73 = .ok (.getfield 244, 3) := by decide +kernel
theorem dX10_juror_76 : decode cX10_juror 76 = .ok (.iload_n 1, 1) := by decide +kernel
theorem dX10_juror_77 : decode cX10_juror 77 = .ok (.iaload, 1) := by decide +kernel
theorem dX10_juror_78 : decode cX10_juror 78 = .ok (.invokevirtual 197, 3) := by decide +kernel
theorem dX10_juror_81 : decode cX10_juror 81 = .ok (.ireturn, 1) := by decide +kernel
theorem dX10_juror_82 : decode cX10_juror 82 = .ok (.aload_n 0, 1) := by decide +kernel
theorem dX10_juror_83 : decode cX10_juror 83 = .ok (.aload_n 0, 1) := by decide +kernel
theorem dX10_juror_84 : decode cX10_juror 84 = .ok (.getfield 19, 3) := by decide +kernel
theorem dX10_juror_87 : decode cX10_juror 87 = .ok (.getfield 175, 3) := by decide +kernel
theorem dX10_juror_90 : decode cX10_juror 90 = .ok (.getfield 247, 3) := by decide +kernel
theorem dX10_juror_93 : decode cX10_juror 93 = .ok (.iload_n 1, 1) := by decide +kernel
theorem dX10_juror_94 : decode cX10_juror 94 = .ok (.iaload, 1) := by decide +kernel
theorem dX10_juror_95 : decode cX10_juror 95 = .ok (.invokevirtual 197, 3) := by decide +kernel
theorem dX10_juror_98 : decode cX10_juror 98 = .ok (.ireturn, 1) := by decide +kernel
theorem dX10_juror_99 : decode cX10_juror 99 = .ok (.aload_n 0, 1) := by decide +kernel
theorem dX10_juror_100 : decode cX10_juror 100 = .ok (.aload_n 0, 1) := by decide +kernel
theorem dX10_juror_101 : decode cX10_juror 101 = .ok (.getfield 19, 3) := by decide +kernel
theorem dX10_juror_104 : decode cX10_juror 104 = .ok (.getfield 175, 3) := by decide +kernel
theorem dX10_juror_107 : decode cX10_juror 107 = .ok (.getfield 250, 3) := by decide +kernel
theorem dX10_juror_110 : decode cX10_juror 110 = .ok (.iload_n 1, 1) := by decide +kernel
theorem dX10_juror_111 : decode cX10_juror 111 = .ok (.iaload, 1) := by decide +kernel
theorem dX10_juror_112 : decode cX10_juror 112 = .ok (.invokevirtual 197, 3) := by decide +kernel
theorem dX10_juror_115 : decode cX10_juror 115 = .ok (.ireturn, 1) := by decide +kernel
theorem dX10_juror_116 : decode cX10_juror 116 = .ok (.aload_n 0, 1) := by decide +kernel
theorem dX10_juror_117 : decode cX10_juror 117 = .ok (.iconst 5, 1) := by decide +kernel
theorem dX10_juror_118 : decode cX10_juror 118 = .ok (.invokevirtual 133, 3) := by decide +kernel
theorem dX10_juror_121 : decode cX10_juror 121 = .ok (.ireturn, 1) := by decide +kernel
set_option maxRecDepth 20000 in
theorem ggX10_sways_X10_isNo : GoodIn wsX10_sways wsX10_isNo := goodIn_r _ [7, 1, 2, 8, 24, 25, 26, 27, 28, 29, 30, 31, 32, 33, 34, 35, 36, 37, 38, 39, 40, 41, 42, 43, 44, 45, 46, 47, 48, 49, 50, 51, 52, 53, 54, 55, 56, 57, 58] (by decide +kernel) (by decide +kernel)
set_option maxRecDepth 20000 in
theorem gX10_sways_X10_isNo : GoodIn wsX10_sways (wsV RX10 237 RX10 yX10_isNo wsX10_isNo) := goodIn_app (goodIn_of _ (by decide +kernel)) ggX10_sways_X10_isNo
set_option maxRecDepth 20000 in
theorem ggX10_sways_X10_none : GoodIn wsX10_sways wsX10_none := goodIn_r _ [12, 13, 24, 25, 26, 27, 28, 29, 30, 31, 32, 33, 34, 35, 36, 37, 38, 39, 40, 41, 42] (by decide +kernel) (by decide +kernel)
set_option maxRecDepth 20000 in
theorem gX10_sways_X10_none : GoodIn wsX10_sways (wsV RX10 133 RX10 yX10_none wsX10_none) := goodIn_app (goodIn_of _ (by decide +kernel)) ggX10_sways_X10_none
set_option maxRecDepth 20000 in
theorem ggX10_sways_X1_swayOf : GoodIn wsX10_sways wsX1_swayOf := goodIn_r _ [18, 19, 46, 47, 48, 49, 50, 51, 52, 53, 54, 55, 56, 57, 58] (by decide +kernel) (by decide +kernel)
set_option maxRecDepth 20000 in
theorem gX10_sways_X1_swayOf : GoodIn wsX10_sways (wsV RX10 253 RX1 yX1_swayOf wsX1_swayOf) := goodIn_app (goodIn_of _ (by decide +kernel)) ggX10_sways_X1_swayOf
set_option maxRecDepth 20000 in
theorem ggX10_sways_X10_answer : GoodIn wsX10_sways wsX10_answer := goodIn_r _ [23, 13, 24, 25, 26, 27, 28, 29, 30, 31, 32, 33, 34, 35, 36, 37, 38, 39, 40, 41, 42] (by decide +kernel) (by decide +kernel)
set_option maxRecDepth 20000 in
theorem gX10_sways_X10_answer : GoodIn wsX10_sways (wsV RX10 197 RX10 yX10_answer wsX10_answer) := goodIn_app (goodIn_of _ (by decide +kernel)) ggX10_sways_X10_answer
theorem dX10_sways_0 : decode cX10_sways 0 = .ok (.aload_n 0, 1) := by decide +kernel
theorem dX10_sways_1 : decode cX10_sways 1 = .ok (.iconst 0, 1) := by decide +kernel
theorem dX10_sways_2 : decode cX10_sways 2 = .ok (.iload_n 1, 1) := by decide +kernel
theorem dX10_sways_3 : decode cX10_sways 3 = .ok (.invokevirtual 237, 3) := by decide +kernel
theorem dX10_sways_6 : decode cX10_sways 6 = .ok (.ifCond .ne 12, 3) := by decide +kernel
theorem dX10_sways_9 : decode cX10_sways 9 = .ok (.aload_n 0, 1) := by decide +kernel
theorem dX10_sways_10 : decode cX10_sways 10 = .ok (.iconst 0, 1) := by decide +kernel
theorem dX10_sways_11 : decode cX10_sways 11 = .ok (.iload_n 2, 1) := by decide +kernel
theorem dX10_sways_12 : decode cX10_sways 12 = .ok (.invokevirtual 237, 3) := by decide +kernel
theorem dX10_sways_15 : decode cX10_sways 15 = .ok (.ifCond .eq 9, 3) := by decide +kernel
theorem dX10_sways_18 : decode cX10_sways 18 = .ok (.aload_n 0, 1) := by decide +kernel
theorem dX10_sways_19 : decode cX10_sways 19 = .ok (.iconst 2, 1) := by decide +kernel
theorem dX10_sways_20 : decode cX10_sways 20 = .ok (.invokevirtual 133, 3) := by decide +kernel
theorem dX10_sways_23 : decode cX10_sways 23 = .ok (.ireturn, 1) := by decide +kernel
theorem dX10_sways_24 : decode cX10_sways 24 = .ok (.iload_n 1, 1) := by decide +kernel
theorem dX10_sways_25 : decode cX10_sways 25 = .ok (.iload_n 2, 1) := by decide +kernel
theorem dX10_sways_26 : decode cX10_sways 26 = .ok (.if_icmp .ne 9, 3) := by decide +kernel
theorem dX10_sways_29 : decode cX10_sways 29 = .ok (.aload_n 0, 1) := by decide +kernel
theorem dX10_sways_30 : decode cX10_sways 30 = .ok (.iconst 5, 1) := by decide +kernel
theorem dX10_sways_31 : decode cX10_sways 31 = .ok (.invokevirtual 133, 3) := by decide +kernel
theorem dX10_sways_34 : decode cX10_sways 34 = .ok (.ireturn, 1) := by decide +kernel
theorem dX10_sways_35 : decode cX10_sways 35 = .ok (.aload_n 0, 1) := by decide +kernel
theorem dX10_sways_36 : decode cX10_sways 36 = .ok (.aload_n 0, 1) := by decide +kernel
theorem dX10_sways_37 : decode cX10_sways 37 = .ok (.getfield 19, 3) := by decide +kernel
theorem dX10_sways_40 : decode cX10_sways 40 = .ok (.getfield 175, 3) := by decide +kernel
theorem dX10_sways_43 : decode cX10_sways 43 = .ok (.iload_n 1, 1) := by decide +kernel
theorem dX10_sways_44 : decode cX10_sways 44 = .ok (.iload_n 2, 1) := by decide +kernel
theorem dX10_sways_45 : decode cX10_sways 45 = .ok (.invokevirtual 253, 3) := by decide +kernel
theorem dX10_sways_48 : decode cX10_sways 48 = .ok (.invokevirtual 197, 3) := by decide +kernel
theorem dX10_sways_51 : decode cX10_sways 51 = .ok (.ireturn, 1) := by decide +kernel
set_option maxRecDepth 20000 in
theorem ggX10_proof_X10_isNo : GoodIn wsX10_proof wsX10_isNo := goodIn_r _ [8, 1, 2, 9, 19, 20, 21, 22, 23, 24, 25, 26, 27, 28, 29, 30, 31, 32, 33, 34, 35, 36, 37, 38, 39, 40, 41, 42, 43, 44, 45, 46, 47, 48, 49, 50, 51, 52, 53] (by decide +kernel) (by decide +kernel)
set_option maxRecDepth 20000 in
theorem gX10_proof_X10_isNo : GoodIn wsX10_proof (wsV RX10 237 RX10 yX10_isNo wsX10_isNo) := goodIn_app (goodIn_of _ (by decide +kernel)) ggX10_proof_X10_isNo
set_option maxRecDepth 20000 in
theorem ggX10_proof_X10_none : GoodIn wsX10_proof wsX10_none := goodIn_r _ [13, 14, 19, 20, 21, 22, 23, 24, 25, 26, 27, 28, 29, 30, 31, 32, 33, 34, 35, 36, 37] (by decide +kernel) (by decide +kernel)
set_option maxRecDepth 20000 in
theorem gX10_proof_X10_none : GoodIn wsX10_proof (wsV RX10 133 RX10 yX10_none wsX10_none) := goodIn_app (goodIn_of _ (by decide +kernel)) ggX10_proof_X10_none
set_option maxRecDepth 20000 in
theorem ggX10_proof_X10_answer : GoodIn wsX10_proof wsX10_answer := goodIn_r _ [18, 14, 19, 20, 21, 22, 23, 24, 25, 26, 27, 28, 29, 30, 31, 32, 33, 34, 35, 36, 37] (by decide +kernel) (by decide +kernel)
set_option maxRecDepth 20000 in
theorem gX10_proof_X10_answer : GoodIn wsX10_proof (wsV RX10 197 RX10 yX10_answer wsX10_answer) := goodIn_app (goodIn_of _ (by decide +kernel)) ggX10_proof_X10_answer
theorem dX10_proof_0 : decode cX10_proof 0 = .ok (.aload_n 0, 1) := by decide +kernel
theorem dX10_proof_1 : decode cX10_proof 1 = .ok (.iconst 1, 1) := by decide +kernel
theorem dX10_proof_2 : decode cX10_proof 2 = .ok (.iload_n 1, 1) := by decide +kernel
theorem dX10_proof_3 : decode cX10_proof 3 = .ok (.invokevirtual 237, 3) := by decide +kernel
theorem dX10_proof_6 : decode cX10_proof 6 = .ok (.ifCond .eq 9, 3) := by decide +kernel
theorem dX10_proof_9 : decode cX10_proof 9 = .ok (.aload_n 0, 1) := by decide +kernel
theorem dX10_proof_10 : decode cX10_proof 10 = .ok (.iconst 2, 1) := by decide +kernel
theorem dX10_proof_11 : decode cX10_proof 11 = .ok (.invokevirtual 133, 3) := by decide +kernel
theorem dX10_proof_14 : decode cX10_proof 14 = .ok (.ireturn, 1) := by decide +kernel
theorem dX10_proof_15 : decode cX10_proof 15 = .ok (.aload_n 0, 1) := by decide +kernel
theorem dX10_proof_16 : decode cX10_proof 16 = .ok (.aload_n 0, 1) := by decide +kernel
theorem dX10_proof_17 : decode cX10_proof 17 = .ok (.getfield 19, 3) := by decide +kernel
theorem dX10_proof_20 : decode cX10_proof 20 = .ok (.getfield 175, 3) := by decide +kernel
theorem dX10_proof_23 : decode cX10_proof 23 = .ok (.getfield 256, 3) := by decide +kernel
theorem dX10_proof_26 : decode cX10_proof 26 = .ok (.iload_n 1, 1) := by decide +kernel
theorem dX10_proof_27 : decode cX10_proof 27 = .ok (.iaload, 1) := by decide +kernel
theorem dX10_proof_28 : decode cX10_proof 28 = .ok (.invokevirtual 197, 3) := by decide +kernel
theorem dX10_proof_31 : decode cX10_proof 31 = .ok (.ireturn, 1) := by decide +kernel
set_option maxRecDepth 20000 in
theorem ggX10_follows_X10_isNo : GoodIn wsX10_follows wsX10_isNo := goodIn_r _ [7, 1, 2, 8, 29, 30, 31, 32, 33, 34, 35, 36, 37, 38, 39, 40, 41, 42, 43, 44, 45, 46, 47, 48, 49, 50, 51, 52, 53, 54, 55, 56, 57, 58, 59, 60, 61, 62, 63] (by decide +kernel) (by decide +kernel)
set_option maxRecDepth 20000 in
theorem gX10_follows_X10_isNo : GoodIn wsX10_follows (wsV RX10 237 RX10 yX10_isNo wsX10_isNo) := goodIn_app (goodIn_of _ (by decide +kernel)) ggX10_follows_X10_isNo
set_option maxRecDepth 20000 in
theorem ggX10_follows_X10_none : GoodIn wsX10_follows wsX10_none := goodIn_r _ [12, 13, 29, 30, 31, 32, 33, 34, 35, 36, 37, 38, 39, 40, 41, 42, 43, 44, 45, 46, 47] (by decide +kernel) (by decide +kernel)
set_option maxRecDepth 20000 in
theorem gX10_follows_X10_none : GoodIn wsX10_follows (wsV RX10 133 RX10 yX10_none wsX10_none) := goodIn_app (goodIn_of _ (by decide +kernel)) ggX10_follows_X10_none
set_option maxRecDepth 20000 in
theorem ggX10_follows_X10_isNoVerdict : GoodIn wsX10_follows wsX10_isNoVerdict := goodIn_r _ [16, 17] (by decide +kernel) (by decide +kernel)
set_option maxRecDepth 20000 in
theorem gX10_follows_X10_isNoVerdict : GoodIn wsX10_follows (va_wsS RX10 259 yX10_isNoVerdict wsX10_isNoVerdict) := goodIn_app (goodIn_of _ (by decide +kernel)) ggX10_follows_X10_isNoVerdict
set_option maxRecDepth 20000 in
theorem ggX10_follows_X1_weatherBehind : GoodIn wsX10_follows wsX1_weatherBehind := goodIn_r _ [22, 23, 24, 51, 52, 53, 54, 55, 56, 57, 58, 59, 60, 61, 62, 63] (by decide +kernel) (by decide +kernel)
set_option maxRecDepth 20000 in
theorem gX10_follows_X1_weatherBehind : GoodIn wsX10_follows (wsV RX10 263 RX1 yX1_weatherBehind wsX1_weatherBehind) := goodIn_app (goodIn_of _ (by decide +kernel)) ggX10_follows_X1_weatherBehind
set_option maxRecDepth 20000 in
theorem ggX10_follows_X10_answer : GoodIn wsX10_follows wsX10_answer := goodIn_r _ [28, 13, 29, 30, 31, 32, 33, 34, 35, 36, 37, 38, 39, 40, 41, 42, 43, 44, 45, 46, 47] (by decide +kernel) (by decide +kernel)
set_option maxRecDepth 20000 in
theorem gX10_follows_X10_answer : GoodIn wsX10_follows (wsV RX10 197 RX10 yX10_answer wsX10_answer) := goodIn_app (goodIn_of _ (by decide +kernel)) ggX10_follows_X10_answer
theorem dX10_follows_0 : decode cX10_follows 0 = .ok (.aload_n 0, 1) := by decide +kernel
theorem dX10_follows_1 : decode cX10_follows 1 = .ok (.iconst 2, 1) := by decide +kernel
theorem dX10_follows_2 : decode cX10_follows 2 = .ok (.iload_n 1, 1) := by decide +kernel
theorem dX10_follows_3 : decode cX10_follows 3 = .ok (.invokevirtual 237, 3) := by decide +kernel
theorem dX10_follows_6 : decode cX10_follows 6 = .ok (.ifCond .eq 9, 3) := by decide +kernel
theorem dX10_follows_9 : decode cX10_follows 9 = .ok (.aload_n 0, 1) := by decide +kernel
theorem dX10_follows_10 : decode cX10_follows 10 = .ok (.iconst 2, 1) := by decide +kernel
theorem dX10_follows_11 : decode cX10_follows 11 = .ok (.invokevirtual 133, 3) := by decide +kernel
theorem dX10_follows_14 : decode cX10_follows 14 = .ok (.ireturn, 1) := by decide +kernel
theorem dX10_follows_15 : decode cX10_follows 15 = .ok (.iload_n 2, 1) := by decide +kernel
theorem dX10_follows_16 : decode cX10_follows 16 = .ok (.i2l, 1) := by decide +kernel
theorem dX10_follows_17 : decode cX10_follows 17 = .ok (.invokestatic 259, 3) := by decide +kernel
theorem dX10_follows_20 : decode cX10_follows 20 = .ok (.ifCond .eq 9, 3) := by decide +kernel
theorem dX10_follows_23 : decode cX10_follows 23 = .ok (.aload_n 0, 1) := by decide +kernel
theorem dX10_follows_24 : decode cX10_follows 24 = .ok (.iconst 5, 1) := by decide +kernel
theorem dX10_follows_25 : decode cX10_follows 25 = .ok (.invokevirtual 133, 3) := by decide +kernel
theorem dX10_follows_28 : decode cX10_follows 28 = .ok (.ireturn, 1) := by decide +kernel
theorem dX10_follows_29 : decode cX10_follows 29 = .ok (.aload_n 0, 1) := by decide +kernel
theorem dX10_follows_30 : decode cX10_follows 30 = .ok (.aload_n 0, 1) := by decide +kernel
theorem dX10_follows_31 : decode cX10_follows 31 = .ok (.getfield 19, 3) := by decide +kernel
theorem dX10_follows_34 : decode cX10_follows 34 = .ok (.getfield 175, 3) := by decide +kernel
theorem dX10_follows_37 : decode cX10_follows 37 = .ok (.iload_n 1, 1) := by decide +kernel
theorem dX10_follows_38 : decode cX10_follows 38 = .ok (.iload_n 2, 1) := by decide +kernel
theorem dX10_follows_39 : decode cX10_follows 39 = .ok (.invokevirtual 263, 3) := by decide +kernel
theorem dX10_follows_42 : decode cX10_follows 42 = .ok (.invokevirtual 197, 3) := by decide +kernel
theorem dX10_follows_45 : decode cX10_follows 45 = .ok (.ireturn, 1) := by decide +kernel
set_option maxRecDepth 20000 in
theorem ggX10_grows_X10_isNo : GoodIn wsX10_grows wsX10_isNo := goodIn_r _ [7, 1, 2, 8, 24, 25, 26, 27, 28, 29, 30, 31, 32, 33, 34, 35, 36, 37, 38, 39, 40, 41, 42, 43, 44, 45, 46, 47, 48, 49, 50, 51, 52, 53, 54, 55, 56, 57, 58] (by decide +kernel) (by decide +kernel)
set_option maxRecDepth 20000 in
theorem gX10_grows_X10_isNo : GoodIn wsX10_grows (wsV RX10 237 RX10 yX10_isNo wsX10_isNo) := goodIn_app (goodIn_of _ (by decide +kernel)) ggX10_grows_X10_isNo
set_option maxRecDepth 20000 in
theorem ggX10_grows_X10_none : GoodIn wsX10_grows wsX10_none := goodIn_r _ [12, 13, 24, 25, 26, 27, 28, 29, 30, 31, 32, 33, 34, 35, 36, 37, 38, 39, 40, 41, 42] (by decide +kernel) (by decide +kernel)
set_option maxRecDepth 20000 in
theorem gX10_grows_X10_none : GoodIn wsX10_grows (wsV RX10 133 RX10 yX10_none wsX10_none) := goodIn_app (goodIn_of _ (by decide +kernel)) ggX10_grows_X10_none
set_option maxRecDepth 20000 in
theorem ggX10_grows_X1_growthOf : GoodIn wsX10_grows wsX1_growthOf := goodIn_r _ [18, 19, 46, 47, 48, 49, 50, 51, 52, 53, 54, 55, 56, 57, 58] (by decide +kernel) (by decide +kernel)
set_option maxRecDepth 20000 in
theorem gX10_grows_X1_growthOf : GoodIn wsX10_grows (wsV RX10 266 RX1 yX1_growthOf wsX1_growthOf) := goodIn_app (goodIn_of _ (by decide +kernel)) ggX10_grows_X1_growthOf
set_option maxRecDepth 20000 in
theorem ggX10_grows_X10_answer : GoodIn wsX10_grows wsX10_answer := goodIn_r _ [23, 13, 24, 25, 26, 27, 28, 29, 30, 31, 32, 33, 34, 35, 36, 37, 38, 39, 40, 41, 42] (by decide +kernel) (by decide +kernel)
set_option maxRecDepth 20000 in
theorem gX10_grows_X10_answer : GoodIn wsX10_grows (wsV RX10 197 RX10 yX10_answer wsX10_answer) := goodIn_app (goodIn_of _ (by decide +kernel)) ggX10_grows_X10_answer
theorem dX10_grows_0 : decode cX10_grows 0 = .ok (.aload_n 0, 1) := by decide +kernel
theorem dX10_grows_1 : decode cX10_grows 1 = .ok (.iconst 3, 1) := by decide +kernel
theorem dX10_grows_2 : decode cX10_grows 2 = .ok (.iload_n 1, 1) := by decide +kernel
theorem dX10_grows_3 : decode cX10_grows 3 = .ok (.invokevirtual 237, 3) := by decide +kernel
theorem dX10_grows_6 : decode cX10_grows 6 = .ok (.ifCond .ne 12, 3) := by decide +kernel
theorem dX10_grows_9 : decode cX10_grows 9 = .ok (.aload_n 0, 1) := by decide +kernel
theorem dX10_grows_10 : decode cX10_grows 10 = .ok (.iconst 2, 1) := by decide +kernel
theorem dX10_grows_11 : decode cX10_grows 11 = .ok (.iload_n 2, 1) := by decide +kernel
theorem dX10_grows_12 : decode cX10_grows 12 = .ok (.invokevirtual 237, 3) := by decide +kernel
theorem dX10_grows_15 : decode cX10_grows 15 = .ok (.ifCond .eq 9, 3) := by decide +kernel
theorem dX10_grows_18 : decode cX10_grows 18 = .ok (.aload_n 0, 1) := by decide +kernel
theorem dX10_grows_19 : decode cX10_grows 19 = .ok (.iconst 2, 1) := by decide +kernel
theorem dX10_grows_20 : decode cX10_grows 20 = .ok (.invokevirtual 133, 3) := by decide +kernel
theorem dX10_grows_23 : decode cX10_grows 23 = .ok (.ireturn, 1) := by decide +kernel
theorem dX10_grows_24 : decode cX10_grows 24 = .ok (.aload_n 0, 1) := by decide +kernel
theorem dX10_grows_25 : decode cX10_grows 25 = .ok (.aload_n 0, 1) := by decide +kernel
theorem dX10_grows_26 : decode cX10_grows 26 = .ok (.getfield 19, 3) := by decide +kernel
theorem dX10_grows_29 : decode cX10_grows 29 = .ok (.getfield 175, 3) := by decide +kernel
theorem dX10_grows_32 : decode cX10_grows 32 = .ok (.iload_n 1, 1) := by decide +kernel
theorem dX10_grows_33 : decode cX10_grows 33 = .ok (.iload_n 2, 1) := by decide +kernel
theorem dX10_grows_34 : decode cX10_grows 34 = .ok (.invokevirtual 266, 3) := by decide +kernel
theorem dX10_grows_37 : decode cX10_grows 37 = .ok (.invokevirtual 197, 3) := by decide +kernel
theorem dX10_grows_40 : decode cX10_grows 40 = .ok (.ireturn, 1) := by decide +kernel
set_option maxRecDepth 20000 in
theorem ggX10_crop_X10_isNo : GoodIn wsX10_crop wsX10_isNo := goodIn_r _ [8, 1, 9, 10, 20, 21, 22, 23, 24, 25, 26, 27, 28, 29, 30, 31, 32, 33, 34, 35, 36, 37, 38, 39, 40, 41, 50, 51, 52, 53, 54, 55, 56, 57, 58, 59, 60, 61, 62] (by decide +kernel) (by decide +kernel)
set_option maxRecDepth 20000 in
theorem gX10_crop_X10_isNo : GoodIn wsX10_crop (wsV RX10 237 RX10 yX10_isNo wsX10_isNo) := goodIn_app (goodIn_of _ (by decide +kernel)) ggX10_crop_X10_isNo
set_option maxRecDepth 20000 in
theorem ggX10_crop_X10_none : GoodIn wsX10_crop wsX10_none := goodIn_r _ [14, 15, 20, 21, 22, 23, 24, 25, 26, 27, 28, 29, 30, 31, 32, 33, 34, 35, 36, 37, 38] (by decide +kernel) (by decide +kernel)
set_option maxRecDepth 20000 in
theorem gX10_crop_X10_none : GoodIn wsX10_crop (wsV RX10 133 RX10 yX10_none wsX10_none) := goodIn_app (goodIn_of _ (by decide +kernel)) ggX10_crop_X10_none
set_option maxRecDepth 20000 in
theorem ggX10_crop_X10_answer : GoodIn wsX10_crop wsX10_answer := goodIn_r _ [19, 15, 20, 21, 22, 23, 24, 25, 26, 27, 28, 29, 30, 31, 32, 33, 34, 35, 36, 37, 38] (by decide +kernel) (by decide +kernel)
set_option maxRecDepth 20000 in
theorem gX10_crop_X10_answer : GoodIn wsX10_crop (wsV RX10 197 RX10 yX10_answer wsX10_answer) := goodIn_app (goodIn_of _ (by decide +kernel)) ggX10_crop_X10_answer
theorem dX10_crop_0 : decode cX10_crop 0 = .ok (.aload_n 0, 1) := by decide +kernel
theorem dX10_crop_1 : decode cX10_crop 1 = .ok (.iconst 3, 1) := by decide +kernel
theorem dX10_crop_2 : decode cX10_crop 2 = .ok (.iload_n 1, 1) := by decide +kernel
theorem dX10_crop_3 : decode cX10_crop 3 = .ok (.invokevirtual 237, 3) := by decide +kernel
theorem dX10_crop_6 : decode cX10_crop 6 = .ok (.ifCond .eq 9, 3) := by decide +kernel
theorem dX10_crop_9 : decode cX10_crop 9 = .ok (.aload_n 0, 1) := by decide +kernel
theorem dX10_crop_10 : decode cX10_crop 10 = .ok (.iconst 2, 1) := by decide +kernel
theorem dX10_crop_11 : decode cX10_crop 11 = .ok (.invokevirtual 133, 3) := by decide +kernel
theorem dX10_crop_14 : decode cX10_crop 14 = .ok (.ireturn, 1) := by decide +kernel
theorem dX10_crop_15 : decode cX10_crop 15 = .ok (.aload_n 0, 1) := by decide +kernel
theorem dX10_crop_16 : decode cX10_crop 16 = .ok (.aload_n 0, 1) := by decide +kernel
theorem dX10_crop_17 : decode cX10_crop 17 = .ok (.getfield 19, 3) := by decide +kernel
theorem dX10_crop_20 : decode cX10_crop 20 = .ok (.getfield 182, 3) := by decide +kernel
theorem dX10_crop_23 : decode cX10_crop 23 = .ok (.getfield 269, 3) := by decide +kernel
theorem dX10_crop_26 : decode cX10_crop 26 = .ok (.iload_n 1, 1) := by decide +kernel
theorem dX10_crop_27 : decode cX10_crop 27 = .ok (.iaload, 1) := by decide +kernel
theorem dX10_crop_28 : decode cX10_crop 28 = .ok (.invokevirtual 197, 3) := by decide +kernel
theorem dX10_crop_31 : decode cX10_crop 31 = .ok (.ireturn, 1) := by decide +kernel
set_option maxRecDepth 20000 in
theorem ggX10_copyLeanings_X10_wrongRow : GoodIn wsX10_copyLeanings wsX10_wrongRow := goodIn_r _ [11, 4, 12, 13, 14, 15, 10, 16, 17, 18, 19, 20, 21, 22, 23, 24, 25, 41, 42, 43, 44, 45, 46, 47, 48, 49, 50, 51, 52, 53, 54, 55, 56, 57, 58, 59, 84, 85, 86] (by decide +kernel) (by decide +kernel)
set_option maxRecDepth 20000 in
theorem gX10_copyLeanings_X10_wrongRow : GoodIn wsX10_copyLeanings (wsV RX10 272 RX10 yX10_wrongRow wsX10_wrongRow) := goodIn_app (goodIn_of _ (by decide +kernel)) ggX10_copyLeanings_X10_wrongRow
set_option maxRecDepth 20000 in
theorem ggX10_copyLeanings_X10_none : GoodIn wsX10_copyLeanings wsX10_none := goodIn_r _ [29, 30, 41, 42, 43, 44, 45, 46, 47, 48, 49, 50, 51, 52, 53, 54, 55, 56, 57, 58, 59] (by decide +kernel) (by decide +kernel)
set_option maxRecDepth 20000 in
theorem gX10_copyLeanings_X10_none : GoodIn wsX10_copyLeanings (wsV RX10 133 RX10 yX10_none wsX10_none) := goodIn_app (goodIn_of _ (by decide +kernel)) ggX10_copyLeanings_X10_none
set_option maxRecDepth 20000 in
theorem ggX10_copyLeanings_X6_put : GoodIn wsX10_copyLeanings wsX6_put := goodIn_r _ [34, 35, 36, 84, 85, 86] (by decide +kernel) (by decide +kernel)
set_option maxRecDepth 20000 in
theorem gX10_copyLeanings_X6_put : GoodIn wsX10_copyLeanings (wsV RX10 129 RX6 yX6_put wsX6_put) := goodIn_app (goodIn_of _ (by decide +kernel)) ggX10_copyLeanings_X6_put
set_option maxRecDepth 20000 in
theorem ggX10_copyLeanings_X10_answer : GoodIn wsX10_copyLeanings wsX10_answer := goodIn_r _ [40, 30, 41, 42, 43, 44, 45, 46, 47, 48, 49, 50, 51, 52, 53, 54, 55, 56, 57, 58, 59] (by decide +kernel) (by decide +kernel)
set_option maxRecDepth 20000 in
theorem gX10_copyLeanings_X10_answer : GoodIn wsX10_copyLeanings (wsV RX10 197 RX10 yX10_answer wsX10_answer) := goodIn_app (goodIn_of _ (by decide +kernel)) ggX10_copyLeanings_X10_answer
theorem dX10_copyLeanings_0 : decode cX10_copyLeanings 0 = .ok (.aload_n 0, 1) := by decide +kernel
theorem dX10_copyLeanings_1 : decode cX10_copyLeanings 1 = .ok (.getfield 19, 3) := by decide +kernel
theorem dX10_copyLeanings_4 : decode cX10_copyLeanings 4 = .ok (.getfield 175, 3) := by decide +kernel
theorem dX10_copyLeanings_7 : decode cX10_copyLeanings 7 = .ok (.getfield 194, 3) := by decide +kernel
theorem dX10_copyLeanings_10 : decode cX10_copyLeanings 10 = .ok (.iconst 0, 1) := by decide +kernel
theorem dX10_copyLeanings_11 : decode cX10_copyLeanings 11 = .ok (.iaload, 1) := by decide +kernel
theorem dX10_copyLeanings_12 : decode cX10_copyLeanings 12 = .ok (.istore_n 2, 1) := by decide +kernel
theorem dX10_copyLeanings_13 : decode cX10_copyLeanings 13 = .ok (.aload_n 0, 1) := by decide +kernel
theorem dX10_copyLeanings_14 : decode cX10_copyLeanings 14 = .ok (.iload_n 1, 1) := by decide +kernel
theorem dX10_copyLeanings_15 : decode cX10_copyLeanings 15 = .ok (.iload_n 2, 1) := by decide +kernel
theorem dX10_copyLeanings_16 : decode cX10_copyLeanings 16 = .ok (.invokevirtual 272, 3) := by decide +kernel
theorem dX10_copyLeanings_19 : decode cX10_copyLeanings 19 = .ok (.istore_n 3, 1) := by decide +kernel
theorem dX10_copyLeanings_20 : decode cX10_copyLeanings 20 = .ok (.iload_n 3, 1) := by decide +kernel
theorem dX10_copyLeanings_21 : decode cX10_copyLeanings 21 = .ok (.ifCond .eq 9, 3) := by decide +kernel
theorem dX10_copyLeanings_24 : decode cX10_copyLeanings 24 = .ok (.aload_n 0, 1) := by decide +kernel
theorem dX10_copyLeanings_25 : decode cX10_copyLeanings 25 = .ok (.iload_n 3, 1) := by decide +kernel
theorem dX10_copyLeanings_26 : decode cX10_copyLeanings 26 = .ok (.invokevirtual 133, 3) := by decide +kernel
theorem dX10_copyLeanings_29 : decode cX10_copyLeanings 29 = .ok (.ireturn, 1) := by decide +kernel
theorem dX10_copyLeanings_30 : decode cX10_copyLeanings 30 = .ok (.iconst 0, 1) := by decide +kernel
theorem dX10_copyLeanings_31 : decode cX10_copyLeanings 31 = .ok (.istore 4, 2) := by decide +kernel
theorem dX10_copyLeanings_33 : decode cX10_copyLeanings 33 = .ok (.iload 4, 2) := by decide +kernel
theorem dX10_copyLeanings_35 : decode cX10_copyLeanings 35 = .ok (.iload_n 2, 1) := by decide +kernel
theorem dX10_copyLeanings_36 : decode cX10_copyLeanings 36 = .ok (.if_icmp .ge 33, 3) := by decide +kernel
theorem dX10_copyLeanings_39 : decode cX10_copyLeanings 39 = .ok (.aload_n 0, 1) := by decide +kernel
theorem dX10_copyLeanings_40 : decode cX10_copyLeanings 40 = .ok (.getfield 10, 3) := by decide +kernel
theorem dX10_copyLeanings_43 : decode cX10_copyLeanings 43 = .ok (.iload_n 1, 1) := by decide +kernel
theorem dX10_copyLeanings_44 : decode cX10_copyLeanings 44 = .ok (.iload 4, 2) := by decide +kernel
theorem dX10_copyLeanings_46 : decode cX10_copyLeanings 46 = .ok (.aload_n 0, 1) := by decide +kernel
theorem dX10_copyLeanings_47 : decode cX10_copyLeanings 47 = .ok (.getfield 19, 3) := by decide +kernel
theorem dX10_copyLeanings_50 : decode cX10_copyLeanings 50 = .ok (.getfield 182, 3) := by decide +kernel
theorem dX10_copyLeanings_53 : decode cX10_copyLeanings 53 = .ok (.getfield 241, 3) := by decide +kernel
theorem dX10_copyLeanings_56 : decode cX10_copyLeanings 56 = .ok (.iload 4, 2) := by decide +kernel
theorem dX10_copyLeanings_58 : decode cX10_copyLeanings 58 = .ok (.iaload, 1) := by decide +kernel
theorem dX10_copyLeanings_59 : decode cX10_copyLeanings 59 = .ok (.i2l, 1) := by decide +kernel
theorem dX10_copyLeanings_60 : decode cX10_copyLeanings 60 = .ok (.invokevirtual 129, 3) := by decide +kernel
theorem dX10_copyLeanings_63 : decode cX10_copyLeanings 63 = .ok (.iinc 4 1, 3) := by decide +kernel
theorem dX10_copyLeanings_66 : decode cX10_copyLeanings 66 = .ok (.goto (-33), 3) := by decide +kernel
theorem dX10_copyLeanings_69 : decode cX10_copyLeanings 69 = .ok (.aload_n 0, 1) := by decide +kernel
theorem dX10_copyLeanings_70 : decode cX10_copyLeanings 70 = .ok (.iload_n 2, 1) := by decide +kernel
theorem dX10_copyLeanings_71 : decode cX10_copyLeanings 71 = .ok (.invokevirtual 197, 3) := by decide +kernel
theorem dX10_copyLeanings_74 : decode cX10_copyLeanings 74 = .ok (.ireturn, 1) := by decide +kernel
set_option maxRecDepth 20000 in
theorem ggX10_show_X10_isNo : GoodIn wsX10_show wsX10_isNo := goodIn_r _ [8, 1, 3, 9, 49, 50, 51, 52, 53, 54, 55, 56, 57, 58, 59, 60, 61, 62, 63, 64, 65, 66, 67, 68, 69, 70, 71, 72, 73, 74, 75, 76, 77, 78, 79, 80, 81, 82, 83] (by decide +kernel) (by decide +kernel)
set_option maxRecDepth 20000 in
theorem gX10_show_X10_isNo : GoodIn wsX10_show (wsV RX10 237 RX10 yX10_isNo wsX10_isNo) := goodIn_app (goodIn_of _ (by decide +kernel)) ggX10_show_X10_isNo
set_option maxRecDepth 20000 in
theorem ggX10_show_X10_none : GoodIn wsX10_show wsX10_none := goodIn_r _ [13, 14, 49, 50, 51, 52, 53, 54, 55, 56, 57, 58, 59, 60, 61, 62, 63, 64, 65, 66, 67] (by decide +kernel) (by decide +kernel)
set_option maxRecDepth 20000 in
theorem gX10_show_X10_none : GoodIn wsX10_show (wsV RX10 133 RX10 yX10_none wsX10_none) := goodIn_app (goodIn_of _ (by decide +kernel)) ggX10_show_X10_none
set_option maxRecDepth 20000 in
theorem ggX10_show_X3_wasShown : GoodIn wsX10_show wsX3_wasShown := goodIn_r _ [19, 20, 84, 85, 86, 87, 88, 89, 90, 91] (by decide +kernel) (by decide +kernel)
set_option maxRecDepth 20000 in
theorem gX10_show_X3_wasShown : GoodIn wsX10_show (wsV RX10 275 RX3 yX3_wasShown wsX3_wasShown) := goodIn_app (goodIn_of _ (by decide +kernel)) ggX10_show_X3_wasShown
set_option maxRecDepth 20000 in
theorem ggX10_show_X3_present : GoodIn wsX10_show wsX3_present := goodIn_r _ [24, 25, 26, 27, 28, 29, 30, 31, 32, 33, 34, 20, 35, 36, 37, 18, 38, 39, 40, 41, 42, 43, 44, 71, 72, 73, 74, 75, 76, 77, 78, 79, 80, 81, 82, 83, 84, 85, 86, 87, 88, 89, 90, 91] (by decide +kernel) (by decide +kernel)
set_option maxRecDepth 20000 in
theorem gX10_show_X3_present : GoodIn wsX10_show (wsV RX10 278 RX3 yX3_present wsX3_present) := goodIn_app (goodIn_of _ (by decide +kernel)) ggX10_show_X3_present
set_option maxRecDepth 20000 in
theorem ggX10_show_X10_answer : GoodIn wsX10_show wsX10_answer := goodIn_r _ [48, 14, 49, 50, 51, 52, 53, 54, 55, 56, 57, 58, 59, 60, 61, 62, 63, 64, 65, 66, 67] (by decide +kernel) (by decide +kernel)
set_option maxRecDepth 20000 in
theorem gX10_show_X10_answer : GoodIn wsX10_show (wsV RX10 197 RX10 yX10_answer wsX10_answer) := goodIn_app (goodIn_of _ (by decide +kernel)) ggX10_show_X10_answer
theorem dX10_show_0 : decode cX10_show 0 = .ok (.aload_n 0, 1) := by decide +kernel
theorem dX10_show_1 : decode cX10_show 1 = .ok (.iconst 1, 1) := by decide +kernel
theorem dX10_show_2 : decode cX10_show 2 = .ok (.iload_n 1, 1) := by decide +kernel
theorem dX10_show_3 : decode cX10_show 3 = .ok (.invokevirtual 237, 3) := by decide +kernel
theorem dX10_show_6 : decode cX10_show 6 = .ok (.ifCond .eq 9, 3) := by decide +kernel
theorem dX10_show_9 : decode cX10_show 9 = .ok (.aload_n 0, 1) := by decide +kernel
theorem dX10_show_10 : decode cX10_show 10 = .ok (.iconst 2, 1) := by decide +kernel
theorem dX10_show_11 : decode cX10_show 11 = .ok (.invokevirtual 133, 3) := by decide +kernel
theorem dX10_show_14 : decode cX10_show 14 = .ok (.ireturn, 1) := by decide +kernel
theorem dX10_show_15 : decode cX10_show 15 = .ok (.aload_n 0, 1) := by decide +kernel
theorem dX10_show_16 : decode cX10_show 16 = .ok (.getfield 19, 3) := by decide +kernel
theorem dX10_show_19 : decode cX10_show 19 = .ok (.getfield 182, 3) := by decide +kernel
theorem dX10_show_22 : decode cX10_show 22 = .ok (.iload_n 1, 1) := by decide +kernel
theorem dX10_show_23 : decode cX10_show 23 = .ok (.invokevirtual 275, 3) := by decide +kernel
theorem dX10_show_26 : decode cX10_show 26 = .ok (.ifCond .eq 10, 3) := by decide +kernel
theorem dX10_show_29 : decode cX10_show 29 = .ok (.aload_n 0, 1) := by decide +kernel
theorem dX10_show_30 : decode cX10_show 30 = .ok (.bipush 9, 2) := by decide +kernel
theorem dX10_show_32 : decode cX10_show 32 = .ok (.invokevirtual 133, 3) := by decide +kernel
theorem dX10_show_35 : decode cX10_show 35 = .ok (.ireturn, 1) := by decide +kernel
theorem dX10_show_36 : decode cX10_show 36 = .ok (.aload_n 0, 1) := by decide +kernel
theorem dX10_show_37 : decode cX10_show 37 = .ok (.aload_n 0, 1) := by decide +kernel
theorem dX10_show_38 : decode cX10_show 38 = .ok (.getfield 19, 3) := by decide +kernel
theorem dX10_show_41 : decode cX10_show 41 = .ok (.getfield 182, 3) := by decide +kernel
theorem dX10_show_44 : decode cX10_show 44 = .ok (.aload_n 0, 1) := by decide +kernel
theorem dX10_show_45 : decode cX10_show 45 = .ok (.getfield 19, 3) := by decide +kernel
theorem dX10_show_48 : decode cX10_show 48 = .ok (.getfield 175, 3) := by decide +kernel
theorem dX10_show_51 : decode cX10_show 51 = .ok (.iload_n 1, 1) := by decide +kernel
theorem dX10_show_52 : decode cX10_show 52 = .ok (.invokevirtual 278, 3) := by decide +kernel
theorem dX10_show_55 : decode cX10_show 55 = .ok (.invokevirtual 197, 3) := by decide +kernel
theorem dX10_show_58 : decode cX10_show 58 = .ok (.ireturn, 1) := by decide +kernel
set_option maxRecDepth 20000 in
theorem ggX10_talk_X10_none : GoodIn wsX10_talk wsX10_none := goodIn_r _ [10, 11, 77, 78, 79, 80, 81, 82, 83, 84, 85, 86, 87, 88, 89, 90, 91, 92, 93, 94, 95] (by decide +kernel) (by decide +kernel)
set_option maxRecDepth 20000 in
theorem gX10_talk_X10_none : GoodIn wsX10_talk (wsV RX10 133 RX10 yX10_none wsX10_none) := goodIn_app (goodIn_of _ (by decide +kernel)) ggX10_talk_X10_none
set_option maxRecDepth 20000 in
theorem ggX10_talk_X3_talkOn : GoodIn wsX10_talk wsX3_talkOn := goodIn_r _ [16, 17, 18, 19, 20, 21, 15, 22, 23, 24, 25, 26, 27, 28, 29, 30, 31, 32, 33, 34, 35, 36, 37, 38, 39, 40, 41, 42, 43, 44, 45, 46, 47, 48, 49, 50, 51, 52, 53, 54, 55, 56, 57, 58, 59, 60, 61, 62, 63, 64, 65, 66, 107, 108, 109, 110, 111, 112, 113, 114, 115, 116, 117, 118, 119, 99, 100, 101, 102, 103, 104, 105, 106] (by decide +kernel) (by decide +kernel)
set_option maxRecDepth 20000 in
theorem gX10_talk_X3_talkOn : GoodIn wsX10_talk (wsV RX10 282 RX3 yX3_talkOn wsX3_talkOn) := goodIn_app (goodIn_of _ (by decide +kernel)) ggX10_talk_X3_talkOn
set_option maxRecDepth 20000 in
theorem ggX10_talk_X3_ruling : GoodIn wsX10_talk wsX3_ruling := goodIn_r _ [70, 49, 50, 51, 15, 52, 28, 35, 53, 54, 55, 56, 57, 58, 59, 60, 61, 62, 63, 71, 9, 72, 99, 100, 101, 102, 103, 104, 105, 106] (by decide +kernel) (by decide +kernel)
set_option maxRecDepth 20000 in
theorem gX10_talk_X3_ruling : GoodIn wsX10_talk (wsV RX10 286 RX3 yX3_ruling wsX3_ruling) := goodIn_app (goodIn_of _ (by decide +kernel)) ggX10_talk_X3_ruling
set_option maxRecDepth 20000 in
theorem ggX10_talk_X10_answer : GoodIn wsX10_talk wsX10_answer := goodIn_r _ [76, 11, 77, 78, 79, 80, 81, 82, 83, 84, 85, 86, 87, 88, 89, 90, 91, 92, 93, 94, 95] (by decide +kernel) (by decide +kernel)
set_option maxRecDepth 20000 in
theorem gX10_talk_X10_answer : GoodIn wsX10_talk (wsV RX10 197 RX10 yX10_answer wsX10_answer) := goodIn_app (goodIn_of _ (by decide +kernel)) ggX10_talk_X10_answer
theorem dX10_talk_0 : decode cX10_talk 0 = .ok (.iload_n 1, 1) := by decide +kernel
theorem dX10_talk_1 : decode cX10_talk 1 = .ok (.iconst 1, 1) := by decide +kernel
theorem dX10_talk_2 : decode cX10_talk 2 = .ok (.if_icmp .lt 9, 3) := by decide +kernel
theorem dX10_talk_5 : decode cX10_talk 5 = .ok (.iload_n 1, 1) := by decide +kernel
theorem dX10_talk_6 : decode cX10_talk 6 = .ok (.bipush 99, 2) := by decide +kernel
theorem dX10_talk_8 : decode cX10_talk 8 = .ok (.if_icmp .le 9, 3) := by decide +kernel
theorem dX10_talk_11 : decode cX10_talk 11 = .ok (.aload_n 0, 1) := by decide +kernel
theorem dX10_talk_12 : decode cX10_talk 12 = .ok (.iconst 5, 1) := by decide +kernel
theorem dX10_talk_13 : decode cX10_talk 13 = .ok (.invokevirtual 133, 3) := by decide +kernel
theorem dX10_talk_16 : decode cX10_talk 16 = .ok (.ireturn, 1) := by decide +kernel
theorem dX10_talk_17 : decode cX10_talk 17 = .ok (.aload_n 0, 1) := by decide +kernel
theorem dX10_talk_18 : decode cX10_talk 18 = .ok (.getfield 19, 3) := by decide +kernel
theorem dX10_talk_21 : decode cX10_talk 21 = .ok (.getfield 182, 3) := by decide +kernel
theorem dX10_talk_24 : decode cX10_talk 24 = .ok (.getfield 219, 3) := by decide +kernel
theorem dX10_talk_27 : decode cX10_talk 27 = .ok (.iload_n 1, 1) := by decide +kernel
theorem dX10_talk_28 : decode cX10_talk 28 = .ok (.iadd, 1) := by decide +kernel
theorem dX10_talk_29 : decode cX10_talk 29 = .ok (.sipush 9999, 3) := by decide +kernel
theorem dX10_talk_32 : decode cX10_talk 32 = .ok (.if_icmp .le 10, 3) := by decide +kernel
theorem dX10_talk_35 : decode cX10_talk 35 = .ok (.aload_n 0, 1) := by decide +kernel
theorem dX10_talk_36 : decode cX10_talk 36 = .ok (.bipush 7, 2) := by decide +kernel
theorem dX10_talk_38 : decode cX10_talk 38 = .ok (.invokevirtual 133, 3) := by decide +kernel
theorem dX10_talk_41 : decode cX10_talk 41 = .ok (.ireturn, 1) := by decide +kernel
theorem dX10_talk_42 : decode cX10_talk 42 = .ok (.aload_n 0, 1) := by decide +kernel
theorem dX10_talk_43 : decode cX10_talk 43 = .ok (.getfield 19, 3) := by decide +kernel
theorem dX10_talk_46 : decode cX10_talk 46 = .ok (.getfield 182, 3) := by decide +kernel
theorem dX10_talk_49 : decode cX10_talk 49 = .ok (.aload_n 0, 1) := by decide +kernel
theorem dX10_talk_50 : decode cX10_talk 50 = .ok (.getfield 19, 3) := by decide +kernel
theorem dX10_talk_53 : decode cX10_talk 53 = .ok (.getfield 175, 3) := by decide +kernel
theorem dX10_talk_56 : decode cX10_talk 56 = .ok (.iload_n 1, 1) := by decide +kernel
theorem dX10_talk_57 : decode cX10_talk 57 = .ok (.invokevirtual 282, 3) := by decide +kernel
theorem dX10_talk_60 : decode cX10_talk 60 = .ok (.aload_n 0, 1) := by decide +kernel
theorem dX10_talk_61 : decode cX10_talk 61 = .ok (.aload_n 0, 1) := by decide +kernel
theorem dX10_talk_62 : decode cX10_talk 62 = .ok (.getfield 19, 3) := by decide +kernel
theorem dX10_talk_65 : decode cX10_talk 65 = .ok (.getfield 182, 3) := by decide +kernel
theorem dX10_talk_68 : decode cX10_talk 68 = .ok (.aload_n 0, 1) := by decide +kernel
theorem dX10_talk_69 : decode cX10_talk 69 = .ok (.getfield 19, 3) := by decide +kernel
theorem dX10_talk_72 : decode cX10_talk 72 = .ok (.getfield 175, 3) := by decide +kernel
theorem dX10_talk_75 : decode cX10_talk 75 = .ok (.getfield 213, 3) := by decide +kernel
theorem dX10_talk_78 : decode cX10_talk 78 = .ok (.invokevirtual 286, 3) := by decide +kernel
theorem dX10_talk_81 : decode cX10_talk 81 = .ok (.invokevirtual 197, 3) := by decide +kernel
theorem dX10_talk_84 : decode cX10_talk 84 = .ok (.ireturn, 1) := by decide +kernel
set_option maxRecDepth 20000 in
theorem ggX10_endDay_X10_none : GoodIn wsX10_endDay wsX10_none := goodIn_r _ [9, 10, 67, 68, 69, 70, 71, 72, 73, 74, 75, 76, 77, 78, 79, 80, 81, 82, 83, 84, 85] (by decide +kernel) (by decide +kernel)
set_option maxRecDepth 20000 in
theorem gX10_endDay_X10_none : GoodIn wsX10_endDay (wsV RX10 133 RX10 yX10_none wsX10_none) := goodIn_app (goodIn_of _ (by decide +kernel)) ggX10_endDay_X10_none
set_option maxRecDepth 20000 in
theorem ggX10_endDay_X3_closeDay : GoodIn wsX10_endDay wsX3_closeDay := goodIn_r _ [15, 16, 17, 18, 19, 20, 21, 22, 23, 14, 24, 25, 26, 27, 28, 29, 30, 31, 32, 33, 34, 35, 36, 37, 38, 39, 40, 41, 42, 8, 43, 44, 45, 46, 47, 48, 49, 50, 51, 52, 53, 54, 55, 56, 57, 58, 59, 60, 61, 62, 97, 98, 99, 100, 101, 102, 103, 104, 105, 106, 107, 108, 109, 89, 90, 91, 92, 93, 94, 95, 96] (by decide +kernel) (by decide +kernel)
set_option maxRecDepth 20000 in
theorem gX10_endDay_X3_closeDay : GoodIn wsX10_endDay (wsV RX10 289 RX3 yX3_closeDay wsX3_closeDay) := goodIn_app (goodIn_of _ (by decide +kernel)) ggX10_endDay_X3_closeDay
set_option maxRecDepth 20000 in
theorem ggX10_endDay_X10_answer : GoodIn wsX10_endDay wsX10_answer := goodIn_r _ [66, 10, 67, 68, 69, 70, 71, 72, 73, 74, 75, 76, 77, 78, 79, 80, 81, 82, 83, 84, 85] (by decide +kernel) (by decide +kernel)
set_option maxRecDepth 20000 in
theorem gX10_endDay_X10_answer : GoodIn wsX10_endDay (wsV RX10 197 RX10 yX10_answer wsX10_answer) := goodIn_app (goodIn_of _ (by decide +kernel)) ggX10_endDay_X10_answer
theorem dX10_endDay_0 : decode cX10_endDay 0 = .ok (.aload_n 0, 1) := by decide +kernel
theorem dX10_endDay_1 : decode cX10_endDay 1 = .ok (.getfield 19, 3) := by decide +kernel
theorem dX10_endDay_4 : decode cX10_endDay 4 = .ok (.getfield 182, 3) := by decide +kernel
theorem dX10_endDay_7 : decode cX10_endDay 7 = .ok (.getfield 216, 3) := by decide +kernel
theorem dX10_endDay_10 : decode cX10_endDay 10 = .ok (.sipush 9999, 3) := by decide +kernel
theorem dX10_endDay_13 : decode cX10_endDay 13 = .ok (.if_icmp .lt 10, 3) := by decide +kernel
theorem dX10_endDay_16 : decode cX10_endDay 16 = .ok (.aload_n 0, 1) := by decide +kernel
theorem dX10_endDay_17 : decode cX10_endDay 17 = .ok (.bipush 7, 2) := by decide +kernel
theorem dX10_endDay_19 : decode cX10_endDay 19 = .ok (.invokevirtual 133, 3) := by decide +kernel
theorem dX10_endDay_22 : decode cX10_endDay 22 = .ok (.ireturn, 1) := by decide +kernel
theorem dX10_endDay_23 : decode cX10_endDay 23 = .ok (.aload_n 0, 1) := by decide +kernel
theorem dX10_endDay_24 : decode cX10_endDay 24 = .ok (.aload_n 0, 1) := by decide +kernel
theorem dX10_endDay_25 : decode cX10_endDay 25 = .ok (.getfield 19, 3) := by decide +kernel
theorem dX10_endDay_28 : decode cX10_endDay 28 = .ok (.getfield 182, 3) := by decide +kernel
theorem dX10_endDay_31 : decode cX10_endDay 31 = .ok (.aload_n 0, 1) := by decide +kernel
theorem dX10_endDay_32 : decode cX10_endDay 32 = .ok (.getfield 19, 3) := by decide +kernel
theorem dX10_endDay_35 : decode cX10_endDay 35 = .ok (.getfield 175, 3) := by decide +kernel
theorem dX10_endDay_38 : decode cX10_endDay 38 = .ok (.invokevirtual 289, 3) := by decide +kernel
theorem dX10_endDay_41 : decode cX10_endDay 41 = .ok (.invokevirtual 197, 3) := by decide +kernel
theorem dX10_endDay_44 : decode cX10_endDay 44 = .ok (.ireturn, 1) := by decide +kernel
set_option maxRecDepth 20000 in
theorem ggX10_strike_X10_isNo : GoodIn wsX10_strike wsX10_isNo := goodIn_r _ [7, 1, 8, 9, 29, 30, 31, 32, 33, 34, 35, 36, 37, 38, 39, 40, 41, 42, 43, 44, 45, 46, 47, 48, 49, 50, 51, 52, 53, 54, 55, 56, 57, 58, 59, 60, 61, 62, 63] (by decide +kernel) (by decide +kernel)
set_option maxRecDepth 20000 in
theorem gX10_strike_X10_isNo : GoodIn wsX10_strike (wsV RX10 237 RX10 yX10_isNo wsX10_isNo) := goodIn_app (goodIn_of _ (by decide +kernel)) ggX10_strike_X10_isNo
set_option maxRecDepth 20000 in
theorem ggX10_strike_X10_refuse : GoodIn wsX10_strike wsX10_refuse := goodIn_r _ [13, 14, 29, 30, 31, 32, 33, 34, 35, 36, 37, 38, 39, 40, 41, 42, 43, 44, 45, 46, 47] (by decide +kernel) (by decide +kernel)
set_option maxRecDepth 20000 in
theorem gX10_strike_X10_refuse : GoodIn wsX10_strike (wsV RX10 114 RX10 yX10_refuse wsX10_refuse) := goodIn_app (goodIn_of _ (by decide +kernel)) ggX10_strike_X10_refuse
set_option maxRecDepth 20000 in
theorem ggX10_strike_X3_isSeated : GoodIn wsX10_strike wsX3_isSeated := goodIn_r _ [19, 20, 64, 65, 66, 67, 68, 69, 70, 71] (by decide +kernel) (by decide +kernel)
set_option maxRecDepth 20000 in
theorem gX10_strike_X3_isSeated : GoodIn wsX10_strike (wsV RX10 293 RX3 yX3_isSeated wsX3_isSeated) := goodIn_app (goodIn_of _ (by decide +kernel)) ggX10_strike_X3_isSeated
set_option maxRecDepth 20000 in
theorem ggX10_strike_X3_unseat : GoodIn wsX10_strike wsX3_unseat := goodIn_r _ [24, 20, 64, 65, 66, 67, 68, 69, 70, 71] (by decide +kernel) (by decide +kernel)
set_option maxRecDepth 20000 in
theorem gX10_strike_X3_unseat : GoodIn wsX10_strike (wsV RX10 296 RX3 yX3_unseat wsX3_unseat) := goodIn_app (goodIn_of _ (by decide +kernel)) ggX10_strike_X3_unseat
set_option maxRecDepth 20000 in
theorem ggX10_strike_X10_agree : GoodIn wsX10_strike wsX10_agree := goodIn_r _ [28, 14, 29, 30, 31, 32, 33, 34, 35, 36, 37, 38, 39, 40, 41, 42, 43, 44, 45, 46, 47] (by decide +kernel) (by decide +kernel)
set_option maxRecDepth 20000 in
theorem gX10_strike_X10_agree : GoodIn wsX10_strike (wsV RX10 121 RX10 yX10_agree wsX10_agree) := goodIn_app (goodIn_of _ (by decide +kernel)) ggX10_strike_X10_agree
theorem dX10_strike_0 : decode cX10_strike 0 = .ok (.aload_n 0, 1) := by decide +kernel
theorem dX10_strike_1 : decode cX10_strike 1 = .ok (.iconst 0, 1) := by decide +kernel
theorem dX10_strike_2 : decode cX10_strike 2 = .ok (.iload_n 1, 1) := by decide +kernel
theorem dX10_strike_3 : decode cX10_strike 3 = .ok (.invokevirtual 237, 3) := by decide +kernel
theorem dX10_strike_6 : decode cX10_strike 6 = .ok (.ifCond .eq 9, 3) := by decide +kernel
theorem dX10_strike_9 : decode cX10_strike 9 = .ok (.aload_n 0, 1) := by decide +kernel
theorem dX10_strike_10 : decode cX10_strike 10 = .ok (.iconst 2, 1) := by decide +kernel
theorem dX10_strike_11 : decode cX10_strike 11 = .ok (.invokevirtual 114, 3) := by decide +kernel
theorem dX10_strike_14 : decode cX10_strike 14 = .ok (.ireturn, 1) := by decide +kernel
theorem dX10_strike_15 : decode cX10_strike 15 = .ok (.aload_n 0, 1) := by decide +kernel
theorem dX10_strike_16 : decode cX10_strike 16 = .ok (.getfield 19, 3) := by decide +kernel
theorem dX10_strike_19 : decode cX10_strike 19 = .ok (.getfield 182, 3) := by decide +kernel
theorem dX10_strike_22 : decode cX10_strike 22 = .ok (.iload_n 1, 1) := by decide +kernel
theorem dX10_strike_23 : decode cX10_strike 23 = .ok (.invokevirtual 293, 3) := by decide +kernel
theorem dX10_strike_26 : decode cX10_strike 26 = .ok (.ifCond .ne 10, 3) := by decide +kernel
theorem dX10_strike_29 : decode cX10_strike 29 = .ok (.aload_n 0, 1) := by decide +kernel
theorem dX10_strike_30 : decode cX10_strike 30 = .ok (.bipush 9, 2) := by decide +kernel
theorem dX10_strike_32 : decode cX10_strike 32 = .ok (.invokevirtual 114, 3) := by decide +kernel
theorem dX10_strike_35 : decode cX10_strike 35 = .ok (.ireturn, 1) := by decide +kernel
theorem dX10_strike_36 : decode cX10_strike 36 = .ok (.aload_n 0, 1) := by decide +kernel
theorem dX10_strike_37 : decode cX10_strike 37 = .ok (.getfield 19, 3) := by decide +kernel
theorem dX10_strike_40 : decode cX10_strike 40 = .ok (.getfield 182, 3) := by decide +kernel
theorem dX10_strike_43 : decode cX10_strike 43 = .ok (.iload_n 1, 1) := by decide +kernel
theorem dX10_strike_44 : decode cX10_strike 44 = .ok (.invokevirtual 296, 3) := by decide +kernel
theorem dX10_strike_47 : decode cX10_strike 47 = .ok (.aload_n 0, 1) := by decide +kernel
theorem dX10_strike_48 : decode cX10_strike 48 = .ok (.invokevirtual 121, 3) := by decide +kernel
theorem dX10_strike_51 : decode cX10_strike 51 = .ok (.ireturn, 1) := by decide +kernel
set_option maxRecDepth 20000 in
theorem ggX10_seat_X10_isNo : GoodIn wsX10_seat wsX10_isNo := goodIn_r _ [7, 1, 8, 9, 29, 30, 31, 32, 33, 34, 35, 36, 37, 38, 39, 40, 41, 42, 43, 44, 45, 46, 47, 48, 49, 50, 51, 52, 53, 54, 55, 56, 57, 58, 59, 60, 61, 62, 63] (by decide +kernel) (by decide +kernel)
set_option maxRecDepth 20000 in
theorem gX10_seat_X10_isNo : GoodIn wsX10_seat (wsV RX10 237 RX10 yX10_isNo wsX10_isNo) := goodIn_app (goodIn_of _ (by decide +kernel)) ggX10_seat_X10_isNo
set_option maxRecDepth 20000 in
theorem ggX10_seat_X10_refuse : GoodIn wsX10_seat wsX10_refuse := goodIn_r _ [13, 14, 29, 30, 31, 32, 33, 34, 35, 36, 37, 38, 39, 40, 41, 42, 43, 44, 45, 46, 47] (by decide +kernel) (by decide +kernel)
set_option maxRecDepth 20000 in
theorem gX10_seat_X10_refuse : GoodIn wsX10_seat (wsV RX10 114 RX10 yX10_refuse wsX10_refuse) := goodIn_app (goodIn_of _ (by decide +kernel)) ggX10_seat_X10_refuse
set_option maxRecDepth 20000 in
theorem ggX10_seat_X3_isSeated : GoodIn wsX10_seat wsX3_isSeated := goodIn_r _ [19, 20, 64, 65, 66, 67, 68, 69, 70, 71] (by decide +kernel) (by decide +kernel)
set_option maxRecDepth 20000 in
theorem gX10_seat_X3_isSeated : GoodIn wsX10_seat (wsV RX10 293 RX3 yX3_isSeated wsX3_isSeated) := goodIn_app (goodIn_of _ (by decide +kernel)) ggX10_seat_X3_isSeated
set_option maxRecDepth 20000 in
theorem ggX10_seat_X3_reseat : GoodIn wsX10_seat wsX3_reseat := goodIn_r _ [24, 20, 64, 65, 66, 67, 68, 69, 70, 71] (by decide +kernel) (by decide +kernel)
set_option maxRecDepth 20000 in
theorem gX10_seat_X3_reseat : GoodIn wsX10_seat (wsV RX10 299 RX3 yX3_reseat wsX3_reseat) := goodIn_app (goodIn_of _ (by decide +kernel)) ggX10_seat_X3_reseat
set_option maxRecDepth 20000 in
theorem ggX10_seat_X10_agree : GoodIn wsX10_seat wsX10_agree := goodIn_r _ [28, 14, 29, 30, 31, 32, 33, 34, 35, 36, 37, 38, 39, 40, 41, 42, 43, 44, 45, 46, 47] (by decide +kernel) (by decide +kernel)
set_option maxRecDepth 20000 in
theorem gX10_seat_X10_agree : GoodIn wsX10_seat (wsV RX10 121 RX10 yX10_agree wsX10_agree) := goodIn_app (goodIn_of _ (by decide +kernel)) ggX10_seat_X10_agree
theorem dX10_seat_0 : decode cX10_seat 0 = .ok (.aload_n 0, 1) := by decide +kernel
theorem dX10_seat_1 : decode cX10_seat 1 = .ok (.iconst 0, 1) := by decide +kernel
theorem dX10_seat_2 : decode cX10_seat 2 = .ok (.iload_n 1, 1) := by decide +kernel
theorem dX10_seat_3 : decode cX10_seat 3 = .ok (.invokevirtual 237, 3) := by decide +kernel
theorem dX10_seat_6 : decode cX10_seat 6 = .ok (.ifCond .eq 9, 3) := by decide +kernel
theorem dX10_seat_9 : decode cX10_seat 9 = .ok (.aload_n 0, 1) := by decide +kernel
theorem dX10_seat_10 : decode cX10_seat 10 = .ok (.iconst 2, 1) := by decide +kernel
theorem dX10_seat_11 : decode cX10_seat 11 = .ok (.invokevirtual 114, 3) := by decide +kernel
theorem dX10_seat_14 : decode cX10_seat 14 = .ok (.ireturn, 1) := by decide +kernel
theorem dX10_seat_15 : decode cX10_seat 15 = .ok (.aload_n 0, 1) := by decide +kernel
theorem dX10_seat_16 : decode cX10_seat 16 = .ok (.getfield 19, 3) := by decide +kernel
theorem dX10_seat_19 : decode cX10_seat 19 = .ok (.getfield 182, 3) := by decide +kernel
theorem dX10_seat_22 : decode cX10_seat 22 = .ok (.iload_n 1, 1) := by decide +kernel
theorem dX10_seat_23 : decode cX10_seat 23 = .ok (.invokevirtual 293, 3) := by decide +kernel
theorem dX10_seat_26 : decode cX10_seat 26 = .ok (.ifCond .eq 10, 3) := by decide +kernel
theorem dX10_seat_29 : decode cX10_seat 29 = .ok (.aload_n 0, 1) := by decide +kernel
theorem dX10_seat_30 : decode cX10_seat 30 = .ok (.bipush 9, 2) := by decide +kernel
theorem dX10_seat_32 : decode cX10_seat 32 = .ok (.invokevirtual 114, 3) := by decide +kernel
theorem dX10_seat_35 : decode cX10_seat 35 = .ok (.ireturn, 1) := by decide +kernel
theorem dX10_seat_36 : decode cX10_seat 36 = .ok (.aload_n 0, 1) := by decide +kernel
theorem dX10_seat_37 : decode cX10_seat 37 = .ok (.getfield 19, 3) := by decide +kernel
theorem dX10_seat_40 : decode cX10_seat 40 = .ok (.getfield 182, 3) := by decide +kernel
theorem dX10_seat_43 : decode cX10_seat 43 = .ok (.iload_n 1, 1) := by decide +kernel
theorem dX10_seat_44 : decode cX10_seat 44 = .ok (.invokevirtual 299, 3) := by decide +kernel
theorem dX10_seat_47 : decode cX10_seat 47 = .ok (.aload_n 0, 1) := by decide +kernel
theorem dX10_seat_48 : decode cX10_seat 48 = .ok (.invokevirtual 121, 3) := by decide +kernel
theorem dX10_seat_51 : decode cX10_seat 51 = .ok (.ireturn, 1) := by decide +kernel
set_option maxRecDepth 20000 in
theorem ggX10_bribe_X10_isNo : GoodIn wsX10_bribe wsX10_isNo := goodIn_r _ [9, 1, 3, 10, 40, 41, 42, 43, 44, 45, 46, 47, 48, 49, 50, 51, 52, 53, 54, 55, 56, 57, 58, 59, 60, 61, 70, 71, 72, 73, 74, 75, 76, 77, 78, 79, 80, 81, 82] (by decide +kernel) (by decide +kernel)
set_option maxRecDepth 20000 in
theorem gX10_bribe_X10_isNo : GoodIn wsX10_bribe (wsV RX10 237 RX10 yX10_isNo wsX10_isNo) := goodIn_app (goodIn_of _ (by decide +kernel)) ggX10_bribe_X10_isNo
set_option maxRecDepth 20000 in
theorem ggX10_bribe_X10_none : GoodIn wsX10_bribe wsX10_none := goodIn_r _ [14, 15, 40, 41, 42, 43, 44, 45, 46, 47, 48, 49, 50, 51, 52, 53, 54, 55, 56, 57, 58] (by decide +kernel) (by decide +kernel)
set_option maxRecDepth 20000 in
theorem gX10_bribe_X10_none : GoodIn wsX10_bribe (wsV RX10 133 RX10 yX10_none wsX10_none) := goodIn_app (goodIn_of _ (by decide +kernel)) ggX10_bribe_X10_none
set_option maxRecDepth 20000 in
theorem ggX10_bribe_X10_isNoSide : GoodIn wsX10_bribe wsX10_isNoSide := goodIn_r _ [18] (by decide +kernel) (by decide +kernel)
set_option maxRecDepth 20000 in
theorem gX10_bribe_X10_isNoSide : GoodIn wsX10_bribe (va_wsS RX10 302 yX10_isNoSide wsX10_isNoSide) := goodIn_app (goodIn_of _ (by decide +kernel)) ggX10_bribe_X10_isNoSide
set_option maxRecDepth 20000 in
theorem ggX10_bribe_X3_canPay : GoodIn wsX10_bribe wsX3_canPay := goodIn_r _ [23, 24, 25, 62, 63, 64, 65, 66, 67, 68, 69, 70, 71, 72, 73, 74, 75, 76, 77, 78, 79, 80, 81, 82] (by decide +kernel) (by decide +kernel)
set_option maxRecDepth 20000 in
theorem gX10_bribe_X3_canPay : GoodIn wsX10_bribe (wsV RX10 305 RX3 yX3_canPay wsX3_canPay) := goodIn_app (goodIn_of _ (by decide +kernel)) ggX10_bribe_X3_canPay
set_option maxRecDepth 20000 in
theorem ggX10_bribe_X3_isSeated : GoodIn wsX10_bribe wsX3_isSeated := goodIn_r _ [29, 30, 62, 63, 64, 65, 66, 67, 68, 69] (by decide +kernel) (by decide +kernel)
set_option maxRecDepth 20000 in
theorem gX10_bribe_X3_isSeated : GoodIn wsX10_bribe (wsV RX10 293 RX3 yX3_isSeated wsX3_isSeated) := goodIn_app (goodIn_of _ (by decide +kernel)) ggX10_bribe_X3_isSeated
set_option maxRecDepth 20000 in
theorem ggX10_bribe_X3_buy : GoodIn wsX10_bribe wsX3_buy := goodIn_r _ [34, 24, 25, 35, 62, 63, 64, 65, 66, 67, 68, 69, 70, 71, 72, 73, 74, 75, 76, 77, 78, 79, 80, 81, 82] (by decide +kernel) (by decide +kernel)
set_option maxRecDepth 20000 in
theorem gX10_bribe_X3_buy : GoodIn wsX10_bribe (wsV RX10 309 RX3 yX3_buy wsX3_buy) := goodIn_app (goodIn_of _ (by decide +kernel)) ggX10_bribe_X3_buy
set_option maxRecDepth 20000 in
theorem ggX10_bribe_X10_answer : GoodIn wsX10_bribe wsX10_answer := goodIn_r _ [39, 15, 40, 41, 42, 43, 44, 45, 46, 47, 48, 49, 50, 51, 52, 53, 54, 55, 56, 57, 58] (by decide +kernel) (by decide +kernel)
set_option maxRecDepth 20000 in
theorem gX10_bribe_X10_answer : GoodIn wsX10_bribe (wsV RX10 197 RX10 yX10_answer wsX10_answer) := goodIn_app (goodIn_of _ (by decide +kernel)) ggX10_bribe_X10_answer
theorem dX10_bribe_0 : decode cX10_bribe 0 = .ok (.aload_n 0, 1) := by decide +kernel
theorem dX10_bribe_1 : decode cX10_bribe 1 = .ok (.iconst 0, 1) := by decide +kernel
theorem dX10_bribe_2 : decode cX10_bribe 2 = .ok (.iload_n 1, 1) := by decide +kernel
theorem dX10_bribe_3 : decode cX10_bribe 3 = .ok (.invokevirtual 237, 3) := by decide +kernel
theorem dX10_bribe_6 : decode cX10_bribe 6 = .ok (.ifCond .eq 9, 3) := by decide +kernel
theorem dX10_bribe_9 : decode cX10_bribe 9 = .ok (.aload_n 0, 1) := by decide +kernel
theorem dX10_bribe_10 : decode cX10_bribe 10 = .ok (.iconst 2, 1) := by decide +kernel
theorem dX10_bribe_11 : decode cX10_bribe 11 = .ok (.invokevirtual 133, 3) := by decide +kernel
theorem dX10_bribe_14 : decode cX10_bribe 14 = .ok (.ireturn, 1) := by decide +kernel
theorem dX10_bribe_15 : decode cX10_bribe 15 = .ok (.iload_n 2, 1) := by decide +kernel
theorem dX10_bribe_16 : decode cX10_bribe 16 = .ok (.invokestatic 302, 3) := by decide +kernel
theorem dX10_bribe_19 : decode cX10_bribe 19 = .ok (.ifCond .eq 9, 3) := by decide +kernel
theorem dX10_bribe_22 : decode cX10_bribe 22 = .ok (.aload_n 0, 1) := by decide +kernel
theorem dX10_bribe_23 : decode cX10_bribe 23 = .ok (.iconst 5, 1) := by decide +kernel
theorem dX10_bribe_24 : decode cX10_bribe 24 = .ok (.invokevirtual 133, 3) := by decide +kernel
theorem dX10_bribe_27 : decode cX10_bribe 27 = .ok (.ireturn, 1) := by decide +kernel
theorem dX10_bribe_28 : decode cX10_bribe 28 = .ok (.aload_n 0, 1) := by decide +kernel
theorem dX10_bribe_29 : decode cX10_bribe 29 = .ok (.getfield 19, 3) := by decide +kernel
theorem dX10_bribe_32 : decode cX10_bribe 32 = .ok (.getfield 182, 3) := by decide +kernel
theorem dX10_bribe_35 : decode cX10_bribe 35 = .ok (.aload_n 0, 1) := by decide +kernel
theorem dX10_bribe_36 : decode cX10_bribe 36 = .ok (.getfield 19, 3) := by decide +kernel
theorem dX10_bribe_39 : decode cX10_bribe 39 = .ok (.getfield 175, 3) := by decide +kernel
theorem dX10_bribe_42 : decode cX10_bribe 42 = .ok (.iload_n 1, 1) := by decide +kernel
theorem dX10_bribe_43 : decode cX10_bribe 43 = .ok (.invokevirtual 305, 3) := by decide +kernel
theorem dX10_bribe_46 : decode cX10_bribe 46 = .ok (.ifCond .ne 10, 3) := by decide +kernel
theorem dX10_bribe_49 : decode cX10_bribe 49 = .ok (.aload_n 0, 1) := by decide +kernel
theorem dX10_bribe_50 : decode cX10_bribe 50 = .ok (.bipush 7, 2) := by decide +kernel
theorem dX10_bribe_52 : decode cX10_bribe 52 = .ok (.invokevirtual 133, 3) := by decide +kernel
theorem dX10_bribe_55 : decode cX10_bribe 55 = .ok (.ireturn, 1) := by decide +kernel
theorem dX10_bribe_56 : decode cX10_bribe 56 = .ok (.aload_n 0, 1) := by decide +kernel
theorem dX10_bribe_57 : decode cX10_bribe 57 = .ok (.getfield 19, 3) := by decide +kernel
theorem dX10_bribe_60 : decode cX10_bribe 60 = .ok (.getfield 182, 3) := by decide +kernel
theorem dX10_bribe_63 : decode cX10_bribe 63 = .ok (.iload_n 1, 1) := by decide +kernel
theorem dX10_bribe_64 : decode cX10_bribe 64 = .ok (.invokevirtual 293, 3) := by decide +kernel
theorem dX10_bribe_67 : decode cX10_bribe 67 = .ok (.ifCond .ne 10, 3) := by decide +kernel
theorem dX10_bribe_70 : decode cX10_bribe 70 = .ok (.aload_n 0, 1) := by decide +kernel
theorem dX10_bribe_71 : decode cX10_bribe 71 = .ok (.bipush 9, 2) := by decide +kernel
theorem dX10_bribe_73 : decode cX10_bribe 73 = .ok (.invokevirtual 133, 3) := by decide +kernel
theorem dX10_bribe_76 : decode cX10_bribe 76 = .ok (.ireturn, 1) := by decide +kernel
theorem dX10_bribe_77 : decode cX10_bribe 77 = .ok (.aload_n 0, 1) := by decide +kernel
theorem dX10_bribe_78 : decode cX10_bribe 78 = .ok (.getfield 19, 3) := by decide +kernel
theorem dX10_bribe_81 : decode cX10_bribe 81 = .ok (.getfield 182, 3) := by decide +kernel
theorem dX10_bribe_84 : decode cX10_bribe 84 = .ok (.aload_n 0, 1) := by decide +kernel
theorem dX10_bribe_85 : decode cX10_bribe 85 = .ok (.getfield 19, 3) := by decide +kernel
theorem dX10_bribe_88 : decode cX10_bribe 88 = .ok (.getfield 175, 3) := by decide +kernel
theorem dX10_bribe_91 : decode cX10_bribe 91 = .ok (.iload_n 1, 1) := by decide +kernel
theorem dX10_bribe_92 : decode cX10_bribe 92 = .ok (.iload_n 2, 1) := by decide +kernel
theorem dX10_bribe_93 : decode cX10_bribe 93 = .ok (.invokevirtual 309, 3) := by decide +kernel
theorem dX10_bribe_96 : decode cX10_bribe 96 = .ok (.aload_n 0, 1) := by decide +kernel
theorem dX10_bribe_97 : decode cX10_bribe 97 = .ok (.aload_n 0, 1) := by decide +kernel
theorem dX10_bribe_98 : decode cX10_bribe 98 = .ok (.getfield 19, 3) := by decide +kernel
theorem dX10_bribe_101 : decode cX10_bribe 101 = .ok (.getfield 182, 3) := by decide +kernel
theorem dX10_bribe_104 : decode cX10_bribe 104 = .ok (.getfield 228, 3) := by decide +kernel
theorem dX10_bribe_107 : decode cX10_bribe 107 = .ok (.invokevirtual 197, 3) := by decide +kernel
theorem dX10_bribe_110 : decode cX10_bribe 110 = .ok (.ireturn, 1) := by decide +kernel
set_option maxRecDepth 20000 in
theorem ggX10_lean_X10_isNo : GoodIn wsX10_lean wsX10_isNo := goodIn_r _ [8, 1, 9, 10, 20, 21, 22, 23, 24, 25, 26, 27, 28, 29, 30, 31, 32, 33, 34, 35, 36, 37, 38, 39, 40, 41, 50, 51, 52, 53, 54, 55, 56, 57, 58, 59, 60, 61, 62] (by decide +kernel) (by decide +kernel)
set_option maxRecDepth 20000 in
theorem gX10_lean_X10_isNo : GoodIn wsX10_lean (wsV RX10 237 RX10 yX10_isNo wsX10_isNo) := goodIn_app (goodIn_of _ (by decide +kernel)) ggX10_lean_X10_isNo
set_option maxRecDepth 20000 in
theorem ggX10_lean_X10_refuse : GoodIn wsX10_lean wsX10_refuse := goodIn_r _ [14, 15, 20, 21, 22, 23, 24, 25, 26, 27, 28, 29, 30, 31, 32, 33, 34, 35, 36, 37, 38] (by decide +kernel) (by decide +kernel)
set_option maxRecDepth 20000 in
theorem gX10_lean_X10_refuse : GoodIn wsX10_lean (wsV RX10 114 RX10 yX10_refuse wsX10_refuse) := goodIn_app (goodIn_of _ (by decide +kernel)) ggX10_lean_X10_refuse
set_option maxRecDepth 20000 in
theorem ggX10_lean_X10_agree : GoodIn wsX10_lean wsX10_agree := goodIn_r _ [19, 15, 20, 21, 22, 23, 24, 25, 26, 27, 28, 29, 30, 31, 32, 33, 34, 35, 36, 37, 38] (by decide +kernel) (by decide +kernel)
set_option maxRecDepth 20000 in
theorem gX10_lean_X10_agree : GoodIn wsX10_lean (wsV RX10 121 RX10 yX10_agree wsX10_agree) := goodIn_app (goodIn_of _ (by decide +kernel)) ggX10_lean_X10_agree
theorem dX10_lean_0 : decode cX10_lean 0 = .ok (.aload_n 0, 1) := by decide +kernel
theorem dX10_lean_1 : decode cX10_lean 1 = .ok (.iconst 0, 1) := by decide +kernel
theorem dX10_lean_2 : decode cX10_lean 2 = .ok (.iload_n 1, 1) := by decide +kernel
theorem dX10_lean_3 : decode cX10_lean 3 = .ok (.invokevirtual 237, 3) := by decide +kernel
theorem dX10_lean_6 : decode cX10_lean 6 = .ok (.ifCond .eq 9, 3) := by decide +kernel
theorem dX10_lean_9 : decode cX10_lean 9 = .ok (.aload_n 0, 1) := by decide +kernel
theorem dX10_lean_10 : decode cX10_lean 10 = .ok (.iconst 2, 1) := by decide +kernel
theorem dX10_lean_11 : decode cX10_lean 11 = .ok (.invokevirtual 114, 3) := by decide +kernel
theorem dX10_lean_14 : decode cX10_lean 14 = .ok (.ireturn, 1) := by decide +kernel
theorem dX10_lean_15 : decode cX10_lean 15 = .ok (.iload_n 2, 1) := by decide +kernel
theorem dX10_lean_16 : decode cX10_lean 16 = .ok (.bipush (-99), 2) := by decide +kernel
theorem dX10_lean_18 : decode cX10_lean 18 = .ok (.if_icmp .lt 9, 3) := by decide +kernel
theorem dX10_lean_21 : decode cX10_lean 21 = .ok (.iload_n 2, 1) := by decide +kernel
theorem dX10_lean_22 : decode cX10_lean 22 = .ok (.bipush 99, 2) := by decide +kernel
theorem dX10_lean_24 : decode cX10_lean 24 = .ok (.if_icmp .le 9, 3) := by decide +kernel
theorem dX10_lean_27 : decode cX10_lean 27 = .ok (.aload_n 0, 1) := by decide +kernel
theorem dX10_lean_28 : decode cX10_lean 28 = .ok (.iconst 5, 1) := by decide +kernel
theorem dX10_lean_29 : decode cX10_lean 29 = .ok (.invokevirtual 114, 3) := by decide +kernel
theorem dX10_lean_32 : decode cX10_lean 32 = .ok (.ireturn, 1) := by decide +kernel
theorem dX10_lean_33 : decode cX10_lean 33 = .ok (.aload_n 0, 1) := by decide +kernel
theorem dX10_lean_34 : decode cX10_lean 34 = .ok (.getfield 19, 3) := by decide +kernel
theorem dX10_lean_37 : decode cX10_lean 37 = .ok (.getfield 182, 3) := by decide +kernel
theorem dX10_lean_40 : decode cX10_lean 40 = .ok (.getfield 241, 3) := by decide +kernel
theorem dX10_lean_43 : decode cX10_lean 43 = .ok (.iload_n 1, 1) := by decide +kernel
theorem dX10_lean_44 : decode cX10_lean 44 = .ok (.iload_n 2, 1) := by decide +kernel
theorem dX10_lean_45 : decode cX10_lean 45 = .ok (.iastore, 1) := by decide +kernel
theorem dX10_lean_46 : decode cX10_lean 46 = .ok (.aload_n 0, 1) := by decide +kernel
theorem dX10_lean_47 : decode cX10_lean 47 = .ok (.invokevirtual 121, 3) := by decide +kernel
theorem dX10_lean_50 : decode cX10_lean 50 = .ok (.ireturn, 1) := by decide +kernel
set_option maxRecDepth 20000 in
theorem ggX10_votes_X10_none : GoodIn wsX10_votes wsX10_none := goodIn_r _ [7, 8, 31, 32, 33, 34, 35, 36, 37, 38, 39, 40, 41, 42, 43, 44, 45, 46, 47, 48, 49] (by decide +kernel) (by decide +kernel)
set_option maxRecDepth 20000 in
theorem gX10_votes_X10_none : GoodIn wsX10_votes (wsV RX10 133 RX10 yX10_none wsX10_none) := goodIn_app (goodIn_of _ (by decide +kernel)) ggX10_votes_X10_none
set_option maxRecDepth 20000 in
theorem ggX10_votes_X3_guiltyVotes : GoodIn wsX10_votes wsX3_guiltyVotes := goodIn_r _ [13, 14, 15, 53, 54, 55, 56, 57, 58, 59, 60] (by decide +kernel) (by decide +kernel)
set_option maxRecDepth 20000 in
theorem gX10_votes_X3_guiltyVotes : GoodIn wsX10_votes (wsV RX10 313 RX3 yX3_guiltyVotes wsX3_guiltyVotes) := goodIn_app (goodIn_of _ (by decide +kernel)) ggX10_votes_X3_guiltyVotes
set_option maxRecDepth 20000 in
theorem ggX10_votes_X3_seatedCount : GoodIn wsX10_votes wsX3_seatedCount := goodIn_r _ [19, 14, 20, 21, 22, 23, 24, 25, 26, 53, 54, 55, 56, 57, 58, 59, 60] (by decide +kernel) (by decide +kernel)
set_option maxRecDepth 20000 in
theorem gX10_votes_X3_seatedCount : GoodIn wsX10_votes (wsV RX10 317 RX3 yX3_seatedCount wsX3_seatedCount) := goodIn_app (goodIn_of _ (by decide +kernel)) ggX10_votes_X3_seatedCount
set_option maxRecDepth 20000 in
theorem ggX10_votes_X10_answer : GoodIn wsX10_votes wsX10_answer := goodIn_r _ [30, 8, 31, 32, 33, 34, 35, 36, 37, 38, 39, 40, 41, 42, 43, 44, 45, 46, 47, 48, 49] (by decide +kernel) (by decide +kernel)
set_option maxRecDepth 20000 in
theorem gX10_votes_X10_answer : GoodIn wsX10_votes (wsV RX10 197 RX10 yX10_answer wsX10_answer) := goodIn_app (goodIn_of _ (by decide +kernel)) ggX10_votes_X10_answer
theorem dX10_votes_0 : decode cX10_votes 0 = .ok (.iload_n 1, 1) := by decide +kernel
theorem dX10_votes_1 : decode cX10_votes 1 = .ok (.ifCond .lt 8, 3) := by decide +kernel
theorem dX10_votes_4 : decode cX10_votes 4 = .ok (.iload_n 1, 1) := by decide +kernel
theorem dX10_votes_5 : decode cX10_votes 5 = .ok (.iconst 1, 1) := by decide +kernel
theorem dX10_votes_6 : decode cX10_votes 6 = .ok (.if_icmp .le 9, 3) := by decide +kernel
theorem dX10_votes_9 : decode cX10_votes 9 = .ok (.aload_n 0, 1) := by decide +kernel
theorem dX10_votes_10 : decode cX10_votes 10 = .ok (.iconst 5, 1) := by decide +kernel
theorem dX10_votes_11 : decode cX10_votes 11 = .ok (.invokevirtual 133, 3) := by decide +kernel
theorem dX10_votes_14 : decode cX10_votes 14 = .ok (.ireturn, 1) := by decide +kernel
theorem dX10_votes_15 : decode cX10_votes 15 = .ok (.aload_n 0, 1) := by decide +kernel
theorem dX10_votes_16 : decode cX10_votes 16 = .ok (.getfield 19, 3) := by decide +kernel
theorem dX10_votes_19 : decode cX10_votes 19 = .ok (.getfield 182, 3) := by decide +kernel
theorem dX10_votes_22 : decode cX10_votes 22 = .ok (.invokevirtual 313, 3) := by decide +kernel
theorem dX10_votes_25 : decode cX10_votes 25 = .ok (.istore_n 2, 1) := by decide +kernel
theorem dX10_votes_26 : decode cX10_votes 26 = .ok (.aload_n 0, 1) := by decide +kernel
theorem dX10_votes_27 : decode cX10_votes 27 = .ok (.iload_n 1, 1) := by decide +kernel
theorem dX10_votes_28 : decode cX10_votes 28 = .ok (.ifCond .ne 7, 3) := by decide +kernel
theorem dX10_votes_31 : decode cX10_votes 31 = .ok (.iload_n 2, 1) := by decide +kernel
theorem dX10_votes_32 : decode cX10_votes 32 = .ok (.goto 15, 3) := by decide +kernel
theorem dX10_votes_35 : decode cX10_votes 35 = .ok (.aload_n 0, 1) := by decide +kernel
theorem dX10_votes_36 : decode cX10_votes 36 = .ok (.getfield 19, 3) := by decide +kernel
theorem dX10_votes_39 : decode cX10_votes 39 = .ok (.getfield 182, 3) := by decide +kernel
theorem dX10_votes_42 : decode cX10_votes 42 = .ok (.invokevirtual 317, 3) := by decide +kernel
theorem dX10_votes_45 : decode cX10_votes 45 = .ok (.iload_n 2, 1) := by decide +kernel
theorem dX10_votes_46 : decode cX10_votes 46 = .ok (.isub, 1) := by decide +kernel
theorem dX10_votes_47 : decode cX10_votes 47 = .ok (.invokevirtual 197, 3) := by decide +kernel
theorem dX10_votes_50 : decode cX10_votes 50 = .ok (.ireturn, 1) := by decide +kernel
set_option maxRecDepth 20000 in
theorem ggX10_verdict_X3_ruling : GoodIn wsX10_verdict wsX3_ruling := goodIn_r _ [9, 10, 11, 12, 8, 13, 14, 15, 16, 17, 18, 19, 20, 21, 22, 23, 24, 25, 26, 27, 28, 29, 70, 71, 72, 73, 74, 75, 76, 77] (by decide +kernel) (by decide +kernel)
set_option maxRecDepth 20000 in
theorem gX10_verdict_X3_ruling : GoodIn wsX10_verdict (wsV RX10 286 RX3 yX3_ruling wsX3_ruling) := goodIn_app (goodIn_of _ (by decide +kernel)) ggX10_verdict_X3_ruling
set_option maxRecDepth 20000 in
theorem ggX10_verdict_X10_answer : GoodIn wsX10_verdict wsX10_answer := goodIn_r _ [33, 34, 35, 36, 37, 38, 39, 40, 41, 42, 43, 44, 45, 46, 47, 48, 49, 50, 51, 52, 53] (by decide +kernel) (by decide +kernel)
set_option maxRecDepth 20000 in
theorem gX10_verdict_X10_answer : GoodIn wsX10_verdict (wsV RX10 197 RX10 yX10_answer wsX10_answer) := goodIn_app (goodIn_of _ (by decide +kernel)) ggX10_verdict_X10_answer
theorem dX10_verdict_0 : decode cX10_verdict 0 = .ok (.aload_n 0, 1) := by decide +kernel
theorem dX10_verdict_1 : decode cX10_verdict 1 = .ok (.aload_n 0, 1) := by decide +kernel
theorem dX10_verdict_2 : decode cX10_verdict 2 = .ok (.getfield 19, 3) := by decide +kernel
theorem dX10_verdict_5 : decode cX10_verdict 5 = .ok (.getfield 182, 3) := by decide +kernel
theorem dX10_verdict_8 : decode cX10_verdict 8 = .ok (.aload_n 0, 1) := by decide +kernel
theorem dX10_verdict_9 : decode cX10_verdict 9 = .ok (.getfield 19, 3) := by decide +kernel
theorem dX10_verdict_12 : decode cX10_verdict 12 = .ok (.getfield 175, 3) := by decide +kernel
theorem dX10_verdict_15 : decode cX10_verdict 15 = .ok (.getfield 213, 3) := by decide +kernel
theorem dX10_verdict_18 : decode cX10_verdict 18 = .ok (.invokevirtual 286, 3) := by decide +kernel
theorem dX10_verdict_21 : decode cX10_verdict 21 = .ok (.invokevirtual 197, 3) := by decide +kernel
theorem dX10_verdict_24 : decode cX10_verdict 24 = .ok (.ireturn, 1) := by decide +kernel
set_option maxRecDepth 20000 in
theorem ggX10_verdictBy_X10_none : GoodIn wsX10_verdictBy wsX10_none := goodIn_r _ [7, 8, 37, 38, 39, 40, 41, 42, 43, 44, 45, 46, 47, 48, 49, 50, 51, 52, 53, 54, 55] (by decide +kernel) (by decide +kernel)
set_option maxRecDepth 20000 in
theorem gX10_verdictBy_X10_none : GoodIn wsX10_verdictBy (wsV RX10 133 RX10 yX10_none wsX10_none) := goodIn_app (goodIn_of _ (by decide +kernel)) ggX10_verdictBy_X10_none
set_option maxRecDepth 20000 in
theorem ggX10_verdictBy_X3_ruling : GoodIn wsX10_verdictBy wsX3_ruling := goodIn_r _ [13, 14, 15, 16, 12, 17, 18, 19, 20, 21, 22, 23, 24, 25, 26, 27, 28, 29, 30, 31, 6, 32, 59, 60, 61, 62, 63, 64, 65, 66] (by decide +kernel) (by decide +kernel)
set_option maxRecDepth 20000 in
theorem gX10_verdictBy_X3_ruling : GoodIn wsX10_verdictBy (wsV RX10 286 RX3 yX3_ruling wsX3_ruling) := goodIn_app (goodIn_of _ (by decide +kernel)) ggX10_verdictBy_X3_ruling
set_option maxRecDepth 20000 in
theorem ggX10_verdictBy_X10_answer : GoodIn wsX10_verdictBy wsX10_answer := goodIn_r _ [36, 8, 37, 38, 39, 40, 41, 42, 43, 44, 45, 46, 47, 48, 49, 50, 51, 52, 53, 54, 55] (by decide +kernel) (by decide +kernel)
set_option maxRecDepth 20000 in
theorem gX10_verdictBy_X10_answer : GoodIn wsX10_verdictBy (wsV RX10 197 RX10 yX10_answer wsX10_answer) := goodIn_app (goodIn_of _ (by decide +kernel)) ggX10_verdictBy_X10_answer
theorem dX10_verdictBy_0 : decode cX10_verdictBy 0 = .ok (.iload_n 1, 1) := by decide +kernel
theorem dX10_verdictBy_1 : decode cX10_verdictBy 1 = .ok (.ifCond .lt 8, 3) := by decide +kernel
theorem dX10_verdictBy_4 : decode cX10_verdictBy 4 = .ok (.iload_n 1, 1) := by decide +kernel
theorem dX10_verdictBy_5 : decode cX10_verdictBy 5 = .ok (.iconst 2, 1) := by decide +kernel
theorem dX10_verdictBy_6 : decode cX10_verdictBy 6 = .ok (.if_icmp .le 9, 3) := by decide +kernel
theorem dX10_verdictBy_9 : decode cX10_verdictBy 9 = .ok (.aload_n 0, 1) := by decide +kernel
theorem dX10_verdictBy_10 : decode cX10_verdictBy 10 = .ok (.iconst 5, 1) := by decide +kernel
theorem dX10_verdictBy_11 : decode cX10_verdictBy 11 = .ok (.invokevirtual 133, 3) := by decide +kernel
theorem dX10_verdictBy_14 : decode cX10_verdictBy 14 = .ok (.ireturn, 1) := by decide +kernel
theorem dX10_verdictBy_15 : decode cX10_verdictBy 15 = .ok (.aload_n 0, 1) := by decide +kernel
theorem dX10_verdictBy_16 : decode cX10_verdictBy 16 = .ok (.aload_n 0, 1) := by decide +kernel
theorem dX10_verdictBy_17 : decode cX10_verdictBy 17 = .ok (.getfield 19, 3) := by decide +kernel
theorem dX10_verdictBy_20 : decode cX10_verdictBy 20 = .ok (.getfield 182, 3) := by decide +kernel
theorem dX10_verdictBy_23 : decode cX10_verdictBy 23 = .ok (.iload_n 1, 1) := by decide +kernel
theorem dX10_verdictBy_24 : decode cX10_verdictBy 24 = .ok (.invokevirtual 286, 3) := by decide +kernel
theorem dX10_verdictBy_27 : decode cX10_verdictBy 27 = .ok (.invokevirtual 197, 3) := by decide +kernel
theorem dX10_verdictBy_30 : decode cX10_verdictBy 30 = .ok (.ireturn, 1) := by decide +kernel
set_option maxRecDepth 20000 in
theorem ggX10_swing_X3_guiltyVotes : GoodIn wsX10_swing wsX3_guiltyVotes := goodIn_r _ [11, 12, 13, 73, 74, 75, 76, 77, 78, 79, 80] (by decide +kernel) (by decide +kernel)
set_option maxRecDepth 20000 in
theorem gX10_swing_X3_guiltyVotes : GoodIn wsX10_swing (wsV RX10 313 RX3 yX3_guiltyVotes wsX3_guiltyVotes) := goodIn_app (goodIn_of _ (by decide +kernel)) ggX10_swing_X3_guiltyVotes
set_option maxRecDepth 20000 in
theorem ggX10_swing_X3_seatedCount : GoodIn wsX10_swing wsX3_seatedCount := goodIn_r _ [17, 12, 18, 19, 20, 21, 22, 23, 24, 73, 74, 75, 76, 77, 78, 79, 80] (by decide +kernel) (by decide +kernel)
set_option maxRecDepth 20000 in
theorem gX10_swing_X3_seatedCount : GoodIn wsX10_swing (wsV RX10 317 RX3 yX3_seatedCount wsX3_seatedCount) := goodIn_app (goodIn_of _ (by decide +kernel)) ggX10_swing_X3_seatedCount
set_option maxRecDepth 20000 in
theorem ggX10_swing_X10_rule : GoodIn wsX10_swing wsX10_rule := goodIn_r _ [28] (by decide +kernel) (by decide +kernel)
set_option maxRecDepth 20000 in
theorem gX10_swing_X10_rule : GoodIn wsX10_swing (va_wsS RX10 320 yX10_rule wsX10_rule) := goodIn_app (goodIn_of _ (by decide +kernel)) ggX10_swing_X10_rule
set_option maxRecDepth 20000 in
theorem ggX10_swing_X3_isSeated : GoodIn wsX10_swing wsX3_isSeated := goodIn_r _ [32, 12, 73, 74, 75, 76, 77, 78, 79, 80] (by decide +kernel) (by decide +kernel)
set_option maxRecDepth 20000 in
theorem gX10_swing_X3_isSeated : GoodIn wsX10_swing (wsV RX10 293 RX3 yX3_isSeated wsX3_isSeated) := goodIn_app (goodIn_of _ (by decide +kernel)) ggX10_swing_X3_isSeated
set_option maxRecDepth 20000 in
theorem ggX10_swing_X10_answer : GoodIn wsX10_swing wsX10_answer := goodIn_r _ [36, 37, 38, 39, 40, 41, 42, 43, 44, 45, 46, 47, 48, 49, 50, 51, 52, 53, 54, 55, 56] (by decide +kernel) (by decide +kernel)
set_option maxRecDepth 20000 in
theorem gX10_swing_X10_answer : GoodIn wsX10_swing (wsV RX10 197 RX10 yX10_answer wsX10_answer) := goodIn_app (goodIn_of _ (by decide +kernel)) ggX10_swing_X10_answer
theorem dX10_swing_0 : decode cX10_swing 0 = .ok (.aload_n 0, 1) := by decide +kernel
theorem dX10_swing_1 : decode cX10_swing 1 = .ok (.getfield 19, 3) := by decide +kernel
theorem dX10_swing_4 : decode cX10_swing 4 = .ok (.getfield 182, 3) := by decide +kernel
theorem dX10_swing_7 : decode cX10_swing 7 = .ok (.astore_n 1, 1) := by decide +kernel
theorem dX10_swing_8 : decode cX10_swing 8 = .ok (.aload_n 0, 1) := by decide +kernel
theorem dX10_swing_9 : decode cX10_swing 9 = .ok (.getfield 19, 3) := by decide +kernel
theorem dX10_swing_12 : decode cX10_swing 12 = .ok (.getfield 175, 3) := by decide +kernel
theorem dX10_swing_15 : decode cX10_swing 15 = .ok (.getfield 213, 3) := by decide +kernel
theorem dX10_swing_18 : decode cX10_swing 18 = .ok (.istore_n 2, 1) := by decide +kernel
theorem dX10_swing_19 : decode cX10_swing 19 = .ok (.aload_n 1, 1) := by decide +kernel
theorem dX10_swing_20 : decode cX10_swing 20 = .ok (.invokevirtual 313, 3) := by decide +kernel
theorem dX10_swing_23 : decode cX10_swing 23 = .ok (.istore_n 3, 1) := by decide +kernel
theorem dX10_swing_24 : decode cX10_swing 24 = .ok (.aload_n 1, 1) := by decide +kernel
theorem dX10_swing_25 : decode cX10_swing 25 = .ok (.invokevirtual 317, 3) := by decide +kernel
theorem dX10_swing_28 : decode cX10_swing 28 = .ok (.iload_n 3, 1) := by decide +kernel
theorem dX10_swing_29 : decode cX10_swing 29 = .ok (.isub, 1) := by decide +kernel
theorem dX10_swing_30 : decode cX10_swing 30 = .ok (.istore 4, 2) := by decide +kernel
theorem dX10_swing_32 : decode cX10_swing 32 = .ok (.iload_n 2, 1) := by decide +kernel
theorem dX10_swing_33 : decode cX10_swing 33 = .ok (.iload_n 3, 1) := by decide +kernel
theorem dX10_swing_34 : decode cX10_swing 34 = .ok (.iload 4, 2) := by decide +kernel
theorem dX10_swing_36 : decode cX10_swing 36 = .ok (.invokestatic 320, 3) := by decide +kernel
theorem dX10_swing_39 : decode cX10_swing 39 = .ok (.istore 5, 2) := by decide +kernel
theorem dX10_swing_41 : decode cX10_swing 41 = .ok (.iconst 0, 1) := by decide +kernel
theorem dX10_swing_42 : decode cX10_swing 42 = .ok (.istore 6, 2) := by decide +kernel
theorem dX10_swing_44 : decode cX10_swing 44 = .ok (.iconst 0, 1) := by decide +kernel
theorem dX10_swing_45 : decode cX10_swing 45 = .ok (.istore 7, 2) := by decide +kernel
theorem dX10_swing_47 : decode cX10_swing 47 = .ok (.iload 7, 2) := by decide +kernel
theorem dX10_swing_49 : decode cX10_swing 49 = .ok (.aload_n 0, 1) := by decide +kernel
theorem dX10_swing_50 : decode cX10_swing 50 = .ok (.getfield 19, 3) := by decide +kernel
theorem dX10_swing_53 : decode cX10_swing 53 = .ok (.getfield 175, 3) := by decide +kernel
theorem dX10_swing_56 : decode cX10_swing 56 = .ok (.getfield 194, 3) := by decide +kernel
theorem dX10_swing_59 : decode cX10_swing 59 = .ok (.iconst 0, 1) := by decide +kernel
theorem dX10_swing_60 : decode cX10_swing 60 = .ok (.iaload, 1) := by decide +kernel
theorem dX10_swing_61 : decode cX10_swing 61 = .ok (.if_icmp .ge 79, 3) := by decide +kernel
theorem dX10_swing_64 : decode cX10_swing 64 = .ok (.aload_n 1, 1) := by decide +kernel
theorem dX10_swing_65 : decode cX10_swing 65 = .ok (.iload 7, 2) := by decide +kernel
theorem dX10_swing_67 : decode cX10_swing 67 = .ok (.invokevirtual 293, 3) := by decide +kernel
theorem dX10_swing_70 : decode cX10_swing 70 = .ok (.ifCond .eq 64, 3) := by decide +kernel
theorem dX10_swing_73 : decode cX10_swing 73 = .ok (.aload_n 1, 1) := by decide +kernel
theorem dX10_swing_74 : decode cX10_swing 74 = .ok (.getfield 241, 3) := by decide +kernel
theorem dX10_swing_77 : decode cX10_swing 77 = .ok (.iload 7, 2) := by decide +kernel
theorem dX10_swing_79 : decode cX10_swing 79 = .ok (.iaload, 1) := by decide +kernel
theorem dX10_swing_80 : decode cX10_swing 80 = .ok (.ifCond .le 7, 3) := by decide +kernel
theorem dX10_swing_83 : decode cX10_swing 83 = .ok (.iconst 1, 1) := by decide +kernel
theorem dX10_swing_84 : decode cX10_swing 84 = .ok (.goto 4, 3) := by decide +kernel
theorem dX10_swing_87 : decode cX10_swing 87 = .ok (.iconst 0, 1) := by decide +kernel
theorem dX10_swing_88 : decode cX10_swing 88 = .ok (.istore 8, 2) := by decide +kernel
theorem dX10_swing_90 : decode cX10_swing 90 = .ok (.iload 8, 2) := by decide +kernel
theorem dX10_swing_92 : decode cX10_swing 92 = .ok (.ifCond .eq 15, 3) := by decide +kernel
theorem dX10_swing_95 : decode cX10_swing 95 = .ok (.iload_n 2, 1) := by decide +kernel
theorem dX10_swing_96 : decode cX10_swing 96 = .ok (.iload_n 3, 1) := by decide +kernel
theorem dX10_swing_97 : decode cX10_swing 97 = .ok (.iconst 1, 1) := by decide +kernel
theorem dX10_swing_98 : decode cX10_swing 98 = .ok (.isub, 1) := by decide +kernel
theorem dX10_swing_99 : decode cX10_swing 99 = .ok (.iload 4, 2) := by decide +kernel
theorem dX10_swing_101 : decode cX10_swing 101 = .ok (.invokestatic 320, 3) := by decide +kernel
theorem dX10_swing_104 : decode cX10_swing 104 = .ok (.goto 12, 3) := by decide +kernel
theorem dX10_swing_107 : decode cX10_swing 107 = .ok (.iload_n 2, 1) := by decide +kernel
theorem dX10_swing_108 : decode cX10_swing 108 = .ok (.iload_n 3, 1) := by decide +kernel
theorem dX10_swing_109 : decode cX10_swing 109 = .ok (.iload 4, 2) := by decide +kernel
theorem dX10_swing_111 : decode cX10_swing 111 = .ok (.iconst 1, 1) := by decide +kernel
theorem dX10_swing_112 : decode cX10_swing 112 = .ok (.isub, 1) := by decide +kernel
theorem dX10_swing_113 : decode cX10_swing 113 = .ok (.invokestatic 320, 3) := by decide +kernel
theorem dX10_swing_116 : decode cX10_swing 116 = .ok (.istore 9, 2) := by decide +kernel
theorem dX10_swing_118 : decode cX10_swing 118 = .ok (.iload 9, 2) := by decide +kernel
theorem dX10_swing_120 : decode cX10_swing 120 = .ok (.iload 5, 2) := by decide +kernel
theorem dX10_swing_122 : decode cX10_swing 122 = .ok (.if_icmp .eq 12, 3) := by decide +kernel
theorem dX10_swing_125 : decode cX10_swing 125 = .ok (.iload 6, 2) := by decide +kernel
theorem dX10_swing_127 : decode cX10_swing 127 = .ok (.iconst 1, 1) := by decide +kernel
theorem dX10_swing_128 : decode cX10_swing 128 = .ok (.iload 7, 2) := by decide +kernel
theorem dX10_swing_130 : decode cX10_swing 130 = .ok (.ishl, 1) := by decide +kernel
theorem dX10_swing_131 : decode cX10_swing 131 = .ok (.ior, 1) := by decide +kernel
theorem dX10_swing_132 : decode cX10_swing 132 = .ok (.istore 6, 2) := by decide +kernel
theorem dX10_swing_134 : decode cX10_swing 134 = .ok (.iinc 7 1, 3) := by decide +kernel
theorem dX10_swing_137 : decode cX10_swing 137 = .ok (.goto (-90), 3) := by decide +kernel
theorem dX10_swing_140 : decode cX10_swing 140 = .ok (.aload_n 0, 1) := by decide +kernel
theorem dX10_swing_141 : decode cX10_swing 141 = .ok (.iload 6, 2) := by decide +kernel
theorem dX10_swing_143 : decode cX10_swing 143 = .ok (.invokevirtual 197, 3) := by decide +kernel
theorem dX10_swing_146 : decode cX10_swing 146 = .ok (.ireturn, 1) := by decide +kernel
set_option maxRecDepth 20000 in
theorem ggX10_lacks_X3_seatedCount : GoodIn wsX10_lacks wsX3_seatedCount := goodIn_r _ [9, 10, 11, 12, 13, 14, 15, 16, 17, 71, 72, 73, 74, 75, 76, 77, 78] (by decide +kernel) (by decide +kernel)
set_option maxRecDepth 20000 in
theorem gX10_lacks_X3_seatedCount : GoodIn wsX10_lacks (wsV RX10 317 RX3 yX3_seatedCount wsX3_seatedCount) := goodIn_app (goodIn_of _ (by decide +kernel)) ggX10_lacks_X3_seatedCount
set_option maxRecDepth 20000 in
theorem ggX10_lacks_X10_none : GoodIn wsX10_lacks wsX10_none := goodIn_r _ [22, 23, 36, 37, 38, 39, 40, 41, 42, 43, 44, 45, 46, 47, 48, 49, 50, 51, 52, 53, 54] (by decide +kernel) (by decide +kernel)
set_option maxRecDepth 20000 in
theorem gX10_lacks_X10_none : GoodIn wsX10_lacks (wsV RX10 133 RX10 yX10_none wsX10_none) := goodIn_app (goodIn_of _ (by decide +kernel)) ggX10_lacks_X10_none
set_option maxRecDepth 20000 in
theorem ggX10_lacks_X3_guiltyVotes : GoodIn wsX10_lacks wsX3_guiltyVotes := goodIn_r _ [27, 10, 28, 71, 72, 73, 74, 75, 76, 77, 78] (by decide +kernel) (by decide +kernel)
set_option maxRecDepth 20000 in
theorem gX10_lacks_X3_guiltyVotes : GoodIn wsX10_lacks (wsV RX10 313 RX3 yX3_guiltyVotes wsX3_guiltyVotes) := goodIn_app (goodIn_of _ (by decide +kernel)) ggX10_lacks_X3_guiltyVotes
set_option maxRecDepth 20000 in
theorem ggX10_lacks_X10_rule : GoodIn wsX10_lacks wsX10_rule := goodIn_r _ [31] (by decide +kernel) (by decide +kernel)
set_option maxRecDepth 20000 in
theorem gX10_lacks_X10_rule : GoodIn wsX10_lacks (va_wsS RX10 320 yX10_rule wsX10_rule) := goodIn_app (goodIn_of _ (by decide +kernel)) ggX10_lacks_X10_rule
set_option maxRecDepth 20000 in
theorem ggX10_lacks_X10_answer : GoodIn wsX10_lacks wsX10_answer := goodIn_r _ [35, 23, 36, 37, 38, 39, 40, 41, 42, 43, 44, 45, 46, 47, 48, 49, 50, 51, 52, 53, 54] (by decide +kernel) (by decide +kernel)
set_option maxRecDepth 20000 in
theorem gX10_lacks_X10_answer : GoodIn wsX10_lacks (wsV RX10 197 RX10 yX10_answer wsX10_answer) := goodIn_app (goodIn_of _ (by decide +kernel)) ggX10_lacks_X10_answer
theorem dX10_lacks_0 : decode cX10_lacks 0 = .ok (.aload_n 0, 1) := by decide +kernel
theorem dX10_lacks_1 : decode cX10_lacks 1 = .ok (.getfield 19, 3) := by decide +kernel
theorem dX10_lacks_4 : decode cX10_lacks 4 = .ok (.getfield 182, 3) := by decide +kernel
theorem dX10_lacks_7 : decode cX10_lacks 7 = .ok (.invokevirtual 317, 3) := by decide +kernel
theorem dX10_lacks_10 : decode cX10_lacks 10 = .ok (.istore_n 1, 1) := by decide +kernel
theorem dX10_lacks_11 : decode cX10_lacks 11 = .ok (.iload_n 1, 1) := by decide +kernel
theorem dX10_lacks_12 : decode cX10_lacks 12 = .ok (.ifCond .ne 10, 3) := by decide +kernel
