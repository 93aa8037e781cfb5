theorem dX3_closeDay_83 : decode cX3_closeDay 83 = .ok (.ireturn, 1) := by decide +kernel
theorem dX3_isSeated_0 : decode cX3_isSeated 0 = .ok (.aload_n 0, 1) := by decide +kernel
theorem dX3_isSeated_1 : decode cX3_isSeated 1 = .ok (.getfield 18, 3) := by decide +kernel
theorem dX3_isSeated_4 : decode cX3_isSeated 4 = .ok (.iload_n 1, 1) := by decide +kernel
theorem dX3_isSeated_5 : decode cX3_isSeated 5 = .ok (.ishr, 1) := by decide +kernel
theorem dX3_isSeated_6 : decode cX3_isSeated 6 = .ok (.iconst 1, 1) := by decide +kernel
theorem dX3_isSeated_7 : decode cX3_isSeated 7 = .ok (.iand, 1) := by decide +kernel
theorem dX3_isSeated_8 : decode cX3_isSeated 8 = .ok (.ifCond .eq 7, 3) := by decide +kernel
theorem dX3_isSeated_11 : decode cX3_isSeated 11 = .ok (.iconst 1, 1) := by decide +kernel
theorem dX3_isSeated_12 : decode cX3_isSeated 12 = .ok (.goto 4, 3) := by decide +kernel
theorem dX3_isSeated_15 : decode cX3_isSeated 15 = .ok (.iconst 0, 1) := by decide +kernel
theorem dX3_isSeated_16 : decode cX3_isSeated 16 = .ok (.ireturn, 1) := by decide +kernel
theorem dX3_unseat_0 : decode cX3_unseat 0 = .ok (.aload_n 0, 1) := by decide +kernel
theorem dX3_unseat_1 : decode cX3_unseat 1 = .ok (.dup, 1) := by decide +kernel
theorem dX3_unseat_2 : decode cX3_unseat 2 = .ok (.getfield 18, 3) := by decide +kernel
theorem dX3_unseat_5 : decode cX3_unseat 5 = .ok (.iconst 1, 1) := by decide +kernel
theorem dX3_unseat_6 : decode cX3_unseat 6 = .ok (.iload_n 1, 1) := by decide +kernel
theorem dX3_unseat_7 : decode cX3_unseat 7 = .ok (.ishl, 1) := by decide +kernel
theorem dX3_unseat_8 : decode cX3_unseat 8 = .ok (.iconst (-1), 1) := by decide +kernel
theorem dX3_unseat_9 : decode cX3_unseat 9 = .ok (.ixor, 1) := by decide +kernel
theorem dX3_unseat_10 : decode cX3_unseat 10 = .ok (.iand, 1) := by decide +kernel
theorem dX3_unseat_11 : decode cX3_unseat 11 = .ok (.putfield 18, 3) := by decide +kernel
theorem dX3_unseat_14 : decode cX3_unseat 14 = .ok (.return_, 1) := by decide +kernel
theorem dX3_reseat_0 : decode cX3_reseat 0 = .ok (.aload_n 0, 1) := by decide +kernel
theorem dX3_reseat_1 : decode cX3_reseat 1 = .ok (.dup, 1) := by decide +kernel
theorem dX3_reseat_2 : decode cX3_reseat 2 = .ok (.getfield 18, 3) := by decide +kernel
theorem dX3_reseat_5 : decode cX3_reseat 5 = .ok (.iconst 1, 1) := by decide +kernel
theorem dX3_reseat_6 : decode cX3_reseat 6 = .ok (.iload_n 1, 1) := by decide +kernel
theorem dX3_reseat_7 : decode cX3_reseat 7 = .ok (.ishl, 1) := by decide +kernel
theorem dX3_reseat_8 : decode cX3_reseat 8 = .ok (.ior, 1) := by decide +kernel
theorem dX3_reseat_9 : decode cX3_reseat 9 = .ok (.putfield 18, 3) := by decide +kernel
theorem dX3_reseat_12 : decode cX3_reseat 12 = .ok (.return_, 1) := by decide +kernel
set_option maxRecDepth 20000 in
theorem ggX3_seatedCount_J6_bitCount_0f7a4 : GoodIn wsX3_seatedCount wsJ6_bitCount_0f7a4 := goodIn_r _ [5, 6, 7, 8] (by decide +kernel) (by decide +kernel)
set_option maxRecDepth 20000 in
theorem gX3_seatedCount_J6_bitCount_0f7a4 : GoodIn wsX3_seatedCount (va_wsS RX3 69 yJ6_bitCount_0f7a4 wsJ6_bitCount_0f7a4) := goodIn_app (goodIn_of _ (by decide +kernel)) ggX3_seatedCount_J6_bitCount_0f7a4
theorem dX3_seatedCount_0 : decode cX3_seatedCount 0 = .ok (.aload_n 0, 1) := by decide +kernel
theorem dX3_seatedCount_1 : decode cX3_seatedCount 1 = .ok (.getfield 18, 3) := by decide +kernel
theorem dX3_seatedCount_4 : decode cX3_seatedCount 4 = .ok (.invokestatic 69, 3) := by decide +kernel
theorem dX3_seatedCount_7 : decode cX3_seatedCount 7 = .ok (.ireturn, 1) := by decide +kernel
theorem dX3_guiltyVotes_0 : decode cX3_guiltyVotes 0 = .ok (.iconst 0, 1) := by decide +kernel
theorem dX3_guiltyVotes_1 : decode cX3_guiltyVotes 1 = .ok (.istore_n 1, 1) := by decide +kernel
theorem dX3_guiltyVotes_2 : decode cX3_guiltyVotes 2 = .ok (.iconst 0, 1) := by decide +kernel
theorem dX3_guiltyVotes_3 : decode cX3_guiltyVotes 3 = .ok (.istore_n 2, 1) := by decide +kernel
theorem dX3_guiltyVotes_4 : decode cX3_guiltyVotes 4 = .ok (.iload_n 2, 1) := by decide +kernel
theorem dX3_guiltyVotes_5 : decode cX3_guiltyVotes 5 = .ok (.bipush 10, 2) := by decide +kernel
theorem dX3_guiltyVotes_7 : decode cX3_guiltyVotes 7 = .ok (.if_icmp .ge 41, 3) := by decide +kernel
theorem dX3_guiltyVotes_10 : decode cX3_guiltyVotes 10 = .ok (.aload_n 0, 1) := by decide +kernel
theorem dX3_guiltyVotes_11 : decode cX3_guiltyVotes 11 = .ok (.getfield 18, 3) := by decide +kernel
theorem dX3_guiltyVotes_14 : decode cX3_guiltyVotes 14 = .ok (.iload_n 2, 1) := by decide +kernel
theorem dX3_guiltyVotes_15 : decode cX3_guiltyVotes 15 = .ok (.ishr, 1) := by decide +kernel
theorem dX3_guiltyVotes_16 : decode cX3_guiltyVotes 16 = .ok (.ifCond .eq 32, 3) := by decide +kernel
theorem dX3_guiltyVotes_19 : decode cX3_guiltyVotes 19 = .ok (.aload_n 0, 1) := by decide +kernel
theorem dX3_guiltyVotes_20 : decode cX3_guiltyVotes 20 = .ok (.getfield 18, 3) := by decide +kernel
theorem dX3_guiltyVotes_23 : decode cX3_guiltyVotes 23 = .ok (.iload_n 2, 1) := by decide +kernel
theorem dX3_guiltyVotes_24 : decode cX3_guiltyVotes 24 = .ok (.ishr, 1) := by decide +kernel
theorem dX3_guiltyVotes_25 : decode cX3_guiltyVotes 25 = .ok (.iconst 1, 1) := by decide +kernel
theorem dX3_guiltyVotes_26 : decode cX3_guiltyVotes 26 = .ok (.iand, 1) := by decide +kernel
theorem dX3_guiltyVotes_27 : decode cX3_guiltyVotes 27 = .ok (.ifCond .eq 15, 3) := by decide +kernel
theorem dX3_guiltyVotes_30 : decode cX3_guiltyVotes 30 = .ok (.aload_n 0, 1) := by decide +kernel
theorem dX3_guiltyVotes_31 : decode cX3_guiltyVotes 31 = .ok (.getfield 9, 3) := by decide +kernel
theorem dX3_guiltyVotes_34 : decode cX3_guiltyVotes 34 = .ok (.iload_n 2, 1) := by decide +kernel
theorem dX3_guiltyVotes_35 : decode cX3_guiltyVotes 35 = .ok (.iaload, 1) := by decide +kernel
theorem dX3_guiltyVotes_36 : decode cX3_guiltyVotes 36 = .ok (.ifCond .le 6, 3) := by decide +kernel
theorem dX3_guiltyVotes_39 : decode cX3_guiltyVotes 39 = .ok (.iinc 1 1, 3) := by decide +kernel
theorem dX3_guiltyVotes_42 : decode cX3_guiltyVotes 42 = .ok (.iinc 2 1, 3) := by decide +kernel
theorem dX3_guiltyVotes_45 : decode cX3_guiltyVotes 45 = .ok (.goto (-41), 3) := by decide +kernel
theorem dX3_guiltyVotes_48 : decode cX3_guiltyVotes 48 = .ok (.iload_n 1, 1) := by decide +kernel
theorem dX3_guiltyVotes_49 : decode cX3_guiltyVotes 49 = .ok (.ireturn, 1) := by decide +kernel
set_option maxRecDepth 20000 in
theorem ggX3_ruling_X3_guiltyVotes : GoodIn wsX3_ruling wsX3_guiltyVotes := goodIn_r _ [5, 6, 7, 22, 23, 24, 25, 26, 27, 28, 29] (by decide +kernel) (by decide +kernel)
set_option maxRecDepth 20000 in
theorem gX3_ruling_X3_guiltyVotes : GoodIn wsX3_ruling (wsV RX3 74 RX3 yX3_guiltyVotes wsX3_guiltyVotes) := goodIn_app (goodIn_of _ (by decide +kernel)) ggX3_ruling_X3_guiltyVotes
set_option maxRecDepth 20000 in
theorem ggX3_ruling_X3_seatedCount : GoodIn wsX3_ruling wsX3_seatedCount := goodIn_r _ [11, 6, 12, 13, 14, 15, 16, 17, 18, 22, 23, 24, 25, 26, 27, 28, 29] (by decide +kernel) (by decide +kernel)
set_option maxRecDepth 20000 in
theorem gX3_ruling_X3_seatedCount : GoodIn wsX3_ruling (wsV RX3 78 RX3 yX3_seatedCount wsX3_seatedCount) := goodIn_app (goodIn_of _ (by decide +kernel)) ggX3_ruling_X3_seatedCount
set_option maxRecDepth 20000 in
theorem ggX3_ruling_X10_rule : GoodIn wsX3_ruling wsX10_rule := goodIn_r _ [21] (by decide +kernel) (by decide +kernel)
set_option maxRecDepth 20000 in
theorem gX3_ruling_X10_rule_n81 : GoodIn wsX3_ruling (wsX10_rule) := ggX3_ruling_X10_rule
theorem dX3_ruling_0 : decode cX3_ruling 0 = .ok (.aload_n 0, 1) := by decide +kernel
theorem dX3_ruling_1 : decode cX3_ruling 1 = .ok (.invokevirtual 74, 3) := by decide +kernel
theorem dX3_ruling_4 : decode cX3_ruling 4 = .ok (.istore_n 2, 1) := by decide +kernel
theorem dX3_ruling_5 : decode cX3_ruling 5 = .ok (.iload_n 1, 1) := by decide +kernel
theorem dX3_ruling_6 : decode cX3_ruling 6 = .ok (.iload_n 2, 1) := by decide +kernel
theorem dX3_ruling_7 : decode cX3_ruling 7 = .ok (.aload_n 0, 1) := by decide +kernel
theorem dX3_ruling_8 : decode cX3_ruling 8 = .ok (.invokevirtual 78, 3) := by decide +kernel
theorem dX3_ruling_11 : decode cX3_ruling 11 = .ok (.iload_n 2, 1) := by decide +kernel
theorem dX3_ruling_12 : decode cX3_ruling 12 = .ok (.isub, 1) := by decide +kernel
theorem dX3_ruling_13 : decode cX3_ruling 13 = .ok (.invokestatic 81, 3) := by decide +kernel
theorem dX3_ruling_16 : decode cX3_ruling 16 = .ok (.ireturn, 1) := by decide +kernel
theorem dX3_canPay_0 : decode cX3_canPay 0 = .ok (.aload_n 0, 1) := by decide +kernel
theorem dX3_canPay_1 : decode cX3_canPay 1 = .ok (.getfield 34, 3) := by decide +kernel
theorem dX3_canPay_4 : decode cX3_canPay 4 = .ok (.aload_n 1, 1) := by decide +kernel
theorem dX3_canPay_5 : decode cX3_canPay 5 = .ok (.getfield 85, 3) := by decide +kernel
theorem dX3_canPay_8 : decode cX3_canPay 8 = .ok (.iload_n 2, 1) := by decide +kernel
theorem dX3_canPay_9 : decode cX3_canPay 9 = .ok (.iaload, 1) := by decide +kernel
theorem dX3_canPay_10 : decode cX3_canPay 10 = .ok (.iadd, 1) := by decide +kernel
theorem dX3_canPay_11 : decode cX3_canPay 11 = .ok (.sipush 9999, 3) := by decide +kernel
theorem dX3_canPay_14 : decode cX3_canPay 14 = .ok (.if_icmp .gt 7, 3) := by decide +kernel
theorem dX3_canPay_17 : decode cX3_canPay 17 = .ok (.iconst 1, 1) := by decide +kernel
theorem dX3_canPay_18 : decode cX3_canPay 18 = .ok (.goto 4, 3) := by decide +kernel
theorem dX3_canPay_21 : decode cX3_canPay 21 = .ok (.iconst 0, 1) := by decide +kernel
theorem dX3_canPay_22 : decode cX3_canPay 22 = .ok (.ireturn, 1) := by decide +kernel
theorem dX3_buy_0 : decode cX3_buy 0 = .ok (.aload_n 0, 1) := by decide +kernel
theorem dX3_buy_1 : decode cX3_buy 1 = .ok (.dup, 1) := by decide +kernel
theorem dX3_buy_2 : decode cX3_buy 2 = .ok (.getfield 34, 3) := by decide +kernel
theorem dX3_buy_5 : decode cX3_buy 5 = .ok (.aload_n 1, 1) := by decide +kernel
theorem dX3_buy_6 : decode cX3_buy 6 = .ok (.getfield 85, 3) := by decide +kernel
theorem dX3_buy_9 : decode cX3_buy 9 = .ok (.iload_n 2, 1) := by decide +kernel
theorem dX3_buy_10 : decode cX3_buy 10 = .ok (.iaload, 1) := by decide +kernel
theorem dX3_buy_11 : decode cX3_buy 11 = .ok (.iadd, 1) := by decide +kernel
theorem dX3_buy_12 : decode cX3_buy 12 = .ok (.putfield 34, 3) := by decide +kernel
theorem dX3_buy_15 : decode cX3_buy 15 = .ok (.aload_n 0, 1) := by decide +kernel
theorem dX3_buy_16 : decode cX3_buy 16 = .ok (.getfield 9, 3) := by decide +kernel
theorem dX3_buy_19 : decode cX3_buy 19 = .ok (.iload_n 2, 1) := by decide +kernel
theorem dX3_buy_20 : decode cX3_buy 20 = .ok (.iload_n 3, 1) := by decide +kernel
theorem dX3_buy_21 : decode cX3_buy 21 = .ok (.bipush 99, 2) := by decide +kernel
theorem dX3_buy_23 : decode cX3_buy 23 = .ok (.imul, 1) := by decide +kernel
theorem dX3_buy_24 : decode cX3_buy 24 = .ok (.iastore, 1) := by decide +kernel
theorem dX3_buy_25 : decode cX3_buy 25 = .ok (.return_, 1) := by decide +kernel
theorem dX3_wasShown_0 : decode cX3_wasShown 0 = .ok (.aload_n 0, 1) := by decide +kernel
theorem dX3_wasShown_1 : decode cX3_wasShown 1 = .ok (.getfield 22, 3) := by decide +kernel
theorem dX3_wasShown_4 : decode cX3_wasShown 4 = .ok (.iload_n 1, 1) := by decide +kernel
theorem dX3_wasShown_5 : decode cX3_wasShown 5 = .ok (.ishr, 1) := by decide +kernel
theorem dX3_wasShown_6 : decode cX3_wasShown 6 = .ok (.iconst 1, 1) := by decide +kernel
theorem dX3_wasShown_7 : decode cX3_wasShown 7 = .ok (.iand, 1) := by decide +kernel
theorem dX3_wasShown_8 : decode cX3_wasShown 8 = .ok (.ifCond .eq 7, 3) := by decide +kernel
theorem dX3_wasShown_11 : decode cX3_wasShown 11 = .ok (.iconst 1, 1) := by decide +kernel
theorem dX3_wasShown_12 : decode cX3_wasShown 12 = .ok (.goto 4, 3) := by decide +kernel
theorem dX3_wasShown_15 : decode cX3_wasShown 15 = .ok (.iconst 0, 1) := by decide +kernel
theorem dX3_wasShown_16 : decode cX3_wasShown 16 = .ok (.ireturn, 1) := by decide +kernel
set_option maxRecDepth 20000 in
theorem ggX3_present_X3_isSeated : GoodIn wsX3_present wsX3_isSeated := goodIn_r _ [16, 17, 36, 37, 38, 39, 40, 41, 42, 43] (by decide +kernel) (by decide +kernel)
set_option maxRecDepth 20000 in
theorem gX3_present_X3_isSeated : GoodIn wsX3_present (wsV RX3 91 RX3 yX3_isSeated wsX3_isSeated) := goodIn_app (goodIn_of _ (by decide +kernel)) ggX3_present_X3_isSeated
set_option maxRecDepth 20000 in
theorem ggX3_present_X3_shift : GoodIn wsX3_present wsX3_shift := goodIn_r _ [21, 22, 36, 37, 38, 39, 40, 41, 42, 43] (by decide +kernel) (by decide +kernel)
set_option maxRecDepth 20000 in
theorem gX3_present_X3_shift : GoodIn wsX3_present (wsV RX3 106 RX3 yX3_shift wsX3_shift) := goodIn_app (goodIn_of _ (by decide +kernel)) ggX3_present_X3_shift
theorem dX3_present_0 : decode cX3_present 0 = .ok (.aload_n 1, 1) := by decide +kernel
theorem dX3_present_1 : decode cX3_present 1 = .ok (.getfield 88, 3) := by decide +kernel
theorem dX3_present_4 : decode cX3_present 4 = .ok (.iload_n 2, 1) := by decide +kernel
theorem dX3_present_5 : decode cX3_present 5 = .ok (.iaload, 1) := by decide +kernel
theorem dX3_present_6 : decode cX3_present 6 = .ok (.istore_n 3, 1) := by decide +kernel
theorem dX3_present_7 : decode cX3_present 7 = .ok (.iconst 0, 1) := by decide +kernel
theorem dX3_present_8 : decode cX3_present 8 = .ok (.istore 4, 2) := by decide +kernel
theorem dX3_present_10 : decode cX3_present 10 = .ok (.iconst 0, 1) := by decide +kernel
theorem dX3_present_11 : decode cX3_present 11 = .ok (.istore 5, 2) := by decide +kernel
theorem dX3_present_13 : decode cX3_present 13 = .ok (.iload 5, 2) := by decide +kernel
theorem dX3_present_15 : decode cX3_present 15 = .ok (.aload_n 1, 1) := by decide +kernel
theorem dX3_present_16 : decode cX3_present 16 = .ok (.getfield 47, 3) := by decide +kernel
theorem dX3_present_19 : decode cX3_present 19 = .ok (.iconst 0, 1) := by decide +kernel
theorem dX3_present_20 : decode cX3_present 20 = .ok (.iaload, 1) := by decide +kernel
theorem dX3_present_21 : decode cX3_present 21 = .ok (.if_icmp .ge 59, 3) := by decide +kernel
theorem dX3_present_24 : decode cX3_present 24 = .ok (.aload_n 0, 1) := by decide +kernel
theorem dX3_present_25 : decode cX3_present 25 = .ok (.iload 5, 2) := by decide +kernel
theorem dX3_present_27 : decode cX3_present 27 = .ok (.invokevirtual 91, 3) := by decide +kernel
theorem dX3_present_30 : decode cX3_present 30 = .ok (.ifCond .eq 44, 3) := by decide +kernel
theorem dX3_present_33 : decode cX3_present 33 = .ok (.iconst 0, 1) := by decide +kernel
theorem dX3_present_34 : decode cX3_present 34 = .ok (.iload_n 3, 1) := by decide +kernel
theorem dX3_present_35 : decode cX3_present 35 = .ok (.invokestatic 95, 3) := by decide +kernel
theorem dX3_present_38 : decode cX3_present 38 = .ok (.aload_n 1, 1) := by decide +kernel
theorem dX3_present_39 : decode cX3_present 39 = .ok (.getfield 100, 3) := by decide +kernel
theorem dX3_present_42 : decode cX3_present 42 = .ok (.iload 5, 2) := by decide +kernel
theorem dX3_present_44 : decode cX3_present 44 = .ok (.iaload, 1) := by decide +kernel
theorem dX3_present_45 : decode cX3_present 45 = .ok (.isub, 1) := by decide +kernel
theorem dX3_present_46 : decode cX3_present 46 = .ok (.invokestatic 103, 3) := by decide +kernel
theorem dX3_present_49 : decode cX3_present 49 = .ok (.istore 6, 2) := by decide +kernel
theorem dX3_present_51 : decode cX3_present 51 = .ok (.iload 4, 2) := by decide +kernel
theorem dX3_present_53 : decode cX3_present 53 = .ok (.aload_n 0, 1) := by decide +kernel
theorem dX3_present_54 : decode cX3_present 54 = .ok (.iload 5, 2) := by decide +kernel
theorem dX3_present_56 : decode cX3_present 56 = .ok (.iload_n 3, 1) := by decide +kernel
theorem dX3_present_57 : decode cX3_present 57 = .ok (.ifCond .ge 9, 3) := by decide +kernel
theorem dX3_present_60 : decode cX3_present 60 = .ok (.iload 6, 2) := by decide +kernel
theorem dX3_present_62 : decode cX3_present 62 = .ok (.ineg, 1) := by decide +kernel
theorem dX3_present_63 : decode cX3_present 63 = .ok (.goto 5, 3) := by decide +kernel
theorem dX3_present_66 : decode cX3_present 66 = .ok (.iload 6, 2) := by decide +kernel
theorem dX3_present_68 : decode cX3_present 68 = .ok (.invokevirtual 106, 3) := by decide +kernel
theorem dX3_present_71 : decode cX3_present 71 = .ok (.iadd, 1) := by decide +kernel
theorem dX3_present_72 : decode cX3_present 72 = .ok (.istore 4, 2) := by decide +kernel
theorem dX3_present_74 : decode cX3_present 74 = .ok (.iinc 5 1, 3) := by decide +kernel
theorem dX3_present_77 : decode cX3_present 77 = .ok (.goto (-64), 3) := by decide +kernel
theorem dX3_present_80 : decode cX3_present 80 = .ok (.aload_n 0, 1) := by decide +kernel
theorem dX3_present_81 : decode cX3_present 81 = .ok (.dup, 1) := by decide +kernel
theorem dX3_present_82 : decode cX3_present 82 = .ok (.getfield 22, 3) := by decide +kernel
theorem dX3_present_85 : decode cX3_present 85 = .ok (.iconst 1, 1) := by decide +kernel
theorem dX3_present_86 : decode cX3_present 86 = .ok (.iload_n 2, 1) := by decide +kernel
theorem dX3_present_87 : decode cX3_present 87 = .ok (.ishl, 1) := by decide +kernel
theorem dX3_present_88 : decode cX3_present 88 = .ok (.ior, 1) := by decide +kernel
theorem dX3_present_89 : decode cX3_present 89 = .ok (.putfield 22, 3) := by decide +kernel
theorem dX3_present_92 : decode cX3_present 92 = .ok (.iload 4, 2) := by decide +kernel
theorem dX3_present_94 : decode cX3_present 94 = .ok (.ireturn, 1) := by decide +kernel
theorem dX3_shift_0 : decode cX3_shift 0 = .ok (.aload_n 0, 1) := by decide +kernel
theorem dX3_shift_1 : decode cX3_shift 1 = .ok (.getfield 9, 3) := by decide +kernel
theorem dX3_shift_4 : decode cX3_shift 4 = .ok (.iload_n 1, 1) := by decide +kernel
theorem dX3_shift_5 : decode cX3_shift 5 = .ok (.iaload, 1) := by decide +kernel
theorem dX3_shift_6 : decode cX3_shift 6 = .ok (.istore_n 3, 1) := by decide +kernel
theorem dX3_shift_7 : decode cX3_shift 7 = .ok (.iload_n 3, 1) := by decide +kernel
theorem dX3_shift_8 : decode cX3_shift 8 = .ok (.iload_n 2, 1) := by decide +kernel
theorem dX3_shift_9 : decode cX3_shift 9 = .ok (.iadd, 1) := by decide +kernel
theorem dX3_shift_10 : decode cX3_shift 10 = .ok (.istore 4, 2) := by decide +kernel
theorem dX3_shift_12 : decode cX3_shift 12 = .ok (.iload 4, 2) := by decide +kernel
theorem dX3_shift_14 : decode cX3_shift 14 = .ok (.bipush 99, 2) := by decide +kernel
theorem dX3_shift_16 : decode cX3_shift 16 = .ok (.if_icmp .le 10, 3) := by decide +kernel
theorem dX3_shift_19 : decode cX3_shift 19 = .ok (.bipush 99, 2) := by decide +kernel
theorem dX3_shift_21 : decode cX3_shift 21 = .ok (.istore 4, 2) := by decide +kernel
theorem dX3_shift_23 : decode cX3_shift 23 = .ok (.goto 14, 3) := by decide +kernel
theorem dX3_shift_26 : decode cX3_shift 26 = .ok (.iload 4, 2) := by decide +kernel
theorem dX3_shift_28 : decode cX3_shift 28 = .ok (.bipush (-99), 2) := by decide +kernel
theorem dX3_shift_30 : decode cX3_shift 30 = .ok (.if_icmp .ge 7, 3) := by decide +kernel
theorem dX3_shift_33 : decode cX3_shift 33 = .ok (.bipush (-99), 2) := by decide +kernel
theorem dX3_shift_35 : decode cX3_shift 35 = .ok (.istore 4, 2) := by decide +kernel
theorem dX3_shift_37 : decode cX3_shift 37 = .ok (.aload_n 0, 1) := by decide +kernel
theorem dX3_shift_38 : decode cX3_shift 38 = .ok (.getfield 9, 3) := by decide +kernel
theorem dX3_shift_41 : decode cX3_shift 41 = .ok (.iload_n 1, 1) := by decide +kernel
theorem dX3_shift_42 : decode cX3_shift 42 = .ok (.iload 4, 2) := by decide +kernel
theorem dX3_shift_44 : decode cX3_shift 44 = .ok (.iastore, 1) := by decide +kernel
theorem dX3_shift_45 : decode cX3_shift 45 = .ok (.iload 4, 2) := by decide +kernel
theorem dX3_shift_47 : decode cX3_shift 47 = .ok (.iload_n 3, 1) := by decide +kernel
theorem dX3_shift_48 : decode cX3_shift 48 = .ok (.if_icmp .ne 7, 3) := by decide +kernel
theorem dX3_shift_51 : decode cX3_shift 51 = .ok (.iconst 0, 1) := by decide +kernel
theorem dX3_shift_52 : decode cX3_shift 52 = .ok (.goto 4, 3) := by decide +kernel
theorem dX3_shift_55 : decode cX3_shift 55 = .ok (.iconst 1, 1) := by decide +kernel
theorem dX3_shift_56 : decode cX3_shift 56 = .ok (.ireturn, 1) := by decide +kernel
theorem dX3_pullOn_0 : decode cX3_pullOn 0 = .ok (.aload_n 1, 1) := by decide +kernel
theorem dX3_pullOn_1 : decode cX3_pullOn 1 = .ok (.getfield 109, 3) := by decide +kernel
theorem dX3_pullOn_4 : decode cX3_pullOn 4 = .ok (.iload_n 2, 1) := by decide +kernel
theorem dX3_pullOn_5 : decode cX3_pullOn 5 = .ok (.iaload, 1) := by decide +kernel
theorem dX3_pullOn_6 : decode cX3_pullOn 6 = .ok (.aload_n 0, 1) := by decide +kernel
theorem dX3_pullOn_7 : decode cX3_pullOn 7 = .ok (.getfield 18, 3) := by decide +kernel
theorem dX3_pullOn_10 : decode cX3_pullOn 10 = .ok (.iand, 1) := by decide +kernel
theorem dX3_pullOn_11 : decode cX3_pullOn 11 = .ok (.istore_n 3, 1) := by decide +kernel
theorem dX3_pullOn_12 : decode cX3_pullOn 12 = .ok (.iconst 0, 1) := by decide +kernel
theorem dX3_pullOn_13 : decode cX3_pullOn 13 = .ok (.istore 4, 2) := by decide +kernel
theorem dX3_pullOn_15 : decode cX3_pullOn 15 = .ok (.iconst 0, 1) := by decide +kernel
theorem dX3_pullOn_16 : decode cX3_pullOn 16 = .ok (.istore 5, 2) := by decide +kernel
theorem dX3_pullOn_18 : decode cX3_pullOn 18 = .ok (.iload 5, 2) := by decide +kernel
theorem dX3_pullOn_20 : decode cX3_pullOn 20 = .ok (.bipush 10, 2) := by decide +kernel
theorem dX3_pullOn_22 : decode cX3_pullOn 22 = .ok (.if_icmp .ge 76, 3) := by decide +kernel
theorem dX3_pullOn_25 : decode cX3_pullOn 25 = .ok (.iload_n 3, 1) := by decide +kernel
theorem dX3_pullOn_26 : decode cX3_pullOn 26 = .ok (.iload 5, 2) := by decide +kernel
theorem dX3_pullOn_28 : decode cX3_pullOn 28 = .ok (.ishr, 1) := by decide +kernel
theorem dX3_pullOn_29 : decode cX3_pullOn 29 = .ok (.ifCond .eq 69, 3) := by decide +kernel
theorem dX3_pullOn_32 : decode cX3_pullOn 32 = .ok (.iload_n 3, 1) := by decide +kernel
theorem dX3_pullOn_33 : decode cX3_pullOn 33 = .ok (.iload 5, 2) := by decide +kernel
theorem dX3_pullOn_35 : decode cX3_pullOn 35 = .ok (.ishr, 1) := by decide +kernel
theorem dX3_pullOn_36 : decode cX3_pullOn 36 = .ok (.iconst 1, 1) := by decide +kernel
theorem dX3_pullOn_37 : decode cX3_pullOn 37 = .ok (.iand, 1) := by decide +kernel
theorem dX3_pullOn_38 : decode cX3_pullOn 38 = .ok (.ifCond .eq 54, 3) := by decide +kernel
theorem dX3_pullOn_41 : decode cX3_pullOn 41 = .ok (.aload_n 1, 1) := by decide +kernel
theorem dX3_pullOn_42 : decode cX3_pullOn 42 = .ok (.getfield 112, 3) := by decide +kernel
theorem dX3_pullOn_45 : decode cX3_pullOn 45 = .ok (.iload_n 2, 1) := by decide +kernel
theorem dX3_pullOn_46 : decode cX3_pullOn 46 = .ok (.bipush 10, 2) := by decide +kernel
theorem dX3_pullOn_48 : decode cX3_pullOn 48 = .ok (.imul, 1) := by decide +kernel
theorem dX3_pullOn_49 : decode cX3_pullOn 49 = .ok (.iload 5, 2) := by decide +kernel
theorem dX3_pullOn_51 : decode cX3_pullOn 51 = .ok (.iadd, 1) := by decide +kernel
theorem dX3_pullOn_52 : decode cX3_pullOn 52 = .ok (.iaload, 1) := by decide +kernel
theorem dX3_pullOn_53 : decode cX3_pullOn 53 = .ok (.istore 6, 2) := by decide +kernel
theorem dX3_pullOn_55 : decode cX3_pullOn 55 = .ok (.iload 4, 2) := by decide +kernel
theorem dX3_pullOn_57 : decode cX3_pullOn 57 = .ok (.aload_n 0, 1) := by decide +kernel
theorem dX3_pullOn_58 : decode cX3_pullOn 58 = .ok (.getfield 9, 3) := by decide +kernel
theorem dX3_pullOn_61 : decode cX3_pullOn 61 = .ok (.iload 5, 2) := by decide +kernel
theorem dX3_pullOn_63 : decode cX3_pullOn 63 = .ok (.iaload, 1) := by decide +kernel
theorem dX3_pullOn_64 : decode cX3_pullOn 64 = .ok (.ifCond .le 8, 3) := by decide +kernel
theorem dX3_pullOn_67 : decode cX3_pullOn 67 = .ok (.iload 6, 2) := by decide +kernel
theorem dX3_pullOn_69 : decode cX3_pullOn 69 = .ok (.goto 20, 3) := by decide +kernel
theorem dX3_pullOn_72 : decode cX3_pullOn 72 = .ok (.aload_n 0, 1) := by decide +kernel
theorem dX3_pullOn_73 : decode cX3_pullOn 73 = .ok (.getfield 9, 3) := by decide +kernel
theorem dX3_pullOn_76 : decode cX3_pullOn 76 = .ok (.iload 5, 2) := by decide +kernel
theorem dX3_pullOn_78 : decode cX3_pullOn 78 = .ok (.iaload, 1) := by decide +kernel
theorem dX3_pullOn_79 : decode cX3_pullOn 79 = .ok (.ifCond .ge 9, 3) := by decide +kernel
theorem dX3_pullOn_82 : decode cX3_pullOn 82 = .ok (.iload 6, 2) := by decide +kernel
theorem dX3_pullOn_84 : decode cX3_pullOn 84 = .ok (.ineg, 1) := by decide +kernel
theorem dX3_pullOn_85 : decode cX3_pullOn 85 = .ok (.goto 4, 3) := by decide +kernel
theorem dX3_pullOn_88 : decode cX3_pullOn 88 = .ok (.iconst 0, 1) := by decide +kernel
theorem dX3_pullOn_89 : decode cX3_pullOn 89 = .ok (.iadd, 1) := by decide +kernel
theorem dX3_pullOn_90 : decode cX3_pullOn 90 = .ok (.istore 4, 2) := by decide +kernel
theorem dX3_pullOn_92 : decode cX3_pullOn 92 = .ok (.iinc 5 1, 3) := by decide +kernel
theorem dX3_pullOn_95 : decode cX3_pullOn 95 = .ok (.goto (-77), 3) := by decide +kernel
theorem dX3_pullOn_98 : decode cX3_pullOn 98 = .ok (.iload 4, 2) := by decide +kernel
theorem dX3_pullOn_100 : decode cX3_pullOn 100 = .ok (.invokestatic 95, 3) := by decide +kernel
theorem dX3_pullOn_103 : decode cX3_pullOn 103 = .ok (.aload_n 1, 1) := by decide +kernel
theorem dX3_pullOn_104 : decode cX3_pullOn 104 = .ok (.getfield 100, 3) := by decide +kernel
theorem dX3_pullOn_107 : decode cX3_pullOn 107 = .ok (.iload_n 2, 1) := by decide +kernel
theorem dX3_pullOn_108 : decode cX3_pullOn 108 = .ok (.iaload, 1) := by decide +kernel
theorem dX3_pullOn_109 : decode cX3_pullOn 109 = .ok (.if_icmp .le 8, 3) := by decide +kernel
theorem dX3_pullOn_112 : decode cX3_pullOn 112 = .ok (.iload 4, 2) := by decide +kernel
theorem dX3_pullOn_114 : decode cX3_pullOn 114 = .ok (.goto 4, 3) := by decide +kernel
theorem dX3_pullOn_117 : decode cX3_pullOn 117 = .ok (.iconst 0, 1) := by decide +kernel
theorem dX3_pullOn_118 : decode cX3_pullOn 118 = .ok (.ireturn, 1) := by decide +kernel
set_option maxRecDepth 20000 in
theorem ggX3_talkOn_X3_talkRound : GoodIn wsX3_talkOn wsX3_talkRound := goodIn_r _ [7, 8, 2, 1, 9, 10, 11, 6, 12, 13, 14, 15, 16, 17, 18, 19, 20, 21, 22, 23, 24, 25, 26, 27, 28, 29, 30, 31, 32, 33, 34, 35, 36, 37, 38, 39, 40, 41, 42, 43, 44, 45, 46, 47, 48, 49, 50, 51, 52, 53, 54, 55, 56, 57, 58, 59, 60, 61, 62, 63, 64, 65, 66, 67, 68, 69, 70, 71, 72] (by decide +kernel) (by decide +kernel)
set_option maxRecDepth 20000 in
theorem gX3_talkOn_X3_talkRound : GoodIn wsX3_talkOn (wsV RX3 118 RX3 yX3_talkRound wsX3_talkRound) := goodIn_app (goodIn_of _ (by decide +kernel)) ggX3_talkOn_X3_talkRound
theorem dX3_talkOn_0 : decode cX3_talkOn 0 = .ok (.aload_n 1, 1) := by decide +kernel
theorem dX3_talkOn_1 : decode cX3_talkOn 1 = .ok (.getfield 115, 3) := by decide +kernel
theorem dX3_talkOn_4 : decode cX3_talkOn 4 = .ok (.ifCond .le 7, 3) := by decide +kernel
theorem dX3_talkOn_7 : decode cX3_talkOn 7 = .ok (.iconst 1, 1) := by decide +kernel
theorem dX3_talkOn_8 : decode cX3_talkOn 8 = .ok (.goto 4, 3) := by decide +kernel
theorem dX3_talkOn_11 : decode cX3_talkOn 11 = .ok (.iconst 0, 1) := by decide +kernel
theorem dX3_talkOn_12 : decode cX3_talkOn 12 = .ok (.istore_n 3, 1) := by decide +kernel
theorem dX3_talkOn_13 : decode cX3_talkOn 13 = .ok (.iconst 0, 1) := by decide +kernel
theorem dX3_talkOn_14 : decode cX3_talkOn 14 = .ok (.istore 4, 2) := by decide +kernel
theorem dX3_talkOn_16 : decode cX3_talkOn 16 = .ok (.iload 4, 2) := by decide +kernel
theorem dX3_talkOn_18 : decode cX3_talkOn 18 = .ok (.iload_n 2, 1) := by decide +kernel
theorem dX3_talkOn_19 : decode cX3_talkOn 19 = .ok (.if_icmp .ge 53, 3) := by decide +kernel
theorem dX3_talkOn_22 : decode cX3_talkOn 22 = .ok (.aload_n 0, 1) := by decide +kernel
theorem dX3_talkOn_23 : decode cX3_talkOn 23 = .ok (.aload_n 1, 1) := by decide +kernel
theorem dX3_talkOn_24 : decode cX3_talkOn 24 = .ok (.iload_n 3, 1) := by decide +kernel
theorem dX3_talkOn_25 : decode cX3_talkOn 25 = .ok (.invokevirtual 118, 3) := by decide +kernel
theorem dX3_talkOn_28 : decode cX3_talkOn 28 = .ok (.istore 5, 2) := by decide +kernel
theorem dX3_talkOn_30 : decode cX3_talkOn 30 = .ok (.iload 5, 2) := by decide +kernel
theorem dX3_talkOn_32 : decode cX3_talkOn 32 = .ok (.ifCond .ne 34, 3) := by decide +kernel
theorem dX3_talkOn_35 : decode cX3_talkOn 35 = .ok (.iload_n 3, 1) := by decide +kernel
theorem dX3_talkOn_36 : decode cX3_talkOn 36 = .ok (.ifCond .eq 14, 3) := by decide +kernel
theorem dX3_talkOn_39 : decode cX3_talkOn 39 = .ok (.aload_n 0, 1) := by decide +kernel
theorem dX3_talkOn_40 : decode cX3_talkOn 40 = .ok (.getfield 25, 3) := by decide +kernel
theorem dX3_talkOn_43 : decode cX3_talkOn 43 = .ok (.aload_n 1, 1) := by decide +kernel
theorem dX3_talkOn_44 : decode cX3_talkOn 44 = .ok (.getfield 115, 3) := by decide +kernel
theorem dX3_talkOn_47 : decode cX3_talkOn 47 = .ok (.if_icmp .lt 19, 3) := by decide +kernel
theorem dX3_talkOn_50 : decode cX3_talkOn 50 = .ok (.aload_n 0, 1) := by decide +kernel
theorem dX3_talkOn_51 : decode cX3_talkOn 51 = .ok (.dup, 1) := by decide +kernel
theorem dX3_talkOn_52 : decode cX3_talkOn 52 = .ok (.getfield 25, 3) := by decide +kernel
theorem dX3_talkOn_55 : decode cX3_talkOn 55 = .ok (.iload_n 2, 1) := by decide +kernel
theorem dX3_talkOn_56 : decode cX3_talkOn 56 = .ok (.iconst 1, 1) := by decide +kernel
theorem dX3_talkOn_57 : decode cX3_talkOn 57 = .ok (.isub, 1) := by decide +kernel
theorem dX3_talkOn_58 : decode cX3_talkOn 58 = .ok (.iload 4, 2) := by decide +kernel
theorem dX3_talkOn_60 : decode cX3_talkOn 60 = .ok (.isub, 1) := by decide +kernel
theorem dX3_talkOn_61 : decode cX3_talkOn 61 = .ok (.iadd, 1) := by decide +kernel
theorem dX3_talkOn_62 : decode cX3_talkOn 62 = .ok (.putfield 25, 3) := by decide +kernel
theorem dX3_talkOn_65 : decode cX3_talkOn 65 = .ok (.return_, 1) := by decide +kernel
theorem dX3_talkOn_66 : decode cX3_talkOn 66 = .ok (.iinc 4 1, 3) := by decide +kernel
theorem dX3_talkOn_69 : decode cX3_talkOn 69 = .ok (.goto (-53), 3) := by decide +kernel
theorem dX3_talkOn_72 : decode cX3_talkOn 72 = .ok (.return_, 1) := by decide +kernel
set_option maxRecDepth 20000 in
theorem ggX3_talkRound_X3_isSeated : GoodIn wsX3_talkRound wsX3_isSeated := goodIn_r _ [8, 9, 61, 62, 63, 64, 65, 66, 67, 68] (by decide +kernel) (by decide +kernel)
set_option maxRecDepth 20000 in
theorem gX3_talkRound_X3_isSeated : GoodIn wsX3_talkRound (wsV RX3 91 RX3 yX3_isSeated wsX3_isSeated) := goodIn_app (goodIn_of _ (by decide +kernel)) ggX3_talkRound_X3_isSeated
set_option maxRecDepth 20000 in
theorem ggX3_talkRound_X3_pullOn : GoodIn wsX3_talkRound wsX3_pullOn := goodIn_r _ [13, 14, 9, 15, 16, 17, 18, 19, 20, 21, 48, 49, 50, 51, 52, 53, 54, 55, 56, 57, 58, 59, 60, 61, 62, 63, 64, 65, 66, 67, 68] (by decide +kernel) (by decide +kernel)
set_option maxRecDepth 20000 in
theorem gX3_talkRound_X3_pullOn : GoodIn wsX3_talkRound (wsV RX3 122 RX3 yX3_pullOn wsX3_pullOn) := goodIn_app (goodIn_of _ (by decide +kernel)) ggX3_talkRound_X3_pullOn
set_option maxRecDepth 20000 in
theorem ggX3_talkRound_X3_shift : GoodIn wsX3_talkRound wsX3_shift := goodIn_r _ [25, 16, 61, 62, 63, 64, 65, 66, 67, 68] (by decide +kernel) (by decide +kernel)
set_option maxRecDepth 20000 in
theorem gX3_talkRound_X3_shift : GoodIn wsX3_talkRound (wsV RX3 106 RX3 yX3_shift wsX3_shift) := goodIn_app (goodIn_of _ (by decide +kernel)) ggX3_talkRound_X3_shift
set_option maxRecDepth 20000 in
theorem ggX3_talkRound_X3_goHungry : GoodIn wsX3_talkRound wsX3_goHungry := goodIn_r _ [29, 1, 30, 31, 32, 7, 33, 9, 16, 34, 35, 36, 37, 38, 39, 40, 41, 42, 43, 44, 45, 46, 47, 4, 5, 6, 8, 22, 23, 24, 25, 48, 49, 50, 51, 52, 53, 54, 55, 56, 57, 58, 59, 60, 61, 62, 63, 64, 65, 66, 67, 68] (by decide +kernel) (by decide +kernel)
set_option maxRecDepth 20000 in
theorem gX3_talkRound_X3_goHungry : GoodIn wsX3_talkRound (wsV RX3 126 RX3 yX3_goHungry wsX3_goHungry) := goodIn_app (goodIn_of _ (by decide +kernel)) ggX3_talkRound_X3_goHungry
theorem dX3_talkRound_0 : decode cX3_talkRound 0 = .ok (.iconst 0, 1) := by decide +kernel
theorem dX3_talkRound_1 : decode cX3_talkRound 1 = .ok (.istore_n 3, 1) := by decide +kernel
theorem dX3_talkRound_2 : decode cX3_talkRound 2 = .ok (.iconst 0, 1) := by decide +kernel
theorem dX3_talkRound_3 : decode cX3_talkRound 3 = .ok (.istore 4, 2) := by decide +kernel
theorem dX3_talkRound_5 : decode cX3_talkRound 5 = .ok (.iload 4, 2) := by decide +kernel
theorem dX3_talkRound_7 : decode cX3_talkRound 7 = .ok (.aload_n 1, 1) := by decide +kernel
theorem dX3_talkRound_8 : decode cX3_talkRound 8 = .ok (.getfield 47, 3) := by decide +kernel
theorem dX3_talkRound_11 : decode cX3_talkRound 11 = .ok (.iconst 0, 1) := by decide +kernel
theorem dX3_talkRound_12 : decode cX3_talkRound 12 = .ok (.iaload, 1) := by decide +kernel
theorem dX3_talkRound_13 : decode cX3_talkRound 13 = .ok (.if_icmp .ge 34, 3) := by decide +kernel
theorem dX3_talkRound_16 : decode cX3_talkRound 16 = .ok (.aload_n 0, 1) := by decide +kernel
theorem dX3_talkRound_17 : decode cX3_talkRound 17 = .ok (.iload 4, 2) := by decide +kernel
theorem dX3_talkRound_19 : decode cX3_talkRound 19 = .ok (.invokevirtual 91, 3) := by decide +kernel
theorem dX3_talkRound_22 : decode cX3_talkRound 22 = .ok (.ifCond .eq 19, 3) := by decide +kernel
theorem dX3_talkRound_25 : decode cX3_talkRound 25 = .ok (.iload_n 3, 1) := by decide +kernel
theorem dX3_talkRound_26 : decode cX3_talkRound 26 = .ok (.aload_n 0, 1) := by decide +kernel
theorem dX3_talkRound_27 : decode cX3_talkRound 27 = .ok (.iload 4, 2) := by decide +kernel
theorem dX3_talkRound_29 : decode cX3_talkRound 29 = .ok (.aload_n 0, 1) := by decide +kernel
theorem dX3_talkRound_30 : decode cX3_talkRound 30 = .ok (.aload_n 1, 1) := by decide +kernel
theorem dX3_talkRound_31 : decode cX3_talkRound 31 = .ok (.iload 4, 2) := by decide +kernel
theorem dX3_talkRound_33 : decode cX3_talkRound 33 = .ok (.invokevirtual 122, 3) := by decide +kernel
theorem dX3_talkRound_36 : decode cX3_talkRound 36 = .ok (.invokevirtual 106, 3) := by decide +kernel
theorem dX3_talkRound_39 : decode cX3_talkRound 39 = .ok (.iadd, 1) := by decide +kernel
theorem dX3_talkRound_40 : decode cX3_talkRound 40 = .ok (.istore_n 3, 1) := by decide +kernel
theorem dX3_talkRound_41 : decode cX3_talkRound 41 = .ok (.iinc 4 1, 3) := by decide +kernel
theorem dX3_talkRound_44 : decode cX3_talkRound 44 = .ok (.goto (-39), 3) := by decide +kernel
theorem dX3_talkRound_47 : decode cX3_talkRound 47 = .ok (.aload_n 0, 1) := by decide +kernel
theorem dX3_talkRound_48 : decode cX3_talkRound 48 = .ok (.dup, 1) := by decide +kernel
theorem dX3_talkRound_49 : decode cX3_talkRound 49 = .ok (.getfield 25, 3) := by decide +kernel
theorem dX3_talkRound_52 : decode cX3_talkRound 52 = .ok (.iconst 1, 1) := by decide +kernel
theorem dX3_talkRound_53 : decode cX3_talkRound 53 = .ok (.iadd, 1) := by decide +kernel
theorem dX3_talkRound_54 : decode cX3_talkRound 54 = .ok (.putfield 25, 3) := by decide +kernel
theorem dX3_talkRound_57 : decode cX3_talkRound 57 = .ok (.iload_n 2, 1) := by decide +kernel
theorem dX3_talkRound_58 : decode cX3_talkRound 58 = .ok (.ifCond .eq 22, 3) := by decide +kernel
theorem dX3_talkRound_61 : decode cX3_talkRound 61 = .ok (.aload_n 0, 1) := by decide +kernel
theorem dX3_talkRound_62 : decode cX3_talkRound 62 = .ok (.getfield 25, 3) := by decide +kernel
theorem dX3_talkRound_65 : decode cX3_talkRound 65 = .ok (.aload_n 1, 1) := by decide +kernel
theorem dX3_talkRound_66 : decode cX3_talkRound 66 = .ok (.getfield 115, 3) := by decide +kernel
theorem dX3_talkRound_69 : decode cX3_talkRound 69 = .ok (.if_icmp .lt 11, 3) := by decide +kernel
theorem dX3_talkRound_72 : decode cX3_talkRound 72 = .ok (.iload_n 3, 1) := by decide +kernel
theorem dX3_talkRound_73 : decode cX3_talkRound 73 = .ok (.aload_n 0, 1) := by decide +kernel
theorem dX3_talkRound_74 : decode cX3_talkRound 74 = .ok (.aload_n 1, 1) := by decide +kernel
theorem dX3_talkRound_75 : decode cX3_talkRound 75 = .ok (.invokevirtual 126, 3) := by decide +kernel
theorem dX3_talkRound_78 : decode cX3_talkRound 78 = .ok (.iadd, 1) := by decide +kernel
theorem dX3_talkRound_79 : decode cX3_talkRound 79 = .ok (.istore_n 3, 1) := by decide +kernel
theorem dX3_talkRound_80 : decode cX3_talkRound 80 = .ok (.iload_n 3, 1) := by decide +kernel
theorem dX3_talkRound_81 : decode cX3_talkRound 81 = .ok (.ireturn, 1) := by decide +kernel
set_option maxRecDepth 20000 in
theorem ggX3_goHungry_X3_guiltyVotes : GoodIn wsX3_goHungry wsX3_guiltyVotes := goodIn_r _ [6, 7, 8, 44, 45, 46, 47, 48, 49, 50, 51] (by decide +kernel) (by decide +kernel)
set_option maxRecDepth 20000 in
theorem gX3_goHungry_X3_guiltyVotes : GoodIn wsX3_goHungry (wsV RX3 74 RX3 yX3_guiltyVotes wsX3_guiltyVotes) := goodIn_app (goodIn_of _ (by decide +kernel)) ggX3_goHungry_X3_guiltyVotes
set_option maxRecDepth 20000 in
theorem ggX3_goHungry_X3_seatedCount : GoodIn wsX3_goHungry wsX3_seatedCount := goodIn_r _ [12, 7, 13, 14, 15, 16, 17, 18, 19, 44, 45, 46, 47, 48, 49, 50, 51] (by decide +kernel) (by decide +kernel)
set_option maxRecDepth 20000 in
theorem gX3_goHungry_X3_seatedCount : GoodIn wsX3_goHungry (wsV RX3 78 RX3 yX3_seatedCount wsX3_seatedCount) := goodIn_app (goodIn_of _ (by decide +kernel)) ggX3_goHungry_X3_seatedCount
set_option maxRecDepth 20000 in
theorem ggX3_goHungry_J6_compare_7cf53 : GoodIn wsX3_goHungry wsJ6_compare_7cf53 := goodIn_r _ [22] (by decide +kernel) (by decide +kernel)
set_option maxRecDepth 20000 in
theorem gX3_goHungry_J6_compare_7cf53 : GoodIn wsX3_goHungry (va_wsS RX3 130 yJ6_compare_7cf53 wsJ6_compare_7cf53) := goodIn_app (goodIn_of _ (by decide +kernel)) ggX3_goHungry_J6_compare_7cf53
set_option maxRecDepth 20000 in
theorem ggX3_goHungry_X3_isSeated : GoodIn wsX3_goHungry wsX3_isSeated := goodIn_r _ [26, 7, 44, 45, 46, 47, 48, 49, 50, 51] (by decide +kernel) (by decide +kernel)
set_option maxRecDepth 20000 in
theorem gX3_goHungry_X3_isSeated : GoodIn wsX3_goHungry (wsV RX3 91 RX3 yX3_isSeated wsX3_isSeated) := goodIn_app (goodIn_of _ (by decide +kernel)) ggX3_goHungry_X3_isSeated
set_option maxRecDepth 20000 in
theorem ggX3_goHungry_X3_shift : GoodIn wsX3_goHungry wsX3_shift := goodIn_r _ [30, 8, 44, 45, 46, 47, 48, 49, 50, 51] (by decide +kernel) (by decide +kernel)
set_option maxRecDepth 20000 in
theorem gX3_goHungry_X3_shift : GoodIn wsX3_goHungry (wsV RX3 106 RX3 yX3_shift wsX3_shift) := goodIn_app (goodIn_of _ (by decide +kernel)) ggX3_goHungry_X3_shift
theorem dX3_goHungry_0 : decode cX3_goHungry 0 = .ok (.aload_n 0, 1) := by decide +kernel
theorem dX3_goHungry_1 : decode cX3_goHungry 1 = .ok (.invokevirtual 74, 3) := by decide +kernel
theorem dX3_goHungry_4 : decode cX3_goHungry 4 = .ok (.istore_n 2, 1) := by decide +kernel
theorem dX3_goHungry_5 : decode cX3_goHungry 5 = .ok (.iconst 2, 1) := by decide +kernel
theorem dX3_goHungry_6 : decode cX3_goHungry 6 = .ok (.iload_n 2, 1) := by decide +kernel
theorem dX3_goHungry_7 : decode cX3_goHungry 7 = .ok (.imul, 1) := by decide +kernel
theorem dX3_goHungry_8 : decode cX3_goHungry 8 = .ok (.aload_n 0, 1) := by decide +kernel
theorem dX3_goHungry_9 : decode cX3_goHungry 9 = .ok (.invokevirtual 78, 3) := by decide +kernel
theorem dX3_goHungry_12 : decode cX3_goHungry 12 = .ok (.invokestatic 130, 3) := by decide +kernel
theorem dX3_goHungry_15 : decode cX3_goHungry 15 = .ok (.istore_n 3, 1) := by decide +kernel
theorem dX3_goHungry_16 : decode cX3_goHungry 16 = .ok (.iconst 0, 1) := by decide +kernel
theorem dX3_goHungry_17 : decode cX3_goHungry 17 = .ok (.istore 4, 2) := by decide +kernel
theorem dX3_goHungry_19 : decode cX3_goHungry 19 = .ok (.iconst 0, 1) := by decide +kernel
theorem dX3_goHungry_20 : decode cX3_goHungry 20 = .ok (.istore 5, 2) := by decide +kernel
theorem dX3_goHungry_22 : decode cX3_goHungry 22 = .ok (.iload 5, 2) := by decide +kernel
theorem dX3_goHungry_24 : decode cX3_goHungry 24 = .ok (.aload_n 1, 1) := by decide +kernel
theorem dX3_goHungry_25 : decode cX3_goHungry 25 = .ok (.getfield 47, 3) := by decide +kernel
theorem dX3_goHungry_28 : decode cX3_goHungry 28 = .ok (.iconst 0, 1) := by decide +kernel
theorem dX3_goHungry_29 : decode cX3_goHungry 29 = .ok (.iaload, 1) := by decide +kernel
theorem dX3_goHungry_30 : decode cX3_goHungry 30 = .ok (.if_icmp .ge 30, 3) := by decide +kernel
theorem dX3_goHungry_33 : decode cX3_goHungry 33 = .ok (.aload_n 0, 1) := by decide +kernel
theorem dX3_goHungry_34 : decode cX3_goHungry 34 = .ok (.iload 5, 2) := by decide +kernel
theorem dX3_goHungry_36 : decode cX3_goHungry 36 = .ok (.invokevirtual 91, 3) := by decide +kernel
theorem dX3_goHungry_39 : decode cX3_goHungry 39 = .ok (.ifCond .eq 15, 3) := by decide +kernel
theorem dX3_goHungry_42 : decode cX3_goHungry 42 = .ok (.iload 4, 2) := by decide +kernel
theorem dX3_goHungry_44 : decode cX3_goHungry 44 = .ok (.aload_n 0, 1) := by decide +kernel
theorem dX3_goHungry_45 : decode cX3_goHungry 45 = .ok (.iload 5, 2) := by decide +kernel
theorem dX3_goHungry_47 : decode cX3_goHungry 47 = .ok (.iload_n 3, 1) := by decide +kernel
theorem dX3_goHungry_48 : decode cX3_goHungry 48 = .ok (.invokevirtual 106, 3) := by decide +kernel
theorem dX3_goHungry_51 : decode cX3_goHungry 51 = .ok (.iadd, 1) := by decide +kernel
theorem dX3_goHungry_52 : decode cX3_goHungry 52 = .ok (.istore 4, 2) := by decide +kernel
theorem dX3_goHungry_54 : decode cX3_goHungry 54 = .ok (.iinc 5 1, 3) := by decide +kernel
theorem dX3_goHungry_57 : decode cX3_goHungry 57 = .ok (.goto (-35), 3) := by decide +kernel
theorem dX3_goHungry_60 : decode cX3_goHungry 60 = .ok (.iload 4, 2) := by decide +kernel
theorem dX3_goHungry_62 : decode cX3_goHungry 62 = .ok (.ireturn, 1) := by decide +kernel
theorem dX4_init_0 : decode cX4_init 0 = .ok (.aload_n 0, 1) := by decide +kernel
theorem dX4_init_1 : decode cX4_init 1 = .ok (.invokespecial 3, 3) := by decide +kernel
theorem dX4_init_4 : decode cX4_init 4 = .ok (.aload_n 0, 1) := by decide +kernel
theorem dX4_init_5 : decode cX4_init 5 = .ok (.bipush 60, 2) := by decide +kernel
theorem dX4_init_7 : decode cX4_init 7 = .ok (.newarray .int, 2) := by decide +kernel
theorem dX4_init_9 : decode cX4_init 9 = .ok (.putfield 9, 3) := by decide +kernel
theorem dX4_init_12 : decode cX4_init 12 = .ok (.aload_n 0, 1) := by decide +kernel
theorem dX4_init_13 : decode cX4_init 13 = .ok (.iconst 0, 1) := by decide +kernel
theorem dX4_init_14 : decode cX4_init 14 = .ok (.putfield 15, 3) := by decide +kernel
theorem dX4_init_17 : decode cX4_init 17 = .ok (.aload_n 0, 1) := by decide +kernel
theorem dX4_init_18 : decode cX4_init 18 = .ok (.iconst 0, 1) := by decide +kernel
theorem dX4_init_19 : decode cX4_init 19 = .ok (.putfield 19, 3) := by decide +kernel
theorem dX4_init_22 : decode cX4_init 22 = .ok (.aload_n 0, 1) := by decide +kernel
theorem dX4_init_23 : decode cX4_init 23 = .ok (.iconst 0, 1) := by decide +kernel
theorem dX4_init_24 : decode cX4_init 24 = .ok (.putfield 22, 3) := by decide +kernel
theorem dX4_init_27 : decode cX4_init 27 = .ok (.aload_n 0, 1) := by decide +kernel
theorem dX4_init_28 : decode cX4_init 28 = .ok (.iconst 0, 1) := by decide +kernel
theorem dX4_init_29 : decode cX4_init 29 = .ok (.putfield 25, 3) := by decide +kernel
theorem dX4_init_32 : decode cX4_init 32 = .ok (.aload_n 0, 1) := by decide +kernel
theorem dX4_init_33 : decode cX4_init 33 = .ok (.iconst 0, 1) := by decide +kernel
theorem dX4_init_34 : decode cX4_init 34 = .ok (.putfield 28, 3) := by decide +kernel
theorem dX4_init_37 : decode cX4_init 37 = .ok (.aload_n 0, 1) := by decide +kernel
theorem dX4_init_38 : decode cX4_init 38 = .ok (.iconst 0, 1) := by decide +kernel
theorem dX4_init_39 : decode cX4_init 39 = .ok (.putfield 31, 3) := by decide +kernel
theorem dX4_init_42 : decode cX4_init 42 = .ok (.aload_n 0, 1) := by decide +kernel
theorem dX4_init_43 : decode cX4_init 43 = .ok (.iconst 0, 1) := by decide +kernel
theorem dX4_init_44 : decode cX4_init 44 = .ok (.putfield 34, 3) := by decide +kernel
theorem dX4_init_47 : decode cX4_init 47 = .ok (.return_, 1) := by decide +kernel
set_option maxRecDepth 20000 in
theorem ggX4_run_X4_passEnd : GoodIn wsX4_run wsX4_passEnd := goodIn_r _ [17, 18, 11, 19, 188, 189, 190, 191, 192, 193, 194, 195, 196, 177, 178, 179, 180, 181, 182, 183, 184] (by decide +kernel) (by decide +kernel)
set_option maxRecDepth 20000 in
theorem gX4_run_X4_passEnd : GoodIn wsX4_run (wsV RX4 53 RX4 yX4_passEnd wsX4_passEnd) := goodIn_app (goodIn_of _ (by decide +kernel)) ggX4_run_X4_passEnd
set_option maxRecDepth 20000 in
theorem ggX4_run_X4_turns : GoodIn wsX4_run wsX4_turns := goodIn_r _ [23, 11, 10, 19, 24, 18, 25, 26, 16, 27, 28, 29, 30, 31, 32, 33, 34, 35, 36, 37, 38, 39, 188, 189, 190, 191, 192, 193, 194, 195, 196, 177, 178, 179, 180, 181, 182, 183, 184, 197, 198, 199, 200, 201, 202, 203, 204] (by decide +kernel) (by decide +kernel)
set_option maxRecDepth 20000 in
theorem gX4_run_X4_turns : GoodIn wsX4_run (wsV RX4 57 RX4 yX4_turns wsX4_turns) := goodIn_app (goodIn_of _ (by decide +kernel)) ggX4_run_X4_turns
set_option maxRecDepth 20000 in
theorem ggX4_run_X4_does : GoodIn wsX4_run wsX4_does := goodIn_r _ [43, 24, 11, 32, 44, 45, 16, 46, 47, 48, 49, 50, 51, 36, 52, 53, 54, 55, 56, 57, 38, 58, 59, 60, 61, 62, 63, 64, 65, 66, 67, 68, 69, 70, 71, 72, 73, 74, 75, 76, 77, 78, 79, 80, 81, 82, 39, 83, 84, 85, 86, 87, 88, 89, 90, 91, 92, 93, 94, 95, 96, 97, 98, 99, 100, 101, 102, 103, 34, 35, 37, 104, 105, 106, 107, 108, 109, 110, 111, 112, 113, 114, 115, 116, 117, 118, 119, 120, 121, 122, 123, 124, 125, 126, 127, 128, 129, 130, 131, 132, 133, 134, 135, 136, 137, 138, 139, 140, 141, 142, 143, 144, 145, 146, 147, 148, 149, 150, 151, 152, 153, 4, 5, 6, 154, 155, 156, 157, 158, 159, 160, 161, 162, 163, 164, 165, 166, 167, 168, 169, 170, 171, 172, 173, 174, 1, 175, 176, 188, 189, 190, 191, 192, 193, 194, 195, 196, 197, 198, 199, 200, 201, 202, 203, 204, 205, 206, 207, 208, 209, 210, 211, 212, 213, 214, 215, 216, 217, 177, 178, 179, 180, 181, 182, 183, 184] (by decide +kernel) (by decide +kernel)
set_option maxRecDepth 20000 in
theorem gX4_run_X4_does : GoodIn wsX4_run (wsV RX4 65 RX4 yX4_does wsX4_does) := goodIn_app (goodIn_of _ (by decide +kernel)) ggX4_run_X4_does
theorem dX4_run_0 : decode cX4_run 0 = .ok (.aload_n 0, 1) := by decide +kernel
theorem dX4_run_1 : decode cX4_run 1 = .ok (.iload_n 3, 1) := by decide +kernel
theorem dX4_run_2 : decode cX4_run 2 = .ok (.putfield 15, 3) := by decide +kernel
theorem dX4_run_5 : decode cX4_run 5 = .ok (.aload_n 0, 1) := by decide +kernel
theorem dX4_run_6 : decode cX4_run 6 = .ok (.iconst 0, 1) := by decide +kernel
theorem dX4_run_7 : decode cX4_run 7 = .ok (.putfield 19, 3) := by decide +kernel
theorem dX4_run_10 : decode cX4_run 10 = .ok (.aload_n 0, 1) := by decide +kernel
theorem dX4_run_11 : decode cX4_run 11 = .ok (.iconst 0, 1) := by decide +kernel
theorem dX4_run_12 : decode cX4_run 12 = .ok (.putfield 22, 3) := by decide +kernel
theorem dX4_run_15 : decode cX4_run 15 = .ok (.aload_n 0, 1) := by decide +kernel
theorem dX4_run_16 : decode cX4_run 16 = .ok (.iconst 0, 1) := by decide +kernel
theorem dX4_run_17 : decode cX4_run 17 = .ok (.putfield 25, 3) := by decide +kernel
theorem dX4_run_20 : decode cX4_run 20 = .ok (.aload_n 0, 1) := by decide +kernel
theorem dX4_run_21 : decode cX4_run 21 = .ok (.iconst 0, 1) := by decide +kernel
theorem dX4_run_22 : decode cX4_run 22 = .ok (.putfield 28, 3) := by decide +kernel
theorem dX4_run_25 : decode cX4_run 25 = .ok (.aload_n 0, 1) := by decide +kernel
theorem dX4_run_26 : decode cX4_run 26 = .ok (.iconst 0, 1) := by decide +kernel
theorem dX4_run_27 : decode cX4_run 27 = .ok (.putfield 31, 3) := by decide +kernel
theorem dX4_run_30 : decode cX4_run 30 = .ok (.aload_n 0, 1) := by decide +kernel
theorem dX4_run_31 : decode cX4_run 31 = .ok (.iconst 0, 1) := by decide +kernel
theorem dX4_run_32 : decode cX4_run 32 = .ok (.putfield 34, 3) := by decide +kernel
theorem dX4_run_35 : decode cX4_run 35 = .ok (.aload_n 1, 1) := by decide +kernel
theorem dX4_run_36 : decode cX4_run 36 = .ok (.getfield 38, 3) := by decide +kernel
theorem dX4_run_39 : decode cX4_run 39 = .ok (.astore 4, 2) := by decide +kernel
theorem dX4_run_41 : decode cX4_run 41 = .ok (.iconst 0, 1) := by decide +kernel
theorem dX4_run_42 : decode cX4_run 42 = .ok (.istore 5, 2) := by decide +kernel
theorem dX4_run_44 : decode cX4_run 44 = .ok (.iconst 0, 1) := by decide +kernel
theorem dX4_run_45 : decode cX4_run 45 = .ok (.istore 6, 2) := by decide +kernel
theorem dX4_run_47 : decode cX4_run 47 = .ok (.iload 6, 2) := by decide +kernel
theorem dX4_run_49 : decode cX4_run 49 = .ok (.ldc 44, 2) := by decide +kernel
theorem dX4_run_51 : decode cX4_run 51 = .ok (.if_icmp .ge 152, 3) := by decide +kernel
theorem dX4_run_54 : decode cX4_run 54 = .ok (.iload 5, 2) := by decide +kernel
theorem dX4_run_56 : decode cX4_run 56 = .ok (.aload 4, 2) := by decide +kernel
theorem dX4_run_58 : decode cX4_run 58 = .ok (.getfield 45, 3) := by decide +kernel
theorem dX4_run_61 : decode cX4_run 61 = .ok (.if_icmp .ge 142, 3) := by decide +kernel
theorem dX4_run_64 : decode cX4_run 64 = .ok (.aload_n 0, 1) := by decide +kernel
theorem dX4_run_65 : decode cX4_run 65 = .ok (.getfield 34, 3) := by decide +kernel
theorem dX4_run_68 : decode cX4_run 68 = .ok (.ifCond .ne 135, 3) := by decide +kernel
theorem dX4_run_71 : decode cX4_run 71 = .ok (.aload 4, 2) := by decide +kernel
theorem dX4_run_73 : decode cX4_run 73 = .ok (.getfield 50, 3) := by decide +kernel
theorem dX4_run_76 : decode cX4_run 76 = .ok (.iload 5, 2) := by decide +kernel
theorem dX4_run_78 : decode cX4_run 78 = .ok (.iaload, 1) := by decide +kernel
theorem dX4_run_79 : decode cX4_run 79 = .ok (.istore 7, 2) := by decide +kernel
theorem dX4_run_81 : decode cX4_run 81 = .ok (.iload 7, 2) := by decide +kernel
theorem dX4_run_83 : decode cX4_run 83 = .ok (.bipush 28, 2) := by decide +kernel
theorem dX4_run_85 : decode cX4_run 85 = .ok (.if_icmp .ne 16, 3) := by decide +kernel
theorem dX4_run_88 : decode cX4_run 88 = .ok (.aload_n 0, 1) := by decide +kernel
theorem dX4_run_89 : decode cX4_run 89 = .ok (.aload 4, 2) := by decide +kernel
theorem dX4_run_91 : decode cX4_run 91 = .ok (.iload 5, 2) := by decide +kernel
theorem dX4_run_93 : decode cX4_run 93 = .ok (.invokevirtual 53, 3) := by decide +kernel
theorem dX4_run_96 : decode cX4_run 96 = .ok (.istore 5, 2) := by decide +kernel
theorem dX4_run_98 : decode cX4_run 98 = .ok (.goto 99, 3) := by decide +kernel
theorem dX4_run_101 : decode cX4_run 101 = .ok (.aload_n 0, 1) := by decide +kernel
theorem dX4_run_102 : decode cX4_run 102 = .ok (.getfield 19, 3) := by decide +kernel
theorem dX4_run_105 : decode cX4_run 105 = .ok (.sipush 300, 3) := by decide +kernel
theorem dX4_run_108 : decode cX4_run 108 = .ok (.if_icmp .lt 11, 3) := by decide +kernel
theorem dX4_run_111 : decode cX4_run 111 = .ok (.aload_n 0, 1) := by decide +kernel
theorem dX4_run_112 : decode cX4_run 112 = .ok (.iconst 1, 1) := by decide +kernel
theorem dX4_run_113 : decode cX4_run 113 = .ok (.putfield 34, 3) := by decide +kernel
theorem dX4_run_116 : decode cX4_run 116 = .ok (.goto 81, 3) := by decide +kernel
theorem dX4_run_119 : decode cX4_run 119 = .ok (.aload_n 0, 1) := by decide +kernel
theorem dX4_run_120 : decode cX4_run 120 = .ok (.dup, 1) := by decide +kernel
theorem dX4_run_121 : decode cX4_run 121 = .ok (.getfield 19, 3) := by decide +kernel
theorem dX4_run_124 : decode cX4_run 124 = .ok (.iconst 1, 1) := by decide +kernel
theorem dX4_run_125 : decode cX4_run 125 = .ok (.iadd, 1) := by decide +kernel
theorem dX4_run_126 : decode cX4_run 126 = .ok (.putfield 19, 3) := by decide +kernel
theorem dX4_run_129 : decode cX4_run 129 = .ok (.iload 7, 2) := by decide +kernel
theorem dX4_run_131 : decode cX4_run 131 = .ok (.bipush 25, 2) := by decide +kernel
theorem dX4_run_133 : decode cX4_run 133 = .ok (.if_icmp .eq 17, 3) := by decide +kernel
theorem dX4_run_136 : decode cX4_run 136 = .ok (.iload 7, 2) := by decide +kernel
theorem dX4_run_138 : decode cX4_run 138 = .ok (.bipush 27, 2) := by decide +kernel
theorem dX4_run_140 : decode cX4_run 140 = .ok (.if_icmp .eq 10, 3) := by decide +kernel
theorem dX4_run_143 : decode cX4_run 143 = .ok (.iload 7, 2) := by decide +kernel
theorem dX4_run_145 : decode cX4_run 145 = .ok (.bipush 29, 2) := by decide +kernel
theorem dX4_run_147 : decode cX4_run 147 = .ok (.if_icmp .ne 17, 3) := by decide +kernel
theorem dX4_run_150 : decode cX4_run 150 = .ok (.aload_n 0, 1) := by decide +kernel
theorem dX4_run_151 : decode cX4_run 151 = .ok (.aload 4, 2) := by decide +kernel
theorem dX4_run_153 : decode cX4_run 153 = .ok (.aload_n 2, 1) := by decide +kernel
theorem dX4_run_154 : decode cX4_run 154 = .ok (.iload 5, 2) := by decide +kernel
theorem dX4_run_156 : decode cX4_run 156 = .ok (.invokevirtual 57, 3) := by decide +kernel
theorem dX4_run_159 : decode cX4_run 159 = .ok (.istore 5, 2) := by decide +kernel
theorem dX4_run_161 : decode cX4_run 161 = .ok (.goto 36, 3) := by decide +kernel
theorem dX4_run_164 : decode cX4_run 164 = .ok (.aload_n 0, 1) := by decide +kernel
theorem dX4_run_165 : decode cX4_run 165 = .ok (.dup, 1) := by decide +kernel
theorem dX4_run_166 : decode cX4_run 166 = .ok (.getfield 22, 3) := by decide +kernel
theorem dX4_run_169 : decode cX4_run 169 = .ok (.aload_n 0, 1) := by decide +kernel
theorem dX4_run_170 : decode cX4_run 170 = .ok (.aload_n 1, 1) := by decide +kernel
theorem dX4_run_171 : decode cX4_run 171 = .ok (.getfield 61, 3) := by decide +kernel
theorem dX4_run_174 : decode cX4_run 174 = .ok (.aload 4, 2) := by decide +kernel
theorem dX4_run_176 : decode cX4_run 176 = .ok (.aload_n 2, 1) := by decide +kernel
theorem dX4_run_177 : decode cX4_run 177 = .ok (.iload 5, 2) := by decide +kernel
theorem dX4_run_179 : decode cX4_run 179 = .ok (.invokevirtual 65, 3) := by decide +kernel
theorem dX4_run_182 : decode cX4_run 182 = .ok (.ifCond .eq 7, 3) := by decide +kernel
theorem dX4_run_185 : decode cX4_run 185 = .ok (.iconst 0, 1) := by decide +kernel
theorem dX4_run_186 : decode cX4_run 186 = .ok (.goto 4, 3) := by decide +kernel
theorem dX4_run_189 : decode cX4_run 189 = .ok (.iconst 1, 1) := by decide +kernel
theorem dX4_run_190 : decode cX4_run 190 = .ok (.iadd, 1) := by decide +kernel
theorem dX4_run_191 : decode cX4_run 191 = .ok (.putfield 22, 3) := by decide +kernel
theorem dX4_run_194 : decode cX4_run 194 = .ok (.iinc 5 1, 3) := by decide +kernel
theorem dX4_run_197 : decode cX4_run 197 = .ok (.iinc 6 1, 3) := by decide +kernel
theorem dX4_run_200 : decode cX4_run 200 = .ok (.goto (-153), 3) := by decide +kernel
theorem dX4_run_203 : decode cX4_run 203 = .ok (.return_, 1) := by decide +kernel
theorem dX4_passEnd_0 : decode cX4_passEnd 0 = .ok (.aload_n 1, 1) := by decide +kernel
theorem dX4_passEnd_1 : decode cX4_passEnd 1 = .ok (.getfield 69, 3) := by decide +kernel
theorem dX4_passEnd_4 : decode cX4_passEnd 4 = .ok (.iload_n 2, 1) := by decide +kernel
theorem dX4_passEnd_5 : decode cX4_passEnd 5 = .ok (.iaload, 1) := by decide +kernel
theorem dX4_passEnd_6 : decode cX4_passEnd 6 = .ok (.istore_n 3, 1) := by decide +kernel
theorem dX4_passEnd_7 : decode cX4_passEnd 7 = .ok (.aload_n 1, 1) := by decide +kernel
theorem dX4_passEnd_8 : decode cX4_passEnd 8 = .ok (.getfield 50, 3) := by decide +kernel
theorem dX4_passEnd_11 : decode cX4_passEnd 11 = .ok (.iload_n 3, 1) := by decide +kernel
theorem dX4_passEnd_12 : decode cX4_passEnd 12 = .ok (.iaload, 1) := by decide +kernel
theorem dX4_passEnd_13 : decode cX4_passEnd 13 = .ok (.bipush 27, 2) := by decide +kernel
theorem dX4_passEnd_15 : decode cX4_passEnd 15 = .ok (.if_icmp .ne 27, 3) := by decide +kernel
theorem dX4_passEnd_18 : decode cX4_passEnd 18 = .ok (.aload_n 0, 1) := by decide +kernel
theorem dX4_passEnd_19 : decode cX4_passEnd 19 = .ok (.getfield 9, 3) := by decide +kernel
theorem dX4_passEnd_22 : decode cX4_passEnd 22 = .ok (.iload_n 3, 1) := by decide +kernel
theorem dX4_passEnd_23 : decode cX4_passEnd 23 = .ok (.iaload, 1) := by decide +kernel
theorem dX4_passEnd_24 : decode cX4_passEnd 24 = .ok (.iconst 1, 1) := by decide +kernel
theorem dX4_passEnd_25 : decode cX4_passEnd 25 = .ok (.if_icmp .le 17, 3) := by decide +kernel
theorem dX4_passEnd_28 : decode cX4_passEnd 28 = .ok (.aload_n 0, 1) := by decide +kernel
theorem dX4_passEnd_29 : decode cX4_passEnd 29 = .ok (.getfield 9, 3) := by decide +kernel
theorem dX4_passEnd_32 : decode cX4_passEnd 32 = .ok (.iload_n 3, 1) := by decide +kernel
theorem dX4_passEnd_33 : decode cX4_passEnd 33 = .ok (.dup2, 1) := by decide +kernel
theorem dX4_passEnd_34 : decode cX4_passEnd 34 = .ok (.iaload, 1) := by decide +kernel
theorem dX4_passEnd_35 : decode cX4_passEnd 35 = .ok (.iconst 1, 1) := by decide +kernel
theorem dX4_passEnd_36 : decode cX4_passEnd 36 = .ok (.isub, 1) := by decide +kernel
theorem dX4_passEnd_37 : decode cX4_passEnd 37 = .ok (.iastore, 1) := by decide +kernel
theorem dX4_passEnd_38 : decode cX4_passEnd 38 = .ok (.iload_n 3, 1) := by decide +kernel
theorem dX4_passEnd_39 : decode cX4_passEnd 39 = .ok (.iconst 1, 1) := by decide +kernel
theorem dX4_passEnd_40 : decode cX4_passEnd 40 = .ok (.iadd, 1) := by decide +kernel
theorem dX4_passEnd_41 : decode cX4_passEnd 41 = .ok (.ireturn, 1) := by decide +kernel
theorem dX4_passEnd_42 : decode cX4_passEnd 42 = .ok (.iload_n 2, 1) := by decide +kernel
theorem dX4_passEnd_43 : decode cX4_passEnd 43 = .ok (.iconst 1, 1) := by decide +kernel
theorem dX4_passEnd_44 : decode cX4_passEnd 44 = .ok (.iadd, 1) := by decide +kernel
theorem dX4_passEnd_45 : decode cX4_passEnd 45 = .ok (.ireturn, 1) := by decide +kernel
set_option maxRecDepth 20000 in
theorem ggX4_turns_X4_holds : GoodIn wsX4_turns wsX4_holds := goodIn_r _ [9, 10, 4, 11, 12, 13, 14, 15, 16, 17, 18, 19, 20, 21, 22, 23, 24, 25, 26, 27, 28, 29, 30, 39, 40, 41, 42, 43, 44, 45, 46] (by decide +kernel) (by decide +kernel)
set_option maxRecDepth 20000 in
theorem gX4_turns_X4_holds : GoodIn wsX4_turns (va_wsS RX4 75 yX4_holds wsX4_holds) := goodIn_app (goodIn_of _ (by decide +kernel)) ggX4_turns_X4_holds
theorem dX4_turns_0 : decode cX4_turns 0 = .ok (.aload_n 1, 1) := by decide +kernel
theorem dX4_turns_1 : decode cX4_turns 1 = .ok (.getfield 50, 3) := by decide +kernel
theorem dX4_turns_4 : decode cX4_turns 4 = .ok (.iload_n 3, 1) := by decide +kernel
theorem dX4_turns_5 : decode cX4_turns 5 = .ok (.iaload, 1) := by decide +kernel
theorem dX4_turns_6 : decode cX4_turns 6 = .ok (.bipush 29, 2) := by decide +kernel
theorem dX4_turns_8 : decode cX4_turns 8 = .ok (.if_icmp .ne 8, 3) := by decide +kernel
theorem dX4_turns_11 : decode cX4_turns 11 = .ok (.aload_n 1, 1) := by decide +kernel
theorem dX4_turns_12 : decode cX4_turns 12 = .ok (.getfield 45, 3) := by decide +kernel
theorem dX4_turns_15 : decode cX4_turns 15 = .ok (.ireturn, 1) := by decide +kernel
theorem dX4_turns_16 : decode cX4_turns 16 = .ok (.aload_n 1, 1) := by decide +kernel
theorem dX4_turns_17 : decode cX4_turns 17 = .ok (.getfield 50, 3) := by decide +kernel
theorem dX4_turns_20 : decode cX4_turns 20 = .ok (.iload_n 3, 1) := by decide +kernel
theorem dX4_turns_21 : decode cX4_turns 21 = .ok (.iaload, 1) := by decide +kernel
theorem dX4_turns_22 : decode cX4_turns 22 = .ok (.bipush 27, 2) := by decide +kernel
theorem dX4_turns_24 : decode cX4_turns 24 = .ok (.if_icmp .ne 19, 3) := by decide +kernel
theorem dX4_turns_27 : decode cX4_turns 27 = .ok (.aload_n 0, 1) := by decide +kernel
theorem dX4_turns_28 : decode cX4_turns 28 = .ok (.getfield 9, 3) := by decide +kernel
theorem dX4_turns_31 : decode cX4_turns 31 = .ok (.iload_n 3, 1) := by decide +kernel
theorem dX4_turns_32 : decode cX4_turns 32 = .ok (.aload_n 1, 1) := by decide +kernel
theorem dX4_turns_33 : decode cX4_turns 33 = .ok (.getfield 72, 3) := by decide +kernel
theorem dX4_turns_36 : decode cX4_turns 36 = .ok (.iload_n 3, 1) := by decide +kernel
theorem dX4_turns_37 : decode cX4_turns 37 = .ok (.iaload, 1) := by decide +kernel
theorem dX4_turns_38 : decode cX4_turns 38 = .ok (.iastore, 1) := by decide +kernel
theorem dX4_turns_39 : decode cX4_turns 39 = .ok (.iload_n 3, 1) := by decide +kernel
theorem dX4_turns_40 : decode cX4_turns 40 = .ok (.iconst 1, 1) := by decide +kernel
theorem dX4_turns_41 : decode cX4_turns 41 = .ok (.iadd, 1) := by decide +kernel
theorem dX4_turns_42 : decode cX4_turns 42 = .ok (.ireturn, 1) := by decide +kernel
theorem dX4_turns_43 : decode cX4_turns 43 = .ok (.aload_n 1, 1) := by decide +kernel
theorem dX4_turns_44 : decode cX4_turns 44 = .ok (.aload_n 2, 1) := by decide +kernel
theorem dX4_turns_45 : decode cX4_turns 45 = .ok (.iload_n 3, 1) := by decide +kernel
theorem dX4_turns_46 : decode cX4_turns 46 = .ok (.invokestatic 75, 3) := by decide +kernel
theorem dX4_turns_49 : decode cX4_turns 49 = .ok (.ifCond .eq 9, 3) := by decide +kernel
theorem dX4_turns_52 : decode cX4_turns 52 = .ok (.iload_n 3, 1) := by decide +kernel
theorem dX4_turns_53 : decode cX4_turns 53 = .ok (.iconst 1, 1) := by decide +kernel
theorem dX4_turns_54 : decode cX4_turns 54 = .ok (.iadd, 1) := by decide +kernel
theorem dX4_turns_55 : decode cX4_turns 55 = .ok (.goto 11, 3) := by decide +kernel
theorem dX4_turns_58 : decode cX4_turns 58 = .ok (.aload_n 1, 1) := by decide +kernel
theorem dX4_turns_59 : decode cX4_turns 59 = .ok (.getfield 69, 3) := by decide +kernel
theorem dX4_turns_62 : decode cX4_turns 62 = .ok (.iload_n 3, 1) := by decide +kernel
theorem dX4_turns_63 : decode cX4_turns 63 = .ok (.iaload, 1) := by decide +kernel
theorem dX4_turns_64 : decode cX4_turns 64 = .ok (.iconst 1, 1) := by decide +kernel
theorem dX4_turns_65 : decode cX4_turns 65 = .ok (.iadd, 1) := by decide +kernel
theorem dX4_turns_66 : decode cX4_turns 66 = .ok (.ireturn, 1) := by decide +kernel
set_option maxRecDepth 20000 in
theorem ggX4_holds_X3_guiltyVotes : GoodIn wsX4_holds wsX3_guiltyVotes := goodIn_r _ [11, 12, 13, 23, 24, 25, 26, 27, 28, 29, 30] (by decide +kernel) (by decide +kernel)
set_option maxRecDepth 20000 in
theorem gX4_holds_X3_guiltyVotes : GoodIn wsX4_holds (wsV RX4 87 RX3 yX3_guiltyVotes wsX3_guiltyVotes) := goodIn_app (goodIn_of _ (by decide +kernel)) ggX4_holds_X3_guiltyVotes
theorem dX4_holds_0 : decode cX4_holds 0 = .ok (.aload_n 0, 1) := by decide +kernel
theorem dX4_holds_1 : decode cX4_holds 1 = .ok (.getfield 79, 3) := by decide +kernel
theorem dX4_holds_4 : decode cX4_holds 4 = .ok (.iload_n 2, 1) := by decide +kernel
theorem dX4_holds_5 : decode cX4_holds 5 = .ok (.iaload, 1) := by decide +kernel
theorem dX4_holds_6 : decode cX4_holds 6 = .ok (.istore_n 3, 1) := by decide +kernel
theorem dX4_holds_7 : decode cX4_holds 7 = .ok (.aload_n 0, 1) := by decide +kernel
theorem dX4_holds_8 : decode cX4_holds 8 = .ok (.getfield 72, 3) := by decide +kernel
theorem dX4_holds_11 : decode cX4_holds 11 = .ok (.iload_n 2, 1) := by decide +kernel
theorem dX4_holds_12 : decode cX4_holds 12 = .ok (.iaload, 1) := by decide +kernel
theorem dX4_holds_13 : decode cX4_holds 13 = .ok (.bipush 7, 2) := by decide +kernel
theorem dX4_holds_15 : decode cX4_holds 15 = .ok (.if_icmp .ne 17, 3) := by decide +kernel
theorem dX4_holds_18 : decode cX4_holds 18 = .ok (.aload_n 1, 1) := by decide +kernel
theorem dX4_holds_19 : decode cX4_holds 19 = .ok (.getfield 82, 3) := by decide +kernel
theorem dX4_holds_22 : decode cX4_holds 22 = .ok (.iload_n 3, 1) := by decide +kernel
theorem dX4_holds_23 : decode cX4_holds 23 = .ok (.if_icmp .ne 7, 3) := by decide +kernel
theorem dX4_holds_26 : decode cX4_holds 26 = .ok (.iconst 1, 1) := by decide +kernel
theorem dX4_holds_27 : decode cX4_holds 27 = .ok (.goto 4, 3) := by decide +kernel
theorem dX4_holds_30 : decode cX4_holds 30 = .ok (.iconst 0, 1) := by decide +kernel
theorem dX4_holds_31 : decode cX4_holds 31 = .ok (.ireturn, 1) := by decide +kernel
theorem dX4_holds_32 : decode cX4_holds 32 = .ok (.aload_n 0, 1) := by decide +kernel
theorem dX4_holds_33 : decode cX4_holds 33 = .ok (.getfield 72, 3) := by decide +kernel
theorem dX4_holds_36 : decode cX4_holds 36 = .ok (.iload_n 2, 1) := by decide +kernel
theorem dX4_holds_37 : decode cX4_holds 37 = .ok (.iaload, 1) := by decide +kernel
theorem dX4_holds_38 : decode cX4_holds 38 = .ok (.bipush 26, 2) := by decide +kernel
theorem dX4_holds_40 : decode cX4_holds 40 = .ok (.if_icmp .ne 10, 3) := by decide +kernel
theorem dX4_holds_43 : decode cX4_holds 43 = .ok (.aload_n 1, 1) := by decide +kernel
theorem dX4_holds_44 : decode cX4_holds 44 = .ok (.invokevirtual 87, 3) := by decide +kernel
theorem dX4_holds_47 : decode cX4_holds 47 = .ok (.goto 9, 3) := by decide +kernel
theorem dX4_holds_50 : decode cX4_holds 50 = .ok (.aload_n 1, 1) := by decide +kernel
theorem dX4_holds_51 : decode cX4_holds 51 = .ok (.getfield 91, 3) := by decide +kernel
theorem dX4_holds_54 : decode cX4_holds 54 = .ok (.iload_n 3, 1) := by decide +kernel
theorem dX4_holds_55 : decode cX4_holds 55 = .ok (.iaload, 1) := by decide +kernel
theorem dX4_holds_56 : decode cX4_holds 56 = .ok (.istore 4, 2) := by decide +kernel
theorem dX4_holds_58 : decode cX4_holds 58 = .ok (.aload_n 0, 1) := by decide +kernel
theorem dX4_holds_59 : decode cX4_holds 59 = .ok (.getfield 94, 3) := by decide +kernel
theorem dX4_holds_62 : decode cX4_holds 62 = .ok (.iload_n 2, 1) := by decide +kernel
theorem dX4_holds_63 : decode cX4_holds 63 = .ok (.iaload, 1) := by decide +kernel
theorem dX4_holds_64 : decode cX4_holds 64 = .ok (.istore 5, 2) := by decide +kernel
theorem dX4_holds_66 : decode cX4_holds 66 = .ok (.aload_n 0, 1) := by decide +kernel
theorem dX4_holds_67 : decode cX4_holds 67 = .ok (.getfield 97, 3) := by decide +kernel
theorem dX4_holds_70 : decode cX4_holds 70 = .ok (.iload_n 2, 1) := by decide +kernel
theorem dX4_holds_71 : decode cX4_holds 71 = .ok (.iaload, 1) := by decide +kernel
theorem dX4_holds_72 : decode cX4_holds 72 = .ok (.lookupswitch 54 #[(60, 28), (62, 41)], 28) := by decide +kernel
theorem dX4_holds_100 : decode cX4_holds 100 = .ok (.iload 4, 2) := by decide +kernel
theorem dX4_holds_102 : decode cX4_holds 102 = .ok (.iload 5, 2) := by decide +kernel
theorem dX4_holds_104 : decode cX4_holds 104 = .ok (.if_icmp .ge 7, 3) := by decide +kernel
theorem dX4_holds_107 : decode cX4_holds 107 = .ok (.iconst 1, 1) := by decide +kernel
theorem dX4_holds_108 : decode cX4_holds 108 = .ok (.goto 4, 3) := by decide +kernel
theorem dX4_holds_111 : decode cX4_holds 111 = .ok (.iconst 0, 1) := by decide +kernel
theorem dX4_holds_112 : decode cX4_holds 112 = .ok (.ireturn, 1) := by decide +kernel
theorem dX4_holds_113 : decode cX4_holds 113 = .ok (.iload 4, 2) := by decide +kernel
theorem dX4_holds_115 : decode cX4_holds 115 = .ok (.iload 5, 2) := by decide +kernel
theorem dX4_holds_117 : decode cX4_holds 117 = .ok (.if_icmp .le 7, 3) := by decide +kernel
theorem dX4_holds_120 : decode cX4_holds 120 = .ok (.iconst 1, 1) := by decide +kernel
theorem dX4_holds_121 : decode cX4_holds 121 = .ok (.goto 4, 3) := by decide +kernel
theorem dX4_holds_124 : decode cX4_holds 124 = .ok (.iconst 0, 1) := by decide +kernel
theorem dX4_holds_125 : decode cX4_holds 125 = .ok (.ireturn, 1) := by decide +kernel
theorem dX4_holds_126 : decode cX4_holds 126 = .ok (.iload 4, 2) := by decide +kernel
theorem dX4_holds_128 : decode cX4_holds 128 = .ok (.iload 5, 2) := by decide +kernel
theorem dX4_holds_130 : decode cX4_holds 130 = .ok (.if_icmp .ne 7, 3) := by decide +kernel
theorem dX4_holds_133 : decode cX4_holds 133 = .ok (.iconst 1, 1) := by decide +kernel
theorem dX4_holds_134 : decode cX4_holds 134 = .ok (.goto 4, 3) := by decide +kernel
theorem dX4_holds_137 : decode cX4_holds 137 = .ok (.iconst 0, 1) := by decide +kernel
theorem dX4_holds_138 : decode cX4_holds 138 = .ok (.ireturn, 1) := by decide +kernel
set_option maxRecDepth 20000 in
theorem ggX4_does_X4_canDo : GoodIn wsX4_does wsX4_canDo := goodIn_r _ [7, 8, 9, 10, 11, 12, 13, 14, 15, 16, 17, 18, 19, 20, 21, 22, 23, 24, 25, 26, 157, 158, 159, 160, 161, 162, 163, 164, 165, 166, 167, 168, 169, 170, 171, 172, 173, 174, 175, 176, 177] (by decide +kernel) (by decide +kernel)
set_option maxRecDepth 20000 in
theorem gX4_does_X4_canDo : GoodIn wsX4_does (va_wsS RX4 100 yX4_canDo wsX4_canDo) := goodIn_app (goodIn_of _ (by decide +kernel)) ggX4_does_X4_canDo
set_option maxRecDepth 20000 in
theorem ggX4_does_X3_present : GoodIn wsX4_does wsX3_present := goodIn_r _ [30, 31, 32, 33, 34, 35, 36, 37, 38, 39, 40, 15, 41, 17, 18, 13, 19, 20, 42, 43, 44, 45, 46, 165, 166, 167, 168, 169, 170, 171, 172, 173, 174, 175, 176, 177, 157, 158, 159, 160, 161, 162, 163, 164] (by decide +kernel) (by decide +kernel)
set_option maxRecDepth 20000 in
theorem gX4_does_X3_present : GoodIn wsX4_does (wsV RX4 104 RX3 yX3_present wsX3_present) := goodIn_app (goodIn_of _ (by decide +kernel)) ggX4_does_X3_present
set_option maxRecDepth 20000 in
theorem ggX4_does_X3_talkOn : GoodIn wsX4_does wsX3_talkOn := goodIn_r _ [50, 51, 52, 53, 54, 55, 13, 56, 32, 41, 17, 18, 19, 20, 57, 58, 59, 60, 61, 62, 46, 33, 34, 35, 36, 37, 42, 43, 44, 45, 63, 64, 65, 66, 67, 68, 69, 70, 71, 72, 73, 74, 75, 76, 77, 78, 79, 80, 81, 82, 83, 84, 165, 166, 167, 168, 169, 170, 171, 172, 173, 174, 175, 176, 177, 157, 158, 159, 160, 161, 162, 163, 164] (by decide +kernel) (by decide +kernel)
set_option maxRecDepth 20000 in
theorem gX4_does_X3_talkOn : GoodIn wsX4_does (wsV RX4 108 RX3 yX3_talkOn wsX3_talkOn) := goodIn_app (goodIn_of _ (by decide +kernel)) ggX4_does_X3_talkOn
set_option maxRecDepth 20000 in
theorem ggX4_does_X3_closeDay : GoodIn wsX4_does wsX3_closeDay := goodIn_r _ [88, 89, 32, 90, 91, 92, 93, 94, 95, 13, 96, 67, 68, 69, 70, 20, 46, 71, 72, 73, 74, 75, 76, 77, 78, 79, 80, 81, 97, 98, 99, 100, 101, 102, 103, 104, 105, 106, 107, 108, 109, 110, 111, 112, 113, 114, 115, 116, 15, 52, 165, 166, 167, 168, 169, 170, 171, 172, 173, 174, 175, 176, 177, 157, 158, 159, 160, 161, 162, 163, 164] (by decide +kernel) (by decide +kernel)
set_option maxRecDepth 20000 in
theorem gX4_does_X3_closeDay : GoodIn wsX4_does (wsV RX4 112 RX3 yX3_closeDay wsX3_closeDay) := goodIn_app (goodIn_of _ (by decide +kernel)) ggX4_does_X3_closeDay
set_option maxRecDepth 20000 in
theorem ggX4_does_X4_countDay : GoodIn wsX4_does wsX4_countDay := goodIn_r _ [120, 121, 122, 123, 178, 179, 180, 181, 182, 183, 184, 185] (by decide +kernel) (by decide +kernel)
set_option maxRecDepth 20000 in
theorem gX4_does_X4_countDay : GoodIn wsX4_does (wsV RX4 116 RX4 yX4_countDay wsX4_countDay) := goodIn_app (goodIn_of _ (by decide +kernel)) ggX4_does_X4_countDay
set_option maxRecDepth 20000 in
theorem ggX4_does_X3_unseat : GoodIn wsX4_does wsX3_unseat := goodIn_r _ [127, 20, 157, 158, 159, 160, 161, 162, 163, 164] (by decide +kernel) (by decide +kernel)
set_option maxRecDepth 20000 in
theorem gX4_does_X3_unseat : GoodIn wsX4_does (wsV RX4 120 RX3 yX3_unseat wsX3_unseat) := goodIn_app (goodIn_of _ (by decide +kernel)) ggX4_does_X3_unseat
set_option maxRecDepth 20000 in
theorem ggX4_does_X3_reseat : GoodIn wsX4_does wsX3_reseat := goodIn_r _ [131, 20, 157, 158, 159, 160, 161, 162, 163, 164] (by decide +kernel) (by decide +kernel)
set_option maxRecDepth 20000 in
theorem gX4_does_X3_reseat : GoodIn wsX4_does (wsV RX4 123 RX3 yX3_reseat wsX3_reseat) := goodIn_app (goodIn_of _ (by decide +kernel)) ggX4_does_X3_reseat
set_option maxRecDepth 20000 in
theorem ggX4_does_X3_buy : GoodIn wsX4_does wsX3_buy := goodIn_r _ [135, 25, 26, 46, 157, 158, 159, 160, 161, 162, 163, 164, 165, 166, 167, 168, 169, 170, 171, 172, 173, 174, 175, 176, 177] (by decide +kernel) (by decide +kernel)
set_option maxRecDepth 20000 in
theorem gX4_does_X3_buy : GoodIn wsX4_does (wsV RX4 126 RX3 yX3_buy wsX3_buy) := goodIn_app (goodIn_of _ (by decide +kernel)) ggX4_does_X3_buy
set_option maxRecDepth 20000 in
theorem ggX4_does_X4_feelMood : GoodIn wsX4_does wsX4_feelMood := goodIn_r _ [139, 140, 16, 17, 18, 13, 19, 20, 141, 142, 143, 6, 144, 145, 146, 147, 43, 44, 45, 46, 165, 166, 167, 168, 169, 170, 171, 172, 173, 174, 175, 176, 177, 157, 158, 159, 160, 161, 162, 163, 164, 178, 179, 180, 181, 182, 183, 184, 185] (by decide +kernel) (by decide +kernel)
set_option maxRecDepth 20000 in
theorem gX4_does_X4_feelMood : GoodIn wsX4_does (wsV RX4 130 RX4 yX4_feelMood wsX4_feelMood) := goodIn_app (goodIn_of _ (by decide +kernel)) ggX4_does_X4_feelMood
theorem dX4_does_0 : decode cX4_does 0 = .ok (.aload_n 2, 1) := by decide +kernel
theorem dX4_does_1 : decode cX4_does 1 = .ok (.getfield 72, 3) := by decide +kernel
theorem dX4_does_4 : decode cX4_does 4 = .ok (.iload 4, 2) := by decide +kernel
theorem dX4_does_6 : decode cX4_does 6 = .ok (.iaload, 1) := by decide +kernel
theorem dX4_does_7 : decode cX4_does 7 = .ok (.istore 5, 2) := by decide +kernel
theorem dX4_does_9 : decode cX4_does 9 = .ok (.aload_n 2, 1) := by decide +kernel
theorem dX4_does_10 : decode cX4_does 10 = .ok (.getfield 50, 3) := by decide +kernel
theorem dX4_does_13 : decode cX4_does 13 = .ok (.iload 4, 2) := by decide +kernel
theorem dX4_does_15 : decode cX4_does 15 = .ok (.iaload, 1) := by decide +kernel
theorem dX4_does_16 : decode cX4_does 16 = .ok (.istore 6, 2) := by decide +kernel
theorem dX4_does_18 : decode cX4_does 18 = .ok (.aload_n 1, 1) := by decide +kernel
theorem dX4_does_19 : decode cX4_does 19 = .ok (.aload_n 3, 1) := by decide +kernel
theorem dX4_does_20 : decode cX4_does 20 = .ok (.iload 6, 2) := by decide +kernel
theorem dX4_does_22 : decode cX4_does 22 = .ok (.iload 5, 2) := by decide +kernel
theorem dX4_does_24 : decode cX4_does 24 = .ok (.invokestatic 100, 3) := by decide +kernel
theorem dX4_does_27 : decode cX4_does 27 = .ok (.ifCond .ne 5, 3) := by decide +kernel
theorem dX4_does_30 : decode cX4_does 30 = .ok (.iconst 0, 1) := by decide +kernel
theorem dX4_does_31 : decode cX4_does 31 = .ok (.ireturn, 1) := by decide +kernel
theorem dX4_does_32 : decode cX4_does 32 = .ok (.iload 6, 2) := by decide +kernel
theorem dX4_does_34 : decode cX4_does 34 = .ok (.tableswitch 106 18 23 #[38, 49, 59, 71, 80, 89], 38) := by decide +kernel
theorem dX4_does_72 : decode cX4_does 72 = .ok (.aload_n 3, 1) := by decide +kernel
theorem dX4_does_73 : decode cX4_does 73 = .ok (.aload_n 1, 1) := by decide +kernel
theorem dX4_does_74 : decode cX4_does 74 = .ok (.iload 5, 2) := by decide +kernel
theorem dX4_does_76 : decode cX4_does 76 = .ok (.invokevirtual 104, 3) := by decide +kernel
theorem dX4_does_79 : decode cX4_does 79 = .ok (.pop, 1) := by decide +kernel
theorem dX4_does_80 : decode cX4_does 80 = .ok (.goto 66, 3) := by decide +kernel
theorem dX4_does_83 : decode cX4_does 83 = .ok (.aload_n 3, 1) := by decide +kernel
theorem dX4_does_84 : decode cX4_does 84 = .ok (.aload_n 1, 1) := by decide +kernel
theorem dX4_does_85 : decode cX4_does 85 = .ok (.iload 5, 2) := by decide +kernel
theorem dX4_does_87 : decode cX4_does 87 = .ok (.invokevirtual 108, 3) := by decide +kernel
theorem dX4_does_90 : decode cX4_does 90 = .ok (.goto 56, 3) := by decide +kernel
theorem dX4_does_93 : decode cX4_does 93 = .ok (.aload_n 0, 1) := by decide +kernel
theorem dX4_does_94 : decode cX4_does 94 = .ok (.aload_n 3, 1) := by decide +kernel
theorem dX4_does_95 : decode cX4_does 95 = .ok (.aload_n 1, 1) := by decide +kernel
theorem dX4_does_96 : decode cX4_does 96 = .ok (.invokevirtual 112, 3) := by decide +kernel
theorem dX4_does_99 : decode cX4_does 99 = .ok (.invokevirtual 116, 3) := by decide +kernel
theorem dX4_does_102 : decode cX4_does 102 = .ok (.goto 44, 3) := by decide +kernel
theorem dX4_does_105 : decode cX4_does 105 = .ok (.aload_n 3, 1) := by decide +kernel
theorem dX4_does_106 : decode cX4_does 106 = .ok (.iload 5, 2) := by decide +kernel
theorem dX4_does_108 : decode cX4_does 108 = .ok (.invokevirtual 120, 3) := by decide +kernel
theorem dX4_does_111 : decode cX4_does 111 = .ok (.goto 35, 3) := by decide +kernel
theorem dX4_does_114 : decode cX4_does 114 = .ok (.aload_n 3, 1) := by decide +kernel
theorem dX4_does_115 : decode cX4_does 115 = .ok (.iload 5, 2) := by decide +kernel
theorem dX4_does_117 : decode cX4_does 117 = .ok (.invokevirtual 123, 3) := by decide +kernel
theorem dX4_does_120 : decode cX4_does 120 = .ok (.goto 26, 3) := by decide +kernel
theorem dX4_does_123 : decode cX4_does 123 = .ok (.aload_n 3, 1) := by decide +kernel
theorem dX4_does_124 : decode cX4_does 124 = .ok (.aload_n 1, 1) := by decide +kernel
theorem dX4_does_125 : decode cX4_does 125 = .ok (.iload 5, 2) := by decide +kernel
theorem dX4_does_127 : decode cX4_does 127 = .ok (.aload_n 2, 1) := by decide +kernel
theorem dX4_does_128 : decode cX4_does 128 = .ok (.getfield 97, 3) := by decide +kernel
theorem dX4_does_131 : decode cX4_does 131 = .ok (.iload 4, 2) := by decide +kernel
theorem dX4_does_133 : decode cX4_does 133 = .ok (.iaload, 1) := by decide +kernel
theorem dX4_does_134 : decode cX4_does 134 = .ok (.invokevirtual 126, 3) := by decide +kernel
theorem dX4_does_137 : decode cX4_does 137 = .ok (.goto 9, 3) := by decide +kernel
theorem dX4_does_140 : decode cX4_does 140 = .ok (.aload_n 0, 1) := by decide +kernel
theorem dX4_does_141 : decode cX4_does 141 = .ok (.aload_n 1, 1) := by decide +kernel
theorem dX4_does_142 : decode cX4_does 142 = .ok (.aload_n 3, 1) := by decide +kernel
theorem dX4_does_143 : decode cX4_does 143 = .ok (.invokevirtual 130, 3) := by decide +kernel
theorem dX4_does_146 : decode cX4_does 146 = .ok (.iconst 1, 1) := by decide +kernel
theorem dX4_does_147 : decode cX4_does 147 = .ok (.ireturn, 1) := by decide +kernel
set_option maxRecDepth 20000 in
theorem ggX4_canDo_X3_wasShown : GoodIn wsX4_canDo wsX3_wasShown := goodIn_r _ [7, 8, 20, 21, 22, 23, 24, 25, 26, 27] (by decide +kernel) (by decide +kernel)
set_option maxRecDepth 20000 in
theorem gX4_canDo_X3_wasShown : GoodIn wsX4_canDo (wsV RX4 134 RX3 yX3_wasShown wsX3_wasShown) := goodIn_app (goodIn_of _ (by decide +kernel)) ggX4_canDo_X3_wasShown
set_option maxRecDepth 20000 in
theorem ggX4_canDo_X3_isSeated : GoodIn wsX4_canDo wsX3_isSeated := goodIn_r _ [12, 13, 20, 21, 22, 23, 24, 25, 26, 27] (by decide +kernel) (by decide +kernel)
set_option maxRecDepth 20000 in
theorem gX4_canDo_X3_isSeated : GoodIn wsX4_canDo (wsV RX4 144 RX3 yX3_isSeated wsX3_isSeated) := goodIn_app (goodIn_of _ (by decide +kernel)) ggX4_canDo_X3_isSeated
set_option maxRecDepth 20000 in
theorem ggX4_canDo_X3_canPay : GoodIn wsX4_canDo wsX3_canPay := goodIn_r _ [17, 18, 19, 20, 21, 22, 23, 24, 25, 26, 27, 28, 29, 30, 31, 32, 33, 34, 35, 36, 37, 38, 39, 40] (by decide +kernel) (by decide +kernel)
set_option maxRecDepth 20000 in
theorem gX4_canDo_X3_canPay : GoodIn wsX4_canDo (wsV RX4 147 RX3 yX3_canPay wsX3_canPay) := goodIn_app (goodIn_of _ (by decide +kernel)) ggX4_canDo_X3_canPay
theorem dX4_canDo_0 : decode cX4_canDo 0 = .ok (.iload_n 2, 1) := by decide +kernel
theorem dX4_canDo_1 : decode cX4_canDo 1 = .ok (.tableswitch 130 18 23 #[39, 53, 71, 87, 93, 107], 39) := by decide +kernel
theorem dX4_canDo_40 : decode cX4_canDo 40 = .ok (.aload_n 1, 1) := by decide +kernel
theorem dX4_canDo_41 : decode cX4_canDo 41 = .ok (.iload_n 3, 1) := by decide +kernel
theorem dX4_canDo_42 : decode cX4_canDo 42 = .ok (.invokevirtual 134, 3) := by decide +kernel
theorem dX4_canDo_45 : decode cX4_canDo 45 = .ok (.ifCond .ne 7, 3) := by decide +kernel
theorem dX4_canDo_48 : decode cX4_canDo 48 = .ok (.iconst 1, 1) := by decide +kernel
theorem dX4_canDo_49 : decode cX4_canDo 49 = .ok (.goto 4, 3) := by decide +kernel
theorem dX4_canDo_52 : decode cX4_canDo 52 = .ok (.iconst 0, 1) := by decide +kernel
theorem dX4_canDo_53 : decode cX4_canDo 53 = .ok (.ireturn, 1) := by decide +kernel
theorem dX4_canDo_54 : decode cX4_canDo 54 = .ok (.aload_n 1, 1) := by decide +kernel
theorem dX4_canDo_55 : decode cX4_canDo 55 = .ok (.getfield 138, 3) := by decide +kernel
theorem dX4_canDo_58 : decode cX4_canDo 58 = .ok (.iload_n 3, 1) := by decide +kernel
theorem dX4_canDo_59 : decode cX4_canDo 59 = .ok (.iadd, 1) := by decide +kernel
theorem dX4_canDo_60 : decode cX4_canDo 60 = .ok (.sipush 9999, 3) := by decide +kernel
theorem dX4_canDo_63 : decode cX4_canDo 63 = .ok (.if_icmp .gt 7, 3) := by decide +kernel
theorem dX4_canDo_66 : decode cX4_canDo 66 = .ok (.iconst 1, 1) := by decide +kernel
theorem dX4_canDo_67 : decode cX4_canDo 67 = .ok (.goto 4, 3) := by decide +kernel
theorem dX4_canDo_70 : decode cX4_canDo 70 = .ok (.iconst 0, 1) := by decide +kernel
theorem dX4_canDo_71 : decode cX4_canDo 71 = .ok (.ireturn, 1) := by decide +kernel
theorem dX4_canDo_72 : decode cX4_canDo 72 = .ok (.aload_n 1, 1) := by decide +kernel
theorem dX4_canDo_73 : decode cX4_canDo 73 = .ok (.getfield 141, 3) := by decide +kernel
theorem dX4_canDo_76 : decode cX4_canDo 76 = .ok (.sipush 9999, 3) := by decide +kernel
theorem dX4_canDo_79 : decode cX4_canDo 79 = .ok (.if_icmp .ge 7, 3) := by decide +kernel
theorem dX4_canDo_82 : decode cX4_canDo 82 = .ok (.iconst 1, 1) := by decide +kernel
theorem dX4_canDo_83 : decode cX4_canDo 83 = .ok (.goto 4, 3) := by decide +kernel
theorem dX4_canDo_86 : decode cX4_canDo 86 = .ok (.iconst 0, 1) := by decide +kernel
theorem dX4_canDo_87 : decode cX4_canDo 87 = .ok (.ireturn, 1) := by decide +kernel
theorem dX4_canDo_88 : decode cX4_canDo 88 = .ok (.aload_n 1, 1) := by decide +kernel
theorem dX4_canDo_89 : decode cX4_canDo 89 = .ok (.iload_n 3, 1) := by decide +kernel
theorem dX4_canDo_90 : decode cX4_canDo 90 = .ok (.invokevirtual 144, 3) := by decide +kernel
theorem dX4_canDo_93 : decode cX4_canDo 93 = .ok (.ireturn, 1) := by decide +kernel
theorem dX4_canDo_94 : decode cX4_canDo 94 = .ok (.aload_n 1, 1) := by decide +kernel
theorem dX4_canDo_95 : decode cX4_canDo 95 = .ok (.iload_n 3, 1) := by decide +kernel
theorem dX4_canDo_96 : decode cX4_canDo 96 = .ok (.invokevirtual 144, 3) := by decide +kernel
theorem dX4_canDo_99 : decode cX4_canDo 99 = .ok (.ifCond .ne 7, 3) := by decide +kernel
theorem dX4_canDo_102 : decode cX4_canDo 102 = .ok (.iconst 1, 1) := by decide +kernel
theorem dX4_canDo_103 : decode cX4_canDo 103 = .ok (.goto 4, 3) := by decide +kernel
theorem dX4_canDo_106 : decode cX4_canDo 106 = .ok (.iconst 0, 1) := by decide +kernel
theorem dX4_canDo_107 : decode cX4_canDo 107 = .ok (.ireturn, 1) := by decide +kernel
theorem dX4_canDo_108 : decode cX4_canDo 108 = .ok (.aload_n 1, 1) := by decide +kernel
theorem dX4_canDo_109 : decode cX4_canDo 109 = .ok (.iload_n 3, 1) := by decide +kernel
theorem dX4_canDo_110 : decode cX4_canDo 110 = .ok (.invokevirtual 144, 3) := by decide +kernel
theorem dX4_canDo_113 : decode cX4_canDo 113 = .ok (.ifCond .eq 16, 3) := by decide +kernel
theorem dX4_canDo_116 : decode cX4_canDo 116 = .ok (.aload_n 1, 1) := by decide +kernel
theorem dX4_canDo_117 : decode cX4_canDo 117 = .ok (.aload_n 0, 1) := by decide +kernel
theorem dX4_canDo_118 : decode cX4_canDo 118 = .ok (.iload_n 3, 1) := by decide +kernel
theorem dX4_canDo_119 : decode cX4_canDo 119 = .ok (.invokevirtual 147, 3) := by decide +kernel
theorem dX4_canDo_122 : decode cX4_canDo 122 = .ok (.ifCond .eq 7, 3) := by decide +kernel
theorem dX4_canDo_125 : decode cX4_canDo 125 = .ok (.iconst 1, 1) := by decide +kernel
theorem dX4_canDo_126 : decode cX4_canDo 126 = .ok (.goto 4, 3) := by decide +kernel
theorem dX4_canDo_129 : decode cX4_canDo 129 = .ok (.iconst 0, 1) := by decide +kernel
theorem dX4_canDo_130 : decode cX4_canDo 130 = .ok (.ireturn, 1) := by decide +kernel
theorem dX4_canDo_131 : decode cX4_canDo 131 = .ok (.iconst 1, 1) := by decide +kernel
theorem dX4_canDo_132 : decode cX4_canDo 132 = .ok (.ireturn, 1) := by decide +kernel
theorem dX4_countDay_0 : decode cX4_countDay 0 = .ok (.aload_n 0, 1) := by decide +kernel
theorem dX4_countDay_1 : decode cX4_countDay 1 = .ok (.dup, 1) := by decide +kernel
theorem dX4_countDay_2 : decode cX4_countDay 2 = .ok (.getfield 25, 3) := by decide +kernel
theorem dX4_countDay_5 : decode cX4_countDay 5 = .ok (.iconst 1, 1) := by decide +kernel
theorem dX4_countDay_6 : decode cX4_countDay 6 = .ok (.iadd, 1) := by decide +kernel
theorem dX4_countDay_7 : decode cX4_countDay 7 = .ok (.putfield 25, 3) := by decide +kernel
theorem dX4_countDay_10 : decode cX4_countDay 10 = .ok (.aload_n 0, 1) := by decide +kernel
theorem dX4_countDay_11 : decode cX4_countDay 11 = .ok (.dup, 1) := by decide +kernel
theorem dX4_countDay_12 : decode cX4_countDay 12 = .ok (.getfield 28, 3) := by decide +kernel
theorem dX4_countDay_15 : decode cX4_countDay 15 = .ok (.iload_n 1, 1) := by decide +kernel
theorem dX4_countDay_16 : decode cX4_countDay 16 = .ok (.iconst 1, 1) := by decide +kernel
theorem dX4_countDay_17 : decode cX4_countDay 17 = .ok (.if_icmp .ne 7, 3) := by decide +kernel
theorem dX4_countDay_20 : decode cX4_countDay 20 = .ok (.iconst 1, 1) := by decide +kernel
theorem dX4_countDay_21 : decode cX4_countDay 21 = .ok (.goto 4, 3) := by decide +kernel
theorem dX4_countDay_24 : decode cX4_countDay 24 = .ok (.iconst 0, 1) := by decide +kernel
theorem dX4_countDay_25 : decode cX4_countDay 25 = .ok (.iadd, 1) := by decide +kernel
theorem dX4_countDay_26 : decode cX4_countDay 26 = .ok (.putfield 28, 3) := by decide +kernel
theorem dX4_countDay_29 : decode cX4_countDay 29 = .ok (.aload_n 0, 1) := by decide +kernel
theorem dX4_countDay_30 : decode cX4_countDay 30 = .ok (.dup, 1) := by decide +kernel
theorem dX4_countDay_31 : decode cX4_countDay 31 = .ok (.getfield 31, 3) := by decide +kernel
theorem dX4_countDay_34 : decode cX4_countDay 34 = .ok (.iload_n 1, 1) := by decide +kernel
theorem dX4_countDay_35 : decode cX4_countDay 35 = .ok (.ifCond .ne 7, 3) := by decide +kernel
theorem dX4_countDay_38 : decode cX4_countDay 38 = .ok (.iconst 1, 1) := by decide +kernel
theorem dX4_countDay_39 : decode cX4_countDay 39 = .ok (.goto 4, 3) := by decide +kernel
theorem dX4_countDay_42 : decode cX4_countDay 42 = .ok (.iconst 0, 1) := by decide +kernel
theorem dX4_countDay_43 : decode cX4_countDay 43 = .ok (.iadd, 1) := by decide +kernel
theorem dX4_countDay_44 : decode cX4_countDay 44 = .ok (.putfield 31, 3) := by decide +kernel
theorem dX4_countDay_47 : decode cX4_countDay 47 = .ok (.return_, 1) := by decide +kernel
set_option maxRecDepth 20000 in
theorem ggX4_feelMood_X3_isSeated : GoodIn wsX4_feelMood wsX3_isSeated := goodIn_r _ [6, 7, 33, 34, 35, 36, 37, 38, 39, 40] (by decide +kernel) (by decide +kernel)
set_option maxRecDepth 20000 in
theorem gX4_feelMood_X3_isSeated : GoodIn wsX4_feelMood (wsV RX4 144 RX3 yX3_isSeated wsX3_isSeated) := goodIn_app (goodIn_of _ (by decide +kernel)) ggX4_feelMood_X3_isSeated
set_option maxRecDepth 20000 in
theorem ggX4_feelMood_X4_drawBy : GoodIn wsX4_feelMood wsX4_drawBy := goodIn_r _ [12, 13, 14, 41, 42, 43, 44, 45, 46, 47, 48] (by decide +kernel) (by decide +kernel)
set_option maxRecDepth 20000 in
theorem gX4_feelMood_X4_drawBy : GoodIn wsX4_feelMood (wsV RX4 156 RX4 yX4_drawBy wsX4_drawBy) := goodIn_app (goodIn_of _ (by decide +kernel)) ggX4_feelMood_X4_drawBy
set_option maxRecDepth 20000 in
theorem ggX4_feelMood_X3_shift : GoodIn wsX4_feelMood wsX3_shift := goodIn_r _ [18, 19, 33, 34, 35, 36, 37, 38, 39, 40] (by decide +kernel) (by decide +kernel)
set_option maxRecDepth 20000 in
theorem gX4_feelMood_X3_shift : GoodIn wsX4_feelMood (wsV RX4 160 RX3 yX3_shift wsX3_shift) := goodIn_app (goodIn_of _ (by decide +kernel)) ggX4_feelMood_X3_shift
theorem dX4_feelMood_0 : decode cX4_feelMood 0 = .ok (.iconst 0, 1) := by decide +kernel
theorem dX4_feelMood_1 : decode cX4_feelMood 1 = .ok (.istore_n 3, 1) := by decide +kernel
theorem dX4_feelMood_2 : decode cX4_feelMood 2 = .ok (.iload_n 3, 1) := by decide +kernel
theorem dX4_feelMood_3 : decode cX4_feelMood 3 = .ok (.aload_n 1, 1) := by decide +kernel
theorem dX4_feelMood_4 : decode cX4_feelMood 4 = .ok (.getfield 151, 3) := by decide +kernel
theorem dX4_feelMood_7 : decode cX4_feelMood 7 = .ok (.iconst 0, 1) := by decide +kernel
theorem dX4_feelMood_8 : decode cX4_feelMood 8 = .ok (.iaload, 1) := by decide +kernel
theorem dX4_feelMood_9 : decode cX4_feelMood 9 = .ok (.if_icmp .ge 31, 3) := by decide +kernel
theorem dX4_feelMood_12 : decode cX4_feelMood 12 = .ok (.aload_n 2, 1) := by decide +kernel
theorem dX4_feelMood_13 : decode cX4_feelMood 13 = .ok (.iload_n 3, 1) := by decide +kernel
theorem dX4_feelMood_14 : decode cX4_feelMood 14 = .ok (.invokevirtual 144, 3) := by decide +kernel
theorem dX4_feelMood_17 : decode cX4_feelMood 17 = .ok (.ifCond .eq 17, 3) := by decide +kernel
theorem dX4_feelMood_20 : decode cX4_feelMood 20 = .ok (.aload_n 2, 1) := by decide +kernel
theorem dX4_feelMood_21 : decode cX4_feelMood 21 = .ok (.iload_n 3, 1) := by decide +kernel
theorem dX4_feelMood_22 : decode cX4_feelMood 22 = .ok (.aload_n 0, 1) := by decide +kernel
theorem dX4_feelMood_23 : decode cX4_feelMood 23 = .ok (.bipush 9, 2) := by decide +kernel
theorem dX4_feelMood_25 : decode cX4_feelMood 25 = .ok (.invokevirtual 156, 3) := by decide +kernel
theorem dX4_feelMood_28 : decode cX4_feelMood 28 = .ok (.iconst 4, 1) := by decide +kernel
theorem dX4_feelMood_29 : decode cX4_feelMood 29 = .ok (.isub, 1) := by decide +kernel
theorem dX4_feelMood_30 : decode cX4_feelMood 30 = .ok (.invokevirtual 160, 3) := by decide +kernel
theorem dX4_feelMood_33 : decode cX4_feelMood 33 = .ok (.pop, 1) := by decide +kernel
theorem dX4_feelMood_34 : decode cX4_feelMood 34 = .ok (.iinc 3 1, 3) := by decide +kernel
theorem dX4_feelMood_37 : decode cX4_feelMood 37 = .ok (.goto (-35), 3) := by decide +kernel
theorem dX4_feelMood_40 : decode cX4_feelMood 40 = .ok (.return_, 1) := by decide +kernel
theorem dX4_drawBy_0 : decode cX4_drawBy 0 = .ok (.aload_n 0, 1) := by decide +kernel
theorem dX4_drawBy_1 : decode cX4_drawBy 1 = .ok (.aload_n 0, 1) := by decide +kernel
theorem dX4_drawBy_2 : decode cX4_drawBy 2 = .ok (.getfield 15, 3) := by decide +kernel
theorem dX4_drawBy_5 : decode cX4_drawBy 5 = .ok (.sipush 2927, 3) := by decide +kernel
theorem dX4_drawBy_8 : decode cX4_drawBy 8 = .ok (.imul, 1) := by decide +kernel
theorem dX4_drawBy_9 : decode cX4_drawBy 9 = .ok (.sipush 10627, 3) := by decide +kernel
theorem dX4_drawBy_12 : decode cX4_drawBy 12 = .ok (.iadd, 1) := by decide +kernel
theorem dX4_drawBy_13 : decode cX4_drawBy 13 = .ok (.ldc 164, 2) := by decide +kernel
theorem dX4_drawBy_15 : decode cX4_drawBy 15 = .ok (.irem, 1) := by decide +kernel
theorem dX4_drawBy_16 : decode cX4_drawBy 16 = .ok (.putfield 15, 3) := by decide +kernel
theorem dX4_drawBy_19 : decode cX4_drawBy 19 = .ok (.iload_n 1, 1) := by decide +kernel
theorem dX4_drawBy_20 : decode cX4_drawBy 20 = .ok (.ifCond .le 15, 3) := by decide +kernel
theorem dX4_drawBy_23 : decode cX4_drawBy 23 = .ok (.aload_n 0, 1) := by decide +kernel
theorem dX4_drawBy_24 : decode cX4_drawBy 24 = .ok (.getfield 15, 3) := by decide +kernel
theorem dX4_drawBy_27 : decode cX4_drawBy 27 = .ok (.bipush 8, 2) := by decide +kernel
theorem dX4_drawBy_29 : decode cX4_drawBy 29 = .ok (.idiv, 1) := by decide +kernel
theorem dX4_drawBy_30 : decode cX4_drawBy 30 = .ok (.iload_n 1, 1) := by decide +kernel
theorem dX4_drawBy_31 : decode cX4_drawBy 31 = .ok (.irem, 1) := by decide +kernel
theorem dX4_drawBy_32 : decode cX4_drawBy 32 = .ok (.goto 4, 3) := by decide +kernel
theorem dX4_drawBy_35 : decode cX4_drawBy 35 = .ok (.iconst 0, 1) := by decide +kernel
theorem dX4_drawBy_36 : decode cX4_drawBy 36 = .ok (.ireturn, 1) := by decide +kernel
set_option maxRecDepth 20000 in
theorem ggX5_init_J0_length_8abf5 : GoodIn wsX5_init wsJ0_length_8abf5 := goodIn_r _ [23, 24, 25, 26, 27, 22, 28, 29, 30] (by decide +kernel) (by decide +kernel)
set_option maxRecDepth 20000 in
theorem gX5_init_J0_length_8abf5 : GoodIn wsX5_init (wsV RX5 53 RJ0 yJ0_length_8abf5 wsJ0_length_8abf5) := goodIn_app (goodIn_of _ (by decide +kernel)) ggX5_init_J0_length_8abf5
set_option maxRecDepth 20000 in
theorem ggX5_init_J0_charAt_5068e : GoodIn wsX5_init wsJ0_charAt_5068e := goodIn_r _ [34, 24, 35, 36, 37, 22, 38, 29, 30, 39, 40, 41, 42, 43, 44, 45, 46, 47, 48, 49, 50, 51, 52, 53, 54, 55, 56, 57, 58, 59, 60, 61, 62, 63, 64, 65, 66, 67] (by decide +kernel) (by decide +kernel)
set_option maxRecDepth 20000 in
theorem gX5_init_J0_charAt_5068e : GoodIn wsX5_init (wsV RX5 58 RJ0 yJ0_charAt_5068e wsJ0_charAt_5068e) := goodIn_app (goodIn_of _ (by decide +kernel)) ggX5_init_J0_charAt_5068e
theorem dX5_init_0 : decode cX5_init 0 = .ok (.aload_n 0, 1) := by decide +kernel
theorem dX5_init_1 : decode cX5_init 1 = .ok (.invokespecial 3, 3) := by decide +kernel
theorem dX5_init_4 : decode cX5_init 4 = .ok (.aload_n 0, 1) := by decide +kernel
theorem dX5_init_5 : decode cX5_init 5 = .ok (.sipush 900, 3) := by decide +kernel
theorem dX5_init_8 : decode cX5_init 8 = .ok (.newarray .byte, 2) := by decide +kernel
theorem dX5_init_10 : decode cX5_init 10 = .ok (.putfield 9, 3) := by decide +kernel
theorem dX5_init_13 : decode cX5_init 13 = .ok (.aload_n 0, 1) := by decide +kernel
theorem dX5_init_14 : decode cX5_init 14 = .ok (.bipush 30, 2) := by decide +kernel
theorem dX5_init_16 : decode cX5_init 16 = .ok (.newarray .long, 2) := by decide +kernel
theorem dX5_init_18 : decode cX5_init 18 = .ok (.putfield 15, 3) := by decide +kernel
theorem dX5_init_21 : decode cX5_init 21 = .ok (.aload_n 0, 1) := by decide +kernel
theorem dX5_init_22 : decode cX5_init 22 = .ok (.iconst 0, 1) := by decide +kernel
theorem dX5_init_23 : decode cX5_init 23 = .ok (.putfield 19, 3) := by decide +kernel
theorem dX5_init_26 : decode cX5_init 26 = .ok (.aload_n 0, 1) := by decide +kernel
theorem dX5_init_27 : decode cX5_init 27 = .ok (.iconst 0, 1) := by decide +kernel
theorem dX5_init_28 : decode cX5_init 28 = .ok (.putfield 23, 3) := by decide +kernel
theorem dX5_init_31 : decode cX5_init 31 = .ok (.aload_n 0, 1) := by decide +kernel
theorem dX5_init_32 : decode cX5_init 32 = .ok (.iconst 0, 1) := by decide +kernel
theorem dX5_init_33 : decode cX5_init 33 = .ok (.putfield 26, 3) := by decide +kernel
theorem dX5_init_36 : decode cX5_init 36 = .ok (.aload_n 0, 1) := by decide +kernel
theorem dX5_init_37 : decode cX5_init 37 = .ok (.iconst 0, 1) := by decide +kernel
theorem dX5_init_38 : decode cX5_init 38 = .ok (.putfield 29, 3) := by decide +kernel
theorem dX5_init_41 : decode cX5_init 41 = .ok (.aload_n 0, 1) := by decide +kernel
theorem dX5_init_42 : decode cX5_init 42 = .ok (.iconst 0, 1) := by decide +kernel
theorem dX5_init_43 : decode cX5_init 43 = .ok (.putfield 32, 3) := by decide +kernel
theorem dX5_init_46 : decode cX5_init 46 = .ok (.aload_n 0, 1) := by decide +kernel
theorem dX5_init_47 : decode cX5_init 47 = .ok (.iconst (-1), 1) := by decide +kernel
theorem dX5_init_48 : decode cX5_init 48 = .ok (.putfield 35, 3) := by decide +kernel
theorem dX5_init_51 : decode cX5_init 51 = .ok (.aload_n 0, 1) := by decide +kernel
theorem dX5_init_52 : decode cX5_init 52 = .ok (.lconst 0, 1) := by decide +kernel
theorem dX5_init_53 : decode cX5_init 53 = .ok (.putfield 38, 3) := by decide +kernel
theorem dX5_init_56 : decode cX5_init 56 = .ok (.aload_n 0, 1) := by decide +kernel
theorem dX5_init_57 : decode cX5_init 57 = .ok (.iconst 0, 1) := by decide +kernel
theorem dX5_init_58 : decode cX5_init 58 = .ok (.putfield 42, 3) := by decide +kernel
theorem dX5_init_61 : decode cX5_init 61 = .ok (.aload_n 0, 1) := by decide +kernel
theorem dX5_init_62 : decode cX5_init 62 = .ok (.iconst 0, 1) := by decide +kernel
theorem dX5_init_63 : decode cX5_init 63 = .ok (.putfield 45, 3) := by decide +kernel
theorem dX5_init_66 : decode cX5_init 66 = .ok (.aload_n 0, 1) := by decide +kernel
theorem dX5_init_67 : decode cX5_init 67 = .ok (.iconst (-1), 1) := by decide +kernel
theorem dX5_init_68 : decode cX5_init 68 = .ok (.putfield 48, 3) := by decide +kernel
theorem dX5_init_71 : decode cX5_init 71 = .ok (.iconst 0, 1) := by decide +kernel
theorem dX5_init_72 : decode cX5_init 72 = .ok (.istore_n 1, 1) := by decide +kernel
theorem dX5_init_73 : decode cX5_init 73 = .ok (.lconst 0, 1) := by decide +kernel
theorem dX5_init_74 : decode cX5_init 74 = .ok (.lstore_n 2, 1) := by decide +kernel
theorem dX5_init_75 : decode cX5_init 75 = .ok (.iconst 0, 1) := by decide +kernel
theorem dX5_init_76 : decode cX5_init 76 = .ok (.istore 4, 2) := by decide +kernel
theorem dX5_init_78 : decode cX5_init 78 = .ok (.iload 4, 2) := by decide +kernel
theorem dX5_init_80 : decode cX5_init 80 = .ok (.ldc 51, 2) := by decide +kernel
theorem dX5_init_82 : decode cX5_init 82 = .ok (.invokevirtual 53, 3) := by decide +kernel
theorem dX5_init_85 : decode cX5_init 85 = .ok (.if_icmp .ge 61, 3) := by decide +kernel
theorem dX5_init_88 : decode cX5_init 88 = .ok (.iload_n 1, 1) := by decide +kernel
theorem dX5_init_89 : decode cX5_init 89 = .ok (.bipush 30, 2) := by decide +kernel
theorem dX5_init_91 : decode cX5_init 91 = .ok (.if_icmp .ge 55, 3) := by decide +kernel
theorem dX5_init_94 : decode cX5_init 94 = .ok (.ldc 51, 2) := by decide +kernel
theorem dX5_init_96 : decode cX5_init 96 = .ok (.iload 4, 2) := by decide +kernel
theorem dX5_init_98 : decode cX5_init 98 = .ok (.invokevirtual 58, 3) := by decide +kernel
theorem dX5_init_101 : decode cX5_init 101 = .ok (.istore 5, 2) := by decide +kernel
theorem dX5_init_103 : decode cX5_init 103 = .ok (.iload 5, 2) := by decide +kernel
theorem dX5_init_105 : decode cX5_init 105 = .ok (.bipush 32, 2) := by decide +kernel
theorem dX5_init_107 : decode cX5_init 107 = .ok (.if_icmp .ne 18, 3) := by decide +kernel
theorem dX5_init_110 : decode cX5_init 110 = .ok (.aload_n 0, 1) := by decide +kernel
theorem dX5_init_111 : decode cX5_init 111 = .ok (.getfield 15, 3) := by decide +kernel
theorem dX5_init_114 : decode cX5_init 114 = .ok (.iload_n 1, 1) := by decide +kernel
theorem dX5_init_115 : decode cX5_init 115 = .ok (.lload_n 2, 1) := by decide +kernel
theorem dX5_init_116 : decode cX5_init 116 = .ok (.lastore, 1) := by decide +kernel
theorem dX5_init_117 : decode cX5_init 117 = .ok (.iinc 1 1, 3) := by decide +kernel
theorem dX5_init_120 : decode cX5_init 120 = .ok (.lconst 0, 1) := by decide +kernel
theorem dX5_init_121 : decode cX5_init 121 = .ok (.lstore_n 2, 1) := by decide +kernel
theorem dX5_init_122 : decode cX5_init 122 = .ok (.goto 18, 3) := by decide +kernel
theorem dX5_init_125 : decode cX5_init 125 = .ok (.lload_n 2, 1) := by decide +kernel
theorem dX5_init_126 : decode cX5_init 126 = .ok (.ldc2_w 62, 3) := by decide +kernel
theorem dX5_init_129 : decode cX5_init 129 = .ok (.lmul, 1) := by decide +kernel
theorem dX5_init_130 : decode cX5_init 130 = .ok (.iload 5, 2) := by decide +kernel
theorem dX5_init_132 : decode cX5_init 132 = .ok (.bipush 97, 2) := by decide +kernel
theorem dX5_init_134 : decode cX5_init 134 = .ok (.isub, 1) := by decide +kernel
theorem dX5_init_135 : decode cX5_init 135 = .ok (.iconst 1, 1) := by decide +kernel
theorem dX5_init_136 : decode cX5_init 136 = .ok (.iadd, 1) := by decide +kernel
theorem dX5_init_137 : decode cX5_init 137 = .ok (.i2l, 1) := by decide +kernel
theorem dX5_init_138 : decode cX5_init 138 = .ok (.ladd, 1) := by decide +kernel
theorem dX5_init_139 : decode cX5_init 139 = .ok (.lstore_n 2, 1) := by decide +kernel
theorem dX5_init_140 : decode cX5_init 140 = .ok (.iinc 4 1, 3) := by decide +kernel
theorem dX5_init_143 : decode cX5_init 143 = .ok (.goto (-65), 3) := by decide +kernel
theorem dX5_init_146 : decode cX5_init 146 = .ok (.return_, 1) := by decide +kernel
theorem dX5_hasRoom_0 : decode cX5_hasRoom 0 = .ok (.aload_n 0, 1) := by decide +kernel
theorem dX5_hasRoom_1 : decode cX5_hasRoom 1 = .ok (.getfield 19, 3) := by decide +kernel
theorem dX5_hasRoom_4 : decode cX5_hasRoom 4 = .ok (.iload_n 1, 1) := by decide +kernel
theorem dX5_hasRoom_5 : decode cX5_hasRoom 5 = .ok (.iadd, 1) := by decide +kernel
theorem dX5_hasRoom_6 : decode cX5_hasRoom 6 = .ok (.sipush 900, 3) := by decide +kernel
theorem dX5_hasRoom_9 : decode cX5_hasRoom 9 = .ok (.if_icmp .gt 7, 3) := by decide +kernel
theorem dX5_hasRoom_12 : decode cX5_hasRoom 12 = .ok (.iconst 1, 1) := by decide +kernel
theorem dX5_hasRoom_13 : decode cX5_hasRoom 13 = .ok (.goto 4, 3) := by decide +kernel
theorem dX5_hasRoom_16 : decode cX5_hasRoom 16 = .ok (.iconst 0, 1) := by decide +kernel
theorem dX5_hasRoom_17 : decode cX5_hasRoom 17 = .ok (.ireturn, 1) := by decide +kernel
theorem dX5_append_0 : decode cX5_append 0 = .ok (.bipush 24, 2) := by decide +kernel
theorem dX5_append_2 : decode cX5_append 2 = .ok (.istore_n 2, 1) := by decide +kernel
theorem dX5_append_3 : decode cX5_append 3 = .ok (.iload_n 2, 1) := by decide +kernel
theorem dX5_append_4 : decode cX5_append 4 = .ok (.ifCond .lt 42, 3) := by decide +kernel
theorem dX5_append_7 : decode cX5_append 7 = .ok (.aload_n 0, 1) := by decide +kernel
theorem dX5_append_8 : decode cX5_append 8 = .ok (.getfield 19, 3) := by decide +kernel
theorem dX5_append_11 : decode cX5_append 11 = .ok (.sipush 900, 3) := by decide +kernel
theorem dX5_append_14 : decode cX5_append 14 = .ok (.if_icmp .ge 32, 3) := by decide +kernel
theorem dX5_append_17 : decode cX5_append 17 = .ok (.aload_n 0, 1) := by decide +kernel
theorem dX5_append_18 : decode cX5_append 18 = .ok (.getfield 9, 3) := by decide +kernel
theorem dX5_append_21 : decode cX5_append 21 = .ok (.aload_n 0, 1) := by decide +kernel
theorem dX5_append_22 : decode cX5_append 22 = .ok (.getfield 19, 3) := by decide +kernel
theorem dX5_append_25 : decode cX5_append 25 = .ok (.iload_n 1, 1) := by decide +kernel
theorem dX5_append_26 : decode cX5_append 26 = .ok (.iload_n 2, 1) := by decide +kernel
theorem dX5_append_27 : decode cX5_append 27 = .ok (.ishr, 1) := by decide +kernel
theorem dX5_append_28 : decode cX5_append 28 = .ok (.i2b, 1) := by decide +kernel
theorem dX5_append_29 : decode cX5_append 29 = .ok (.bastore, 1) := by decide +kernel
theorem dX5_append_30 : decode cX5_append 30 = .ok (.aload_n 0, 1) := by decide +kernel
theorem dX5_append_31 : decode cX5_append 31 = .ok (.dup, 1) := by decide +kernel
theorem dX5_append_32 : decode cX5_append 32 = .ok (.getfield 19, 3) := by decide +kernel
theorem dX5_append_35 : decode cX5_append 35 = .ok (.iconst 1, 1) := by decide +kernel
theorem dX5_append_36 : decode cX5_append 36 = .ok (.iadd, 1) := by decide +kernel
theorem dX5_append_37 : decode cX5_append 37 = .ok (.putfield 19, 3) := by decide +kernel
theorem dX5_append_40 : decode cX5_append 40 = .ok (.iinc 2 (-8), 3) := by decide +kernel
theorem dX5_append_43 : decode cX5_append 43 = .ok (.goto (-40), 3) := by decide +kernel
theorem dX5_append_46 : decode cX5_append 46 = .ok (.return_, 1) := by decide +kernel
set_option maxRecDepth 20000 in
theorem ggX5_begin_X5_advance : GoodIn wsX5_begin wsX5_advance := goodIn_r _ [9, 2, 1, 10, 11, 12, 13, 14, 15, 16, 17, 8, 18, 19, 20, 21, 22, 23, 24, 25, 26, 27, 28, 29, 30, 31, 32, 33, 34, 35, 36, 37, 38, 39, 40] (by decide +kernel) (by decide +kernel)
set_option maxRecDepth 20000 in
theorem gX5_begin_X5_advance : GoodIn wsX5_begin (wsV RX5 64 RX5 yX5_advance wsX5_advance) := goodIn_app (goodIn_of _ (by decide +kernel)) ggX5_begin_X5_advance
theorem dX5_begin_0 : decode cX5_begin 0 = .ok (.aload_n 0, 1) := by decide +kernel
theorem dX5_begin_1 : decode cX5_begin 1 = .ok (.iload_n 1, 1) := by decide +kernel
theorem dX5_begin_2 : decode cX5_begin 2 = .ok (.putfield 23, 3) := by decide +kernel
theorem dX5_begin_5 : decode cX5_begin 5 = .ok (.aload_n 0, 1) := by decide +kernel
theorem dX5_begin_6 : decode cX5_begin 6 = .ok (.iconst 0, 1) := by decide +kernel
theorem dX5_begin_7 : decode cX5_begin 7 = .ok (.putfield 26, 3) := by decide +kernel
theorem dX5_begin_10 : decode cX5_begin 10 = .ok (.aload_n 0, 1) := by decide +kernel
theorem dX5_begin_11 : decode cX5_begin 11 = .ok (.iconst 0, 1) := by decide +kernel
theorem dX5_begin_12 : decode cX5_begin 12 = .ok (.putfield 45, 3) := by decide +kernel
theorem dX5_begin_15 : decode cX5_begin 15 = .ok (.aload_n 0, 1) := by decide +kernel
theorem dX5_begin_16 : decode cX5_begin 16 = .ok (.iconst (-1), 1) := by decide +kernel
theorem dX5_begin_17 : decode cX5_begin 17 = .ok (.putfield 48, 3) := by decide +kernel
theorem dX5_begin_20 : decode cX5_begin 20 = .ok (.aload_n 0, 1) := by decide +kernel
theorem dX5_begin_21 : decode cX5_begin 21 = .ok (.invokevirtual 64, 3) := by decide +kernel
theorem dX5_begin_24 : decode cX5_begin 24 = .ok (.return_, 1) := by decide +kernel
set_option maxRecDepth 20000 in
theorem ggX5_advance_X5_lookAtWord : GoodIn wsX5_advance wsX5_lookAtWord := goodIn_r _ [12, 7, 1, 2, 3, 4, 6, 13, 5, 14, 23, 24, 25, 26, 27, 28, 29, 30, 31, 32, 33, 34] (by decide +kernel) (by decide +kernel)
set_option maxRecDepth 20000 in
theorem gX5_advance_X5_lookAtWord : GoodIn wsX5_advance (wsV RX5 67 RX5 yX5_lookAtWord wsX5_lookAtWord) := goodIn_app (goodIn_of _ (by decide +kernel)) ggX5_advance_X5_lookAtWord
set_option maxRecDepth 20000 in
theorem ggX5_advance_X5_lookAtNumber : GoodIn wsX5_advance wsX5_lookAtNumber := goodIn_r _ [18, 7, 5, 1, 2, 3, 4, 23, 24, 25, 26, 27, 28, 29, 30, 31, 32, 33, 34] (by decide +kernel) (by decide +kernel)
set_option maxRecDepth 20000 in
theorem gX5_advance_X5_lookAtNumber : GoodIn wsX5_advance (wsV RX5 70 RX5 yX5_lookAtNumber wsX5_lookAtNumber) := goodIn_app (goodIn_of _ (by decide +kernel)) ggX5_advance_X5_lookAtNumber
set_option maxRecDepth 20000 in
theorem ggX5_advance_X5_lookAtSign : GoodIn wsX5_advance wsX5_lookAtSign := goodIn_r _ [22, 3, 4, 7, 5, 1, 23, 24, 25, 26, 27, 28, 29, 30, 31, 32, 33, 34] (by decide +kernel) (by decide +kernel)
set_option maxRecDepth 20000 in
theorem gX5_advance_X5_lookAtSign : GoodIn wsX5_advance (wsV RX5 73 RX5 yX5_lookAtSign wsX5_lookAtSign) := goodIn_app (goodIn_of _ (by decide +kernel)) ggX5_advance_X5_lookAtSign
theorem dX5_advance_0 : decode cX5_advance 0 = .ok (.aload_n 0, 1) := by decide +kernel
theorem dX5_advance_1 : decode cX5_advance 1 = .ok (.getfield 26, 3) := by decide +kernel
theorem dX5_advance_4 : decode cX5_advance 4 = .ok (.aload_n 0, 1) := by decide +kernel
theorem dX5_advance_5 : decode cX5_advance 5 = .ok (.getfield 23, 3) := by decide +kernel
theorem dX5_advance_8 : decode cX5_advance 8 = .ok (.if_icmp .ge 44, 3) := by decide +kernel
theorem dX5_advance_11 : decode cX5_advance 11 = .ok (.aload_n 0, 1) := by decide +kernel
theorem dX5_advance_12 : decode cX5_advance 12 = .ok (.getfield 9, 3) := by decide +kernel
theorem dX5_advance_15 : decode cX5_advance 15 = .ok (.aload_n 0, 1) := by decide +kernel
theorem dX5_advance_16 : decode cX5_advance 16 = .ok (.getfield 26, 3) := by decide +kernel
theorem dX5_advance_19 : decode cX5_advance 19 = .ok (.baload, 1) := by decide +kernel
theorem dX5_advance_20 : decode cX5_advance 20 = .ok (.bipush 32, 2) := by decide +kernel
theorem dX5_advance_22 : decode cX5_advance 22 = .ok (.if_icmp .eq 17, 3) := by decide +kernel
theorem dX5_advance_25 : decode cX5_advance 25 = .ok (.aload_n 0, 1) := by decide +kernel
theorem dX5_advance_26 : decode cX5_advance 26 = .ok (.getfield 9, 3) := by decide +kernel
theorem dX5_advance_29 : decode cX5_advance 29 = .ok (.aload_n 0, 1) := by decide +kernel
theorem dX5_advance_30 : decode cX5_advance 30 = .ok (.getfield 26, 3) := by decide +kernel
theorem dX5_advance_33 : decode cX5_advance 33 = .ok (.baload, 1) := by decide +kernel
theorem dX5_advance_34 : decode cX5_advance 34 = .ok (.bipush 10, 2) := by decide +kernel
theorem dX5_advance_36 : decode cX5_advance 36 = .ok (.if_icmp .ne 16, 3) := by decide +kernel
theorem dX5_advance_39 : decode cX5_advance 39 = .ok (.aload_n 0, 1) := by decide +kernel
theorem dX5_advance_40 : decode cX5_advance 40 = .ok (.dup, 1) := by decide +kernel
theorem dX5_advance_41 : decode cX5_advance 41 = .ok (.getfield 26, 3) := by decide +kernel
theorem dX5_advance_44 : decode cX5_advance 44 = .ok (.iconst 1, 1) := by decide +kernel
theorem dX5_advance_45 : decode cX5_advance 45 = .ok (.iadd, 1) := by decide +kernel
theorem dX5_advance_46 : decode cX5_advance 46 = .ok (.putfield 26, 3) := by decide +kernel
theorem dX5_advance_49 : decode cX5_advance 49 = .ok (.goto (-49), 3) := by decide +kernel
theorem dX5_advance_52 : decode cX5_advance 52 = .ok (.aload_n 0, 1) := by decide +kernel
theorem dX5_advance_53 : decode cX5_advance 53 = .ok (.aload_n 0, 1) := by decide +kernel
theorem dX5_advance_54 : decode cX5_advance 54 = .ok (.getfield 26, 3) := by decide +kernel
theorem dX5_advance_57 : decode cX5_advance 57 = .ok (.putfield 29, 3) := by decide +kernel
theorem dX5_advance_60 : decode cX5_advance 60 = .ok (.aload_n 0, 1) := by decide +kernel
theorem dX5_advance_61 : decode cX5_advance 61 = .ok (.iconst (-1), 1) := by decide +kernel
theorem dX5_advance_62 : decode cX5_advance 62 = .ok (.putfield 35, 3) := by decide +kernel
theorem dX5_advance_65 : decode cX5_advance 65 = .ok (.aload_n 0, 1) := by decide +kernel
theorem dX5_advance_66 : decode cX5_advance 66 = .ok (.lconst 0, 1) := by decide +kernel
theorem dX5_advance_67 : decode cX5_advance 67 = .ok (.putfield 38, 3) := by decide +kernel
theorem dX5_advance_70 : decode cX5_advance 70 = .ok (.aload_n 0, 1) := by decide +kernel
theorem dX5_advance_71 : decode cX5_advance 71 = .ok (.getfield 29, 3) := by decide +kernel
theorem dX5_advance_74 : decode cX5_advance 74 = .ok (.aload_n 0, 1) := by decide +kernel
theorem dX5_advance_75 : decode cX5_advance 75 = .ok (.getfield 23, 3) := by decide +kernel
theorem dX5_advance_78 : decode cX5_advance 78 = .ok (.if_icmp .lt 11, 3) := by decide +kernel
theorem dX5_advance_81 : decode cX5_advance 81 = .ok (.aload_n 0, 1) := by decide +kernel
theorem dX5_advance_82 : decode cX5_advance 82 = .ok (.iconst 0, 1) := by decide +kernel
theorem dX5_advance_83 : decode cX5_advance 83 = .ok (.putfield 32, 3) := by decide +kernel
theorem dX5_advance_86 : decode cX5_advance 86 = .ok (.goto 77, 3) := by decide +kernel
theorem dX5_advance_89 : decode cX5_advance 89 = .ok (.aload_n 0, 1) := by decide +kernel
theorem dX5_advance_90 : decode cX5_advance 90 = .ok (.getfield 9, 3) := by decide +kernel
theorem dX5_advance_93 : decode cX5_advance 93 = .ok (.aload_n 0, 1) := by decide +kernel
theorem dX5_advance_94 : decode cX5_advance 94 = .ok (.getfield 29, 3) := by decide +kernel
theorem dX5_advance_97 : decode cX5_advance 97 = .ok (.baload, 1) := by decide +kernel
theorem dX5_advance_98 : decode cX5_advance 98 = .ok (.bipush 97, 2) := by decide +kernel
theorem dX5_advance_100 : decode cX5_advance 100 = .ok (.if_icmp .lt 24, 3) := by decide +kernel
theorem dX5_advance_103 : decode cX5_advance 103 = .ok (.aload_n 0, 1) := by decide +kernel
theorem dX5_advance_104 : decode cX5_advance 104 = .ok (.getfield 9, 3) := by decide +kernel
theorem dX5_advance_107 : decode cX5_advance 107 = .ok (.aload_n 0, 1) := by decide +kernel
theorem dX5_advance_108 : decode cX5_advance 108 = .ok (.getfield 29, 3) := by decide +kernel
theorem dX5_advance_111 : decode cX5_advance 111 = .ok (.baload, 1) := by decide +kernel
theorem dX5_advance_112 : decode cX5_advance 112 = .ok (.bipush 122, 2) := by decide +kernel
theorem dX5_advance_114 : decode cX5_advance 114 = .ok (.if_icmp .gt 10, 3) := by decide +kernel
theorem dX5_advance_117 : decode cX5_advance 117 = .ok (.aload_n 0, 1) := by decide +kernel
theorem dX5_advance_118 : decode cX5_advance 118 = .ok (.invokevirtual 67, 3) := by decide +kernel
theorem dX5_advance_121 : decode cX5_advance 121 = .ok (.goto 42, 3) := by decide +kernel
theorem dX5_advance_124 : decode cX5_advance 124 = .ok (.aload_n 0, 1) := by decide +kernel
theorem dX5_advance_125 : decode cX5_advance 125 = .ok (.getfield 9, 3) := by decide +kernel
theorem dX5_advance_128 : decode cX5_advance 128 = .ok (.aload_n 0, 1) := by decide +kernel
theorem dX5_advance_129 : decode cX5_advance 129 = .ok (.getfield 29, 3) := by decide +kernel
theorem dX5_advance_132 : decode cX5_advance 132 = .ok (.baload, 1) := by decide +kernel
theorem dX5_advance_133 : decode cX5_advance 133 = .ok (.bipush 48, 2) := by decide +kernel
theorem dX5_advance_135 : decode cX5_advance 135 = .ok (.if_icmp .lt 24, 3) := by decide +kernel
theorem dX5_advance_138 : decode cX5_advance 138 = .ok (.aload_n 0, 1) := by decide +kernel
theorem dX5_advance_139 : decode cX5_advance 139 = .ok (.getfield 9, 3) := by decide +kernel
theorem dX5_advance_142 : decode cX5_advance 142 = .ok (.aload_n 0, 1) := by decide +kernel
theorem dX5_advance_143 : decode cX5_advance 143 = .ok (.getfield 29, 3) := by decide +kernel
theorem dX5_advance_146 : decode cX5_advance 146 = .ok (.baload, 1) := by decide +kernel
theorem dX5_advance_147 : decode cX5_advance 147 = .ok (.bipush 57, 2) := by decide +kernel
theorem dX5_advance_149 : decode cX5_advance 149 = .ok (.if_icmp .gt 10, 3) := by decide +kernel
theorem dX5_advance_152 : decode cX5_advance 152 = .ok (.aload_n 0, 1) := by decide +kernel
theorem dX5_advance_153 : decode cX5_advance 153 = .ok (.invokevirtual 70, 3) := by decide +kernel
theorem dX5_advance_156 : decode cX5_advance 156 = .ok (.goto 7, 3) := by decide +kernel
theorem dX5_advance_159 : decode cX5_advance 159 = .ok (.aload_n 0, 1) := by decide +kernel
theorem dX5_advance_160 : decode cX5_advance 160 = .ok (.invokevirtual 73, 3) := by decide +kernel
theorem dX5_advance_163 : decode cX5_advance 163 = .ok (.return_, 1) := by decide +kernel
theorem dX5_lookAtWord_0 : decode cX5_lookAtWord 0 = .ok (.aload_n 0, 1) := by decide +kernel
theorem dX5_lookAtWord_1 : decode cX5_lookAtWord 1 = .ok (.iconst 1, 1) := by decide +kernel
theorem dX5_lookAtWord_2 : decode cX5_lookAtWord 2 = .ok (.putfield 32, 3) := by decide +kernel
theorem dX5_lookAtWord_5 : decode cX5_lookAtWord 5 = .ok (.aload_n 0, 1) := by decide +kernel
theorem dX5_lookAtWord_6 : decode cX5_lookAtWord 6 = .ok (.getfield 26, 3) := by decide +kernel
theorem dX5_lookAtWord_9 : decode cX5_lookAtWord 9 = .ok (.aload_n 0, 1) := by decide +kernel
theorem dX5_lookAtWord_10 : decode cX5_lookAtWord 10 = .ok (.getfield 23, 3) := by decide +kernel
theorem dX5_lookAtWord_13 : decode cX5_lookAtWord 13 = .ok (.if_icmp .ge 86, 3) := by decide +kernel
theorem dX5_lookAtWord_16 : decode cX5_lookAtWord 16 = .ok (.aload_n 0, 1) := by decide +kernel
theorem dX5_lookAtWord_17 : decode cX5_lookAtWord 17 = .ok (.getfield 9, 3) := by decide +kernel
theorem dX5_lookAtWord_20 : decode cX5_lookAtWord 20 = .ok (.aload_n 0, 1) := by decide +kernel
theorem dX5_lookAtWord_21 : decode cX5_lookAtWord 21 = .ok (.getfield 26, 3) := by decide +kernel
theorem dX5_lookAtWord_24 : decode cX5_lookAtWord 24 = .ok (.baload, 1) := by decide +kernel
theorem dX5_lookAtWord_25 : decode cX5_lookAtWord 25 = .ok (.bipush 97, 2) := by decide +kernel
theorem dX5_lookAtWord_27 : decode cX5_lookAtWord 27 = .ok (.if_icmp .lt 72, 3) := by decide +kernel
theorem dX5_lookAtWord_30 : decode cX5_lookAtWord 30 = .ok (.aload_n 0, 1) := by decide +kernel
theorem dX5_lookAtWord_31 : decode cX5_lookAtWord 31 = .ok (.getfield 9, 3) := by decide +kernel
theorem dX5_lookAtWord_34 : decode cX5_lookAtWord 34 = .ok (.aload_n 0, 1) := by decide +kernel
theorem dX5_lookAtWord_35 : decode cX5_lookAtWord 35 = .ok (.getfield 26, 3) := by decide +kernel
theorem dX5_lookAtWord_38 : decode cX5_lookAtWord 38 = .ok (.baload, 1) := by decide +kernel
theorem dX5_lookAtWord_39 : decode cX5_lookAtWord 39 = .ok (.bipush 122, 2) := by decide +kernel
theorem dX5_lookAtWord_41 : decode cX5_lookAtWord 41 = .ok (.if_icmp .gt 58, 3) := by decide +kernel
theorem dX5_lookAtWord_44 : decode cX5_lookAtWord 44 = .ok (.aload_n 0, 1) := by decide +kernel
theorem dX5_lookAtWord_45 : decode cX5_lookAtWord 45 = .ok (.getfield 26, 3) := by decide +kernel
theorem dX5_lookAtWord_48 : decode cX5_lookAtWord 48 = .ok (.aload_n 0, 1) := by decide +kernel
theorem dX5_lookAtWord_49 : decode cX5_lookAtWord 49 = .ok (.getfield 29, 3) := by decide +kernel
theorem dX5_lookAtWord_52 : decode cX5_lookAtWord 52 = .ok (.isub, 1) := by decide +kernel
theorem dX5_lookAtWord_53 : decode cX5_lookAtWord 53 = .ok (.bipush 8, 2) := by decide +kernel
theorem dX5_lookAtWord_55 : decode cX5_lookAtWord 55 = .ok (.if_icmp .ge 31, 3) := by decide +kernel
theorem dX5_lookAtWord_58 : decode cX5_lookAtWord 58 = .ok (.aload_n 0, 1) := by decide +kernel
theorem dX5_lookAtWord_59 : decode cX5_lookAtWord 59 = .ok (.aload_n 0, 1) := by decide +kernel
theorem dX5_lookAtWord_60 : decode cX5_lookAtWord 60 = .ok (.getfield 38, 3) := by decide +kernel
theorem dX5_lookAtWord_63 : decode cX5_lookAtWord 63 = .ok (.ldc2_w 62, 3) := by decide +kernel
theorem dX5_lookAtWord_66 : decode cX5_lookAtWord 66 = .ok (.lmul, 1) := by decide +kernel
theorem dX5_lookAtWord_67 : decode cX5_lookAtWord 67 = .ok (.aload_n 0, 1) := by decide +kernel
theorem dX5_lookAtWord_68 : decode cX5_lookAtWord 68 = .ok (.getfield 9, 3) := by decide +kernel
theorem dX5_lookAtWord_71 : decode cX5_lookAtWord 71 = .ok (.aload_n 0, 1) := by decide +kernel
theorem dX5_lookAtWord_72 : decode cX5_lookAtWord 72 = .ok (.getfield 26, 3) := by decide +kernel
theorem dX5_lookAtWord_75 : decode cX5_lookAtWord 75 = .ok (.baload, 1) := by decide +kernel
theorem dX5_lookAtWord_76 : decode cX5_lookAtWord 76 = .ok (.bipush 97, 2) := by decide +kernel
theorem dX5_lookAtWord_78 : decode cX5_lookAtWord 78 = .ok (.isub, 1) := by decide +kernel
theorem dX5_lookAtWord_79 : decode cX5_lookAtWord 79 = .ok (.iconst 1, 1) := by decide +kernel
theorem dX5_lookAtWord_80 : decode cX5_lookAtWord 80 = .ok (.iadd, 1) := by decide +kernel
theorem dX5_lookAtWord_81 : decode cX5_lookAtWord 81 = .ok (.i2l, 1) := by decide +kernel
theorem dX5_lookAtWord_82 : decode cX5_lookAtWord 82 = .ok (.ladd, 1) := by decide +kernel
theorem dX5_lookAtWord_83 : decode cX5_lookAtWord 83 = .ok (.putfield 38, 3) := by decide +kernel
theorem dX5_lookAtWord_86 : decode cX5_lookAtWord 86 = .ok (.aload_n 0, 1) := by decide +kernel
theorem dX5_lookAtWord_87 : decode cX5_lookAtWord 87 = .ok (.dup, 1) := by decide +kernel
theorem dX5_lookAtWord_88 : decode cX5_lookAtWord 88 = .ok (.getfield 26, 3) := by decide +kernel
theorem dX5_lookAtWord_91 : decode cX5_lookAtWord 91 = .ok (.iconst 1, 1) := by decide +kernel
theorem dX5_lookAtWord_92 : decode cX5_lookAtWord 92 = .ok (.iadd, 1) := by decide +kernel
theorem dX5_lookAtWord_93 : decode cX5_lookAtWord 93 = .ok (.putfield 26, 3) := by decide +kernel
theorem dX5_lookAtWord_96 : decode cX5_lookAtWord 96 = .ok (.goto (-91), 3) := by decide +kernel
theorem dX5_lookAtWord_99 : decode cX5_lookAtWord 99 = .ok (.aload_n 0, 1) := by decide +kernel
theorem dX5_lookAtWord_100 : decode cX5_lookAtWord 100 = .ok (.getfield 26, 3) := by decide +kernel
theorem dX5_lookAtWord_103 : decode cX5_lookAtWord 103 = .ok (.aload_n 0, 1) := by decide +kernel
theorem dX5_lookAtWord_104 : decode cX5_lookAtWord 104 = .ok (.getfield 29, 3) := by decide +kernel
theorem dX5_lookAtWord_107 : decode cX5_lookAtWord 107 = .ok (.isub, 1) := by decide +kernel
theorem dX5_lookAtWord_108 : decode cX5_lookAtWord 108 = .ok (.bipush 8, 2) := by decide +kernel
theorem dX5_lookAtWord_110 : decode cX5_lookAtWord 110 = .ok (.if_icmp .le 8, 3) := by decide +kernel
theorem dX5_lookAtWord_113 : decode cX5_lookAtWord 113 = .ok (.aload_n 0, 1) := by decide +kernel
theorem dX5_lookAtWord_114 : decode cX5_lookAtWord 114 = .ok (.lconst 0, 1) := by decide +kernel
theorem dX5_lookAtWord_115 : decode cX5_lookAtWord 115 = .ok (.putfield 38, 3) := by decide +kernel
theorem dX5_lookAtWord_118 : decode cX5_lookAtWord 118 = .ok (.iconst 0, 1) := by decide +kernel
theorem dX5_lookAtWord_119 : decode cX5_lookAtWord 119 = .ok (.istore_n 1, 1) := by decide +kernel
theorem dX5_lookAtWord_120 : decode cX5_lookAtWord 120 = .ok (.iload_n 1, 1) := by decide +kernel
theorem dX5_lookAtWord_121 : decode cX5_lookAtWord 121 = .ok (.bipush 30, 2) := by decide +kernel
theorem dX5_lookAtWord_123 : decode cX5_lookAtWord 123 = .ok (.if_icmp .ge 36, 3) := by decide +kernel
theorem dX5_lookAtWord_126 : decode cX5_lookAtWord 126 = .ok (.aload_n 0, 1) := by decide +kernel
theorem dX5_lookAtWord_127 : decode cX5_lookAtWord 127 = .ok (.getfield 35, 3) := by decide +kernel
theorem dX5_lookAtWord_130 : decode cX5_lookAtWord 130 = .ok (.iconst (-1), 1) := by decide +kernel
theorem dX5_lookAtWord_131 : decode cX5_lookAtWord 131 = .ok (.if_icmp .ne 28, 3) := by decide +kernel
theorem dX5_lookAtWord_134 : decode cX5_lookAtWord 134 = .ok (.aload_n 0, 1) := by decide +kernel
theorem dX5_lookAtWord_135 : decode cX5_lookAtWord 135 = .ok (.getfield 15, 3) := by decide +kernel
theorem dX5_lookAtWord_138 : decode cX5_lookAtWord 138 = .ok (.iload_n 1, 1) := by decide +kernel
theorem dX5_lookAtWord_139 : decode cX5_lookAtWord 139 = .ok (.laload, 1) := by decide +kernel
theorem dX5_lookAtWord_140 : decode cX5_lookAtWord 140 = .ok (.aload_n 0, 1) := by decide +kernel
theorem dX5_lookAtWord_141 : decode cX5_lookAtWord 141 = .ok (.getfield 38, 3) := by decide +kernel
theorem dX5_lookAtWord_144 : decode cX5_lookAtWord 144 = .ok (.lcmp, 1) := by decide +kernel
theorem dX5_lookAtWord_145 : decode cX5_lookAtWord 145 = .ok (.ifCond .ne 8, 3) := by decide +kernel
theorem dX5_lookAtWord_148 : decode cX5_lookAtWord 148 = .ok (.aload_n 0, 1) := by decide +kernel
theorem dX5_lookAtWord_149 : decode cX5_lookAtWord 149 = .ok (.iload_n 1, 1) := by decide +kernel
theorem dX5_lookAtWord_150 : decode cX5_lookAtWord 150 = .ok (.putfield 35, 3) := by decide +kernel
theorem dX5_lookAtWord_153 : decode cX5_lookAtWord 153 = .ok (.iinc 1 1, 3) := by decide +kernel
theorem dX5_lookAtWord_156 : decode cX5_lookAtWord 156 = .ok (.goto (-36), 3) := by decide +kernel
theorem dX5_lookAtWord_159 : decode cX5_lookAtWord 159 = .ok (.return_, 1) := by decide +kernel
theorem dX5_lookAtNumber_0 : decode cX5_lookAtNumber 0 = .ok (.aload_n 0, 1) := by decide +kernel
theorem dX5_lookAtNumber_1 : decode cX5_lookAtNumber 1 = .ok (.iconst 2, 1) := by decide +kernel
theorem dX5_lookAtNumber_2 : decode cX5_lookAtNumber 2 = .ok (.putfield 32, 3) := by decide +kernel
theorem dX5_lookAtNumber_5 : decode cX5_lookAtNumber 5 = .ok (.aload_n 0, 1) := by decide +kernel
theorem dX5_lookAtNumber_6 : decode cX5_lookAtNumber 6 = .ok (.iconst 0, 1) := by decide +kernel
theorem dX5_lookAtNumber_7 : decode cX5_lookAtNumber 7 = .ok (.putfield 35, 3) := by decide +kernel
theorem dX5_lookAtNumber_10 : decode cX5_lookAtNumber 10 = .ok (.aload_n 0, 1) := by decide +kernel
theorem dX5_lookAtNumber_11 : decode cX5_lookAtNumber 11 = .ok (.getfield 26, 3) := by decide +kernel
theorem dX5_lookAtNumber_14 : decode cX5_lookAtNumber 14 = .ok (.aload_n 0, 1) := by decide +kernel
theorem dX5_lookAtNumber_15 : decode cX5_lookAtNumber 15 = .ok (.getfield 23, 3) := by decide +kernel
theorem dX5_lookAtNumber_18 : decode cX5_lookAtNumber 18 = .ok (.if_icmp .ge 81, 3) := by decide +kernel
theorem dX5_lookAtNumber_21 : decode cX5_lookAtNumber 21 = .ok (.aload_n 0, 1) := by decide +kernel
theorem dX5_lookAtNumber_22 : decode cX5_lookAtNumber 22 = .ok (.getfield 9, 3) := by decide +kernel
theorem dX5_lookAtNumber_25 : decode cX5_lookAtNumber 25 = .ok (.aload_n 0, 1) := by decide +kernel
theorem dX5_lookAtNumber_26 : decode cX5_lookAtNumber 26 = .ok (.getfield 26, 3) := by decide +kernel
theorem dX5_lookAtNumber_29 : decode cX5_lookAtNumber 29 = .ok (.baload, 1) := by decide +kernel
theorem dX5_lookAtNumber_30 : decode cX5_lookAtNumber 30 = .ok (.bipush 48, 2) := by decide +kernel
theorem dX5_lookAtNumber_32 : decode cX5_lookAtNumber 32 = .ok (.if_icmp .lt 67, 3) := by decide +kernel
theorem dX5_lookAtNumber_35 : decode cX5_lookAtNumber 35 = .ok (.aload_n 0, 1) := by decide +kernel
theorem dX5_lookAtNumber_36 : decode cX5_lookAtNumber 36 = .ok (.getfield 9, 3) := by decide +kernel
theorem dX5_lookAtNumber_39 : decode cX5_lookAtNumber 39 = .ok (.aload_n 0, 1) := by decide +kernel
theorem dX5_lookAtNumber_40 : decode cX5_lookAtNumber 40 = .ok (.getfield 26, 3) := by decide +kernel
theorem dX5_lookAtNumber_43 : decode cX5_lookAtNumber 43 = .ok (.baload, 1) := by decide +kernel
theorem dX5_lookAtNumber_44 : decode cX5_lookAtNumber 44 = .ok (.bipush 57, 2) := by decide +kernel
theorem dX5_lookAtNumber_46 : decode cX5_lookAtNumber 46 = .ok (.if_icmp .gt 53, 3) := by decide +kernel
theorem dX5_lookAtNumber_49 : decode cX5_lookAtNumber 49 = .ok (.aload_n 0, 1) := by decide +kernel
theorem dX5_lookAtNumber_50 : decode cX5_lookAtNumber 50 = .ok (.getfield 26, 3) := by decide +kernel
theorem dX5_lookAtNumber_53 : decode cX5_lookAtNumber 53 = .ok (.aload_n 0, 1) := by decide +kernel
theorem dX5_lookAtNumber_54 : decode cX5_lookAtNumber 54 = .ok (.getfield 29, 3) := by decide +kernel
theorem dX5_lookAtNumber_57 : decode cX5_lookAtNumber 57 = .ok (.isub, 1) := by decide +kernel
theorem dX5_lookAtNumber_58 : decode cX5_lookAtNumber 58 = .ok (.iconst 4, 1) := by decide +kernel
theorem dX5_lookAtNumber_59 : decode cX5_lookAtNumber 59 = .ok (.if_icmp .ge 27, 3) := by decide +kernel
theorem dX5_lookAtNumber_62 : decode cX5_lookAtNumber 62 = .ok (.aload_n 0, 1) := by decide +kernel
theorem dX5_lookAtNumber_63 : decode cX5_lookAtNumber 63 = .ok (.aload_n 0, 1) := by decide +kernel
theorem dX5_lookAtNumber_64 : decode cX5_lookAtNumber 64 = .ok (.getfield 35, 3) := by decide +kernel
theorem dX5_lookAtNumber_67 : decode cX5_lookAtNumber 67 = .ok (.bipush 10, 2) := by decide +kernel
theorem dX5_lookAtNumber_69 : decode cX5_lookAtNumber 69 = .ok (.imul, 1) := by decide +kernel
theorem dX5_lookAtNumber_70 : decode cX5_lookAtNumber 70 = .ok (.aload_n 0, 1) := by decide +kernel
theorem dX5_lookAtNumber_71 : decode cX5_lookAtNumber 71 = .ok (.getfield 9, 3) := by decide +kernel
theorem dX5_lookAtNumber_74 : decode cX5_lookAtNumber 74 = .ok (.aload_n 0, 1) := by decide +kernel
theorem dX5_lookAtNumber_75 : decode cX5_lookAtNumber 75 = .ok (.getfield 26, 3) := by decide +kernel
theorem dX5_lookAtNumber_78 : decode cX5_lookAtNumber 78 = .ok (.baload, 1) := by decide +kernel
theorem dX5_lookAtNumber_79 : decode cX5_lookAtNumber 79 = .ok (.bipush 48, 2) := by decide +kernel
theorem dX5_lookAtNumber_81 : decode cX5_lookAtNumber 81 = .ok (.isub, 1) := by decide +kernel
theorem dX5_lookAtNumber_82 : decode cX5_lookAtNumber 82 = .ok (.iadd, 1) := by decide +kernel
theorem dX5_lookAtNumber_83 : decode cX5_lookAtNumber 83 = .ok (.putfield 35, 3) := by decide +kernel
theorem dX5_lookAtNumber_86 : decode cX5_lookAtNumber 86 = .ok (.aload_n 0, 1) := by decide +kernel
theorem dX5_lookAtNumber_87 : decode cX5_lookAtNumber 87 = .ok (.dup, 1) := by decide +kernel
theorem dX5_lookAtNumber_88 : decode cX5_lookAtNumber 88 = .ok (.getfield 26, 3) := by decide +kernel
theorem dX5_lookAtNumber_91 : decode cX5_lookAtNumber 91 = .ok (.iconst 1, 1) := by decide +kernel
theorem dX5_lookAtNumber_92 : decode cX5_lookAtNumber 92 = .ok (.iadd, 1) := by decide +kernel
theorem dX5_lookAtNumber_93 : decode cX5_lookAtNumber 93 = .ok (.putfield 26, 3) := by decide +kernel
theorem dX5_lookAtNumber_96 : decode cX5_lookAtNumber 96 = .ok (.goto (-86), 3) := by decide +kernel
theorem dX5_lookAtNumber_99 : decode cX5_lookAtNumber 99 = .ok (.aload_n 0, 1) := by decide +kernel
theorem dX5_lookAtNumber_100 : decode cX5_lookAtNumber 100 = .ok (.getfield 26, 3) := by decide +kernel
theorem dX5_lookAtNumber_103 : decode cX5_lookAtNumber 103 = .ok (.aload_n 0, 1) := by decide +kernel
theorem dX5_lookAtNumber_104 : decode cX5_lookAtNumber 104 = .ok (.getfield 29, 3) := by decide +kernel
theorem dX5_lookAtNumber_107 : decode cX5_lookAtNumber 107 = .ok (.isub, 1) := by decide +kernel
theorem dX5_lookAtNumber_108 : decode cX5_lookAtNumber 108 = .ok (.iconst 4, 1) := by decide +kernel
theorem dX5_lookAtNumber_109 : decode cX5_lookAtNumber 109 = .ok (.if_icmp .le 8, 3) := by decide +kernel
theorem dX5_lookAtNumber_112 : decode cX5_lookAtNumber 112 = .ok (.aload_n 0, 1) := by decide +kernel
theorem dX5_lookAtNumber_113 : decode cX5_lookAtNumber 113 = .ok (.iconst 4, 1) := by decide +kernel
theorem dX5_lookAtNumber_114 : decode cX5_lookAtNumber 114 = .ok (.putfield 32, 3) := by decide +kernel
theorem dX5_lookAtNumber_117 : decode cX5_lookAtNumber 117 = .ok (.return_, 1) := by decide +kernel
theorem dX5_lookAtSign_0 : decode cX5_lookAtSign 0 = .ok (.aload_n 0, 1) := by decide +kernel
theorem dX5_lookAtSign_1 : decode cX5_lookAtSign 1 = .ok (.getfield 9, 3) := by decide +kernel
theorem dX5_lookAtSign_4 : decode cX5_lookAtSign 4 = .ok (.aload_n 0, 1) := by decide +kernel
theorem dX5_lookAtSign_5 : decode cX5_lookAtSign 5 = .ok (.getfield 29, 3) := by decide +kernel
theorem dX5_lookAtSign_8 : decode cX5_lookAtSign 8 = .ok (.baload, 1) := by decide +kernel
theorem dX5_lookAtSign_9 : decode cX5_lookAtSign 9 = .ok (.istore_n 1, 1) := by decide +kernel
theorem dX5_lookAtSign_10 : decode cX5_lookAtSign 10 = .ok (.aload_n 0, 1) := by decide +kernel
theorem dX5_lookAtSign_11 : decode cX5_lookAtSign 11 = .ok (.iload_n 1, 1) := by decide +kernel
theorem dX5_lookAtSign_12 : decode cX5_lookAtSign 12 = .ok (.bipush 59, 2) := by decide +kernel
theorem dX5_lookAtSign_14 : decode cX5_lookAtSign 14 = .ok (.if_icmp .eq 21, 3) := by decide +kernel
theorem dX5_lookAtSign_17 : decode cX5_lookAtSign 17 = .ok (.iload_n 1, 1) := by decide +kernel
theorem dX5_lookAtSign_18 : decode cX5_lookAtSign 18 = .ok (.bipush 60, 2) := by decide +kernel
theorem dX5_lookAtSign_20 : decode cX5_lookAtSign 20 = .ok (.if_icmp .eq 15, 3) := by decide +kernel
theorem dX5_lookAtSign_23 : decode cX5_lookAtSign 23 = .ok (.iload_n 1, 1) := by decide +kernel
theorem dX5_lookAtSign_24 : decode cX5_lookAtSign 24 = .ok (.bipush 62, 2) := by decide +kernel
theorem dX5_lookAtSign_26 : decode cX5_lookAtSign 26 = .ok (.if_icmp .eq 9, 3) := by decide +kernel
theorem dX5_lookAtSign_29 : decode cX5_lookAtSign 29 = .ok (.iload_n 1, 1) := by decide +kernel
theorem dX5_lookAtSign_30 : decode cX5_lookAtSign 30 = .ok (.bipush 61, 2) := by decide +kernel
theorem dX5_lookAtSign_32 : decode cX5_lookAtSign 32 = .ok (.if_icmp .ne 7, 3) := by decide +kernel
theorem dX5_lookAtSign_35 : decode cX5_lookAtSign 35 = .ok (.iconst 3, 1) := by decide +kernel
theorem dX5_lookAtSign_36 : decode cX5_lookAtSign 36 = .ok (.goto 4, 3) := by decide +kernel
theorem dX5_lookAtSign_39 : decode cX5_lookAtSign 39 = .ok (.iconst 4, 1) := by decide +kernel
theorem dX5_lookAtSign_40 : decode cX5_lookAtSign 40 = .ok (.putfield 32, 3) := by decide +kernel
theorem dX5_lookAtSign_43 : decode cX5_lookAtSign 43 = .ok (.aload_n 0, 1) := by decide +kernel
theorem dX5_lookAtSign_44 : decode cX5_lookAtSign 44 = .ok (.iload_n 1, 1) := by decide +kernel
theorem dX5_lookAtSign_45 : decode cX5_lookAtSign 45 = .ok (.putfield 35, 3) := by decide +kernel
theorem dX5_lookAtSign_48 : decode cX5_lookAtSign 48 = .ok (.aload_n 0, 1) := by decide +kernel
theorem dX5_lookAtSign_49 : decode cX5_lookAtSign 49 = .ok (.dup, 1) := by decide +kernel
theorem dX5_lookAtSign_50 : decode cX5_lookAtSign 50 = .ok (.getfield 26, 3) := by decide +kernel
theorem dX5_lookAtSign_53 : decode cX5_lookAtSign 53 = .ok (.iconst 1, 1) := by decide +kernel
theorem dX5_lookAtSign_54 : decode cX5_lookAtSign 54 = .ok (.iadd, 1) := by decide +kernel
theorem dX5_lookAtSign_55 : decode cX5_lookAtSign 55 = .ok (.putfield 26, 3) := by decide +kernel
theorem dX5_lookAtSign_58 : decode cX5_lookAtSign 58 = .ok (.return_, 1) := by decide +kernel
theorem dX5_fail_0 : decode cX5_fail 0 = .ok (.aload_n 0, 1) := by decide +kernel
theorem dX5_fail_1 : decode cX5_fail 1 = .ok (.getfield 45, 3) := by decide +kernel
theorem dX5_fail_4 : decode cX5_fail 4 = .ok (.ifCond .ne 28, 3) := by decide +kernel
theorem dX5_fail_7 : decode cX5_fail 7 = .ok (.aload_n 0, 1) := by decide +kernel
theorem dX5_fail_8 : decode cX5_fail 8 = .ok (.aload_n 0, 1) := by decide +kernel
theorem dX5_fail_9 : decode cX5_fail 9 = .ok (.getfield 32, 3) := by decide +kernel
theorem dX5_fail_12 : decode cX5_fail 12 = .ok (.iconst 4, 1) := by decide +kernel
theorem dX5_fail_13 : decode cX5_fail 13 = .ok (.if_icmp .ne 7, 3) := by decide +kernel
theorem dX5_fail_16 : decode cX5_fail 16 = .ok (.iconst 1, 1) := by decide +kernel
theorem dX5_fail_17 : decode cX5_fail 17 = .ok (.goto 4, 3) := by decide +kernel
theorem dX5_fail_20 : decode cX5_fail 20 = .ok (.iload_n 1, 1) := by decide +kernel
theorem dX5_fail_21 : decode cX5_fail 21 = .ok (.putfield 45, 3) := by decide +kernel
theorem dX5_fail_24 : decode cX5_fail 24 = .ok (.aload_n 0, 1) := by decide +kernel
theorem dX5_fail_25 : decode cX5_fail 25 = .ok (.aload_n 0, 1) := by decide +kernel
theorem dX5_fail_26 : decode cX5_fail 26 = .ok (.getfield 29, 3) := by decide +kernel
theorem dX5_fail_29 : decode cX5_fail 29 = .ok (.putfield 48, 3) := by decide +kernel
theorem dX5_fail_32 : decode cX5_fail 32 = .ok (.iconst 0, 1) := by decide +kernel
theorem dX5_fail_33 : decode cX5_fail 33 = .ok (.ireturn, 1) := by decide +kernel
theorem dX5_word_0 : decode cX5_word 0 = .ok (.aload_n 0, 1) := by decide +kernel
theorem dX5_word_1 : decode cX5_word 1 = .ok (.getfield 32, 3) := by decide +kernel
theorem dX5_word_4 : decode cX5_word 4 = .ok (.iconst 1, 1) := by decide +kernel
theorem dX5_word_5 : decode cX5_word 5 = .ok (.if_icmp .ne 10, 3) := by decide +kernel
theorem dX5_word_8 : decode cX5_word 8 = .ok (.aload_n 0, 1) := by decide +kernel
theorem dX5_word_9 : decode cX5_word 9 = .ok (.getfield 35, 3) := by decide +kernel
theorem dX5_word_12 : decode cX5_word 12 = .ok (.goto 4, 3) := by decide +kernel
theorem dX5_word_15 : decode cX5_word 15 = .ok (.iconst (-1), 1) := by decide +kernel
theorem dX5_word_16 : decode cX5_word 16 = .ok (.ireturn, 1) := by decide +kernel
theorem dX5_isName_0 : decode cX5_isName 0 = .ok (.aload_n 0, 1) := by decide +kernel
theorem dX5_isName_1 : decode cX5_isName 1 = .ok (.getfield 32, 3) := by decide +kernel
theorem dX5_isName_4 : decode cX5_isName 4 = .ok (.iconst 1, 1) := by decide +kernel
theorem dX5_isName_5 : decode cX5_isName 5 = .ok (.if_icmp .ne 24, 3) := by decide +kernel
theorem dX5_isName_8 : decode cX5_isName 8 = .ok (.aload_n 0, 1) := by decide +kernel
theorem dX5_isName_9 : decode cX5_isName 9 = .ok (.getfield 35, 3) := by decide +kernel
theorem dX5_isName_12 : decode cX5_isName 12 = .ok (.iconst (-1), 1) := by decide +kernel
theorem dX5_isName_13 : decode cX5_isName 13 = .ok (.if_icmp .ne 16, 3) := by decide +kernel
theorem dX5_isName_16 : decode cX5_isName 16 = .ok (.aload_n 0, 1) := by decide +kernel
theorem dX5_isName_17 : decode cX5_isName 17 = .ok (.getfield 38, 3) := by decide +kernel
theorem dX5_isName_20 : decode cX5_isName 20 = .ok (.lconst 0, 1) := by decide +kernel
theorem dX5_isName_21 : decode cX5_isName 21 = .ok (.lcmp, 1) := by decide +kernel
theorem dX5_isName_22 : decode cX5_isName 22 = .ok (.ifCond .eq 7, 3) := by decide +kernel
theorem dX5_isName_25 : decode cX5_isName 25 = .ok (.iconst 1, 1) := by decide +kernel
theorem dX5_isName_26 : decode cX5_isName 26 = .ok (.goto 4, 3) := by decide +kernel
theorem dX5_isName_29 : decode cX5_isName 29 = .ok (.iconst 0, 1) := by decide +kernel
theorem dX5_isName_30 : decode cX5_isName 30 = .ok (.ireturn, 1) := by decide +kernel
set_option maxRecDepth 20000 in
theorem ggX5_takeWord_X5_word : GoodIn wsX5_takeWord wsX5_word := goodIn_r _ [5, 6, 7, 31, 32, 33, 34, 35, 36, 37, 38, 39, 40, 41, 42] (by decide +kernel) (by decide +kernel)
set_option maxRecDepth 20000 in
theorem gX5_takeWord_X5_word : GoodIn wsX5_takeWord (wsV RX5 76 RX5 yX5_word wsX5_word) := goodIn_app (goodIn_of _ (by decide +kernel)) ggX5_takeWord_X5_word
set_option maxRecDepth 20000 in
theorem ggX5_takeWord_X5_advance : GoodIn wsX5_takeWord wsX5_advance := goodIn_r _ [11, 12, 13, 14, 15, 7, 16, 6, 17, 18, 19, 4, 20, 21, 22, 23, 24, 25, 26, 27, 28, 29, 30, 31, 32, 33, 34, 35, 36, 37, 38, 39, 40, 41, 42] (by decide +kernel) (by decide +kernel)
set_option maxRecDepth 20000 in
theorem gX5_takeWord_X5_advance : GoodIn wsX5_takeWord (wsV RX5 64 RX5 yX5_advance wsX5_advance) := goodIn_app (goodIn_of _ (by decide +kernel)) ggX5_takeWord_X5_advance
theorem dX5_takeWord_0 : decode cX5_takeWord 0 = .ok (.aload_n 0, 1) := by decide +kernel
theorem dX5_takeWord_1 : decode cX5_takeWord 1 = .ok (.invokevirtual 76, 3) := by decide +kernel
theorem dX5_takeWord_4 : decode cX5_takeWord 4 = .ok (.iload_n 1, 1) := by decide +kernel
theorem dX5_takeWord_5 : decode cX5_takeWord 5 = .ok (.if_icmp .eq 5, 3) := by decide +kernel
theorem dX5_takeWord_8 : decode cX5_takeWord 8 = .ok (.iconst 0, 1) := by decide +kernel
theorem dX5_takeWord_9 : decode cX5_takeWord 9 = .ok (.ireturn, 1) := by decide +kernel
theorem dX5_takeWord_10 : decode cX5_takeWord 10 = .ok (.aload_n 0, 1) := by decide +kernel
theorem dX5_takeWord_11 : decode cX5_takeWord 11 = .ok (.invokevirtual 64, 3) := by decide +kernel
theorem dX5_takeWord_14 : decode cX5_takeWord 14 = .ok (.iconst 1, 1) := by decide +kernel
theorem dX5_takeWord_15 : decode cX5_takeWord 15 = .ok (.ireturn, 1) := by decide +kernel
set_option maxRecDepth 20000 in
theorem ggX5_needWord_X5_takeWord : GoodIn wsX5_needWord wsX5_takeWord := goodIn_r _ [5, 6, 7, 8, 4, 9, 10, 11, 12, 13, 14, 15, 16, 17, 18, 19, 20, 21, 22, 23, 24, 25, 26, 27, 28, 29, 30, 31, 32, 33, 34, 41, 42, 43, 44, 45, 46, 47, 48, 49, 50, 51, 52] (by decide +kernel) (by decide +kernel)
set_option maxRecDepth 20000 in
theorem gX5_needWord_X5_takeWord : GoodIn wsX5_needWord (wsV RX5 79 RX5 yX5_takeWord wsX5_takeWord) := goodIn_app (goodIn_of _ (by decide +kernel)) ggX5_needWord_X5_takeWord
set_option maxRecDepth 20000 in
theorem ggX5_needWord_X5_fail : GoodIn wsX5_needWord wsX5_fail := goodIn_r _ [38, 39, 10, 19, 40, 41, 42, 43, 44, 45, 46, 47, 48, 49, 50, 51, 52] (by decide +kernel) (by decide +kernel)
set_option maxRecDepth 20000 in
theorem gX5_needWord_X5_fail : GoodIn wsX5_needWord (wsV RX5 83 RX5 yX5_fail wsX5_fail) := goodIn_app (goodIn_of _ (by decide +kernel)) ggX5_needWord_X5_fail
theorem dX5_needWord_0 : decode cX5_needWord 0 = .ok (.aload_n 0, 1) := by decide +kernel
theorem dX5_needWord_1 : decode cX5_needWord 1 = .ok (.iload_n 1, 1) := by decide +kernel
theorem dX5_needWord_2 : decode cX5_needWord 2 = .ok (.invokevirtual 79, 3) := by decide +kernel
theorem dX5_needWord_5 : decode cX5_needWord 5 = .ok (.ifCond .ne 11, 3) := by decide +kernel
theorem dX5_needWord_8 : decode cX5_needWord 8 = .ok (.aload_n 0, 1) := by decide +kernel
theorem dX5_needWord_9 : decode cX5_needWord 9 = .ok (.iconst 2, 1) := by decide +kernel
theorem dX5_needWord_10 : decode cX5_needWord 10 = .ok (.invokevirtual 83, 3) := by decide +kernel
theorem dX5_needWord_13 : decode cX5_needWord 13 = .ok (.ifCond .eq 7, 3) := by decide +kernel
theorem dX5_needWord_16 : decode cX5_needWord 16 = .ok (.iconst 1, 1) := by decide +kernel
theorem dX5_needWord_17 : decode cX5_needWord 17 = .ok (.goto 4, 3) := by decide +kernel
theorem dX5_needWord_20 : decode cX5_needWord 20 = .ok (.iconst 0, 1) := by decide +kernel
theorem dX5_needWord_21 : decode cX5_needWord 21 = .ok (.ireturn, 1) := by decide +kernel
set_option maxRecDepth 20000 in
theorem ggX5_needStop_X5_fail : GoodIn wsX5_needStop wsX5_fail := goodIn_r _ [7, 8, 1, 9, 10, 33, 34, 35, 36, 37, 38, 39, 40, 41, 42, 43, 44] (by decide +kernel) (by decide +kernel)
set_option maxRecDepth 20000 in
theorem gX5_needStop_X5_fail : GoodIn wsX5_needStop (wsV RX5 83 RX5 yX5_fail wsX5_fail) := goodIn_app (goodIn_of _ (by decide +kernel)) ggX5_needStop_X5_fail
set_option maxRecDepth 20000 in
theorem ggX5_needStop_X5_advance : GoodIn wsX5_needStop wsX5_advance := goodIn_r _ [14, 15, 16, 17, 9, 2, 18, 1, 19, 20, 21, 6, 22, 23, 24, 25, 26, 27, 28, 29, 30, 31, 32, 33, 34, 35, 36, 37, 38, 39, 40, 41, 42, 43, 44] (by decide +kernel) (by decide +kernel)
set_option maxRecDepth 20000 in
theorem gX5_needStop_X5_advance : GoodIn wsX5_needStop (wsV RX5 64 RX5 yX5_advance wsX5_advance) := goodIn_app (goodIn_of _ (by decide +kernel)) ggX5_needStop_X5_advance
theorem dX5_needStop_0 : decode cX5_needStop 0 = .ok (.aload_n 0, 1) := by decide +kernel
theorem dX5_needStop_1 : decode cX5_needStop 1 = .ok (.getfield 32, 3) := by decide +kernel
theorem dX5_needStop_4 : decode cX5_needStop 4 = .ok (.iconst 3, 1) := by decide +kernel
theorem dX5_needStop_5 : decode cX5_needStop 5 = .ok (.if_icmp .ne 12, 3) := by decide +kernel
theorem dX5_needStop_8 : decode cX5_needStop 8 = .ok (.aload_n 0, 1) := by decide +kernel
theorem dX5_needStop_9 : decode cX5_needStop 9 = .ok (.getfield 35, 3) := by decide +kernel
theorem dX5_needStop_12 : decode cX5_needStop 12 = .ok (.bipush 59, 2) := by decide +kernel
theorem dX5_needStop_14 : decode cX5_needStop 14 = .ok (.if_icmp .eq 9, 3) := by decide +kernel
theorem dX5_needStop_17 : decode cX5_needStop 17 = .ok (.aload_n 0, 1) := by decide +kernel
theorem dX5_needStop_18 : decode cX5_needStop 18 = .ok (.iconst 2, 1) := by decide +kernel
theorem dX5_needStop_19 : decode cX5_needStop 19 = .ok (.invokevirtual 83, 3) := by decide +kernel
theorem dX5_needStop_22 : decode cX5_needStop 22 = .ok (.ireturn, 1) := by decide +kernel
theorem dX5_needStop_23 : decode cX5_needStop 23 = .ok (.aload_n 0, 1) := by decide +kernel
theorem dX5_needStop_24 : decode cX5_needStop 24 = .ok (.invokevirtual 64, 3) := by decide +kernel
theorem dX5_needStop_27 : decode cX5_needStop 27 = .ok (.iconst 1, 1) := by decide +kernel
theorem dX5_needStop_28 : decode cX5_needStop 28 = .ok (.ireturn, 1) := by decide +kernel
set_option maxRecDepth 20000 in
theorem ggX5_needCompares_X5_fail : GoodIn wsX5_needCompares wsX5_fail := goodIn_r _ [8, 9, 1, 10, 11, 34, 35, 36, 37, 38, 39, 40, 41, 42, 43, 44, 45] (by decide +kernel) (by decide +kernel)
set_option maxRecDepth 20000 in
theorem gX5_needCompares_X5_fail : GoodIn wsX5_needCompares (wsV RX5 83 RX5 yX5_fail wsX5_fail) := goodIn_app (goodIn_of _ (by decide +kernel)) ggX5_needCompares_X5_fail
set_option maxRecDepth 20000 in
theorem ggX5_needCompares_X5_advance : GoodIn wsX5_needCompares wsX5_advance := goodIn_r _ [15, 16, 17, 18, 10, 2, 19, 1, 20, 21, 22, 7, 23, 24, 25, 26, 27, 28, 29, 30, 31, 32, 33, 34, 35, 36, 37, 38, 39, 40, 41, 42, 43, 44, 45] (by decide +kernel) (by decide +kernel)
set_option maxRecDepth 20000 in
theorem gX5_needCompares_X5_advance : GoodIn wsX5_needCompares (wsV RX5 64 RX5 yX5_advance wsX5_advance) := goodIn_app (goodIn_of _ (by decide +kernel)) ggX5_needCompares_X5_advance
theorem dX5_needCompares_0 : decode cX5_needCompares 0 = .ok (.aload_n 0, 1) := by decide +kernel
theorem dX5_needCompares_1 : decode cX5_needCompares 1 = .ok (.getfield 32, 3) := by decide +kernel
theorem dX5_needCompares_4 : decode cX5_needCompares 4 = .ok (.iconst 3, 1) := by decide +kernel
theorem dX5_needCompares_5 : decode cX5_needCompares 5 = .ok (.if_icmp .ne 12, 3) := by decide +kernel
theorem dX5_needCompares_8 : decode cX5_needCompares 8 = .ok (.aload_n 0, 1) := by decide +kernel
theorem dX5_needCompares_9 : decode cX5_needCompares 9 = .ok (.getfield 35, 3) := by decide +kernel
theorem dX5_needCompares_12 : decode cX5_needCompares 12 = .ok (.bipush 59, 2) := by decide +kernel
theorem dX5_needCompares_14 : decode cX5_needCompares 14 = .ok (.if_icmp .ne 9, 3) := by decide +kernel
theorem dX5_needCompares_17 : decode cX5_needCompares 17 = .ok (.aload_n 0, 1) := by decide +kernel
theorem dX5_needCompares_18 : decode cX5_needCompares 18 = .ok (.iconst 2, 1) := by decide +kernel
theorem dX5_needCompares_19 : decode cX5_needCompares 19 = .ok (.invokevirtual 83, 3) := by decide +kernel
theorem dX5_needCompares_22 : decode cX5_needCompares 22 = .ok (.ireturn, 1) := by decide +kernel
theorem dX5_needCompares_23 : decode cX5_needCompares 23 = .ok (.aload_n 0, 1) := by decide +kernel
theorem dX5_needCompares_24 : decode cX5_needCompares 24 = .ok (.aload_n 0, 1) := by decide +kernel
theorem dX5_needCompares_25 : decode cX5_needCompares 25 = .ok (.getfield 35, 3) := by decide +kernel
theorem dX5_needCompares_28 : decode cX5_needCompares 28 = .ok (.putfield 42, 3) := by decide +kernel
theorem dX5_needCompares_31 : decode cX5_needCompares 31 = .ok (.aload_n 0, 1) := by decide +kernel
theorem dX5_needCompares_32 : decode cX5_needCompares 32 = .ok (.invokevirtual 64, 3) := by decide +kernel
theorem dX5_needCompares_35 : decode cX5_needCompares 35 = .ok (.iconst 1, 1) := by decide +kernel
theorem dX5_needCompares_36 : decode cX5_needCompares 36 = .ok (.ireturn, 1) := by decide +kernel
set_option maxRecDepth 20000 in
theorem ggX5_needNumber_X5_fail : GoodIn wsX5_needNumber wsX5_fail := goodIn_r _ [8, 9, 1, 10, 11, 34, 35, 36, 37, 38, 39, 40, 41, 42, 43, 44, 45] (by decide +kernel) (by decide +kernel)
set_option maxRecDepth 20000 in
theorem gX5_needNumber_X5_fail : GoodIn wsX5_needNumber (wsV RX5 83 RX5 yX5_fail wsX5_fail) := goodIn_app (goodIn_of _ (by decide +kernel)) ggX5_needNumber_X5_fail
set_option maxRecDepth 20000 in
theorem ggX5_needNumber_X5_advance : GoodIn wsX5_needNumber wsX5_advance := goodIn_r _ [15, 16, 17, 18, 10, 2, 19, 1, 20, 21, 22, 7, 23, 24, 25, 26, 27, 28, 29, 30, 31, 32, 33, 34, 35, 36, 37, 38, 39, 40, 41, 42, 43, 44, 45] (by decide +kernel) (by decide +kernel)
set_option maxRecDepth 20000 in
theorem gX5_needNumber_X5_advance : GoodIn wsX5_needNumber (wsV RX5 64 RX5 yX5_advance wsX5_advance) := goodIn_app (goodIn_of _ (by decide +kernel)) ggX5_needNumber_X5_advance
theorem dX5_needNumber_0 : decode cX5_needNumber 0 = .ok (.aload_n 0, 1) := by decide +kernel
theorem dX5_needNumber_1 : decode cX5_needNumber 1 = .ok (.getfield 32, 3) := by decide +kernel
theorem dX5_needNumber_4 : decode cX5_needNumber 4 = .ok (.iconst 2, 1) := by decide +kernel
theorem dX5_needNumber_5 : decode cX5_needNumber 5 = .ok (.if_icmp .eq 9, 3) := by decide +kernel
theorem dX5_needNumber_8 : decode cX5_needNumber 8 = .ok (.aload_n 0, 1) := by decide +kernel
theorem dX5_needNumber_9 : decode cX5_needNumber 9 = .ok (.iconst 2, 1) := by decide +kernel
theorem dX5_needNumber_10 : decode cX5_needNumber 10 = .ok (.invokevirtual 83, 3) := by decide +kernel
theorem dX5_needNumber_13 : decode cX5_needNumber 13 = .ok (.ireturn, 1) := by decide +kernel
theorem dX5_needNumber_14 : decode cX5_needNumber 14 = .ok (.aload_n 0, 1) := by decide +kernel
theorem dX5_needNumber_15 : decode cX5_needNumber 15 = .ok (.getfield 35, 3) := by decide +kernel
theorem dX5_needNumber_18 : decode cX5_needNumber 18 = .ok (.iload_n 1, 1) := by decide +kernel
theorem dX5_needNumber_19 : decode cX5_needNumber 19 = .ok (.if_icmp .lt 11, 3) := by decide +kernel
theorem dX5_needNumber_22 : decode cX5_needNumber 22 = .ok (.aload_n 0, 1) := by decide +kernel
theorem dX5_needNumber_23 : decode cX5_needNumber 23 = .ok (.getfield 35, 3) := by decide +kernel
theorem dX5_needNumber_26 : decode cX5_needNumber 26 = .ok (.iload_n 2, 1) := by decide +kernel
theorem dX5_needNumber_27 : decode cX5_needNumber 27 = .ok (.if_icmp .le 9, 3) := by decide +kernel
theorem dX5_needNumber_30 : decode cX5_needNumber 30 = .ok (.aload_n 0, 1) := by decide +kernel
theorem dX5_needNumber_31 : decode cX5_needNumber 31 = .ok (.iconst 4, 1) := by decide +kernel
theorem dX5_needNumber_32 : decode cX5_needNumber 32 = .ok (.invokevirtual 83, 3) := by decide +kernel
theorem dX5_needNumber_35 : decode cX5_needNumber 35 = .ok (.ireturn, 1) := by decide +kernel
theorem dX5_needNumber_36 : decode cX5_needNumber 36 = .ok (.aload_n 0, 1) := by decide +kernel
theorem dX5_needNumber_37 : decode cX5_needNumber 37 = .ok (.aload_n 0, 1) := by decide +kernel
theorem dX5_needNumber_38 : decode cX5_needNumber 38 = .ok (.getfield 35, 3) := by decide +kernel
theorem dX5_needNumber_41 : decode cX5_needNumber 41 = .ok (.putfield 42, 3) := by decide +kernel
theorem dX5_needNumber_44 : decode cX5_needNumber 44 = .ok (.aload_n 0, 1) := by decide +kernel
theorem dX5_needNumber_45 : decode cX5_needNumber 45 = .ok (.invokevirtual 64, 3) := by decide +kernel
theorem dX5_needNumber_48 : decode cX5_needNumber 48 = .ok (.iconst 1, 1) := by decide +kernel
theorem dX5_needNumber_49 : decode cX5_needNumber 49 = .ok (.ireturn, 1) := by decide +kernel
set_option maxRecDepth 20000 in
theorem ggX5_needEither_X5_takeWord : GoodIn wsX5_needEither wsX5_takeWord := goodIn_r _ [6, 7, 8, 9, 5, 10, 11, 12, 13, 14, 15, 16, 17, 18, 19, 20, 21, 22, 23, 24, 25, 26, 27, 28, 29, 30, 31, 32, 33, 34, 35, 46, 47, 48, 49, 50, 51, 52, 53, 54, 55, 56, 57] (by decide +kernel) (by decide +kernel)
set_option maxRecDepth 20000 in
theorem gX5_needEither_X5_takeWord : GoodIn wsX5_needEither (wsV RX5 79 RX5 yX5_takeWord wsX5_takeWord) := goodIn_app (goodIn_of _ (by decide +kernel)) ggX5_needEither_X5_takeWord
set_option maxRecDepth 20000 in
theorem ggX5_needEither_X5_needNumber : GoodIn wsX5_needEither wsX5_needNumber := goodIn_r _ [39, 11, 12, 1, 40, 41, 42, 5, 43, 44, 20, 45, 13, 14, 15, 16, 17, 18, 19, 21, 22, 23, 24, 25, 26, 27, 28, 29, 30, 31, 32, 33, 34, 35, 46, 47, 48, 49, 50, 51, 52, 53, 54, 55, 56, 57] (by decide +kernel) (by decide +kernel)
set_option maxRecDepth 20000 in
theorem gX5_needEither_X5_needNumber : GoodIn wsX5_needEither (wsV RX5 86 RX5 yX5_needNumber wsX5_needNumber) := goodIn_app (goodIn_of _ (by decide +kernel)) ggX5_needEither_X5_needNumber
theorem dX5_needEither_0 : decode cX5_needEither 0 = .ok (.aload_n 0, 1) := by decide +kernel
theorem dX5_needEither_1 : decode cX5_needEither 1 = .ok (.iconst 2, 1) := by decide +kernel
theorem dX5_needEither_2 : decode cX5_needEither 2 = .ok (.invokevirtual 79, 3) := by decide +kernel
theorem dX5_needEither_5 : decode cX5_needEither 5 = .ok (.istore_n 2, 1) := by decide +kernel
theorem dX5_needEither_6 : decode cX5_needEither 6 = .ok (.aload_n 0, 1) := by decide +kernel
theorem dX5_needEither_7 : decode cX5_needEither 7 = .ok (.iconst 0, 1) := by decide +kernel
theorem dX5_needEither_8 : decode cX5_needEither 8 = .ok (.iload_n 1, 1) := by decide +kernel
theorem dX5_needEither_9 : decode cX5_needEither 9 = .ok (.invokevirtual 86, 3) := by decide +kernel
theorem dX5_needEither_12 : decode cX5_needEither 12 = .ok (.ifCond .ne 5, 3) := by decide +kernel
theorem dX5_needEither_15 : decode cX5_needEither 15 = .ok (.iconst 0, 1) := by decide +kernel
theorem dX5_needEither_16 : decode cX5_needEither 16 = .ok (.ireturn, 1) := by decide +kernel
theorem dX5_needEither_17 : decode cX5_needEither 17 = .ok (.aload_n 0, 1) := by decide +kernel
theorem dX5_needEither_18 : decode cX5_needEither 18 = .ok (.iload_n 2, 1) := by decide +kernel
theorem dX5_needEither_19 : decode cX5_needEither 19 = .ok (.ifCond .eq 11, 3) := by decide +kernel
theorem dX5_needEither_22 : decode cX5_needEither 22 = .ok (.aload_n 0, 1) := by decide +kernel
theorem dX5_needEither_23 : decode cX5_needEither 23 = .ok (.getfield 42, 3) := by decide +kernel
theorem dX5_needEither_26 : decode cX5_needEither 26 = .ok (.ineg, 1) := by decide +kernel
theorem dX5_needEither_27 : decode cX5_needEither 27 = .ok (.goto 7, 3) := by decide +kernel
theorem dX5_needEither_30 : decode cX5_needEither 30 = .ok (.aload_n 0, 1) := by decide +kernel
theorem dX5_needEither_31 : decode cX5_needEither 31 = .ok (.getfield 42, 3) := by decide +kernel
theorem dX5_needEither_34 : decode cX5_needEither 34 = .ok (.putfield 42, 3) := by decide +kernel
theorem dX5_needEither_37 : decode cX5_needEither 37 = .ok (.iconst 1, 1) := by decide +kernel
theorem dX5_needEither_38 : decode cX5_needEither 38 = .ok (.ireturn, 1) := by decide +kernel
set_option maxRecDepth 20000 in
theorem ggX5_seeKnown_X5_isName : GoodIn wsX5_seeKnown wsX5_isName := goodIn_r _ [7, 8, 9, 1, 24, 25, 26, 27, 28, 29, 30, 31, 32, 33, 34, 35] (by decide +kernel) (by decide +kernel)
set_option maxRecDepth 20000 in
theorem gX5_seeKnown_X5_isName : GoodIn wsX5_seeKnown (wsV RX5 90 RX5 yX5_isName wsX5_isName) := goodIn_app (goodIn_of _ (by decide +kernel)) ggX5_seeKnown_X5_isName
set_option maxRecDepth 20000 in
theorem ggX5_seeKnown_X5_fail : GoodIn wsX5_seeKnown wsX5_fail := goodIn_r _ [13, 14, 8, 15, 16, 24, 25, 26, 27, 28, 29, 30, 31, 32, 33, 34, 35] (by decide +kernel) (by decide +kernel)
set_option maxRecDepth 20000 in
theorem gX5_seeKnown_X5_fail : GoodIn wsX5_seeKnown (wsV RX5 83 RX5 yX5_fail wsX5_fail) := goodIn_app (goodIn_of _ (by decide +kernel)) ggX5_seeKnown_X5_fail
set_option maxRecDepth 20000 in
theorem ggX5_seeKnown_X1_find : GoodIn wsX5_seeKnown wsX1_find := goodIn_r _ [21, 22, 23, 36, 37, 38, 39, 40, 41, 42, 43, 44, 45, 46, 47, 48] (by decide +kernel) (by decide +kernel)
set_option maxRecDepth 20000 in
theorem gX5_seeKnown_X1_find : GoodIn wsX5_seeKnown (wsV RX5 94 RX1 yX1_find wsX1_find) := goodIn_app (goodIn_of _ (by decide +kernel)) ggX5_seeKnown_X1_find
theorem dX5_seeKnown_0 : decode cX5_seeKnown 0 = .ok (.aload_n 0, 1) := by decide +kernel
theorem dX5_seeKnown_1 : decode cX5_seeKnown 1 = .ok (.invokevirtual 90, 3) := by decide +kernel
theorem dX5_seeKnown_4 : decode cX5_seeKnown 4 = .ok (.ifCond .ne 9, 3) := by decide +kernel
theorem dX5_seeKnown_7 : decode cX5_seeKnown 7 = .ok (.aload_n 0, 1) := by decide +kernel
theorem dX5_seeKnown_8 : decode cX5_seeKnown 8 = .ok (.iconst 2, 1) := by decide +kernel
theorem dX5_seeKnown_9 : decode cX5_seeKnown 9 = .ok (.invokevirtual 83, 3) := by decide +kernel
theorem dX5_seeKnown_12 : decode cX5_seeKnown 12 = .ok (.ireturn, 1) := by decide +kernel
theorem dX5_seeKnown_13 : decode cX5_seeKnown 13 = .ok (.aload_n 0, 1) := by decide +kernel
theorem dX5_seeKnown_14 : decode cX5_seeKnown 14 = .ok (.aload_n 1, 1) := by decide +kernel
theorem dX5_seeKnown_15 : decode cX5_seeKnown 15 = .ok (.iload_n 2, 1) := by decide +kernel
theorem dX5_seeKnown_16 : decode cX5_seeKnown 16 = .ok (.aload_n 0, 1) := by decide +kernel
theorem dX5_seeKnown_17 : decode cX5_seeKnown 17 = .ok (.getfield 38, 3) := by decide +kernel
theorem dX5_seeKnown_20 : decode cX5_seeKnown 20 = .ok (.invokevirtual 94, 3) := by decide +kernel
theorem dX5_seeKnown_23 : decode cX5_seeKnown 23 = .ok (.putfield 42, 3) := by decide +kernel
theorem dX5_seeKnown_26 : decode cX5_seeKnown 26 = .ok (.aload_n 0, 1) := by decide +kernel
theorem dX5_seeKnown_27 : decode cX5_seeKnown 27 = .ok (.getfield 42, 3) := by decide +kernel
theorem dX5_seeKnown_30 : decode cX5_seeKnown 30 = .ok (.iconst (-1), 1) := by decide +kernel
theorem dX5_seeKnown_31 : decode cX5_seeKnown 31 = .ok (.if_icmp .ne 11, 3) := by decide +kernel
theorem dX5_seeKnown_34 : decode cX5_seeKnown 34 = .ok (.aload_n 0, 1) := by decide +kernel
theorem dX5_seeKnown_35 : decode cX5_seeKnown 35 = .ok (.iconst 3, 1) := by decide +kernel
theorem dX5_seeKnown_36 : decode cX5_seeKnown 36 = .ok (.invokevirtual 83, 3) := by decide +kernel
theorem dX5_seeKnown_39 : decode cX5_seeKnown 39 = .ok (.ifCond .eq 7, 3) := by decide +kernel
theorem dX5_seeKnown_42 : decode cX5_seeKnown 42 = .ok (.iconst 1, 1) := by decide +kernel
theorem dX5_seeKnown_43 : decode cX5_seeKnown 43 = .ok (.goto 4, 3) := by decide +kernel
theorem dX5_seeKnown_46 : decode cX5_seeKnown 46 = .ok (.iconst 0, 1) := by decide +kernel
theorem dX5_seeKnown_47 : decode cX5_seeKnown 47 = .ok (.ireturn, 1) := by decide +kernel
set_option maxRecDepth 20000 in
theorem ggX5_needKnown_X5_seeKnown : GoodIn wsX5_needKnown wsX5_seeKnown := goodIn_r _ [5, 6, 7, 8, 9, 10, 4, 11, 12, 13, 14, 15, 16, 17, 18, 19, 20, 21, 22, 23, 24, 25, 26, 27, 49, 50, 51, 52, 53, 54, 55, 56, 57, 58, 59, 60, 61, 62, 63, 64, 65, 66, 67, 68, 69, 70, 71, 72, 73] (by decide +kernel) (by decide +kernel)
set_option maxRecDepth 20000 in
theorem gX5_needKnown_X5_seeKnown : GoodIn wsX5_needKnown (wsV RX5 100 RX5 yX5_seeKnown wsX5_seeKnown) := goodIn_app (goodIn_of _ (by decide +kernel)) ggX5_needKnown_X5_seeKnown
set_option maxRecDepth 20000 in
theorem ggX5_needKnown_X5_advance : GoodIn wsX5_needKnown wsX5_advance := goodIn_r _ [31, 32, 33, 34, 19, 13, 6, 12, 35, 36, 37, 4, 38, 39, 40, 41, 42, 43, 44, 45, 46, 47, 48, 49, 50, 51, 52, 53, 54, 55, 56, 57, 58, 59, 60] (by decide +kernel) (by decide +kernel)
set_option maxRecDepth 20000 in
theorem gX5_needKnown_X5_advance : GoodIn wsX5_needKnown (wsV RX5 64 RX5 yX5_advance wsX5_advance) := goodIn_app (goodIn_of _ (by decide +kernel)) ggX5_needKnown_X5_advance
theorem dX5_needKnown_0 : decode cX5_needKnown 0 = .ok (.aload_n 0, 1) := by decide +kernel
theorem dX5_needKnown_1 : decode cX5_needKnown 1 = .ok (.aload_n 1, 1) := by decide +kernel
theorem dX5_needKnown_2 : decode cX5_needKnown 2 = .ok (.iload_n 2, 1) := by decide +kernel
theorem dX5_needKnown_3 : decode cX5_needKnown 3 = .ok (.invokevirtual 100, 3) := by decide +kernel
theorem dX5_needKnown_6 : decode cX5_needKnown 6 = .ok (.ifCond .ne 5, 3) := by decide +kernel
theorem dX5_needKnown_9 : decode cX5_needKnown 9 = .ok (.iconst 0, 1) := by decide +kernel
theorem dX5_needKnown_10 : decode cX5_needKnown 10 = .ok (.ireturn, 1) := by decide +kernel
theorem dX5_needKnown_11 : decode cX5_needKnown 11 = .ok (.aload_n 0, 1) := by decide +kernel
theorem dX5_needKnown_12 : decode cX5_needKnown 12 = .ok (.invokevirtual 64, 3) := by decide +kernel
theorem dX5_needKnown_15 : decode cX5_needKnown 15 = .ok (.iconst 1, 1) := by decide +kernel
theorem dX5_needKnown_16 : decode cX5_needKnown 16 = .ok (.ireturn, 1) := by decide +kernel
theorem dX6_init_0 : decode cX6_init 0 = .ok (.aload_n 0, 1) := by decide +kernel
theorem dX6_init_1 : decode cX6_init 1 = .ok (.invokespecial 3, 3) := by decide +kernel
theorem dX6_init_4 : decode cX6_init 4 = .ok (.aload_n 0, 1) := by decide +kernel
theorem dX6_init_5 : decode cX6_init 5 = .ok (.iconst 4, 1) := by decide +kernel
theorem dX6_init_6 : decode cX6_init 6 = .ok (.bipush 60, 2) := by decide +kernel
theorem dX6_init_8 : decode cX6_init 8 = .ok (.multianewarray 9 2, 4) := by decide +kernel
theorem dX6_init_12 : decode cX6_init 12 = .ok (.putfield 11, 3) := by decide +kernel
theorem dX6_init_15 : decode cX6_init 15 = .ok (.aload_n 0, 1) := by decide +kernel
theorem dX6_init_16 : decode cX6_init 16 = .ok (.iconst 4, 1) := by decide +kernel
theorem dX6_init_17 : decode cX6_init 17 = .ok (.newarray .int, 2) := by decide +kernel
theorem dX6_init_19 : decode cX6_init 19 = .ok (.dup, 1) := by decide +kernel
theorem dX6_init_20 : decode cX6_init 20 = .ok (.iconst 0, 1) := by decide +kernel
theorem dX6_init_21 : decode cX6_init 21 = .ok (.iconst (-1), 1) := by decide +kernel
theorem dX6_init_22 : decode cX6_init 22 = .ok (.iastore, 1) := by decide +kernel
theorem dX6_init_23 : decode cX6_init 23 = .ok (.dup, 1) := by decide +kernel
theorem dX6_init_24 : decode cX6_init 24 = .ok (.iconst 1, 1) := by decide +kernel
theorem dX6_init_25 : decode cX6_init 25 = .ok (.iconst (-1), 1) := by decide +kernel
theorem dX6_init_26 : decode cX6_init 26 = .ok (.iastore, 1) := by decide +kernel
theorem dX6_init_27 : decode cX6_init 27 = .ok (.dup, 1) := by decide +kernel
theorem dX6_init_28 : decode cX6_init 28 = .ok (.iconst 2, 1) := by decide +kernel
theorem dX6_init_29 : decode cX6_init 29 = .ok (.iconst (-1), 1) := by decide +kernel
theorem dX6_init_30 : decode cX6_init 30 = .ok (.iastore, 1) := by decide +kernel
theorem dX6_init_31 : decode cX6_init 31 = .ok (.dup, 1) := by decide +kernel
theorem dX6_init_32 : decode cX6_init 32 = .ok (.iconst 3, 1) := by decide +kernel
theorem dX6_init_33 : decode cX6_init 33 = .ok (.iconst (-1), 1) := by decide +kernel
theorem dX6_init_34 : decode cX6_init 34 = .ok (.iastore, 1) := by decide +kernel
theorem dX6_init_35 : decode cX6_init 35 = .ok (.putfield 16, 3) := by decide +kernel
theorem dX6_init_38 : decode cX6_init 38 = .ok (.aload_n 0, 1) := by decide +kernel
theorem dX6_init_39 : decode cX6_init 39 = .ok (.iconst 4, 1) := by decide +kernel
theorem dX6_init_40 : decode cX6_init 40 = .ok (.newarray .int, 2) := by decide +kernel
theorem dX6_init_42 : decode cX6_init 42 = .ok (.putfield 20, 3) := by decide +kernel
theorem dX6_init_45 : decode cX6_init 45 = .ok (.return_, 1) := by decide +kernel
theorem dX6_isMissing_0 : decode cX6_isMissing 0 = .ok (.aload_n 0, 1) := by decide +kernel
theorem dX6_isMissing_1 : decode cX6_isMissing 1 = .ok (.getfield 16, 3) := by decide +kernel
theorem dX6_isMissing_4 : decode cX6_isMissing 4 = .ok (.iload_n 1, 1) := by decide +kernel
theorem dX6_isMissing_5 : decode cX6_isMissing 5 = .ok (.iaload, 1) := by decide +kernel
theorem dX6_isMissing_6 : decode cX6_isMissing 6 = .ok (.ifCond .ge 7, 3) := by decide +kernel
theorem dX6_isMissing_9 : decode cX6_isMissing 9 = .ok (.iconst 1, 1) := by decide +kernel
theorem dX6_isMissing_10 : decode cX6_isMissing 10 = .ok (.goto 4, 3) := by decide +kernel
theorem dX6_isMissing_13 : decode cX6_isMissing 13 = .ok (.iconst 0, 1) := by decide +kernel
theorem dX6_isMissing_14 : decode cX6_isMissing 14 = .ok (.ireturn, 1) := by decide +kernel
theorem dX6_holds_0 : decode cX6_holds 0 = .ok (.iload_n 2, 1) := by decide +kernel
theorem dX6_holds_1 : decode cX6_holds 1 = .ok (.ifCond .lt 29, 3) := by decide +kernel
theorem dX6_holds_4 : decode cX6_holds 4 = .ok (.iload_n 3, 1) := by decide +kernel
theorem dX6_holds_5 : decode cX6_holds 5 = .ok (.aload_n 0, 1) := by decide +kernel
theorem dX6_holds_6 : decode cX6_holds 6 = .ok (.getfield 16, 3) := by decide +kernel
theorem dX6_holds_9 : decode cX6_holds 9 = .ok (.iload_n 1, 1) := by decide +kernel
theorem dX6_holds_10 : decode cX6_holds 10 = .ok (.iaload, 1) := by decide +kernel
theorem dX6_holds_11 : decode cX6_holds 11 = .ok (.if_icmp .gt 19, 3) := by decide +kernel
theorem dX6_holds_14 : decode cX6_holds 14 = .ok (.iload_n 2, 1) := by decide +kernel
theorem dX6_holds_15 : decode cX6_holds 15 = .ok (.aload_n 0, 1) := by decide +kernel
theorem dX6_holds_16 : decode cX6_holds 16 = .ok (.getfield 16, 3) := by decide +kernel
theorem dX6_holds_19 : decode cX6_holds 19 = .ok (.iload_n 1, 1) := by decide +kernel
theorem dX6_holds_20 : decode cX6_holds 20 = .ok (.iaload, 1) := by decide +kernel
theorem dX6_holds_21 : decode cX6_holds 21 = .ok (.iload_n 3, 1) := by decide +kernel
theorem dX6_holds_22 : decode cX6_holds 22 = .ok (.isub, 1) := by decide +kernel
theorem dX6_holds_23 : decode cX6_holds 23 = .ok (.if_icmp .gt 7, 3) := by decide +kernel
theorem dX6_holds_26 : decode cX6_holds 26 = .ok (.iconst 1, 1) := by decide +kernel
theorem dX6_holds_27 : decode cX6_holds 27 = .ok (.goto 4, 3) := by decide +kernel
theorem dX6_holds_30 : decode cX6_holds 30 = .ok (.iconst 0, 1) := by decide +kernel
theorem dX6_holds_31 : decode cX6_holds 31 = .ok (.ireturn, 1) := by decide +kernel
theorem dX6_lay_0 : decode cX6_lay 0 = .ok (.aload_n 0, 1) := by decide +kernel
theorem dX6_lay_1 : decode cX6_lay 1 = .ok (.getfield 16, 3) := by decide +kernel
theorem dX6_lay_4 : decode cX6_lay 4 = .ok (.iload_n 1, 1) := by decide +kernel
theorem dX6_lay_5 : decode cX6_lay 5 = .ok (.iload_n 3, 1) := by decide +kernel
theorem dX6_lay_6 : decode cX6_lay 6 = .ok (.iastore, 1) := by decide +kernel
theorem dX6_lay_7 : decode cX6_lay 7 = .ok (.aload_n 0, 1) := by decide +kernel
theorem dX6_lay_8 : decode cX6_lay 8 = .ok (.getfield 20, 3) := by decide +kernel
theorem dX6_lay_11 : decode cX6_lay 11 = .ok (.iload_n 1, 1) := by decide +kernel
theorem dX6_lay_12 : decode cX6_lay 12 = .ok (.iload_n 2, 1) := by decide +kernel
theorem dX6_lay_13 : decode cX6_lay 13 = .ok (.iastore, 1) := by decide +kernel
theorem dX6_lay_14 : decode cX6_lay 14 = .ok (.iconst 0, 1) := by decide +kernel
theorem dX6_lay_15 : decode cX6_lay 15 = .ok (.istore 4, 2) := by decide +kernel
theorem dX6_lay_17 : decode cX6_lay 17 = .ok (.iload 4, 2) := by decide +kernel
theorem dX6_lay_19 : decode cX6_lay 19 = .ok (.iload_n 3, 1) := by decide +kernel
theorem dX6_lay_20 : decode cX6_lay 20 = .ok (.if_icmp .ge 19, 3) := by decide +kernel
theorem dX6_lay_23 : decode cX6_lay 23 = .ok (.aload_n 0, 1) := by decide +kernel
theorem dX6_lay_24 : decode cX6_lay 24 = .ok (.getfield 11, 3) := by decide +kernel
theorem dX6_lay_27 : decode cX6_lay 27 = .ok (.iload_n 1, 1) := by decide +kernel
theorem dX6_lay_28 : decode cX6_lay 28 = .ok (.aaload, 1) := by decide +kernel
theorem dX6_lay_29 : decode cX6_lay 29 = .ok (.iload 4, 2) := by decide +kernel
theorem dX6_lay_31 : decode cX6_lay 31 = .ok (.lconst 0, 1) := by decide +kernel
theorem dX6_lay_32 : decode cX6_lay 32 = .ok (.lastore, 1) := by decide +kernel
theorem dX6_lay_33 : decode cX6_lay 33 = .ok (.iinc 4 1, 3) := by decide +kernel
theorem dX6_lay_36 : decode cX6_lay 36 = .ok (.goto (-19), 3) := by decide +kernel
theorem dX6_lay_39 : decode cX6_lay 39 = .ok (.return_, 1) := by decide +kernel
theorem dX6_put_0 : decode cX6_put 0 = .ok (.aload_n 0, 1) := by decide +kernel
theorem dX6_put_1 : decode cX6_put 1 = .ok (.getfield 20, 3) := by decide +kernel
theorem dX6_put_4 : decode cX6_put 4 = .ok (.iload_n 1, 1) := by decide +kernel
theorem dX6_put_5 : decode cX6_put 5 = .ok (.iaload, 1) := by decide +kernel
theorem dX6_put_6 : decode cX6_put 6 = .ok (.tableswitch 70 0 2 #[26, 41, 56], 26) := by decide +kernel
theorem dX6_put_32 : decode cX6_put 32 = .ok (.aload_n 0, 1) := by decide +kernel
theorem dX6_put_33 : decode cX6_put 33 = .ok (.getfield 11, 3) := by decide +kernel
theorem dX6_put_36 : decode cX6_put 36 = .ok (.iload_n 1, 1) := by decide +kernel
theorem dX6_put_37 : decode cX6_put 37 = .ok (.aaload, 1) := by decide +kernel
theorem dX6_put_38 : decode cX6_put 38 = .ok (.iload_n 2, 1) := by decide +kernel
theorem dX6_put_39 : decode cX6_put 39 = .ok (.lload_n 3, 1) := by decide +kernel
theorem dX6_put_40 : decode cX6_put 40 = .ok (.l2i, 1) := by decide +kernel
theorem dX6_put_41 : decode cX6_put 41 = .ok (.i2b, 1) := by decide +kernel
theorem dX6_put_42 : decode cX6_put 42 = .ok (.i2l, 1) := by decide +kernel
theorem dX6_put_43 : decode cX6_put 43 = .ok (.lastore, 1) := by decide +kernel
theorem dX6_put_44 : decode cX6_put 44 = .ok (.goto 41, 3) := by decide +kernel
theorem dX6_put_47 : decode cX6_put 47 = .ok (.aload_n 0, 1) := by decide +kernel
theorem dX6_put_48 : decode cX6_put 48 = .ok (.getfield 11, 3) := by decide +kernel
theorem dX6_put_51 : decode cX6_put 51 = .ok (.iload_n 1, 1) := by decide +kernel
theorem dX6_put_52 : decode cX6_put 52 = .ok (.aaload, 1) := by decide +kernel
theorem dX6_put_53 : decode cX6_put 53 = .ok (.iload_n 2, 1) := by decide +kernel
theorem dX6_put_54 : decode cX6_put 54 = .ok (.lload_n 3, 1) := by decide +kernel
theorem dX6_put_55 : decode cX6_put 55 = .ok (.l2i, 1) := by decide +kernel
theorem dX6_put_56 : decode cX6_put 56 = .ok (.i2s, 1) := by decide +kernel
theorem dX6_put_57 : decode cX6_put 57 = .ok (.i2l, 1) := by decide +kernel
theorem dX6_put_58 : decode cX6_put 58 = .ok (.lastore, 1) := by decide +kernel
theorem dX6_put_59 : decode cX6_put 59 = .ok (.goto 26, 3) := by decide +kernel
theorem dX6_put_62 : decode cX6_put 62 = .ok (.aload_n 0, 1) := by decide +kernel
theorem dX6_put_63 : decode cX6_put 63 = .ok (.getfield 11, 3) := by decide +kernel
theorem dX6_put_66 : decode cX6_put 66 = .ok (.iload_n 1, 1) := by decide +kernel
theorem dX6_put_67 : decode cX6_put 67 = .ok (.aaload, 1) := by decide +kernel
theorem dX6_put_68 : decode cX6_put 68 = .ok (.iload_n 2, 1) := by decide +kernel
theorem dX6_put_69 : decode cX6_put 69 = .ok (.lload_n 3, 1) := by decide +kernel
theorem dX6_put_70 : decode cX6_put 70 = .ok (.l2i, 1) := by decide +kernel
theorem dX6_put_71 : decode cX6_put 71 = .ok (.i2l, 1) := by decide +kernel
theorem dX6_put_72 : decode cX6_put 72 = .ok (.lastore, 1) := by decide +kernel
theorem dX6_put_73 : decode cX6_put 73 = .ok (.goto 12, 3) := by decide +kernel
theorem dX6_put_76 : decode cX6_put 76 = .ok (.aload_n 0, 1) := by decide +kernel
theorem dX6_put_77 : decode cX6_put 77 = .ok (.getfield 11, 3) := by decide +kernel
theorem dX6_put_80 : decode cX6_put 80 = .ok (.iload_n 1, 1) := by decide +kernel
theorem dX6_put_81 : decode cX6_put 81 = .ok (.aaload, 1) := by decide +kernel
theorem dX6_put_82 : decode cX6_put 82 = .ok (.iload_n 2, 1) := by decide +kernel
theorem dX6_put_83 : decode cX6_put 83 = .ok (.lload_n 3, 1) := by decide +kernel
theorem dX6_put_84 : decode cX6_put 84 = .ok (.lastore, 1) := by decide +kernel
theorem dX6_put_85 : decode cX6_put 85 = .ok (.return_, 1) := by decide +kernel
theorem dX7_init_0 : decode cX7_init 0 = .ok (.aload_n 0, 1) := by decide +kernel
theorem dX7_init_1 : decode cX7_init 1 = .ok (.invokespecial 3, 3) := by decide +kernel
theorem dX7_init_4 : decode cX7_init 4 = .ok (.aload_n 0, 1) := by decide +kernel
theorem dX7_init_5 : decode cX7_init 5 = .ok (.bipush 60, 2) := by decide +kernel
theorem dX7_init_7 : decode cX7_init 7 = .ok (.newarray .int, 2) := by decide +kernel
theorem dX7_init_9 : decode cX7_init 9 = .ok (.putfield 9, 3) := by decide +kernel
theorem dX7_init_12 : decode cX7_init 12 = .ok (.aload_n 0, 1) := by decide +kernel
theorem dX7_init_13 : decode cX7_init 13 = .ok (.bipush 60, 2) := by decide +kernel
theorem dX7_init_15 : decode cX7_init 15 = .ok (.newarray .int, 2) := by decide +kernel
theorem dX7_init_17 : decode cX7_init 17 = .ok (.putfield 15, 3) := by decide +kernel
theorem dX7_init_20 : decode cX7_init 20 = .ok (.aload_n 0, 1) := by decide +kernel
theorem dX7_init_21 : decode cX7_init 21 = .ok (.bipush 60, 2) := by decide +kernel
theorem dX7_init_23 : decode cX7_init 23 = .ok (.newarray .int, 2) := by decide +kernel
theorem dX7_init_25 : decode cX7_init 25 = .ok (.putfield 18, 3) := by decide +kernel
theorem dX7_init_28 : decode cX7_init 28 = .ok (.aload_n 0, 1) := by decide +kernel
theorem dX7_init_29 : decode cX7_init 29 = .ok (.bipush 60, 2) := by decide +kernel
theorem dX7_init_31 : decode cX7_init 31 = .ok (.newarray .int, 2) := by decide +kernel
theorem dX7_init_33 : decode cX7_init 33 = .ok (.putfield 21, 3) := by decide +kernel
theorem dX7_init_36 : decode cX7_init 36 = .ok (.aload_n 0, 1) := by decide +kernel
theorem dX7_init_37 : decode cX7_init 37 = .ok (.bipush 60, 2) := by decide +kernel
theorem dX7_init_39 : decode cX7_init 39 = .ok (.newarray .int, 2) := by decide +kernel
theorem dX7_init_41 : decode cX7_init 41 = .ok (.putfield 24, 3) := by decide +kernel
theorem dX7_init_44 : decode cX7_init 44 = .ok (.aload_n 0, 1) := by decide +kernel
theorem dX7_init_45 : decode cX7_init 45 = .ok (.bipush 60, 2) := by decide +kernel
theorem dX7_init_47 : decode cX7_init 47 = .ok (.newarray .int, 2) := by decide +kernel
theorem dX7_init_49 : decode cX7_init 49 = .ok (.putfield 27, 3) := by decide +kernel
theorem dX7_init_52 : decode cX7_init 52 = .ok (.aload_n 0, 1) := by decide +kernel
theorem dX7_init_53 : decode cX7_init 53 = .ok (.iconst 0, 1) := by decide +kernel
theorem dX7_init_54 : decode cX7_init 54 = .ok (.putfield 30, 3) := by decide +kernel
theorem dX7_init_57 : decode cX7_init 57 = .ok (.aload_n 0, 1) := by decide +kernel
theorem dX7_init_58 : decode cX7_init 58 = .ok (.iconst 0, 1) := by decide +kernel
theorem dX7_init_59 : decode cX7_init 59 = .ok (.putfield 34, 3) := by decide +kernel
theorem dX7_init_62 : decode cX7_init 62 = .ok (.aload_n 0, 1) := by decide +kernel
theorem dX7_init_63 : decode cX7_init 63 = .ok (.iconst 0, 1) := by decide +kernel
theorem dX7_init_64 : decode cX7_init 64 = .ok (.putfield 37, 3) := by decide +kernel
theorem dX7_init_67 : decode cX7_init 67 = .ok (.return_, 1) := by decide +kernel
theorem dX7_clear_0 : decode cX7_clear 0 = .ok (.aload_n 0, 1) := by decide +kernel
theorem dX7_clear_1 : decode cX7_clear 1 = .ok (.iconst 0, 1) := by decide +kernel
theorem dX7_clear_2 : decode cX7_clear 2 = .ok (.putfield 30, 3) := by decide +kernel
theorem dX7_clear_5 : decode cX7_clear 5 = .ok (.aload_n 0, 1) := by decide +kernel
theorem dX7_clear_6 : decode cX7_clear 6 = .ok (.iconst 0, 1) := by decide +kernel
theorem dX7_clear_7 : decode cX7_clear 7 = .ok (.putfield 34, 3) := by decide +kernel
theorem dX7_clear_10 : decode cX7_clear 10 = .ok (.aload_n 0, 1) := by decide +kernel
theorem dX7_clear_11 : decode cX7_clear 11 = .ok (.iconst 0, 1) := by decide +kernel
theorem dX7_clear_12 : decode cX7_clear 12 = .ok (.putfield 37, 3) := by decide +kernel
theorem dX7_clear_15 : decode cX7_clear 15 = .ok (.return_, 1) := by decide +kernel
theorem dX7_copyFrom_0 : decode cX7_copyFrom 0 = .ok (.aload_n 1, 1) := by decide +kernel
theorem dX7_copyFrom_1 : decode cX7_copyFrom 1 = .ok (.getfield 9, 3) := by decide +kernel
theorem dX7_copyFrom_4 : decode cX7_copyFrom 4 = .ok (.iconst 0, 1) := by decide +kernel
theorem dX7_copyFrom_5 : decode cX7_copyFrom 5 = .ok (.aload_n 0, 1) := by decide +kernel
theorem dX7_copyFrom_6 : decode cX7_copyFrom 6 = .ok (.getfield 9, 3) := by decide +kernel
theorem dX7_copyFrom_9 : decode cX7_copyFrom 9 = .ok (.iconst 0, 1) := by decide +kernel
theorem dX7_copyFrom_10 : decode cX7_copyFrom 10 = .ok (.aload_n 0, 1) := by decide +kernel
theorem dX7_copyFrom_11 : decode cX7_copyFrom 11 = .ok (.getfield 9, 3) := by decide +kernel
theorem dX7_copyFrom_14 : decode cX7_copyFrom 14 = .ok (.arraylength, 1) := by decide +kernel
theorem dX7_copyFrom_15 : decode cX7_copyFrom 15 = .ok (.invokestatic 41, 3) := by decide +kernel
theorem dX7_copyFrom_18 : decode cX7_copyFrom 18 = .ok (.aload_n 1, 1) := by decide +kernel
theorem dX7_copyFrom_19 : decode cX7_copyFrom 19 = .ok (.getfield 15, 3) := by decide +kernel
theorem dX7_copyFrom_22 : decode cX7_copyFrom 22 = .ok (.iconst 0, 1) := by decide +kernel
theorem dX7_copyFrom_23 : decode cX7_copyFrom 23 = .ok (.aload_n 0, 1) := by decide +kernel
theorem dX7_copyFrom_24 : decode cX7_copyFrom 24 = .ok (.getfield 15, 3) := by decide +kernel
theorem dX7_copyFrom_27 : decode cX7_copyFrom 27 = .ok (.iconst 0, 1) := by decide +kernel
theorem dX7_copyFrom_28 : decode cX7_copyFrom 28 = .ok (.aload_n 0, 1) := by decide +kernel
theorem dX7_copyFrom_29 : decode cX7_copyFrom 29 = .ok (.getfield 15, 3) := by decide +kernel
theorem dX7_copyFrom_32 : decode cX7_copyFrom 32 = .ok (.arraylength, 1) := by decide +kernel
theorem dX7_copyFrom_33 : decode cX7_copyFrom 33 = .ok (.invokestatic 41, 3) := by decide +kernel
theorem dX7_copyFrom_36 : decode cX7_copyFrom 36 = .ok (.aload_n 1, 1) := by decide +kernel
theorem dX7_copyFrom_37 : decode cX7_copyFrom 37 = .ok (.getfield 18, 3) := by decide +kernel
theorem dX7_copyFrom_40 : decode cX7_copyFrom 40 = .ok (.iconst 0, 1) := by decide +kernel
theorem dX7_copyFrom_41 : decode cX7_copyFrom 41 = .ok (.aload_n 0, 1) := by decide +kernel
theorem dX7_copyFrom_42 : decode cX7_copyFrom 42 = .ok (.getfield 18, 3) := by decide +kernel
theorem dX7_copyFrom_45 : decode cX7_copyFrom 45 = .ok (.iconst 0, 1) := by decide +kernel
theorem dX7_copyFrom_46 : decode cX7_copyFrom 46 = .ok (.aload_n 0, 1) := by decide +kernel
theorem dX7_copyFrom_47 : decode cX7_copyFrom 47 = .ok (.getfield 18, 3) := by decide +kernel
theorem dX7_copyFrom_50 : decode cX7_copyFrom 50 = .ok (.arraylength, 1) := by decide +kernel
theorem dX7_copyFrom_51 : decode cX7_copyFrom 51 = .ok (.invokestatic 41, 3) := by decide +kernel
theorem dX7_copyFrom_54 : decode cX7_copyFrom 54 = .ok (.aload_n 1, 1) := by decide +kernel
theorem dX7_copyFrom_55 : decode cX7_copyFrom 55 = .ok (.getfield 21, 3) := by decide +kernel
theorem dX7_copyFrom_58 : decode cX7_copyFrom 58 = .ok (.iconst 0, 1) := by decide +kernel
theorem dX7_copyFrom_59 : decode cX7_copyFrom 59 = .ok (.aload_n 0, 1) := by decide +kernel
theorem dX7_copyFrom_60 : decode cX7_copyFrom 60 = .ok (.getfield 21, 3) := by decide +kernel
theorem dX7_copyFrom_63 : decode cX7_copyFrom 63 = .ok (.iconst 0, 1) := by decide +kernel
theorem dX7_copyFrom_64 : decode cX7_copyFrom 64 = .ok (.aload_n 0, 1) := by decide +kernel
theorem dX7_copyFrom_65 : decode cX7_copyFrom 65 = .ok (.getfield 21, 3) := by decide +kernel
theorem dX7_copyFrom_68 : decode cX7_copyFrom 68 = .ok (.arraylength, 1) := by decide +kernel
theorem dX7_copyFrom_69 : decode cX7_copyFrom 69 = .ok (.invokestatic 41, 3) := by decide +kernel
theorem dX7_copyFrom_72 : decode cX7_copyFrom 72 = .ok (.aload_n 1, 1) := by decide +kernel
theorem dX7_copyFrom_73 : decode cX7_copyFrom 73 = .ok (.getfield 24, 3) := by decide +kernel
theorem dX7_copyFrom_76 : decode cX7_copyFrom 76 = .ok (.iconst 0, 1) := by decide +kernel
theorem dX7_copyFrom_77 : decode cX7_copyFrom 77 = .ok (.aload_n 0, 1) := by decide +kernel
theorem dX7_copyFrom_78 : decode cX7_copyFrom 78 = .ok (.getfield 24, 3) := by decide +kernel
theorem dX7_copyFrom_81 : decode cX7_copyFrom 81 = .ok (.iconst 0, 1) := by decide +kernel
theorem dX7_copyFrom_82 : decode cX7_copyFrom 82 = .ok (.aload_n 0, 1) := by decide +kernel
theorem dX7_copyFrom_83 : decode cX7_copyFrom 83 = .ok (.getfield 24, 3) := by decide +kernel
theorem dX7_copyFrom_86 : decode cX7_copyFrom 86 = .ok (.arraylength, 1) := by decide +kernel
theorem dX7_copyFrom_87 : decode cX7_copyFrom 87 = .ok (.invokestatic 41, 3) := by decide +kernel
theorem dX7_copyFrom_90 : decode cX7_copyFrom 90 = .ok (.aload_n 1, 1) := by decide +kernel
theorem dX7_copyFrom_91 : decode cX7_copyFrom 91 = .ok (.getfield 27, 3) := by decide +kernel
theorem dX7_copyFrom_94 : decode cX7_copyFrom 94 = .ok (.iconst 0, 1) := by decide +kernel
theorem dX7_copyFrom_95 : decode cX7_copyFrom 95 = .ok (.aload_n 0, 1) := by decide +kernel
theorem dX7_copyFrom_96 : decode cX7_copyFrom 96 = .ok (.getfield 27, 3) := by decide +kernel
theorem dX7_copyFrom_99 : decode cX7_copyFrom 99 = .ok (.iconst 0, 1) := by decide +kernel
theorem dX7_copyFrom_100 : decode cX7_copyFrom 100 = .ok (.aload_n 0, 1) := by decide +kernel
theorem dX7_copyFrom_101 : decode cX7_copyFrom 101 = .ok (.getfield 27, 3) := by decide +kernel
theorem dX7_copyFrom_104 : decode cX7_copyFrom 104 = .ok (.arraylength, 1) := by decide +kernel
theorem dX7_copyFrom_105 : decode cX7_copyFrom 105 = .ok (.invokestatic 41, 3) := by decide +kernel
theorem dX7_copyFrom_108 : decode cX7_copyFrom 108 = .ok (.aload_n 0, 1) := by decide +kernel
theorem dX7_copyFrom_109 : decode cX7_copyFrom 109 = .ok (.aload_n 1, 1) := by decide +kernel
theorem dX7_copyFrom_110 : decode cX7_copyFrom 110 = .ok (.getfield 30, 3) := by decide +kernel
theorem dX7_copyFrom_113 : decode cX7_copyFrom 113 = .ok (.putfield 30, 3) := by decide +kernel
theorem dX7_copyFrom_116 : decode cX7_copyFrom 116 = .ok (.aload_n 0, 1) := by decide +kernel
theorem dX7_copyFrom_117 : decode cX7_copyFrom 117 = .ok (.aload_n 1, 1) := by decide +kernel
theorem dX7_copyFrom_118 : decode cX7_copyFrom 118 = .ok (.getfield 34, 3) := by decide +kernel
theorem dX7_copyFrom_121 : decode cX7_copyFrom 121 = .ok (.putfield 34, 3) := by decide +kernel
theorem dX7_copyFrom_124 : decode cX7_copyFrom 124 = .ok (.aload_n 0, 1) := by decide +kernel
theorem dX7_copyFrom_125 : decode cX7_copyFrom 125 = .ok (.aload_n 1, 1) := by decide +kernel
theorem dX7_copyFrom_126 : decode cX7_copyFrom 126 = .ok (.getfield 37, 3) := by decide +kernel
theorem dX7_copyFrom_129 : decode cX7_copyFrom 129 = .ok (.putfield 37, 3) := by decide +kernel
theorem dX7_copyFrom_132 : decode cX7_copyFrom 132 = .ok (.return_, 1) := by decide +kernel
theorem dX7_addRow_0 : decode cX7_addRow 0 = .ok (.aload_n 0, 1) := by decide +kernel
theorem dX7_addRow_1 : decode cX7_addRow 1 = .ok (.getfield 30, 3) := by decide +kernel
theorem dX7_addRow_4 : decode cX7_addRow 4 = .ok (.istore_n 2, 1) := by decide +kernel
theorem dX7_addRow_5 : decode cX7_addRow 5 = .ok (.aload_n 0, 1) := by decide +kernel
theorem dX7_addRow_6 : decode cX7_addRow 6 = .ok (.getfield 9, 3) := by decide +kernel
theorem dX7_addRow_9 : decode cX7_addRow 9 = .ok (.iload_n 2, 1) := by decide +kernel
theorem dX7_addRow_10 : decode cX7_addRow 10 = .ok (.iload_n 1, 1) := by decide +kernel
theorem dX7_addRow_11 : decode cX7_addRow 11 = .ok (.iastore, 1) := by decide +kernel
theorem dX7_addRow_12 : decode cX7_addRow 12 = .ok (.aload_n 0, 1) := by decide +kernel
theorem dX7_addRow_13 : decode cX7_addRow 13 = .ok (.getfield 15, 3) := by decide +kernel
theorem dX7_addRow_16 : decode cX7_addRow 16 = .ok (.iload_n 2, 1) := by decide +kernel
theorem dX7_addRow_17 : decode cX7_addRow 17 = .ok (.iconst 0, 1) := by decide +kernel
theorem dX7_addRow_18 : decode cX7_addRow 18 = .ok (.iastore, 1) := by decide +kernel
theorem dX7_addRow_19 : decode cX7_addRow 19 = .ok (.aload_n 0, 1) := by decide +kernel
theorem dX7_addRow_20 : decode cX7_addRow 20 = .ok (.getfield 18, 3) := by decide +kernel
theorem dX7_addRow_23 : decode cX7_addRow 23 = .ok (.iload_n 2, 1) := by decide +kernel
theorem dX7_addRow_24 : decode cX7_addRow 24 = .ok (.iconst 0, 1) := by decide +kernel
theorem dX7_addRow_25 : decode cX7_addRow 25 = .ok (.iastore, 1) := by decide +kernel
theorem dX7_addRow_26 : decode cX7_addRow 26 = .ok (.aload_n 0, 1) := by decide +kernel
theorem dX7_addRow_27 : decode cX7_addRow 27 = .ok (.getfield 21, 3) := by decide +kernel
theorem dX7_addRow_30 : decode cX7_addRow 30 = .ok (.iload_n 2, 1) := by decide +kernel
theorem dX7_addRow_31 : decode cX7_addRow 31 = .ok (.iconst 0, 1) := by decide +kernel
theorem dX7_addRow_32 : decode cX7_addRow 32 = .ok (.iastore, 1) := by decide +kernel
theorem dX7_addRow_33 : decode cX7_addRow 33 = .ok (.aload_n 0, 1) := by decide +kernel
theorem dX7_addRow_34 : decode cX7_addRow 34 = .ok (.getfield 24, 3) := by decide +kernel
theorem dX7_addRow_37 : decode cX7_addRow 37 = .ok (.iload_n 2, 1) := by decide +kernel
theorem dX7_addRow_38 : decode cX7_addRow 38 = .ok (.iconst 0, 1) := by decide +kernel
theorem dX7_addRow_39 : decode cX7_addRow 39 = .ok (.iastore, 1) := by decide +kernel
theorem dX7_addRow_40 : decode cX7_addRow 40 = .ok (.aload_n 0, 1) := by decide +kernel
theorem dX7_addRow_41 : decode cX7_addRow 41 = .ok (.getfield 27, 3) := by decide +kernel
theorem dX7_addRow_44 : decode cX7_addRow 44 = .ok (.iload_n 2, 1) := by decide +kernel
theorem dX7_addRow_45 : decode cX7_addRow 45 = .ok (.iconst 0, 1) := by decide +kernel
theorem dX7_addRow_46 : decode cX7_addRow 46 = .ok (.iastore, 1) := by decide +kernel
theorem dX7_addRow_47 : decode cX7_addRow 47 = .ok (.aload_n 0, 1) := by decide +kernel
theorem dX7_addRow_48 : decode cX7_addRow 48 = .ok (.dup, 1) := by decide +kernel
theorem dX7_addRow_49 : decode cX7_addRow 49 = .ok (.getfield 30, 3) := by decide +kernel
theorem dX7_addRow_52 : decode cX7_addRow 52 = .ok (.iconst 1, 1) := by decide +kernel
theorem dX7_addRow_53 : decode cX7_addRow 53 = .ok (.iadd, 1) := by decide +kernel
theorem dX7_addRow_54 : decode cX7_addRow 54 = .ok (.putfield 30, 3) := by decide +kernel
theorem dX7_addRow_57 : decode cX7_addRow 57 = .ok (.iload_n 2, 1) := by decide +kernel
theorem dX7_addRow_58 : decode cX7_addRow 58 = .ok (.ireturn, 1) := by decide +kernel
theorem dX8_init_0 : decode cX8_init 0 = .ok (.aload_n 0, 1) := by decide +kernel
theorem dX8_init_1 : decode cX8_init 1 = .ok (.invokespecial 3, 3) := by decide +kernel
theorem dX8_init_4 : decode cX8_init 4 = .ok (.aload_n 0, 1) := by decide +kernel
theorem dX8_init_5 : decode cX8_init 5 = .ok (.iconst 3, 1) := by decide +kernel
theorem dX8_init_6 : decode cX8_init 6 = .ok (.newarray .int, 2) := by decide +kernel
theorem dX8_init_8 : decode cX8_init 8 = .ok (.putfield 9, 3) := by decide +kernel
theorem dX8_init_11 : decode cX8_init 11 = .ok (.aload_n 0, 1) := by decide +kernel
theorem dX8_init_12 : decode cX8_init 12 = .ok (.iconst 0, 1) := by decide +kernel
theorem dX8_init_13 : decode cX8_init 13 = .ok (.putfield 15, 3) := by decide +kernel
theorem dX8_init_16 : decode cX8_init 16 = .ok (.return_, 1) := by decide +kernel
set_option maxRecDepth 20000 in
theorem ggX8_readWeeks_X7_clear : GoodIn wsX8_readWeeks wsX7_clear := goodIn_r _ [9, 10, 11, 12, 133, 134, 135, 136, 137, 138, 139, 140, 141] (by decide +kernel) (by decide +kernel)
set_option maxRecDepth 20000 in
theorem gX8_readWeeks_X7_clear : GoodIn wsX8_readWeeks (wsV RX8 19 RX7 yX7_clear wsX7_clear) := goodIn_app (goodIn_of _ (by decide +kernel)) ggX8_readWeeks_X7_clear
set_option maxRecDepth 20000 in
theorem ggX8_readWeeks_X5_begin : GoodIn wsX8_readWeeks wsX5_begin := goodIn_r _ [17, 18, 19, 20, 21, 22, 23, 24, 16, 25, 26, 27, 28, 29, 30, 31, 32, 33, 34, 35, 36, 37, 38, 39, 40, 41, 42, 43, 44, 144, 145, 146, 147, 148, 149, 150, 151, 152, 153, 154, 155] (by decide +kernel) (by decide +kernel)
set_option maxRecDepth 20000 in
theorem gX8_readWeeks_X5_begin : GoodIn wsX8_readWeeks (wsV RX8 28 RX5 yX5_begin wsX5_begin) := goodIn_app (goodIn_of _ (by decide +kernel)) ggX8_readWeeks_X5_begin
set_option maxRecDepth 20000 in
theorem ggX8_readWeeks_X5_word : GoodIn wsX8_readWeeks wsX5_word := goodIn_r _ [48, 30, 28, 144, 145, 146, 147, 148, 149, 150, 151, 152, 153, 154, 155] (by decide +kernel) (by decide +kernel)
set_option maxRecDepth 20000 in
theorem gX8_readWeeks_X5_word : GoodIn wsX8_readWeeks (wsV RX8 40 RX5 yX5_word wsX5_word) := goodIn_app (goodIn_of _ (by decide +kernel)) ggX8_readWeeks_X5_word
set_option maxRecDepth 20000 in
theorem ggX8_readWeeks_X8_closes : GoodIn wsX8_readWeeks wsX8_closes := goodIn_r _ [53, 2, 54, 55, 56, 57, 58, 16, 59, 20, 30, 27, 21, 60, 61, 62, 8, 63, 10, 64, 65, 66, 67, 68, 69, 70, 23, 24, 25, 19, 18, 26, 28, 29, 31, 32, 33, 34, 35, 36, 37, 38, 39, 40, 41, 42, 43, 44, 142, 143, 133, 134, 135, 136, 137, 138, 139, 140, 141, 144, 145, 146, 147, 148, 149, 150, 151, 152, 153, 154, 155] (by decide +kernel) (by decide +kernel)
set_option maxRecDepth 20000 in
theorem gX8_readWeeks_X8_closes : GoodIn wsX8_readWeeks (wsV RX8 44 RX8 yX8_closes wsX8_closes) := goodIn_app (goodIn_of _ (by decide +kernel)) ggX8_readWeeks_X8_closes
set_option maxRecDepth 20000 in
theorem ggX8_readWeeks_X8_begins : GoodIn wsX8_readWeeks wsX8_begins := goodIn_r _ [74, 75, 2, 54, 45, 46, 47, 16, 48, 30, 28, 56, 57, 58, 59, 20, 27, 21, 60, 61, 62, 8, 63, 10, 64, 65, 66, 67, 68, 69, 70, 23, 24, 25, 19, 18, 26, 29, 31, 32, 33, 34, 35, 36, 37, 38, 39, 40, 41, 42, 43, 44, 133, 134, 135, 136, 137, 138, 139, 140, 141, 142, 143, 144, 145, 146, 147, 148, 149, 150, 151, 152, 153, 154, 155] (by decide +kernel) (by decide +kernel)
set_option maxRecDepth 20000 in
theorem gX8_readWeeks_X8_begins : GoodIn wsX8_readWeeks (wsV RX8 48 RX8 yX8_begins wsX8_begins) := goodIn_app (goodIn_of _ (by decide +kernel)) ggX8_readWeeks_X8_begins
set_option maxRecDepth 20000 in
theorem ggX8_readWeeks_X8_readRest : GoodIn wsX8_readWeeks wsX8_readRest := goodIn_r _ [78, 79, 80, 81, 82, 83, 84, 85, 86, 16, 87, 88, 89, 90, 91, 29, 92, 93, 94, 95, 96, 30, 28, 97, 57, 58, 59, 20, 27, 21, 98, 99, 100, 101, 102, 103, 104, 22, 23, 24, 25, 19, 18, 26, 31, 32, 33, 34, 35, 36, 37, 38, 39, 40, 41, 42, 43, 44, 105, 106, 107, 108, 109, 110, 52, 111, 112, 113, 45, 46, 47, 48, 56, 70, 114, 115, 116, 117, 118, 119, 120, 121, 122, 123, 124, 125, 126, 127, 128, 133, 134, 135, 136, 137, 138, 139, 140, 141, 144, 145, 146, 147, 148, 149, 150, 151, 152, 153, 154, 155, 156, 157, 158, 159, 160, 161, 162, 163, 164, 165, 166, 167, 168] (by decide +kernel) (by decide +kernel)
set_option maxRecDepth 20000 in
theorem gX8_readWeeks_X8_readRest : GoodIn wsX8_readWeeks (va_wsS RX8 51 yX8_readRest wsX8_readRest) := goodIn_app (goodIn_of _ (by decide +kernel)) ggX8_readWeeks_X8_readRest
set_option maxRecDepth 20000 in
theorem ggX8_readWeeks_X5_needStop : GoodIn wsX8_readWeeks wsX5_needStop := goodIn_r _ [132, 30, 28, 97, 57, 58, 16, 59, 20, 27, 21, 22, 23, 24, 25, 19, 18, 26, 29, 31, 32, 33, 34, 35, 36, 37, 38, 39, 40, 41, 42, 43, 44, 144, 145, 146, 147, 148, 149, 150, 151, 152, 153, 154, 155] (by decide +kernel) (by decide +kernel)
