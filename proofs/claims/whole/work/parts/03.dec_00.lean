theorem dX0_init_0 : decode cX0_init 0 = .ok (.aload_n 0, 1) := by decide +kernel
theorem dX0_init_1 : decode cX0_init 1 = .ok (.invokespecial 3, 3) := by decide +kernel
theorem dX0_init_4 : decode cX0_init 4 = .ok (.aload_n 0, 1) := by decide +kernel
theorem dX0_init_5 : decode cX0_init 5 = .ok (.sipush 201, 3) := by decide +kernel
theorem dX0_init_8 : decode cX0_init 8 = .ok (.newarray .long, 2) := by decide +kernel
theorem dX0_init_10 : decode cX0_init 10 = .ok (.putfield 9, 3) := by decide +kernel
theorem dX0_init_13 : decode cX0_init 13 = .ok (.aload_n 0, 1) := by decide +kernel
theorem dX0_init_14 : decode cX0_init 14 = .ok (.sipush 201, 3) := by decide +kernel
theorem dX0_init_17 : decode cX0_init 17 = .ok (.newarray .long, 2) := by decide +kernel
theorem dX0_init_19 : decode cX0_init 19 = .ok (.putfield 15, 3) := by decide +kernel
theorem dX0_init_22 : decode cX0_init 22 = .ok (.aload_n 0, 1) := by decide +kernel
theorem dX0_init_23 : decode cX0_init 23 = .ok (.iconst 5, 1) := by decide +kernel
theorem dX0_init_24 : decode cX0_init 24 = .ok (.anewarray 18, 3) := by decide +kernel
theorem dX0_init_27 : decode cX0_init 27 = .ok (.putfield 20, 3) := by decide +kernel
theorem dX0_init_30 : decode cX0_init 30 = .ok (.aload_n 0, 1) := by decide +kernel
theorem dX0_init_31 : decode cX0_init 31 = .ok (.iconst 4, 1) := by decide +kernel
theorem dX0_init_32 : decode cX0_init 32 = .ok (.newarray .int, 2) := by decide +kernel
theorem dX0_init_34 : decode cX0_init 34 = .ok (.putfield 24, 3) := by decide +kernel
theorem dX0_init_37 : decode cX0_init 37 = .ok (.aload_n 0, 1) := by decide +kernel
theorem dX0_init_38 : decode cX0_init 38 = .ok (.bipush 6, 2) := by decide +kernel
theorem dX0_init_40 : decode cX0_init 40 = .ok (.newarray .int, 2) := by decide +kernel
theorem dX0_init_42 : decode cX0_init 42 = .ok (.putfield 28, 3) := by decide +kernel
theorem dX0_init_45 : decode cX0_init 45 = .ok (.aload_n 0, 1) := by decide +kernel
theorem dX0_init_46 : decode cX0_init 46 = .ok (.iconst 4, 1) := by decide +kernel
theorem dX0_init_47 : decode cX0_init 47 = .ok (.newarray .int, 2) := by decide +kernel
theorem dX0_init_49 : decode cX0_init 49 = .ok (.putfield 31, 3) := by decide +kernel
theorem dX0_init_52 : decode cX0_init 52 = .ok (.aload_n 0, 1) := by decide +kernel
theorem dX0_init_53 : decode cX0_init 53 = .ok (.bipush 6, 2) := by decide +kernel
theorem dX0_init_55 : decode cX0_init 55 = .ok (.newarray .int, 2) := by decide +kernel
theorem dX0_init_57 : decode cX0_init 57 = .ok (.putfield 34, 3) := by decide +kernel
theorem dX0_init_60 : decode cX0_init 60 = .ok (.aload_n 0, 1) := by decide +kernel
theorem dX0_init_61 : decode cX0_init 61 = .ok (.iconst 0, 1) := by decide +kernel
theorem dX0_init_62 : decode cX0_init 62 = .ok (.putfield 37, 3) := by decide +kernel
theorem dX0_init_65 : decode cX0_init 65 = .ok (.aload_n 0, 1) := by decide +kernel
theorem dX0_init_66 : decode cX0_init 66 = .ok (.iconst (-1), 1) := by decide +kernel
theorem dX0_init_67 : decode cX0_init 67 = .ok (.putfield 41, 3) := by decide +kernel
theorem dX0_init_70 : decode cX0_init 70 = .ok (.aload_n 0, 1) := by decide +kernel
theorem dX0_init_71 : decode cX0_init 71 = .ok (.iconst 0, 1) := by decide +kernel
theorem dX0_init_72 : decode cX0_init 72 = .ok (.putfield 44, 3) := by decide +kernel
theorem dX0_init_75 : decode cX0_init 75 = .ok (.aload_n 0, 1) := by decide +kernel
theorem dX0_init_76 : decode cX0_init 76 = .ok (.iconst 0, 1) := by decide +kernel
theorem dX0_init_77 : decode cX0_init 77 = .ok (.putfield 47, 3) := by decide +kernel
theorem dX0_init_80 : decode cX0_init 80 = .ok (.iconst 0, 1) := by decide +kernel
theorem dX0_init_81 : decode cX0_init 81 = .ok (.istore_n 1, 1) := by decide +kernel
theorem dX0_init_82 : decode cX0_init 82 = .ok (.iload_n 1, 1) := by decide +kernel
theorem dX0_init_83 : decode cX0_init 83 = .ok (.iconst 4, 1) := by decide +kernel
theorem dX0_init_84 : decode cX0_init 84 = .ok (.if_icmp .gt 22, 3) := by decide +kernel
theorem dX0_init_87 : decode cX0_init 87 = .ok (.aload_n 0, 1) := by decide +kernel
theorem dX0_init_88 : decode cX0_init 88 = .ok (.getfield 20, 3) := by decide +kernel
theorem dX0_init_91 : decode cX0_init 91 = .ok (.iload_n 1, 1) := by decide +kernel
theorem dX0_init_92 : decode cX0_init 92 = .ok (.new 18, 3) := by decide +kernel
theorem dX0_init_95 : decode cX0_init 95 = .ok (.dup, 1) := by decide +kernel
theorem dX0_init_96 : decode cX0_init 96 = .ok (.invokespecial 50, 3) := by decide +kernel
theorem dX0_init_99 : decode cX0_init 99 = .ok (.aastore, 1) := by decide +kernel
theorem dX0_init_100 : decode cX0_init 100 = .ok (.iinc 1 1, 3) := by decide +kernel
theorem dX0_init_103 : decode cX0_init 103 = .ok (.goto (-21), 3) := by decide +kernel
theorem dX0_init_106 : decode cX0_init 106 = .ok (.return_, 1) := by decide +kernel
theorem dX0_settle_0 : decode cX0_settle 0 = .ok (.iconst 0, 1) := by decide +kernel
theorem dX0_settle_1 : decode cX0_settle 1 = .ok (.istore_n 3, 1) := by decide +kernel
theorem dX0_settle_2 : decode cX0_settle 2 = .ok (.iload_n 3, 1) := by decide +kernel
theorem dX0_settle_3 : decode cX0_settle 3 = .ok (.sipush 200, 3) := by decide +kernel
theorem dX0_settle_6 : decode cX0_settle 6 = .ok (.if_icmp .gt 103, 3) := by decide +kernel
theorem dX0_settle_9 : decode cX0_settle 9 = .ok (.aload_n 0, 1) := by decide +kernel
theorem dX0_settle_10 : decode cX0_settle 10 = .ok (.getfield 9, 3) := by decide +kernel
theorem dX0_settle_13 : decode cX0_settle 13 = .ok (.iload_n 3, 1) := by decide +kernel
theorem dX0_settle_14 : decode cX0_settle 14 = .ok (.aload_n 2, 1) := by decide +kernel
theorem dX0_settle_15 : decode cX0_settle 15 = .ok (.iconst 0, 1) := by decide +kernel
theorem dX0_settle_16 : decode cX0_settle 16 = .ok (.invokestatic 51, 3) := by decide +kernel
theorem dX0_settle_19 : decode cX0_settle 19 = .ok (.lastore, 1) := by decide +kernel
theorem dX0_settle_20 : decode cX0_settle 20 = .ok (.aload_n 0, 1) := by decide +kernel
theorem dX0_settle_21 : decode cX0_settle 21 = .ok (.getfield 15, 3) := by decide +kernel
theorem dX0_settle_24 : decode cX0_settle 24 = .ok (.iload_n 3, 1) := by decide +kernel
theorem dX0_settle_25 : decode cX0_settle 25 = .ok (.aload_n 2, 1) := by decide +kernel
theorem dX0_settle_26 : decode cX0_settle 26 = .ok (.iconst 5, 1) := by decide +kernel
theorem dX0_settle_27 : decode cX0_settle 27 = .ok (.invokestatic 51, 3) := by decide +kernel
theorem dX0_settle_30 : decode cX0_settle 30 = .ok (.lastore, 1) := by decide +kernel
theorem dX0_settle_31 : decode cX0_settle 31 = .ok (.iconst 0, 1) := by decide +kernel
theorem dX0_settle_32 : decode cX0_settle 32 = .ok (.istore 4, 2) := by decide +kernel
theorem dX0_settle_34 : decode cX0_settle 34 = .ok (.iload 4, 2) := by decide +kernel
theorem dX0_settle_36 : decode cX0_settle 36 = .ok (.iload_n 3, 1) := by decide +kernel
theorem dX0_settle_37 : decode cX0_settle 37 = .ok (.if_icmp .ge 59, 3) := by decide +kernel
theorem dX0_settle_40 : decode cX0_settle 40 = .ok (.aload_n 0, 1) := by decide +kernel
theorem dX0_settle_41 : decode cX0_settle 41 = .ok (.getfield 9, 3) := by decide +kernel
theorem dX0_settle_44 : decode cX0_settle 44 = .ok (.iload 4, 2) := by decide +kernel
theorem dX0_settle_46 : decode cX0_settle 46 = .ok (.laload, 1) := by decide +kernel
theorem dX0_settle_47 : decode cX0_settle 47 = .ok (.aload_n 0, 1) := by decide +kernel
theorem dX0_settle_48 : decode cX0_settle 48 = .ok (.getfield 9, 3) := by decide +kernel
theorem dX0_settle_51 : decode cX0_settle 51 = .ok (.iload_n 3, 1) := by decide +kernel
theorem dX0_settle_52 : decode cX0_settle 52 = .ok (.laload, 1) := by decide +kernel
theorem dX0_settle_53 : decode cX0_settle 53 = .ok (.lcmp, 1) := by decide +kernel
theorem dX0_settle_54 : decode cX0_settle 54 = .ok (.ifCond .ne 36, 3) := by decide +kernel
theorem dX0_settle_57 : decode cX0_settle 57 = .ok (.aload_n 0, 1) := by decide +kernel
theorem dX0_settle_58 : decode cX0_settle 58 = .ok (.getfield 15, 3) := by decide +kernel
theorem dX0_settle_61 : decode cX0_settle 61 = .ok (.iload 4, 2) := by decide +kernel
theorem dX0_settle_63 : decode cX0_settle 63 = .ok (.laload, 1) := by decide +kernel
theorem dX0_settle_64 : decode cX0_settle 64 = .ok (.aload_n 0, 1) := by decide +kernel
theorem dX0_settle_65 : decode cX0_settle 65 = .ok (.getfield 15, 3) := by decide +kernel
theorem dX0_settle_68 : decode cX0_settle 68 = .ok (.iload_n 3, 1) := by decide +kernel
theorem dX0_settle_69 : decode cX0_settle 69 = .ok (.laload, 1) := by decide +kernel
theorem dX0_settle_70 : decode cX0_settle 70 = .ok (.lcmp, 1) := by decide +kernel
theorem dX0_settle_71 : decode cX0_settle 71 = .ok (.ifCond .ne 19, 3) := by decide +kernel
theorem dX0_settle_74 : decode cX0_settle 74 = .ok (.aload_n 0, 1) := by decide +kernel
theorem dX0_settle_75 : decode cX0_settle 75 = .ok (.iload 4, 2) := by decide +kernel
theorem dX0_settle_77 : decode cX0_settle 77 = .ok (.putfield 44, 3) := by decide +kernel
theorem dX0_settle_80 : decode cX0_settle 80 = .ok (.aload_n 0, 1) := by decide +kernel
theorem dX0_settle_81 : decode cX0_settle 81 = .ok (.iload_n 3, 1) := by decide +kernel
theorem dX0_settle_82 : decode cX0_settle 82 = .ok (.iload 4, 2) := by decide +kernel
theorem dX0_settle_84 : decode cX0_settle 84 = .ok (.isub, 1) := by decide +kernel
theorem dX0_settle_85 : decode cX0_settle 85 = .ok (.putfield 47, 3) := by decide +kernel
theorem dX0_settle_88 : decode cX0_settle 88 = .ok (.iconst 1, 1) := by decide +kernel
theorem dX0_settle_89 : decode cX0_settle 89 = .ok (.ireturn, 1) := by decide +kernel
theorem dX0_settle_90 : decode cX0_settle 90 = .ok (.iinc 4 1, 3) := by decide +kernel
theorem dX0_settle_93 : decode cX0_settle 93 = .ok (.goto (-59), 3) := by decide +kernel
theorem dX0_settle_96 : decode cX0_settle 96 = .ok (.aload_n 2, 1) := by decide +kernel
theorem dX0_settle_97 : decode cX0_settle 97 = .ok (.aload_n 1, 1) := by decide +kernel
theorem dX0_settle_98 : decode cX0_settle 98 = .ok (.iconst 0, 1) := by decide +kernel
theorem dX0_settle_99 : decode cX0_settle 99 = .ok (.invokevirtual 55, 3) := by decide +kernel
theorem dX0_settle_102 : decode cX0_settle 102 = .ok (.pop, 1) := by decide +kernel
theorem dX0_settle_103 : decode cX0_settle 103 = .ok (.iinc 3 1, 3) := by decide +kernel
theorem dX0_settle_106 : decode cX0_settle 106 = .ok (.goto (-104), 3) := by decide +kernel
theorem dX0_settle_109 : decode cX0_settle 109 = .ok (.iconst 0, 1) := by decide +kernel
theorem dX0_settle_110 : decode cX0_settle 110 = .ok (.ireturn, 1) := by decide +kernel
theorem dX0_pack_0 : decode cX0_pack 0 = .ok (.lconst 0, 1) := by decide +kernel
theorem dX0_pack_1 : decode cX0_pack 1 = .ok (.lstore_n 2, 1) := by decide +kernel
theorem dX0_pack_2 : decode cX0_pack 2 = .ok (.iload_n 1, 1) := by decide +kernel
theorem dX0_pack_3 : decode cX0_pack 3 = .ok (.istore 4, 2) := by decide +kernel
theorem dX0_pack_5 : decode cX0_pack 5 = .ok (.iload 4, 2) := by decide +kernel
theorem dX0_pack_7 : decode cX0_pack 7 = .ok (.iload_n 1, 1) := by decide +kernel
theorem dX0_pack_8 : decode cX0_pack 8 = .ok (.iconst 5, 1) := by decide +kernel
theorem dX0_pack_9 : decode cX0_pack 9 = .ok (.iadd, 1) := by decide +kernel
theorem dX0_pack_10 : decode cX0_pack 10 = .ok (.if_icmp .ge 28, 3) := by decide +kernel
theorem dX0_pack_13 : decode cX0_pack 13 = .ok (.lload_n 2, 1) := by decide +kernel
theorem dX0_pack_14 : decode cX0_pack 14 = .ok (.ldc2_w 59, 3) := by decide +kernel
theorem dX0_pack_17 : decode cX0_pack 17 = .ok (.lmul, 1) := by decide +kernel
theorem dX0_pack_18 : decode cX0_pack 18 = .ok (.aload_n 0, 1) := by decide +kernel
theorem dX0_pack_19 : decode cX0_pack 19 = .ok (.getfield 61, 3) := by decide +kernel
theorem dX0_pack_22 : decode cX0_pack 22 = .ok (.iload 4, 2) := by decide +kernel
theorem dX0_pack_24 : decode cX0_pack 24 = .ok (.iaload, 1) := by decide +kernel
theorem dX0_pack_25 : decode cX0_pack 25 = .ok (.i2l, 1) := by decide +kernel
theorem dX0_pack_26 : decode cX0_pack 26 = .ok (.ladd, 1) := by decide +kernel
theorem dX0_pack_27 : decode cX0_pack 27 = .ok (.ldc2_w 64, 3) := by decide +kernel
theorem dX0_pack_30 : decode cX0_pack 30 = .ok (.ladd, 1) := by decide +kernel
theorem dX0_pack_31 : decode cX0_pack 31 = .ok (.lstore_n 2, 1) := by decide +kernel
theorem dX0_pack_32 : decode cX0_pack 32 = .ok (.iinc 4 1, 3) := by decide +kernel
theorem dX0_pack_35 : decode cX0_pack 35 = .ok (.goto (-30), 3) := by decide +kernel
theorem dX0_pack_38 : decode cX0_pack 38 = .ok (.lload_n 2, 1) := by decide +kernel
theorem dX0_pack_39 : decode cX0_pack 39 = .ok (.lreturn, 1) := by decide +kernel
theorem dX0_findOrder_0 : decode cX0_findOrder 0 = .ok (.aload_n 0, 1) := by decide +kernel
theorem dX0_findOrder_1 : decode cX0_findOrder 1 = .ok (.getfield 20, 3) := by decide +kernel
theorem dX0_findOrder_4 : decode cX0_findOrder 4 = .ok (.iconst 0, 1) := by decide +kernel
theorem dX0_findOrder_5 : decode cX0_findOrder 5 = .ok (.aaload, 1) := by decide +kernel
theorem dX0_findOrder_6 : decode cX0_findOrder 6 = .ok (.aload_n 2, 1) := by decide +kernel
theorem dX0_findOrder_7 : decode cX0_findOrder 7 = .ok (.invokevirtual 66, 3) := by decide +kernel
theorem dX0_findOrder_10 : decode cX0_findOrder 10 = .ok (.iconst 0, 1) := by decide +kernel
theorem dX0_findOrder_11 : decode cX0_findOrder 11 = .ok (.istore 4, 2) := by decide +kernel
theorem dX0_findOrder_13 : decode cX0_findOrder 13 = .ok (.iload 4, 2) := by decide +kernel
theorem dX0_findOrder_15 : decode cX0_findOrder 15 = .ok (.iconst 4, 1) := by decide +kernel
theorem dX0_findOrder_16 : decode cX0_findOrder 16 = .ok (.if_icmp .gt 44, 3) := by decide +kernel
theorem dX0_findOrder_19 : decode cX0_findOrder 19 = .ok (.aload_n 0, 1) := by decide +kernel
theorem dX0_findOrder_20 : decode cX0_findOrder 20 = .ok (.aload_n 1, 1) := by decide +kernel
theorem dX0_findOrder_21 : decode cX0_findOrder 21 = .ok (.iconst 0, 1) := by decide +kernel
theorem dX0_findOrder_22 : decode cX0_findOrder 22 = .ok (.iload 4, 2) := by decide +kernel
theorem dX0_findOrder_24 : decode cX0_findOrder 24 = .ok (.iload_n 3, 1) := by decide +kernel
theorem dX0_findOrder_25 : decode cX0_findOrder 25 = .ok (.invokestatic 70, 3) := by decide +kernel
theorem dX0_findOrder_28 : decode cX0_findOrder 28 = .ok (.ifCond .eq 26, 3) := by decide +kernel
theorem dX0_findOrder_31 : decode cX0_findOrder 31 = .ok (.aload_n 0, 1) := by decide +kernel
theorem dX0_findOrder_32 : decode cX0_findOrder 32 = .ok (.getfield 24, 3) := by decide +kernel
theorem dX0_findOrder_35 : decode cX0_findOrder 35 = .ok (.iconst 0, 1) := by decide +kernel
theorem dX0_findOrder_36 : decode cX0_findOrder 36 = .ok (.aload_n 0, 1) := by decide +kernel
theorem dX0_findOrder_37 : decode cX0_findOrder 37 = .ok (.getfield 31, 3) := by decide +kernel
theorem dX0_findOrder_40 : decode cX0_findOrder 40 = .ok (.iconst 0, 1) := by decide +kernel
theorem dX0_findOrder_41 : decode cX0_findOrder 41 = .ok (.iload 4, 2) := by decide +kernel
theorem dX0_findOrder_43 : decode cX0_findOrder 43 = .ok (.invokestatic 74, 3) := by decide +kernel
theorem dX0_findOrder_46 : decode cX0_findOrder 46 = .ok (.aload_n 0, 1) := by decide +kernel
theorem dX0_findOrder_47 : decode cX0_findOrder 47 = .ok (.iload 4, 2) := by decide +kernel
theorem dX0_findOrder_49 : decode cX0_findOrder 49 = .ok (.putfield 37, 3) := by decide +kernel
theorem dX0_findOrder_52 : decode cX0_findOrder 52 = .ok (.iconst 1, 1) := by decide +kernel
theorem dX0_findOrder_53 : decode cX0_findOrder 53 = .ok (.ireturn, 1) := by decide +kernel
theorem dX0_findOrder_54 : decode cX0_findOrder 54 = .ok (.iinc 4 1, 3) := by decide +kernel
theorem dX0_findOrder_57 : decode cX0_findOrder 57 = .ok (.goto (-44), 3) := by decide +kernel
theorem dX0_findOrder_60 : decode cX0_findOrder 60 = .ok (.iconst 0, 1) := by decide +kernel
theorem dX0_findOrder_61 : decode cX0_findOrder 61 = .ok (.ireturn, 1) := by decide +kernel
theorem dX0_extend_0 : decode cX0_extend 0 = .ok (.aload_n 0, 1) := by decide +kernel
theorem dX0_extend_1 : decode cX0_extend 1 = .ok (.getfield 20, 3) := by decide +kernel
theorem dX0_extend_4 : decode cX0_extend 4 = .ok (.iload_n 2, 1) := by decide +kernel
theorem dX0_extend_5 : decode cX0_extend 5 = .ok (.aaload, 1) := by decide +kernel
theorem dX0_extend_6 : decode cX0_extend 6 = .ok (.astore 5, 2) := by decide +kernel
theorem dX0_extend_8 : decode cX0_extend 8 = .ok (.iload_n 2, 1) := by decide +kernel
theorem dX0_extend_9 : decode cX0_extend 9 = .ok (.iload_n 3, 1) := by decide +kernel
theorem dX0_extend_10 : decode cX0_extend 10 = .ok (.if_icmp .ge 8, 3) := by decide +kernel
theorem dX0_extend_13 : decode cX0_extend 13 = .ok (.iload_n 2, 1) := by decide +kernel
theorem dX0_extend_14 : decode cX0_extend 14 = .ok (.iconst 4, 1) := by decide +kernel
theorem dX0_extend_15 : decode cX0_extend 15 = .ok (.if_icmp .lt 23, 3) := by decide +kernel
theorem dX0_extend_18 : decode cX0_extend 18 = .ok (.aload 5, 2) := by decide +kernel
theorem dX0_extend_20 : decode cX0_extend 20 = .ok (.aload_n 1, 1) := by decide +kernel
theorem dX0_extend_21 : decode cX0_extend 21 = .ok (.getfield 80, 3) := by decide +kernel
theorem dX0_extend_24 : decode cX0_extend 24 = .ok (.invokevirtual 85, 3) := by decide +kernel
theorem dX0_extend_27 : decode cX0_extend 27 = .ok (.iload 4, 2) := by decide +kernel
theorem dX0_extend_29 : decode cX0_extend 29 = .ok (.if_icmp .ne 7, 3) := by decide +kernel
theorem dX0_extend_32 : decode cX0_extend 32 = .ok (.iconst 1, 1) := by decide +kernel
theorem dX0_extend_33 : decode cX0_extend 33 = .ok (.goto 4, 3) := by decide +kernel
theorem dX0_extend_36 : decode cX0_extend 36 = .ok (.iconst 0, 1) := by decide +kernel
theorem dX0_extend_37 : decode cX0_extend 37 = .ok (.ireturn, 1) := by decide +kernel
theorem dX0_extend_38 : decode cX0_extend 38 = .ok (.aload_n 0, 1) := by decide +kernel
theorem dX0_extend_39 : decode cX0_extend 39 = .ok (.getfield 20, 3) := by decide +kernel
theorem dX0_extend_42 : decode cX0_extend 42 = .ok (.iload_n 2, 1) := by decide +kernel
theorem dX0_extend_43 : decode cX0_extend 43 = .ok (.iconst 1, 1) := by decide +kernel
theorem dX0_extend_44 : decode cX0_extend 44 = .ok (.iadd, 1) := by decide +kernel
theorem dX0_extend_45 : decode cX0_extend 45 = .ok (.aaload, 1) := by decide +kernel
theorem dX0_extend_46 : decode cX0_extend 46 = .ok (.astore 6, 2) := by decide +kernel
theorem dX0_extend_48 : decode cX0_extend 48 = .ok (.iconst 0, 1) := by decide +kernel
theorem dX0_extend_49 : decode cX0_extend 49 = .ok (.istore 7, 2) := by decide +kernel
theorem dX0_extend_51 : decode cX0_extend 51 = .ok (.iload 7, 2) := by decide +kernel
theorem dX0_extend_53 : decode cX0_extend 53 = .ok (.aload_n 1, 1) := by decide +kernel
theorem dX0_extend_54 : decode cX0_extend 54 = .ok (.getfield 89, 3) := by decide +kernel
theorem dX0_extend_57 : decode cX0_extend 57 = .ok (.iconst 1, 1) := by decide +kernel
theorem dX0_extend_58 : decode cX0_extend 58 = .ok (.iaload, 1) := by decide +kernel
theorem dX0_extend_59 : decode cX0_extend 59 = .ok (.if_icmp .ge 66, 3) := by decide +kernel
theorem dX0_extend_62 : decode cX0_extend 62 = .ok (.aload 5, 2) := by decide +kernel
theorem dX0_extend_64 : decode cX0_extend 64 = .ok (.iload 7, 2) := by decide +kernel
theorem dX0_extend_66 : decode cX0_extend 66 = .ok (.invokevirtual 92, 3) := by decide +kernel
theorem dX0_extend_69 : decode cX0_extend 69 = .ok (.ifCond .ne 50, 3) := by decide +kernel
theorem dX0_extend_72 : decode cX0_extend 72 = .ok (.aload 6, 2) := by decide +kernel
theorem dX0_extend_74 : decode cX0_extend 74 = .ok (.aload 5, 2) := by decide +kernel
theorem dX0_extend_76 : decode cX0_extend 76 = .ok (.invokevirtual 66, 3) := by decide +kernel
theorem dX0_extend_79 : decode cX0_extend 79 = .ok (.aload 6, 2) := by decide +kernel
theorem dX0_extend_81 : decode cX0_extend 81 = .ok (.aload_n 1, 1) := by decide +kernel
theorem dX0_extend_82 : decode cX0_extend 82 = .ok (.iload 7, 2) := by decide +kernel
theorem dX0_extend_84 : decode cX0_extend 84 = .ok (.invokevirtual 96, 3) := by decide +kernel
theorem dX0_extend_87 : decode cX0_extend 87 = .ok (.pop, 1) := by decide +kernel
theorem dX0_extend_88 : decode cX0_extend 88 = .ok (.aload 6, 2) := by decide +kernel
theorem dX0_extend_90 : decode cX0_extend 90 = .ok (.aload_n 1, 1) := by decide +kernel
theorem dX0_extend_91 : decode cX0_extend 91 = .ok (.iconst 1, 1) := by decide +kernel
theorem dX0_extend_92 : decode cX0_extend 92 = .ok (.invokevirtual 100, 3) := by decide +kernel
theorem dX0_extend_95 : decode cX0_extend 95 = .ok (.aload_n 0, 1) := by decide +kernel
theorem dX0_extend_96 : decode cX0_extend 96 = .ok (.getfield 24, 3) := by decide +kernel
theorem dX0_extend_99 : decode cX0_extend 99 = .ok (.iload_n 2, 1) := by decide +kernel
theorem dX0_extend_100 : decode cX0_extend 100 = .ok (.iload 7, 2) := by decide +kernel
theorem dX0_extend_102 : decode cX0_extend 102 = .ok (.iastore, 1) := by decide +kernel
theorem dX0_extend_103 : decode cX0_extend 103 = .ok (.aload_n 0, 1) := by decide +kernel
theorem dX0_extend_104 : decode cX0_extend 104 = .ok (.aload_n 1, 1) := by decide +kernel
theorem dX0_extend_105 : decode cX0_extend 105 = .ok (.iload_n 2, 1) := by decide +kernel
theorem dX0_extend_106 : decode cX0_extend 106 = .ok (.iconst 1, 1) := by decide +kernel
theorem dX0_extend_107 : decode cX0_extend 107 = .ok (.iadd, 1) := by decide +kernel
theorem dX0_extend_108 : decode cX0_extend 108 = .ok (.iload_n 3, 1) := by decide +kernel
theorem dX0_extend_109 : decode cX0_extend 109 = .ok (.iload 4, 2) := by decide +kernel
theorem dX0_extend_111 : decode cX0_extend 111 = .ok (.invokestatic 70, 3) := by decide +kernel
theorem dX0_extend_114 : decode cX0_extend 114 = .ok (.ifCond .eq 5, 3) := by decide +kernel
theorem dX0_extend_117 : decode cX0_extend 117 = .ok (.iconst 1, 1) := by decide +kernel
theorem dX0_extend_118 : decode cX0_extend 118 = .ok (.ireturn, 1) := by decide +kernel
theorem dX0_extend_119 : decode cX0_extend 119 = .ok (.iinc 7 1, 3) := by decide +kernel
theorem dX0_extend_122 : decode cX0_extend 122 = .ok (.goto (-71), 3) := by decide +kernel
theorem dX0_extend_125 : decode cX0_extend 125 = .ok (.iconst 0, 1) := by decide +kernel
theorem dX0_extend_126 : decode cX0_extend 126 = .ok (.ireturn, 1) := by decide +kernel
theorem dX0_reap_0 : decode cX0_reap 0 = .ok (.iconst 0, 1) := by decide +kernel
theorem dX0_reap_1 : decode cX0_reap 1 = .ok (.istore 4, 2) := by decide +kernel
theorem dX0_reap_3 : decode cX0_reap 3 = .ok (.iload 4, 2) := by decide +kernel
theorem dX0_reap_5 : decode cX0_reap 5 = .ok (.bipush 6, 2) := by decide +kernel
theorem dX0_reap_7 : decode cX0_reap 7 = .ok (.if_icmp .ge 17, 3) := by decide +kernel
theorem dX0_reap_10 : decode cX0_reap 10 = .ok (.aload_n 0, 1) := by decide +kernel
theorem dX0_reap_11 : decode cX0_reap 11 = .ok (.getfield 34, 3) := by decide +kernel
theorem dX0_reap_14 : decode cX0_reap 14 = .ok (.iload 4, 2) := by decide +kernel
theorem dX0_reap_16 : decode cX0_reap 16 = .ok (.iconst 0, 1) := by decide +kernel
theorem dX0_reap_17 : decode cX0_reap 17 = .ok (.iastore, 1) := by decide +kernel
theorem dX0_reap_18 : decode cX0_reap 18 = .ok (.iinc 4 1, 3) := by decide +kernel
theorem dX0_reap_21 : decode cX0_reap 21 = .ok (.goto (-18), 3) := by decide +kernel
theorem dX0_reap_24 : decode cX0_reap 24 = .ok (.iconst 0, 1) := by decide +kernel
theorem dX0_reap_25 : decode cX0_reap 25 = .ok (.istore 4, 2) := by decide +kernel
theorem dX0_reap_27 : decode cX0_reap 27 = .ok (.iload 4, 2) := by decide +kernel
theorem dX0_reap_29 : decode cX0_reap 29 = .ok (.iload_n 3, 1) := by decide +kernel
theorem dX0_reap_30 : decode cX0_reap 30 = .ok (.if_icmp .ge 100, 3) := by decide +kernel
theorem dX0_reap_33 : decode cX0_reap 33 = .ok (.aload_n 0, 1) := by decide +kernel
theorem dX0_reap_34 : decode cX0_reap 34 = .ok (.getfield 34, 3) := by decide +kernel
theorem dX0_reap_37 : decode cX0_reap 37 = .ok (.iconst 0, 1) := by decide +kernel
theorem dX0_reap_38 : decode cX0_reap 38 = .ok (.aload_n 0, 1) := by decide +kernel
theorem dX0_reap_39 : decode cX0_reap 39 = .ok (.getfield 28, 3) := by decide +kernel
theorem dX0_reap_42 : decode cX0_reap 42 = .ok (.iconst 0, 1) := by decide +kernel
theorem dX0_reap_43 : decode cX0_reap 43 = .ok (.bipush 6, 2) := by decide +kernel
theorem dX0_reap_45 : decode cX0_reap 45 = .ok (.invokestatic 74, 3) := by decide +kernel
theorem dX0_reap_48 : decode cX0_reap 48 = .ok (.iconst 0, 1) := by decide +kernel
theorem dX0_reap_49 : decode cX0_reap 49 = .ok (.istore 5, 2) := by decide +kernel
theorem dX0_reap_51 : decode cX0_reap 51 = .ok (.iload 5, 2) := by decide +kernel
theorem dX0_reap_53 : decode cX0_reap 53 = .ok (.aload_n 1, 1) := by decide +kernel
theorem dX0_reap_54 : decode cX0_reap 54 = .ok (.getfield 89, 3) := by decide +kernel
theorem dX0_reap_57 : decode cX0_reap 57 = .ok (.iconst 2, 1) := by decide +kernel
theorem dX0_reap_58 : decode cX0_reap 58 = .ok (.iaload, 1) := by decide +kernel
theorem dX0_reap_59 : decode cX0_reap 59 = .ok (.if_icmp .ge 65, 3) := by decide +kernel
theorem dX0_reap_62 : decode cX0_reap 62 = .ok (.aload_n 0, 1) := by decide +kernel
theorem dX0_reap_63 : decode cX0_reap 63 = .ok (.getfield 28, 3) := by decide +kernel
theorem dX0_reap_66 : decode cX0_reap 66 = .ok (.aload_n 1, 1) := by decide +kernel
theorem dX0_reap_67 : decode cX0_reap 67 = .ok (.getfield 104, 3) := by decide +kernel
theorem dX0_reap_70 : decode cX0_reap 70 = .ok (.iload 5, 2) := by decide +kernel
theorem dX0_reap_72 : decode cX0_reap 72 = .ok (.iaload, 1) := by decide +kernel
theorem dX0_reap_73 : decode cX0_reap 73 = .ok (.iaload, 1) := by decide +kernel
theorem dX0_reap_74 : decode cX0_reap 74 = .ok (.aload_n 0, 1) := by decide +kernel
theorem dX0_reap_75 : decode cX0_reap 75 = .ok (.getfield 28, 3) := by decide +kernel
theorem dX0_reap_78 : decode cX0_reap 78 = .ok (.aload_n 1, 1) := by decide +kernel
theorem dX0_reap_79 : decode cX0_reap 79 = .ok (.getfield 107, 3) := by decide +kernel
theorem dX0_reap_82 : decode cX0_reap 82 = .ok (.iload 5, 2) := by decide +kernel
theorem dX0_reap_84 : decode cX0_reap 84 = .ok (.iaload, 1) := by decide +kernel
theorem dX0_reap_85 : decode cX0_reap 85 = .ok (.iaload, 1) := by decide +kernel
theorem dX0_reap_86 : decode cX0_reap 86 = .ok (.invokestatic 110, 3) := by decide +kernel
theorem dX0_reap_89 : decode cX0_reap 89 = .ok (.istore 6, 2) := by decide +kernel
theorem dX0_reap_91 : decode cX0_reap 91 = .ok (.aload_n 0, 1) := by decide +kernel
theorem dX0_reap_92 : decode cX0_reap 92 = .ok (.getfield 34, 3) := by decide +kernel
theorem dX0_reap_95 : decode cX0_reap 95 = .ok (.iload 5, 2) := by decide +kernel
theorem dX0_reap_97 : decode cX0_reap 97 = .ok (.aload_n 1, 1) := by decide +kernel
theorem dX0_reap_98 : decode cX0_reap 98 = .ok (.iload_n 2, 1) := by decide +kernel
theorem dX0_reap_99 : decode cX0_reap 99 = .ok (.iload 5, 2) := by decide +kernel
theorem dX0_reap_101 : decode cX0_reap 101 = .ok (.invokevirtual 116, 3) := by decide +kernel
theorem dX0_reap_104 : decode cX0_reap 104 = .ok (.aload_n 0, 1) := by decide +kernel
theorem dX0_reap_105 : decode cX0_reap 105 = .ok (.getfield 28, 3) := by decide +kernel
theorem dX0_reap_108 : decode cX0_reap 108 = .ok (.iload 5, 2) := by decide +kernel
theorem dX0_reap_110 : decode cX0_reap 110 = .ok (.iaload, 1) := by decide +kernel
theorem dX0_reap_111 : decode cX0_reap 111 = .ok (.iload 6, 2) := by decide +kernel
theorem dX0_reap_113 : decode cX0_reap 113 = .ok (.invokestatic 110, 3) := by decide +kernel
theorem dX0_reap_116 : decode cX0_reap 116 = .ok (.iadd, 1) := by decide +kernel
theorem dX0_reap_117 : decode cX0_reap 117 = .ok (.iastore, 1) := by decide +kernel
theorem dX0_reap_118 : decode cX0_reap 118 = .ok (.iinc 5 1, 3) := by decide +kernel
theorem dX0_reap_121 : decode cX0_reap 121 = .ok (.goto (-70), 3) := by decide +kernel
theorem dX0_reap_124 : decode cX0_reap 124 = .ok (.iinc 4 1, 3) := by decide +kernel
theorem dX0_reap_127 : decode cX0_reap 127 = .ok (.goto (-100), 3) := by decide +kernel
theorem dX0_reap_130 : decode cX0_reap 130 = .ok (.return_, 1) := by decide +kernel
theorem dX0_bestVerdict_0 : decode cX0_bestVerdict 0 = .ok (.iconst 1, 1) := by decide +kernel
theorem dX0_bestVerdict_1 : decode cX0_bestVerdict 1 = .ok (.istore_n 3, 1) := by decide +kernel
theorem dX0_bestVerdict_2 : decode cX0_bestVerdict 2 = .ok (.iconst 0, 1) := by decide +kernel
theorem dX0_bestVerdict_3 : decode cX0_bestVerdict 3 = .ok (.istore 4, 2) := by decide +kernel
theorem dX0_bestVerdict_5 : decode cX0_bestVerdict 5 = .ok (.iload 4, 2) := by decide +kernel
theorem dX0_bestVerdict_7 : decode cX0_bestVerdict 7 = .ok (.iconst (-1), 1) := by decide +kernel
theorem dX0_bestVerdict_8 : decode cX0_bestVerdict 8 = .ok (.if_icmp .lt 42, 3) := by decide +kernel
theorem dX0_bestVerdict_11 : decode cX0_bestVerdict 11 = .ok (.aload_n 1, 1) := by decide +kernel
theorem dX0_bestVerdict_12 : decode cX0_bestVerdict 12 = .ok (.iload_n 2, 1) := by decide +kernel
theorem dX0_bestVerdict_13 : decode cX0_bestVerdict 13 = .ok (.iload 4, 2) := by decide +kernel
theorem dX0_bestVerdict_15 : decode cX0_bestVerdict 15 = .ok (.invokevirtual 119, 3) := by decide +kernel
theorem dX0_bestVerdict_18 : decode cX0_bestVerdict 18 = .ok (.istore 5, 2) := by decide +kernel
theorem dX0_bestVerdict_20 : decode cX0_bestVerdict 20 = .ok (.aload_n 0, 1) := by decide +kernel
theorem dX0_bestVerdict_21 : decode cX0_bestVerdict 21 = .ok (.getfield 34, 3) := by decide +kernel
theorem dX0_bestVerdict_24 : decode cX0_bestVerdict 24 = .ok (.iload 5, 2) := by decide +kernel
theorem dX0_bestVerdict_26 : decode cX0_bestVerdict 26 = .ok (.iaload, 1) := by decide +kernel
theorem dX0_bestVerdict_27 : decode cX0_bestVerdict 27 = .ok (.aload_n 0, 1) := by decide +kernel
theorem dX0_bestVerdict_28 : decode cX0_bestVerdict 28 = .ok (.getfield 34, 3) := by decide +kernel
theorem dX0_bestVerdict_31 : decode cX0_bestVerdict 31 = .ok (.aload_n 1, 1) := by decide +kernel
theorem dX0_bestVerdict_32 : decode cX0_bestVerdict 32 = .ok (.iload_n 2, 1) := by decide +kernel
theorem dX0_bestVerdict_33 : decode cX0_bestVerdict 33 = .ok (.iload_n 3, 1) := by decide +kernel
theorem dX0_bestVerdict_34 : decode cX0_bestVerdict 34 = .ok (.invokevirtual 119, 3) := by decide +kernel
theorem dX0_bestVerdict_37 : decode cX0_bestVerdict 37 = .ok (.iaload, 1) := by decide +kernel
theorem dX0_bestVerdict_38 : decode cX0_bestVerdict 38 = .ok (.if_icmp .le 6, 3) := by decide +kernel
theorem dX0_bestVerdict_41 : decode cX0_bestVerdict 41 = .ok (.iload 4, 2) := by decide +kernel
theorem dX0_bestVerdict_43 : decode cX0_bestVerdict 43 = .ok (.istore_n 3, 1) := by decide +kernel
theorem dX0_bestVerdict_44 : decode cX0_bestVerdict 44 = .ok (.iinc 4 (-1), 3) := by decide +kernel
theorem dX0_bestVerdict_47 : decode cX0_bestVerdict 47 = .ok (.goto (-42), 3) := by decide +kernel
theorem dX0_bestVerdict_50 : decode cX0_bestVerdict 50 = .ok (.iload_n 3, 1) := by decide +kernel
theorem dX0_bestVerdict_51 : decode cX0_bestVerdict 51 = .ok (.ireturn, 1) := by decide +kernel
theorem dX1_init_0 : decode cX1_init 0 = .ok (.aload_n 0, 1) := by decide +kernel
theorem dX1_init_1 : decode cX1_init 1 = .ok (.invokespecial 3, 3) := by decide +kernel
theorem dX1_init_4 : decode cX1_init 4 = .ok (.aload_n 0, 1) := by decide +kernel
theorem dX1_init_5 : decode cX1_init 5 = .ok (.iconst 4, 1) := by decide +kernel
theorem dX1_init_6 : decode cX1_init 6 = .ok (.newarray .int, 2) := by decide +kernel
theorem dX1_init_8 : decode cX1_init 8 = .ok (.putfield 9, 3) := by decide +kernel
theorem dX1_init_11 : decode cX1_init 11 = .ok (.aload_n 0, 1) := by decide +kernel
theorem dX1_init_12 : decode cX1_init 12 = .ok (.bipush 40, 2) := by decide +kernel
theorem dX1_init_14 : decode cX1_init 14 = .ok (.newarray .long, 2) := by decide +kernel
theorem dX1_init_16 : decode cX1_init 16 = .ok (.putfield 15, 3) := by decide +kernel
theorem dX1_init_19 : decode cX1_init 19 = .ok (.aload_n 0, 1) := by decide +kernel
theorem dX1_init_20 : decode cX1_init 20 = .ok (.bipush 10, 2) := by decide +kernel
theorem dX1_init_22 : decode cX1_init 22 = .ok (.newarray .int, 2) := by decide +kernel
theorem dX1_init_24 : decode cX1_init 24 = .ok (.putfield 19, 3) := by decide +kernel
theorem dX1_init_27 : decode cX1_init 27 = .ok (.aload_n 0, 1) := by decide +kernel
theorem dX1_init_28 : decode cX1_init 28 = .ok (.bipush 10, 2) := by decide +kernel
theorem dX1_init_30 : decode cX1_init 30 = .ok (.newarray .int, 2) := by decide +kernel
theorem dX1_init_32 : decode cX1_init 32 = .ok (.putfield 22, 3) := by decide +kernel
theorem dX1_init_35 : decode cX1_init 35 = .ok (.aload_n 0, 1) := by decide +kernel
theorem dX1_init_36 : decode cX1_init 36 = .ok (.bipush 10, 2) := by decide +kernel
theorem dX1_init_38 : decode cX1_init 38 = .ok (.newarray .int, 2) := by decide +kernel
theorem dX1_init_40 : decode cX1_init 40 = .ok (.putfield 25, 3) := by decide +kernel
theorem dX1_init_43 : decode cX1_init 43 = .ok (.aload_n 0, 1) := by decide +kernel
theorem dX1_init_44 : decode cX1_init 44 = .ok (.bipush 100, 2) := by decide +kernel
theorem dX1_init_46 : decode cX1_init 46 = .ok (.newarray .int, 2) := by decide +kernel
theorem dX1_init_48 : decode cX1_init 48 = .ok (.putfield 28, 3) := by decide +kernel
theorem dX1_init_51 : decode cX1_init 51 = .ok (.aload_n 0, 1) := by decide +kernel
theorem dX1_init_52 : decode cX1_init 52 = .ok (.bipush 10, 2) := by decide +kernel
theorem dX1_init_54 : decode cX1_init 54 = .ok (.newarray .int, 2) := by decide +kernel
theorem dX1_init_56 : decode cX1_init 56 = .ok (.putfield 31, 3) := by decide +kernel
theorem dX1_init_59 : decode cX1_init 59 = .ok (.aload_n 0, 1) := by decide +kernel
theorem dX1_init_60 : decode cX1_init 60 = .ok (.bipush 6, 2) := by decide +kernel
theorem dX1_init_62 : decode cX1_init 62 = .ok (.newarray .int, 2) := by decide +kernel
theorem dX1_init_64 : decode cX1_init 64 = .ok (.putfield 34, 3) := by decide +kernel
theorem dX1_init_67 : decode cX1_init 67 = .ok (.aload_n 0, 1) := by decide +kernel
theorem dX1_init_68 : decode cX1_init 68 = .ok (.bipush 6, 2) := by decide +kernel
theorem dX1_init_70 : decode cX1_init 70 = .ok (.newarray .int, 2) := by decide +kernel
theorem dX1_init_72 : decode cX1_init 72 = .ok (.putfield 37, 3) := by decide +kernel
theorem dX1_init_75 : decode cX1_init 75 = .ok (.aload_n 0, 1) := by decide +kernel
theorem dX1_init_76 : decode cX1_init 76 = .ok (.bipush 6, 2) := by decide +kernel
theorem dX1_init_78 : decode cX1_init 78 = .ok (.newarray .int, 2) := by decide +kernel
theorem dX1_init_80 : decode cX1_init 80 = .ok (.putfield 40, 3) := by decide +kernel
theorem dX1_init_83 : decode cX1_init 83 = .ok (.aload_n 0, 1) := by decide +kernel
theorem dX1_init_84 : decode cX1_init 84 = .ok (.bipush 24, 2) := by decide +kernel
theorem dX1_init_86 : decode cX1_init 86 = .ok (.newarray .int, 2) := by decide +kernel
theorem dX1_init_88 : decode cX1_init 88 = .ok (.putfield 43, 3) := by decide +kernel
theorem dX1_init_91 : decode cX1_init 91 = .ok (.aload_n 0, 1) := by decide +kernel
theorem dX1_init_92 : decode cX1_init 92 = .ok (.iconst 0, 1) := by decide +kernel
theorem dX1_init_93 : decode cX1_init 93 = .ok (.putfield 46, 3) := by decide +kernel
theorem dX1_init_96 : decode cX1_init 96 = .ok (.aload_n 0, 1) := by decide +kernel
theorem dX1_init_97 : decode cX1_init 97 = .ok (.iconst 0, 1) := by decide +kernel
theorem dX1_init_98 : decode cX1_init 98 = .ok (.putfield 50, 3) := by decide +kernel
theorem dX1_init_101 : decode cX1_init 101 = .ok (.return_, 1) := by decide +kernel
theorem dX1_clear_0 : decode cX1_clear 0 = .ok (.iconst 0, 1) := by decide +kernel
theorem dX1_clear_1 : decode cX1_clear 1 = .ok (.istore_n 1, 1) := by decide +kernel
theorem dX1_clear_2 : decode cX1_clear 2 = .ok (.iload_n 1, 1) := by decide +kernel
theorem dX1_clear_3 : decode cX1_clear 3 = .ok (.iconst 4, 1) := by decide +kernel
theorem dX1_clear_4 : decode cX1_clear 4 = .ok (.if_icmp .ge 16, 3) := by decide +kernel
theorem dX1_clear_7 : decode cX1_clear 7 = .ok (.aload_n 0, 1) := by decide +kernel
theorem dX1_clear_8 : decode cX1_clear 8 = .ok (.getfield 9, 3) := by decide +kernel
theorem dX1_clear_11 : decode cX1_clear 11 = .ok (.iload_n 1, 1) := by decide +kernel
theorem dX1_clear_12 : decode cX1_clear 12 = .ok (.iconst 0, 1) := by decide +kernel
theorem dX1_clear_13 : decode cX1_clear 13 = .ok (.iastore, 1) := by decide +kernel
theorem dX1_clear_14 : decode cX1_clear 14 = .ok (.iinc 1 1, 3) := by decide +kernel
theorem dX1_clear_17 : decode cX1_clear 17 = .ok (.goto (-15), 3) := by decide +kernel
theorem dX1_clear_20 : decode cX1_clear 20 = .ok (.iconst 0, 1) := by decide +kernel
theorem dX1_clear_21 : decode cX1_clear 21 = .ok (.istore_n 1, 1) := by decide +kernel
theorem dX1_clear_22 : decode cX1_clear 22 = .ok (.iload_n 1, 1) := by decide +kernel
theorem dX1_clear_23 : decode cX1_clear 23 = .ok (.aload_n 0, 1) := by decide +kernel
theorem dX1_clear_24 : decode cX1_clear 24 = .ok (.getfield 28, 3) := by decide +kernel
theorem dX1_clear_27 : decode cX1_clear 27 = .ok (.arraylength, 1) := by decide +kernel
theorem dX1_clear_28 : decode cX1_clear 28 = .ok (.if_icmp .ge 16, 3) := by decide +kernel
theorem dX1_clear_31 : decode cX1_clear 31 = .ok (.aload_n 0, 1) := by decide +kernel
theorem dX1_clear_32 : decode cX1_clear 32 = .ok (.getfield 28, 3) := by decide +kernel
theorem dX1_clear_35 : decode cX1_clear 35 = .ok (.iload_n 1, 1) := by decide +kernel
theorem dX1_clear_36 : decode cX1_clear 36 = .ok (.iconst 0, 1) := by decide +kernel
theorem dX1_clear_37 : decode cX1_clear 37 = .ok (.iastore, 1) := by decide +kernel
theorem dX1_clear_38 : decode cX1_clear 38 = .ok (.iinc 1 1, 3) := by decide +kernel
theorem dX1_clear_41 : decode cX1_clear 41 = .ok (.goto (-19), 3) := by decide +kernel
theorem dX1_clear_44 : decode cX1_clear 44 = .ok (.iconst 0, 1) := by decide +kernel
theorem dX1_clear_45 : decode cX1_clear 45 = .ok (.istore_n 1, 1) := by decide +kernel
theorem dX1_clear_46 : decode cX1_clear 46 = .ok (.iload_n 1, 1) := by decide +kernel
theorem dX1_clear_47 : decode cX1_clear 47 = .ok (.aload_n 0, 1) := by decide +kernel
theorem dX1_clear_48 : decode cX1_clear 48 = .ok (.getfield 31, 3) := by decide +kernel
theorem dX1_clear_51 : decode cX1_clear 51 = .ok (.arraylength, 1) := by decide +kernel
theorem dX1_clear_52 : decode cX1_clear 52 = .ok (.if_icmp .ge 16, 3) := by decide +kernel
theorem dX1_clear_55 : decode cX1_clear 55 = .ok (.aload_n 0, 1) := by decide +kernel
theorem dX1_clear_56 : decode cX1_clear 56 = .ok (.getfield 31, 3) := by decide +kernel
theorem dX1_clear_59 : decode cX1_clear 59 = .ok (.iload_n 1, 1) := by decide +kernel
theorem dX1_clear_60 : decode cX1_clear 60 = .ok (.iconst 0, 1) := by decide +kernel
theorem dX1_clear_61 : decode cX1_clear 61 = .ok (.iastore, 1) := by decide +kernel
theorem dX1_clear_62 : decode cX1_clear 62 = .ok (.iinc 1 1, 3) := by decide +kernel
theorem dX1_clear_65 : decode cX1_clear 65 = .ok (.goto (-19), 3) := by decide +kernel
theorem dX1_clear_68 : decode cX1_clear 68 = .ok (.iconst 0, 1) := by decide +kernel
theorem dX1_clear_69 : decode cX1_clear 69 = .ok (.istore_n 1, 1) := by decide +kernel
theorem dX1_clear_70 : decode cX1_clear 70 = .ok (.iload_n 1, 1) := by decide +kernel
theorem dX1_clear_71 : decode cX1_clear 71 = .ok (.aload_n 0, 1) := by decide +kernel
theorem dX1_clear_72 : decode cX1_clear 72 = .ok (.getfield 43, 3) := by decide +kernel
theorem dX1_clear_75 : decode cX1_clear 75 = .ok (.arraylength, 1) := by decide +kernel
theorem dX1_clear_76 : decode cX1_clear 76 = .ok (.if_icmp .ge 16, 3) := by decide +kernel
theorem dX1_clear_79 : decode cX1_clear 79 = .ok (.aload_n 0, 1) := by decide +kernel
theorem dX1_clear_80 : decode cX1_clear 80 = .ok (.getfield 43, 3) := by decide +kernel
theorem dX1_clear_83 : decode cX1_clear 83 = .ok (.iload_n 1, 1) := by decide +kernel
theorem dX1_clear_84 : decode cX1_clear 84 = .ok (.iconst 0, 1) := by decide +kernel
theorem dX1_clear_85 : decode cX1_clear 85 = .ok (.iastore, 1) := by decide +kernel
theorem dX1_clear_86 : decode cX1_clear 86 = .ok (.iinc 1 1, 3) := by decide +kernel
theorem dX1_clear_89 : decode cX1_clear 89 = .ok (.goto (-19), 3) := by decide +kernel
theorem dX1_clear_92 : decode cX1_clear 92 = .ok (.aload_n 0, 1) := by decide +kernel
theorem dX1_clear_93 : decode cX1_clear 93 = .ok (.iconst 0, 1) := by decide +kernel
theorem dX1_clear_94 : decode cX1_clear 94 = .ok (.putfield 46, 3) := by decide +kernel
theorem dX1_clear_97 : decode cX1_clear 97 = .ok (.aload_n 0, 1) := by decide +kernel
theorem dX1_clear_98 : decode cX1_clear 98 = .ok (.iconst 0, 1) := by decide +kernel
theorem dX1_clear_99 : decode cX1_clear 99 = .ok (.putfield 50, 3) := by decide +kernel
theorem dX1_clear_102 : decode cX1_clear 102 = .ok (.return_, 1) := by decide +kernel
theorem dX1_copyFrom_0 : decode cX1_copyFrom 0 = .ok (.aload_n 1, 1) := by decide +kernel
theorem dX1_copyFrom_1 : decode cX1_copyFrom 1 = .ok (.getfield 9, 3) := by decide +kernel
theorem dX1_copyFrom_4 : decode cX1_copyFrom 4 = .ok (.iconst 0, 1) := by decide +kernel
theorem dX1_copyFrom_5 : decode cX1_copyFrom 5 = .ok (.aload_n 0, 1) := by decide +kernel
theorem dX1_copyFrom_6 : decode cX1_copyFrom 6 = .ok (.getfield 9, 3) := by decide +kernel
theorem dX1_copyFrom_9 : decode cX1_copyFrom 9 = .ok (.iconst 0, 1) := by decide +kernel
theorem dX1_copyFrom_10 : decode cX1_copyFrom 10 = .ok (.aload_n 0, 1) := by decide +kernel
theorem dX1_copyFrom_11 : decode cX1_copyFrom 11 = .ok (.getfield 9, 3) := by decide +kernel
theorem dX1_copyFrom_14 : decode cX1_copyFrom 14 = .ok (.arraylength, 1) := by decide +kernel
theorem dX1_copyFrom_15 : decode cX1_copyFrom 15 = .ok (.invokestatic 53, 3) := by decide +kernel
theorem dX1_copyFrom_18 : decode cX1_copyFrom 18 = .ok (.aload_n 1, 1) := by decide +kernel
theorem dX1_copyFrom_19 : decode cX1_copyFrom 19 = .ok (.getfield 15, 3) := by decide +kernel
theorem dX1_copyFrom_22 : decode cX1_copyFrom 22 = .ok (.iconst 0, 1) := by decide +kernel
theorem dX1_copyFrom_23 : decode cX1_copyFrom 23 = .ok (.aload_n 0, 1) := by decide +kernel
theorem dX1_copyFrom_24 : decode cX1_copyFrom 24 = .ok (.getfield 15, 3) := by decide +kernel
theorem dX1_copyFrom_27 : decode cX1_copyFrom 27 = .ok (.iconst 0, 1) := by decide +kernel
theorem dX1_copyFrom_28 : decode cX1_copyFrom 28 = .ok (.aload_n 0, 1) := by decide +kernel
theorem dX1_copyFrom_29 : decode cX1_copyFrom 29 = .ok (.getfield 15, 3) := by decide +kernel
theorem dX1_copyFrom_32 : decode cX1_copyFrom 32 = .ok (.arraylength, 1) := by decide +kernel
theorem dX1_copyFrom_33 : decode cX1_copyFrom 33 = .ok (.invokestatic 53, 3) := by decide +kernel
theorem dX1_copyFrom_36 : decode cX1_copyFrom 36 = .ok (.aload_n 1, 1) := by decide +kernel
theorem dX1_copyFrom_37 : decode cX1_copyFrom 37 = .ok (.getfield 19, 3) := by decide +kernel
theorem dX1_copyFrom_40 : decode cX1_copyFrom 40 = .ok (.iconst 0, 1) := by decide +kernel
theorem dX1_copyFrom_41 : decode cX1_copyFrom 41 = .ok (.aload_n 0, 1) := by decide +kernel
theorem dX1_copyFrom_42 : decode cX1_copyFrom 42 = .ok (.getfield 19, 3) := by decide +kernel
theorem dX1_copyFrom_45 : decode cX1_copyFrom 45 = .ok (.iconst 0, 1) := by decide +kernel
theorem dX1_copyFrom_46 : decode cX1_copyFrom 46 = .ok (.aload_n 0, 1) := by decide +kernel
theorem dX1_copyFrom_47 : decode cX1_copyFrom 47 = .ok (.getfield 19, 3) := by decide +kernel
theorem dX1_copyFrom_50 : decode cX1_copyFrom 50 = .ok (.arraylength, 1) := by decide +kernel
theorem dX1_copyFrom_51 : decode cX1_copyFrom 51 = .ok (.invokestatic 53, 3) := by decide +kernel
theorem dX1_copyFrom_54 : decode cX1_copyFrom 54 = .ok (.aload_n 1, 1) := by decide +kernel
theorem dX1_copyFrom_55 : decode cX1_copyFrom 55 = .ok (.getfield 22, 3) := by decide +kernel
theorem dX1_copyFrom_58 : decode cX1_copyFrom 58 = .ok (.iconst 0, 1) := by decide +kernel
theorem dX1_copyFrom_59 : decode cX1_copyFrom 59 = .ok (.aload_n 0, 1) := by decide +kernel
theorem dX1_copyFrom_60 : decode cX1_copyFrom 60 = .ok (.getfield 22, 3) := by decide +kernel
theorem dX1_copyFrom_63 : decode cX1_copyFrom 63 = .ok (.iconst 0, 1) := by decide +kernel
theorem dX1_copyFrom_64 : decode cX1_copyFrom 64 = .ok (.aload_n 0, 1) := by decide +kernel
theorem dX1_copyFrom_65 : decode cX1_copyFrom 65 = .ok (.getfield 22, 3) := by decide +kernel
theorem dX1_copyFrom_68 : decode cX1_copyFrom 68 = .ok (.arraylength, 1) := by decide +kernel
theorem dX1_copyFrom_69 : decode cX1_copyFrom 69 = .ok (.invokestatic 53, 3) := by decide +kernel
theorem dX1_copyFrom_72 : decode cX1_copyFrom 72 = .ok (.aload_n 1, 1) := by decide +kernel
theorem dX1_copyFrom_73 : decode cX1_copyFrom 73 = .ok (.getfield 25, 3) := by decide +kernel
theorem dX1_copyFrom_76 : decode cX1_copyFrom 76 = .ok (.iconst 0, 1) := by decide +kernel
theorem dX1_copyFrom_77 : decode cX1_copyFrom 77 = .ok (.aload_n 0, 1) := by decide +kernel
theorem dX1_copyFrom_78 : decode cX1_copyFrom 78 = .ok (.getfield 25, 3) := by decide +kernel
theorem dX1_copyFrom_81 : decode cX1_copyFrom 81 = .ok (.iconst 0, 1) := by decide +kernel
theorem dX1_copyFrom_82 : decode cX1_copyFrom 82 = .ok (.aload_n 0, 1) := by decide +kernel
theorem dX1_copyFrom_83 : decode cX1_copyFrom 83 = .ok (.getfield 25, 3) := by decide +kernel
theorem dX1_copyFrom_86 : decode cX1_copyFrom 86 = .ok (.arraylength, 1) := by decide +kernel
theorem dX1_copyFrom_87 : decode cX1_copyFrom 87 = .ok (.invokestatic 53, 3) := by decide +kernel
theorem dX1_copyFrom_90 : decode cX1_copyFrom 90 = .ok (.aload_n 1, 1) := by decide +kernel
theorem dX1_copyFrom_91 : decode cX1_copyFrom 91 = .ok (.getfield 28, 3) := by decide +kernel
theorem dX1_copyFrom_94 : decode cX1_copyFrom 94 = .ok (.iconst 0, 1) := by decide +kernel
theorem dX1_copyFrom_95 : decode cX1_copyFrom 95 = .ok (.aload_n 0, 1) := by decide +kernel
theorem dX1_copyFrom_96 : decode cX1_copyFrom 96 = .ok (.getfield 28, 3) := by decide +kernel
theorem dX1_copyFrom_99 : decode cX1_copyFrom 99 = .ok (.iconst 0, 1) := by decide +kernel
theorem dX1_copyFrom_100 : decode cX1_copyFrom 100 = .ok (.aload_n 0, 1) := by decide +kernel
theorem dX1_copyFrom_101 : decode cX1_copyFrom 101 = .ok (.getfield 28, 3) := by decide +kernel
theorem dX1_copyFrom_104 : decode cX1_copyFrom 104 = .ok (.arraylength, 1) := by decide +kernel
theorem dX1_copyFrom_105 : decode cX1_copyFrom 105 = .ok (.invokestatic 53, 3) := by decide +kernel
theorem dX1_copyFrom_108 : decode cX1_copyFrom 108 = .ok (.aload_n 1, 1) := by decide +kernel
theorem dX1_copyFrom_109 : decode cX1_copyFrom 109 = .ok (.getfield 31, 3) := by decide +kernel
theorem dX1_copyFrom_112 : decode cX1_copyFrom 112 = .ok (.iconst 0, 1) := by decide +kernel
theorem dX1_copyFrom_113 : decode cX1_copyFrom 113 = .ok (.aload_n 0, 1) := by decide +kernel
theorem dX1_copyFrom_114 : decode cX1_copyFrom 114 = .ok (.getfield 31, 3) := by decide +kernel
theorem dX1_copyFrom_117 : decode cX1_copyFrom 117 = .ok (.iconst 0, 1) := by decide +kernel
theorem dX1_copyFrom_118 : decode cX1_copyFrom 118 = .ok (.aload_n 0, 1) := by decide +kernel
theorem dX1_copyFrom_119 : decode cX1_copyFrom 119 = .ok (.getfield 31, 3) := by decide +kernel
theorem dX1_copyFrom_122 : decode cX1_copyFrom 122 = .ok (.arraylength, 1) := by decide +kernel
theorem dX1_copyFrom_123 : decode cX1_copyFrom 123 = .ok (.invokestatic 53, 3) := by decide +kernel
theorem dX1_copyFrom_126 : decode cX1_copyFrom 126 = .ok (.aload_n 1, 1) := by decide +kernel
theorem dX1_copyFrom_127 : decode cX1_copyFrom 127 = .ok (.getfield 34, 3) := by decide +kernel
theorem dX1_copyFrom_130 : decode cX1_copyFrom 130 = .ok (.iconst 0, 1) := by decide +kernel
theorem dX1_copyFrom_131 : decode cX1_copyFrom 131 = .ok (.aload_n 0, 1) := by decide +kernel
theorem dX1_copyFrom_132 : decode cX1_copyFrom 132 = .ok (.getfield 34, 3) := by decide +kernel
theorem dX1_copyFrom_135 : decode cX1_copyFrom 135 = .ok (.iconst 0, 1) := by decide +kernel
theorem dX1_copyFrom_136 : decode cX1_copyFrom 136 = .ok (.aload_n 0, 1) := by decide +kernel
theorem dX1_copyFrom_137 : decode cX1_copyFrom 137 = .ok (.getfield 34, 3) := by decide +kernel
theorem dX1_copyFrom_140 : decode cX1_copyFrom 140 = .ok (.arraylength, 1) := by decide +kernel
theorem dX1_copyFrom_141 : decode cX1_copyFrom 141 = .ok (.invokestatic 53, 3) := by decide +kernel
theorem dX1_copyFrom_144 : decode cX1_copyFrom 144 = .ok (.aload_n 1, 1) := by decide +kernel
theorem dX1_copyFrom_145 : decode cX1_copyFrom 145 = .ok (.getfield 37, 3) := by decide +kernel
theorem dX1_copyFrom_148 : decode cX1_copyFrom 148 = .ok (.iconst 0, 1) := by decide +kernel
theorem dX1_copyFrom_149 : decode cX1_copyFrom 149 = .ok (.aload_n 0, 1) := by decide +kernel
theorem dX1_copyFrom_150 : decode cX1_copyFrom 150 = .ok (.getfield 37, 3) := by decide +kernel
theorem dX1_copyFrom_153 : decode cX1_copyFrom 153 = .ok (.iconst 0, 1) := by decide +kernel
theorem dX1_copyFrom_154 : decode cX1_copyFrom 154 = .ok (.aload_n 0, 1) := by decide +kernel
theorem dX1_copyFrom_155 : decode cX1_copyFrom 155 = .ok (.getfield 37, 3) := by decide +kernel
theorem dX1_copyFrom_158 : decode cX1_copyFrom 158 = .ok (.arraylength, 1) := by decide +kernel
theorem dX1_copyFrom_159 : decode cX1_copyFrom 159 = .ok (.invokestatic 53, 3) := by decide +kernel
theorem dX1_copyFrom_162 : decode cX1_copyFrom 162 = .ok (.aload_n 1, 1) := by decide +kernel
theorem dX1_copyFrom_163 : decode cX1_copyFrom 163 = .ok (.getfield 40, 3) := by decide +kernel
theorem dX1_copyFrom_166 : decode cX1_copyFrom 166 = .ok (.iconst 0, 1) := by decide +kernel
theorem dX1_copyFrom_167 : decode cX1_copyFrom 167 = .ok (.aload_n 0, 1) := by decide +kernel
theorem dX1_copyFrom_168 : decode cX1_copyFrom 168 = .ok (.getfield 40, 3) := by decide +kernel
theorem dX1_copyFrom_171 : decode cX1_copyFrom 171 = .ok (.iconst 0, 1) := by decide +kernel
theorem dX1_copyFrom_172 : decode cX1_copyFrom 172 = .ok (.aload_n 0, 1) := by decide +kernel
theorem dX1_copyFrom_173 : decode cX1_copyFrom 173 = .ok (.getfield 40, 3) := by decide +kernel
theorem dX1_copyFrom_176 : decode cX1_copyFrom 176 = .ok (.arraylength, 1) := by decide +kernel
theorem dX1_copyFrom_177 : decode cX1_copyFrom 177 = .ok (.invokestatic 53, 3) := by decide +kernel
theorem dX1_copyFrom_180 : decode cX1_copyFrom 180 = .ok (.aload_n 1, 1) := by decide +kernel
theorem dX1_copyFrom_181 : decode cX1_copyFrom 181 = .ok (.getfield 43, 3) := by decide +kernel
theorem dX1_copyFrom_184 : decode cX1_copyFrom 184 = .ok (.iconst 0, 1) := by decide +kernel
theorem dX1_copyFrom_185 : decode cX1_copyFrom 185 = .ok (.aload_n 0, 1) := by decide +kernel
theorem dX1_copyFrom_186 : decode cX1_copyFrom 186 = .ok (.getfield 43, 3) := by decide +kernel
theorem dX1_copyFrom_189 : decode cX1_copyFrom 189 = .ok (.iconst 0, 1) := by decide +kernel
theorem dX1_copyFrom_190 : decode cX1_copyFrom 190 = .ok (.aload_n 0, 1) := by decide +kernel
theorem dX1_copyFrom_191 : decode cX1_copyFrom 191 = .ok (.getfield 43, 3) := by decide +kernel
theorem dX1_copyFrom_194 : decode cX1_copyFrom 194 = .ok (.arraylength, 1) := by decide +kernel
theorem dX1_copyFrom_195 : decode cX1_copyFrom 195 = .ok (.invokestatic 53, 3) := by decide +kernel
theorem dX1_copyFrom_198 : decode cX1_copyFrom 198 = .ok (.aload_n 0, 1) := by decide +kernel
theorem dX1_copyFrom_199 : decode cX1_copyFrom 199 = .ok (.aload_n 1, 1) := by decide +kernel
theorem dX1_copyFrom_200 : decode cX1_copyFrom 200 = .ok (.getfield 46, 3) := by decide +kernel
theorem dX1_copyFrom_203 : decode cX1_copyFrom 203 = .ok (.putfield 46, 3) := by decide +kernel
theorem dX1_copyFrom_206 : decode cX1_copyFrom 206 = .ok (.aload_n 0, 1) := by decide +kernel
theorem dX1_copyFrom_207 : decode cX1_copyFrom 207 = .ok (.aload_n 1, 1) := by decide +kernel
theorem dX1_copyFrom_208 : decode cX1_copyFrom 208 = .ok (.getfield 50, 3) := by decide +kernel
theorem dX1_copyFrom_211 : decode cX1_copyFrom 211 = .ok (.putfield 50, 3) := by decide +kernel
theorem dX1_copyFrom_214 : decode cX1_copyFrom 214 = .ok (.return_, 1) := by decide +kernel
theorem dX1_find_0 : decode cX1_find 0 = .ok (.iconst 0, 1) := by decide +kernel
theorem dX1_find_1 : decode cX1_find 1 = .ok (.istore 4, 2) := by decide +kernel
theorem dX1_find_3 : decode cX1_find 3 = .ok (.iload 4, 2) := by decide +kernel
theorem dX1_find_5 : decode cX1_find 5 = .ok (.aload_n 0, 1) := by decide +kernel
theorem dX1_find_6 : decode cX1_find 6 = .ok (.getfield 9, 3) := by decide +kernel
theorem dX1_find_9 : decode cX1_find 9 = .ok (.iload_n 1, 1) := by decide +kernel
theorem dX1_find_10 : decode cX1_find 10 = .ok (.iaload, 1) := by decide +kernel
theorem dX1_find_11 : decode cX1_find 11 = .ok (.if_icmp .ge 29, 3) := by decide +kernel
theorem dX1_find_14 : decode cX1_find 14 = .ok (.aload_n 0, 1) := by decide +kernel
theorem dX1_find_15 : decode cX1_find 15 = .ok (.getfield 15, 3) := by decide +kernel
theorem dX1_find_18 : decode cX1_find 18 = .ok (.iload_n 1, 1) := by decide +kernel
theorem dX1_find_19 : decode cX1_find 19 = .ok (.bipush 10, 2) := by decide +kernel
theorem dX1_find_21 : decode cX1_find 21 = .ok (.imul, 1) := by decide +kernel
theorem dX1_find_22 : decode cX1_find 22 = .ok (.iload 4, 2) := by decide +kernel
theorem dX1_find_24 : decode cX1_find 24 = .ok (.iadd, 1) := by decide +kernel
theorem dX1_find_25 : decode cX1_find 25 = .ok (.laload, 1) := by decide +kernel
theorem dX1_find_26 : decode cX1_find 26 = .ok (.lload_n 2, 1) := by decide +kernel
theorem dX1_find_27 : decode cX1_find 27 = .ok (.lcmp, 1) := by decide +kernel
theorem dX1_find_28 : decode cX1_find 28 = .ok (.ifCond .ne 6, 3) := by decide +kernel
theorem dX1_find_31 : decode cX1_find 31 = .ok (.iload 4, 2) := by decide +kernel
theorem dX1_find_33 : decode cX1_find 33 = .ok (.ireturn, 1) := by decide +kernel
theorem dX1_find_34 : decode cX1_find 34 = .ok (.iinc 4 1, 3) := by decide +kernel
theorem dX1_find_37 : decode cX1_find 37 = .ok (.goto (-34), 3) := by decide +kernel
theorem dX1_find_40 : decode cX1_find 40 = .ok (.iconst (-1), 1) := by decide +kernel
theorem dX1_find_41 : decode cX1_find 41 = .ok (.ireturn, 1) := by decide +kernel
theorem dX1_isTaken_0 : decode cX1_isTaken 0 = .ok (.iconst 0, 1) := by decide +kernel
theorem dX1_isTaken_1 : decode cX1_isTaken 1 = .ok (.istore_n 3, 1) := by decide +kernel
theorem dX1_isTaken_2 : decode cX1_isTaken 2 = .ok (.iload_n 3, 1) := by decide +kernel
theorem dX1_isTaken_3 : decode cX1_isTaken 3 = .ok (.iconst 4, 1) := by decide +kernel
theorem dX1_isTaken_4 : decode cX1_isTaken 4 = .ok (.if_icmp .ge 21, 3) := by decide +kernel
theorem dX1_isTaken_7 : decode cX1_isTaken 7 = .ok (.aload_n 0, 1) := by decide +kernel
theorem dX1_isTaken_8 : decode cX1_isTaken 8 = .ok (.iload_n 3, 1) := by decide +kernel
theorem dX1_isTaken_9 : decode cX1_isTaken 9 = .ok (.lload_n 1, 1) := by decide +kernel
theorem dX1_isTaken_10 : decode cX1_isTaken 10 = .ok (.invokevirtual 59, 3) := by decide +kernel
theorem dX1_isTaken_13 : decode cX1_isTaken 13 = .ok (.iconst (-1), 1) := by decide +kernel
theorem dX1_isTaken_14 : decode cX1_isTaken 14 = .ok (.if_icmp .eq 5, 3) := by decide +kernel
theorem dX1_isTaken_17 : decode cX1_isTaken 17 = .ok (.iconst 1, 1) := by decide +kernel
theorem dX1_isTaken_18 : decode cX1_isTaken 18 = .ok (.ireturn, 1) := by decide +kernel
theorem dX1_isTaken_19 : decode cX1_isTaken 19 = .ok (.iinc 3 1, 3) := by decide +kernel
theorem dX1_isTaken_22 : decode cX1_isTaken 22 = .ok (.goto (-20), 3) := by decide +kernel
theorem dX1_isTaken_25 : decode cX1_isTaken 25 = .ok (.iconst 0, 1) := by decide +kernel
theorem dX1_isTaken_26 : decode cX1_isTaken 26 = .ok (.ireturn, 1) := by decide +kernel
theorem dX1_isFull_0 : decode cX1_isFull 0 = .ok (.aload_n 0, 1) := by decide +kernel
theorem dX1_isFull_1 : decode cX1_isFull 1 = .ok (.getfield 9, 3) := by decide +kernel
theorem dX1_isFull_4 : decode cX1_isFull 4 = .ok (.iload_n 1, 1) := by decide +kernel
theorem dX1_isFull_5 : decode cX1_isFull 5 = .ok (.iaload, 1) := by decide +kernel
theorem dX1_isFull_6 : decode cX1_isFull 6 = .ok (.getstatic 63, 3) := by decide +kernel
theorem dX1_isFull_9 : decode cX1_isFull 9 = .ok (.iload_n 1, 1) := by decide +kernel
theorem dX1_isFull_10 : decode cX1_isFull 10 = .ok (.iaload, 1) := by decide +kernel
theorem dX1_isFull_11 : decode cX1_isFull 11 = .ok (.if_icmp .lt 7, 3) := by decide +kernel
theorem dX1_isFull_14 : decode cX1_isFull 14 = .ok (.iconst 1, 1) := by decide +kernel
theorem dX1_isFull_15 : decode cX1_isFull 15 = .ok (.goto 4, 3) := by decide +kernel
theorem dX1_isFull_18 : decode cX1_isFull 18 = .ok (.iconst 0, 1) := by decide +kernel
theorem dX1_isFull_19 : decode cX1_isFull 19 = .ok (.ireturn, 1) := by decide +kernel
theorem dX1_addThing_0 : decode cX1_addThing 0 = .ok (.aload_n 0, 1) := by decide +kernel
theorem dX1_addThing_1 : decode cX1_addThing 1 = .ok (.getfield 9, 3) := by decide +kernel
theorem dX1_addThing_4 : decode cX1_addThing 4 = .ok (.iload_n 1, 1) := by decide +kernel
theorem dX1_addThing_5 : decode cX1_addThing 5 = .ok (.iaload, 1) := by decide +kernel
theorem dX1_addThing_6 : decode cX1_addThing 6 = .ok (.istore 4, 2) := by decide +kernel
theorem dX1_addThing_8 : decode cX1_addThing 8 = .ok (.aload_n 0, 1) := by decide +kernel
theorem dX1_addThing_9 : decode cX1_addThing 9 = .ok (.getfield 15, 3) := by decide +kernel
theorem dX1_addThing_12 : decode cX1_addThing 12 = .ok (.iload_n 1, 1) := by decide +kernel
theorem dX1_addThing_13 : decode cX1_addThing 13 = .ok (.bipush 10, 2) := by decide +kernel
theorem dX1_addThing_15 : decode cX1_addThing 15 = .ok (.imul, 1) := by decide +kernel
theorem dX1_addThing_16 : decode cX1_addThing 16 = .ok (.iload 4, 2) := by decide +kernel
theorem dX1_addThing_18 : decode cX1_addThing 18 = .ok (.iadd, 1) := by decide +kernel
theorem dX1_addThing_19 : decode cX1_addThing 19 = .ok (.lload_n 2, 1) := by decide +kernel
theorem dX1_addThing_20 : decode cX1_addThing 20 = .ok (.lastore, 1) := by decide +kernel
theorem dX1_addThing_21 : decode cX1_addThing 21 = .ok (.aload_n 0, 1) := by decide +kernel
theorem dX1_addThing_22 : decode cX1_addThing 22 = .ok (.getfield 9, 3) := by decide +kernel
theorem dX1_addThing_25 : decode cX1_addThing 25 = .ok (.iload_n 1, 1) := by decide +kernel
theorem dX1_addThing_26 : decode cX1_addThing 26 = .ok (.dup2, 1) := by decide +kernel
theorem dX1_addThing_27 : decode cX1_addThing 27 = .ok (.iaload, 1) := by decide +kernel
theorem dX1_addThing_28 : decode cX1_addThing 28 = .ok (.iconst 1, 1) := by decide +kernel
theorem dX1_addThing_29 : decode cX1_addThing 29 = .ok (.iadd, 1) := by decide +kernel
theorem dX1_addThing_30 : decode cX1_addThing 30 = .ok (.iastore, 1) := by decide +kernel
theorem dX1_addThing_31 : decode cX1_addThing 31 = .ok (.iload 4, 2) := by decide +kernel
theorem dX1_addThing_33 : decode cX1_addThing 33 = .ok (.ireturn, 1) := by decide +kernel
theorem dX1_swayOf_0 : decode cX1_swayOf 0 = .ok (.aload_n 0, 1) := by decide +kernel
theorem dX1_swayOf_1 : decode cX1_swayOf 1 = .ok (.getfield 28, 3) := by decide +kernel
theorem dX1_swayOf_4 : decode cX1_swayOf 4 = .ok (.iload_n 2, 1) := by decide +kernel
theorem dX1_swayOf_5 : decode cX1_swayOf 5 = .ok (.bipush 10, 2) := by decide +kernel
theorem dX1_swayOf_7 : decode cX1_swayOf 7 = .ok (.imul, 1) := by decide +kernel
theorem dX1_swayOf_8 : decode cX1_swayOf 8 = .ok (.iload_n 1, 1) := by decide +kernel
theorem dX1_swayOf_9 : decode cX1_swayOf 9 = .ok (.iadd, 1) := by decide +kernel
theorem dX1_swayOf_10 : decode cX1_swayOf 10 = .ok (.iaload, 1) := by decide +kernel
theorem dX1_swayOf_11 : decode cX1_swayOf 11 = .ok (.ireturn, 1) := by decide +kernel
theorem dX1_setSway_0 : decode cX1_setSway 0 = .ok (.aload_n 0, 1) := by decide +kernel
theorem dX1_setSway_1 : decode cX1_setSway 1 = .ok (.getfield 28, 3) := by decide +kernel
theorem dX1_setSway_4 : decode cX1_setSway 4 = .ok (.iload_n 2, 1) := by decide +kernel
theorem dX1_setSway_5 : decode cX1_setSway 5 = .ok (.bipush 10, 2) := by decide +kernel
theorem dX1_setSway_7 : decode cX1_setSway 7 = .ok (.imul, 1) := by decide +kernel
theorem dX1_setSway_8 : decode cX1_setSway 8 = .ok (.iload_n 1, 1) := by decide +kernel
theorem dX1_setSway_9 : decode cX1_setSway 9 = .ok (.iadd, 1) := by decide +kernel
theorem dX1_setSway_10 : decode cX1_setSway 10 = .ok (.iload_n 3, 1) := by decide +kernel
theorem dX1_setSway_11 : decode cX1_setSway 11 = .ok (.iastore, 1) := by decide +kernel
theorem dX1_setSway_12 : decode cX1_setSway 12 = .ok (.iconst 1, 1) := by decide +kernel
theorem dX1_setSway_13 : decode cX1_setSway 13 = .ok (.iload_n 1, 1) := by decide +kernel
theorem dX1_setSway_14 : decode cX1_setSway 14 = .ok (.ishl, 1) := by decide +kernel
theorem dX1_setSway_15 : decode cX1_setSway 15 = .ok (.istore 4, 2) := by decide +kernel
theorem dX1_setSway_17 : decode cX1_setSway 17 = .ok (.aload_n 0, 1) := by decide +kernel
theorem dX1_setSway_18 : decode cX1_setSway 18 = .ok (.getfield 31, 3) := by decide +kernel
theorem dX1_setSway_21 : decode cX1_setSway 21 = .ok (.iload_n 2, 1) := by decide +kernel
theorem dX1_setSway_22 : decode cX1_setSway 22 = .ok (.iload_n 3, 1) := by decide +kernel
theorem dX1_setSway_23 : decode cX1_setSway 23 = .ok (.ifCond .le 15, 3) := by decide +kernel
theorem dX1_setSway_26 : decode cX1_setSway 26 = .ok (.aload_n 0, 1) := by decide +kernel
theorem dX1_setSway_27 : decode cX1_setSway 27 = .ok (.getfield 31, 3) := by decide +kernel
theorem dX1_setSway_30 : decode cX1_setSway 30 = .ok (.iload_n 2, 1) := by decide +kernel
theorem dX1_setSway_31 : decode cX1_setSway 31 = .ok (.iaload, 1) := by decide +kernel
theorem dX1_setSway_32 : decode cX1_setSway 32 = .ok (.iload 4, 2) := by decide +kernel
theorem dX1_setSway_34 : decode cX1_setSway 34 = .ok (.ior, 1) := by decide +kernel
theorem dX1_setSway_35 : decode cX1_setSway 35 = .ok (.goto 14, 3) := by decide +kernel
theorem dX1_setSway_38 : decode cX1_setSway 38 = .ok (.aload_n 0, 1) := by decide +kernel
theorem dX1_setSway_39 : decode cX1_setSway 39 = .ok (.getfield 31, 3) := by decide +kernel
theorem dX1_setSway_42 : decode cX1_setSway 42 = .ok (.iload_n 2, 1) := by decide +kernel
theorem dX1_setSway_43 : decode cX1_setSway 43 = .ok (.iaload, 1) := by decide +kernel
theorem dX1_setSway_44 : decode cX1_setSway 44 = .ok (.iload 4, 2) := by decide +kernel
theorem dX1_setSway_46 : decode cX1_setSway 46 = .ok (.iconst (-1), 1) := by decide +kernel
theorem dX1_setSway_47 : decode cX1_setSway 47 = .ok (.ixor, 1) := by decide +kernel
theorem dX1_setSway_48 : decode cX1_setSway 48 = .ok (.iand, 1) := by decide +kernel
theorem dX1_setSway_49 : decode cX1_setSway 49 = .ok (.iastore, 1) := by decide +kernel
theorem dX1_setSway_50 : decode cX1_setSway 50 = .ok (.return_, 1) := by decide +kernel
theorem dX1_growthOf_0 : decode cX1_growthOf 0 = .ok (.aload_n 0, 1) := by decide +kernel
theorem dX1_growthOf_1 : decode cX1_growthOf 1 = .ok (.getfield 43, 3) := by decide +kernel
theorem dX1_growthOf_4 : decode cX1_growthOf 4 = .ok (.iload_n 1, 1) := by decide +kernel
theorem dX1_growthOf_5 : decode cX1_growthOf 5 = .ok (.bipush 6, 2) := by decide +kernel
theorem dX1_growthOf_7 : decode cX1_growthOf 7 = .ok (.imul, 1) := by decide +kernel
theorem dX1_growthOf_8 : decode cX1_growthOf 8 = .ok (.iload_n 2, 1) := by decide +kernel
theorem dX1_growthOf_9 : decode cX1_growthOf 9 = .ok (.iadd, 1) := by decide +kernel
theorem dX1_growthOf_10 : decode cX1_growthOf 10 = .ok (.iaload, 1) := by decide +kernel
theorem dX1_growthOf_11 : decode cX1_growthOf 11 = .ok (.ireturn, 1) := by decide +kernel
theorem dX1_setGrowth_0 : decode cX1_setGrowth 0 = .ok (.aload_n 0, 1) := by decide +kernel
theorem dX1_setGrowth_1 : decode cX1_setGrowth 1 = .ok (.getfield 43, 3) := by decide +kernel
theorem dX1_setGrowth_4 : decode cX1_setGrowth 4 = .ok (.iload_n 1, 1) := by decide +kernel
theorem dX1_setGrowth_5 : decode cX1_setGrowth 5 = .ok (.bipush 6, 2) := by decide +kernel
theorem dX1_setGrowth_7 : decode cX1_setGrowth 7 = .ok (.imul, 1) := by decide +kernel
theorem dX1_setGrowth_8 : decode cX1_setGrowth 8 = .ok (.iload_n 2, 1) := by decide +kernel
theorem dX1_setGrowth_9 : decode cX1_setGrowth 9 = .ok (.iadd, 1) := by decide +kernel
theorem dX1_setGrowth_10 : decode cX1_setGrowth 10 = .ok (.iload_n 3, 1) := by decide +kernel
theorem dX1_setGrowth_11 : decode cX1_setGrowth 11 = .ok (.iastore, 1) := by decide +kernel
theorem dX1_setGrowth_12 : decode cX1_setGrowth 12 = .ok (.return_, 1) := by decide +kernel
theorem dX1_weatherBehind_0 : decode cX1_weatherBehind 0 = .ok (.iload_n 2, 1) := by decide +kernel
theorem dX1_weatherBehind_1 : decode cX1_weatherBehind 1 = .ok (.ifCond .ne 5, 3) := by decide +kernel
theorem dX1_weatherBehind_4 : decode cX1_weatherBehind 4 = .ok (.iload_n 1, 1) := by decide +kernel
theorem dX1_weatherBehind_5 : decode cX1_weatherBehind 5 = .ok (.ireturn, 1) := by decide +kernel
theorem dX1_weatherBehind_6 : decode cX1_weatherBehind 6 = .ok (.iload_n 2, 1) := by decide +kernel
theorem dX1_weatherBehind_7 : decode cX1_weatherBehind 7 = .ok (.iconst 1, 1) := by decide +kernel
theorem dX1_weatherBehind_8 : decode cX1_weatherBehind 8 = .ok (.if_icmp .ne 12, 3) := by decide +kernel
theorem dX1_weatherBehind_11 : decode cX1_weatherBehind 11 = .ok (.aload_n 0, 1) := by decide +kernel
theorem dX1_weatherBehind_12 : decode cX1_weatherBehind 12 = .ok (.getfield 37, 3) := by decide +kernel
theorem dX1_weatherBehind_15 : decode cX1_weatherBehind 15 = .ok (.iload_n 1, 1) := by decide +kernel
theorem dX1_weatherBehind_16 : decode cX1_weatherBehind 16 = .ok (.iaload, 1) := by decide +kernel
theorem dX1_weatherBehind_17 : decode cX1_weatherBehind 17 = .ok (.goto 9, 3) := by decide +kernel
theorem dX1_weatherBehind_20 : decode cX1_weatherBehind 20 = .ok (.aload_n 0, 1) := by decide +kernel
theorem dX1_weatherBehind_21 : decode cX1_weatherBehind 21 = .ok (.getfield 40, 3) := by decide +kernel
theorem dX1_weatherBehind_24 : decode cX1_weatherBehind 24 = .ok (.iload_n 1, 1) := by decide +kernel
theorem dX1_weatherBehind_25 : decode cX1_weatherBehind 25 = .ok (.iaload, 1) := by decide +kernel
theorem dX1_weatherBehind_26 : decode cX1_weatherBehind 26 = .ok (.ireturn, 1) := by decide +kernel
theorem dX1_dayMore_0 : decode cX1_dayMore 0 = .ok (.iload_n 1, 1) := by decide +kernel
theorem dX1_dayMore_1 : decode cX1_dayMore 1 = .ok (.istore_n 2, 1) := by decide +kernel
theorem dX1_dayMore_2 : decode cX1_dayMore 2 = .ok (.iconst 0, 1) := by decide +kernel
theorem dX1_dayMore_3 : decode cX1_dayMore 3 = .ok (.istore_n 3, 1) := by decide +kernel
theorem dX1_dayMore_4 : decode cX1_dayMore 4 = .ok (.iload_n 3, 1) := by decide +kernel
theorem dX1_dayMore_5 : decode cX1_dayMore 5 = .ok (.aload_n 0, 1) := by decide +kernel
theorem dX1_dayMore_6 : decode cX1_dayMore 6 = .ok (.getfield 9, 3) := by decide +kernel
theorem dX1_dayMore_9 : decode cX1_dayMore 9 = .ok (.iconst 2, 1) := by decide +kernel
theorem dX1_dayMore_10 : decode cX1_dayMore 10 = .ok (.iaload, 1) := by decide +kernel
theorem dX1_dayMore_11 : decode cX1_dayMore 11 = .ok (.if_icmp .ge 37, 3) := by decide +kernel
theorem dX1_dayMore_14 : decode cX1_dayMore 14 = .ok (.iload_n 1, 1) := by decide +kernel
theorem dX1_dayMore_15 : decode cX1_dayMore 15 = .ok (.iload_n 3, 1) := by decide +kernel
theorem dX1_dayMore_16 : decode cX1_dayMore 16 = .ok (.ishr, 1) := by decide +kernel
theorem dX1_dayMore_17 : decode cX1_dayMore 17 = .ok (.iconst 1, 1) := by decide +kernel
theorem dX1_dayMore_18 : decode cX1_dayMore 18 = .ok (.iand, 1) := by decide +kernel
theorem dX1_dayMore_19 : decode cX1_dayMore 19 = .ok (.ifCond .eq 23, 3) := by decide +kernel
theorem dX1_dayMore_22 : decode cX1_dayMore 22 = .ok (.iload_n 2, 1) := by decide +kernel
theorem dX1_dayMore_23 : decode cX1_dayMore 23 = .ok (.iconst 1, 1) := by decide +kernel
theorem dX1_dayMore_24 : decode cX1_dayMore 24 = .ok (.aload_n 0, 1) := by decide +kernel
theorem dX1_dayMore_25 : decode cX1_dayMore 25 = .ok (.getfield 37, 3) := by decide +kernel
theorem dX1_dayMore_28 : decode cX1_dayMore 28 = .ok (.iload_n 3, 1) := by decide +kernel
theorem dX1_dayMore_29 : decode cX1_dayMore 29 = .ok (.iaload, 1) := by decide +kernel
theorem dX1_dayMore_30 : decode cX1_dayMore 30 = .ok (.ishl, 1) := by decide +kernel
theorem dX1_dayMore_31 : decode cX1_dayMore 31 = .ok (.iconst 1, 1) := by decide +kernel
theorem dX1_dayMore_32 : decode cX1_dayMore 32 = .ok (.aload_n 0, 1) := by decide +kernel
theorem dX1_dayMore_33 : decode cX1_dayMore 33 = .ok (.getfield 40, 3) := by decide +kernel
theorem dX1_dayMore_36 : decode cX1_dayMore 36 = .ok (.iload_n 3, 1) := by decide +kernel
theorem dX1_dayMore_37 : decode cX1_dayMore 37 = .ok (.iaload, 1) := by decide +kernel
theorem dX1_dayMore_38 : decode cX1_dayMore 38 = .ok (.ishl, 1) := by decide +kernel
theorem dX1_dayMore_39 : decode cX1_dayMore 39 = .ok (.ior, 1) := by decide +kernel
theorem dX1_dayMore_40 : decode cX1_dayMore 40 = .ok (.ior, 1) := by decide +kernel
theorem dX1_dayMore_41 : decode cX1_dayMore 41 = .ok (.istore_n 2, 1) := by decide +kernel
theorem dX1_dayMore_42 : decode cX1_dayMore 42 = .ok (.iinc 3 1, 3) := by decide +kernel
theorem dX1_dayMore_45 : decode cX1_dayMore 45 = .ok (.goto (-41), 3) := by decide +kernel
theorem dX1_dayMore_48 : decode cX1_dayMore 48 = .ok (.iload_n 2, 1) := by decide +kernel
theorem dX1_dayMore_49 : decode cX1_dayMore 49 = .ok (.ireturn, 1) := by decide +kernel
theorem dX1_allBehind_0 : decode cX1_allBehind 0 = .ok (.iconst 1, 1) := by decide +kernel
theorem dX1_allBehind_1 : decode cX1_allBehind 1 = .ok (.iload_n 1, 1) := by decide +kernel
theorem dX1_allBehind_2 : decode cX1_allBehind 2 = .ok (.ishl, 1) := by decide +kernel
theorem dX1_allBehind_3 : decode cX1_allBehind 3 = .ok (.istore_n 2, 1) := by decide +kernel
theorem dX1_allBehind_4 : decode cX1_allBehind 4 = .ok (.iconst 0, 1) := by decide +kernel
theorem dX1_allBehind_5 : decode cX1_allBehind 5 = .ok (.istore_n 3, 1) := by decide +kernel
theorem dX1_allBehind_6 : decode cX1_allBehind 6 = .ok (.iload_n 3, 1) := by decide +kernel
theorem dX1_allBehind_7 : decode cX1_allBehind 7 = .ok (.aload_n 0, 1) := by decide +kernel
theorem dX1_allBehind_8 : decode cX1_allBehind 8 = .ok (.getfield 9, 3) := by decide +kernel
theorem dX1_allBehind_11 : decode cX1_allBehind 11 = .ok (.iconst 0, 1) := by decide +kernel
theorem dX1_allBehind_12 : decode cX1_allBehind 12 = .ok (.iaload, 1) := by decide +kernel
theorem dX1_allBehind_13 : decode cX1_allBehind 13 = .ok (.if_icmp .ge 48, 3) := by decide +kernel
theorem dX1_allBehind_16 : decode cX1_allBehind 16 = .ok (.iconst 0, 1) := by decide +kernel
theorem dX1_allBehind_17 : decode cX1_allBehind 17 = .ok (.istore 4, 2) := by decide +kernel
theorem dX1_allBehind_19 : decode cX1_allBehind 19 = .ok (.iload 4, 2) := by decide +kernel
theorem dX1_allBehind_21 : decode cX1_allBehind 21 = .ok (.aload_n 0, 1) := by decide +kernel
theorem dX1_allBehind_22 : decode cX1_allBehind 22 = .ok (.getfield 9, 3) := by decide +kernel
theorem dX1_allBehind_25 : decode cX1_allBehind 25 = .ok (.iconst 0, 1) := by decide +kernel
theorem dX1_allBehind_26 : decode cX1_allBehind 26 = .ok (.iaload, 1) := by decide +kernel
theorem dX1_allBehind_27 : decode cX1_allBehind 27 = .ok (.if_icmp .ge 28, 3) := by decide +kernel
theorem dX1_allBehind_30 : decode cX1_allBehind 30 = .ok (.iload_n 2, 1) := by decide +kernel
theorem dX1_allBehind_31 : decode cX1_allBehind 31 = .ok (.iload 4, 2) := by decide +kernel
theorem dX1_allBehind_33 : decode cX1_allBehind 33 = .ok (.ishr, 1) := by decide +kernel
theorem dX1_allBehind_34 : decode cX1_allBehind 34 = .ok (.iconst 1, 1) := by decide +kernel
theorem dX1_allBehind_35 : decode cX1_allBehind 35 = .ok (.iand, 1) := by decide +kernel
theorem dX1_allBehind_36 : decode cX1_allBehind 36 = .ok (.ifCond .eq 13, 3) := by decide +kernel
theorem dX1_allBehind_39 : decode cX1_allBehind 39 = .ok (.iload_n 2, 1) := by decide +kernel
theorem dX1_allBehind_40 : decode cX1_allBehind 40 = .ok (.aload_n 0, 1) := by decide +kernel
theorem dX1_allBehind_41 : decode cX1_allBehind 41 = .ok (.getfield 31, 3) := by decide +kernel
theorem dX1_allBehind_44 : decode cX1_allBehind 44 = .ok (.iload 4, 2) := by decide +kernel
theorem dX1_allBehind_46 : decode cX1_allBehind 46 = .ok (.iaload, 1) := by decide +kernel
theorem dX1_allBehind_47 : decode cX1_allBehind 47 = .ok (.ior, 1) := by decide +kernel
theorem dX1_allBehind_48 : decode cX1_allBehind 48 = .ok (.istore_n 2, 1) := by decide +kernel
theorem dX1_allBehind_49 : decode cX1_allBehind 49 = .ok (.iinc 4 1, 3) := by decide +kernel
theorem dX1_allBehind_52 : decode cX1_allBehind 52 = .ok (.goto (-33), 3) := by decide +kernel
theorem dX1_allBehind_55 : decode cX1_allBehind 55 = .ok (.iinc 3 1, 3) := by decide +kernel
theorem dX1_allBehind_58 : decode cX1_allBehind 58 = .ok (.goto (-52), 3) := by decide +kernel
theorem dX1_allBehind_61 : decode cX1_allBehind 61 = .ok (.iload_n 2, 1) := by decide +kernel
theorem dX1_allBehind_62 : decode cX1_allBehind 62 = .ok (.iconst 1, 1) := by decide +kernel
theorem dX1_allBehind_63 : decode cX1_allBehind 63 = .ok (.iload_n 1, 1) := by decide +kernel
theorem dX1_allBehind_64 : decode cX1_allBehind 64 = .ok (.ishl, 1) := by decide +kernel
theorem dX1_allBehind_65 : decode cX1_allBehind 65 = .ok (.iconst (-1), 1) := by decide +kernel
theorem dX1_allBehind_66 : decode cX1_allBehind 66 = .ok (.ixor, 1) := by decide +kernel
theorem dX1_allBehind_67 : decode cX1_allBehind 67 = .ok (.iand, 1) := by decide +kernel
theorem dX1_allBehind_68 : decode cX1_allBehind 68 = .ok (.ireturn, 1) := by decide +kernel
theorem dX1_priceOf_0 : decode cX1_priceOf 0 = .ok (.iconst 0, 1) := by decide +kernel
theorem dX1_priceOf_1 : decode cX1_priceOf 1 = .ok (.istore_n 2, 1) := by decide +kernel
theorem dX1_priceOf_2 : decode cX1_priceOf 2 = .ok (.iconst 0, 1) := by decide +kernel
theorem dX1_priceOf_3 : decode cX1_priceOf 3 = .ok (.istore_n 3, 1) := by decide +kernel
theorem dX1_priceOf_4 : decode cX1_priceOf 4 = .ok (.iload_n 3, 1) := by decide +kernel
theorem dX1_priceOf_5 : decode cX1_priceOf 5 = .ok (.aload_n 0, 1) := by decide +kernel
theorem dX1_priceOf_6 : decode cX1_priceOf 6 = .ok (.getfield 9, 3) := by decide +kernel
theorem dX1_priceOf_9 : decode cX1_priceOf 9 = .ok (.iconst 0, 1) := by decide +kernel
theorem dX1_priceOf_10 : decode cX1_priceOf 10 = .ok (.iaload, 1) := by decide +kernel
theorem dX1_priceOf_11 : decode cX1_priceOf 11 = .ok (.if_icmp .ge 26, 3) := by decide +kernel
theorem dX1_priceOf_14 : decode cX1_priceOf 14 = .ok (.iload_n 1, 1) := by decide +kernel
theorem dX1_priceOf_15 : decode cX1_priceOf 15 = .ok (.iload_n 3, 1) := by decide +kernel
theorem dX1_priceOf_16 : decode cX1_priceOf 16 = .ok (.ishr, 1) := by decide +kernel
theorem dX1_priceOf_17 : decode cX1_priceOf 17 = .ok (.iconst 1, 1) := by decide +kernel
theorem dX1_priceOf_18 : decode cX1_priceOf 18 = .ok (.iand, 1) := by decide +kernel
theorem dX1_priceOf_19 : decode cX1_priceOf 19 = .ok (.ifCond .eq 12, 3) := by decide +kernel
theorem dX1_priceOf_22 : decode cX1_priceOf 22 = .ok (.iload_n 2, 1) := by decide +kernel
theorem dX1_priceOf_23 : decode cX1_priceOf 23 = .ok (.aload_n 0, 1) := by decide +kernel
theorem dX1_priceOf_24 : decode cX1_priceOf 24 = .ok (.getfield 25, 3) := by decide +kernel
theorem dX1_priceOf_27 : decode cX1_priceOf 27 = .ok (.iload_n 3, 1) := by decide +kernel
theorem dX1_priceOf_28 : decode cX1_priceOf 28 = .ok (.iaload, 1) := by decide +kernel
theorem dX1_priceOf_29 : decode cX1_priceOf 29 = .ok (.iadd, 1) := by decide +kernel
theorem dX1_priceOf_30 : decode cX1_priceOf 30 = .ok (.istore_n 2, 1) := by decide +kernel
theorem dX1_priceOf_31 : decode cX1_priceOf 31 = .ok (.iinc 3 1, 3) := by decide +kernel
theorem dX1_priceOf_34 : decode cX1_priceOf 34 = .ok (.goto (-30), 3) := by decide +kernel
theorem dX1_priceOf_37 : decode cX1_priceOf 37 = .ok (.iload_n 2, 1) := by decide +kernel
theorem dX1_priceOf_38 : decode cX1_priceOf 38 = .ok (.ireturn, 1) := by decide +kernel
theorem dX2_init_0 : decode cX2_init 0 = .ok (.aload_n 0, 1) := by decide +kernel
theorem dX2_init_1 : decode cX2_init 1 = .ok (.invokespecial 3, 3) := by decide +kernel
theorem dX2_init_4 : decode cX2_init 4 = .ok (.aload_n 0, 1) := by decide +kernel
theorem dX2_init_5 : decode cX2_init 5 = .ok (.iconst 0, 1) := by decide +kernel
theorem dX2_init_6 : decode cX2_init 6 = .ok (.putfield 9, 3) := by decide +kernel
theorem dX2_init_9 : decode cX2_init 9 = .ok (.return_, 1) := by decide +kernel
theorem dX2_readCourt_0 : decode cX2_readCourt 0 = .ok (.aload_n 3, 1) := by decide +kernel
theorem dX2_readCourt_1 : decode cX2_readCourt 1 = .ok (.invokevirtual 15, 3) := by decide +kernel
theorem dX2_readCourt_4 : decode cX2_readCourt 4 = .ok (.aload_n 0, 1) := by decide +kernel
theorem dX2_readCourt_5 : decode cX2_readCourt 5 = .ok (.iconst 0, 1) := by decide +kernel
theorem dX2_readCourt_6 : decode cX2_readCourt 6 = .ok (.putfield 9, 3) := by decide +kernel
theorem dX2_readCourt_9 : decode cX2_readCourt 9 = .ok (.aload_n 1, 1) := by decide +kernel
theorem dX2_readCourt_10 : decode cX2_readCourt 10 = .ok (.iload_n 2, 1) := by decide +kernel
theorem dX2_readCourt_11 : decode cX2_readCourt 11 = .ok (.invokevirtual 20, 3) := by decide +kernel
theorem dX2_readCourt_14 : decode cX2_readCourt 14 = .ok (.iconst 0, 1) := by decide +kernel
theorem dX2_readCourt_15 : decode cX2_readCourt 15 = .ok (.istore 4, 2) := by decide +kernel
theorem dX2_readCourt_17 : decode cX2_readCourt 17 = .ok (.iload 4, 2) := by decide +kernel
theorem dX2_readCourt_19 : decode cX2_readCourt 19 = .ok (.iload_n 2, 1) := by decide +kernel
theorem dX2_readCourt_20 : decode cX2_readCourt 20 = .ok (.if_icmp .gt 37, 3) := by decide +kernel
theorem dX2_readCourt_23 : decode cX2_readCourt 23 = .ok (.aload_n 1, 1) := by decide +kernel
theorem dX2_readCourt_24 : decode cX2_readCourt 24 = .ok (.getfield 26, 3) := by decide +kernel
theorem dX2_readCourt_27 : decode cX2_readCourt 27 = .ok (.ifCond .ne 30, 3) := by decide +kernel
theorem dX2_readCourt_30 : decode cX2_readCourt 30 = .ok (.aload_n 1, 1) := by decide +kernel
theorem dX2_readCourt_31 : decode cX2_readCourt 31 = .ok (.getfield 30, 3) := by decide +kernel
theorem dX2_readCourt_34 : decode cX2_readCourt 34 = .ok (.ifCond .eq 23, 3) := by decide +kernel
theorem dX2_readCourt_37 : decode cX2_readCourt 37 = .ok (.aload_n 0, 1) := by decide +kernel
theorem dX2_readCourt_38 : decode cX2_readCourt 38 = .ok (.aload_n 1, 1) := by decide +kernel
theorem dX2_readCourt_39 : decode cX2_readCourt 39 = .ok (.aload_n 3, 1) := by decide +kernel
theorem dX2_readCourt_40 : decode cX2_readCourt 40 = .ok (.invokevirtual 33, 3) := by decide +kernel
theorem dX2_readCourt_43 : decode cX2_readCourt 43 = .ok (.ifCond .eq 8, 3) := by decide +kernel
theorem dX2_readCourt_46 : decode cX2_readCourt 46 = .ok (.aload_n 1, 1) := by decide +kernel
theorem dX2_readCourt_47 : decode cX2_readCourt 47 = .ok (.invokevirtual 37, 3) := by decide +kernel
theorem dX2_readCourt_50 : decode cX2_readCourt 50 = .ok (.pop, 1) := by decide +kernel
theorem dX2_readCourt_51 : decode cX2_readCourt 51 = .ok (.iinc 4 1, 3) := by decide +kernel
theorem dX2_readCourt_54 : decode cX2_readCourt 54 = .ok (.goto (-37), 3) := by decide +kernel
theorem dX2_readCourt_57 : decode cX2_readCourt 57 = .ok (.return_, 1) := by decide +kernel
theorem dX2_readPart_0 : decode cX2_readPart 0 = .ok (.aload_n 1, 1) := by decide +kernel
theorem dX2_readPart_1 : decode cX2_readPart 1 = .ok (.invokevirtual 41, 3) := by decide +kernel
theorem dX2_readPart_4 : decode cX2_readPart 4 = .ok (.tableswitch 203 0 14 #[76, 203, 203, 203, 203, 101, 108, 133, 157, 203, 203, 164, 203, 189, 196], 76) := by decide +kernel
theorem dX2_readPart_80 : decode cX2_readPart 80 = .ok (.aload_n 0, 1) := by decide +kernel
theorem dX2_readPart_81 : decode cX2_readPart 81 = .ok (.aload_n 1, 1) := by decide +kernel
theorem dX2_readPart_82 : decode cX2_readPart 82 = .ok (.aload_n 2, 1) := by decide +kernel
theorem dX2_readPart_83 : decode cX2_readPart 83 = .ok (.iconst 0, 1) := by decide +kernel
theorem dX2_readPart_84 : decode cX2_readPart 84 = .ok (.invokevirtual 45, 3) := by decide +kernel
theorem dX2_readPart_87 : decode cX2_readPart 87 = .ok (.ifCond .eq 16, 3) := by decide +kernel
theorem dX2_readPart_90 : decode cX2_readPart 90 = .ok (.aload_n 0, 1) := by decide +kernel
theorem dX2_readPart_91 : decode cX2_readPart 91 = .ok (.aload_n 1, 1) := by decide +kernel
theorem dX2_readPart_92 : decode cX2_readPart 92 = .ok (.aload_n 2, 1) := by decide +kernel
theorem dX2_readPart_93 : decode cX2_readPart 93 = .ok (.invokevirtual 49, 3) := by decide +kernel
theorem dX2_readPart_96 : decode cX2_readPart 96 = .ok (.ifCond .eq 7, 3) := by decide +kernel
theorem dX2_readPart_99 : decode cX2_readPart 99 = .ok (.iconst 1, 1) := by decide +kernel
theorem dX2_readPart_100 : decode cX2_readPart 100 = .ok (.goto 4, 3) := by decide +kernel
theorem dX2_readPart_103 : decode cX2_readPart 103 = .ok (.iconst 0, 1) := by decide +kernel
theorem dX2_readPart_104 : decode cX2_readPart 104 = .ok (.ireturn, 1) := by decide +kernel
theorem dX2_readPart_105 : decode cX2_readPart 105 = .ok (.aload_n 0, 1) := by decide +kernel
theorem dX2_readPart_106 : decode cX2_readPart 106 = .ok (.aload_n 1, 1) := by decide +kernel
theorem dX2_readPart_107 : decode cX2_readPart 107 = .ok (.aload_n 2, 1) := by decide +kernel
theorem dX2_readPart_108 : decode cX2_readPart 108 = .ok (.invokevirtual 52, 3) := by decide +kernel
theorem dX2_readPart_111 : decode cX2_readPart 111 = .ok (.ireturn, 1) := by decide +kernel
theorem dX2_readPart_112 : decode cX2_readPart 112 = .ok (.aload_n 0, 1) := by decide +kernel
theorem dX2_readPart_113 : decode cX2_readPart 113 = .ok (.aload_n 1, 1) := by decide +kernel
theorem dX2_readPart_114 : decode cX2_readPart 114 = .ok (.aload_n 2, 1) := by decide +kernel
theorem dX2_readPart_115 : decode cX2_readPart 115 = .ok (.iconst 1, 1) := by decide +kernel
theorem dX2_readPart_116 : decode cX2_readPart 116 = .ok (.invokevirtual 45, 3) := by decide +kernel
theorem dX2_readPart_119 : decode cX2_readPart 119 = .ok (.ifCond .eq 16, 3) := by decide +kernel
theorem dX2_readPart_122 : decode cX2_readPart 122 = .ok (.aload_n 0, 1) := by decide +kernel
theorem dX2_readPart_123 : decode cX2_readPart 123 = .ok (.aload_n 1, 1) := by decide +kernel
theorem dX2_readPart_124 : decode cX2_readPart 124 = .ok (.aload_n 2, 1) := by decide +kernel
theorem dX2_readPart_125 : decode cX2_readPart 125 = .ok (.invokevirtual 55, 3) := by decide +kernel
theorem dX2_readPart_128 : decode cX2_readPart 128 = .ok (.ifCond .eq 7, 3) := by decide +kernel
theorem dX2_readPart_131 : decode cX2_readPart 131 = .ok (.iconst 1, 1) := by decide +kernel
theorem dX2_readPart_132 : decode cX2_readPart 132 = .ok (.goto 4, 3) := by decide +kernel
theorem dX2_readPart_135 : decode cX2_readPart 135 = .ok (.iconst 0, 1) := by decide +kernel
theorem dX2_readPart_136 : decode cX2_readPart 136 = .ok (.ireturn, 1) := by decide +kernel
theorem dX2_readPart_137 : decode cX2_readPart 137 = .ok (.aload_n 0, 1) := by decide +kernel
theorem dX2_readPart_138 : decode cX2_readPart 138 = .ok (.aload_n 1, 1) := by decide +kernel
theorem dX2_readPart_139 : decode cX2_readPart 139 = .ok (.aload_n 2, 1) := by decide +kernel
theorem dX2_readPart_140 : decode cX2_readPart 140 = .ok (.iconst 2, 1) := by decide +kernel
theorem dX2_readPart_141 : decode cX2_readPart 141 = .ok (.invokevirtual 45, 3) := by decide +kernel
theorem dX2_readPart_144 : decode cX2_readPart 144 = .ok (.ifCond .eq 15, 3) := by decide +kernel
theorem dX2_readPart_147 : decode cX2_readPart 147 = .ok (.aload_n 0, 1) := by decide +kernel
theorem dX2_readPart_148 : decode cX2_readPart 148 = .ok (.aload_n 2, 1) := by decide +kernel
theorem dX2_readPart_149 : decode cX2_readPart 149 = .ok (.invokevirtual 58, 3) := by decide +kernel
theorem dX2_readPart_152 : decode cX2_readPart 152 = .ok (.ifCond .eq 7, 3) := by decide +kernel
theorem dX2_readPart_155 : decode cX2_readPart 155 = .ok (.iconst 1, 1) := by decide +kernel
theorem dX2_readPart_156 : decode cX2_readPart 156 = .ok (.goto 4, 3) := by decide +kernel
theorem dX2_readPart_159 : decode cX2_readPart 159 = .ok (.iconst 0, 1) := by decide +kernel
theorem dX2_readPart_160 : decode cX2_readPart 160 = .ok (.ireturn, 1) := by decide +kernel
theorem dX2_readPart_161 : decode cX2_readPart 161 = .ok (.aload_n 0, 1) := by decide +kernel
theorem dX2_readPart_162 : decode cX2_readPart 162 = .ok (.aload_n 1, 1) := by decide +kernel
theorem dX2_readPart_163 : decode cX2_readPart 163 = .ok (.aload_n 2, 1) := by decide +kernel
theorem dX2_readPart_164 : decode cX2_readPart 164 = .ok (.invokevirtual 62, 3) := by decide +kernel
theorem dX2_readPart_167 : decode cX2_readPart 167 = .ok (.ireturn, 1) := by decide +kernel
theorem dX2_readPart_168 : decode cX2_readPart 168 = .ok (.aload_n 0, 1) := by decide +kernel
theorem dX2_readPart_169 : decode cX2_readPart 169 = .ok (.aload_n 1, 1) := by decide +kernel
theorem dX2_readPart_170 : decode cX2_readPart 170 = .ok (.aload_n 2, 1) := by decide +kernel
theorem dX2_readPart_171 : decode cX2_readPart 171 = .ok (.iconst 3, 1) := by decide +kernel
theorem dX2_readPart_172 : decode cX2_readPart 172 = .ok (.invokevirtual 45, 3) := by decide +kernel
theorem dX2_readPart_175 : decode cX2_readPart 175 = .ok (.ifCond .eq 16, 3) := by decide +kernel
theorem dX2_readPart_178 : decode cX2_readPart 178 = .ok (.aload_n 0, 1) := by decide +kernel
theorem dX2_readPart_179 : decode cX2_readPart 179 = .ok (.aload_n 1, 1) := by decide +kernel
theorem dX2_readPart_180 : decode cX2_readPart 180 = .ok (.aload_n 2, 1) := by decide +kernel
theorem dX2_readPart_181 : decode cX2_readPart 181 = .ok (.invokevirtual 65, 3) := by decide +kernel
theorem dX2_readPart_184 : decode cX2_readPart 184 = .ok (.ifCond .eq 7, 3) := by decide +kernel
theorem dX2_readPart_187 : decode cX2_readPart 187 = .ok (.iconst 1, 1) := by decide +kernel
theorem dX2_readPart_188 : decode cX2_readPart 188 = .ok (.goto 4, 3) := by decide +kernel
theorem dX2_readPart_191 : decode cX2_readPart 191 = .ok (.iconst 0, 1) := by decide +kernel
theorem dX2_readPart_192 : decode cX2_readPart 192 = .ok (.ireturn, 1) := by decide +kernel
theorem dX2_readPart_193 : decode cX2_readPart 193 = .ok (.aload_n 0, 1) := by decide +kernel
theorem dX2_readPart_194 : decode cX2_readPart 194 = .ok (.aload_n 1, 1) := by decide +kernel
theorem dX2_readPart_195 : decode cX2_readPart 195 = .ok (.aload_n 2, 1) := by decide +kernel
theorem dX2_readPart_196 : decode cX2_readPart 196 = .ok (.invokevirtual 68, 3) := by decide +kernel
theorem dX2_readPart_199 : decode cX2_readPart 199 = .ok (.ireturn, 1) := by decide +kernel
theorem dX2_readPart_200 : decode cX2_readPart 200 = .ok (.aload_n 0, 1) := by decide +kernel
theorem dX2_readPart_201 : decode cX2_readPart 201 = .ok (.aload_n 1, 1) := by decide +kernel
theorem dX2_readPart_202 : decode cX2_readPart 202 = .ok (.aload_n 2, 1) := by decide +kernel
theorem dX2_readPart_203 : decode cX2_readPart 203 = .ok (.invokevirtual 71, 3) := by decide +kernel
theorem dX2_readPart_206 : decode cX2_readPart 206 = .ok (.ireturn, 1) := by decide +kernel
theorem dX2_readPart_207 : decode cX2_readPart 207 = .ok (.aload_n 1, 1) := by decide +kernel
theorem dX2_readPart_208 : decode cX2_readPart 208 = .ok (.iconst 2, 1) := by decide +kernel
theorem dX2_readPart_209 : decode cX2_readPart 209 = .ok (.invokevirtual 74, 3) := by decide +kernel
theorem dX2_readPart_212 : decode cX2_readPart 212 = .ok (.ireturn, 1) := by decide +kernel
theorem dX2_needNew_0 : decode cX2_needNew 0 = .ok (.aload_n 2, 1) := by decide +kernel
theorem dX2_needNew_1 : decode cX2_needNew 1 = .ok (.iload_n 3, 1) := by decide +kernel
theorem dX2_needNew_2 : decode cX2_needNew 2 = .ok (.invokevirtual 78, 3) := by decide +kernel
theorem dX2_needNew_5 : decode cX2_needNew 5 = .ok (.ifCond .eq 10, 3) := by decide +kernel
theorem dX2_needNew_8 : decode cX2_needNew 8 = .ok (.aload_n 1, 1) := by decide +kernel
theorem dX2_needNew_9 : decode cX2_needNew 9 = .ok (.bipush 6, 2) := by decide +kernel
theorem dX2_needNew_11 : decode cX2_needNew 11 = .ok (.invokevirtual 74, 3) := by decide +kernel
theorem dX2_needNew_14 : decode cX2_needNew 14 = .ok (.ireturn, 1) := by decide +kernel
theorem dX2_needNew_15 : decode cX2_needNew 15 = .ok (.aload_n 1, 1) := by decide +kernel
theorem dX2_needNew_16 : decode cX2_needNew 16 = .ok (.invokevirtual 81, 3) := by decide +kernel
theorem dX2_needNew_19 : decode cX2_needNew 19 = .ok (.aload_n 1, 1) := by decide +kernel
theorem dX2_needNew_20 : decode cX2_needNew 20 = .ok (.invokevirtual 84, 3) := by decide +kernel
theorem dX2_needNew_23 : decode cX2_needNew 23 = .ok (.ifCond .ne 9, 3) := by decide +kernel
theorem dX2_needNew_26 : decode cX2_needNew 26 = .ok (.aload_n 1, 1) := by decide +kernel
theorem dX2_needNew_27 : decode cX2_needNew 27 = .ok (.iconst 2, 1) := by decide +kernel
theorem dX2_needNew_28 : decode cX2_needNew 28 = .ok (.invokevirtual 74, 3) := by decide +kernel
theorem dX2_needNew_31 : decode cX2_needNew 31 = .ok (.ireturn, 1) := by decide +kernel
theorem dX2_needNew_32 : decode cX2_needNew 32 = .ok (.aload_n 2, 1) := by decide +kernel
theorem dX2_needNew_33 : decode cX2_needNew 33 = .ok (.aload_n 1, 1) := by decide +kernel
theorem dX2_needNew_34 : decode cX2_needNew 34 = .ok (.getfield 87, 3) := by decide +kernel
theorem dX2_needNew_37 : decode cX2_needNew 37 = .ok (.invokevirtual 91, 3) := by decide +kernel
theorem dX2_needNew_40 : decode cX2_needNew 40 = .ok (.ifCond .eq 9, 3) := by decide +kernel
theorem dX2_needNew_43 : decode cX2_needNew 43 = .ok (.aload_n 1, 1) := by decide +kernel
theorem dX2_needNew_44 : decode cX2_needNew 44 = .ok (.iconst 3, 1) := by decide +kernel
theorem dX2_needNew_45 : decode cX2_needNew 45 = .ok (.invokevirtual 74, 3) := by decide +kernel
theorem dX2_needNew_48 : decode cX2_needNew 48 = .ok (.ireturn, 1) := by decide +kernel
theorem dX2_needNew_49 : decode cX2_needNew 49 = .ok (.aload_n 1, 1) := by decide +kernel
theorem dX2_needNew_50 : decode cX2_needNew 50 = .ok (.aload_n 2, 1) := by decide +kernel
theorem dX2_needNew_51 : decode cX2_needNew 51 = .ok (.iload_n 3, 1) := by decide +kernel
theorem dX2_needNew_52 : decode cX2_needNew 52 = .ok (.aload_n 1, 1) := by decide +kernel
theorem dX2_needNew_53 : decode cX2_needNew 53 = .ok (.getfield 87, 3) := by decide +kernel
theorem dX2_needNew_56 : decode cX2_needNew 56 = .ok (.invokevirtual 95, 3) := by decide +kernel
theorem dX2_needNew_59 : decode cX2_needNew 59 = .ok (.putfield 99, 3) := by decide +kernel
theorem dX2_needNew_62 : decode cX2_needNew 62 = .ok (.aload_n 1, 1) := by decide +kernel
theorem dX2_needNew_63 : decode cX2_needNew 63 = .ok (.invokevirtual 81, 3) := by decide +kernel
theorem dX2_needNew_66 : decode cX2_needNew 66 = .ok (.iconst 1, 1) := by decide +kernel
theorem dX2_needNew_67 : decode cX2_needNew 67 = .ok (.ireturn, 1) := by decide +kernel
theorem dX2_readJuror_0 : decode cX2_readJuror 0 = .ok (.aload_n 1, 1) := by decide +kernel
theorem dX2_readJuror_1 : decode cX2_readJuror 1 = .ok (.getfield 99, 3) := by decide +kernel
theorem dX2_readJuror_4 : decode cX2_readJuror 4 = .ok (.istore_n 3, 1) := by decide +kernel
theorem dX2_readJuror_5 : decode cX2_readJuror 5 = .ok (.aload_n 2, 1) := by decide +kernel
theorem dX2_readJuror_6 : decode cX2_readJuror 6 = .ok (.getfield 102, 3) := by decide +kernel
theorem dX2_readJuror_9 : decode cX2_readJuror 9 = .ok (.iload_n 3, 1) := by decide +kernel
theorem dX2_readJuror_10 : decode cX2_readJuror 10 = .ok (.iconst 0, 1) := by decide +kernel
theorem dX2_readJuror_11 : decode cX2_readJuror 11 = .ok (.iastore, 1) := by decide +kernel
theorem dX2_readJuror_12 : decode cX2_readJuror 12 = .ok (.aload_n 2, 1) := by decide +kernel
theorem dX2_readJuror_13 : decode cX2_readJuror 13 = .ok (.getfield 106, 3) := by decide +kernel
theorem dX2_readJuror_16 : decode cX2_readJuror 16 = .ok (.iload_n 3, 1) := by decide +kernel
theorem dX2_readJuror_17 : decode cX2_readJuror 17 = .ok (.iconst 0, 1) := by decide +kernel
theorem dX2_readJuror_18 : decode cX2_readJuror 18 = .ok (.iastore, 1) := by decide +kernel
theorem dX2_readJuror_19 : decode cX2_readJuror 19 = .ok (.aload_n 2, 1) := by decide +kernel
theorem dX2_readJuror_20 : decode cX2_readJuror 20 = .ok (.getfield 109, 3) := by decide +kernel
theorem dX2_readJuror_23 : decode cX2_readJuror 23 = .ok (.iload_n 3, 1) := by decide +kernel
theorem dX2_readJuror_24 : decode cX2_readJuror 24 = .ok (.iconst 0, 1) := by decide +kernel
theorem dX2_readJuror_25 : decode cX2_readJuror 25 = .ok (.iastore, 1) := by decide +kernel
theorem dX2_readJuror_26 : decode cX2_readJuror 26 = .ok (.aload_n 1, 1) := by decide +kernel
theorem dX2_readJuror_27 : decode cX2_readJuror 27 = .ok (.iconst 1, 1) := by decide +kernel
theorem dX2_readJuror_28 : decode cX2_readJuror 28 = .ok (.invokevirtual 112, 3) := by decide +kernel
theorem dX2_readJuror_31 : decode cX2_readJuror 31 = .ok (.ifCond .eq 24, 3) := by decide +kernel
theorem dX2_readJuror_34 : decode cX2_readJuror 34 = .ok (.aload_n 1, 1) := by decide +kernel
theorem dX2_readJuror_35 : decode cX2_readJuror 35 = .ok (.bipush 99, 2) := by decide +kernel
theorem dX2_readJuror_37 : decode cX2_readJuror 37 = .ok (.invokevirtual 115, 3) := by decide +kernel
theorem dX2_readJuror_40 : decode cX2_readJuror 40 = .ok (.ifCond .ne 5, 3) := by decide +kernel
theorem dX2_readJuror_43 : decode cX2_readJuror 43 = .ok (.iconst 0, 1) := by decide +kernel
theorem dX2_readJuror_44 : decode cX2_readJuror 44 = .ok (.ireturn, 1) := by decide +kernel
theorem dX2_readJuror_45 : decode cX2_readJuror 45 = .ok (.aload_n 2, 1) := by decide +kernel
theorem dX2_readJuror_46 : decode cX2_readJuror 46 = .ok (.getfield 102, 3) := by decide +kernel
theorem dX2_readJuror_49 : decode cX2_readJuror 49 = .ok (.iload_n 3, 1) := by decide +kernel
theorem dX2_readJuror_50 : decode cX2_readJuror 50 = .ok (.aload_n 1, 1) := by decide +kernel
theorem dX2_readJuror_51 : decode cX2_readJuror 51 = .ok (.getfield 99, 3) := by decide +kernel
theorem dX2_readJuror_54 : decode cX2_readJuror 54 = .ok (.iastore, 1) := by decide +kernel
theorem dX2_readJuror_55 : decode cX2_readJuror 55 = .ok (.aload_n 1, 1) := by decide +kernel
theorem dX2_readJuror_56 : decode cX2_readJuror 56 = .ok (.iconst 3, 1) := by decide +kernel
theorem dX2_readJuror_57 : decode cX2_readJuror 57 = .ok (.invokevirtual 112, 3) := by decide +kernel
theorem dX2_readJuror_60 : decode cX2_readJuror 60 = .ok (.ifCond .eq 25, 3) := by decide +kernel
theorem dX2_readJuror_63 : decode cX2_readJuror 63 = .ok (.aload_n 1, 1) := by decide +kernel
theorem dX2_readJuror_64 : decode cX2_readJuror 64 = .ok (.iconst 0, 1) := by decide +kernel
theorem dX2_readJuror_65 : decode cX2_readJuror 65 = .ok (.bipush 20, 2) := by decide +kernel
theorem dX2_readJuror_67 : decode cX2_readJuror 67 = .ok (.invokevirtual 118, 3) := by decide +kernel
theorem dX2_readJuror_70 : decode cX2_readJuror 70 = .ok (.ifCond .ne 5, 3) := by decide +kernel
theorem dX2_readJuror_73 : decode cX2_readJuror 73 = .ok (.iconst 0, 1) := by decide +kernel
theorem dX2_readJuror_74 : decode cX2_readJuror 74 = .ok (.ireturn, 1) := by decide +kernel
theorem dX2_readJuror_75 : decode cX2_readJuror 75 = .ok (.aload_n 2, 1) := by decide +kernel
theorem dX2_readJuror_76 : decode cX2_readJuror 76 = .ok (.getfield 106, 3) := by decide +kernel
theorem dX2_readJuror_79 : decode cX2_readJuror 79 = .ok (.iload_n 3, 1) := by decide +kernel
theorem dX2_readJuror_80 : decode cX2_readJuror 80 = .ok (.aload_n 1, 1) := by decide +kernel
theorem dX2_readJuror_81 : decode cX2_readJuror 81 = .ok (.getfield 99, 3) := by decide +kernel
theorem dX2_readJuror_84 : decode cX2_readJuror 84 = .ok (.iastore, 1) := by decide +kernel
theorem dX2_readJuror_85 : decode cX2_readJuror 85 = .ok (.aload_n 1, 1) := by decide +kernel
theorem dX2_readJuror_86 : decode cX2_readJuror 86 = .ok (.iconst 4, 1) := by decide +kernel
theorem dX2_readJuror_87 : decode cX2_readJuror 87 = .ok (.invokevirtual 112, 3) := by decide +kernel
theorem dX2_readJuror_90 : decode cX2_readJuror 90 = .ok (.ifCond .eq 25, 3) := by decide +kernel
theorem dX2_readJuror_93 : decode cX2_readJuror 93 = .ok (.aload_n 1, 1) := by decide +kernel
theorem dX2_readJuror_94 : decode cX2_readJuror 94 = .ok (.iconst 0, 1) := by decide +kernel
theorem dX2_readJuror_95 : decode cX2_readJuror 95 = .ok (.bipush 99, 2) := by decide +kernel
theorem dX2_readJuror_97 : decode cX2_readJuror 97 = .ok (.invokevirtual 118, 3) := by decide +kernel
theorem dX2_readJuror_100 : decode cX2_readJuror 100 = .ok (.ifCond .ne 5, 3) := by decide +kernel
theorem dX2_readJuror_103 : decode cX2_readJuror 103 = .ok (.iconst 0, 1) := by decide +kernel
theorem dX2_readJuror_104 : decode cX2_readJuror 104 = .ok (.ireturn, 1) := by decide +kernel
theorem dX2_readJuror_105 : decode cX2_readJuror 105 = .ok (.aload_n 2, 1) := by decide +kernel
theorem dX2_readJuror_106 : decode cX2_readJuror 106 = .ok (.getfield 109, 3) := by decide +kernel
theorem dX2_readJuror_109 : decode cX2_readJuror 109 = .ok (.iload_n 3, 1) := by decide +kernel
theorem dX2_readJuror_110 : decode cX2_readJuror 110 = .ok (.aload_n 1, 1) := by decide +kernel
theorem dX2_readJuror_111 : decode cX2_readJuror 111 = .ok (.getfield 99, 3) := by decide +kernel
theorem dX2_readJuror_114 : decode cX2_readJuror 114 = .ok (.iastore, 1) := by decide +kernel
theorem dX2_readJuror_115 : decode cX2_readJuror 115 = .ok (.iconst 1, 1) := by decide +kernel
theorem dX2_readJuror_116 : decode cX2_readJuror 116 = .ok (.ireturn, 1) := by decide +kernel
theorem dX2_readSways_0 : decode cX2_readSways 0 = .ok (.aload_n 1, 1) := by decide +kernel
theorem dX2_readSways_1 : decode cX2_readSways 1 = .ok (.invokevirtual 81, 3) := by decide +kernel
theorem dX2_readSways_4 : decode cX2_readSways 4 = .ok (.aload_n 1, 1) := by decide +kernel
theorem dX2_readSways_5 : decode cX2_readSways 5 = .ok (.aload_n 2, 1) := by decide +kernel
theorem dX2_readSways_6 : decode cX2_readSways 6 = .ok (.iconst 0, 1) := by decide +kernel
theorem dX2_readSways_7 : decode cX2_readSways 7 = .ok (.invokevirtual 122, 3) := by decide +kernel
theorem dX2_readSways_10 : decode cX2_readSways 10 = .ok (.ifCond .ne 5, 3) := by decide +kernel
theorem dX2_readSways_13 : decode cX2_readSways 13 = .ok (.iconst 0, 1) := by decide +kernel
theorem dX2_readSways_14 : decode cX2_readSways 14 = .ok (.ireturn, 1) := by decide +kernel
theorem dX2_readSways_15 : decode cX2_readSways 15 = .ok (.aload_n 1, 1) := by decide +kernel
theorem dX2_readSways_16 : decode cX2_readSways 16 = .ok (.getfield 99, 3) := by decide +kernel
theorem dX2_readSways_19 : decode cX2_readSways 19 = .ok (.istore_n 3, 1) := by decide +kernel
theorem dX2_readSways_20 : decode cX2_readSways 20 = .ok (.aload_n 1, 1) := by decide +kernel
theorem dX2_readSways_21 : decode cX2_readSways 21 = .ok (.aload_n 2, 1) := by decide +kernel
theorem dX2_readSways_22 : decode cX2_readSways 22 = .ok (.iconst 0, 1) := by decide +kernel
theorem dX2_readSways_23 : decode cX2_readSways 23 = .ok (.invokevirtual 126, 3) := by decide +kernel
theorem dX2_readSways_26 : decode cX2_readSways 26 = .ok (.ifCond .ne 5, 3) := by decide +kernel
theorem dX2_readSways_29 : decode cX2_readSways 29 = .ok (.iconst 0, 1) := by decide +kernel
theorem dX2_readSways_30 : decode cX2_readSways 30 = .ok (.ireturn, 1) := by decide +kernel
theorem dX2_readSways_31 : decode cX2_readSways 31 = .ok (.aload_n 1, 1) := by decide +kernel
theorem dX2_readSways_32 : decode cX2_readSways 32 = .ok (.getfield 99, 3) := by decide +kernel
theorem dX2_readSways_35 : decode cX2_readSways 35 = .ok (.istore 4, 2) := by decide +kernel
theorem dX2_readSways_37 : decode cX2_readSways 37 = .ok (.iload_n 3, 1) := by decide +kernel
theorem dX2_readSways_38 : decode cX2_readSways 38 = .ok (.iload 4, 2) := by decide +kernel
theorem dX2_readSways_40 : decode cX2_readSways 40 = .ok (.if_icmp .ne 9, 3) := by decide +kernel
theorem dX2_readSways_43 : decode cX2_readSways 43 = .ok (.aload_n 1, 1) := by decide +kernel
theorem dX2_readSways_44 : decode cX2_readSways 44 = .ok (.iconst 5, 1) := by decide +kernel
theorem dX2_readSways_45 : decode cX2_readSways 45 = .ok (.invokevirtual 74, 3) := by decide +kernel
theorem dX2_readSways_48 : decode cX2_readSways 48 = .ok (.ireturn, 1) := by decide +kernel
theorem dX2_readSways_49 : decode cX2_readSways 49 = .ok (.aload_n 1, 1) := by decide +kernel
theorem dX2_readSways_50 : decode cX2_readSways 50 = .ok (.invokevirtual 81, 3) := by decide +kernel
theorem dX2_readSways_53 : decode cX2_readSways 53 = .ok (.aload_n 1, 1) := by decide +kernel
theorem dX2_readSways_54 : decode cX2_readSways 54 = .ok (.iconst 0, 1) := by decide +kernel
theorem dX2_readSways_55 : decode cX2_readSways 55 = .ok (.bipush 20, 2) := by decide +kernel
theorem dX2_readSways_57 : decode cX2_readSways 57 = .ok (.invokevirtual 118, 3) := by decide +kernel
theorem dX2_readSways_60 : decode cX2_readSways 60 = .ok (.ifCond .ne 5, 3) := by decide +kernel
theorem dX2_readSways_63 : decode cX2_readSways 63 = .ok (.iconst 0, 1) := by decide +kernel
theorem dX2_readSways_64 : decode cX2_readSways 64 = .ok (.ireturn, 1) := by decide +kernel
theorem dX2_readSways_65 : decode cX2_readSways 65 = .ok (.aload_n 2, 1) := by decide +kernel
theorem dX2_readSways_66 : decode cX2_readSways 66 = .ok (.iload_n 3, 1) := by decide +kernel
theorem dX2_readSways_67 : decode cX2_readSways 67 = .ok (.iload 4, 2) := by decide +kernel
theorem dX2_readSways_69 : decode cX2_readSways 69 = .ok (.aload_n 1, 1) := by decide +kernel
theorem dX2_readSways_70 : decode cX2_readSways 70 = .ok (.getfield 99, 3) := by decide +kernel
theorem dX2_readSways_73 : decode cX2_readSways 73 = .ok (.invokevirtual 129, 3) := by decide +kernel
theorem dX2_readSways_76 : decode cX2_readSways 76 = .ok (.iconst 1, 1) := by decide +kernel
theorem dX2_readSways_77 : decode cX2_readSways 77 = .ok (.ireturn, 1) := by decide +kernel
theorem dX2_readProof_0 : decode cX2_readProof 0 = .ok (.aload_n 1, 1) := by decide +kernel
theorem dX2_readProof_1 : decode cX2_readProof 1 = .ok (.getfield 99, 3) := by decide +kernel
theorem dX2_readProof_4 : decode cX2_readProof 4 = .ok (.istore_n 3, 1) := by decide +kernel
theorem dX2_readProof_5 : decode cX2_readProof 5 = .ok (.aload_n 1, 1) := by decide +kernel
theorem dX2_readProof_6 : decode cX2_readProof 6 = .ok (.bipush 99, 2) := by decide +kernel
theorem dX2_readProof_8 : decode cX2_readProof 8 = .ok (.invokevirtual 115, 3) := by decide +kernel
theorem dX2_readProof_11 : decode cX2_readProof 11 = .ok (.ifCond .ne 5, 3) := by decide +kernel
theorem dX2_readProof_14 : decode cX2_readProof 14 = .ok (.iconst 0, 1) := by decide +kernel
theorem dX2_readProof_15 : decode cX2_readProof 15 = .ok (.ireturn, 1) := by decide +kernel
theorem dX2_readProof_16 : decode cX2_readProof 16 = .ok (.aload_n 2, 1) := by decide +kernel
theorem dX2_readProof_17 : decode cX2_readProof 17 = .ok (.getfield 133, 3) := by decide +kernel
theorem dX2_readProof_20 : decode cX2_readProof 20 = .ok (.iload_n 3, 1) := by decide +kernel
theorem dX2_readProof_21 : decode cX2_readProof 21 = .ok (.aload_n 1, 1) := by decide +kernel
theorem dX2_readProof_22 : decode cX2_readProof 22 = .ok (.getfield 99, 3) := by decide +kernel
theorem dX2_readProof_25 : decode cX2_readProof 25 = .ok (.iastore, 1) := by decide +kernel
theorem dX2_readProof_26 : decode cX2_readProof 26 = .ok (.iconst 1, 1) := by decide +kernel
theorem dX2_readProof_27 : decode cX2_readProof 27 = .ok (.ireturn, 1) := by decide +kernel
theorem dX2_startWeather_0 : decode cX2_startWeather 0 = .ok (.aload_n 1, 1) := by decide +kernel
theorem dX2_startWeather_1 : decode cX2_startWeather 1 = .ok (.getfield 136, 3) := by decide +kernel
theorem dX2_startWeather_4 : decode cX2_startWeather 4 = .ok (.iconst 2, 1) := by decide +kernel
theorem dX2_startWeather_5 : decode cX2_startWeather 5 = .ok (.iaload, 1) := by decide +kernel
theorem dX2_startWeather_6 : decode cX2_startWeather 6 = .ok (.iconst 1, 1) := by decide +kernel
theorem dX2_startWeather_7 : decode cX2_startWeather 7 = .ok (.isub, 1) := by decide +kernel
theorem dX2_startWeather_8 : decode cX2_startWeather 8 = .ok (.istore_n 2, 1) := by decide +kernel
theorem dX2_startWeather_9 : decode cX2_startWeather 9 = .ok (.aload_n 1, 1) := by decide +kernel
theorem dX2_startWeather_10 : decode cX2_startWeather 10 = .ok (.getfield 139, 3) := by decide +kernel
theorem dX2_startWeather_13 : decode cX2_startWeather 13 = .ok (.iload_n 2, 1) := by decide +kernel
theorem dX2_startWeather_14 : decode cX2_startWeather 14 = .ok (.iload_n 2, 1) := by decide +kernel
theorem dX2_startWeather_15 : decode cX2_startWeather 15 = .ok (.iastore, 1) := by decide +kernel
theorem dX2_startWeather_16 : decode cX2_startWeather 16 = .ok (.aload_n 1, 1) := by decide +kernel
theorem dX2_startWeather_17 : decode cX2_startWeather 17 = .ok (.getfield 142, 3) := by decide +kernel
theorem dX2_startWeather_20 : decode cX2_startWeather 20 = .ok (.iload_n 2, 1) := by decide +kernel
theorem dX2_startWeather_21 : decode cX2_startWeather 21 = .ok (.iload_n 2, 1) := by decide +kernel
theorem dX2_startWeather_22 : decode cX2_startWeather 22 = .ok (.iastore, 1) := by decide +kernel
theorem dX2_startWeather_23 : decode cX2_startWeather 23 = .ok (.iconst 1, 1) := by decide +kernel
theorem dX2_startWeather_24 : decode cX2_startWeather 24 = .ok (.ireturn, 1) := by decide +kernel
theorem dX2_readFollows_0 : decode cX2_readFollows 0 = .ok (.aload_n 1, 1) := by decide +kernel
theorem dX2_readFollows_1 : decode cX2_readFollows 1 = .ok (.invokevirtual 81, 3) := by decide +kernel
theorem dX2_readFollows_4 : decode cX2_readFollows 4 = .ok (.aload_n 1, 1) := by decide +kernel
theorem dX2_readFollows_5 : decode cX2_readFollows 5 = .ok (.aload_n 2, 1) := by decide +kernel
theorem dX2_readFollows_6 : decode cX2_readFollows 6 = .ok (.iconst 2, 1) := by decide +kernel
theorem dX2_readFollows_7 : decode cX2_readFollows 7 = .ok (.invokevirtual 122, 3) := by decide +kernel
theorem dX2_readFollows_10 : decode cX2_readFollows 10 = .ok (.ifCond .ne 5, 3) := by decide +kernel
theorem dX2_readFollows_13 : decode cX2_readFollows 13 = .ok (.iconst 0, 1) := by decide +kernel
theorem dX2_readFollows_14 : decode cX2_readFollows 14 = .ok (.ireturn, 1) := by decide +kernel
theorem dX2_readFollows_15 : decode cX2_readFollows 15 = .ok (.aload_n 1, 1) := by decide +kernel
theorem dX2_readFollows_16 : decode cX2_readFollows 16 = .ok (.getfield 99, 3) := by decide +kernel
theorem dX2_readFollows_19 : decode cX2_readFollows 19 = .ok (.istore_n 3, 1) := by decide +kernel
theorem dX2_readFollows_20 : decode cX2_readFollows 20 = .ok (.aload_n 1, 1) := by decide +kernel
theorem dX2_readFollows_21 : decode cX2_readFollows 21 = .ok (.bipush 9, 2) := by decide +kernel
theorem dX2_readFollows_23 : decode cX2_readFollows 23 = .ok (.invokevirtual 145, 3) := by decide +kernel
theorem dX2_readFollows_26 : decode cX2_readFollows 26 = .ok (.ifCond .eq 12, 3) := by decide +kernel
theorem dX2_readFollows_29 : decode cX2_readFollows 29 = .ok (.aload_n 1, 1) := by decide +kernel
theorem dX2_readFollows_30 : decode cX2_readFollows 30 = .ok (.aload_n 2, 1) := by decide +kernel
theorem dX2_readFollows_31 : decode cX2_readFollows 31 = .ok (.iconst 2, 1) := by decide +kernel
theorem dX2_readFollows_32 : decode cX2_readFollows 32 = .ok (.invokevirtual 122, 3) := by decide +kernel
theorem dX2_readFollows_35 : decode cX2_readFollows 35 = .ok (.ifCond .ne 5, 3) := by decide +kernel
theorem dX2_readFollows_38 : decode cX2_readFollows 38 = .ok (.iconst 0, 1) := by decide +kernel
theorem dX2_readFollows_39 : decode cX2_readFollows 39 = .ok (.ireturn, 1) := by decide +kernel
theorem dX2_readFollows_40 : decode cX2_readFollows 40 = .ok (.aload_n 1, 1) := by decide +kernel
theorem dX2_readFollows_41 : decode cX2_readFollows 41 = .ok (.getfield 99, 3) := by decide +kernel
theorem dX2_readFollows_44 : decode cX2_readFollows 44 = .ok (.istore 4, 2) := by decide +kernel
theorem dX2_readFollows_46 : decode cX2_readFollows 46 = .ok (.aload_n 1, 1) := by decide +kernel
theorem dX2_readFollows_47 : decode cX2_readFollows 47 = .ok (.bipush 10, 2) := by decide +kernel
theorem dX2_readFollows_49 : decode cX2_readFollows 49 = .ok (.invokevirtual 145, 3) := by decide +kernel
theorem dX2_readFollows_52 : decode cX2_readFollows 52 = .ok (.ifCond .eq 12, 3) := by decide +kernel
theorem dX2_readFollows_55 : decode cX2_readFollows 55 = .ok (.aload_n 1, 1) := by decide +kernel
theorem dX2_readFollows_56 : decode cX2_readFollows 56 = .ok (.aload_n 2, 1) := by decide +kernel
theorem dX2_readFollows_57 : decode cX2_readFollows 57 = .ok (.iconst 2, 1) := by decide +kernel
theorem dX2_readFollows_58 : decode cX2_readFollows 58 = .ok (.invokevirtual 122, 3) := by decide +kernel
theorem dX2_readFollows_61 : decode cX2_readFollows 61 = .ok (.ifCond .ne 5, 3) := by decide +kernel
theorem dX2_readFollows_64 : decode cX2_readFollows 64 = .ok (.iconst 0, 1) := by decide +kernel
theorem dX2_readFollows_65 : decode cX2_readFollows 65 = .ok (.ireturn, 1) := by decide +kernel
theorem dX2_readFollows_66 : decode cX2_readFollows 66 = .ok (.aload_n 2, 1) := by decide +kernel
theorem dX2_readFollows_67 : decode cX2_readFollows 67 = .ok (.getfield 139, 3) := by decide +kernel
theorem dX2_readFollows_70 : decode cX2_readFollows 70 = .ok (.iload_n 3, 1) := by decide +kernel
theorem dX2_readFollows_71 : decode cX2_readFollows 71 = .ok (.iload 4, 2) := by decide +kernel
theorem dX2_readFollows_73 : decode cX2_readFollows 73 = .ok (.iastore, 1) := by decide +kernel
theorem dX2_readFollows_74 : decode cX2_readFollows 74 = .ok (.aload_n 2, 1) := by decide +kernel
theorem dX2_readFollows_75 : decode cX2_readFollows 75 = .ok (.getfield 142, 3) := by decide +kernel
theorem dX2_readFollows_78 : decode cX2_readFollows 78 = .ok (.iload_n 3, 1) := by decide +kernel
theorem dX2_readFollows_79 : decode cX2_readFollows 79 = .ok (.aload_n 1, 1) := by decide +kernel
theorem dX2_readFollows_80 : decode cX2_readFollows 80 = .ok (.getfield 99, 3) := by decide +kernel
theorem dX2_readFollows_83 : decode cX2_readFollows 83 = .ok (.iastore, 1) := by decide +kernel
theorem dX2_readFollows_84 : decode cX2_readFollows 84 = .ok (.iconst 1, 1) := by decide +kernel
theorem dX2_readFollows_85 : decode cX2_readFollows 85 = .ok (.ireturn, 1) := by decide +kernel
theorem dX2_readCrop_0 : decode cX2_readCrop 0 = .ok (.aload_n 1, 1) := by decide +kernel
theorem dX2_readCrop_1 : decode cX2_readCrop 1 = .ok (.getfield 99, 3) := by decide +kernel
theorem dX2_readCrop_4 : decode cX2_readCrop 4 = .ok (.istore_n 3, 1) := by decide +kernel
theorem dX2_readCrop_5 : decode cX2_readCrop 5 = .ok (.iconst 0, 1) := by decide +kernel
theorem dX2_readCrop_6 : decode cX2_readCrop 6 = .ok (.istore 4, 2) := by decide +kernel
theorem dX2_readCrop_8 : decode cX2_readCrop 8 = .ok (.iload 4, 2) := by decide +kernel
theorem dX2_readCrop_10 : decode cX2_readCrop 10 = .ok (.aload_n 1, 1) := by decide +kernel
theorem dX2_readCrop_11 : decode cX2_readCrop 11 = .ok (.getfield 148, 3) := by decide +kernel
theorem dX2_readCrop_14 : decode cX2_readCrop 14 = .ok (.if_icmp .gt 57, 3) := by decide +kernel
theorem dX2_readCrop_17 : decode cX2_readCrop 17 = .ok (.aload_n 1, 1) := by decide +kernel
theorem dX2_readCrop_18 : decode cX2_readCrop 18 = .ok (.bipush 12, 2) := by decide +kernel
theorem dX2_readCrop_20 : decode cX2_readCrop 20 = .ok (.invokevirtual 112, 3) := by decide +kernel
theorem dX2_readCrop_23 : decode cX2_readCrop 23 = .ok (.ifCond .eq 48, 3) := by decide +kernel
theorem dX2_readCrop_26 : decode cX2_readCrop 26 = .ok (.aload_n 1, 1) := by decide +kernel
theorem dX2_readCrop_27 : decode cX2_readCrop 27 = .ok (.aload_n 2, 1) := by decide +kernel
theorem dX2_readCrop_28 : decode cX2_readCrop 28 = .ok (.iconst 2, 1) := by decide +kernel
theorem dX2_readCrop_29 : decode cX2_readCrop 29 = .ok (.invokevirtual 122, 3) := by decide +kernel
theorem dX2_readCrop_32 : decode cX2_readCrop 32 = .ok (.ifCond .ne 5, 3) := by decide +kernel
theorem dX2_readCrop_35 : decode cX2_readCrop 35 = .ok (.iconst 0, 1) := by decide +kernel
theorem dX2_readCrop_36 : decode cX2_readCrop 36 = .ok (.ireturn, 1) := by decide +kernel
theorem dX2_readCrop_37 : decode cX2_readCrop 37 = .ok (.aload_n 1, 1) := by decide +kernel
theorem dX2_readCrop_38 : decode cX2_readCrop 38 = .ok (.getfield 99, 3) := by decide +kernel
theorem dX2_readCrop_41 : decode cX2_readCrop 41 = .ok (.istore 5, 2) := by decide +kernel
theorem dX2_readCrop_43 : decode cX2_readCrop 43 = .ok (.aload_n 1, 1) := by decide +kernel
theorem dX2_readCrop_44 : decode cX2_readCrop 44 = .ok (.bipush 99, 2) := by decide +kernel
theorem dX2_readCrop_46 : decode cX2_readCrop 46 = .ok (.invokevirtual 115, 3) := by decide +kernel
theorem dX2_readCrop_49 : decode cX2_readCrop 49 = .ok (.ifCond .ne 5, 3) := by decide +kernel
theorem dX2_readCrop_52 : decode cX2_readCrop 52 = .ok (.iconst 0, 1) := by decide +kernel
theorem dX2_readCrop_53 : decode cX2_readCrop 53 = .ok (.ireturn, 1) := by decide +kernel
theorem dX2_readCrop_54 : decode cX2_readCrop 54 = .ok (.aload_n 2, 1) := by decide +kernel
theorem dX2_readCrop_55 : decode cX2_readCrop 55 = .ok (.iload_n 3, 1) := by decide +kernel
theorem dX2_readCrop_56 : decode cX2_readCrop 56 = .ok (.iload 5, 2) := by decide +kernel
theorem dX2_readCrop_58 : decode cX2_readCrop 58 = .ok (.aload_n 1, 1) := by decide +kernel
theorem dX2_readCrop_59 : decode cX2_readCrop 59 = .ok (.getfield 99, 3) := by decide +kernel
theorem dX2_readCrop_62 : decode cX2_readCrop 62 = .ok (.invokevirtual 151, 3) := by decide +kernel
theorem dX2_readCrop_65 : decode cX2_readCrop 65 = .ok (.iinc 4 1, 3) := by decide +kernel
theorem dX2_readCrop_68 : decode cX2_readCrop 68 = .ok (.goto (-60), 3) := by decide +kernel
theorem dX2_readCrop_71 : decode cX2_readCrop 71 = .ok (.iconst 1, 1) := by decide +kernel
theorem dX2_readCrop_72 : decode cX2_readCrop 72 = .ok (.ireturn, 1) := by decide +kernel
theorem dX2_readHunger_0 : decode cX2_readHunger 0 = .ok (.aload_n 2, 1) := by decide +kernel
theorem dX2_readHunger_1 : decode cX2_readHunger 1 = .ok (.getfield 154, 3) := by decide +kernel
theorem dX2_readHunger_4 : decode cX2_readHunger 4 = .ok (.ifCond .le 9, 3) := by decide +kernel
theorem dX2_readHunger_7 : decode cX2_readHunger 7 = .ok (.aload_n 1, 1) := by decide +kernel
theorem dX2_readHunger_8 : decode cX2_readHunger 8 = .ok (.iconst 5, 1) := by decide +kernel
theorem dX2_readHunger_9 : decode cX2_readHunger 9 = .ok (.invokevirtual 74, 3) := by decide +kernel
theorem dX2_readHunger_12 : decode cX2_readHunger 12 = .ok (.ireturn, 1) := by decide +kernel
theorem dX2_readHunger_13 : decode cX2_readHunger 13 = .ok (.aload_n 1, 1) := by decide +kernel
theorem dX2_readHunger_14 : decode cX2_readHunger 14 = .ok (.invokevirtual 81, 3) := by decide +kernel
theorem dX2_readHunger_17 : decode cX2_readHunger 17 = .ok (.aload_n 1, 1) := by decide +kernel
theorem dX2_readHunger_18 : decode cX2_readHunger 18 = .ok (.iconst 1, 1) := by decide +kernel
theorem dX2_readHunger_19 : decode cX2_readHunger 19 = .ok (.bipush 99, 2) := by decide +kernel
theorem dX2_readHunger_21 : decode cX2_readHunger 21 = .ok (.invokevirtual 118, 3) := by decide +kernel
theorem dX2_readHunger_24 : decode cX2_readHunger 24 = .ok (.ifCond .ne 5, 3) := by decide +kernel
theorem dX2_readHunger_27 : decode cX2_readHunger 27 = .ok (.iconst 0, 1) := by decide +kernel
theorem dX2_readHunger_28 : decode cX2_readHunger 28 = .ok (.ireturn, 1) := by decide +kernel
theorem dX2_readHunger_29 : decode cX2_readHunger 29 = .ok (.aload_n 2, 1) := by decide +kernel
theorem dX2_readHunger_30 : decode cX2_readHunger 30 = .ok (.aload_n 1, 1) := by decide +kernel
theorem dX2_readHunger_31 : decode cX2_readHunger 31 = .ok (.getfield 99, 3) := by decide +kernel
theorem dX2_readHunger_34 : decode cX2_readHunger 34 = .ok (.putfield 154, 3) := by decide +kernel
theorem dX2_readHunger_37 : decode cX2_readHunger 37 = .ok (.iconst 1, 1) := by decide +kernel
theorem dX2_readHunger_38 : decode cX2_readHunger 38 = .ok (.ireturn, 1) := by decide +kernel
theorem dX2_readLaw_0 : decode cX2_readLaw 0 = .ok (.aload_n 0, 1) := by decide +kernel
theorem dX2_readLaw_1 : decode cX2_readLaw 1 = .ok (.getfield 9, 3) := by decide +kernel
theorem dX2_readLaw_4 : decode cX2_readLaw 4 = .ok (.ifCond .eq 9, 3) := by decide +kernel
theorem dX2_readLaw_7 : decode cX2_readLaw 7 = .ok (.aload_n 1, 1) := by decide +kernel
theorem dX2_readLaw_8 : decode cX2_readLaw 8 = .ok (.iconst 5, 1) := by decide +kernel
theorem dX2_readLaw_9 : decode cX2_readLaw 9 = .ok (.invokevirtual 74, 3) := by decide +kernel
theorem dX2_readLaw_12 : decode cX2_readLaw 12 = .ok (.ireturn, 1) := by decide +kernel
theorem dX2_readLaw_13 : decode cX2_readLaw 13 = .ok (.aload_n 0, 1) := by decide +kernel
theorem dX2_readLaw_14 : decode cX2_readLaw 14 = .ok (.iconst 1, 1) := by decide +kernel
theorem dX2_readLaw_15 : decode cX2_readLaw 15 = .ok (.putfield 9, 3) := by decide +kernel
theorem dX2_readLaw_18 : decode cX2_readLaw 18 = .ok (.aload_n 1, 1) := by decide +kernel
theorem dX2_readLaw_19 : decode cX2_readLaw 19 = .ok (.invokevirtual 81, 3) := by decide +kernel
theorem dX2_readLaw_22 : decode cX2_readLaw 22 = .ok (.aload_n 1, 1) := by decide +kernel
theorem dX2_readLaw_23 : decode cX2_readLaw 23 = .ok (.invokevirtual 41, 3) := by decide +kernel
theorem dX2_readLaw_26 : decode cX2_readLaw 26 = .ok (.istore_n 3, 1) := by decide +kernel
theorem dX2_readLaw_27 : decode cX2_readLaw 27 = .ok (.iload_n 3, 1) := by decide +kernel
theorem dX2_readLaw_28 : decode cX2_readLaw 28 = .ok (.bipush 15, 2) := by decide +kernel
theorem dX2_readLaw_30 : decode cX2_readLaw 30 = .ok (.if_icmp .eq 21, 3) := by decide +kernel
theorem dX2_readLaw_33 : decode cX2_readLaw 33 = .ok (.iload_n 3, 1) := by decide +kernel
theorem dX2_readLaw_34 : decode cX2_readLaw 34 = .ok (.bipush 16, 2) := by decide +kernel
theorem dX2_readLaw_36 : decode cX2_readLaw 36 = .ok (.if_icmp .eq 15, 3) := by decide +kernel
theorem dX2_readLaw_39 : decode cX2_readLaw 39 = .ok (.iload_n 3, 1) := by decide +kernel
theorem dX2_readLaw_40 : decode cX2_readLaw 40 = .ok (.bipush 17, 2) := by decide +kernel
theorem dX2_readLaw_42 : decode cX2_readLaw 42 = .ok (.if_icmp .eq 9, 3) := by decide +kernel
theorem dX2_readLaw_45 : decode cX2_readLaw 45 = .ok (.aload_n 1, 1) := by decide +kernel
theorem dX2_readLaw_46 : decode cX2_readLaw 46 = .ok (.iconst 2, 1) := by decide +kernel
theorem dX2_readLaw_47 : decode cX2_readLaw 47 = .ok (.invokevirtual 74, 3) := by decide +kernel
theorem dX2_readLaw_50 : decode cX2_readLaw 50 = .ok (.ireturn, 1) := by decide +kernel
theorem dX2_readLaw_51 : decode cX2_readLaw 51 = .ok (.aload_n 2, 1) := by decide +kernel
theorem dX2_readLaw_52 : decode cX2_readLaw 52 = .ok (.iload_n 3, 1) := by decide +kernel
theorem dX2_readLaw_53 : decode cX2_readLaw 53 = .ok (.bipush 15, 2) := by decide +kernel
theorem dX2_readLaw_55 : decode cX2_readLaw 55 = .ok (.if_icmp .ne 7, 3) := by decide +kernel
theorem dX2_readLaw_58 : decode cX2_readLaw 58 = .ok (.iconst 0, 1) := by decide +kernel
theorem dX2_readLaw_59 : decode cX2_readLaw 59 = .ok (.goto 14, 3) := by decide +kernel
theorem dX2_readLaw_62 : decode cX2_readLaw 62 = .ok (.iload_n 3, 1) := by decide +kernel
theorem dX2_readLaw_63 : decode cX2_readLaw 63 = .ok (.bipush 16, 2) := by decide +kernel
theorem dX2_readLaw_65 : decode cX2_readLaw 65 = .ok (.if_icmp .ne 7, 3) := by decide +kernel
theorem dX2_readLaw_68 : decode cX2_readLaw 68 = .ok (.iconst 1, 1) := by decide +kernel
theorem dX2_readLaw_69 : decode cX2_readLaw 69 = .ok (.goto 4, 3) := by decide +kernel
theorem dX2_readLaw_72 : decode cX2_readLaw 72 = .ok (.iconst 2, 1) := by decide +kernel
theorem dX2_readLaw_73 : decode cX2_readLaw 73 = .ok (.putfield 157, 3) := by decide +kernel
theorem dX2_readLaw_76 : decode cX2_readLaw 76 = .ok (.aload_n 1, 1) := by decide +kernel
theorem dX2_readLaw_77 : decode cX2_readLaw 77 = .ok (.invokevirtual 81, 3) := by decide +kernel
theorem dX2_readLaw_80 : decode cX2_readLaw 80 = .ok (.iconst 1, 1) := by decide +kernel
theorem dX2_readLaw_81 : decode cX2_readLaw 81 = .ok (.ireturn, 1) := by decide +kernel
theorem dX3_init_0 : decode cX3_init 0 = .ok (.aload_n 0, 1) := by decide +kernel
theorem dX3_init_1 : decode cX3_init 1 = .ok (.invokespecial 3, 3) := by decide +kernel
theorem dX3_init_4 : decode cX3_init 4 = .ok (.aload_n 0, 1) := by decide +kernel
theorem dX3_init_5 : decode cX3_init 5 = .ok (.bipush 10, 2) := by decide +kernel
theorem dX3_init_7 : decode cX3_init 7 = .ok (.newarray .int, 2) := by decide +kernel
theorem dX3_init_9 : decode cX3_init 9 = .ok (.putfield 9, 3) := by decide +kernel
theorem dX3_init_12 : decode cX3_init 12 = .ok (.aload_n 0, 1) := by decide +kernel
theorem dX3_init_13 : decode cX3_init 13 = .ok (.iconst 4, 1) := by decide +kernel
theorem dX3_init_14 : decode cX3_init 14 = .ok (.newarray .int, 2) := by decide +kernel
theorem dX3_init_16 : decode cX3_init 16 = .ok (.putfield 15, 3) := by decide +kernel
theorem dX3_init_19 : decode cX3_init 19 = .ok (.aload_n 0, 1) := by decide +kernel
theorem dX3_init_20 : decode cX3_init 20 = .ok (.iconst 0, 1) := by decide +kernel
theorem dX3_init_21 : decode cX3_init 21 = .ok (.putfield 18, 3) := by decide +kernel
theorem dX3_init_24 : decode cX3_init 24 = .ok (.aload_n 0, 1) := by decide +kernel
theorem dX3_init_25 : decode cX3_init 25 = .ok (.iconst 0, 1) := by decide +kernel
theorem dX3_init_26 : decode cX3_init 26 = .ok (.putfield 22, 3) := by decide +kernel
theorem dX3_init_29 : decode cX3_init 29 = .ok (.aload_n 0, 1) := by decide +kernel
theorem dX3_init_30 : decode cX3_init 30 = .ok (.iconst 0, 1) := by decide +kernel
theorem dX3_init_31 : decode cX3_init 31 = .ok (.putfield 25, 3) := by decide +kernel
theorem dX3_init_34 : decode cX3_init 34 = .ok (.aload_n 0, 1) := by decide +kernel
theorem dX3_init_35 : decode cX3_init 35 = .ok (.iconst 0, 1) := by decide +kernel
theorem dX3_init_36 : decode cX3_init 36 = .ok (.putfield 28, 3) := by decide +kernel
theorem dX3_init_39 : decode cX3_init 39 = .ok (.aload_n 0, 1) := by decide +kernel
theorem dX3_init_40 : decode cX3_init 40 = .ok (.iconst 0, 1) := by decide +kernel
theorem dX3_init_41 : decode cX3_init 41 = .ok (.putfield 31, 3) := by decide +kernel
theorem dX3_init_44 : decode cX3_init 44 = .ok (.aload_n 0, 1) := by decide +kernel
theorem dX3_init_45 : decode cX3_init 45 = .ok (.iconst 0, 1) := by decide +kernel
theorem dX3_init_46 : decode cX3_init 46 = .ok (.putfield 34, 3) := by decide +kernel
theorem dX3_init_49 : decode cX3_init 49 = .ok (.return_, 1) := by decide +kernel
theorem dX3_copyFrom_0 : decode cX3_copyFrom 0 = .ok (.aload_n 1, 1) := by decide +kernel
theorem dX3_copyFrom_1 : decode cX3_copyFrom 1 = .ok (.getfield 9, 3) := by decide +kernel
theorem dX3_copyFrom_4 : decode cX3_copyFrom 4 = .ok (.iconst 0, 1) := by decide +kernel
theorem dX3_copyFrom_5 : decode cX3_copyFrom 5 = .ok (.aload_n 0, 1) := by decide +kernel
theorem dX3_copyFrom_6 : decode cX3_copyFrom 6 = .ok (.getfield 9, 3) := by decide +kernel
theorem dX3_copyFrom_9 : decode cX3_copyFrom 9 = .ok (.iconst 0, 1) := by decide +kernel
theorem dX3_copyFrom_10 : decode cX3_copyFrom 10 = .ok (.aload_n 0, 1) := by decide +kernel
theorem dX3_copyFrom_11 : decode cX3_copyFrom 11 = .ok (.getfield 9, 3) := by decide +kernel
theorem dX3_copyFrom_14 : decode cX3_copyFrom 14 = .ok (.arraylength, 1) := by decide +kernel
theorem dX3_copyFrom_15 : decode cX3_copyFrom 15 = .ok (.invokestatic 37, 3) := by decide +kernel
theorem dX3_copyFrom_18 : decode cX3_copyFrom 18 = .ok (.aload_n 1, 1) := by decide +kernel
theorem dX3_copyFrom_19 : decode cX3_copyFrom 19 = .ok (.getfield 15, 3) := by decide +kernel
theorem dX3_copyFrom_22 : decode cX3_copyFrom 22 = .ok (.iconst 0, 1) := by decide +kernel
theorem dX3_copyFrom_23 : decode cX3_copyFrom 23 = .ok (.aload_n 0, 1) := by decide +kernel
theorem dX3_copyFrom_24 : decode cX3_copyFrom 24 = .ok (.getfield 15, 3) := by decide +kernel
theorem dX3_copyFrom_27 : decode cX3_copyFrom 27 = .ok (.iconst 0, 1) := by decide +kernel
theorem dX3_copyFrom_28 : decode cX3_copyFrom 28 = .ok (.aload_n 0, 1) := by decide +kernel
theorem dX3_copyFrom_29 : decode cX3_copyFrom 29 = .ok (.getfield 15, 3) := by decide +kernel
theorem dX3_copyFrom_32 : decode cX3_copyFrom 32 = .ok (.arraylength, 1) := by decide +kernel
theorem dX3_copyFrom_33 : decode cX3_copyFrom 33 = .ok (.invokestatic 37, 3) := by decide +kernel
theorem dX3_copyFrom_36 : decode cX3_copyFrom 36 = .ok (.aload_n 0, 1) := by decide +kernel
theorem dX3_copyFrom_37 : decode cX3_copyFrom 37 = .ok (.aload_n 1, 1) := by decide +kernel
theorem dX3_copyFrom_38 : decode cX3_copyFrom 38 = .ok (.getfield 18, 3) := by decide +kernel
theorem dX3_copyFrom_41 : decode cX3_copyFrom 41 = .ok (.putfield 18, 3) := by decide +kernel
theorem dX3_copyFrom_44 : decode cX3_copyFrom 44 = .ok (.aload_n 0, 1) := by decide +kernel
theorem dX3_copyFrom_45 : decode cX3_copyFrom 45 = .ok (.aload_n 1, 1) := by decide +kernel
theorem dX3_copyFrom_46 : decode cX3_copyFrom 46 = .ok (.getfield 22, 3) := by decide +kernel
theorem dX3_copyFrom_49 : decode cX3_copyFrom 49 = .ok (.putfield 22, 3) := by decide +kernel
theorem dX3_copyFrom_52 : decode cX3_copyFrom 52 = .ok (.aload_n 0, 1) := by decide +kernel
theorem dX3_copyFrom_53 : decode cX3_copyFrom 53 = .ok (.aload_n 1, 1) := by decide +kernel
theorem dX3_copyFrom_54 : decode cX3_copyFrom 54 = .ok (.getfield 25, 3) := by decide +kernel
theorem dX3_copyFrom_57 : decode cX3_copyFrom 57 = .ok (.putfield 25, 3) := by decide +kernel
theorem dX3_copyFrom_60 : decode cX3_copyFrom 60 = .ok (.aload_n 0, 1) := by decide +kernel
theorem dX3_copyFrom_61 : decode cX3_copyFrom 61 = .ok (.aload_n 1, 1) := by decide +kernel
theorem dX3_copyFrom_62 : decode cX3_copyFrom 62 = .ok (.getfield 28, 3) := by decide +kernel
theorem dX3_copyFrom_65 : decode cX3_copyFrom 65 = .ok (.putfield 28, 3) := by decide +kernel
theorem dX3_copyFrom_68 : decode cX3_copyFrom 68 = .ok (.aload_n 0, 1) := by decide +kernel
theorem dX3_copyFrom_69 : decode cX3_copyFrom 69 = .ok (.aload_n 1, 1) := by decide +kernel
theorem dX3_copyFrom_70 : decode cX3_copyFrom 70 = .ok (.getfield 31, 3) := by decide +kernel
theorem dX3_copyFrom_73 : decode cX3_copyFrom 73 = .ok (.putfield 31, 3) := by decide +kernel
theorem dX3_copyFrom_76 : decode cX3_copyFrom 76 = .ok (.aload_n 0, 1) := by decide +kernel
theorem dX3_copyFrom_77 : decode cX3_copyFrom 77 = .ok (.aload_n 1, 1) := by decide +kernel
theorem dX3_copyFrom_78 : decode cX3_copyFrom 78 = .ok (.getfield 34, 3) := by decide +kernel
theorem dX3_copyFrom_81 : decode cX3_copyFrom 81 = .ok (.putfield 34, 3) := by decide +kernel
theorem dX3_copyFrom_84 : decode cX3_copyFrom 84 = .ok (.return_, 1) := by decide +kernel
theorem dX3_openCourt_0 : decode cX3_openCourt 0 = .ok (.iconst 0, 1) := by decide +kernel
theorem dX3_openCourt_1 : decode cX3_openCourt 1 = .ok (.istore_n 2, 1) := by decide +kernel
theorem dX3_openCourt_2 : decode cX3_openCourt 2 = .ok (.iload_n 2, 1) := by decide +kernel
theorem dX3_openCourt_3 : decode cX3_openCourt 3 = .ok (.aload_n 0, 1) := by decide +kernel
theorem dX3_openCourt_4 : decode cX3_openCourt 4 = .ok (.getfield 15, 3) := by decide +kernel
theorem dX3_openCourt_7 : decode cX3_openCourt 7 = .ok (.arraylength, 1) := by decide +kernel
theorem dX3_openCourt_8 : decode cX3_openCourt 8 = .ok (.if_icmp .ge 16, 3) := by decide +kernel
theorem dX3_openCourt_11 : decode cX3_openCourt 11 = .ok (.aload_n 0, 1) := by decide +kernel
theorem dX3_openCourt_12 : decode cX3_openCourt 12 = .ok (.getfield 15, 3) := by decide +kernel
theorem dX3_openCourt_15 : decode cX3_openCourt 15 = .ok (.iload_n 2, 1) := by decide +kernel
theorem dX3_openCourt_16 : decode cX3_openCourt 16 = .ok (.iconst 0, 1) := by decide +kernel
theorem dX3_openCourt_17 : decode cX3_openCourt 17 = .ok (.iastore, 1) := by decide +kernel
theorem dX3_openCourt_18 : decode cX3_openCourt 18 = .ok (.iinc 2 1, 3) := by decide +kernel
theorem dX3_openCourt_21 : decode cX3_openCourt 21 = .ok (.goto (-19), 3) := by decide +kernel
theorem dX3_openCourt_24 : decode cX3_openCourt 24 = .ok (.aload_n 0, 1) := by decide +kernel
theorem dX3_openCourt_25 : decode cX3_openCourt 25 = .ok (.iconst 0, 1) := by decide +kernel
theorem dX3_openCourt_26 : decode cX3_openCourt 26 = .ok (.putfield 28, 3) := by decide +kernel
theorem dX3_openCourt_29 : decode cX3_openCourt 29 = .ok (.aload_n 0, 1) := by decide +kernel
theorem dX3_openCourt_30 : decode cX3_openCourt 30 = .ok (.iconst 0, 1) := by decide +kernel
theorem dX3_openCourt_31 : decode cX3_openCourt 31 = .ok (.putfield 31, 3) := by decide +kernel
theorem dX3_openCourt_34 : decode cX3_openCourt 34 = .ok (.aload_n 0, 1) := by decide +kernel
theorem dX3_openCourt_35 : decode cX3_openCourt 35 = .ok (.iconst 0, 1) := by decide +kernel
theorem dX3_openCourt_36 : decode cX3_openCourt 36 = .ok (.putfield 34, 3) := by decide +kernel
theorem dX3_openCourt_39 : decode cX3_openCourt 39 = .ok (.aload_n 0, 1) := by decide +kernel
theorem dX3_openCourt_40 : decode cX3_openCourt 40 = .ok (.aload_n 1, 1) := by decide +kernel
theorem dX3_openCourt_41 : decode cX3_openCourt 41 = .ok (.invokevirtual 43, 3) := by decide +kernel
theorem dX3_openCourt_44 : decode cX3_openCourt 44 = .ok (.return_, 1) := by decide +kernel
theorem dX3_openDay_0 : decode cX3_openDay 0 = .ok (.aload_n 1, 1) := by decide +kernel
theorem dX3_openDay_1 : decode cX3_openDay 1 = .ok (.getfield 47, 3) := by decide +kernel
theorem dX3_openDay_4 : decode cX3_openDay 4 = .ok (.iconst 0, 1) := by decide +kernel
theorem dX3_openDay_5 : decode cX3_openDay 5 = .ok (.iaload, 1) := by decide +kernel
theorem dX3_openDay_6 : decode cX3_openDay 6 = .ok (.istore_n 2, 1) := by decide +kernel
theorem dX3_openDay_7 : decode cX3_openDay 7 = .ok (.iconst 0, 1) := by decide +kernel
theorem dX3_openDay_8 : decode cX3_openDay 8 = .ok (.istore_n 3, 1) := by decide +kernel
theorem dX3_openDay_9 : decode cX3_openDay 9 = .ok (.iload_n 3, 1) := by decide +kernel
theorem dX3_openDay_10 : decode cX3_openDay 10 = .ok (.iload_n 2, 1) := by decide +kernel
theorem dX3_openDay_11 : decode cX3_openDay 11 = .ok (.if_icmp .ge 21, 3) := by decide +kernel
theorem dX3_openDay_14 : decode cX3_openDay 14 = .ok (.aload_n 0, 1) := by decide +kernel
theorem dX3_openDay_15 : decode cX3_openDay 15 = .ok (.getfield 9, 3) := by decide +kernel
theorem dX3_openDay_18 : decode cX3_openDay 18 = .ok (.iload_n 3, 1) := by decide +kernel
theorem dX3_openDay_19 : decode cX3_openDay 19 = .ok (.aload_n 1, 1) := by decide +kernel
theorem dX3_openDay_20 : decode cX3_openDay 20 = .ok (.getfield 52, 3) := by decide +kernel
theorem dX3_openDay_23 : decode cX3_openDay 23 = .ok (.iload_n 3, 1) := by decide +kernel
theorem dX3_openDay_24 : decode cX3_openDay 24 = .ok (.iaload, 1) := by decide +kernel
theorem dX3_openDay_25 : decode cX3_openDay 25 = .ok (.iastore, 1) := by decide +kernel
theorem dX3_openDay_26 : decode cX3_openDay 26 = .ok (.iinc 3 1, 3) := by decide +kernel
theorem dX3_openDay_29 : decode cX3_openDay 29 = .ok (.goto (-20), 3) := by decide +kernel
theorem dX3_openDay_32 : decode cX3_openDay 32 = .ok (.aload_n 0, 1) := by decide +kernel
theorem dX3_openDay_33 : decode cX3_openDay 33 = .ok (.iconst 1, 1) := by decide +kernel
theorem dX3_openDay_34 : decode cX3_openDay 34 = .ok (.iload_n 2, 1) := by decide +kernel
theorem dX3_openDay_35 : decode cX3_openDay 35 = .ok (.ishl, 1) := by decide +kernel
theorem dX3_openDay_36 : decode cX3_openDay 36 = .ok (.iconst 1, 1) := by decide +kernel
theorem dX3_openDay_37 : decode cX3_openDay 37 = .ok (.isub, 1) := by decide +kernel
theorem dX3_openDay_38 : decode cX3_openDay 38 = .ok (.putfield 18, 3) := by decide +kernel
theorem dX3_openDay_41 : decode cX3_openDay 41 = .ok (.aload_n 0, 1) := by decide +kernel
theorem dX3_openDay_42 : decode cX3_openDay 42 = .ok (.iconst 0, 1) := by decide +kernel
theorem dX3_openDay_43 : decode cX3_openDay 43 = .ok (.putfield 22, 3) := by decide +kernel
theorem dX3_openDay_46 : decode cX3_openDay 46 = .ok (.aload_n 0, 1) := by decide +kernel
theorem dX3_openDay_47 : decode cX3_openDay 47 = .ok (.iconst 0, 1) := by decide +kernel
theorem dX3_openDay_48 : decode cX3_openDay 48 = .ok (.putfield 25, 3) := by decide +kernel
theorem dX3_openDay_51 : decode cX3_openDay 51 = .ok (.return_, 1) := by decide +kernel
theorem dX3_closeDay_0 : decode cX3_closeDay 0 = .ok (.aload_n 0, 1) := by decide +kernel
theorem dX3_closeDay_1 : decode cX3_closeDay 1 = .ok (.aload_n 1, 1) := by decide +kernel
theorem dX3_closeDay_2 : decode cX3_closeDay 2 = .ok (.getfield 55, 3) := by decide +kernel
theorem dX3_closeDay_5 : decode cX3_closeDay 5 = .ok (.invokevirtual 58, 3) := by decide +kernel
theorem dX3_closeDay_8 : decode cX3_closeDay 8 = .ok (.istore_n 2, 1) := by decide +kernel
theorem dX3_closeDay_9 : decode cX3_closeDay 9 = .ok (.aload_n 1, 1) := by decide +kernel
theorem dX3_closeDay_10 : decode cX3_closeDay 10 = .ok (.getfield 47, 3) := by decide +kernel
theorem dX3_closeDay_13 : decode cX3_closeDay 13 = .ok (.iconst 2, 1) := by decide +kernel
theorem dX3_closeDay_14 : decode cX3_closeDay 14 = .ok (.iaload, 1) := by decide +kernel
theorem dX3_closeDay_15 : decode cX3_closeDay 15 = .ok (.ifCond .le 52, 3) := by decide +kernel
theorem dX3_closeDay_18 : decode cX3_closeDay 18 = .ok (.iconst 0, 1) := by decide +kernel
theorem dX3_closeDay_19 : decode cX3_closeDay 19 = .ok (.istore_n 3, 1) := by decide +kernel
theorem dX3_closeDay_20 : decode cX3_closeDay 20 = .ok (.iload_n 3, 1) := by decide +kernel
theorem dX3_closeDay_21 : decode cX3_closeDay 21 = .ok (.aload_n 1, 1) := by decide +kernel
theorem dX3_closeDay_22 : decode cX3_closeDay 22 = .ok (.getfield 47, 3) := by decide +kernel
theorem dX3_closeDay_25 : decode cX3_closeDay 25 = .ok (.iconst 3, 1) := by decide +kernel
theorem dX3_closeDay_26 : decode cX3_closeDay 26 = .ok (.iaload, 1) := by decide +kernel
theorem dX3_closeDay_27 : decode cX3_closeDay 27 = .ok (.if_icmp .ge 27, 3) := by decide +kernel
theorem dX3_closeDay_30 : decode cX3_closeDay 30 = .ok (.aload_n 0, 1) := by decide +kernel
theorem dX3_closeDay_31 : decode cX3_closeDay 31 = .ok (.getfield 15, 3) := by decide +kernel
theorem dX3_closeDay_34 : decode cX3_closeDay 34 = .ok (.iload_n 3, 1) := by decide +kernel
theorem dX3_closeDay_35 : decode cX3_closeDay 35 = .ok (.dup2, 1) := by decide +kernel
theorem dX3_closeDay_36 : decode cX3_closeDay 36 = .ok (.iaload, 1) := by decide +kernel
theorem dX3_closeDay_37 : decode cX3_closeDay 37 = .ok (.aload_n 1, 1) := by decide +kernel
theorem dX3_closeDay_38 : decode cX3_closeDay 38 = .ok (.iload_n 3, 1) := by decide +kernel
theorem dX3_closeDay_39 : decode cX3_closeDay 39 = .ok (.aload_n 0, 1) := by decide +kernel
theorem dX3_closeDay_40 : decode cX3_closeDay 40 = .ok (.getfield 31, 3) := by decide +kernel
theorem dX3_closeDay_43 : decode cX3_closeDay 43 = .ok (.invokevirtual 62, 3) := by decide +kernel
theorem dX3_closeDay_46 : decode cX3_closeDay 46 = .ok (.iadd, 1) := by decide +kernel
theorem dX3_closeDay_47 : decode cX3_closeDay 47 = .ok (.iastore, 1) := by decide +kernel
theorem dX3_closeDay_48 : decode cX3_closeDay 48 = .ok (.iinc 3 1, 3) := by decide +kernel
theorem dX3_closeDay_51 : decode cX3_closeDay 51 = .ok (.goto (-31), 3) := by decide +kernel
theorem dX3_closeDay_54 : decode cX3_closeDay 54 = .ok (.aload_n 0, 1) := by decide +kernel
theorem dX3_closeDay_55 : decode cX3_closeDay 55 = .ok (.aload_n 1, 1) := by decide +kernel
theorem dX3_closeDay_56 : decode cX3_closeDay 56 = .ok (.aload_n 0, 1) := by decide +kernel
theorem dX3_closeDay_57 : decode cX3_closeDay 57 = .ok (.getfield 31, 3) := by decide +kernel
theorem dX3_closeDay_60 : decode cX3_closeDay 60 = .ok (.iload_n 2, 1) := by decide +kernel
theorem dX3_closeDay_61 : decode cX3_closeDay 61 = .ok (.invokevirtual 66, 3) := by decide +kernel
theorem dX3_closeDay_64 : decode cX3_closeDay 64 = .ok (.putfield 31, 3) := by decide +kernel
theorem dX3_closeDay_67 : decode cX3_closeDay 67 = .ok (.aload_n 0, 1) := by decide +kernel
theorem dX3_closeDay_68 : decode cX3_closeDay 68 = .ok (.dup, 1) := by decide +kernel
theorem dX3_closeDay_69 : decode cX3_closeDay 69 = .ok (.getfield 28, 3) := by decide +kernel
theorem dX3_closeDay_72 : decode cX3_closeDay 72 = .ok (.iconst 1, 1) := by decide +kernel
theorem dX3_closeDay_73 : decode cX3_closeDay 73 = .ok (.iadd, 1) := by decide +kernel
theorem dX3_closeDay_74 : decode cX3_closeDay 74 = .ok (.putfield 28, 3) := by decide +kernel
theorem dX3_closeDay_77 : decode cX3_closeDay 77 = .ok (.aload_n 0, 1) := by decide +kernel
theorem dX3_closeDay_78 : decode cX3_closeDay 78 = .ok (.aload_n 1, 1) := by decide +kernel
theorem dX3_closeDay_79 : decode cX3_closeDay 79 = .ok (.invokevirtual 43, 3) := by decide +kernel
theorem dX3_closeDay_82 : decode cX3_closeDay 82 = .ok (.iload_n 2, 1) := by decide +kernel
theorem dX3_closeDay_83 : decode cX3_closeDay 83 = .ok (.ireturn, 1) := by decide +kernel
theorem dX3_isSeated_0 : decode cX3_isSeated 0 = .ok (.aload_n 0, 1) := by decide +kernel
theorem dX3_isSeated_1 : decode cX3_isSeated 1 = .ok (.getfield 18, 3) := by decide +kernel
theorem dX3_isSeated_4 : decode cX3_isSeated 4 = .ok (.iload_n 1, 1) := by decide +kernel
theorem dX3_isSeated_5 : decode cX3_isSeated 5 = .ok (.ishr, 1) := by decide +kernel
theorem dX3_isSeated_6 : decode cX3_isSeated 6 = .ok (.iconst 1, 1) := by decide +kernel
theorem dX3_isSeated_7 : decode cX3_isSeated 7 = .ok (.iand, 1) := by decide +kernel
theorem dX3_isSeated_8 : decode cX3_isSeated 8 = .ok (.ifCond .eq 7, 3) := by decide +kernel
theorem dX3_isSeated_11 : decode cX3_isSeated 11 = .ok (.iconst 1, 1) := by decide +kernel
theorem dX3_isSeated_12 : decode cX3_isSeated 12 = .ok (.goto 4, 3) := by decide +kernel
theorem dX3_isSeated_15 : decode cX3_isSeated 15 = .ok (.iconst 0, 1) := by decide +kernel
theorem dX3_isSeated_16 : decode cX3_isSeated 16 = .ok (.ireturn, 1) := by decide +kernel
theorem dX3_unseat_0 : decode cX3_unseat 0 = .ok (.aload_n 0, 1) := by decide +kernel
theorem dX3_unseat_1 : decode cX3_unseat 1 = .ok (.dup, 1) := by decide +kernel
theorem dX3_unseat_2 : decode cX3_unseat 2 = .ok (.getfield 18, 3) := by decide +kernel
theorem dX3_unseat_5 : decode cX3_unseat 5 = .ok (.iconst 1, 1) := by decide +kernel
theorem dX3_unseat_6 : decode cX3_unseat 6 = .ok (.iload_n 1, 1) := by decide +kernel
theorem dX3_unseat_7 : decode cX3_unseat 7 = .ok (.ishl, 1) := by decide +kernel
theorem dX3_unseat_8 : decode cX3_unseat 8 = .ok (.iconst (-1), 1) := by decide +kernel
theorem dX3_unseat_9 : decode cX3_unseat 9 = .ok (.ixor, 1) := by decide +kernel
theorem dX3_unseat_10 : decode cX3_unseat 10 = .ok (.iand, 1) := by decide +kernel
theorem dX3_unseat_11 : decode cX3_unseat 11 = .ok (.putfield 18, 3) := by decide +kernel
theorem dX3_unseat_14 : decode cX3_unseat 14 = .ok (.return_, 1) := by decide +kernel
theorem dX3_reseat_0 : decode cX3_reseat 0 = .ok (.aload_n 0, 1) := by decide +kernel
theorem dX3_reseat_1 : decode cX3_reseat 1 = .ok (.dup, 1) := by decide +kernel
theorem dX3_reseat_2 : decode cX3_reseat 2 = .ok (.getfield 18, 3) := by decide +kernel
theorem dX3_reseat_5 : decode cX3_reseat 5 = .ok (.iconst 1, 1) := by decide +kernel
theorem dX3_reseat_6 : decode cX3_reseat 6 = .ok (.iload_n 1, 1) := by decide +kernel
theorem dX3_reseat_7 : decode cX3_reseat 7 = .ok (.ishl, 1) := by decide +kernel
theorem dX3_reseat_8 : decode cX3_reseat 8 = .ok (.ior, 1) := by decide +kernel
theorem dX3_reseat_9 : decode cX3_reseat 9 = .ok (.putfield 18, 3) := by decide +kernel
theorem dX3_reseat_12 : decode cX3_reseat 12 = .ok (.return_, 1) := by decide +kernel
theorem dX3_seatedCount_0 : decode cX3_seatedCount 0 = .ok (.aload_n 0, 1) := by decide +kernel
theorem dX3_seatedCount_1 : decode cX3_seatedCount 1 = .ok (.getfield 18, 3) := by decide +kernel
theorem dX3_seatedCount_4 : decode cX3_seatedCount 4 = .ok (.invokestatic 69, 3) := by decide +kernel
theorem dX3_seatedCount_7 : decode cX3_seatedCount 7 = .ok (.ireturn, 1) := by decide +kernel
theorem dX3_guiltyVotes_0 : decode cX3_guiltyVotes 0 = .ok (.iconst 0, 1) := by decide +kernel
theorem dX3_guiltyVotes_1 : decode cX3_guiltyVotes 1 = .ok (.istore_n 1, 1) := by decide +kernel
theorem dX3_guiltyVotes_2 : decode cX3_guiltyVotes 2 = .ok (.iconst 0, 1) := by decide +kernel
theorem dX3_guiltyVotes_3 : decode cX3_guiltyVotes 3 = .ok (.istore_n 2, 1) := by decide +kernel
theorem dX3_guiltyVotes_4 : decode cX3_guiltyVotes 4 = .ok (.iload_n 2, 1) := by decide +kernel
theorem dX3_guiltyVotes_5 : decode cX3_guiltyVotes 5 = .ok (.bipush 10, 2) := by decide +kernel
theorem dX3_guiltyVotes_7 : decode cX3_guiltyVotes 7 = .ok (.if_icmp .ge 41, 3) := by decide +kernel
theorem dX3_guiltyVotes_10 : decode cX3_guiltyVotes 10 = .ok (.aload_n 0, 1) := by decide +kernel
theorem dX3_guiltyVotes_11 : decode cX3_guiltyVotes 11 = .ok (.getfield 18, 3) := by decide +kernel
theorem dX3_guiltyVotes_14 : decode cX3_guiltyVotes 14 = .ok (.iload_n 2, 1) := by decide +kernel
theorem dX3_guiltyVotes_15 : decode cX3_guiltyVotes 15 = .ok (.ishr, 1) := by decide +kernel
theorem dX3_guiltyVotes_16 : decode cX3_guiltyVotes 16 = .ok (.ifCond .eq 32, 3) := by decide +kernel
theorem dX3_guiltyVotes_19 : decode cX3_guiltyVotes 19 = .ok (.aload_n 0, 1) := by decide +kernel
theorem dX3_guiltyVotes_20 : decode cX3_guiltyVotes 20 = .ok (.getfield 18, 3) := by decide +kernel
theorem dX3_guiltyVotes_23 : decode cX3_guiltyVotes 23 = .ok (.iload_n 2, 1) := by decide +kernel
theorem dX3_guiltyVotes_24 : decode cX3_guiltyVotes 24 = .ok (.ishr, 1) := by decide +kernel
theorem dX3_guiltyVotes_25 : decode cX3_guiltyVotes 25 = .ok (.iconst 1, 1) := by decide +kernel
theorem dX3_guiltyVotes_26 : decode cX3_guiltyVotes 26 = .ok (.iand, 1) := by decide +kernel
theorem dX3_guiltyVotes_27 : decode cX3_guiltyVotes 27 = .ok (.ifCond .eq 15, 3) := by decide +kernel
theorem dX3_guiltyVotes_30 : decode cX3_guiltyVotes 30 = .ok (.aload_n 0, 1) := by decide +kernel
theorem dX3_guiltyVotes_31 : decode cX3_guiltyVotes 31 = .ok (.getfield 9, 3) := by decide +kernel
theorem dX3_guiltyVotes_34 : decode cX3_guiltyVotes 34 = .ok (.iload_n 2, 1) := by decide +kernel
theorem dX3_guiltyVotes_35 : decode cX3_guiltyVotes 35 = .ok (.iaload, 1) := by decide +kernel
theorem dX3_guiltyVotes_36 : decode cX3_guiltyVotes 36 = .ok (.ifCond .le 6, 3) := by decide +kernel
theorem dX3_guiltyVotes_39 : decode cX3_guiltyVotes 39 = .ok (.iinc 1 1, 3) := by decide +kernel
theorem dX3_guiltyVotes_42 : decode cX3_guiltyVotes 42 = .ok (.iinc 2 1, 3) := by decide +kernel
theorem dX3_guiltyVotes_45 : decode cX3_guiltyVotes 45 = .ok (.goto (-41), 3) := by decide +kernel
theorem dX3_guiltyVotes_48 : decode cX3_guiltyVotes 48 = .ok (.iload_n 1, 1) := by decide +kernel
theorem dX3_guiltyVotes_49 : decode cX3_guiltyVotes 49 = .ok (.ireturn, 1) := by decide +kernel
theorem dX3_ruling_0 : decode cX3_ruling 0 = .ok (.aload_n 0, 1) := by decide +kernel
theorem dX3_ruling_1 : decode cX3_ruling 1 = .ok (.invokevirtual 74, 3) := by decide +kernel
theorem dX3_ruling_4 : decode cX3_ruling 4 = .ok (.istore_n 2, 1) := by decide +kernel
theorem dX3_ruling_5 : decode cX3_ruling 5 = .ok (.iload_n 1, 1) := by decide +kernel
theorem dX3_ruling_6 : decode cX3_ruling 6 = .ok (.iload_n 2, 1) := by decide +kernel
theorem dX3_ruling_7 : decode cX3_ruling 7 = .ok (.aload_n 0, 1) := by decide +kernel
theorem dX3_ruling_8 : decode cX3_ruling 8 = .ok (.invokevirtual 78, 3) := by decide +kernel
theorem dX3_ruling_11 : decode cX3_ruling 11 = .ok (.iload_n 2, 1) := by decide +kernel
theorem dX3_ruling_12 : decode cX3_ruling 12 = .ok (.isub, 1) := by decide +kernel
theorem dX3_ruling_13 : decode cX3_ruling 13 = .ok (.invokestatic 81, 3) := by decide +kernel
theorem dX3_ruling_16 : decode cX3_ruling 16 = .ok (.ireturn, 1) := by decide +kernel
theorem dX3_canPay_0 : decode cX3_canPay 0 = .ok (.aload_n 0, 1) := by decide +kernel
theorem dX3_canPay_1 : decode cX3_canPay 1 = .ok (.getfield 34, 3) := by decide +kernel
theorem dX3_canPay_4 : decode cX3_canPay 4 = .ok (.aload_n 1, 1) := by decide +kernel
theorem dX3_canPay_5 : decode cX3_canPay 5 = .ok (.getfield 85, 3) := by decide +kernel
theorem dX3_canPay_8 : decode cX3_canPay 8 = .ok (.iload_n 2, 1) := by decide +kernel
theorem dX3_canPay_9 : decode cX3_canPay 9 = .ok (.iaload, 1) := by decide +kernel
theorem dX3_canPay_10 : decode cX3_canPay 10 = .ok (.iadd, 1) := by decide +kernel
theorem dX3_canPay_11 : decode cX3_canPay 11 = .ok (.sipush 9999, 3) := by decide +kernel
theorem dX3_canPay_14 : decode cX3_canPay 14 = .ok (.if_icmp .gt 7, 3) := by decide +kernel
theorem dX3_canPay_17 : decode cX3_canPay 17 = .ok (.iconst 1, 1) := by decide +kernel
theorem dX3_canPay_18 : decode cX3_canPay 18 = .ok (.goto 4, 3) := by decide +kernel
theorem dX3_canPay_21 : decode cX3_canPay 21 = .ok (.iconst 0, 1) := by decide +kernel
theorem dX3_canPay_22 : decode cX3_canPay 22 = .ok (.ireturn, 1) := by decide +kernel
theorem dX3_buy_0 : decode cX3_buy 0 = .ok (.aload_n 0, 1) := by decide +kernel
theorem dX3_buy_1 : decode cX3_buy 1 = .ok (.dup, 1) := by decide +kernel
theorem dX3_buy_2 : decode cX3_buy 2 = .ok (.getfield 34, 3) := by decide +kernel
theorem dX3_buy_5 : decode cX3_buy 5 = .ok (.aload_n 1, 1) := by decide +kernel
theorem dX3_buy_6 : decode cX3_buy 6 = .ok (.getfield 85, 3) := by decide +kernel
theorem dX3_buy_9 : decode cX3_buy 9 = .ok (.iload_n 2, 1) := by decide +kernel
theorem dX3_buy_10 : decode cX3_buy 10 = .ok (.iaload, 1) := by decide +kernel
theorem dX3_buy_11 : decode cX3_buy 11 = .ok (.iadd, 1) := by decide +kernel
theorem dX3_buy_12 : decode cX3_buy 12 = .ok (.putfield 34, 3) := by decide +kernel
theorem dX3_buy_15 : decode cX3_buy 15 = .ok (.aload_n 0, 1) := by decide +kernel
theorem dX3_buy_16 : decode cX3_buy 16 = .ok (.getfield 9, 3) := by decide +kernel
theorem dX3_buy_19 : decode cX3_buy 19 = .ok (.iload_n 2, 1) := by decide +kernel
theorem dX3_buy_20 : decode cX3_buy 20 = .ok (.iload_n 3, 1) := by decide +kernel
theorem dX3_buy_21 : decode cX3_buy 21 = .ok (.bipush 99, 2) := by decide +kernel
theorem dX3_buy_23 : decode cX3_buy 23 = .ok (.imul, 1) := by decide +kernel
theorem dX3_buy_24 : decode cX3_buy 24 = .ok (.iastore, 1) := by decide +kernel
theorem dX3_buy_25 : decode cX3_buy 25 = .ok (.return_, 1) := by decide +kernel
theorem dX3_wasShown_0 : decode cX3_wasShown 0 = .ok (.aload_n 0, 1) := by decide +kernel
theorem dX3_wasShown_1 : decode cX3_wasShown 1 = .ok (.getfield 22, 3) := by decide +kernel
theorem dX3_wasShown_4 : decode cX3_wasShown 4 = .ok (.iload_n 1, 1) := by decide +kernel
theorem dX3_wasShown_5 : decode cX3_wasShown 5 = .ok (.ishr, 1) := by decide +kernel
theorem dX3_wasShown_6 : decode cX3_wasShown 6 = .ok (.iconst 1, 1) := by decide +kernel
theorem dX3_wasShown_7 : decode cX3_wasShown 7 = .ok (.iand, 1) := by decide +kernel
theorem dX3_wasShown_8 : decode cX3_wasShown 8 = .ok (.ifCond .eq 7, 3) := by decide +kernel
theorem dX3_wasShown_11 : decode cX3_wasShown 11 = .ok (.iconst 1, 1) := by decide +kernel
theorem dX3_wasShown_12 : decode cX3_wasShown 12 = .ok (.goto 4, 3) := by decide +kernel
theorem dX3_wasShown_15 : decode cX3_wasShown 15 = .ok (.iconst 0, 1) := by decide +kernel
theorem dX3_wasShown_16 : decode cX3_wasShown 16 = .ok (.ireturn, 1) := by decide +kernel
theorem dX3_present_0 : decode cX3_present 0 = .ok (.aload_n 1, 1) := by decide +kernel
theorem dX3_present_1 : decode cX3_present 1 = .ok (.getfield 88, 3) := by decide +kernel
theorem dX3_present_4 : decode cX3_present 4 = .ok (.iload_n 2, 1) := by decide +kernel
theorem dX3_present_5 : decode cX3_present 5 = .ok (.iaload, 1) := by decide +kernel
theorem dX3_present_6 : decode cX3_present 6 = .ok (.istore_n 3, 1) := by decide +kernel
theorem dX3_present_7 : decode cX3_present 7 = .ok (.iconst 0, 1) := by decide +kernel
theorem dX3_present_8 : decode cX3_present 8 = .ok (.istore 4, 2) := by decide +kernel
theorem dX3_present_10 : decode cX3_present 10 = .ok (.iconst 0, 1) := by decide +kernel
theorem dX3_present_11 : decode cX3_present 11 = .ok (.istore 5, 2) := by decide +kernel
theorem dX3_present_13 : decode cX3_present 13 = .ok (.iload 5, 2) := by decide +kernel
theorem dX3_present_15 : decode cX3_present 15 = .ok (.aload_n 1, 1) := by decide +kernel
theorem dX3_present_16 : decode cX3_present 16 = .ok (.getfield 47, 3) := by decide +kernel
theorem dX3_present_19 : decode cX3_present 19 = .ok (.iconst 0, 1) := by decide +kernel
theorem dX3_present_20 : decode cX3_present 20 = .ok (.iaload, 1) := by decide +kernel
theorem dX3_present_21 : decode cX3_present 21 = .ok (.if_icmp .ge 59, 3) := by decide +kernel
theorem dX3_present_24 : decode cX3_present 24 = .ok (.aload_n 0, 1) := by decide +kernel
theorem dX3_present_25 : decode cX3_present 25 = .ok (.iload 5, 2) := by decide +kernel
theorem dX3_present_27 : decode cX3_present 27 = .ok (.invokevirtual 91, 3) := by decide +kernel
theorem dX3_present_30 : decode cX3_present 30 = .ok (.ifCond .eq 44, 3) := by decide +kernel
theorem dX3_present_33 : decode cX3_present 33 = .ok (.iconst 0, 1) := by decide +kernel
theorem dX3_present_34 : decode cX3_present 34 = .ok (.iload_n 3, 1) := by decide +kernel
theorem dX3_present_35 : decode cX3_present 35 = .ok (.invokestatic 95, 3) := by decide +kernel
theorem dX3_present_38 : decode cX3_present 38 = .ok (.aload_n 1, 1) := by decide +kernel
theorem dX3_present_39 : decode cX3_present 39 = .ok (.getfield 100, 3) := by decide +kernel
theorem dX3_present_42 : decode cX3_present 42 = .ok (.iload 5, 2) := by decide +kernel
theorem dX3_present_44 : decode cX3_present 44 = .ok (.iaload, 1) := by decide +kernel
theorem dX3_present_45 : decode cX3_present 45 = .ok (.isub, 1) := by decide +kernel
theorem dX3_present_46 : decode cX3_present 46 = .ok (.invokestatic 103, 3) := by decide +kernel
theorem dX3_present_49 : decode cX3_present 49 = .ok (.istore 6, 2) := by decide +kernel
theorem dX3_present_51 : decode cX3_present 51 = .ok (.iload 4, 2) := by decide +kernel
theorem dX3_present_53 : decode cX3_present 53 = .ok (.aload_n 0, 1) := by decide +kernel
theorem dX3_present_54 : decode cX3_present 54 = .ok (.iload 5, 2) := by decide +kernel
theorem dX3_present_56 : decode cX3_present 56 = .ok (.iload_n 3, 1) := by decide +kernel
theorem dX3_present_57 : decode cX3_present 57 = .ok (.ifCond .ge 9, 3) := by decide +kernel
theorem dX3_present_60 : decode cX3_present 60 = .ok (.iload 6, 2) := by decide +kernel
theorem dX3_present_62 : decode cX3_present 62 = .ok (.ineg, 1) := by decide +kernel
theorem dX3_present_63 : decode cX3_present 63 = .ok (.goto 5, 3) := by decide +kernel
theorem dX3_present_66 : decode cX3_present 66 = .ok (.iload 6, 2) := by decide +kernel
theorem dX3_present_68 : decode cX3_present 68 = .ok (.invokevirtual 106, 3) := by decide +kernel
theorem dX3_present_71 : decode cX3_present 71 = .ok (.iadd, 1) := by decide +kernel
theorem dX3_present_72 : decode cX3_present 72 = .ok (.istore 4, 2) := by decide +kernel
theorem dX3_present_74 : decode cX3_present 74 = .ok (.iinc 5 1, 3) := by decide +kernel
theorem dX3_present_77 : decode cX3_present 77 = .ok (.goto (-64), 3) := by decide +kernel
theorem dX3_present_80 : decode cX3_present 80 = .ok (.aload_n 0, 1) := by decide +kernel
theorem dX3_present_81 : decode cX3_present 81 = .ok (.dup, 1) := by decide +kernel
theorem dX3_present_82 : decode cX3_present 82 = .ok (.getfield 22, 3) := by decide +kernel
theorem dX3_present_85 : decode cX3_present 85 = .ok (.iconst 1, 1) := by decide +kernel
theorem dX3_present_86 : decode cX3_present 86 = .ok (.iload_n 2, 1) := by decide +kernel
theorem dX3_present_87 : decode cX3_present 87 = .ok (.ishl, 1) := by decide +kernel
theorem dX3_present_88 : decode cX3_present 88 = .ok (.ior, 1) := by decide +kernel
theorem dX3_present_89 : decode cX3_present 89 = .ok (.putfield 22, 3) := by decide +kernel
theorem dX3_present_92 : decode cX3_present 92 = .ok (.iload 4, 2) := by decide +kernel
theorem dX3_present_94 : decode cX3_present 94 = .ok (.ireturn, 1) := by decide +kernel
theorem dX3_shift_0 : decode cX3_shift 0 = .ok (.aload_n 0, 1) := by decide +kernel
theorem dX3_shift_1 : decode cX3_shift 1 = .ok (.getfield 9, 3) := by decide +kernel
theorem dX3_shift_4 : decode cX3_shift 4 = .ok (.iload_n 1, 1) := by decide +kernel
theorem dX3_shift_5 : decode cX3_shift 5 = .ok (.iaload, 1) := by decide +kernel
theorem dX3_shift_6 : decode cX3_shift 6 = .ok (.istore_n 3, 1) := by decide +kernel
theorem dX3_shift_7 : decode cX3_shift 7 = .ok (.iload_n 3, 1) := by decide +kernel
theorem dX3_shift_8 : decode cX3_shift 8 = .ok (.iload_n 2, 1) := by decide +kernel
theorem dX3_shift_9 : decode cX3_shift 9 = .ok (.iadd, 1) := by decide +kernel
theorem dX3_shift_10 : decode cX3_shift 10 = .ok (.istore 4, 2) := by decide +kernel
theorem dX3_shift_12 : decode cX3_shift 12 = .ok (.iload 4, 2) := by decide +kernel
theorem dX3_shift_14 : decode cX3_shift 14 = .ok (.bipush 99, 2) := by decide +kernel
theorem dX3_shift_16 : decode cX3_shift 16 = .ok (.if_icmp .le 10, 3) := by decide +kernel
theorem dX3_shift_19 : decode cX3_shift 19 = .ok (.bipush 99, 2) := by decide +kernel
theorem dX3_shift_21 : decode cX3_shift 21 = .ok (.istore 4, 2) := by decide +kernel
theorem dX3_shift_23 : decode cX3_shift 23 = .ok (.goto 14, 3) := by decide +kernel
theorem dX3_shift_26 : decode cX3_shift 26 = .ok (.iload 4, 2) := by decide +kernel
theorem dX3_shift_28 : decode cX3_shift 28 = .ok (.bipush (-99), 2) := by decide +kernel
theorem dX3_shift_30 : decode cX3_shift 30 = .ok (.if_icmp .ge 7, 3) := by decide +kernel
theorem dX3_shift_33 : decode cX3_shift 33 = .ok (.bipush (-99), 2) := by decide +kernel
theorem dX3_shift_35 : decode cX3_shift 35 = .ok (.istore 4, 2) := by decide +kernel
theorem dX3_shift_37 : decode cX3_shift 37 = .ok (.aload_n 0, 1) := by decide +kernel
theorem dX3_shift_38 : decode cX3_shift 38 = .ok (.getfield 9, 3) := by decide +kernel
theorem dX3_shift_41 : decode cX3_shift 41 = .ok (.iload_n 1, 1) := by decide +kernel
theorem dX3_shift_42 : decode cX3_shift 42 = .ok (.iload 4, 2) := by decide +kernel
theorem dX3_shift_44 : decode cX3_shift 44 = .ok (.iastore, 1) := by decide +kernel
theorem dX3_shift_45 : decode cX3_shift 45 = .ok (.iload 4, 2) := by decide +kernel
theorem dX3_shift_47 : decode cX3_shift 47 = .ok (.iload_n 3, 1) := by decide +kernel
theorem dX3_shift_48 : decode cX3_shift 48 = .ok (.if_icmp .ne 7, 3) := by decide +kernel
theorem dX3_shift_51 : decode cX3_shift 51 = .ok (.iconst 0, 1) := by decide +kernel
theorem dX3_shift_52 : decode cX3_shift 52 = .ok (.goto 4, 3) := by decide +kernel
theorem dX3_shift_55 : decode cX3_shift 55 = .ok (.iconst 1, 1) := by decide +kernel
theorem dX3_shift_56 : decode cX3_shift 56 = .ok (.ireturn, 1) := by decide +kernel
theorem dX3_pullOn_0 : decode cX3_pullOn 0 = .ok (.aload_n 1, 1) := by decide +kernel
theorem dX3_pullOn_1 : decode cX3_pullOn 1 = .ok (.getfield 109, 3) := by decide +kernel
theorem dX3_pullOn_4 : decode cX3_pullOn 4 = .ok (.iload_n 2, 1) := by decide +kernel
theorem dX3_pullOn_5 : decode cX3_pullOn 5 = .ok (.iaload, 1) := by decide +kernel
theorem dX3_pullOn_6 : decode cX3_pullOn 6 = .ok (.aload_n 0, 1) := by decide +kernel
theorem dX3_pullOn_7 : decode cX3_pullOn 7 = .ok (.getfield 18, 3) := by decide +kernel
theorem dX3_pullOn_10 : decode cX3_pullOn 10 = .ok (.iand, 1) := by decide +kernel
theorem dX3_pullOn_11 : decode cX3_pullOn 11 = .ok (.istore_n 3, 1) := by decide +kernel
theorem dX3_pullOn_12 : decode cX3_pullOn 12 = .ok (.iconst 0, 1) := by decide +kernel
theorem dX3_pullOn_13 : decode cX3_pullOn 13 = .ok (.istore 4, 2) := by decide +kernel
theorem dX3_pullOn_15 : decode cX3_pullOn 15 = .ok (.iconst 0, 1) := by decide +kernel
theorem dX3_pullOn_16 : decode cX3_pullOn 16 = .ok (.istore 5, 2) := by decide +kernel
theorem dX3_pullOn_18 : decode cX3_pullOn 18 = .ok (.iload 5, 2) := by decide +kernel
theorem dX3_pullOn_20 : decode cX3_pullOn 20 = .ok (.bipush 10, 2) := by decide +kernel
theorem dX3_pullOn_22 : decode cX3_pullOn 22 = .ok (.if_icmp .ge 76, 3) := by decide +kernel
theorem dX3_pullOn_25 : decode cX3_pullOn 25 = .ok (.iload_n 3, 1) := by decide +kernel
theorem dX3_pullOn_26 : decode cX3_pullOn 26 = .ok (.iload 5, 2) := by decide +kernel
theorem dX3_pullOn_28 : decode cX3_pullOn 28 = .ok (.ishr, 1) := by decide +kernel
theorem dX3_pullOn_29 : decode cX3_pullOn 29 = .ok (.ifCond .eq 69, 3) := by decide +kernel
theorem dX3_pullOn_32 : decode cX3_pullOn 32 = .ok (.iload_n 3, 1) := by decide +kernel
theorem dX3_pullOn_33 : decode cX3_pullOn 33 = .ok (.iload 5, 2) := by decide +kernel
theorem dX3_pullOn_35 : decode cX3_pullOn 35 = .ok (.ishr, 1) := by decide +kernel
theorem dX3_pullOn_36 : decode cX3_pullOn 36 = .ok (.iconst 1, 1) := by decide +kernel
theorem dX3_pullOn_37 : decode cX3_pullOn 37 = .ok (.iand, 1) := by decide +kernel
theorem dX3_pullOn_38 : decode cX3_pullOn 38 = .ok (.ifCond .eq 54, 3) := by decide +kernel
theorem dX3_pullOn_41 : decode cX3_pullOn 41 = .ok (.aload_n 1, 1) := by decide +kernel
theorem dX3_pullOn_42 : decode cX3_pullOn 42 = .ok (.getfield 112, 3) := by decide +kernel
theorem dX3_pullOn_45 : decode cX3_pullOn 45 = .ok (.iload_n 2, 1) := by decide +kernel
theorem dX3_pullOn_46 : decode cX3_pullOn 46 = .ok (.bipush 10, 2) := by decide +kernel
theorem dX3_pullOn_48 : decode cX3_pullOn 48 = .ok (.imul, 1) := by decide +kernel
theorem dX3_pullOn_49 : decode cX3_pullOn 49 = .ok (.iload 5, 2) := by decide +kernel
theorem dX3_pullOn_51 : decode cX3_pullOn 51 = .ok (.iadd, 1) := by decide +kernel
theorem dX3_pullOn_52 : decode cX3_pullOn 52 = .ok (.iaload, 1) := by decide +kernel
theorem dX3_pullOn_53 : decode cX3_pullOn 53 = .ok (.istore 6, 2) := by decide +kernel
theorem dX3_pullOn_55 : decode cX3_pullOn 55 = .ok (.iload 4, 2) := by decide +kernel
theorem dX3_pullOn_57 : decode cX3_pullOn 57 = .ok (.aload_n 0, 1) := by decide +kernel
theorem dX3_pullOn_58 : decode cX3_pullOn 58 = .ok (.getfield 9, 3) := by decide +kernel
theorem dX3_pullOn_61 : decode cX3_pullOn 61 = .ok (.iload 5, 2) := by decide +kernel
theorem dX3_pullOn_63 : decode cX3_pullOn 63 = .ok (.iaload, 1) := by decide +kernel
theorem dX3_pullOn_64 : decode cX3_pullOn 64 = .ok (.ifCond .le 8, 3) := by decide +kernel
theorem dX3_pullOn_67 : decode cX3_pullOn 67 = .ok (.iload 6, 2) := by decide +kernel
theorem dX3_pullOn_69 : decode cX3_pullOn 69 = .ok (.goto 20, 3) := by decide +kernel
theorem dX3_pullOn_72 : decode cX3_pullOn 72 = .ok (.aload_n 0, 1) := by decide +kernel
theorem dX3_pullOn_73 : decode cX3_pullOn 73 = .ok (.getfield 9, 3) := by decide +kernel
theorem dX3_pullOn_76 : decode cX3_pullOn 76 = .ok (.iload 5, 2) := by decide +kernel
theorem dX3_pullOn_78 : decode cX3_pullOn 78 = .ok (.iaload, 1) := by decide +kernel
theorem dX3_pullOn_79 : decode cX3_pullOn 79 = .ok (.ifCond .ge 9, 3) := by decide +kernel
theorem dX3_pullOn_82 : decode cX3_pullOn 82 = .ok (.iload 6, 2) := by decide +kernel
theorem dX3_pullOn_84 : decode cX3_pullOn 84 = .ok (.ineg, 1) := by decide +kernel
theorem dX3_pullOn_85 : decode cX3_pullOn 85 = .ok (.goto 4, 3) := by decide +kernel
theorem dX3_pullOn_88 : decode cX3_pullOn 88 = .ok (.iconst 0, 1) := by decide +kernel
theorem dX3_pullOn_89 : decode cX3_pullOn 89 = .ok (.iadd, 1) := by decide +kernel
theorem dX3_pullOn_90 : decode cX3_pullOn 90 = .ok (.istore 4, 2) := by decide +kernel
theorem dX3_pullOn_92 : decode cX3_pullOn 92 = .ok (.iinc 5 1, 3) := by decide +kernel
theorem dX3_pullOn_95 : decode cX3_pullOn 95 = .ok (.goto (-77), 3) := by decide +kernel
theorem dX3_pullOn_98 : decode cX3_pullOn 98 = .ok (.iload 4, 2) := by decide +kernel
theorem dX3_pullOn_100 : decode cX3_pullOn 100 = .ok (.invokestatic 95, 3) := by decide +kernel
theorem dX3_pullOn_103 : decode cX3_pullOn 103 = .ok (.aload_n 1, 1) := by decide +kernel
theorem dX3_pullOn_104 : decode cX3_pullOn 104 = .ok (.getfield 100, 3) := by decide +kernel
theorem dX3_pullOn_107 : decode cX3_pullOn 107 = .ok (.iload_n 2, 1) := by decide +kernel
theorem dX3_pullOn_108 : decode cX3_pullOn 108 = .ok (.iaload, 1) := by decide +kernel
theorem dX3_pullOn_109 : decode cX3_pullOn 109 = .ok (.if_icmp .le 8, 3) := by decide +kernel
theorem dX3_pullOn_112 : decode cX3_pullOn 112 = .ok (.iload 4, 2) := by decide +kernel
theorem dX3_pullOn_114 : decode cX3_pullOn 114 = .ok (.goto 4, 3) := by decide +kernel
theorem dX3_pullOn_117 : decode cX3_pullOn 117 = .ok (.iconst 0, 1) := by decide +kernel
theorem dX3_pullOn_118 : decode cX3_pullOn 118 = .ok (.ireturn, 1) := by decide +kernel
theorem dX3_talkOn_0 : decode cX3_talkOn 0 = .ok (.aload_n 1, 1) := by decide +kernel
theorem dX3_talkOn_1 : decode cX3_talkOn 1 = .ok (.getfield 115, 3) := by decide +kernel
theorem dX3_talkOn_4 : decode cX3_talkOn 4 = .ok (.ifCond .le 7, 3) := by decide +kernel
theorem dX3_talkOn_7 : decode cX3_talkOn 7 = .ok (.iconst 1, 1) := by decide +kernel
theorem dX3_talkOn_8 : decode cX3_talkOn 8 = .ok (.goto 4, 3) := by decide +kernel
theorem dX3_talkOn_11 : decode cX3_talkOn 11 = .ok (.iconst 0, 1) := by decide +kernel
theorem dX3_talkOn_12 : decode cX3_talkOn 12 = .ok (.istore_n 3, 1) := by decide +kernel
theorem dX3_talkOn_13 : decode cX3_talkOn 13 = .ok (.iconst 0, 1) := by decide +kernel
theorem dX3_talkOn_14 : decode cX3_talkOn 14 = .ok (.istore 4, 2) := by decide +kernel
theorem dX3_talkOn_16 : decode cX3_talkOn 16 = .ok (.iload 4, 2) := by decide +kernel
theorem dX3_talkOn_18 : decode cX3_talkOn 18 = .ok (.iload_n 2, 1) := by decide +kernel
theorem dX3_talkOn_19 : decode cX3_talkOn 19 = .ok (.if_icmp .ge 53, 3) := by decide +kernel
theorem dX3_talkOn_22 : decode cX3_talkOn 22 = .ok (.aload_n 0, 1) := by decide +kernel
theorem dX3_talkOn_23 : decode cX3_talkOn 23 = .ok (.aload_n 1, 1) := by decide +kernel
theorem dX3_talkOn_24 : decode cX3_talkOn 24 = .ok (.iload_n 3, 1) := by decide +kernel
theorem dX3_talkOn_25 : decode cX3_talkOn 25 = .ok (.invokevirtual 118, 3) := by decide +kernel
theorem dX3_talkOn_28 : decode cX3_talkOn 28 = .ok (.istore 5, 2) := by decide +kernel
theorem dX3_talkOn_30 : decode cX3_talkOn 30 = .ok (.iload 5, 2) := by decide +kernel
theorem dX3_talkOn_32 : decode cX3_talkOn 32 = .ok (.ifCond .ne 34, 3) := by decide +kernel
theorem dX3_talkOn_35 : decode cX3_talkOn 35 = .ok (.iload_n 3, 1) := by decide +kernel
theorem dX3_talkOn_36 : decode cX3_talkOn 36 = .ok (.ifCond .eq 14, 3) := by decide +kernel
theorem dX3_talkOn_39 : decode cX3_talkOn 39 = .ok (.aload_n 0, 1) := by decide +kernel
theorem dX3_talkOn_40 : decode cX3_talkOn 40 = .ok (.getfield 25, 3) := by decide +kernel
theorem dX3_talkOn_43 : decode cX3_talkOn 43 = .ok (.aload_n 1, 1) := by decide +kernel
theorem dX3_talkOn_44 : decode cX3_talkOn 44 = .ok (.getfield 115, 3) := by decide +kernel
theorem dX3_talkOn_47 : decode cX3_talkOn 47 = .ok (.if_icmp .lt 19, 3) := by decide +kernel
theorem dX3_talkOn_50 : decode cX3_talkOn 50 = .ok (.aload_n 0, 1) := by decide +kernel
theorem dX3_talkOn_51 : decode cX3_talkOn 51 = .ok (.dup, 1) := by decide +kernel
theorem dX3_talkOn_52 : decode cX3_talkOn 52 = .ok (.getfield 25, 3) := by decide +kernel
theorem dX3_talkOn_55 : decode cX3_talkOn 55 = .ok (.iload_n 2, 1) := by decide +kernel
theorem dX3_talkOn_56 : decode cX3_talkOn 56 = .ok (.iconst 1, 1) := by decide +kernel
theorem dX3_talkOn_57 : decode cX3_talkOn 57 = .ok (.isub, 1) := by decide +kernel
theorem dX3_talkOn_58 : decode cX3_talkOn 58 = .ok (.iload 4, 2) := by decide +kernel
theorem dX3_talkOn_60 : decode cX3_talkOn 60 = .ok (.isub, 1) := by decide +kernel
theorem dX3_talkOn_61 : decode cX3_talkOn 61 = .ok (.iadd, 1) := by decide +kernel
theorem dX3_talkOn_62 : decode cX3_talkOn 62 = .ok (.putfield 25, 3) := by decide +kernel
theorem dX3_talkOn_65 : decode cX3_talkOn 65 = .ok (.return_, 1) := by decide +kernel
theorem dX3_talkOn_66 : decode cX3_talkOn 66 = .ok (.iinc 4 1, 3) := by decide +kernel
theorem dX3_talkOn_69 : decode cX3_talkOn 69 = .ok (.goto (-53), 3) := by decide +kernel
theorem dX3_talkOn_72 : decode cX3_talkOn 72 = .ok (.return_, 1) := by decide +kernel
theorem dX3_talkRound_0 : decode cX3_talkRound 0 = .ok (.iconst 0, 1) := by decide +kernel
theorem dX3_talkRound_1 : decode cX3_talkRound 1 = .ok (.istore_n 3, 1) := by decide +kernel
theorem dX3_talkRound_2 : decode cX3_talkRound 2 = .ok (.iconst 0, 1) := by decide +kernel
theorem dX3_talkRound_3 : decode cX3_talkRound 3 = .ok (.istore 4, 2) := by decide +kernel
theorem dX3_talkRound_5 : decode cX3_talkRound 5 = .ok (.iload 4, 2) := by decide +kernel
theorem dX3_talkRound_7 : decode cX3_talkRound 7 = .ok (.aload_n 1, 1) := by decide +kernel
theorem dX3_talkRound_8 : decode cX3_talkRound 8 = .ok (.getfield 47, 3) := by decide +kernel
theorem dX3_talkRound_11 : decode cX3_talkRound 11 = .ok (.iconst 0, 1) := by decide +kernel
theorem dX3_talkRound_12 : decode cX3_talkRound 12 = .ok (.iaload, 1) := by decide +kernel
theorem dX3_talkRound_13 : decode cX3_talkRound 13 = .ok (.if_icmp .ge 34, 3) := by decide +kernel
theorem dX3_talkRound_16 : decode cX3_talkRound 16 = .ok (.aload_n 0, 1) := by decide +kernel
theorem dX3_talkRound_17 : decode cX3_talkRound 17 = .ok (.iload 4, 2) := by decide +kernel
theorem dX3_talkRound_19 : decode cX3_talkRound 19 = .ok (.invokevirtual 91, 3) := by decide +kernel
theorem dX3_talkRound_22 : decode cX3_talkRound 22 = .ok (.ifCond .eq 19, 3) := by decide +kernel
theorem dX3_talkRound_25 : decode cX3_talkRound 25 = .ok (.iload_n 3, 1) := by decide +kernel
theorem dX3_talkRound_26 : decode cX3_talkRound 26 = .ok (.aload_n 0, 1) := by decide +kernel
theorem dX3_talkRound_27 : decode cX3_talkRound 27 = .ok (.iload 4, 2) := by decide +kernel
theorem dX3_talkRound_29 : decode cX3_talkRound 29 = .ok (.aload_n 0, 1) := by decide +kernel
theorem dX3_talkRound_30 : decode cX3_talkRound 30 = .ok (.aload_n 1, 1) := by decide +kernel
theorem dX3_talkRound_31 : decode cX3_talkRound 31 = .ok (.iload 4, 2) := by decide +kernel
theorem dX3_talkRound_33 : decode cX3_talkRound 33 = .ok (.invokevirtual 122, 3) := by decide +kernel
theorem dX3_talkRound_36 : decode cX3_talkRound 36 = .ok (.invokevirtual 106, 3) := by decide +kernel
theorem dX3_talkRound_39 : decode cX3_talkRound 39 = .ok (.iadd, 1) := by decide +kernel
theorem dX3_talkRound_40 : decode cX3_talkRound 40 = .ok (.istore_n 3, 1) := by decide +kernel
theorem dX3_talkRound_41 : decode cX3_talkRound 41 = .ok (.iinc 4 1, 3) := by decide +kernel
theorem dX3_talkRound_44 : decode cX3_talkRound 44 = .ok (.goto (-39), 3) := by decide +kernel
theorem dX3_talkRound_47 : decode cX3_talkRound 47 = .ok (.aload_n 0, 1) := by decide +kernel
theorem dX3_talkRound_48 : decode cX3_talkRound 48 = .ok (.dup, 1) := by decide +kernel
theorem dX3_talkRound_49 : decode cX3_talkRound 49 = .ok (.getfield 25, 3) := by decide +kernel
theorem dX3_talkRound_52 : decode cX3_talkRound 52 = .ok (.iconst 1, 1) := by decide +kernel
theorem dX3_talkRound_53 : decode cX3_talkRound 53 = .ok (.iadd, 1) := by decide +kernel
theorem dX3_talkRound_54 : decode cX3_talkRound 54 = .ok (.putfield 25, 3) := by decide +kernel
theorem dX3_talkRound_57 : decode cX3_talkRound 57 = .ok (.iload_n 2, 1) := by decide +kernel
theorem dX3_talkRound_58 : decode cX3_talkRound 58 = .ok (.ifCond .eq 22, 3) := by decide +kernel
theorem dX3_talkRound_61 : decode cX3_talkRound 61 = .ok (.aload_n 0, 1) := by decide +kernel
theorem dX3_talkRound_62 : decode cX3_talkRound 62 = .ok (.getfield 25, 3) := by decide +kernel
theorem dX3_talkRound_65 : decode cX3_talkRound 65 = .ok (.aload_n 1, 1) := by decide +kernel
theorem dX3_talkRound_66 : decode cX3_talkRound 66 = .ok (.getfield 115, 3) := by decide +kernel
theorem dX3_talkRound_69 : decode cX3_talkRound 69 = .ok (.if_icmp .lt 11, 3) := by decide +kernel
theorem dX3_talkRound_72 : decode cX3_talkRound 72 = .ok (.iload_n 3, 1) := by decide +kernel
theorem dX3_talkRound_73 : decode cX3_talkRound 73 = .ok (.aload_n 0, 1) := by decide +kernel
theorem dX3_talkRound_74 : decode cX3_talkRound 74 = .ok (.aload_n 1, 1) := by decide +kernel
theorem dX3_talkRound_75 : decode cX3_talkRound 75 = .ok (.invokevirtual 126, 3) := by decide +kernel
theorem dX3_talkRound_78 : decode cX3_talkRound 78 = .ok (.iadd, 1) := by decide +kernel
theorem dX3_talkRound_79 : decode cX3_talkRound 79 = .ok (.istore_n 3, 1) := by decide +kernel
theorem dX3_talkRound_80 : decode cX3_talkRound 80 = .ok (.iload_n 3, 1) := by decide +kernel
theorem dX3_talkRound_81 : decode cX3_talkRound 81 = .ok (.ireturn, 1) := by decide +kernel
theorem dX3_goHungry_0 : decode cX3_goHungry 0 = .ok (.aload_n 0, 1) := by decide +kernel
theorem dX3_goHungry_1 : decode cX3_goHungry 1 = .ok (.invokevirtual 74, 3) := by decide +kernel
theorem dX3_goHungry_4 : decode cX3_goHungry 4 = .ok (.istore_n 2, 1) := by decide +kernel
theorem dX3_goHungry_5 : decode cX3_goHungry 5 = .ok (.iconst 2, 1) := by decide +kernel
theorem dX3_goHungry_6 : decode cX3_goHungry 6 = .ok (.iload_n 2, 1) := by decide +kernel
theorem dX3_goHungry_7 : decode cX3_goHungry 7 = .ok (.imul, 1) := by decide +kernel
theorem dX3_goHungry_8 : decode cX3_goHungry 8 = .ok (.aload_n 0, 1) := by decide +kernel
theorem dX3_goHungry_9 : decode cX3_goHungry 9 = .ok (.invokevirtual 78, 3) := by decide +kernel
theorem dX3_goHungry_12 : decode cX3_goHungry 12 = .ok (.invokestatic 130, 3) := by decide +kernel
theorem dX3_goHungry_15 : decode cX3_goHungry 15 = .ok (.istore_n 3, 1) := by decide +kernel
theorem dX3_goHungry_16 : decode cX3_goHungry 16 = .ok (.iconst 0, 1) := by decide +kernel
theorem dX3_goHungry_17 : decode cX3_goHungry 17 = .ok (.istore 4, 2) := by decide +kernel
theorem dX3_goHungry_19 : decode cX3_goHungry 19 = .ok (.iconst 0, 1) := by decide +kernel
theorem dX3_goHungry_20 : decode cX3_goHungry 20 = .ok (.istore 5, 2) := by decide +kernel
theorem dX3_goHungry_22 : decode cX3_goHungry 22 = .ok (.iload 5, 2) := by decide +kernel
theorem dX3_goHungry_24 : decode cX3_goHungry 24 = .ok (.aload_n 1, 1) := by decide +kernel
theorem dX3_goHungry_25 : decode cX3_goHungry 25 = .ok (.getfield 47, 3) := by decide +kernel
theorem dX3_goHungry_28 : decode cX3_goHungry 28 = .ok (.iconst 0, 1) := by decide +kernel
theorem dX3_goHungry_29 : decode cX3_goHungry 29 = .ok (.iaload, 1) := by decide +kernel
theorem dX3_goHungry_30 : decode cX3_goHungry 30 = .ok (.if_icmp .ge 30, 3) := by decide +kernel
theorem dX3_goHungry_33 : decode cX3_goHungry 33 = .ok (.aload_n 0, 1) := by decide +kernel
theorem dX3_goHungry_34 : decode cX3_goHungry 34 = .ok (.iload 5, 2) := by decide +kernel
theorem dX3_goHungry_36 : decode cX3_goHungry 36 = .ok (.invokevirtual 91, 3) := by decide +kernel
theorem dX3_goHungry_39 : decode cX3_goHungry 39 = .ok (.ifCond .eq 15, 3) := by decide +kernel
theorem dX3_goHungry_42 : decode cX3_goHungry 42 = .ok (.iload 4, 2) := by decide +kernel
theorem dX3_goHungry_44 : decode cX3_goHungry 44 = .ok (.aload_n 0, 1) := by decide +kernel
theorem dX3_goHungry_45 : decode cX3_goHungry 45 = .ok (.iload 5, 2) := by decide +kernel
theorem dX3_goHungry_47 : decode cX3_goHungry 47 = .ok (.iload_n 3, 1) := by decide +kernel
theorem dX3_goHungry_48 : decode cX3_goHungry 48 = .ok (.invokevirtual 106, 3) := by decide +kernel
theorem dX3_goHungry_51 : decode cX3_goHungry 51 = .ok (.iadd, 1) := by decide +kernel
theorem dX3_goHungry_52 : decode cX3_goHungry 52 = .ok (.istore 4, 2) := by decide +kernel
theorem dX3_goHungry_54 : decode cX3_goHungry 54 = .ok (.iinc 5 1, 3) := by decide +kernel
theorem dX3_goHungry_57 : decode cX3_goHungry 57 = .ok (.goto (-35), 3) := by decide +kernel
theorem dX3_goHungry_60 : decode cX3_goHungry 60 = .ok (.iload 4, 2) := by decide +kernel
theorem dX3_goHungry_62 : decode cX3_goHungry 62 = .ok (.ireturn, 1) := by decide +kernel
theorem dX4_init_0 : decode cX4_init 0 = .ok (.aload_n 0, 1) := by decide +kernel
theorem dX4_init_1 : decode cX4_init 1 = .ok (.invokespecial 3, 3) := by decide +kernel
theorem dX4_init_4 : decode cX4_init 4 = .ok (.aload_n 0, 1) := by decide +kernel
theorem dX4_init_5 : decode cX4_init 5 = .ok (.bipush 60, 2) := by decide +kernel
theorem dX4_init_7 : decode cX4_init 7 = .ok (.newarray .int, 2) := by decide +kernel
theorem dX4_init_9 : decode cX4_init 9 = .ok (.putfield 9, 3) := by decide +kernel
theorem dX4_init_12 : decode cX4_init 12 = .ok (.aload_n 0, 1) := by decide +kernel
theorem dX4_init_13 : decode cX4_init 13 = .ok (.iconst 0, 1) := by decide +kernel
theorem dX4_init_14 : decode cX4_init 14 = .ok (.putfield 15, 3) := by decide +kernel
theorem dX4_init_17 : decode cX4_init 17 = .ok (.aload_n 0, 1) := by decide +kernel
theorem dX4_init_18 : decode cX4_init 18 = .ok (.iconst 0, 1) := by decide +kernel
theorem dX4_init_19 : decode cX4_init 19 = .ok (.putfield 19, 3) := by decide +kernel
theorem dX4_init_22 : decode cX4_init 22 = .ok (.aload_n 0, 1) := by decide +kernel
theorem dX4_init_23 : decode cX4_init 23 = .ok (.iconst 0, 1) := by decide +kernel
theorem dX4_init_24 : decode cX4_init 24 = .ok (.putfield 22, 3) := by decide +kernel
theorem dX4_init_27 : decode cX4_init 27 = .ok (.aload_n 0, 1) := by decide +kernel
theorem dX4_init_28 : decode cX4_init 28 = .ok (.iconst 0, 1) := by decide +kernel
theorem dX4_init_29 : decode cX4_init 29 = .ok (.putfield 25, 3) := by decide +kernel
theorem dX4_init_32 : decode cX4_init 32 = .ok (.aload_n 0, 1) := by decide +kernel
theorem dX4_init_33 : decode cX4_init 33 = .ok (.iconst 0, 1) := by decide +kernel
theorem dX4_init_34 : decode cX4_init 34 = .ok (.putfield 28, 3) := by decide +kernel
theorem dX4_init_37 : decode cX4_init 37 = .ok (.aload_n 0, 1) := by decide +kernel
theorem dX4_init_38 : decode cX4_init 38 = .ok (.iconst 0, 1) := by decide +kernel
theorem dX4_init_39 : decode cX4_init 39 = .ok (.putfield 31, 3) := by decide +kernel
theorem dX4_init_42 : decode cX4_init 42 = .ok (.aload_n 0, 1) := by decide +kernel
theorem dX4_init_43 : decode cX4_init 43 = .ok (.iconst 0, 1) := by decide +kernel
theorem dX4_init_44 : decode cX4_init 44 = .ok (.putfield 34, 3) := by decide +kernel
theorem dX4_init_47 : decode cX4_init 47 = .ok (.return_, 1) := by decide +kernel
theorem dX4_run_0 : decode cX4_run 0 = .ok (.aload_n 0, 1) := by decide +kernel
theorem dX4_run_1 : decode cX4_run 1 = .ok (.iload_n 3, 1) := by decide +kernel
theorem dX4_run_2 : decode cX4_run 2 = .ok (.putfield 15, 3) := by decide +kernel
theorem dX4_run_5 : decode cX4_run 5 = .ok (.aload_n 0, 1) := by decide +kernel
theorem dX4_run_6 : decode cX4_run 6 = .ok (.iconst 0, 1) := by decide +kernel
theorem dX4_run_7 : decode cX4_run 7 = .ok (.putfield 19, 3) := by decide +kernel
theorem dX4_run_10 : decode cX4_run 10 = .ok (.aload_n 0, 1) := by decide +kernel
theorem dX4_run_11 : decode cX4_run 11 = .ok (.iconst 0, 1) := by decide +kernel
theorem dX4_run_12 : decode cX4_run 12 = .ok (.putfield 22, 3) := by decide +kernel
theorem dX4_run_15 : decode cX4_run 15 = .ok (.aload_n 0, 1) := by decide +kernel
theorem dX4_run_16 : decode cX4_run 16 = .ok (.iconst 0, 1) := by decide +kernel
theorem dX4_run_17 : decode cX4_run 17 = .ok (.putfield 25, 3) := by decide +kernel
theorem dX4_run_20 : decode cX4_run 20 = .ok (.aload_n 0, 1) := by decide +kernel
theorem dX4_run_21 : decode cX4_run 21 = .ok (.iconst 0, 1) := by decide +kernel
theorem dX4_run_22 : decode cX4_run 22 = .ok (.putfield 28, 3) := by decide +kernel
theorem dX4_run_25 : decode cX4_run 25 = .ok (.aload_n 0, 1) := by decide +kernel
theorem dX4_run_26 : decode cX4_run 26 = .ok (.iconst 0, 1) := by decide +kernel
theorem dX4_run_27 : decode cX4_run 27 = .ok (.putfield 31, 3) := by decide +kernel
theorem dX4_run_30 : decode cX4_run 30 = .ok (.aload_n 0, 1) := by decide +kernel
theorem dX4_run_31 : decode cX4_run 31 = .ok (.iconst 0, 1) := by decide +kernel
theorem dX4_run_32 : decode cX4_run 32 = .ok (.putfield 34, 3) := by decide +kernel
theorem dX4_run_35 : decode cX4_run 35 = .ok (.aload_n 1, 1) := by decide +kernel
theorem dX4_run_36 : decode cX4_run 36 = .ok (.getfield 38, 3) := by decide +kernel
theorem dX4_run_39 : decode cX4_run 39 = .ok (.astore 4, 2) := by decide +kernel
theorem dX4_run_41 : decode cX4_run 41 = .ok (.iconst 0, 1) := by decide +kernel
theorem dX4_run_42 : decode cX4_run 42 = .ok (.istore 5, 2) := by decide +kernel
theorem dX4_run_44 : decode cX4_run 44 = .ok (.iconst 0, 1) := by decide +kernel
theorem dX4_run_45 : decode cX4_run 45 = .ok (.istore 6, 2) := by decide +kernel
theorem dX4_run_47 : decode cX4_run 47 = .ok (.iload 6, 2) := by decide +kernel
theorem dX4_run_49 : decode cX4_run 49 = .ok (.ldc 44, 2) := by decide +kernel
theorem dX4_run_51 : decode cX4_run 51 = .ok (.if_icmp .ge 152, 3) := by decide +kernel
theorem dX4_run_54 : decode cX4_run 54 = .ok (.iload 5, 2) := by decide +kernel
theorem dX4_run_56 : decode cX4_run 56 = .ok (.aload 4, 2) := by decide +kernel
theorem dX4_run_58 : decode cX4_run 58 = .ok (.getfield 45, 3) := by decide +kernel
theorem dX4_run_61 : decode cX4_run 61 = .ok (.if_icmp .ge 142, 3) := by decide +kernel
theorem dX4_run_64 : decode cX4_run 64 = .ok (.aload_n 0, 1) := by decide +kernel
theorem dX4_run_65 : decode cX4_run 65 = .ok (.getfield 34, 3) := by decide +kernel
theorem dX4_run_68 : decode cX4_run 68 = .ok (.ifCond .ne 135, 3) := by decide +kernel
theorem dX4_run_71 : decode cX4_run 71 = .ok (.aload 4, 2) := by decide +kernel
theorem dX4_run_73 : decode cX4_run 73 = .ok (.getfield 50, 3) := by decide +kernel
theorem dX4_run_76 : decode cX4_run 76 = .ok (.iload 5, 2) := by decide +kernel
theorem dX4_run_78 : decode cX4_run 78 = .ok (.iaload, 1) := by decide +kernel
theorem dX4_run_79 : decode cX4_run 79 = .ok (.istore 7, 2) := by decide +kernel
theorem dX4_run_81 : decode cX4_run 81 = .ok (.iload 7, 2) := by decide +kernel
theorem dX4_run_83 : decode cX4_run 83 = .ok (.bipush 28, 2) := by decide +kernel
theorem dX4_run_85 : decode cX4_run 85 = .ok (.if_icmp .ne 16, 3) := by decide +kernel
theorem dX4_run_88 : decode cX4_run 88 = .ok (.aload_n 0, 1) := by decide +kernel
theorem dX4_run_89 : decode cX4_run 89 = .ok (.aload 4, 2) := by decide +kernel
theorem dX4_run_91 : decode cX4_run 91 = .ok (.iload 5, 2) := by decide +kernel
theorem dX4_run_93 : decode cX4_run 93 = .ok (.invokevirtual 53, 3) := by decide +kernel
theorem dX4_run_96 : decode cX4_run 96 = .ok (.istore 5, 2) := by decide +kernel
theorem dX4_run_98 : decode cX4_run 98 = .ok (.goto 99, 3) := by decide +kernel
theorem dX4_run_101 : decode cX4_run 101 = .ok (.aload_n 0, 1) := by decide +kernel
theorem dX4_run_102 : decode cX4_run 102 = .ok (.getfield 19, 3) := by decide +kernel
theorem dX4_run_105 : decode cX4_run 105 = .ok (.sipush 300, 3) := by decide +kernel
theorem dX4_run_108 : decode cX4_run 108 = .ok (.if_icmp .lt 11, 3) := by decide +kernel
theorem dX4_run_111 : decode cX4_run 111 = .ok (.aload_n 0, 1) := by decide +kernel
theorem dX4_run_112 : decode cX4_run 112 = .ok (.iconst 1, 1) := by decide +kernel
theorem dX4_run_113 : decode cX4_run 113 = .ok (.putfield 34, 3) := by decide +kernel
theorem dX4_run_116 : decode cX4_run 116 = .ok (.goto 81, 3) := by decide +kernel
theorem dX4_run_119 : decode cX4_run 119 = .ok (.aload_n 0, 1) := by decide +kernel
theorem dX4_run_120 : decode cX4_run 120 = .ok (.dup, 1) := by decide +kernel
theorem dX4_run_121 : decode cX4_run 121 = .ok (.getfield 19, 3) := by decide +kernel
theorem dX4_run_124 : decode cX4_run 124 = .ok (.iconst 1, 1) := by decide +kernel
theorem dX4_run_125 : decode cX4_run 125 = .ok (.iadd, 1) := by decide +kernel
theorem dX4_run_126 : decode cX4_run 126 = .ok (.putfield 19, 3) := by decide +kernel
theorem dX4_run_129 : decode cX4_run 129 = .ok (.iload 7, 2) := by decide +kernel
theorem dX4_run_131 : decode cX4_run 131 = .ok (.bipush 25, 2) := by decide +kernel
theorem dX4_run_133 : decode cX4_run 133 = .ok (.if_icmp .eq 17, 3) := by decide +kernel
theorem dX4_run_136 : decode cX4_run 136 = .ok (.iload 7, 2) := by decide +kernel
theorem dX4_run_138 : decode cX4_run 138 = .ok (.bipush 27, 2) := by decide +kernel
theorem dX4_run_140 : decode cX4_run 140 = .ok (.if_icmp .eq 10, 3) := by decide +kernel
theorem dX4_run_143 : decode cX4_run 143 = .ok (.iload 7, 2) := by decide +kernel
theorem dX4_run_145 : decode cX4_run 145 = .ok (.bipush 29, 2) := by decide +kernel
theorem dX4_run_147 : decode cX4_run 147 = .ok (.if_icmp .ne 17, 3) := by decide +kernel
theorem dX4_run_150 : decode cX4_run 150 = .ok (.aload_n 0, 1) := by decide +kernel
theorem dX4_run_151 : decode cX4_run 151 = .ok (.aload 4, 2) := by decide +kernel
theorem dX4_run_153 : decode cX4_run 153 = .ok (.aload_n 2, 1) := by decide +kernel
theorem dX4_run_154 : decode cX4_run 154 = .ok (.iload 5, 2) := by decide +kernel
theorem dX4_run_156 : decode cX4_run 156 = .ok (.invokevirtual 57, 3) := by decide +kernel
theorem dX4_run_159 : decode cX4_run 159 = .ok (.istore 5, 2) := by decide +kernel
theorem dX4_run_161 : decode cX4_run 161 = .ok (.goto 36, 3) := by decide +kernel
theorem dX4_run_164 : decode cX4_run 164 = .ok (.aload_n 0, 1) := by decide +kernel
theorem dX4_run_165 : decode cX4_run 165 = .ok (.dup, 1) := by decide +kernel
theorem dX4_run_166 : decode cX4_run 166 = .ok (.getfield 22, 3) := by decide +kernel
theorem dX4_run_169 : decode cX4_run 169 = .ok (.aload_n 0, 1) := by decide +kernel
theorem dX4_run_170 : decode cX4_run 170 = .ok (.aload_n 1, 1) := by decide +kernel
theorem dX4_run_171 : decode cX4_run 171 = .ok (.getfield 61, 3) := by decide +kernel
theorem dX4_run_174 : decode cX4_run 174 = .ok (.aload 4, 2) := by decide +kernel
theorem dX4_run_176 : decode cX4_run 176 = .ok (.aload_n 2, 1) := by decide +kernel
theorem dX4_run_177 : decode cX4_run 177 = .ok (.iload 5, 2) := by decide +kernel
theorem dX4_run_179 : decode cX4_run 179 = .ok (.invokevirtual 65, 3) := by decide +kernel
theorem dX4_run_182 : decode cX4_run 182 = .ok (.ifCond .eq 7, 3) := by decide +kernel
theorem dX4_run_185 : decode cX4_run 185 = .ok (.iconst 0, 1) := by decide +kernel
theorem dX4_run_186 : decode cX4_run 186 = .ok (.goto 4, 3) := by decide +kernel
theorem dX4_run_189 : decode cX4_run 189 = .ok (.iconst 1, 1) := by decide +kernel
theorem dX4_run_190 : decode cX4_run 190 = .ok (.iadd, 1) := by decide +kernel
theorem dX4_run_191 : decode cX4_run 191 = .ok (.putfield 22, 3) := by decide +kernel
theorem dX4_run_194 : decode cX4_run 194 = .ok (.iinc 5 1, 3) := by decide +kernel
theorem dX4_run_197 : decode cX4_run 197 = .ok (.iinc 6 1, 3) := by decide +kernel
theorem dX4_run_200 : decode cX4_run 200 = .ok (.goto (-153), 3) := by decide +kernel
theorem dX4_run_203 : decode cX4_run 203 = .ok (.return_, 1) := by decide +kernel
theorem dX4_passEnd_0 : decode cX4_passEnd 0 = .ok (.aload_n 1, 1) := by decide +kernel
theorem dX4_passEnd_1 : decode cX4_passEnd 1 = .ok (.getfield 69, 3) := by decide +kernel
theorem dX4_passEnd_4 : decode cX4_passEnd 4 = .ok (.iload_n 2, 1) := by decide +kernel
theorem dX4_passEnd_5 : decode cX4_passEnd 5 = .ok (.iaload, 1) := by decide +kernel
theorem dX4_passEnd_6 : decode cX4_passEnd 6 = .ok (.istore_n 3, 1) := by decide +kernel
theorem dX4_passEnd_7 : decode cX4_passEnd 7 = .ok (.aload_n 1, 1) := by decide +kernel
theorem dX4_passEnd_8 : decode cX4_passEnd 8 = .ok (.getfield 50, 3) := by decide +kernel
theorem dX4_passEnd_11 : decode cX4_passEnd 11 = .ok (.iload_n 3, 1) := by decide +kernel
theorem dX4_passEnd_12 : decode cX4_passEnd 12 = .ok (.iaload, 1) := by decide +kernel
theorem dX4_passEnd_13 : decode cX4_passEnd 13 = .ok (.bipush 27, 2) := by decide +kernel
theorem dX4_passEnd_15 : decode cX4_passEnd 15 = .ok (.if_icmp .ne 27, 3) := by decide +kernel
theorem dX4_passEnd_18 : decode cX4_passEnd 18 = .ok (.aload_n 0, 1) := by decide +kernel
theorem dX4_passEnd_19 : decode cX4_passEnd 19 = .ok (.getfield 9, 3) := by decide +kernel
theorem dX4_passEnd_22 : decode cX4_passEnd 22 = .ok (.iload_n 3, 1) := by decide +kernel
theorem dX4_passEnd_23 : decode cX4_passEnd 23 = .ok (.iaload, 1) := by decide +kernel
theorem dX4_passEnd_24 : decode cX4_passEnd 24 = .ok (.iconst 1, 1) := by decide +kernel
theorem dX4_passEnd_25 : decode cX4_passEnd 25 = .ok (.if_icmp .le 17, 3) := by decide +kernel
theorem dX4_passEnd_28 : decode cX4_passEnd 28 = .ok (.aload_n 0, 1) := by decide +kernel
theorem dX4_passEnd_29 : decode cX4_passEnd 29 = .ok (.getfield 9, 3) := by decide +kernel
theorem dX4_passEnd_32 : decode cX4_passEnd 32 = .ok (.iload_n 3, 1) := by decide +kernel
theorem dX4_passEnd_33 : decode cX4_passEnd 33 = .ok (.dup2, 1) := by decide +kernel
theorem dX4_passEnd_34 : decode cX4_passEnd 34 = .ok (.iaload, 1) := by decide +kernel
theorem dX4_passEnd_35 : decode cX4_passEnd 35 = .ok (.iconst 1, 1) := by decide +kernel
theorem dX4_passEnd_36 : decode cX4_passEnd 36 = .ok (.isub, 1) := by decide +kernel
theorem dX4_passEnd_37 : decode cX4_passEnd 37 = .ok (.iastore, 1) := by decide +kernel
theorem dX4_passEnd_38 : decode cX4_passEnd 38 = .ok (.iload_n 3, 1) := by decide +kernel
theorem dX4_passEnd_39 : decode cX4_passEnd 39 = .ok (.iconst 1, 1) := by decide +kernel
theorem dX4_passEnd_40 : decode cX4_passEnd 40 = .ok (.iadd, 1) := by decide +kernel
theorem dX4_passEnd_41 : decode cX4_passEnd 41 = .ok (.ireturn, 1) := by decide +kernel
theorem dX4_passEnd_42 : decode cX4_passEnd 42 = .ok (.iload_n 2, 1) := by decide +kernel
theorem dX4_passEnd_43 : decode cX4_passEnd 43 = .ok (.iconst 1, 1) := by decide +kernel
theorem dX4_passEnd_44 : decode cX4_passEnd 44 = .ok (.iadd, 1) := by decide +kernel
theorem dX4_passEnd_45 : decode cX4_passEnd 45 = .ok (.ireturn, 1) := by decide +kernel
theorem dX4_turns_0 : decode cX4_turns 0 = .ok (.aload_n 1, 1) := by decide +kernel
theorem dX4_turns_1 : decode cX4_turns 1 = .ok (.getfield 50, 3) := by decide +kernel
theorem dX4_turns_4 : decode cX4_turns 4 = .ok (.iload_n 3, 1) := by decide +kernel
theorem dX4_turns_5 : decode cX4_turns 5 = .ok (.iaload, 1) := by decide +kernel
theorem dX4_turns_6 : decode cX4_turns 6 = .ok (.bipush 29, 2) := by decide +kernel
theorem dX4_turns_8 : decode cX4_turns 8 = .ok (.if_icmp .ne 8, 3) := by decide +kernel
theorem dX4_turns_11 : decode cX4_turns 11 = .ok (.aload_n 1, 1) := by decide +kernel
theorem dX4_turns_12 : decode cX4_turns 12 = .ok (.getfield 45, 3) := by decide +kernel
theorem dX4_turns_15 : decode cX4_turns 15 = .ok (.ireturn, 1) := by decide +kernel
theorem dX4_turns_16 : decode cX4_turns 16 = .ok (.aload_n 1, 1) := by decide +kernel
theorem dX4_turns_17 : decode cX4_turns 17 = .ok (.getfield 50, 3) := by decide +kernel
theorem dX4_turns_20 : decode cX4_turns 20 = .ok (.iload_n 3, 1) := by decide +kernel
theorem dX4_turns_21 : decode cX4_turns 21 = .ok (.iaload, 1) := by decide +kernel
theorem dX4_turns_22 : decode cX4_turns 22 = .ok (.bipush 27, 2) := by decide +kernel
theorem dX4_turns_24 : decode cX4_turns 24 = .ok (.if_icmp .ne 19, 3) := by decide +kernel
theorem dX4_turns_27 : decode cX4_turns 27 = .ok (.aload_n 0, 1) := by decide +kernel
theorem dX4_turns_28 : decode cX4_turns 28 = .ok (.getfield 9, 3) := by decide +kernel
theorem dX4_turns_31 : decode cX4_turns 31 = .ok (.iload_n 3, 1) := by decide +kernel
theorem dX4_turns_32 : decode cX4_turns 32 = .ok (.aload_n 1, 1) := by decide +kernel
theorem dX4_turns_33 : decode cX4_turns 33 = .ok (.getfield 72, 3) := by decide +kernel
theorem dX4_turns_36 : decode cX4_turns 36 = .ok (.iload_n 3, 1) := by decide +kernel
theorem dX4_turns_37 : decode cX4_turns 37 = .ok (.iaload, 1) := by decide +kernel
theorem dX4_turns_38 : decode cX4_turns 38 = .ok (.iastore, 1) := by decide +kernel
theorem dX4_turns_39 : decode cX4_turns 39 = .ok (.iload_n 3, 1) := by decide +kernel
theorem dX4_turns_40 : decode cX4_turns 40 = .ok (.iconst 1, 1) := by decide +kernel
theorem dX4_turns_41 : decode cX4_turns 41 = .ok (.iadd, 1) := by decide +kernel
theorem dX4_turns_42 : decode cX4_turns 42 = .ok (.ireturn, 1) := by decide +kernel
theorem dX4_turns_43 : decode cX4_turns 43 = .ok (.aload_n 1, 1) := by decide +kernel
theorem dX4_turns_44 : decode cX4_turns 44 = .ok (.aload_n 2, 1) := by decide +kernel
theorem dX4_turns_45 : decode cX4_turns 45 = .ok (.iload_n 3, 1) := by decide +kernel
theorem dX4_turns_46 : decode cX4_turns 46 = .ok (.invokestatic 75, 3) := by decide +kernel
theorem dX4_turns_49 : decode cX4_turns 49 = .ok (.ifCond .eq 9, 3) := by decide +kernel
theorem dX4_turns_52 : decode cX4_turns 52 = .ok (.iload_n 3, 1) := by decide +kernel
theorem dX4_turns_53 : decode cX4_turns 53 = .ok (.iconst 1, 1) := by decide +kernel
theorem dX4_turns_54 : decode cX4_turns 54 = .ok (.iadd, 1) := by decide +kernel
theorem dX4_turns_55 : decode cX4_turns 55 = .ok (.goto 11, 3) := by decide +kernel
theorem dX4_turns_58 : decode cX4_turns 58 = .ok (.aload_n 1, 1) := by decide +kernel
theorem dX4_turns_59 : decode cX4_turns 59 = .ok (.getfield 69, 3) := by decide +kernel
theorem dX4_turns_62 : decode cX4_turns 62 = .ok (.iload_n 3, 1) := by decide +kernel
theorem dX4_turns_63 : decode cX4_turns 63 = .ok (.iaload, 1) := by decide +kernel
theorem dX4_turns_64 : decode cX4_turns 64 = .ok (.iconst 1, 1) := by decide +kernel
theorem dX4_turns_65 : decode cX4_turns 65 = .ok (.iadd, 1) := by decide +kernel
theorem dX4_turns_66 : decode cX4_turns 66 = .ok (.ireturn, 1) := by decide +kernel
theorem dX4_holds_0 : decode cX4_holds 0 = .ok (.aload_n 0, 1) := by decide +kernel
theorem dX4_holds_1 : decode cX4_holds 1 = .ok (.getfield 79, 3) := by decide +kernel
theorem dX4_holds_4 : decode cX4_holds 4 = .ok (.iload_n 2, 1) := by decide +kernel
theorem dX4_holds_5 : decode cX4_holds 5 = .ok (.iaload, 1) := by decide +kernel
theorem dX4_holds_6 : decode cX4_holds 6 = .ok (.istore_n 3, 1) := by decide +kernel
theorem dX4_holds_7 : decode cX4_holds 7 = .ok (.aload_n 0, 1) := by decide +kernel
theorem dX4_holds_8 : decode cX4_holds 8 = .ok (.getfield 72, 3) := by decide +kernel
theorem dX4_holds_11 : decode cX4_holds 11 = .ok (.iload_n 2, 1) := by decide +kernel
theorem dX4_holds_12 : decode cX4_holds 12 = .ok (.iaload, 1) := by decide +kernel
theorem dX4_holds_13 : decode cX4_holds 13 = .ok (.bipush 7, 2) := by decide +kernel
theorem dX4_holds_15 : decode cX4_holds 15 = .ok (.if_icmp .ne 17, 3) := by decide +kernel
theorem dX4_holds_18 : decode cX4_holds 18 = .ok (.aload_n 1, 1) := by decide +kernel
theorem dX4_holds_19 : decode cX4_holds 19 = .ok (.getfield 82, 3) := by decide +kernel
theorem dX4_holds_22 : decode cX4_holds 22 = .ok (.iload_n 3, 1) := by decide +kernel
theorem dX4_holds_23 : decode cX4_holds 23 = .ok (.if_icmp .ne 7, 3) := by decide +kernel
theorem dX4_holds_26 : decode cX4_holds 26 = .ok (.iconst 1, 1) := by decide +kernel
theorem dX4_holds_27 : decode cX4_holds 27 = .ok (.goto 4, 3) := by decide +kernel
theorem dX4_holds_30 : decode cX4_holds 30 = .ok (.iconst 0, 1) := by decide +kernel
theorem dX4_holds_31 : decode cX4_holds 31 = .ok (.ireturn, 1) := by decide +kernel
theorem dX4_holds_32 : decode cX4_holds 32 = .ok (.aload_n 0, 1) := by decide +kernel
theorem dX4_holds_33 : decode cX4_holds 33 = .ok (.getfield 72, 3) := by decide +kernel
theorem dX4_holds_36 : decode cX4_holds 36 = .ok (.iload_n 2, 1) := by decide +kernel
theorem dX4_holds_37 : decode cX4_holds 37 = .ok (.iaload, 1) := by decide +kernel
theorem dX4_holds_38 : decode cX4_holds 38 = .ok (.bipush 26, 2) := by decide +kernel
theorem dX4_holds_40 : decode cX4_holds 40 = .ok (.if_icmp .ne 10, 3) := by decide +kernel
theorem dX4_holds_43 : decode cX4_holds 43 = .ok (.aload_n 1, 1) := by decide +kernel
theorem dX4_holds_44 : decode cX4_holds 44 = .ok (.invokevirtual 87, 3) := by decide +kernel
theorem dX4_holds_47 : decode cX4_holds 47 = .ok (.goto 9, 3) := by decide +kernel
theorem dX4_holds_50 : decode cX4_holds 50 = .ok (.aload_n 1, 1) := by decide +kernel
theorem dX4_holds_51 : decode cX4_holds 51 = .ok (.getfield 91, 3) := by decide +kernel
theorem dX4_holds_54 : decode cX4_holds 54 = .ok (.iload_n 3, 1) := by decide +kernel
theorem dX4_holds_55 : decode cX4_holds 55 = .ok (.iaload, 1) := by decide +kernel
theorem dX4_holds_56 : decode cX4_holds 56 = .ok (.istore 4, 2) := by decide +kernel
theorem dX4_holds_58 : decode cX4_holds 58 = .ok (.aload_n 0, 1) := by decide +kernel
theorem dX4_holds_59 : decode cX4_holds 59 = .ok (.getfield 94, 3) := by decide +kernel
theorem dX4_holds_62 : decode cX4_holds 62 = .ok (.iload_n 2, 1) := by decide +kernel
theorem dX4_holds_63 : decode cX4_holds 63 = .ok (.iaload, 1) := by decide +kernel
theorem dX4_holds_64 : decode cX4_holds 64 = .ok (.istore 5, 2) := by decide +kernel
theorem dX4_holds_66 : decode cX4_holds 66 = .ok (.aload_n 0, 1) := by decide +kernel
theorem dX4_holds_67 : decode cX4_holds 67 = .ok (.getfield 97, 3) := by decide +kernel
theorem dX4_holds_70 : decode cX4_holds 70 = .ok (.iload_n 2, 1) := by decide +kernel
theorem dX4_holds_71 : decode cX4_holds 71 = .ok (.iaload, 1) := by decide +kernel
theorem dX4_holds_72 : decode cX4_holds 72 = .ok (.lookupswitch 54 #[(60, 28), (62, 41)], 28) := by decide +kernel
theorem dX4_holds_100 : decode cX4_holds 100 = .ok (.iload 4, 2) := by decide +kernel
theorem dX4_holds_102 : decode cX4_holds 102 = .ok (.iload 5, 2) := by decide +kernel
theorem dX4_holds_104 : decode cX4_holds 104 = .ok (.if_icmp .ge 7, 3) := by decide +kernel
theorem dX4_holds_107 : decode cX4_holds 107 = .ok (.iconst 1, 1) := by decide +kernel
theorem dX4_holds_108 : decode cX4_holds 108 = .ok (.goto 4, 3) := by decide +kernel
theorem dX4_holds_111 : decode cX4_holds 111 = .ok (.iconst 0, 1) := by decide +kernel
theorem dX4_holds_112 : decode cX4_holds 112 = .ok (.ireturn, 1) := by decide +kernel
theorem dX4_holds_113 : decode cX4_holds 113 = .ok (.iload 4, 2) := by decide +kernel
theorem dX4_holds_115 : decode cX4_holds 115 = .ok (.iload 5, 2) := by decide +kernel
theorem dX4_holds_117 : decode cX4_holds 117 = .ok (.if_icmp .le 7, 3) := by decide +kernel
theorem dX4_holds_120 : decode cX4_holds 120 = .ok (.iconst 1, 1) := by decide +kernel
theorem dX4_holds_121 : decode cX4_holds 121 = .ok (.goto 4, 3) := by decide +kernel
theorem dX4_holds_124 : decode cX4_holds 124 = .ok (.iconst 0, 1) := by decide +kernel
theorem dX4_holds_125 : decode cX4_holds 125 = .ok (.ireturn, 1) := by decide +kernel
theorem dX4_holds_126 : decode cX4_holds 126 = .ok (.iload 4, 2) := by decide +kernel
theorem dX4_holds_128 : decode cX4_holds 128 = .ok (.iload 5, 2) := by decide +kernel
theorem dX4_holds_130 : decode cX4_holds 130 = .ok (.if_icmp .ne 7, 3) := by decide +kernel
theorem dX4_holds_133 : decode cX4_holds 133 = .ok (.iconst 1, 1) := by decide +kernel
theorem dX4_holds_134 : decode cX4_holds 134 = .ok (.goto 4, 3) := by decide +kernel
theorem dX4_holds_137 : decode cX4_holds 137 = .ok (.iconst 0, 1) := by decide +kernel
theorem dX4_holds_138 : decode cX4_holds 138 = .ok (.ireturn, 1) := by decide +kernel
theorem dX4_does_0 : decode cX4_does 0 = .ok (.aload_n 2, 1) := by decide +kernel
theorem dX4_does_1 : decode cX4_does 1 = .ok (.getfield 72, 3) := by decide +kernel
theorem dX4_does_4 : decode cX4_does 4 = .ok (.iload 4, 2) := by decide +kernel
theorem dX4_does_6 : decode cX4_does 6 = .ok (.iaload, 1) := by decide +kernel
theorem dX4_does_7 : decode cX4_does 7 = .ok (.istore 5, 2) := by decide +kernel
theorem dX4_does_9 : decode cX4_does 9 = .ok (.aload_n 2, 1) := by decide +kernel
theorem dX4_does_10 : decode cX4_does 10 = .ok (.getfield 50, 3) := by decide +kernel
theorem dX4_does_13 : decode cX4_does 13 = .ok (.iload 4, 2) := by decide +kernel
theorem dX4_does_15 : decode cX4_does 15 = .ok (.iaload, 1) := by decide +kernel
theorem dX4_does_16 : decode cX4_does 16 = .ok (.istore 6, 2) := by decide +kernel
theorem dX4_does_18 : decode cX4_does 18 = .ok (.aload_n 1, 1) := by decide +kernel
theorem dX4_does_19 : decode cX4_does 19 = .ok (.aload_n 3, 1) := by decide +kernel
theorem dX4_does_20 : decode cX4_does 20 = .ok (.iload 6, 2) := by decide +kernel
theorem dX4_does_22 : decode cX4_does 22 = .ok (.iload 5, 2) := by decide +kernel
theorem dX4_does_24 : decode cX4_does 24 = .ok (.invokestatic 100, 3) := by decide +kernel
theorem dX4_does_27 : decode cX4_does 27 = .ok (.ifCond .ne 5, 3) := by decide +kernel
theorem dX4_does_30 : decode cX4_does 30 = .ok (.iconst 0, 1) := by decide +kernel
theorem dX4_does_31 : decode cX4_does 31 = .ok (.ireturn, 1) := by decide +kernel
theorem dX4_does_32 : decode cX4_does 32 = .ok (.iload 6, 2) := by decide +kernel
theorem dX4_does_34 : decode cX4_does 34 = .ok (.tableswitch 106 18 23 #[38, 49, 59, 71, 80, 89], 38) := by decide +kernel
theorem dX4_does_72 : decode cX4_does 72 = .ok (.aload_n 3, 1) := by decide +kernel
theorem dX4_does_73 : decode cX4_does 73 = .ok (.aload_n 1, 1) := by decide +kernel
theorem dX4_does_74 : decode cX4_does 74 = .ok (.iload 5, 2) := by decide +kernel
theorem dX4_does_76 : decode cX4_does 76 = .ok (.invokevirtual 104, 3) := by decide +kernel
theorem dX4_does_79 : decode cX4_does 79 = .ok (.pop, 1) := by decide +kernel
theorem dX4_does_80 : decode cX4_does 80 = .ok (.goto 66, 3) := by decide +kernel
theorem dX4_does_83 : decode cX4_does 83 = .ok (.aload_n 3, 1) := by decide +kernel
theorem dX4_does_84 : decode cX4_does 84 = .ok (.aload_n 1, 1) := by decide +kernel
theorem dX4_does_85 : decode cX4_does 85 = .ok (.iload 5, 2) := by decide +kernel
theorem dX4_does_87 : decode cX4_does 87 = .ok (.invokevirtual 108, 3) := by decide +kernel
theorem dX4_does_90 : decode cX4_does 90 = .ok (.goto 56, 3) := by decide +kernel
theorem dX4_does_93 : decode cX4_does 93 = .ok (.aload_n 0, 1) := by decide +kernel
theorem dX4_does_94 : decode cX4_does 94 = .ok (.aload_n 3, 1) := by decide +kernel
theorem dX4_does_95 : decode cX4_does 95 = .ok (.aload_n 1, 1) := by decide +kernel
theorem dX4_does_96 : decode cX4_does 96 = .ok (.invokevirtual 112, 3) := by decide +kernel
theorem dX4_does_99 : decode cX4_does 99 = .ok (.invokevirtual 116, 3) := by decide +kernel
theorem dX4_does_102 : decode cX4_does 102 = .ok (.goto 44, 3) := by decide +kernel
theorem dX4_does_105 : decode cX4_does 105 = .ok (.aload_n 3, 1) := by decide +kernel
theorem dX4_does_106 : decode cX4_does 106 = .ok (.iload 5, 2) := by decide +kernel
theorem dX4_does_108 : decode cX4_does 108 = .ok (.invokevirtual 120, 3) := by decide +kernel
theorem dX4_does_111 : decode cX4_does 111 = .ok (.goto 35, 3) := by decide +kernel
theorem dX4_does_114 : decode cX4_does 114 = .ok (.aload_n 3, 1) := by decide +kernel
theorem dX4_does_115 : decode cX4_does 115 = .ok (.iload 5, 2) := by decide +kernel
theorem dX4_does_117 : decode cX4_does 117 = .ok (.invokevirtual 123, 3) := by decide +kernel
theorem dX4_does_120 : decode cX4_does 120 = .ok (.goto 26, 3) := by decide +kernel
theorem dX4_does_123 : decode cX4_does 123 = .ok (.aload_n 3, 1) := by decide +kernel
theorem dX4_does_124 : decode cX4_does 124 = .ok (.aload_n 1, 1) := by decide +kernel
theorem dX4_does_125 : decode cX4_does 125 = .ok (.iload 5, 2) := by decide +kernel
theorem dX4_does_127 : decode cX4_does 127 = .ok (.aload_n 2, 1) := by decide +kernel
theorem dX4_does_128 : decode cX4_does 128 = .ok (.getfield 97, 3) := by decide +kernel
theorem dX4_does_131 : decode cX4_does 131 = .ok (.iload 4, 2) := by decide +kernel
theorem dX4_does_133 : decode cX4_does 133 = .ok (.iaload, 1) := by decide +kernel
theorem dX4_does_134 : decode cX4_does 134 = .ok (.invokevirtual 126, 3) := by decide +kernel
theorem dX4_does_137 : decode cX4_does 137 = .ok (.goto 9, 3) := by decide +kernel
theorem dX4_does_140 : decode cX4_does 140 = .ok (.aload_n 0, 1) := by decide +kernel
theorem dX4_does_141 : decode cX4_does 141 = .ok (.aload_n 1, 1) := by decide +kernel
theorem dX4_does_142 : decode cX4_does 142 = .ok (.aload_n 3, 1) := by decide +kernel
theorem dX4_does_143 : decode cX4_does 143 = .ok (.invokevirtual 130, 3) := by decide +kernel
theorem dX4_does_146 : decode cX4_does 146 = .ok (.iconst 1, 1) := by decide +kernel
theorem dX4_does_147 : decode cX4_does 147 = .ok (.ireturn, 1) := by decide +kernel
theorem dX4_canDo_0 : decode cX4_canDo 0 = .ok (.iload_n 2, 1) := by decide +kernel
theorem dX4_canDo_1 : decode cX4_canDo 1 = .ok (.tableswitch 130 18 23 #[39, 53, 71, 87, 93, 107], 39) := by decide +kernel
theorem dX4_canDo_40 : decode cX4_canDo 40 = .ok (.aload_n 1, 1) := by decide +kernel
theorem dX4_canDo_41 : decode cX4_canDo 41 = .ok (.iload_n 3, 1) := by decide +kernel
theorem dX4_canDo_42 : decode cX4_canDo 42 = .ok (.invokevirtual 134, 3) := by decide +kernel
theorem dX4_canDo_45 : decode cX4_canDo 45 = .ok (.ifCond .ne 7, 3) := by decide +kernel
theorem dX4_canDo_48 : decode cX4_canDo 48 = .ok (.iconst 1, 1) := by decide +kernel
theorem dX4_canDo_49 : decode cX4_canDo 49 = .ok (.goto 4, 3) := by decide +kernel
theorem dX4_canDo_52 : decode cX4_canDo 52 = .ok (.iconst 0, 1) := by decide +kernel
theorem dX4_canDo_53 : decode cX4_canDo 53 = .ok (.ireturn, 1) := by decide +kernel
theorem dX4_canDo_54 : decode cX4_canDo 54 = .ok (.aload_n 1, 1) := by decide +kernel
theorem dX4_canDo_55 : decode cX4_canDo 55 = .ok (.getfield 138, 3) := by decide +kernel
theorem dX4_canDo_58 : decode cX4_canDo 58 = .ok (.iload_n 3, 1) := by decide +kernel
theorem dX4_canDo_59 : decode cX4_canDo 59 = .ok (.iadd, 1) := by decide +kernel
theorem dX4_canDo_60 : decode cX4_canDo 60 = .ok (.sipush 9999, 3) := by decide +kernel
theorem dX4_canDo_63 : decode cX4_canDo 63 = .ok (.if_icmp .gt 7, 3) := by decide +kernel
theorem dX4_canDo_66 : decode cX4_canDo 66 = .ok (.iconst 1, 1) := by decide +kernel
theorem dX4_canDo_67 : decode cX4_canDo 67 = .ok (.goto 4, 3) := by decide +kernel
theorem dX4_canDo_70 : decode cX4_canDo 70 = .ok (.iconst 0, 1) := by decide +kernel
theorem dX4_canDo_71 : decode cX4_canDo 71 = .ok (.ireturn, 1) := by decide +kernel
theorem dX4_canDo_72 : decode cX4_canDo 72 = .ok (.aload_n 1, 1) := by decide +kernel
theorem dX4_canDo_73 : decode cX4_canDo 73 = .ok (.getfield 141, 3) := by decide +kernel
theorem dX4_canDo_76 : decode cX4_canDo 76 = .ok (.sipush 9999, 3) := by decide +kernel
theorem dX4_canDo_79 : decode cX4_canDo 79 = .ok (.if_icmp .ge 7, 3) := by decide +kernel
theorem dX4_canDo_82 : decode cX4_canDo 82 = .ok (.iconst 1, 1) := by decide +kernel
theorem dX4_canDo_83 : decode cX4_canDo 83 = .ok (.goto 4, 3) := by decide +kernel
theorem dX4_canDo_86 : decode cX4_canDo 86 = .ok (.iconst 0, 1) := by decide +kernel
theorem dX4_canDo_87 : decode cX4_canDo 87 = .ok (.ireturn, 1) := by decide +kernel
theorem dX4_canDo_88 : decode cX4_canDo 88 = .ok (.aload_n 1, 1) := by decide +kernel
theorem dX4_canDo_89 : decode cX4_canDo 89 = .ok (.iload_n 3, 1) := by decide +kernel
theorem dX4_canDo_90 : decode cX4_canDo 90 = .ok (.invokevirtual 144, 3) := by decide +kernel
theorem dX4_canDo_93 : decode cX4_canDo 93 = .ok (.ireturn, 1) := by decide +kernel
theorem dX4_canDo_94 : decode cX4_canDo 94 = .ok (.aload_n 1, 1) := by decide +kernel
theorem dX4_canDo_95 : decode cX4_canDo 95 = .ok (.iload_n 3, 1) := by decide +kernel
theorem dX4_canDo_96 : decode cX4_canDo 96 = .ok (.invokevirtual 144, 3) := by decide +kernel
theorem dX4_canDo_99 : decode cX4_canDo 99 = .ok (.ifCond .ne 7, 3) := by decide +kernel
theorem dX4_canDo_102 : decode cX4_canDo 102 = .ok (.iconst 1, 1) := by decide +kernel
theorem dX4_canDo_103 : decode cX4_canDo 103 = .ok (.goto 4, 3) := by decide +kernel
theorem dX4_canDo_106 : decode cX4_canDo 106 = .ok (.iconst 0, 1) := by decide +kernel
theorem dX4_canDo_107 : decode cX4_canDo 107 = .ok (.ireturn, 1) := by decide +kernel
theorem dX4_canDo_108 : decode cX4_canDo 108 = .ok (.aload_n 1, 1) := by decide +kernel
theorem dX4_canDo_109 : decode cX4_canDo 109 = .ok (.iload_n 3, 1) := by decide +kernel
theorem dX4_canDo_110 : decode cX4_canDo 110 = .ok (.invokevirtual 144, 3) := by decide +kernel
theorem dX4_canDo_113 : decode cX4_canDo 113 = .ok (.ifCond .eq 16, 3) := by decide +kernel
theorem dX4_canDo_116 : decode cX4_canDo 116 = .ok (.aload_n 1, 1) := by decide +kernel
theorem dX4_canDo_117 : decode cX4_canDo 117 = .ok (.aload_n 0, 1) := by decide +kernel
theorem dX4_canDo_118 : decode cX4_canDo 118 = .ok (.iload_n 3, 1) := by decide +kernel
theorem dX4_canDo_119 : decode cX4_canDo 119 = .ok (.invokevirtual 147, 3) := by decide +kernel
theorem dX4_canDo_122 : decode cX4_canDo 122 = .ok (.ifCond .eq 7, 3) := by decide +kernel
theorem dX4_canDo_125 : decode cX4_canDo 125 = .ok (.iconst 1, 1) := by decide +kernel
theorem dX4_canDo_126 : decode cX4_canDo 126 = .ok (.goto 4, 3) := by decide +kernel
theorem dX4_canDo_129 : decode cX4_canDo 129 = .ok (.iconst 0, 1) := by decide +kernel
theorem dX4_canDo_130 : decode cX4_canDo 130 = .ok (.ireturn, 1) := by decide +kernel
theorem dX4_canDo_131 : decode cX4_canDo 131 = .ok (.iconst 1, 1) := by decide +kernel
theorem dX4_canDo_132 : decode cX4_canDo 132 = .ok (.ireturn, 1) := by decide +kernel
theorem dX4_countDay_0 : decode cX4_countDay 0 = .ok (.aload_n 0, 1) := by decide +kernel
theorem dX4_countDay_1 : decode cX4_countDay 1 = .ok (.dup, 1) := by decide +kernel
theorem dX4_countDay_2 : decode cX4_countDay 2 = .ok (.getfield 25, 3) := by decide +kernel
theorem dX4_countDay_5 : decode cX4_countDay 5 = .ok (.iconst 1, 1) := by decide +kernel
theorem dX4_countDay_6 : decode cX4_countDay 6 = .ok (.iadd, 1) := by decide +kernel
theorem dX4_countDay_7 : decode cX4_countDay 7 = .ok (.putfield 25, 3) := by decide +kernel
theorem dX4_countDay_10 : decode cX4_countDay 10 = .ok (.aload_n 0, 1) := by decide +kernel
theorem dX4_countDay_11 : decode cX4_countDay 11 = .ok (.dup, 1) := by decide +kernel
theorem dX4_countDay_12 : decode cX4_countDay 12 = .ok (.getfield 28, 3) := by decide +kernel
theorem dX4_countDay_15 : decode cX4_countDay 15 = .ok (.iload_n 1, 1) := by decide +kernel
theorem dX4_countDay_16 : decode cX4_countDay 16 = .ok (.iconst 1, 1) := by decide +kernel
theorem dX4_countDay_17 : decode cX4_countDay 17 = .ok (.if_icmp .ne 7, 3) := by decide +kernel
theorem dX4_countDay_20 : decode cX4_countDay 20 = .ok (.iconst 1, 1) := by decide +kernel
theorem dX4_countDay_21 : decode cX4_countDay 21 = .ok (.goto 4, 3) := by decide +kernel
theorem dX4_countDay_24 : decode cX4_countDay 24 = .ok (.iconst 0, 1) := by decide +kernel
theorem dX4_countDay_25 : decode cX4_countDay 25 = .ok (.iadd, 1) := by decide +kernel
theorem dX4_countDay_26 : decode cX4_countDay 26 = .ok (.putfield 28, 3) := by decide +kernel
theorem dX4_countDay_29 : decode cX4_countDay 29 = .ok (.aload_n 0, 1) := by decide +kernel
theorem dX4_countDay_30 : decode cX4_countDay 30 = .ok (.dup, 1) := by decide +kernel
theorem dX4_countDay_31 : decode cX4_countDay 31 = .ok (.getfield 31, 3) := by decide +kernel
theorem dX4_countDay_34 : decode cX4_countDay 34 = .ok (.iload_n 1, 1) := by decide +kernel
theorem dX4_countDay_35 : decode cX4_countDay 35 = .ok (.ifCond .ne 7, 3) := by decide +kernel
