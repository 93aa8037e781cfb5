theorem dX11_readNew_47 : decode cX11_readNew 47 = .ok (.invokevirtual 242, 3) := by decide +kernel
theorem dX11_readNew_50 : decode cX11_readNew 50 = .ok (.aload_n 0, 1) := by decide +kernel
theorem dX11_readNew_51 : decode cX11_readNew 51 = .ok (.getfield 229, 3) := by decide +kernel
theorem dX11_readNew_54 : decode cX11_readNew 54 = .ok (.ifCond .ne 48, 3) := by decide +kernel
theorem dX11_readNew_57 : decode cX11_readNew 57 = .ok (.aload_n 0, 1) := by decide +kernel
theorem dX11_readNew_58 : decode cX11_readNew 58 = .ok (.iconst 4, 1) := by decide +kernel
theorem dX11_readNew_59 : decode cX11_readNew 59 = .ok (.iconst 0, 1) := by decide +kernel
theorem dX11_readNew_60 : decode cX11_readNew 60 = .ok (.invokevirtual 261, 3) := by decide +kernel
theorem dX11_readNew_63 : decode cX11_readNew 63 = .ok (.ifCond .ge 30, 3) := by decide +kernel
theorem dX11_readNew_66 : decode cX11_readNew 66 = .ok (.aload_n 0, 1) := by decide +kernel
theorem dX11_readNew_67 : decode cX11_readNew 67 = .ok (.iconst 4, 1) := by decide +kernel
theorem dX11_readNew_68 : decode cX11_readNew 68 = .ok (.iconst 1, 1) := by decide +kernel
theorem dX11_readNew_69 : decode cX11_readNew 69 = .ok (.invokevirtual 261, 3) := by decide +kernel
theorem dX11_readNew_72 : decode cX11_readNew 72 = .ok (.ifCond .ge 21, 3) := by decide +kernel
theorem dX11_readNew_75 : decode cX11_readNew 75 = .ok (.aload_n 0, 1) := by decide +kernel
theorem dX11_readNew_76 : decode cX11_readNew 76 = .ok (.iconst 4, 1) := by decide +kernel
theorem dX11_readNew_77 : decode cX11_readNew 77 = .ok (.iconst 2, 1) := by decide +kernel
theorem dX11_readNew_78 : decode cX11_readNew 78 = .ok (.invokevirtual 261, 3) := by decide +kernel
theorem dX11_readNew_81 : decode cX11_readNew 81 = .ok (.ifCond .ge 12, 3) := by decide +kernel
theorem dX11_readNew_84 : decode cX11_readNew 84 = .ok (.aload_n 0, 1) := by decide +kernel
theorem dX11_readNew_85 : decode cX11_readNew 85 = .ok (.iconst 4, 1) := by decide +kernel
theorem dX11_readNew_86 : decode cX11_readNew 86 = .ok (.iconst 3, 1) := by decide +kernel
theorem dX11_readNew_87 : decode cX11_readNew 87 = .ok (.invokevirtual 261, 3) := by decide +kernel
theorem dX11_readNew_90 : decode cX11_readNew 90 = .ok (.ifCond .lt 12, 3) := by decide +kernel
theorem dX11_readNew_93 : decode cX11_readNew 93 = .ok (.aload_n 0, 1) := by decide +kernel
theorem dX11_readNew_94 : decode cX11_readNew 94 = .ok (.iconst 3, 1) := by decide +kernel
theorem dX11_readNew_95 : decode cX11_readNew 95 = .ok (.aload_n 0, 1) := by decide +kernel
theorem dX11_readNew_96 : decode cX11_readNew 96 = .ok (.getfield 120, 3) := by decide +kernel
theorem dX11_readNew_99 : decode cX11_readNew 99 = .ok (.invokevirtual 235, 3) := by decide +kernel
theorem dX11_readNew_102 : decode cX11_readNew 102 = .ok (.aload_n 0, 1) := by decide +kernel
theorem dX11_readNew_103 : decode cX11_readNew 103 = .ok (.getfield 229, 3) := by decide +kernel
theorem dX11_readNew_106 : decode cX11_readNew 106 = .ok (.ifCond .le 5, 3) := by decide +kernel
theorem dX11_readNew_109 : decode cX11_readNew 109 = .ok (.iconst 0, 1) := by decide +kernel
theorem dX11_readNew_110 : decode cX11_readNew 110 = .ok (.ireturn, 1) := by decide +kernel
theorem dX11_readNew_111 : decode cX11_readNew 111 = .ok (.aload_n 0, 1) := by decide +kernel
theorem dX11_readNew_112 : decode cX11_readNew 112 = .ok (.getfield 41, 3) := by decide +kernel
theorem dX11_readNew_115 : decode cX11_readNew 115 = .ok (.bipush 104, 2) := by decide +kernel
theorem dX11_readNew_117 : decode cX11_readNew 117 = .ok (.iload_n 1, 1) := by decide +kernel
theorem dX11_readNew_118 : decode cX11_readNew 118 = .ok (.invokestatic 255, 3) := by decide +kernel
theorem dX11_readNew_121 : decode cX11_readNew 121 = .ok (.iadd, 1) := by decide +kernel
theorem dX11_readNew_122 : decode cX11_readNew 122 = .ok (.iload_n 3, 1) := by decide +kernel
theorem dX11_readNew_123 : decode cX11_readNew 123 = .ok (.iadd, 1) := by decide +kernel
theorem dX11_readNew_124 : decode cX11_readNew 124 = .ok (.aload_n 0, 1) := by decide +kernel
theorem dX11_readNew_125 : decode cX11_readNew 125 = .ok (.getfield 132, 3) := by decide +kernel
theorem dX11_readNew_128 : decode cX11_readNew 128 = .ok (.lastore, 1) := by decide +kernel
theorem dX11_readNew_129 : decode cX11_readNew 129 = .ok (.aload_n 0, 1) := by decide +kernel
theorem dX11_readNew_130 : decode cX11_readNew 130 = .ok (.invokevirtual 239, 3) := by decide +kernel
theorem dX11_readNew_133 : decode cX11_readNew 133 = .ok (.iload_n 3, 1) := by decide +kernel
theorem dX11_readNew_134 : decode cX11_readNew 134 = .ok (.ireturn, 1) := by decide +kernel
set_option maxRecDepth 20000 in
theorem ggX11_told_X11_isName : GoodIn wsX11_told wsX11_isName := goodIn_r _ [11, 12, 13, 14, 15, 16, 10, 17, 18, 19, 20, 21, 22, 23, 24, 25, 26, 27, 28, 29, 30, 31, 32, 33, 34, 35, 36, 37, 38, 39, 40, 41, 42, 43, 44, 45, 46, 47, 48, 49, 50, 51, 52, 53, 54, 55, 56, 57, 58, 59, 60, 61, 62, 63, 64, 65, 66, 67, 68, 69, 70, 71, 72, 73, 74, 75, 76, 77, 78, 79, 80, 81, 82, 83, 84, 85, 86, 87, 88, 89, 90, 91, 92, 93, 94, 95, 96, 97, 98, 99, 100, 101, 102, 103, 104, 105, 106, 107, 126, 127, 128, 129, 130, 131, 132, 133, 134, 135, 136, 137, 138, 139, 140, 141, 142, 143, 144, 145, 146, 147, 148, 149, 150, 151, 152, 153, 154, 155, 156, 157, 158, 159, 160, 161, 162, 163, 164, 165, 166, 167, 168, 169, 170, 171] (by decide +kernel) (by decide +kernel)
set_option maxRecDepth 20000 in
theorem gX11_told_X11_isName : GoodIn wsX11_told (wsV RX11 258 RX11 yX11_isName wsX11_isName) := goodIn_app (goodIn_of _ (by decide +kernel)) ggX11_told_X11_isName
set_option maxRecDepth 20000 in
theorem ggX11_told_X11_wrong : GoodIn wsX11_told wsX11_wrong := goodIn_r _ [111, 12, 2, 112, 113, 114, 10, 115, 1, 116, 126, 127, 128, 129, 130, 131, 132, 133, 134, 135, 136, 137, 138, 139, 140, 141, 142, 143, 144, 145, 146, 147, 148, 149, 150, 151, 152, 153, 154, 155, 156, 157, 158, 159, 160, 161, 162, 163, 164, 165, 166, 167, 168, 169, 170, 171] (by decide +kernel) (by decide +kernel)
set_option maxRecDepth 20000 in
theorem gX11_told_X11_wrong : GoodIn wsX11_told (wsV RX11 242 RX11 yX11_wrong wsX11_wrong) := goodIn_app (goodIn_of _ (by decide +kernel)) ggX11_told_X11_wrong
set_option maxRecDepth 20000 in
theorem ggX11_told_X11_named : GoodIn wsX11_told wsX11_named := goodIn_r _ [120, 121, 122, 31, 123, 124, 10, 125, 126, 127, 128, 129, 130, 131, 132, 133, 134, 135, 136, 137, 138, 139, 140, 141, 142, 143, 144, 145, 146, 147, 148, 149, 150, 151, 152, 153, 154, 155, 156, 157, 158, 159, 160, 161, 162, 163, 164, 165, 166, 167, 168, 169, 170, 171] (by decide +kernel) (by decide +kernel)
set_option maxRecDepth 20000 in
theorem gX11_told_X11_named : GoodIn wsX11_told (wsV RX11 261 RX11 yX11_named wsX11_named) := goodIn_app (goodIn_of _ (by decide +kernel)) ggX11_told_X11_named
set_option maxRecDepth 20000 in
theorem ggX11_told_X11_fail : GoodIn wsX11_told wsX11_fail := goodIn_r _ [115, 1, 116, 126, 127, 128, 129, 130, 131, 132, 133, 134, 135, 136, 137, 138, 139, 140, 141, 142, 143, 144, 145, 146, 147, 148, 149, 150, 151, 152, 153, 154, 155, 156, 157, 158, 159, 160, 161, 162, 163, 164, 165, 166, 167, 168, 169, 170, 171] (by decide +kernel) (by decide +kernel)
set_option maxRecDepth 20000 in
theorem gX11_told_X11_fail : GoodIn wsX11_told (wsV RX11 235 RX11 yX11_fail wsX11_fail) := goodIn_app (goodIn_of _ (by decide +kernel)) ggX11_told_X11_fail
theorem dX11_told_0 : decode cX11_told 0 = .ok (.aload_n 0, 1) := by decide +kernel
theorem dX11_told_1 : decode cX11_told 1 = .ok (.getfield 229, 3) := by decide +kernel
theorem dX11_told_4 : decode cX11_told 4 = .ok (.ifCond .ne 14, 3) := by decide +kernel
theorem dX11_told_7 : decode cX11_told 7 = .ok (.aload_n 0, 1) := by decide +kernel
theorem dX11_told_8 : decode cX11_told 8 = .ok (.invokevirtual 258, 3) := by decide +kernel
theorem dX11_told_11 : decode cX11_told 11 = .ok (.ifCond .ne 7, 3) := by decide +kernel
theorem dX11_told_14 : decode cX11_told 14 = .ok (.aload_n 0, 1) := by decide +kernel
theorem dX11_told_15 : decode cX11_told 15 = .ok (.invokevirtual 242, 3) := by decide +kernel
theorem dX11_told_18 : decode cX11_told 18 = .ok (.aload_n 0, 1) := by decide +kernel
theorem dX11_told_19 : decode cX11_told 19 = .ok (.getfield 229, 3) := by decide +kernel
theorem dX11_told_22 : decode cX11_told 22 = .ok (.ifCond .le 5, 3) := by decide +kernel
theorem dX11_told_25 : decode cX11_told 25 = .ok (.iconst 0, 1) := by decide +kernel
theorem dX11_told_26 : decode cX11_told 26 = .ok (.ireturn, 1) := by decide +kernel
theorem dX11_told_27 : decode cX11_told 27 = .ok (.aload_n 0, 1) := by decide +kernel
theorem dX11_told_28 : decode cX11_told 28 = .ok (.iload_n 1, 1) := by decide +kernel
theorem dX11_told_29 : decode cX11_told 29 = .ok (.iload_n 2, 1) := by decide +kernel
theorem dX11_told_30 : decode cX11_told 30 = .ok (.invokevirtual 261, 3) := by decide +kernel
theorem dX11_told_33 : decode cX11_told 33 = .ok (.istore_n 3, 1) := by decide +kernel
theorem dX11_told_34 : decode cX11_told 34 = .ok (.iload_n 3, 1) := by decide +kernel
theorem dX11_told_35 : decode cX11_told 35 = .ok (.ifCond .ge 12, 3) := by decide +kernel
theorem dX11_told_38 : decode cX11_told 38 = .ok (.aload_n 0, 1) := by decide +kernel
theorem dX11_told_39 : decode cX11_told 39 = .ok (.iconst 3, 1) := by decide +kernel
theorem dX11_told_40 : decode cX11_told 40 = .ok (.aload_n 0, 1) := by decide +kernel
theorem dX11_told_41 : decode cX11_told 41 = .ok (.getfield 120, 3) := by decide +kernel
theorem dX11_told_44 : decode cX11_told 44 = .ok (.invokevirtual 235, 3) := by decide +kernel
theorem dX11_told_47 : decode cX11_told 47 = .ok (.iconst 0, 1) := by decide +kernel
theorem dX11_told_48 : decode cX11_told 48 = .ok (.iload_n 3, 1) := by decide +kernel
theorem dX11_told_49 : decode cX11_told 49 = .ok (.invokestatic 264, 3) := by decide +kernel
theorem dX11_told_52 : decode cX11_told 52 = .ok (.ireturn, 1) := by decide +kernel
set_option maxRecDepth 20000 in
theorem ggX11_readTold_X11_told : GoodIn wsX11_readTold wsX11_told := goodIn_r _ [5, 6, 7, 8, 9, 10, 11, 12, 13, 14, 4, 15, 16, 17, 18, 19, 20, 21, 22, 23, 24, 25, 26, 27, 28, 29, 30, 31, 32, 33, 34, 35, 36, 37, 38, 39, 40, 41, 42, 43, 44, 45, 46, 47, 48, 49, 50, 51, 52, 53, 54, 55, 56, 57, 58, 59, 60, 61, 62, 63, 64, 65, 66, 67, 68, 69, 70, 71, 72, 73, 74, 75, 76, 77, 78, 79, 80, 81, 82, 83, 84, 85, 86, 87, 88, 89, 90, 91, 92, 93, 94, 95, 96, 97, 98, 99, 100, 101, 102, 103, 104, 105, 106, 107, 108, 109, 110, 111, 112, 113, 114, 115, 116, 117, 118, 119, 120, 121, 122, 123, 124, 125, 126, 127, 128, 129, 157, 158, 159, 160, 161, 162, 163, 164, 165, 166, 167, 168, 169, 170, 171, 172, 173, 174, 175, 176, 177, 178, 179, 180, 181, 182, 183, 184, 185, 186, 187, 188, 189, 190, 191, 192, 193, 194, 195, 196, 197, 198, 199, 200, 201, 202] (by decide +kernel) (by decide +kernel)
set_option maxRecDepth 20000 in
theorem gX11_readTold_X11_told : GoodIn wsX11_readTold (wsV RX11 267 RX11 yX11_told wsX11_told) := goodIn_app (goodIn_of _ (by decide +kernel)) ggX11_readTold_X11_told
set_option maxRecDepth 20000 in
theorem ggX11_readTold_X11_must : GoodIn wsX11_readTold wsX11_must := goodIn_r _ [133, 6, 134, 135, 136, 4, 137, 138, 7, 139, 16, 35, 30, 29, 140, 17, 141, 142, 143, 144, 145, 146, 147, 148, 149, 150, 151, 152, 153, 154, 155, 156, 112, 113, 114, 115, 116, 117, 118, 119, 120, 157, 158, 159, 160, 161, 162, 163, 164, 165, 166, 167, 168, 169, 170, 171, 172, 173, 174, 175, 176, 177, 178, 179, 180, 181, 182, 183, 184, 185, 186, 187, 188, 189, 190, 191, 192, 193, 194, 195, 196, 197, 198, 199, 200, 201, 202] (by decide +kernel) (by decide +kernel)
set_option maxRecDepth 20000 in
theorem gX11_readTold_X11_must : GoodIn wsX11_readTold (wsV RX11 270 RX11 yX11_must wsX11_must) := goodIn_app (goodIn_of _ (by decide +kernel)) ggX11_readTold_X11_must
theorem dX11_readTold_0 : decode cX11_readTold 0 = .ok (.aload_n 0, 1) := by decide +kernel
theorem dX11_readTold_1 : decode cX11_readTold 1 = .ok (.iload_n 1, 1) := by decide +kernel
theorem dX11_readTold_2 : decode cX11_readTold 2 = .ok (.iload_n 2, 1) := by decide +kernel
theorem dX11_readTold_3 : decode cX11_readTold 3 = .ok (.invokevirtual 267, 3) := by decide +kernel
theorem dX11_readTold_6 : decode cX11_readTold 6 = .ok (.istore_n 3, 1) := by decide +kernel
theorem dX11_readTold_7 : decode cX11_readTold 7 = .ok (.aload_n 0, 1) := by decide +kernel
theorem dX11_readTold_8 : decode cX11_readTold 8 = .ok (.iconst 1, 1) := by decide +kernel
theorem dX11_readTold_9 : decode cX11_readTold 9 = .ok (.invokevirtual 270, 3) := by decide +kernel
theorem dX11_readTold_12 : decode cX11_readTold 12 = .ok (.iload_n 3, 1) := by decide +kernel
theorem dX11_readTold_13 : decode cX11_readTold 13 = .ok (.ireturn, 1) := by decide +kernel
set_option maxRecDepth 20000 in
theorem ggX11_readJuror_X11_readNew : GoodIn wsX11_readJuror wsX11_readNew := goodIn_r _ [7, 2, 8, 1, 9, 10, 11, 12, 13, 6, 14, 15, 16, 17, 18, 19, 20, 21, 22, 23, 24, 25, 26, 27, 28, 29, 30, 31, 32, 33, 34, 35, 36, 37, 38, 39, 40, 41, 42, 43, 44, 45, 46, 47, 48, 49, 50, 51, 52, 53, 54, 55, 56, 57, 58, 59, 60, 61, 62, 63, 64, 65, 66, 67, 68, 69, 70, 71, 72, 73, 74, 75, 76, 77, 78, 79, 80, 81, 82, 83, 84, 85, 86, 87, 88, 89, 90, 91, 92, 93, 94, 95, 96, 97, 98, 99, 100, 101, 102, 103, 104, 105, 106, 107, 108, 109, 110, 111, 112, 113, 114, 115, 116, 117, 118, 119, 120, 121, 122, 123, 124, 125, 126, 127, 128, 129, 130, 131, 132, 133, 134, 135, 136, 137, 138, 139, 140, 141, 142, 143, 144, 145, 146, 147, 148, 160, 161, 162, 163, 164, 165, 166, 167, 168, 169, 170, 171, 172, 173, 174, 175, 176, 177, 178, 179, 180, 181, 182, 183, 184, 185, 186, 187, 188, 189, 190, 191, 192, 193, 194, 195, 196, 197, 198, 199, 200, 201, 202, 203, 204, 205] (by decide +kernel) (by decide +kernel)
set_option maxRecDepth 20000 in
theorem gX11_readJuror_X11_readNew : GoodIn wsX11_readJuror (wsV RX11 274 RX11 yX11_readNew wsX11_readNew) := goodIn_app (goodIn_of _ (by decide +kernel)) ggX11_readJuror_X11_readNew
set_option maxRecDepth 20000 in
theorem ggX11_readJuror_X11_isLeans : GoodIn wsX11_readJuror wsX11_isLeans := goodIn_r _ [65, 55, 56, 6, 57, 24, 23, 58, 59, 60, 61, 22, 10, 160, 161, 162, 163, 164, 165, 166, 167, 168, 169, 170, 171, 172, 173, 174, 175, 176, 177, 178, 179, 180, 181, 182, 183, 184, 185, 186, 187, 188, 189, 190, 191, 192, 193, 194, 195, 196, 197, 198, 199, 200, 201, 202, 203, 204, 205] (by decide +kernel) (by decide +kernel)
set_option maxRecDepth 20000 in
theorem gX11_readJuror_X11_isLeans : GoodIn wsX11_readJuror (wsV RX11 177 RX11 yX11_isLeans wsX11_isLeans) := goodIn_app (goodIn_of _ (by decide +kernel)) ggX11_readJuror_X11_isLeans
set_option maxRecDepth 20000 in
theorem ggX11_readJuror_X11_next : GoodIn wsX11_readJuror wsX11_next := goodIn_r _ [19, 20, 8, 21, 22, 10, 23, 24, 25, 26, 27, 28, 29, 30, 6, 31, 32, 33, 34, 35, 36, 37, 38, 39, 40, 41, 42, 160, 161, 162, 163, 164, 165, 166, 167, 168, 169, 170, 171, 172, 173, 174, 175, 176, 177, 178, 179, 180, 181, 182, 183, 184, 185, 186, 187, 188, 189, 190, 191, 192, 193, 194, 195, 196, 197, 198, 199, 200, 201, 202, 203, 204, 205] (by decide +kernel) (by decide +kernel)
set_option maxRecDepth 20000 in
theorem gX11_readJuror_X11_next : GoodIn wsX11_readJuror (wsV RX11 239 RX11 yX11_next wsX11_next) := goodIn_app (goodIn_of _ (by decide +kernel)) ggX11_readJuror_X11_next
set_option maxRecDepth 20000 in
theorem ggX11_readJuror_X11_signed : GoodIn wsX11_readJuror wsX11_signed := goodIn_r _ [152, 1, 66, 67, 68, 6, 69, 55, 56, 57, 24, 23, 58, 59, 60, 61, 22, 10, 16, 17, 18, 19, 20, 8, 21, 25, 26, 27, 28, 29, 30, 31, 32, 33, 34, 35, 36, 37, 38, 39, 40, 41, 42, 153, 154, 155, 156, 138, 139, 140, 141, 11, 12, 13, 14, 15, 157, 158, 159, 160, 161, 162, 163, 164, 165, 166, 167, 168, 169, 170, 171, 172, 173, 174, 175, 176, 177, 178, 179, 180, 181, 182, 183, 184, 185, 186, 187, 188, 189, 190, 191, 192, 193, 194, 195, 196, 197, 198, 199, 200, 201, 202, 203, 204, 205] (by decide +kernel) (by decide +kernel)
set_option maxRecDepth 20000 in
theorem gX11_readJuror_X11_signed : GoodIn wsX11_readJuror (wsV RX11 277 RX11 yX11_signed wsX11_signed) := goodIn_app (goodIn_of _ (by decide +kernel)) ggX11_readJuror_X11_signed
set_option maxRecDepth 20000 in
theorem ggX11_readJuror_X11_isStubborn : GoodIn wsX11_readJuror wsX11_isStubborn := goodIn_r _ [73, 23, 74, 75, 55, 56, 6, 57, 24, 58, 59, 60, 61, 22, 10, 160, 161, 162, 163, 164, 165, 166, 167, 168, 169, 170, 171, 172, 173, 174, 175, 176, 177, 178, 179, 180, 181, 182, 183, 184, 185, 186, 187, 188, 189, 190, 191, 192, 193, 194, 195, 196, 197, 198, 199, 200, 201, 202, 203, 204, 205] (by decide +kernel) (by decide +kernel)
set_option maxRecDepth 20000 in
theorem gX11_readJuror_X11_isStubborn : GoodIn wsX11_readJuror (wsV RX11 183 RX11 yX11_isStubborn wsX11_isStubborn) := goodIn_app (goodIn_of _ (by decide +kernel)) ggX11_readJuror_X11_isStubborn
set_option maxRecDepth 20000 in
theorem ggX11_readJuror_X11_count : GoodIn wsX11_readJuror wsX11_count := goodIn_r _ [156, 1, 22, 27, 8, 138, 139, 140, 6, 141, 11, 12, 13, 14, 15, 157, 158, 159, 16, 17, 18, 19, 20, 21, 10, 23, 24, 25, 26, 28, 29, 30, 31, 32, 33, 34, 35, 36, 37, 38, 39, 40, 41, 42, 160, 161, 162, 163, 164, 165, 166, 167, 168, 169, 170, 171, 172, 173, 174, 175, 176, 177, 178, 179, 180, 181, 182, 183, 184, 185, 186, 187, 188, 189, 190, 191, 192, 193, 194, 195, 196, 197, 198, 199, 200, 201, 202, 203, 204, 205] (by decide +kernel) (by decide +kernel)
set_option maxRecDepth 20000 in
theorem gX11_readJuror_X11_count : GoodIn wsX11_readJuror (wsV RX11 245 RX11 yX11_count wsX11_count) := goodIn_app (goodIn_of _ (by decide +kernel)) ggX11_readJuror_X11_count
set_option maxRecDepth 20000 in
theorem ggX11_readJuror_X11_isPrice : GoodIn wsX11_readJuror wsX11_isPrice := goodIn_r _ [79, 55, 56, 6, 57, 24, 23, 58, 59, 60, 61, 22, 10, 160, 161, 162, 163, 164, 165, 166, 167, 168, 169, 170, 171, 172, 173, 174, 175, 176, 177, 178, 179, 180, 181, 182, 183, 184, 185, 186, 187, 188, 189, 190, 191, 192, 193, 194, 195, 196, 197, 198, 199, 200, 201, 202, 203, 204, 205] (by decide +kernel) (by decide +kernel)
set_option maxRecDepth 20000 in
theorem gX11_readJuror_X11_isPrice : GoodIn wsX11_readJuror (wsV RX11 186 RX11 yX11_isPrice wsX11_isPrice) := goodIn_app (goodIn_of _ (by decide +kernel)) ggX11_readJuror_X11_isPrice
theorem dX11_readJuror_0 : decode cX11_readJuror 0 = .ok (.aload_n 0, 1) := by decide +kernel
theorem dX11_readJuror_1 : decode cX11_readJuror 1 = .ok (.iconst 0, 1) := by decide +kernel
theorem dX11_readJuror_2 : decode cX11_readJuror 2 = .ok (.bipush 10, 2) := by decide +kernel
theorem dX11_readJuror_4 : decode cX11_readJuror 4 = .ok (.invokevirtual 274, 3) := by decide +kernel
theorem dX11_readJuror_7 : decode cX11_readJuror 7 = .ok (.istore_n 1, 1) := by decide +kernel
theorem dX11_readJuror_8 : decode cX11_readJuror 8 = .ok (.aload_n 0, 1) := by decide +kernel
theorem dX11_readJuror_9 : decode cX11_readJuror 9 = .ok (.getfield 229, 3) := by decide +kernel
theorem dX11_readJuror_12 : decode cX11_readJuror 12 = .ok (.ifCond .ne 30, 3) := by decide +kernel
theorem dX11_readJuror_15 : decode cX11_readJuror 15 = .ok (.aload_n 0, 1) := by decide +kernel
theorem dX11_readJuror_16 : decode cX11_readJuror 16 = .ok (.invokevirtual 177, 3) := by decide +kernel
theorem dX11_readJuror_19 : decode cX11_readJuror 19 = .ok (.ifCond .eq 23, 3) := by decide +kernel
theorem dX11_readJuror_22 : decode cX11_readJuror 22 = .ok (.aload_n 0, 1) := by decide +kernel
theorem dX11_readJuror_23 : decode cX11_readJuror 23 = .ok (.invokevirtual 239, 3) := by decide +kernel
theorem dX11_readJuror_26 : decode cX11_readJuror 26 = .ok (.aload_n 0, 1) := by decide +kernel
theorem dX11_readJuror_27 : decode cX11_readJuror 27 = .ok (.getfield 35, 3) := by decide +kernel
theorem dX11_readJuror_30 : decode cX11_readJuror 30 = .ok (.sipush 1912, 3) := by decide +kernel
theorem dX11_readJuror_33 : decode cX11_readJuror 33 = .ok (.iload_n 1, 1) := by decide +kernel
theorem dX11_readJuror_34 : decode cX11_readJuror 34 = .ok (.iadd, 1) := by decide +kernel
theorem dX11_readJuror_35 : decode cX11_readJuror 35 = .ok (.aload_n 0, 1) := by decide +kernel
theorem dX11_readJuror_36 : decode cX11_readJuror 36 = .ok (.bipush 99, 2) := by decide +kernel
theorem dX11_readJuror_38 : decode cX11_readJuror 38 = .ok (.invokevirtual 277, 3) := by decide +kernel
theorem dX11_readJuror_41 : decode cX11_readJuror 41 = .ok (.iastore, 1) := by decide +kernel
theorem dX11_readJuror_42 : decode cX11_readJuror 42 = .ok (.aload_n 0, 1) := by decide +kernel
theorem dX11_readJuror_43 : decode cX11_readJuror 43 = .ok (.getfield 229, 3) := by decide +kernel
theorem dX11_readJuror_46 : decode cX11_readJuror 46 = .ok (.ifCond .ne 31, 3) := by decide +kernel
theorem dX11_readJuror_49 : decode cX11_readJuror 49 = .ok (.aload_n 0, 1) := by decide +kernel
theorem dX11_readJuror_50 : decode cX11_readJuror 50 = .ok (.invokevirtual 183, 3) := by decide +kernel
theorem dX11_readJuror_53 : decode cX11_readJuror 53 = .ok (.ifCond .eq 24, 3) := by decide +kernel
theorem dX11_readJuror_56 : decode cX11_readJuror 56 = .ok (.aload_n 0, 1) := by decide +kernel
theorem dX11_readJuror_57 : decode cX11_readJuror 57 = .ok (.invokevirtual 239, 3) := by decide +kernel
theorem dX11_readJuror_60 : decode cX11_readJuror 60 = .ok (.aload_n 0, 1) := by decide +kernel
theorem dX11_readJuror_61 : decode cX11_readJuror 61 = .ok (.getfield 35, 3) := by decide +kernel
theorem dX11_readJuror_64 : decode cX11_readJuror 64 = .ok (.sipush 1922, 3) := by decide +kernel
theorem dX11_readJuror_67 : decode cX11_readJuror 67 = .ok (.iload_n 1, 1) := by decide +kernel
theorem dX11_readJuror_68 : decode cX11_readJuror 68 = .ok (.iadd, 1) := by decide +kernel
theorem dX11_readJuror_69 : decode cX11_readJuror 69 = .ok (.aload_n 0, 1) := by decide +kernel
theorem dX11_readJuror_70 : decode cX11_readJuror 70 = .ok (.iconst 0, 1) := by decide +kernel
theorem dX11_readJuror_71 : decode cX11_readJuror 71 = .ok (.bipush 20, 2) := by decide +kernel
theorem dX11_readJuror_73 : decode cX11_readJuror 73 = .ok (.invokevirtual 245, 3) := by decide +kernel
theorem dX11_readJuror_76 : decode cX11_readJuror 76 = .ok (.iastore, 1) := by decide +kernel
theorem dX11_readJuror_77 : decode cX11_readJuror 77 = .ok (.aload_n 0, 1) := by decide +kernel
theorem dX11_readJuror_78 : decode cX11_readJuror 78 = .ok (.getfield 229, 3) := by decide +kernel
theorem dX11_readJuror_81 : decode cX11_readJuror 81 = .ok (.ifCond .ne 31, 3) := by decide +kernel
theorem dX11_readJuror_84 : decode cX11_readJuror 84 = .ok (.aload_n 0, 1) := by decide +kernel
theorem dX11_readJuror_85 : decode cX11_readJuror 85 = .ok (.invokevirtual 186, 3) := by decide +kernel
theorem dX11_readJuror_88 : decode cX11_readJuror 88 = .ok (.ifCond .eq 24, 3) := by decide +kernel
theorem dX11_readJuror_91 : decode cX11_readJuror 91 = .ok (.aload_n 0, 1) := by decide +kernel
theorem dX11_readJuror_92 : decode cX11_readJuror 92 = .ok (.invokevirtual 239, 3) := by decide +kernel
theorem dX11_readJuror_95 : decode cX11_readJuror 95 = .ok (.aload_n 0, 1) := by decide +kernel
theorem dX11_readJuror_96 : decode cX11_readJuror 96 = .ok (.getfield 35, 3) := by decide +kernel
theorem dX11_readJuror_99 : decode cX11_readJuror 99 = .ok (.sipush 1932, 3) := by decide +kernel
theorem dX11_readJuror_102 : decode cX11_readJuror 102 = .ok (.iload_n 1, 1) := by decide +kernel
theorem dX11_readJuror_103 : decode cX11_readJuror 103 = .ok (.iadd, 1) := by decide +kernel
theorem dX11_readJuror_104 : decode cX11_readJuror 104 = .ok (.aload_n 0, 1) := by decide +kernel
theorem dX11_readJuror_105 : decode cX11_readJuror 105 = .ok (.iconst 0, 1) := by decide +kernel
theorem dX11_readJuror_106 : decode cX11_readJuror 106 = .ok (.bipush 99, 2) := by decide +kernel
theorem dX11_readJuror_108 : decode cX11_readJuror 108 = .ok (.invokevirtual 245, 3) := by decide +kernel
theorem dX11_readJuror_111 : decode cX11_readJuror 111 = .ok (.iastore, 1) := by decide +kernel
theorem dX11_readJuror_112 : decode cX11_readJuror 112 = .ok (.aload_n 0, 1) := by decide +kernel
theorem dX11_readJuror_113 : decode cX11_readJuror 113 = .ok (.getfield 229, 3) := by decide +kernel
theorem dX11_readJuror_116 : decode cX11_readJuror 116 = .ok (.ifCond .le 4, 3) := by decide +kernel
theorem dX11_readJuror_119 : decode cX11_readJuror 119 = .ok (.return_, 1) := by decide +kernel
theorem dX11_readJuror_120 : decode cX11_readJuror 120 = .ok (.aload_n 0, 1) := by decide +kernel
theorem dX11_readJuror_121 : decode cX11_readJuror 121 = .ok (.getfield 35, 3) := by decide +kernel
theorem dX11_readJuror_124 : decode cX11_readJuror 124 = .ok (.sipush 1942, 3) := by decide +kernel
theorem dX11_readJuror_127 : decode cX11_readJuror 127 = .ok (.iload_n 1, 1) := by decide +kernel
theorem dX11_readJuror_128 : decode cX11_readJuror 128 = .ok (.iadd, 1) := by decide +kernel
theorem dX11_readJuror_129 : decode cX11_readJuror 129 = .ok (.aload_n 0, 1) := by decide +kernel
theorem dX11_readJuror_130 : decode cX11_readJuror 130 = .ok (.getfield 35, 3) := by decide +kernel
theorem dX11_readJuror_133 : decode cX11_readJuror 133 = .ok (.sipush 1912, 3) := by decide +kernel
theorem dX11_readJuror_136 : decode cX11_readJuror 136 = .ok (.iload_n 1, 1) := by decide +kernel
theorem dX11_readJuror_137 : decode cX11_readJuror 137 = .ok (.iadd, 1) := by decide +kernel
theorem dX11_readJuror_138 : decode cX11_readJuror 138 = .ok (.iaload, 1) := by decide +kernel
theorem dX11_readJuror_139 : decode cX11_readJuror 139 = .ok (.iastore, 1) := by decide +kernel
theorem dX11_readJuror_140 : decode cX11_readJuror 140 = .ok (.aload_n 0, 1) := by decide +kernel
theorem dX11_readJuror_141 : decode cX11_readJuror 141 = .ok (.getfield 35, 3) := by decide +kernel
theorem dX11_readJuror_144 : decode cX11_readJuror 144 = .ok (.sipush 1900, 3) := by decide +kernel
theorem dX11_readJuror_147 : decode cX11_readJuror 147 = .ok (.dup2, 1) := by decide +kernel
theorem dX11_readJuror_148 : decode cX11_readJuror 148 = .ok (.iaload, 1) := by decide +kernel
theorem dX11_readJuror_149 : decode cX11_readJuror 149 = .ok (.iconst 1, 1) := by decide +kernel
theorem dX11_readJuror_150 : decode cX11_readJuror 150 = .ok (.iadd, 1) := by decide +kernel
theorem dX11_readJuror_151 : decode cX11_readJuror 151 = .ok (.iastore, 1) := by decide +kernel
theorem dX11_readJuror_152 : decode cX11_readJuror 152 = .ok (.return_, 1) := by decide +kernel
set_option maxRecDepth 20000 in
theorem ggX11_readSways_X11_next : GoodIn wsX11_readSways wsX11_next := goodIn_r _ [8, 9, 2, 10, 11, 12, 13, 14, 15, 16, 17, 18, 19, 20, 7, 21, 22, 23, 24, 25, 26, 27, 28, 29, 30, 31, 32, 168, 169, 170, 171, 172, 173, 174, 175, 176, 177, 178, 179, 180, 181, 182, 183, 184, 185, 186, 187, 188, 189, 190, 191, 192, 193, 194, 195, 196, 197, 198, 199, 200, 201, 202, 203, 204, 205, 206, 207, 208, 209, 210, 211, 212, 213] (by decide +kernel) (by decide +kernel)
set_option maxRecDepth 20000 in
theorem gX11_readSways_X11_next : GoodIn wsX11_readSways (wsV RX11 239 RX11 yX11_next wsX11_next) := goodIn_app (goodIn_of _ (by decide +kernel)) ggX11_readSways_X11_next
set_option maxRecDepth 20000 in
theorem ggX11_readSways_X11_readTold : GoodIn wsX11_readSways wsX11_readTold := goodIn_r _ [36, 37, 38, 39, 7, 40, 1, 2, 41, 42, 43, 44, 45, 46, 47, 48, 11, 16, 49, 50, 51, 52, 53, 54, 55, 56, 57, 58, 59, 14, 13, 60, 61, 62, 63, 12, 64, 65, 66, 67, 68, 69, 70, 71, 72, 73, 74, 75, 76, 77, 78, 79, 80, 81, 82, 83, 84, 85, 86, 87, 88, 89, 90, 91, 92, 93, 94, 95, 96, 97, 98, 99, 100, 101, 102, 103, 104, 105, 106, 107, 108, 109, 110, 111, 112, 113, 114, 115, 116, 117, 118, 119, 120, 121, 122, 123, 124, 125, 126, 127, 128, 129, 130, 131, 132, 133, 134, 135, 136, 137, 138, 139, 140, 141, 142, 143, 144, 145, 146, 147, 148, 149, 150, 151, 152, 3, 153, 154, 155, 156, 157, 158, 159, 160, 4, 5, 6, 8, 9, 10, 15, 17, 18, 19, 20, 21, 22, 23, 24, 25, 26, 27, 28, 29, 30, 31, 32, 168, 169, 170, 171, 172, 173, 174, 175, 176, 177, 178, 179, 180, 181, 182, 183, 184, 185, 186, 187, 188, 189, 190, 191, 192, 193, 194, 195, 196, 197, 198, 199, 200, 201, 202, 203, 204, 205, 206, 207, 208, 209, 210, 211, 212, 213] (by decide +kernel) (by decide +kernel)
set_option maxRecDepth 20000 in
theorem gX11_readSways_X11_readTold : GoodIn wsX11_readSways (wsV RX11 280 RX11 yX11_readTold wsX11_readTold) := goodIn_app (goodIn_of _ (by decide +kernel)) ggX11_readSways_X11_readTold
set_option maxRecDepth 20000 in
theorem ggX11_readSways_X11_told : GoodIn wsX11_readSways wsX11_told := goodIn_r _ [40, 1, 2, 41, 42, 43, 44, 45, 46, 47, 7, 48, 11, 16, 49, 50, 51, 52, 53, 54, 55, 56, 57, 58, 59, 14, 13, 60, 61, 62, 63, 12, 64, 65, 66, 67, 68, 69, 70, 71, 72, 73, 74, 75, 76, 77, 78, 79, 80, 81, 82, 83, 84, 85, 86, 87, 88, 89, 90, 91, 92, 93, 94, 95, 96, 97, 98, 99, 100, 101, 102, 103, 104, 105, 106, 107, 108, 109, 110, 111, 112, 113, 114, 115, 116, 117, 118, 119, 120, 121, 122, 123, 124, 125, 126, 127, 128, 129, 130, 131, 132, 133, 134, 135, 136, 137, 138, 139, 140, 141, 142, 143, 144, 145, 146, 147, 148, 149, 150, 151, 152, 3, 153, 154, 155, 156, 168, 169, 170, 171, 172, 173, 174, 175, 176, 177, 178, 179, 180, 181, 182, 183, 184, 185, 186, 187, 188, 189, 190, 191, 192, 193, 194, 195, 196, 197, 198, 199, 200, 201, 202, 203, 204, 205, 206, 207, 208, 209, 210, 211, 212, 213] (by decide +kernel) (by decide +kernel)
set_option maxRecDepth 20000 in
theorem gX11_readSways_X11_told : GoodIn wsX11_readSways (wsV RX11 267 RX11 yX11_told wsX11_told) := goodIn_app (goodIn_of _ (by decide +kernel)) ggX11_readSways_X11_told
set_option maxRecDepth 20000 in
theorem ggX11_readSways_X11_fail : GoodIn wsX11_readSways wsX11_fail := goodIn_r _ [147, 1, 148, 168, 169, 170, 171, 172, 173, 174, 175, 176, 177, 178, 179, 180, 181, 182, 183, 184, 185, 186, 187, 188, 189, 190, 191, 192, 193, 194, 195, 196, 197, 198, 199, 200, 201, 202, 203, 204, 205, 206, 207, 208, 209, 210, 211, 212, 213] (by decide +kernel) (by decide +kernel)
set_option maxRecDepth 20000 in
theorem gX11_readSways_X11_fail : GoodIn wsX11_readSways (wsV RX11 235 RX11 yX11_fail wsX11_fail) := goodIn_app (goodIn_of _ (by decide +kernel)) ggX11_readSways_X11_fail
set_option maxRecDepth 20000 in
theorem ggX11_readSways_X11_must : GoodIn wsX11_readSways wsX11_must := goodIn_r _ [160, 1, 4, 5, 6, 7, 8, 9, 2, 10, 11, 12, 13, 14, 15, 16, 17, 18, 19, 20, 21, 22, 23, 24, 25, 26, 27, 28, 29, 30, 31, 32, 140, 141, 142, 143, 144, 145, 146, 147, 148, 168, 169, 170, 171, 172, 173, 174, 175, 176, 177, 178, 179, 180, 181, 182, 183, 184, 185, 186, 187, 188, 189, 190, 191, 192, 193, 194, 195, 196, 197, 198, 199, 200, 201, 202, 203, 204, 205, 206, 207, 208, 209, 210, 211, 212, 213] (by decide +kernel) (by decide +kernel)
set_option maxRecDepth 20000 in
theorem gX11_readSways_X11_must : GoodIn wsX11_readSways (wsV RX11 270 RX11 yX11_must wsX11_must) := goodIn_app (goodIn_of _ (by decide +kernel)) ggX11_readSways_X11_must
set_option maxRecDepth 20000 in
theorem ggX11_readSways_X11_count : GoodIn wsX11_readSways wsX11_count := goodIn_r _ [164, 1, 11, 17, 2, 140, 141, 142, 7, 143, 144, 145, 146, 147, 148, 165, 166, 167, 4, 5, 6, 8, 9, 10, 12, 13, 14, 15, 16, 18, 19, 20, 21, 22, 23, 24, 25, 26, 27, 28, 29, 30, 31, 32, 168, 169, 170, 171, 172, 173, 174, 175, 176, 177, 178, 179, 180, 181, 182, 183, 184, 185, 186, 187, 188, 189, 190, 191, 192, 193, 194, 195, 196, 197, 198, 199, 200, 201, 202, 203, 204, 205, 206, 207, 208, 209, 210, 211, 212, 213] (by decide +kernel) (by decide +kernel)
set_option maxRecDepth 20000 in
theorem gX11_readSways_X11_count : GoodIn wsX11_readSways (wsV RX11 245 RX11 yX11_count wsX11_count) := goodIn_app (goodIn_of _ (by decide +kernel)) ggX11_readSways_X11_count
theorem dX11_readSways_0 : decode cX11_readSways 0 = .ok (.aload_n 0, 1) := by decide +kernel
theorem dX11_readSways_1 : decode cX11_readSways 1 = .ok (.invokevirtual 239, 3) := by decide +kernel
theorem dX11_readSways_4 : decode cX11_readSways 4 = .ok (.aload_n 0, 1) := by decide +kernel
theorem dX11_readSways_5 : decode cX11_readSways 5 = .ok (.iconst 4, 1) := by decide +kernel
theorem dX11_readSways_6 : decode cX11_readSways 6 = .ok (.iconst 0, 1) := by decide +kernel
theorem dX11_readSways_7 : decode cX11_readSways 7 = .ok (.invokevirtual 280, 3) := by decide +kernel
theorem dX11_readSways_10 : decode cX11_readSways 10 = .ok (.istore_n 1, 1) := by decide +kernel
theorem dX11_readSways_11 : decode cX11_readSways 11 = .ok (.aload_n 0, 1) := by decide +kernel
theorem dX11_readSways_12 : decode cX11_readSways 12 = .ok (.iconst 4, 1) := by decide +kernel
theorem dX11_readSways_13 : decode cX11_readSways 13 = .ok (.iconst 0, 1) := by decide +kernel
theorem dX11_readSways_14 : decode cX11_readSways 14 = .ok (.invokevirtual 267, 3) := by decide +kernel
theorem dX11_readSways_17 : decode cX11_readSways 17 = .ok (.istore_n 2, 1) := by decide +kernel
theorem dX11_readSways_18 : decode cX11_readSways 18 = .ok (.aload_n 0, 1) := by decide +kernel
theorem dX11_readSways_19 : decode cX11_readSways 19 = .ok (.getfield 229, 3) := by decide +kernel
theorem dX11_readSways_22 : decode cX11_readSways 22 = .ok (.ifCond .ne 17, 3) := by decide +kernel
theorem dX11_readSways_25 : decode cX11_readSways 25 = .ok (.iload_n 1, 1) := by decide +kernel
theorem dX11_readSways_26 : decode cX11_readSways 26 = .ok (.iload_n 2, 1) := by decide +kernel
theorem dX11_readSways_27 : decode cX11_readSways 27 = .ok (.if_icmp .ne 12, 3) := by decide +kernel
theorem dX11_readSways_30 : decode cX11_readSways 30 = .ok (.aload_n 0, 1) := by decide +kernel
theorem dX11_readSways_31 : decode cX11_readSways 31 = .ok (.iconst 5, 1) := by decide +kernel
theorem dX11_readSways_32 : decode cX11_readSways 32 = .ok (.aload_n 0, 1) := by decide +kernel
theorem dX11_readSways_33 : decode cX11_readSways 33 = .ok (.getfield 120, 3) := by decide +kernel
theorem dX11_readSways_36 : decode cX11_readSways 36 = .ok (.invokevirtual 235, 3) := by decide +kernel
theorem dX11_readSways_39 : decode cX11_readSways 39 = .ok (.aload_n 0, 1) := by decide +kernel
theorem dX11_readSways_40 : decode cX11_readSways 40 = .ok (.iconst 1, 1) := by decide +kernel
theorem dX11_readSways_41 : decode cX11_readSways 41 = .ok (.invokevirtual 270, 3) := by decide +kernel
theorem dX11_readSways_44 : decode cX11_readSways 44 = .ok (.aload_n 0, 1) := by decide +kernel
theorem dX11_readSways_45 : decode cX11_readSways 45 = .ok (.iconst 0, 1) := by decide +kernel
theorem dX11_readSways_46 : decode cX11_readSways 46 = .ok (.bipush 20, 2) := by decide +kernel
theorem dX11_readSways_48 : decode cX11_readSways 48 = .ok (.invokevirtual 245, 3) := by decide +kernel
theorem dX11_readSways_51 : decode cX11_readSways 51 = .ok (.istore_n 3, 1) := by decide +kernel
theorem dX11_readSways_52 : decode cX11_readSways 52 = .ok (.aload_n 0, 1) := by decide +kernel
theorem dX11_readSways_53 : decode cX11_readSways 53 = .ok (.getfield 229, 3) := by decide +kernel
theorem dX11_readSways_56 : decode cX11_readSways 56 = .ok (.ifCond .ne 19, 3) := by decide +kernel
theorem dX11_readSways_59 : decode cX11_readSways 59 = .ok (.aload_n 0, 1) := by decide +kernel
theorem dX11_readSways_60 : decode cX11_readSways 60 = .ok (.getfield 35, 3) := by decide +kernel
theorem dX11_readSways_63 : decode cX11_readSways 63 = .ok (.sipush 1952, 3) := by decide +kernel
theorem dX11_readSways_66 : decode cX11_readSways 66 = .ok (.bipush 10, 2) := by decide +kernel
theorem dX11_readSways_68 : decode cX11_readSways 68 = .ok (.iload_n 1, 1) := by decide +kernel
theorem dX11_readSways_69 : decode cX11_readSways 69 = .ok (.imul, 1) := by decide +kernel
theorem dX11_readSways_70 : decode cX11_readSways 70 = .ok (.iadd, 1) := by decide +kernel
theorem dX11_readSways_71 : decode cX11_readSways 71 = .ok (.iload_n 2, 1) := by decide +kernel
theorem dX11_readSways_72 : decode cX11_readSways 72 = .ok (.iadd, 1) := by decide +kernel
theorem dX11_readSways_73 : decode cX11_readSways 73 = .ok (.iload_n 3, 1) := by decide +kernel
theorem dX11_readSways_74 : decode cX11_readSways 74 = .ok (.iastore, 1) := by decide +kernel
theorem dX11_readSways_75 : decode cX11_readSways 75 = .ok (.return_, 1) := by decide +kernel
set_option maxRecDepth 20000 in
theorem ggX11_readProof_X11_readNew : GoodIn wsX11_readProof wsX11_readNew := goodIn_r _ [7, 1, 8, 2, 9, 10, 11, 12, 13, 6, 14, 15, 16, 17, 18, 19, 20, 21, 22, 23, 24, 25, 26, 27, 28, 29, 30, 31, 32, 33, 34, 35, 36, 37, 38, 39, 40, 41, 42, 43, 44, 45, 46, 47, 48, 49, 50, 51, 52, 53, 54, 55, 56, 57, 58, 59, 60, 61, 62, 63, 64, 65, 66, 67, 68, 69, 70, 71, 72, 73, 74, 75, 76, 77, 78, 79, 80, 81, 82, 83, 84, 85, 86, 87, 88, 89, 90, 91, 92, 93, 94, 95, 96, 97, 98, 99, 100, 101, 102, 103, 104, 105, 106, 107, 108, 109, 110, 111, 112, 113, 114, 115, 116, 117, 118, 119, 120, 121, 122, 123, 124, 125, 126, 127, 128, 129, 130, 131, 132, 133, 134, 135, 136, 137, 138, 139, 140, 141, 142, 143, 144, 145, 146, 147, 148, 160, 161, 162, 163, 164, 165, 166, 167, 168, 169, 170, 171, 172, 173, 174, 175, 176, 177, 178, 179, 180, 181, 182, 183, 184, 185, 186, 187, 188, 189, 190, 191, 192, 193, 194, 195, 196, 197, 198, 199, 200, 201, 202, 203, 204, 205] (by decide +kernel) (by decide +kernel)
set_option maxRecDepth 20000 in
theorem gX11_readProof_X11_readNew : GoodIn wsX11_readProof (wsV RX11 274 RX11 yX11_readNew wsX11_readNew) := goodIn_app (goodIn_of _ (by decide +kernel)) ggX11_readProof_X11_readNew
set_option maxRecDepth 20000 in
theorem ggX11_readProof_X11_signed : GoodIn wsX11_readProof wsX11_signed := goodIn_r _ [152, 2, 66, 67, 68, 6, 69, 55, 56, 57, 24, 23, 58, 59, 60, 61, 22, 10, 16, 17, 18, 19, 20, 8, 21, 25, 26, 27, 28, 29, 30, 31, 32, 33, 34, 35, 36, 37, 38, 39, 40, 41, 42, 153, 154, 155, 156, 138, 139, 140, 141, 11, 12, 13, 14, 15, 157, 158, 159, 160, 161, 162, 163, 164, 165, 166, 167, 168, 169, 170, 171, 172, 173, 174, 175, 176, 177, 178, 179, 180, 181, 182, 183, 184, 185, 186, 187, 188, 189, 190, 191, 192, 193, 194, 195, 196, 197, 198, 199, 200, 201, 202, 203, 204, 205] (by decide +kernel) (by decide +kernel)
set_option maxRecDepth 20000 in
theorem gX11_readProof_X11_signed : GoodIn wsX11_readProof (wsV RX11 277 RX11 yX11_signed wsX11_signed) := goodIn_app (goodIn_of _ (by decide +kernel)) ggX11_readProof_X11_signed
theorem dX11_readProof_0 : decode cX11_readProof 0 = .ok (.aload_n 0, 1) := by decide +kernel
theorem dX11_readProof_1 : decode cX11_readProof 1 = .ok (.iconst 1, 1) := by decide +kernel
theorem dX11_readProof_2 : decode cX11_readProof 2 = .ok (.bipush 6, 2) := by decide +kernel
theorem dX11_readProof_4 : decode cX11_readProof 4 = .ok (.invokevirtual 274, 3) := by decide +kernel
theorem dX11_readProof_7 : decode cX11_readProof 7 = .ok (.istore_n 1, 1) := by decide +kernel
theorem dX11_readProof_8 : decode cX11_readProof 8 = .ok (.aload_n 0, 1) := by decide +kernel
theorem dX11_readProof_9 : decode cX11_readProof 9 = .ok (.getfield 35, 3) := by decide +kernel
theorem dX11_readProof_12 : decode cX11_readProof 12 = .ok (.sipush 2052, 3) := by decide +kernel
theorem dX11_readProof_15 : decode cX11_readProof 15 = .ok (.iload_n 1, 1) := by decide +kernel
theorem dX11_readProof_16 : decode cX11_readProof 16 = .ok (.iadd, 1) := by decide +kernel
theorem dX11_readProof_17 : decode cX11_readProof 17 = .ok (.aload_n 0, 1) := by decide +kernel
theorem dX11_readProof_18 : decode cX11_readProof 18 = .ok (.bipush 99, 2) := by decide +kernel
theorem dX11_readProof_20 : decode cX11_readProof 20 = .ok (.invokevirtual 277, 3) := by decide +kernel
theorem dX11_readProof_23 : decode cX11_readProof 23 = .ok (.iastore, 1) := by decide +kernel
theorem dX11_readProof_24 : decode cX11_readProof 24 = .ok (.aload_n 0, 1) := by decide +kernel
theorem dX11_readProof_25 : decode cX11_readProof 25 = .ok (.getfield 229, 3) := by decide +kernel
theorem dX11_readProof_28 : decode cX11_readProof 28 = .ok (.ifCond .ne 15, 3) := by decide +kernel
theorem dX11_readProof_31 : decode cX11_readProof 31 = .ok (.aload_n 0, 1) := by decide +kernel
theorem dX11_readProof_32 : decode cX11_readProof 32 = .ok (.getfield 35, 3) := by decide +kernel
theorem dX11_readProof_35 : decode cX11_readProof 35 = .ok (.sipush 1901, 3) := by decide +kernel
theorem dX11_readProof_38 : decode cX11_readProof 38 = .ok (.dup2, 1) := by decide +kernel
theorem dX11_readProof_39 : decode cX11_readProof 39 = .ok (.iaload, 1) := by decide +kernel
theorem dX11_readProof_40 : decode cX11_readProof 40 = .ok (.iconst 1, 1) := by decide +kernel
theorem dX11_readProof_41 : decode cX11_readProof 41 = .ok (.iadd, 1) := by decide +kernel
theorem dX11_readProof_42 : decode cX11_readProof 42 = .ok (.iastore, 1) := by decide +kernel
theorem dX11_readProof_43 : decode cX11_readProof 43 = .ok (.return_, 1) := by decide +kernel
set_option maxRecDepth 20000 in
theorem ggX11_readWeather_X11_readNew : GoodIn wsX11_readWeather wsX11_readNew := goodIn_r _ [7, 2, 8, 1, 9, 10, 11, 12, 13, 6, 14, 15, 16, 17, 18, 19, 20, 21, 22, 23, 24, 25, 26, 27, 28, 29, 30, 31, 32, 33, 34, 35, 36, 37, 38, 39, 40, 41, 42, 43, 44, 45, 46, 47, 48, 49, 50, 51, 52, 53, 54, 55, 56, 57, 58, 59, 60, 61, 62, 63, 64, 65, 66, 67, 68, 69, 70, 71, 72, 73, 74, 75, 76, 77, 78, 79, 80, 81, 82, 83, 84, 85, 86, 87, 88, 89, 90, 91, 92, 93, 94, 95, 96, 97, 98, 99, 100, 101, 102, 103, 104, 105, 106, 107, 108, 109, 110, 111, 112, 113, 114, 115, 116, 117, 118, 119, 120, 121, 122, 123, 124, 125, 126, 127, 128, 129, 130, 131, 132, 133, 134, 135, 136, 137, 138, 139, 140, 141, 142, 143, 144, 145, 146, 147, 148, 149, 150, 151, 152, 153, 154, 155, 156, 157, 158, 159, 160, 161, 162, 163, 164, 165, 166, 167, 168, 169, 170, 171, 172, 173, 174, 175, 176, 177, 178, 179, 180, 181, 182, 183, 184, 185, 186, 187, 188, 189, 190, 191, 192, 193, 194] (by decide +kernel) (by decide +kernel)
set_option maxRecDepth 20000 in
theorem gX11_readWeather_X11_readNew : GoodIn wsX11_readWeather (wsV RX11 274 RX11 yX11_readNew wsX11_readNew) := goodIn_app (goodIn_of _ (by decide +kernel)) ggX11_readWeather_X11_readNew
theorem dX11_readWeather_0 : decode cX11_readWeather 0 = .ok (.aload_n 0, 1) := by decide +kernel
theorem dX11_readWeather_1 : decode cX11_readWeather 1 = .ok (.iconst 2, 1) := by decide +kernel
theorem dX11_readWeather_2 : decode cX11_readWeather 2 = .ok (.bipush 6, 2) := by decide +kernel
theorem dX11_readWeather_4 : decode cX11_readWeather 4 = .ok (.invokevirtual 274, 3) := by decide +kernel
theorem dX11_readWeather_7 : decode cX11_readWeather 7 = .ok (.istore_n 1, 1) := by decide +kernel
theorem dX11_readWeather_8 : decode cX11_readWeather 8 = .ok (.aload_n 0, 1) := by decide +kernel
theorem dX11_readWeather_9 : decode cX11_readWeather 9 = .ok (.getfield 229, 3) := by decide +kernel
theorem dX11_readWeather_12 : decode cX11_readWeather 12 = .ok (.ifCond .le 4, 3) := by decide +kernel
theorem dX11_readWeather_15 : decode cX11_readWeather 15 = .ok (.return_, 1) := by decide +kernel
theorem dX11_readWeather_16 : decode cX11_readWeather 16 = .ok (.aload_n 0, 1) := by decide +kernel
theorem dX11_readWeather_17 : decode cX11_readWeather 17 = .ok (.getfield 35, 3) := by decide +kernel
theorem dX11_readWeather_20 : decode cX11_readWeather 20 = .ok (.sipush 2058, 3) := by decide +kernel
theorem dX11_readWeather_23 : decode cX11_readWeather 23 = .ok (.iload_n 1, 1) := by decide +kernel
theorem dX11_readWeather_24 : decode cX11_readWeather 24 = .ok (.iadd, 1) := by decide +kernel
theorem dX11_readWeather_25 : decode cX11_readWeather 25 = .ok (.iload_n 1, 1) := by decide +kernel
theorem dX11_readWeather_26 : decode cX11_readWeather 26 = .ok (.iastore, 1) := by decide +kernel
theorem dX11_readWeather_27 : decode cX11_readWeather 27 = .ok (.aload_n 0, 1) := by decide +kernel
theorem dX11_readWeather_28 : decode cX11_readWeather 28 = .ok (.getfield 35, 3) := by decide +kernel
theorem dX11_readWeather_31 : decode cX11_readWeather 31 = .ok (.sipush 2064, 3) := by decide +kernel
theorem dX11_readWeather_34 : decode cX11_readWeather 34 = .ok (.iload_n 1, 1) := by decide +kernel
theorem dX11_readWeather_35 : decode cX11_readWeather 35 = .ok (.iadd, 1) := by decide +kernel
theorem dX11_readWeather_36 : decode cX11_readWeather 36 = .ok (.iload_n 1, 1) := by decide +kernel
theorem dX11_readWeather_37 : decode cX11_readWeather 37 = .ok (.iastore, 1) := by decide +kernel
theorem dX11_readWeather_38 : decode cX11_readWeather 38 = .ok (.aload_n 0, 1) := by decide +kernel
theorem dX11_readWeather_39 : decode cX11_readWeather 39 = .ok (.getfield 35, 3) := by decide +kernel
theorem dX11_readWeather_42 : decode cX11_readWeather 42 = .ok (.sipush 1902, 3) := by decide +kernel
theorem dX11_readWeather_45 : decode cX11_readWeather 45 = .ok (.dup2, 1) := by decide +kernel
theorem dX11_readWeather_46 : decode cX11_readWeather 46 = .ok (.iaload, 1) := by decide +kernel
theorem dX11_readWeather_47 : decode cX11_readWeather 47 = .ok (.iconst 1, 1) := by decide +kernel
theorem dX11_readWeather_48 : decode cX11_readWeather 48 = .ok (.iadd, 1) := by decide +kernel
theorem dX11_readWeather_49 : decode cX11_readWeather 49 = .ok (.iastore, 1) := by decide +kernel
theorem dX11_readWeather_50 : decode cX11_readWeather 50 = .ok (.return_, 1) := by decide +kernel
set_option maxRecDepth 20000 in
theorem ggX11_readFollows_X11_next : GoodIn wsX11_readFollows wsX11_next := goodIn_r _ [7, 8, 9, 10, 11, 12, 13, 14, 15, 16, 17, 18, 19, 20, 6, 21, 22, 23, 24, 25, 26, 27, 28, 29, 30, 31, 32, 161, 162, 163, 164, 165, 166, 167, 168, 169, 170, 171, 172, 173, 174, 175, 176, 177, 178, 179, 180, 181, 182, 183, 184, 185, 186, 187, 188, 189, 190, 191, 192, 193, 194, 195, 196, 197, 198, 199, 200, 201, 202, 203, 204, 205, 206] (by decide +kernel) (by decide +kernel)
set_option maxRecDepth 20000 in
theorem gX11_readFollows_X11_next : GoodIn wsX11_readFollows (wsV RX11 239 RX11 yX11_next wsX11_next) := goodIn_app (goodIn_of _ (by decide +kernel)) ggX11_readFollows_X11_next
set_option maxRecDepth 20000 in
theorem ggX11_readFollows_X11_readTold : GoodIn wsX11_readFollows wsX11_readTold := goodIn_r _ [36, 37, 38, 39, 6, 40, 1, 9, 41, 42, 43, 44, 45, 46, 47, 48, 11, 16, 49, 50, 51, 52, 53, 54, 55, 56, 57, 58, 59, 14, 13, 60, 61, 62, 63, 12, 64, 65, 66, 67, 68, 69, 70, 71, 72, 73, 74, 75, 76, 77, 78, 79, 80, 81, 82, 83, 84, 85, 86, 87, 88, 89, 90, 91, 92, 93, 94, 95, 96, 97, 98, 99, 100, 101, 102, 103, 104, 105, 106, 107, 108, 109, 110, 111, 112, 113, 114, 115, 116, 117, 118, 119, 120, 121, 122, 123, 124, 125, 126, 127, 128, 129, 130, 131, 132, 133, 134, 135, 136, 137, 138, 139, 140, 141, 142, 143, 144, 145, 146, 147, 148, 149, 150, 151, 152, 2, 153, 154, 155, 156, 157, 158, 159, 160, 3, 4, 5, 7, 8, 10, 15, 17, 18, 19, 20, 21, 22, 23, 24, 25, 26, 27, 28, 29, 30, 31, 32, 161, 162, 163, 164, 165, 166, 167, 168, 169, 170, 171, 172, 173, 174, 175, 176, 177, 178, 179, 180, 181, 182, 183, 184, 185, 186, 187, 188, 189, 190, 191, 192, 193, 194, 195, 196, 197, 198, 199, 200, 201, 202, 203, 204, 205, 206] (by decide +kernel) (by decide +kernel)
set_option maxRecDepth 20000 in
theorem gX11_readFollows_X11_readTold : GoodIn wsX11_readFollows (wsV RX11 280 RX11 yX11_readTold wsX11_readTold) := goodIn_app (goodIn_of _ (by decide +kernel)) ggX11_readFollows_X11_readTold
set_option maxRecDepth 20000 in
theorem ggX11_readFollows_X11_isGuilty : GoodIn wsX11_readFollows wsX11_isGuilty := goodIn_r _ [98, 57, 58, 6, 59, 14, 13, 60, 61, 62, 63, 11, 12, 161, 162, 163, 164, 165, 166, 167, 168, 169, 170, 171, 172, 173, 174, 175, 176, 177, 178, 179, 180, 181, 182, 183, 184, 185, 186, 187, 188, 189, 190, 191, 192, 193, 194, 195, 196, 197, 198, 199, 200, 201, 202, 203, 204, 205, 206] (by decide +kernel) (by decide +kernel)
set_option maxRecDepth 20000 in
theorem gX11_readFollows_X11_isGuilty : GoodIn wsX11_readFollows (wsV RX11 198 RX11 yX11_isGuilty wsX11_isGuilty) := goodIn_app (goodIn_of _ (by decide +kernel)) ggX11_readFollows_X11_isGuilty
set_option maxRecDepth 20000 in
theorem ggX11_readFollows_X11_must : GoodIn wsX11_readFollows wsX11_must := goodIn_r _ [160, 1, 3, 4, 5, 6, 7, 8, 9, 10, 11, 12, 13, 14, 15, 16, 17, 18, 19, 20, 21, 22, 23, 24, 25, 26, 27, 28, 29, 30, 31, 32, 140, 141, 142, 143, 144, 145, 146, 147, 148, 161, 162, 163, 164, 165, 166, 167, 168, 169, 170, 171, 172, 173, 174, 175, 176, 177, 178, 179, 180, 181, 182, 183, 184, 185, 186, 187, 188, 189, 190, 191, 192, 193, 194, 195, 196, 197, 198, 199, 200, 201, 202, 203, 204, 205, 206] (by decide +kernel) (by decide +kernel)
set_option maxRecDepth 20000 in
theorem gX11_readFollows_X11_must : GoodIn wsX11_readFollows (wsV RX11 270 RX11 yX11_must wsX11_must) := goodIn_app (goodIn_of _ (by decide +kernel)) ggX11_readFollows_X11_must
set_option maxRecDepth 20000 in
theorem ggX11_readFollows_X11_isFree : GoodIn wsX11_readFollows wsX11_isFree := goodIn_r _ [102, 57, 58, 6, 59, 14, 13, 60, 61, 62, 63, 11, 12, 161, 162, 163, 164, 165, 166, 167, 168, 169, 170, 171, 172, 173, 174, 175, 176, 177, 178, 179, 180, 181, 182, 183, 184, 185, 186, 187, 188, 189, 190, 191, 192, 193, 194, 195, 196, 197, 198, 199, 200, 201, 202, 203, 204, 205, 206] (by decide +kernel) (by decide +kernel)
set_option maxRecDepth 20000 in
theorem gX11_readFollows_X11_isFree : GoodIn wsX11_readFollows (wsV RX11 201 RX11 yX11_isFree wsX11_isFree) := goodIn_app (goodIn_of _ (by decide +kernel)) ggX11_readFollows_X11_isFree
theorem dX11_readFollows_0 : decode cX11_readFollows 0 = .ok (.aload_n 0, 1) := by decide +kernel
theorem dX11_readFollows_1 : decode cX11_readFollows 1 = .ok (.invokevirtual 239, 3) := by decide +kernel
theorem dX11_readFollows_4 : decode cX11_readFollows 4 = .ok (.aload_n 0, 1) := by decide +kernel
theorem dX11_readFollows_5 : decode cX11_readFollows 5 = .ok (.iconst 4, 1) := by decide +kernel
theorem dX11_readFollows_6 : decode cX11_readFollows 6 = .ok (.iconst 2, 1) := by decide +kernel
theorem dX11_readFollows_7 : decode cX11_readFollows 7 = .ok (.invokevirtual 280, 3) := by decide +kernel
theorem dX11_readFollows_10 : decode cX11_readFollows 10 = .ok (.istore_n 1, 1) := by decide +kernel
theorem dX11_readFollows_11 : decode cX11_readFollows 11 = .ok (.aload_n 0, 1) := by decide +kernel
theorem dX11_readFollows_12 : decode cX11_readFollows 12 = .ok (.aload_n 0, 1) := by decide +kernel
theorem dX11_readFollows_13 : decode cX11_readFollows 13 = .ok (.invokevirtual 198, 3) := by decide +kernel
theorem dX11_readFollows_16 : decode cX11_readFollows 16 = .ok (.invokevirtual 270, 3) := by decide +kernel
theorem dX11_readFollows_19 : decode cX11_readFollows 19 = .ok (.aload_n 0, 1) := by decide +kernel
theorem dX11_readFollows_20 : decode cX11_readFollows 20 = .ok (.iconst 4, 1) := by decide +kernel
theorem dX11_readFollows_21 : decode cX11_readFollows 21 = .ok (.iconst 2, 1) := by decide +kernel
theorem dX11_readFollows_22 : decode cX11_readFollows 22 = .ok (.invokevirtual 280, 3) := by decide +kernel
theorem dX11_readFollows_25 : decode cX11_readFollows 25 = .ok (.istore_n 2, 1) := by decide +kernel
theorem dX11_readFollows_26 : decode cX11_readFollows 26 = .ok (.aload_n 0, 1) := by decide +kernel
theorem dX11_readFollows_27 : decode cX11_readFollows 27 = .ok (.aload_n 0, 1) := by decide +kernel
theorem dX11_readFollows_28 : decode cX11_readFollows 28 = .ok (.invokevirtual 201, 3) := by decide +kernel
theorem dX11_readFollows_31 : decode cX11_readFollows 31 = .ok (.invokevirtual 270, 3) := by decide +kernel
theorem dX11_readFollows_34 : decode cX11_readFollows 34 = .ok (.aload_n 0, 1) := by decide +kernel
theorem dX11_readFollows_35 : decode cX11_readFollows 35 = .ok (.iconst 4, 1) := by decide +kernel
theorem dX11_readFollows_36 : decode cX11_readFollows 36 = .ok (.iconst 2, 1) := by decide +kernel
theorem dX11_readFollows_37 : decode cX11_readFollows 37 = .ok (.invokevirtual 280, 3) := by decide +kernel
theorem dX11_readFollows_40 : decode cX11_readFollows 40 = .ok (.istore_n 3, 1) := by decide +kernel
theorem dX11_readFollows_41 : decode cX11_readFollows 41 = .ok (.aload_n 0, 1) := by decide +kernel
theorem dX11_readFollows_42 : decode cX11_readFollows 42 = .ok (.getfield 229, 3) := by decide +kernel
theorem dX11_readFollows_45 : decode cX11_readFollows 45 = .ok (.ifCond .le 4, 3) := by decide +kernel
theorem dX11_readFollows_48 : decode cX11_readFollows 48 = .ok (.return_, 1) := by decide +kernel
theorem dX11_readFollows_49 : decode cX11_readFollows 49 = .ok (.aload_n 0, 1) := by decide +kernel
theorem dX11_readFollows_50 : decode cX11_readFollows 50 = .ok (.getfield 35, 3) := by decide +kernel
theorem dX11_readFollows_53 : decode cX11_readFollows 53 = .ok (.sipush 2058, 3) := by decide +kernel
theorem dX11_readFollows_56 : decode cX11_readFollows 56 = .ok (.iload_n 1, 1) := by decide +kernel
theorem dX11_readFollows_57 : decode cX11_readFollows 57 = .ok (.iadd, 1) := by decide +kernel
theorem dX11_readFollows_58 : decode cX11_readFollows 58 = .ok (.iload_n 2, 1) := by decide +kernel
theorem dX11_readFollows_59 : decode cX11_readFollows 59 = .ok (.iastore, 1) := by decide +kernel
theorem dX11_readFollows_60 : decode cX11_readFollows 60 = .ok (.aload_n 0, 1) := by decide +kernel
theorem dX11_readFollows_61 : decode cX11_readFollows 61 = .ok (.getfield 35, 3) := by decide +kernel
theorem dX11_readFollows_64 : decode cX11_readFollows 64 = .ok (.sipush 2064, 3) := by decide +kernel
theorem dX11_readFollows_67 : decode cX11_readFollows 67 = .ok (.iload_n 1, 1) := by decide +kernel
theorem dX11_readFollows_68 : decode cX11_readFollows 68 = .ok (.iadd, 1) := by decide +kernel
theorem dX11_readFollows_69 : decode cX11_readFollows 69 = .ok (.iload_n 3, 1) := by decide +kernel
theorem dX11_readFollows_70 : decode cX11_readFollows 70 = .ok (.iastore, 1) := by decide +kernel
theorem dX11_readFollows_71 : decode cX11_readFollows 71 = .ok (.return_, 1) := by decide +kernel
set_option maxRecDepth 20000 in
theorem ggX11_readCrop_X11_readNew : GoodIn wsX11_readCrop wsX11_readNew := goodIn_r _ [7, 2, 8, 1, 9, 10, 11, 12, 13, 6, 14, 15, 16, 17, 18, 19, 20, 21, 22, 23, 24, 25, 26, 27, 28, 29, 30, 31, 32, 33, 34, 35, 36, 37, 38, 39, 40, 41, 42, 43, 44, 45, 46, 47, 48, 49, 50, 51, 52, 53, 54, 55, 56, 57, 58, 59, 60, 61, 62, 63, 64, 65, 66, 67, 68, 69, 70, 71, 72, 73, 74, 75, 76, 77, 78, 79, 80, 81, 82, 83, 84, 85, 86, 87, 88, 89, 90, 91, 92, 93, 94, 95, 96, 97, 98, 99, 100, 101, 102, 103, 104, 105, 106, 107, 108, 109, 110, 111, 112, 113, 114, 115, 116, 117, 118, 119, 120, 121, 122, 123, 124, 125, 126, 127, 128, 129, 130, 131, 132, 133, 134, 135, 136, 137, 138, 139, 140, 141, 142, 143, 144, 145, 146, 147, 148, 176, 177, 178, 179, 180, 181, 182, 183, 184, 185, 186, 187, 188, 189, 190, 191, 192, 193, 194, 195, 196, 197, 198, 199, 200, 201, 202, 203, 204, 205, 206, 207, 208, 209, 210, 211, 212, 213, 214, 215, 216, 217, 218, 219, 220, 221] (by decide +kernel) (by decide +kernel)
set_option maxRecDepth 20000 in
theorem gX11_readCrop_X11_readNew : GoodIn wsX11_readCrop (wsV RX11 274 RX11 yX11_readNew wsX11_readNew) := goodIn_app (goodIn_of _ (by decide +kernel)) ggX11_readCrop_X11_readNew
set_option maxRecDepth 20000 in
theorem ggX11_readCrop_X11_isOn : GoodIn wsX11_readCrop wsX11_isOn := goodIn_r _ [104, 55, 56, 6, 57, 24, 23, 58, 59, 60, 61, 22, 10, 176, 177, 178, 179, 180, 181, 182, 183, 184, 185, 186, 187, 188, 189, 190, 191, 192, 193, 194, 195, 196, 197, 198, 199, 200, 201, 202, 203, 204, 205, 206, 207, 208, 209, 210, 211, 212, 213, 214, 215, 216, 217, 218, 219, 220, 221] (by decide +kernel) (by decide +kernel)
set_option maxRecDepth 20000 in
theorem gX11_readCrop_X11_isOn : GoodIn wsX11_readCrop (wsV RX11 204 RX11 yX11_isOn wsX11_isOn) := goodIn_app (goodIn_of _ (by decide +kernel)) ggX11_readCrop_X11_isOn
set_option maxRecDepth 20000 in
theorem ggX11_readCrop_X11_next : GoodIn wsX11_readCrop wsX11_next := goodIn_r _ [19, 20, 8, 21, 22, 10, 23, 24, 25, 26, 27, 28, 29, 30, 6, 31, 32, 33, 34, 35, 36, 37, 38, 39, 40, 41, 42, 176, 177, 178, 179, 180, 181, 182, 183, 184, 185, 186, 187, 188, 189, 190, 191, 192, 193, 194, 195, 196, 197, 198, 199, 200, 201, 202, 203, 204, 205, 206, 207, 208, 209, 210, 211, 212, 213, 214, 215, 216, 217, 218, 219, 220, 221] (by decide +kernel) (by decide +kernel)
set_option maxRecDepth 20000 in
theorem gX11_readCrop_X11_next : GoodIn wsX11_readCrop (wsV RX11 239 RX11 yX11_next wsX11_next) := goodIn_app (goodIn_of _ (by decide +kernel)) ggX11_readCrop_X11_next
set_option maxRecDepth 20000 in
theorem ggX11_readCrop_X11_readTold : GoodIn wsX11_readCrop wsX11_readTold := goodIn_r _ [152, 153, 154, 155, 6, 156, 1, 8, 157, 158, 159, 160, 43, 44, 45, 46, 22, 26, 47, 48, 49, 50, 51, 52, 53, 54, 55, 56, 57, 24, 23, 58, 59, 60, 61, 10, 62, 63, 64, 65, 66, 67, 68, 69, 70, 71, 72, 73, 74, 75, 76, 77, 78, 79, 80, 81, 82, 83, 84, 85, 86, 87, 88, 89, 90, 91, 92, 93, 94, 95, 96, 97, 98, 99, 100, 101, 102, 103, 104, 105, 106, 107, 108, 109, 110, 111, 112, 113, 114, 115, 116, 117, 118, 119, 120, 121, 122, 123, 124, 125, 126, 127, 128, 129, 130, 131, 132, 133, 134, 135, 136, 137, 138, 139, 140, 141, 11, 12, 13, 14, 15, 142, 143, 144, 145, 2, 9, 146, 147, 148, 161, 162, 163, 164, 16, 17, 18, 19, 20, 21, 25, 27, 28, 29, 30, 31, 32, 33, 34, 35, 36, 37, 38, 39, 40, 41, 42, 176, 177, 178, 179, 180, 181, 182, 183, 184, 185, 186, 187, 188, 189, 190, 191, 192, 193, 194, 195, 196, 197, 198, 199, 200, 201, 202, 203, 204, 205, 206, 207, 208, 209, 210, 211, 212, 213, 214, 215, 216, 217, 218, 219, 220, 221] (by decide +kernel) (by decide +kernel)
set_option maxRecDepth 20000 in
theorem gX11_readCrop_X11_readTold : GoodIn wsX11_readCrop (wsV RX11 280 RX11 yX11_readTold wsX11_readTold) := goodIn_app (goodIn_of _ (by decide +kernel)) ggX11_readCrop_X11_readTold
set_option maxRecDepth 20000 in
theorem ggX11_readCrop_X11_signed : GoodIn wsX11_readCrop wsX11_signed := goodIn_r _ [168, 1, 66, 67, 68, 6, 69, 55, 56, 57, 24, 23, 58, 59, 60, 61, 22, 10, 16, 17, 18, 19, 20, 8, 21, 25, 26, 27, 28, 29, 30, 31, 32, 33, 34, 35, 36, 37, 38, 39, 40, 41, 42, 169, 170, 171, 172, 138, 139, 140, 141, 11, 12, 13, 14, 15, 173, 174, 175, 176, 177, 178, 179, 180, 181, 182, 183, 184, 185, 186, 187, 188, 189, 190, 191, 192, 193, 194, 195, 196, 197, 198, 199, 200, 201, 202, 203, 204, 205, 206, 207, 208, 209, 210, 211, 212, 213, 214, 215, 216, 217, 218, 219, 220, 221] (by decide +kernel) (by decide +kernel)
set_option maxRecDepth 20000 in
theorem gX11_readCrop_X11_signed : GoodIn wsX11_readCrop (wsV RX11 277 RX11 yX11_signed wsX11_signed) := goodIn_app (goodIn_of _ (by decide +kernel)) ggX11_readCrop_X11_signed
theorem dX11_readCrop_0 : decode cX11_readCrop 0 = .ok (.aload_n 0, 1) := by decide +kernel
theorem dX11_readCrop_1 : decode cX11_readCrop 1 = .ok (.iconst 3, 1) := by decide +kernel
theorem dX11_readCrop_2 : decode cX11_readCrop 2 = .ok (.iconst 4, 1) := by decide +kernel
theorem dX11_readCrop_3 : decode cX11_readCrop 3 = .ok (.invokevirtual 274, 3) := by decide +kernel
theorem dX11_readCrop_6 : decode cX11_readCrop 6 = .ok (.istore_n 1, 1) := by decide +kernel
theorem dX11_readCrop_7 : decode cX11_readCrop 7 = .ok (.aload_n 0, 1) := by decide +kernel
theorem dX11_readCrop_8 : decode cX11_readCrop 8 = .ok (.getfield 229, 3) := by decide +kernel
theorem dX11_readCrop_11 : decode cX11_readCrop 11 = .ok (.ifCond .ne 54, 3) := by decide +kernel
theorem dX11_readCrop_14 : decode cX11_readCrop 14 = .ok (.aload_n 0, 1) := by decide +kernel
theorem dX11_readCrop_15 : decode cX11_readCrop 15 = .ok (.invokevirtual 204, 3) := by decide +kernel
theorem dX11_readCrop_18 : decode cX11_readCrop 18 = .ok (.ifCond .eq 47, 3) := by decide +kernel
theorem dX11_readCrop_21 : decode cX11_readCrop 21 = .ok (.aload_n 0, 1) := by decide +kernel
theorem dX11_readCrop_22 : decode cX11_readCrop 22 = .ok (.invokevirtual 239, 3) := by decide +kernel
theorem dX11_readCrop_25 : decode cX11_readCrop 25 = .ok (.aload_n 0, 1) := by decide +kernel
theorem dX11_readCrop_26 : decode cX11_readCrop 26 = .ok (.iconst 4, 1) := by decide +kernel
theorem dX11_readCrop_27 : decode cX11_readCrop 27 = .ok (.iconst 2, 1) := by decide +kernel
theorem dX11_readCrop_28 : decode cX11_readCrop 28 = .ok (.invokevirtual 280, 3) := by decide +kernel
theorem dX11_readCrop_31 : decode cX11_readCrop 31 = .ok (.istore_n 2, 1) := by decide +kernel
theorem dX11_readCrop_32 : decode cX11_readCrop 32 = .ok (.aload_n 0, 1) := by decide +kernel
theorem dX11_readCrop_33 : decode cX11_readCrop 33 = .ok (.bipush 99, 2) := by decide +kernel
theorem dX11_readCrop_35 : decode cX11_readCrop 35 = .ok (.invokevirtual 277, 3) := by decide +kernel
theorem dX11_readCrop_38 : decode cX11_readCrop 38 = .ok (.istore_n 3, 1) := by decide +kernel
theorem dX11_readCrop_39 : decode cX11_readCrop 39 = .ok (.aload_n 0, 1) := by decide +kernel
theorem dX11_readCrop_40 : decode cX11_readCrop 40 = .ok (.getfield 229, 3) := by decide +kernel
theorem dX11_readCrop_43 : decode cX11_readCrop 43 = .ok (.ifCond .ne 19, 3) := by decide +kernel
theorem dX11_readCrop_46 : decode cX11_readCrop 46 = .ok (.aload_n 0, 1) := by decide +kernel
theorem dX11_readCrop_47 : decode cX11_readCrop 47 = .ok (.getfield 35, 3) := by decide +kernel
theorem dX11_readCrop_50 : decode cX11_readCrop 50 = .ok (.sipush 2070, 3) := by decide +kernel
theorem dX11_readCrop_53 : decode cX11_readCrop 53 = .ok (.bipush 6, 2) := by decide +kernel
theorem dX11_readCrop_55 : decode cX11_readCrop 55 = .ok (.iload_n 1, 1) := by decide +kernel
theorem dX11_readCrop_56 : decode cX11_readCrop 56 = .ok (.imul, 1) := by decide +kernel
theorem dX11_readCrop_57 : decode cX11_readCrop 57 = .ok (.iadd, 1) := by decide +kernel
theorem dX11_readCrop_58 : decode cX11_readCrop 58 = .ok (.iload_n 2, 1) := by decide +kernel
theorem dX11_readCrop_59 : decode cX11_readCrop 59 = .ok (.iadd, 1) := by decide +kernel
theorem dX11_readCrop_60 : decode cX11_readCrop 60 = .ok (.iload_n 3, 1) := by decide +kernel
theorem dX11_readCrop_61 : decode cX11_readCrop 61 = .ok (.iastore, 1) := by decide +kernel
theorem dX11_readCrop_62 : decode cX11_readCrop 62 = .ok (.goto (-55), 3) := by decide +kernel
theorem dX11_readCrop_65 : decode cX11_readCrop 65 = .ok (.aload_n 0, 1) := by decide +kernel
theorem dX11_readCrop_66 : decode cX11_readCrop 66 = .ok (.getfield 229, 3) := by decide +kernel
theorem dX11_readCrop_69 : decode cX11_readCrop 69 = .ok (.ifCond .ne 15, 3) := by decide +kernel
theorem dX11_readCrop_72 : decode cX11_readCrop 72 = .ok (.aload_n 0, 1) := by decide +kernel
theorem dX11_readCrop_73 : decode cX11_readCrop 73 = .ok (.getfield 35, 3) := by decide +kernel
theorem dX11_readCrop_76 : decode cX11_readCrop 76 = .ok (.sipush 1903, 3) := by decide +kernel
theorem dX11_readCrop_79 : decode cX11_readCrop 79 = .ok (.dup2, 1) := by decide +kernel
theorem dX11_readCrop_80 : decode cX11_readCrop 80 = .ok (.iaload, 1) := by decide +kernel
theorem dX11_readCrop_81 : decode cX11_readCrop 81 = .ok (.iconst 1, 1) := by decide +kernel
theorem dX11_readCrop_82 : decode cX11_readCrop 82 = .ok (.iadd, 1) := by decide +kernel
theorem dX11_readCrop_83 : decode cX11_readCrop 83 = .ok (.iastore, 1) := by decide +kernel
theorem dX11_readCrop_84 : decode cX11_readCrop 84 = .ok (.return_, 1) := by decide +kernel
set_option maxRecDepth 20000 in
theorem ggX11_readHunger_X11_fail : GoodIn wsX11_readHunger wsX11_fail := goodIn_r _ [8, 3, 9, 49, 50, 51, 52, 53, 54, 55, 56, 57, 58, 59, 60, 61, 62, 63, 64, 65, 66, 67, 68, 69, 70, 71, 72, 73, 74, 75, 76, 77, 78, 79, 80, 81, 82, 83, 84, 85, 86, 87, 88, 89, 90, 91, 92, 93, 94] (by decide +kernel) (by decide +kernel)
set_option maxRecDepth 20000 in
theorem gX11_readHunger_X11_fail : GoodIn wsX11_readHunger (wsV RX11 235 RX11 yX11_fail wsX11_fail) := goodIn_app (goodIn_of _ (by decide +kernel)) ggX11_readHunger_X11_fail
set_option maxRecDepth 20000 in
theorem ggX11_readHunger_X11_next : GoodIn wsX11_readHunger wsX11_next := goodIn_r _ [13, 14, 2, 15, 16, 17, 18, 19, 20, 21, 22, 23, 24, 25, 7, 26, 27, 28, 29, 30, 31, 32, 33, 34, 35, 36, 37, 49, 50, 51, 52, 53, 54, 55, 56, 57, 58, 59, 60, 61, 62, 63, 64, 65, 66, 67, 68, 69, 70, 71, 72, 73, 74, 75, 76, 77, 78, 79, 80, 81, 82, 83, 84, 85, 86, 87, 88, 89, 90, 91, 92, 93, 94] (by decide +kernel) (by decide +kernel)
set_option maxRecDepth 20000 in
theorem gX11_readHunger_X11_next : GoodIn wsX11_readHunger (wsV RX11 239 RX11 yX11_next wsX11_next) := goodIn_app (goodIn_of _ (by decide +kernel)) ggX11_readHunger_X11_next
set_option maxRecDepth 20000 in
theorem ggX11_readHunger_X11_count : GoodIn wsX11_readHunger wsX11_count := goodIn_r _ [41, 3, 16, 22, 2, 42, 43, 44, 7, 45, 4, 5, 6, 8, 9, 46, 47, 48, 10, 11, 12, 13, 14, 15, 17, 18, 19, 20, 21, 23, 24, 25, 26, 27, 28, 29, 30, 31, 32, 33, 34, 35, 36, 37, 49, 50, 51, 52, 53, 54, 55, 56, 57, 58, 59, 60, 61, 62, 63, 64, 65, 66, 67, 68, 69, 70, 71, 72, 73, 74, 75, 76, 77, 78, 79, 80, 81, 82, 83, 84, 85, 86, 87, 88, 89, 90, 91, 92, 93, 94] (by decide +kernel) (by decide +kernel)
set_option maxRecDepth 20000 in
theorem gX11_readHunger_X11_count : GoodIn wsX11_readHunger (wsV RX11 245 RX11 yX11_count wsX11_count) := goodIn_app (goodIn_of _ (by decide +kernel)) ggX11_readHunger_X11_count
theorem dX11_readHunger_0 : decode cX11_readHunger 0 = .ok (.aload_n 0, 1) := by decide +kernel
theorem dX11_readHunger_1 : decode cX11_readHunger 1 = .ok (.getfield 35, 3) := by decide +kernel
theorem dX11_readHunger_4 : decode cX11_readHunger 4 = .ok (.sipush 1904, 3) := by decide +kernel
theorem dX11_readHunger_7 : decode cX11_readHunger 7 = .ok (.iaload, 1) := by decide +kernel
theorem dX11_readHunger_8 : decode cX11_readHunger 8 = .ok (.ifCond .le 12, 3) := by decide +kernel
theorem dX11_readHunger_11 : decode cX11_readHunger 11 = .ok (.aload_n 0, 1) := by decide +kernel
theorem dX11_readHunger_12 : decode cX11_readHunger 12 = .ok (.iconst 5, 1) := by decide +kernel
theorem dX11_readHunger_13 : decode cX11_readHunger 13 = .ok (.aload_n 0, 1) := by decide +kernel
theorem dX11_readHunger_14 : decode cX11_readHunger 14 = .ok (.getfield 120, 3) := by decide +kernel
theorem dX11_readHunger_17 : decode cX11_readHunger 17 = .ok (.invokevirtual 235, 3) := by decide +kernel
theorem dX11_readHunger_20 : decode cX11_readHunger 20 = .ok (.aload_n 0, 1) := by decide +kernel
theorem dX11_readHunger_21 : decode cX11_readHunger 21 = .ok (.getfield 229, 3) := by decide +kernel
theorem dX11_readHunger_24 : decode cX11_readHunger 24 = .ok (.ifCond .le 4, 3) := by decide +kernel
theorem dX11_readHunger_27 : decode cX11_readHunger 27 = .ok (.return_, 1) := by decide +kernel
theorem dX11_readHunger_28 : decode cX11_readHunger 28 = .ok (.aload_n 0, 1) := by decide +kernel
theorem dX11_readHunger_29 : decode cX11_readHunger 29 = .ok (.invokevirtual 239, 3) := by decide +kernel
theorem dX11_readHunger_32 : decode cX11_readHunger 32 = .ok (.aload_n 0, 1) := by decide +kernel
theorem dX11_readHunger_33 : decode cX11_readHunger 33 = .ok (.getfield 35, 3) := by decide +kernel
theorem dX11_readHunger_36 : decode cX11_readHunger 36 = .ok (.sipush 1904, 3) := by decide +kernel
theorem dX11_readHunger_39 : decode cX11_readHunger 39 = .ok (.aload_n 0, 1) := by decide +kernel
theorem dX11_readHunger_40 : decode cX11_readHunger 40 = .ok (.iconst 1, 1) := by decide +kernel
theorem dX11_readHunger_41 : decode cX11_readHunger 41 = .ok (.bipush 99, 2) := by decide +kernel
theorem dX11_readHunger_43 : decode cX11_readHunger 43 = .ok (.invokevirtual 245, 3) := by decide +kernel
theorem dX11_readHunger_46 : decode cX11_readHunger 46 = .ok (.iastore, 1) := by decide +kernel
theorem dX11_readHunger_47 : decode cX11_readHunger 47 = .ok (.return_, 1) := by decide +kernel
set_option maxRecDepth 20000 in
theorem ggX11_readLaw_X11_fail : GoodIn wsX11_readLaw wsX11_fail := goodIn_r _ [13, 3, 14, 62, 63, 64, 65, 66, 67, 68, 69, 70, 71, 72, 73, 74, 75, 76, 77, 78, 79, 80, 81, 82, 83, 84, 85, 86, 87, 88, 89, 90, 91, 92, 93, 94, 95, 96, 97, 98, 99, 100, 101, 102, 103, 104, 105, 106, 107] (by decide +kernel) (by decide +kernel)
set_option maxRecDepth 20000 in
theorem gX11_readLaw_X11_fail : GoodIn wsX11_readLaw (wsV RX11 235 RX11 yX11_fail wsX11_fail) := goodIn_app (goodIn_of _ (by decide +kernel)) ggX11_readLaw_X11_fail
set_option maxRecDepth 20000 in
theorem ggX11_readLaw_X11_next : GoodIn wsX11_readLaw wsX11_next := goodIn_r _ [18, 19, 2, 20, 21, 22, 23, 24, 25, 26, 27, 28, 29, 30, 12, 31, 32, 33, 34, 35, 36, 37, 38, 39, 40, 41, 42, 62, 63, 64, 65, 66, 67, 68, 69, 70, 71, 72, 73, 74, 75, 76, 77, 78, 79, 80, 81, 82, 83, 84, 85, 86, 87, 88, 89, 90, 91, 92, 93, 94, 95, 96, 97, 98, 99, 100, 101, 102, 103, 104, 105, 106, 107] (by decide +kernel) (by decide +kernel)
set_option maxRecDepth 20000 in
theorem gX11_readLaw_X11_next : GoodIn wsX11_readLaw (wsV RX11 239 RX11 yX11_next wsX11_next) := goodIn_app (goodIn_of _ (by decide +kernel)) ggX11_readLaw_X11_next
set_option maxRecDepth 20000 in
theorem ggX11_readLaw_X11_lawWord : GoodIn wsX11_readLaw wsX11_lawWord := goodIn_r _ [46, 47, 48, 12, 49, 24, 23, 50, 51, 52, 53, 21, 22, 62, 63, 64, 65, 66, 67, 68, 69, 70, 71, 72, 73, 74, 75, 76, 77, 78, 79, 80, 81, 82, 83, 84, 85, 86, 87, 88, 89, 90, 91, 92, 93, 94, 95, 96, 97, 98, 99, 100, 101, 102, 103, 104, 105, 106, 107] (by decide +kernel) (by decide +kernel)
set_option maxRecDepth 20000 in
theorem gX11_readLaw_X11_lawWord : GoodIn wsX11_readLaw (wsV RX11 213 RX11 yX11_lawWord wsX11_lawWord) := goodIn_app (goodIn_of _ (by decide +kernel)) ggX11_readLaw_X11_lawWord
set_option maxRecDepth 20000 in
theorem ggX11_readLaw_X11_must : GoodIn wsX11_readLaw wsX11_must := goodIn_r _ [57, 3, 15, 16, 17, 12, 18, 19, 2, 20, 21, 22, 23, 24, 25, 26, 27, 28, 29, 30, 31, 32, 33, 34, 35, 36, 37, 38, 39, 40, 41, 42, 58, 59, 60, 61, 9, 10, 11, 13, 14, 62, 63, 64, 65, 66, 67, 68, 69, 70, 71, 72, 73, 74, 75, 76, 77, 78, 79, 80, 81, 82, 83, 84, 85, 86, 87, 88, 89, 90, 91, 92, 93, 94, 95, 96, 97, 98, 99, 100, 101, 102, 103, 104, 105, 106, 107] (by decide +kernel) (by decide +kernel)
set_option maxRecDepth 20000 in
theorem gX11_readLaw_X11_must : GoodIn wsX11_readLaw (wsV RX11 270 RX11 yX11_must wsX11_must) := goodIn_app (goodIn_of _ (by decide +kernel)) ggX11_readLaw_X11_must
theorem dX11_readLaw_0 : decode cX11_readLaw 0 = .ok (.aload_n 0, 1) := by decide +kernel
theorem dX11_readLaw_1 : decode cX11_readLaw 1 = .ok (.getfield 283, 3) := by decide +kernel
theorem dX11_readLaw_4 : decode cX11_readLaw 4 = .ok (.ifCond .eq 12, 3) := by decide +kernel
theorem dX11_readLaw_7 : decode cX11_readLaw 7 = .ok (.aload_n 0, 1) := by decide +kernel
theorem dX11_readLaw_8 : decode cX11_readLaw 8 = .ok (.iconst 5, 1) := by decide +kernel
theorem dX11_readLaw_9 : decode cX11_readLaw 9 = .ok (.aload_n 0, 1) := by decide +kernel
theorem dX11_readLaw_10 : decode cX11_readLaw 10 = .ok (.getfield 120, 3) := by decide +kernel
theorem dX11_readLaw_13 : decode cX11_readLaw 13 = .ok (.invokevirtual 235, 3) := by decide +kernel
theorem dX11_readLaw_16 : decode cX11_readLaw 16 = .ok (.aload_n 0, 1) := by decide +kernel
theorem dX11_readLaw_17 : decode cX11_readLaw 17 = .ok (.getfield 229, 3) := by decide +kernel
theorem dX11_readLaw_20 : decode cX11_readLaw 20 = .ok (.ifCond .le 4, 3) := by decide +kernel
theorem dX11_readLaw_23 : decode cX11_readLaw 23 = .ok (.return_, 1) := by decide +kernel
theorem dX11_readLaw_24 : decode cX11_readLaw 24 = .ok (.aload_n 0, 1) := by decide +kernel
theorem dX11_readLaw_25 : decode cX11_readLaw 25 = .ok (.iconst 1, 1) := by decide +kernel
theorem dX11_readLaw_26 : decode cX11_readLaw 26 = .ok (.putfield 283, 3) := by decide +kernel
theorem dX11_readLaw_29 : decode cX11_readLaw 29 = .ok (.aload_n 0, 1) := by decide +kernel
theorem dX11_readLaw_30 : decode cX11_readLaw 30 = .ok (.invokevirtual 239, 3) := by decide +kernel
theorem dX11_readLaw_33 : decode cX11_readLaw 33 = .ok (.aload_n 0, 1) := by decide +kernel
theorem dX11_readLaw_34 : decode cX11_readLaw 34 = .ok (.getfield 35, 3) := by decide +kernel
theorem dX11_readLaw_37 : decode cX11_readLaw 37 = .ok (.sipush 1905, 3) := by decide +kernel
theorem dX11_readLaw_40 : decode cX11_readLaw 40 = .ok (.iconst 0, 1) := by decide +kernel
theorem dX11_readLaw_41 : decode cX11_readLaw 41 = .ok (.aload_n 0, 1) := by decide +kernel
theorem dX11_readLaw_42 : decode cX11_readLaw 42 = .ok (.invokevirtual 213, 3) := by decide +kernel
theorem dX11_readLaw_45 : decode cX11_readLaw 45 = .ok (.invokestatic 264, 3) := by decide +kernel
theorem dX11_readLaw_48 : decode cX11_readLaw 48 = .ok (.iastore, 1) := by decide +kernel
theorem dX11_readLaw_49 : decode cX11_readLaw 49 = .ok (.aload_n 0, 1) := by decide +kernel
theorem dX11_readLaw_50 : decode cX11_readLaw 50 = .ok (.aload_n 0, 1) := by decide +kernel
theorem dX11_readLaw_51 : decode cX11_readLaw 51 = .ok (.invokevirtual 213, 3) := by decide +kernel
theorem dX11_readLaw_54 : decode cX11_readLaw 54 = .ok (.ifCond .lt 7, 3) := by decide +kernel
theorem dX11_readLaw_57 : decode cX11_readLaw 57 = .ok (.iconst 1, 1) := by decide +kernel
theorem dX11_readLaw_58 : decode cX11_readLaw 58 = .ok (.goto 4, 3) := by decide +kernel
theorem dX11_readLaw_61 : decode cX11_readLaw 61 = .ok (.iconst 0, 1) := by decide +kernel
theorem dX11_readLaw_62 : decode cX11_readLaw 62 = .ok (.invokevirtual 270, 3) := by decide +kernel
theorem dX11_readLaw_65 : decode cX11_readLaw 65 = .ok (.return_, 1) := by decide +kernel
set_option maxRecDepth 20000 in
theorem ggX11_court_X11_starts : GoodIn wsX11_court wsX11_starts := goodIn_r _ [11, 12, 13, 14, 5, 15, 16, 17, 10, 18, 2, 19, 20, 21, 22, 23, 6, 24, 25, 26, 27, 28, 29, 30, 31, 32, 33, 34, 35, 36, 37, 38, 39, 40, 41, 42, 43, 44, 234, 235, 236, 237, 238, 239, 240, 241, 242, 243, 244, 245, 246, 247, 248, 249, 250, 251, 252, 253, 254, 255, 256, 257, 258, 259, 260, 261, 262, 263, 264, 265, 266, 267, 268, 269, 270, 271, 272, 273, 274, 275, 276, 277, 278, 279] (by decide +kernel) (by decide +kernel)
set_option maxRecDepth 20000 in
theorem gX11_court_X11_starts : GoodIn wsX11_court (wsV RX11 287 RX11 yX11_starts wsX11_starts) := goodIn_app (goodIn_of _ (by decide +kernel)) ggX11_court_X11_starts
set_option maxRecDepth 20000 in
theorem ggX11_court_X11_isJuror : GoodIn wsX11_court wsX11_isJuror := goodIn_r _ [48, 49, 50, 10, 51, 26, 25, 52, 53, 54, 55, 6, 24, 234, 235, 236, 237, 238, 239, 240, 241, 242, 243, 244, 245, 246, 247, 248, 249, 250, 251, 252, 253, 254, 255, 256, 257, 258, 259, 260, 261, 262, 263, 264, 265, 266, 267, 268, 269, 270, 271, 272, 273, 274, 275, 276, 277, 278, 279] (by decide +kernel) (by decide +kernel)
set_option maxRecDepth 20000 in
theorem gX11_court_X11_isJuror : GoodIn wsX11_court (wsV RX11 174 RX11 yX11_isJuror wsX11_isJuror) := goodIn_app (goodIn_of _ (by decide +kernel)) ggX11_court_X11_isJuror
set_option maxRecDepth 20000 in
theorem ggX11_court_X11_readJuror : GoodIn wsX11_court wsX11_readJuror := goodIn_r _ [59, 5, 3, 60, 61, 62, 10, 63, 23, 64, 24, 65, 66, 67, 68, 69, 19, 20, 21, 22, 14, 13, 6, 25, 26, 27, 28, 29, 30, 31, 32, 33, 34, 35, 36, 37, 38, 39, 40, 41, 42, 43, 44, 70, 71, 72, 73, 74, 75, 76, 77, 45, 46, 47, 48, 49, 50, 51, 52, 53, 54, 55, 78, 79, 80, 81, 82, 83, 84, 85, 86, 87, 88, 89, 90, 91, 92, 93, 94, 95, 96, 97, 98, 99, 100, 101, 102, 103, 104, 105, 106, 107, 108, 109, 110, 111, 112, 113, 114, 115, 116, 117, 118, 119, 120, 121, 122, 123, 124, 125, 126, 127, 128, 129, 130, 131, 132, 133, 134, 135, 136, 137, 138, 139, 140, 141, 142, 143, 144, 145, 146, 147, 148, 149, 150, 151, 152, 153, 154, 155, 156, 157, 158, 159, 160, 161, 162, 163, 164, 165, 166, 167, 168, 169, 170, 171, 172, 173, 174, 175, 234, 235, 236, 237, 238, 239, 240, 241, 242, 243, 244, 245, 246, 247, 248, 249, 250, 251, 252, 253, 254, 255, 256, 257, 258, 259, 260, 261, 262, 263, 264, 265, 266, 267, 268, 269, 270, 271, 272, 273, 274, 275, 276, 277, 278, 279] (by decide +kernel) (by decide +kernel)
set_option maxRecDepth 20000 in
theorem gX11_court_X11_readJuror : GoodIn wsX11_court (wsV RX11 290 RX11 yX11_readJuror wsX11_readJuror) := goodIn_app (goodIn_of _ (by decide +kernel)) ggX11_court_X11_readJuror
set_option maxRecDepth 20000 in
theorem ggX11_court_X11_isSways : GoodIn wsX11_court wsX11_isSways := goodIn_r _ [99, 49, 50, 10, 51, 26, 25, 52, 53, 54, 55, 6, 24, 234, 235, 236, 237, 238, 239, 240, 241, 242, 243, 244, 245, 246, 247, 248, 249, 250, 251, 252, 253, 254, 255, 256, 257, 258, 259, 260, 261, 262, 263, 264, 265, 266, 267, 268, 269, 270, 271, 272, 273, 274, 275, 276, 277, 278, 279] (by decide +kernel) (by decide +kernel)
set_option maxRecDepth 20000 in
theorem gX11_court_X11_isSways : GoodIn wsX11_court (wsV RX11 189 RX11 yX11_isSways wsX11_isSways) := goodIn_app (goodIn_of _ (by decide +kernel)) ggX11_court_X11_isSways
set_option maxRecDepth 20000 in
theorem ggX11_court_X11_readSways : GoodIn wsX11_court wsX11_readSways := goodIn_r _ [179, 5, 23, 3, 19, 20, 21, 10, 22, 14, 13, 6, 24, 25, 26, 27, 28, 29, 30, 31, 32, 33, 34, 35, 36, 37, 38, 39, 40, 41, 42, 43, 44, 180, 181, 182, 183, 184, 185, 186, 187, 188, 189, 190, 191, 70, 71, 72, 73, 74, 75, 76, 77, 45, 46, 47, 48, 49, 50, 51, 52, 53, 54, 55, 78, 79, 80, 81, 82, 83, 84, 85, 86, 87, 88, 89, 90, 91, 92, 93, 94, 95, 96, 97, 98, 99, 100, 101, 102, 103, 104, 105, 106, 107, 108, 109, 110, 111, 112, 113, 114, 115, 116, 117, 118, 119, 120, 121, 122, 123, 124, 125, 126, 127, 128, 129, 130, 131, 132, 133, 134, 135, 136, 137, 138, 139, 140, 141, 142, 143, 144, 145, 146, 147, 148, 149, 150, 151, 152, 153, 154, 155, 156, 157, 65, 66, 67, 68, 69, 158, 159, 160, 161, 64, 162, 163, 164, 192, 193, 194, 195, 169, 170, 171, 172, 173, 174, 175, 234, 235, 236, 237, 238, 239, 240, 241, 242, 243, 244, 245, 246, 247, 248, 249, 250, 251, 252, 253, 254, 255, 256, 257, 258, 259, 260, 261, 262, 263, 264, 265, 266, 267, 268, 269, 270, 271, 272, 273, 274, 275, 276, 277, 278, 279] (by decide +kernel) (by decide +kernel)
set_option maxRecDepth 20000 in
theorem gX11_court_X11_readSways : GoodIn wsX11_court (wsV RX11 293 RX11 yX11_readSways wsX11_readSways) := goodIn_app (goodIn_of _ (by decide +kernel)) ggX11_court_X11_readSways
set_option maxRecDepth 20000 in
theorem ggX11_court_X11_isProof : GoodIn wsX11_court wsX11_isProof := goodIn_r _ [103, 49, 50, 10, 51, 26, 25, 52, 53, 54, 55, 6, 24, 234, 235, 236, 237, 238, 239, 240, 241, 242, 243, 244, 245, 246, 247, 248, 249, 250, 251, 252, 253, 254, 255, 256, 257, 258, 259, 260, 261, 262, 263, 264, 265, 266, 267, 268, 269, 270, 271, 272, 273, 274, 275, 276, 277, 278, 279] (by decide +kernel) (by decide +kernel)
set_option maxRecDepth 20000 in
theorem gX11_court_X11_isProof : GoodIn wsX11_court (wsV RX11 192 RX11 yX11_isProof wsX11_isProof) := goodIn_app (goodIn_of _ (by decide +kernel)) ggX11_court_X11_isProof
set_option maxRecDepth 20000 in
theorem ggX11_court_X11_readProof : GoodIn wsX11_court wsX11_readProof := goodIn_r _ [199, 3, 5, 60, 61, 62, 10, 63, 23, 64, 24, 65, 66, 67, 68, 69, 19, 20, 21, 22, 14, 13, 6, 25, 26, 27, 28, 29, 30, 31, 32, 33, 34, 35, 36, 37, 38, 39, 40, 41, 42, 43, 44, 70, 71, 72, 73, 74, 75, 76, 77, 45, 46, 47, 48, 49, 50, 51, 52, 53, 54, 55, 78, 79, 80, 81, 82, 83, 84, 85, 86, 87, 88, 89, 90, 91, 92, 93, 94, 95, 96, 97, 98, 99, 100, 101, 102, 103, 104, 105, 106, 107, 108, 109, 110, 111, 112, 113, 114, 115, 116, 117, 118, 119, 120, 121, 122, 123, 124, 125, 126, 127, 128, 129, 130, 131, 132, 133, 134, 135, 136, 137, 138, 139, 140, 141, 142, 143, 144, 145, 146, 147, 148, 149, 150, 151, 152, 153, 154, 155, 156, 157, 158, 159, 160, 161, 162, 163, 164, 165, 166, 167, 168, 169, 170, 171, 172, 173, 174, 175, 234, 235, 236, 237, 238, 239, 240, 241, 242, 243, 244, 245, 246, 247, 248, 249, 250, 251, 252, 253, 254, 255, 256, 257, 258, 259, 260, 261, 262, 263, 264, 265, 266, 267, 268, 269, 270, 271, 272, 273, 274, 275, 276, 277, 278, 279] (by decide +kernel) (by decide +kernel)
set_option maxRecDepth 20000 in
theorem gX11_court_X11_readProof : GoodIn wsX11_court (wsV RX11 296 RX11 yX11_readProof wsX11_readProof) := goodIn_app (goodIn_of _ (by decide +kernel)) ggX11_court_X11_readProof
set_option maxRecDepth 20000 in
theorem ggX11_court_X11_isWeather : GoodIn wsX11_court wsX11_isWeather := goodIn_r _ [145, 25, 90, 49, 50, 10, 51, 26, 52, 53, 54, 55, 6, 24, 234, 235, 236, 237, 238, 239, 240, 241, 242, 243, 244, 245, 246, 247, 248, 249, 250, 251, 252, 253, 254, 255, 256, 257, 258, 259, 260, 261, 262, 263, 264, 265, 266, 267, 268, 269, 270, 271, 272, 273, 274, 275, 276, 277, 278, 279] (by decide +kernel) (by decide +kernel)
set_option maxRecDepth 20000 in
theorem gX11_court_X11_isWeather : GoodIn wsX11_court (wsV RX11 167 RX11 yX11_isWeather wsX11_isWeather) := goodIn_app (goodIn_of _ (by decide +kernel)) ggX11_court_X11_isWeather
set_option maxRecDepth 20000 in
theorem ggX11_court_X11_readWeather : GoodIn wsX11_court wsX11_readWeather := goodIn_r _ [203, 5, 3, 60, 61, 62, 10, 63, 23, 64, 24, 65, 66, 67, 68, 69, 19, 20, 21, 22, 14, 13, 6, 25, 26, 27, 28, 29, 30, 31, 32, 33, 34, 35, 36, 37, 38, 39, 40, 41, 42, 43, 44, 70, 71, 72, 73, 74, 75, 76, 77, 45, 46, 47, 48, 49, 50, 51, 52, 53, 54, 55, 78, 79, 80, 81, 82, 83, 84, 85, 86, 87, 88, 89, 90, 91, 92, 93, 94, 95, 96, 97, 98, 99, 100, 101, 102, 103, 104, 105, 106, 107, 108, 109, 110, 111, 112, 113, 114, 115, 116, 117, 118, 119, 120, 121, 122, 123, 124, 125, 126, 127, 128, 129, 130, 131, 132, 133, 134, 135, 136, 137, 138, 139, 140, 141, 142, 143, 144, 145, 146, 147, 148, 149, 150, 151, 152, 153, 154, 155, 156, 157, 158, 159, 160, 161, 162, 163, 164, 234, 235, 236, 237, 238, 239, 240, 241, 242, 243, 244, 245, 246, 247, 248, 249, 250, 251, 252, 253, 254, 255, 256, 257, 258, 259, 260, 261, 262, 263, 264, 265, 266, 267, 268, 269, 270, 271, 272, 273, 274, 275, 276, 277, 278, 279] (by decide +kernel) (by decide +kernel)
set_option maxRecDepth 20000 in
theorem gX11_court_X11_readWeather : GoodIn wsX11_court (wsV RX11 299 RX11 yX11_readWeather wsX11_readWeather) := goodIn_app (goodIn_of _ (by decide +kernel)) ggX11_court_X11_readWeather
set_option maxRecDepth 20000 in
theorem ggX11_court_X11_isFollows : GoodIn wsX11_court wsX11_isFollows := goodIn_r _ [107, 25, 108, 49, 50, 10, 51, 26, 52, 53, 54, 55, 6, 24, 234, 235, 236, 237, 238, 239, 240, 241, 242, 243, 244, 245, 246, 247, 248, 249, 250, 251, 252, 253, 254, 255, 256, 257, 258, 259, 260, 261, 262, 263, 264, 265, 266, 267, 268, 269, 270, 271, 272, 273, 274, 275, 276, 277, 278, 279] (by decide +kernel) (by decide +kernel)
set_option maxRecDepth 20000 in
theorem gX11_court_X11_isFollows : GoodIn wsX11_court (wsV RX11 195 RX11 yX11_isFollows wsX11_isFollows) := goodIn_app (goodIn_of _ (by decide +kernel)) ggX11_court_X11_isFollows
set_option maxRecDepth 20000 in
theorem ggX11_court_X11_readFollows : GoodIn wsX11_court wsX11_readFollows := goodIn_r _ [207, 5, 3, 19, 20, 21, 10, 22, 14, 23, 13, 6, 24, 25, 26, 27, 28, 29, 30, 31, 32, 33, 34, 35, 36, 37, 38, 39, 40, 41, 42, 43, 44, 180, 181, 182, 183, 184, 185, 186, 187, 188, 189, 190, 191, 70, 71, 72, 73, 74, 75, 76, 77, 45, 46, 47, 48, 49, 50, 51, 52, 53, 54, 55, 78, 79, 80, 81, 82, 83, 84, 85, 86, 87, 88, 89, 90, 91, 92, 93, 94, 95, 96, 97, 98, 99, 100, 101, 102, 103, 104, 105, 106, 107, 108, 109, 110, 111, 112, 113, 114, 115, 116, 117, 118, 119, 120, 121, 122, 123, 124, 125, 126, 127, 128, 129, 130, 131, 132, 133, 134, 135, 136, 137, 138, 139, 140, 141, 142, 143, 144, 145, 146, 147, 148, 149, 150, 151, 152, 153, 154, 155, 156, 157, 65, 66, 67, 68, 69, 158, 159, 160, 161, 64, 162, 163, 164, 192, 193, 194, 195, 234, 235, 236, 237, 238, 239, 240, 241, 242, 243, 244, 245, 246, 247, 248, 249, 250, 251, 252, 253, 254, 255, 256, 257, 258, 259, 260, 261, 262, 263, 264, 265, 266, 267, 268, 269, 270, 271, 272, 273, 274, 275, 276, 277, 278, 279] (by decide +kernel) (by decide +kernel)
set_option maxRecDepth 20000 in
theorem gX11_court_X11_readFollows : GoodIn wsX11_court (wsV RX11 302 RX11 yX11_readFollows wsX11_readFollows) := goodIn_app (goodIn_of _ (by decide +kernel)) ggX11_court_X11_readFollows
set_option maxRecDepth 20000 in
theorem ggX11_court_X11_isCrop : GoodIn wsX11_court wsX11_isCrop := goodIn_r _ [149, 49, 50, 10, 51, 26, 25, 52, 53, 54, 55, 6, 24, 234, 235, 236, 237, 238, 239, 240, 241, 242, 243, 244, 245, 246, 247, 248, 249, 250, 251, 252, 253, 254, 255, 256, 257, 258, 259, 260, 261, 262, 263, 264, 265, 266, 267, 268, 269, 270, 271, 272, 273, 274, 275, 276, 277, 278, 279] (by decide +kernel) (by decide +kernel)
set_option maxRecDepth 20000 in
theorem gX11_court_X11_isCrop : GoodIn wsX11_court (wsV RX11 171 RX11 yX11_isCrop wsX11_isCrop) := goodIn_app (goodIn_of _ (by decide +kernel)) ggX11_court_X11_isCrop
set_option maxRecDepth 20000 in
theorem ggX11_court_X11_readCrop : GoodIn wsX11_court wsX11_readCrop := goodIn_r _ [211, 5, 3, 60, 61, 62, 10, 63, 23, 64, 24, 65, 66, 67, 68, 69, 19, 20, 21, 22, 14, 13, 6, 25, 26, 27, 28, 29, 30, 31, 32, 33, 34, 35, 36, 37, 38, 39, 40, 41, 42, 43, 44, 70, 71, 72, 73, 74, 75, 76, 77, 45, 46, 47, 48, 49, 50, 51, 52, 53, 54, 55, 78, 79, 80, 81, 82, 83, 84, 85, 86, 87, 88, 89, 90, 91, 92, 93, 94, 95, 96, 97, 98, 99, 100, 101, 102, 103, 104, 105, 106, 107, 108, 109, 110, 111, 112, 113, 114, 115, 116, 117, 118, 119, 120, 121, 122, 123, 124, 125, 126, 127, 128, 129, 130, 131, 132, 133, 134, 135, 136, 137, 138, 139, 140, 141, 142, 143, 144, 145, 146, 147, 148, 149, 150, 151, 152, 153, 154, 155, 156, 157, 158, 159, 160, 161, 162, 163, 164, 180, 181, 182, 183, 184, 185, 186, 187, 188, 189, 190, 191, 192, 193, 194, 195, 165, 166, 167, 168, 169, 170, 171, 172, 173, 174, 175, 234, 235, 236, 237, 238, 239, 240, 241, 242, 243, 244, 245, 246, 247, 248, 249, 250, 251, 252, 253, 254, 255, 256, 257, 258, 259, 260, 261, 262, 263, 264, 265, 266, 267, 268, 269, 270, 271, 272, 273, 274, 275, 276, 277, 278, 279] (by decide +kernel) (by decide +kernel)
set_option maxRecDepth 20000 in
theorem gX11_court_X11_readCrop : GoodIn wsX11_court (wsV RX11 305 RX11 yX11_readCrop wsX11_readCrop) := goodIn_app (goodIn_of _ (by decide +kernel)) ggX11_court_X11_readCrop
set_option maxRecDepth 20000 in
theorem ggX11_court_X11_isHunger : GoodIn wsX11_court wsX11_isHunger := goodIn_r _ [124, 49, 50, 10, 51, 26, 25, 52, 53, 54, 55, 6, 24, 234, 235, 236, 237, 238, 239, 240, 241, 242, 243, 244, 245, 246, 247, 248, 249, 250, 251, 252, 253, 254, 255, 256, 257, 258, 259, 260, 261, 262, 263, 264, 265, 266, 267, 268, 269, 270, 271, 272, 273, 274, 275, 276, 277, 278, 279] (by decide +kernel) (by decide +kernel)
set_option maxRecDepth 20000 in
theorem gX11_court_X11_isHunger : GoodIn wsX11_court (wsV RX11 207 RX11 yX11_isHunger wsX11_isHunger) := goodIn_app (goodIn_of _ (by decide +kernel)) ggX11_court_X11_isHunger
set_option maxRecDepth 20000 in
theorem ggX11_court_X11_readHunger : GoodIn wsX11_court wsX11_readHunger := goodIn_r _ [215, 3, 23, 5, 65, 66, 67, 10, 68, 69, 19, 20, 21, 22, 14, 13, 6, 24, 25, 26, 27, 28, 29, 30, 31, 32, 33, 34, 35, 36, 37, 38, 39, 40, 41, 42, 43, 44, 169, 170, 171, 172, 154, 155, 156, 157, 173, 174, 175, 234, 235, 236, 237, 238, 239, 240, 241, 242, 243, 244, 245, 246, 247, 248, 249, 250, 251, 252, 253, 254, 255, 256, 257, 258, 259, 260, 261, 262, 263, 264, 265, 266, 267, 268, 269, 270, 271, 272, 273, 274, 275, 276, 277, 278, 279] (by decide +kernel) (by decide +kernel)
set_option maxRecDepth 20000 in
theorem gX11_court_X11_readHunger : GoodIn wsX11_court (wsV RX11 308 RX11 yX11_readHunger wsX11_readHunger) := goodIn_app (goodIn_of _ (by decide +kernel)) ggX11_court_X11_readHunger
set_option maxRecDepth 20000 in
theorem ggX11_court_X11_isLaw : GoodIn wsX11_court wsX11_isLaw := goodIn_r _ [128, 49, 50, 10, 51, 26, 25, 52, 53, 54, 55, 6, 24, 234, 235, 236, 237, 238, 239, 240, 241, 242, 243, 244, 245, 246, 247, 248, 249, 250, 251, 252, 253, 254, 255, 256, 257, 258, 259, 260, 261, 262, 263, 264, 265, 266, 267, 268, 269, 270, 271, 272, 273, 274, 275, 276, 277, 278, 279] (by decide +kernel) (by decide +kernel)
set_option maxRecDepth 20000 in
theorem gX11_court_X11_isLaw : GoodIn wsX11_court (wsV RX11 210 RX11 yX11_isLaw wsX11_isLaw) := goodIn_app (goodIn_of _ (by decide +kernel)) ggX11_court_X11_isLaw
set_option maxRecDepth 20000 in
theorem ggX11_court_X11_readLaw : GoodIn wsX11_court wsX11_readLaw := goodIn_r _ [219, 4, 23, 5, 3, 188, 189, 190, 191, 65, 66, 67, 10, 68, 69, 19, 20, 21, 22, 14, 13, 6, 24, 25, 26, 27, 28, 29, 30, 31, 32, 33, 34, 35, 36, 37, 38, 39, 40, 41, 42, 43, 44, 129, 130, 131, 132, 49, 50, 51, 52, 53, 54, 55, 192, 193, 194, 195, 154, 155, 156, 157, 234, 235, 236, 237, 238, 239, 240, 241, 242, 243, 244, 245, 246, 247, 248, 249, 250, 251, 252, 253, 254, 255, 256, 257, 258, 259, 260, 261, 262, 263, 264, 265, 266, 267, 268, 269, 270, 271, 272, 273, 274, 275, 276, 277, 278, 279] (by decide +kernel) (by decide +kernel)
set_option maxRecDepth 20000 in
theorem gX11_court_X11_readLaw : GoodIn wsX11_court (wsV RX11 311 RX11 yX11_readLaw wsX11_readLaw) := goodIn_app (goodIn_of _ (by decide +kernel)) ggX11_court_X11_readLaw
set_option maxRecDepth 20000 in
theorem ggX11_court_X11_wrong : GoodIn wsX11_court wsX11_wrong := goodIn_r _ [157, 6, 23, 65, 66, 67, 10, 68, 5, 69, 234, 235, 236, 237, 238, 239, 240, 241, 242, 243, 244, 245, 246, 247, 248, 249, 250, 251, 252, 253, 254, 255, 256, 257, 258, 259, 260, 261, 262, 263, 264, 265, 266, 267, 268, 269, 270, 271, 272, 273, 274, 275, 276, 277, 278, 279] (by decide +kernel) (by decide +kernel)
set_option maxRecDepth 20000 in
theorem gX11_court_X11_wrong : GoodIn wsX11_court (wsV RX11 242 RX11 yX11_wrong wsX11_wrong) := goodIn_app (goodIn_of _ (by decide +kernel)) ggX11_court_X11_wrong
set_option maxRecDepth 20000 in
theorem ggX11_court_X11_isSign : GoodIn wsX11_court wsX11_isSign := goodIn_r _ [223, 6, 29, 234, 235, 236, 237, 238, 239, 240, 241, 242, 243, 244, 245, 246, 247, 248, 249, 250, 251, 252, 253, 254, 255, 256, 257, 258, 259, 260, 261, 262, 263, 264, 265, 266, 267, 268, 269, 270, 271, 272, 273, 274, 275, 276, 277, 278, 279] (by decide +kernel) (by decide +kernel)
set_option maxRecDepth 20000 in
theorem gX11_court_X11_isSign : GoodIn wsX11_court (wsV RX11 314 RX11 yX11_isSign wsX11_isSign) := goodIn_app (goodIn_of _ (by decide +kernel)) ggX11_court_X11_isSign
set_option maxRecDepth 20000 in
theorem ggX11_court_X11_must : GoodIn wsX11_court wsX11_must := goodIn_r _ [195, 5, 19, 20, 21, 10, 22, 14, 23, 13, 6, 24, 25, 26, 27, 28, 29, 30, 31, 32, 33, 34, 35, 36, 37, 38, 39, 40, 41, 42, 43, 44, 154, 155, 156, 157, 65, 66, 67, 68, 69, 234, 235, 236, 237, 238, 239, 240, 241, 242, 243, 244, 245, 246, 247, 248, 249, 250, 251, 252, 253, 254, 255, 256, 257, 258, 259, 260, 261, 262, 263, 264, 265, 266, 267, 268, 269, 270, 271, 272, 273, 274, 275, 276, 277, 278, 279] (by decide +kernel) (by decide +kernel)
set_option maxRecDepth 20000 in
theorem gX11_court_X11_must : GoodIn wsX11_court (wsV RX11 270 RX11 yX11_must wsX11_must) := goodIn_app (goodIn_of _ (by decide +kernel)) ggX11_court_X11_must
set_option maxRecDepth 20000 in
theorem ggX11_court_X11_isWell : GoodIn wsX11_court wsX11_isWell := goodIn_r _ [227, 5, 228, 69, 229, 15, 16, 17, 10, 18, 2, 234, 235, 236, 237, 238, 239, 240, 241, 242, 243, 244, 245, 246, 247, 248, 249, 250, 251, 252, 253, 254, 255, 256, 257, 258, 259, 260, 261, 262, 263, 264, 265, 266, 267, 268, 269, 270, 271, 272, 273, 274, 275, 276, 277, 278, 279] (by decide +kernel) (by decide +kernel)
set_option maxRecDepth 20000 in
theorem gX11_court_X11_isWell : GoodIn wsX11_court (wsV RX11 317 RX11 yX11_isWell wsX11_isWell) := goodIn_app (goodIn_of _ (by decide +kernel)) ggX11_court_X11_isWell
set_option maxRecDepth 20000 in
theorem ggX11_court_X11_copy : GoodIn wsX11_court wsX11_copy := goodIn_r _ [233, 3, 64, 234, 235, 236, 237, 238, 239, 240, 241, 242, 243, 244, 245, 246, 247, 248, 249, 250, 251, 252, 253, 254, 255, 256, 257, 258, 259, 260, 261, 262, 263, 264, 265, 266, 267, 268, 269, 270, 271, 272, 273, 274, 275, 276, 277, 278, 279] (by decide +kernel) (by decide +kernel)
set_option maxRecDepth 20000 in
theorem gX11_court_X11_copy : GoodIn wsX11_court (wsV RX11 320 RX11 yX11_copy wsX11_copy) := goodIn_app (goodIn_of _ (by decide +kernel)) ggX11_court_X11_copy
theorem dX11_court_0 : decode cX11_court 0 = .ok (.aload_n 0, 1) := by decide +kernel
theorem dX11_court_1 : decode cX11_court 1 = .ok (.iconst 0, 1) := by decide +kernel
theorem dX11_court_2 : decode cX11_court 2 = .ok (.putfield 71, 3) := by decide +kernel
theorem dX11_court_5 : decode cX11_court 5 = .ok (.aload_n 0, 1) := by decide +kernel
theorem dX11_court_6 : decode cX11_court 6 = .ok (.iconst 0, 1) := by decide +kernel
theorem dX11_court_7 : decode cX11_court 7 = .ok (.putfield 74, 3) := by decide +kernel
theorem dX11_court_10 : decode cX11_court 10 = .ok (.aload_n 0, 1) := by decide +kernel
theorem dX11_court_11 : decode cX11_court 11 = .ok (.iload_n 1, 1) := by decide +kernel
theorem dX11_court_12 : decode cX11_court 12 = .ok (.sipush 900, 3) := by decide +kernel
theorem dX11_court_15 : decode cX11_court 15 = .ok (.invokevirtual 287, 3) := by decide +kernel
theorem dX11_court_18 : decode cX11_court 18 = .ok (.ifCond .ne 5, 3) := by decide +kernel
theorem dX11_court_21 : decode cX11_court 21 = .ok (.iconst (-1), 1) := by decide +kernel
theorem dX11_court_22 : decode cX11_court 22 = .ok (.ireturn, 1) := by decide +kernel
theorem dX11_court_23 : decode cX11_court 23 = .ok (.iconst 0, 1) := by decide +kernel
theorem dX11_court_24 : decode cX11_court 24 = .ok (.istore_n 2, 1) := by decide +kernel
theorem dX11_court_25 : decode cX11_court 25 = .ok (.iload_n 2, 1) := by decide +kernel
theorem dX11_court_26 : decode cX11_court 26 = .ok (.sipush 475, 3) := by decide +kernel
theorem dX11_court_29 : decode cX11_court 29 = .ok (.if_icmp .ge 20, 3) := by decide +kernel
theorem dX11_court_32 : decode cX11_court 32 = .ok (.aload_n 0, 1) := by decide +kernel
theorem dX11_court_33 : decode cX11_court 33 = .ok (.getfield 35, 3) := by decide +kernel
theorem dX11_court_36 : decode cX11_court 36 = .ok (.sipush 1900, 3) := by decide +kernel
theorem dX11_court_39 : decode cX11_court 39 = .ok (.iload_n 2, 1) := by decide +kernel
theorem dX11_court_40 : decode cX11_court 40 = .ok (.iadd, 1) := by decide +kernel
theorem dX11_court_41 : decode cX11_court 41 = .ok (.iconst 0, 1) := by decide +kernel
theorem dX11_court_42 : decode cX11_court 42 = .ok (.iastore, 1) := by decide +kernel
theorem dX11_court_43 : decode cX11_court 43 = .ok (.iinc 2 1, 3) := by decide +kernel
theorem dX11_court_46 : decode cX11_court 46 = .ok (.goto (-21), 3) := by decide +kernel
theorem dX11_court_49 : decode cX11_court 49 = .ok (.aload_n 0, 1) := by decide +kernel
theorem dX11_court_50 : decode cX11_court 50 = .ok (.iconst 0, 1) := by decide +kernel
theorem dX11_court_51 : decode cX11_court 51 = .ok (.putfield 283, 3) := by decide +kernel
theorem dX11_court_54 : decode cX11_court 54 = .ok (.aload_n 0, 1) := by decide +kernel
theorem dX11_court_55 : decode cX11_court 55 = .ok (.getfield 229, 3) := by decide +kernel
theorem dX11_court_58 : decode cX11_court 58 = .ok (.ifCond .ne 139, 3) := by decide +kernel
theorem dX11_court_61 : decode cX11_court 61 = .ok (.aload_n 0, 1) := by decide +kernel
theorem dX11_court_62 : decode cX11_court 62 = .ok (.getfield 126, 3) := by decide +kernel
theorem dX11_court_65 : decode cX11_court 65 = .ok (.ifCond .eq 132, 3) := by decide +kernel
theorem dX11_court_68 : decode cX11_court 68 = .ok (.aload_n 0, 1) := by decide +kernel
theorem dX11_court_69 : decode cX11_court 69 = .ok (.invokevirtual 174, 3) := by decide +kernel
theorem dX11_court_72 : decode cX11_court 72 = .ok (.ifCond .eq 10, 3) := by decide +kernel
theorem dX11_court_75 : decode cX11_court 75 = .ok (.aload_n 0, 1) := by decide +kernel
theorem dX11_court_76 : decode cX11_court 76 = .ok (.invokevirtual 290, 3) := by decide +kernel
theorem dX11_court_79 : decode cX11_court 79 = .ok (.goto 105, 3) := by decide +kernel
theorem dX11_court_82 : decode cX11_court 82 = .ok (.aload_n 0, 1) := by decide +kernel
theorem dX11_court_83 : decode cX11_court 83 = .ok (.invokevirtual 189, 3) := by decide +kernel
theorem dX11_court_86 : decode cX11_court 86 = .ok (.ifCond .eq 10, 3) := by decide +kernel
theorem dX11_court_89 : decode cX11_court 89 = .ok (.aload_n 0, 1) := by decide +kernel
theorem dX11_court_90 : decode cX11_court 90 = .ok (.invokevirtual 293, 3) := by decide +kernel
theorem dX11_court_93 : decode cX11_court 93 = .ok (.goto 91, 3) := by decide +kernel
theorem dX11_court_96 : decode cX11_court 96 = .ok (.aload_n 0, 1) := by decide +kernel
theorem dX11_court_97 : decode cX11_court 97 = .ok (.invokevirtual 192, 3) := by decide +kernel
theorem dX11_court_100 : decode cX11_court 100 = .ok (.ifCond .eq 10, 3) := by decide +kernel
theorem dX11_court_103 : decode cX11_court 103 = .ok (.aload_n 0, 1) := by decide +kernel
theorem dX11_court_104 : decode cX11_court 104 = .ok (.invokevirtual 296, 3) := by decide +kernel
theorem dX11_court_107 : decode cX11_court 107 = .ok (.goto 77, 3) := by decide +kernel
theorem dX11_court_110 : decode cX11_court 110 = .ok (.aload_n 0, 1) := by decide +kernel
theorem dX11_court_111 : decode cX11_court 111 = .ok (.invokevirtual 167, 3) := by decide +kernel
theorem dX11_court_114 : decode cX11_court 114 = .ok (.ifCond .eq 10, 3) := by decide +kernel
theorem dX11_court_117 : decode cX11_court 117 = .ok (.aload_n 0, 1) := by decide +kernel
theorem dX11_court_118 : decode cX11_court 118 = .ok (.invokevirtual 299, 3) := by decide +kernel
theorem dX11_court_121 : decode cX11_court 121 = .ok (.goto 63, 3) := by decide +kernel
theorem dX11_court_124 : decode cX11_court 124 = .ok (.aload_n 0, 1) := by decide +kernel
theorem dX11_court_125 : decode cX11_court 125 = .ok (.invokevirtual 195, 3) := by decide +kernel
theorem dX11_court_128 : decode cX11_court 128 = .ok (.ifCond .eq 10, 3) := by decide +kernel
theorem dX11_court_131 : decode cX11_court 131 = .ok (.aload_n 0, 1) := by decide +kernel
theorem dX11_court_132 : decode cX11_court 132 = .ok (.invokevirtual 302, 3) := by decide +kernel
theorem dX11_court_135 : decode cX11_court 135 = .ok (.goto 49, 3) := by decide +kernel
theorem dX11_court_138 : decode cX11_court 138 = .ok (.aload_n 0, 1) := by decide +kernel
theorem dX11_court_139 : decode cX11_court 139 = .ok (.invokevirtual 171, 3) := by decide +kernel
theorem dX11_court_142 : decode cX11_court 142 = .ok (.ifCond .eq 10, 3) := by decide +kernel
theorem dX11_court_145 : decode cX11_court 145 = .ok (.aload_n 0, 1) := by decide +kernel
theorem dX11_court_146 : decode cX11_court 146 = .ok (.invokevirtual 305, 3) := by decide +kernel
theorem dX11_court_149 : decode cX11_court 149 = .ok (.goto 35, 3) := by decide +kernel
theorem dX11_court_152 : decode cX11_court 152 = .ok (.aload_n 0, 1) := by decide +kernel
theorem dX11_court_153 : decode cX11_court 153 = .ok (.invokevirtual 207, 3) := by decide +kernel
theorem dX11_court_156 : decode cX11_court 156 = .ok (.ifCond .eq 10, 3) := by decide +kernel
theorem dX11_court_159 : decode cX11_court 159 = .ok (.aload_n 0, 1) := by decide +kernel
theorem dX11_court_160 : decode cX11_court 160 = .ok (.invokevirtual 308, 3) := by decide +kernel
theorem dX11_court_163 : decode cX11_court 163 = .ok (.goto 21, 3) := by decide +kernel
theorem dX11_court_166 : decode cX11_court 166 = .ok (.aload_n 0, 1) := by decide +kernel
theorem dX11_court_167 : decode cX11_court 167 = .ok (.invokevirtual 210, 3) := by decide +kernel
theorem dX11_court_170 : decode cX11_court 170 = .ok (.ifCond .eq 10, 3) := by decide +kernel
theorem dX11_court_173 : decode cX11_court 173 = .ok (.aload_n 0, 1) := by decide +kernel
theorem dX11_court_174 : decode cX11_court 174 = .ok (.invokevirtual 311, 3) := by decide +kernel
theorem dX11_court_177 : decode cX11_court 177 = .ok (.goto 7, 3) := by decide +kernel
theorem dX11_court_180 : decode cX11_court 180 = .ok (.aload_n 0, 1) := by decide +kernel
theorem dX11_court_181 : decode cX11_court 181 = .ok (.invokevirtual 242, 3) := by decide +kernel
theorem dX11_court_184 : decode cX11_court 184 = .ok (.aload_n 0, 1) := by decide +kernel
theorem dX11_court_185 : decode cX11_court 185 = .ok (.aload_n 0, 1) := by decide +kernel
theorem dX11_court_186 : decode cX11_court 186 = .ok (.bipush 59, 2) := by decide +kernel
theorem dX11_court_188 : decode cX11_court 188 = .ok (.invokevirtual 314, 3) := by decide +kernel
theorem dX11_court_191 : decode cX11_court 191 = .ok (.invokevirtual 270, 3) := by decide +kernel
theorem dX11_court_194 : decode cX11_court 194 = .ok (.goto (-140), 3) := by decide +kernel
theorem dX11_court_197 : decode cX11_court 197 = .ok (.aload_n 0, 1) := by decide +kernel
theorem dX11_court_198 : decode cX11_court 198 = .ok (.invokevirtual 317, 3) := by decide +kernel
theorem dX11_court_201 : decode cX11_court 201 = .ok (.ifCond .ne 5, 3) := by decide +kernel
theorem dX11_court_204 : decode cX11_court 204 = .ok (.iconst (-1), 1) := by decide +kernel
theorem dX11_court_205 : decode cX11_court 205 = .ok (.ireturn, 1) := by decide +kernel
theorem dX11_court_206 : decode cX11_court 206 = .ok (.aload_n 0, 1) := by decide +kernel
theorem dX11_court_207 : decode cX11_court 207 = .ok (.getfield 35, 3) := by decide +kernel
theorem dX11_court_210 : decode cX11_court 210 = .ok (.sipush 1910, 3) := by decide +kernel
theorem dX11_court_213 : decode cX11_court 213 = .ok (.iconst 1, 1) := by decide +kernel
theorem dX11_court_214 : decode cX11_court 214 = .ok (.aload_n 0, 1) := by decide +kernel
theorem dX11_court_215 : decode cX11_court 215 = .ok (.getfield 35, 3) := by decide +kernel
theorem dX11_court_218 : decode cX11_court 218 = .ok (.sipush 1900, 3) := by decide +kernel
theorem dX11_court_221 : decode cX11_court 221 = .ok (.iaload, 1) := by decide +kernel
theorem dX11_court_222 : decode cX11_court 222 = .ok (.ishl, 1) := by decide +kernel
theorem dX11_court_223 : decode cX11_court 223 = .ok (.iconst 1, 1) := by decide +kernel
theorem dX11_court_224 : decode cX11_court 224 = .ok (.isub, 1) := by decide +kernel
theorem dX11_court_225 : decode cX11_court 225 = .ok (.iastore, 1) := by decide +kernel
theorem dX11_court_226 : decode cX11_court 226 = .ok (.aload_n 0, 1) := by decide +kernel
theorem dX11_court_227 : decode cX11_court 227 = .ok (.getfield 35, 3) := by decide +kernel
theorem dX11_court_230 : decode cX11_court 230 = .ok (.sipush 1908, 3) := by decide +kernel
theorem dX11_court_233 : decode cX11_court 233 = .ok (.aload_n 0, 1) := by decide +kernel
theorem dX11_court_234 : decode cX11_court 234 = .ok (.getfield 35, 3) := by decide +kernel
theorem dX11_court_237 : decode cX11_court 237 = .ok (.sipush 1902, 3) := by decide +kernel
theorem dX11_court_240 : decode cX11_court 240 = .ok (.iaload, 1) := by decide +kernel
theorem dX11_court_241 : decode cX11_court 241 = .ok (.ifCond .ne 7, 3) := by decide +kernel
theorem dX11_court_244 : decode cX11_court 244 = .ok (.iconst (-1), 1) := by decide +kernel
theorem dX11_court_245 : decode cX11_court 245 = .ok (.goto 4, 3) := by decide +kernel
theorem dX11_court_248 : decode cX11_court 248 = .ok (.iconst 0, 1) := by decide +kernel
theorem dX11_court_249 : decode cX11_court 249 = .ok (.iastore, 1) := by decide +kernel
theorem dX11_court_250 : decode cX11_court 250 = .ok (.aload_n 0, 1) := by decide +kernel
theorem dX11_court_251 : decode cX11_court 251 = .ok (.iconst 4, 1) := by decide +kernel
theorem dX11_court_252 : decode cX11_court 252 = .ok (.iconst 0, 1) := by decide +kernel
theorem dX11_court_253 : decode cX11_court 253 = .ok (.invokevirtual 320, 3) := by decide +kernel
theorem dX11_court_256 : decode cX11_court 256 = .ok (.aload_n 0, 1) := by decide +kernel
theorem dX11_court_257 : decode cX11_court 257 = .ok (.getfield 35, 3) := by decide +kernel
theorem dX11_court_260 : decode cX11_court 260 = .ok (.iconst 0, 1) := by decide +kernel
theorem dX11_court_261 : decode cX11_court 261 = .ok (.iaload, 1) := by decide +kernel
theorem dX11_court_262 : decode cX11_court 262 = .ok (.ireturn, 1) := by decide +kernel
set_option maxRecDepth 20000 in
theorem ggX11_readTest_X11_testWord : GoodIn wsX11_readTest wsX11_testWord := goodIn_r _ [9, 10, 11, 8, 12, 13, 14, 15, 16, 17, 18, 3, 19, 20, 21, 22, 23, 24, 25, 26, 27, 28, 176, 177, 178, 179, 180, 181, 182, 183, 184, 185, 186, 187, 188, 189, 190, 191, 192, 193, 194, 195, 196, 197, 198, 199, 200, 201, 202, 203, 204, 205, 206, 207, 208, 209, 210, 211, 212, 213, 214, 215, 216, 217, 218, 219, 220, 221] (by decide +kernel) (by decide +kernel)
set_option maxRecDepth 20000 in
theorem gX11_readTest_X11_testWord : GoodIn wsX11_readTest (wsV RX11 220 RX11 yX11_testWord wsX11_testWord) := goodIn_app (goodIn_of _ (by decide +kernel)) ggX11_readTest_X11_testWord
set_option maxRecDepth 20000 in
theorem ggX11_readTest_X11_must : GoodIn wsX11_readTest wsX11_must := goodIn_r _ [32, 2, 33, 34, 35, 8, 36, 37, 38, 39, 3, 19, 14, 13, 40, 41, 4, 42, 43, 44, 45, 46, 47, 48, 49, 50, 51, 52, 53, 54, 55, 56, 57, 58, 59, 60, 61, 62, 63, 64, 65, 176, 177, 178, 179, 180, 181, 182, 183, 184, 185, 186, 187, 188, 189, 190, 191, 192, 193, 194, 195, 196, 197, 198, 199, 200, 201, 202, 203, 204, 205, 206, 207, 208, 209, 210, 211, 212, 213, 214, 215, 216, 217, 218, 219, 220, 221] (by decide +kernel) (by decide +kernel)
set_option maxRecDepth 20000 in
theorem gX11_readTest_X11_must : GoodIn wsX11_readTest (wsV RX11 270 RX11 yX11_must wsX11_must) := goodIn_app (goodIn_of _ (by decide +kernel)) ggX11_readTest_X11_must
set_option maxRecDepth 20000 in
theorem ggX11_readTest_X11_readTold : GoodIn wsX11_readTest wsX11_readTold := goodIn_r _ [69, 70, 71, 72, 8, 73, 2, 38, 74, 75, 76, 77, 78, 79, 80, 81, 3, 41, 82, 83, 84, 85, 86, 87, 88, 89, 10, 11, 12, 13, 14, 15, 16, 17, 18, 19, 90, 91, 92, 93, 94, 95, 96, 97, 98, 99, 100, 101, 24, 102, 103, 104, 105, 106, 107, 108, 109, 110, 111, 112, 113, 114, 115, 116, 117, 118, 119, 120, 121, 122, 123, 124, 125, 126, 127, 128, 129, 130, 131, 132, 133, 134, 135, 136, 137, 138, 139, 140, 141, 142, 143, 144, 145, 146, 147, 148, 5, 6, 7, 9, 20, 21, 22, 23, 25, 26, 27, 28, 149, 150, 151, 152, 57, 58, 59, 60, 61, 62, 63, 64, 65, 153, 154, 155, 156, 1, 157, 158, 159, 160, 29, 30, 31, 32, 33, 34, 35, 36, 37, 39, 40, 4, 42, 43, 44, 45, 46, 47, 48, 49, 50, 51, 52, 53, 54, 55, 56, 176, 177, 178, 179, 180, 181, 182, 183, 184, 185, 186, 187, 188, 189, 190, 191, 192, 193, 194, 195, 196, 197, 198, 199, 200, 201, 202, 203, 204, 205, 206, 207, 208, 209, 210, 211, 212, 213, 214, 215, 216, 217, 218, 219, 220, 221] (by decide +kernel) (by decide +kernel)
set_option maxRecDepth 20000 in
theorem gX11_readTest_X11_readTold : GoodIn wsX11_readTest (wsV RX11 280 RX11 yX11_readTold wsX11_readTold) := goodIn_app (goodIn_of _ (by decide +kernel)) ggX11_readTest_X11_readTold
set_option maxRecDepth 20000 in
theorem ggX11_readTest_X11_isSign : GoodIn wsX11_readTest wsX11_isSign := goodIn_r _ [164, 3, 4, 176, 177, 178, 179, 180, 181, 182, 183, 184, 185, 186, 187, 188, 189, 190, 191, 192, 193, 194, 195, 196, 197, 198, 199, 200, 201, 202, 203, 204, 205, 206, 207, 208, 209, 210, 211, 212, 213, 214, 215, 216, 217, 218, 219, 220, 221] (by decide +kernel) (by decide +kernel)
set_option maxRecDepth 20000 in
theorem gX11_readTest_X11_isSign : GoodIn wsX11_readTest (wsV RX11 314 RX11 yX11_isSign wsX11_isSign) := goodIn_app (goodIn_of _ (by decide +kernel)) ggX11_readTest_X11_isSign
set_option maxRecDepth 20000 in
theorem ggX11_readTest_X11_count : GoodIn wsX11_readTest wsX11_count := goodIn_r _ [168, 2, 3, 4, 38, 57, 58, 59, 8, 60, 61, 62, 63, 64, 65, 169, 170, 171, 33, 34, 35, 36, 37, 39, 19, 14, 13, 40, 41, 42, 43, 44, 45, 46, 47, 48, 49, 50, 51, 52, 53, 54, 55, 56, 176, 177, 178, 179, 180, 181, 182, 183, 184, 185, 186, 187, 188, 189, 190, 191, 192, 193, 194, 195, 196, 197, 198, 199, 200, 201, 202, 203, 204, 205, 206, 207, 208, 209, 210, 211, 212, 213, 214, 215, 216, 217, 218, 219, 220, 221] (by decide +kernel) (by decide +kernel)
set_option maxRecDepth 20000 in
theorem gX11_readTest_X11_count : GoodIn wsX11_readTest (wsV RX11 245 RX11 yX11_count wsX11_count) := goodIn_app (goodIn_of _ (by decide +kernel)) ggX11_readTest_X11_count
set_option maxRecDepth 20000 in
theorem ggX11_readTest_X11_signed : GoodIn wsX11_readTest wsX11_signed := goodIn_r _ [175, 2, 94, 95, 96, 8, 97, 10, 11, 12, 13, 14, 15, 16, 17, 18, 3, 19, 33, 34, 35, 36, 37, 38, 39, 40, 41, 4, 42, 43, 44, 45, 46, 47, 48, 49, 50, 51, 52, 53, 54, 55, 56, 165, 166, 167, 168, 57, 58, 59, 60, 61, 62, 63, 64, 65, 169, 170, 171, 176, 177, 178, 179, 180, 181, 182, 183, 184, 185, 186, 187, 188, 189, 190, 191, 192, 193, 194, 195, 196, 197, 198, 199, 200, 201, 202, 203, 204, 205, 206, 207, 208, 209, 210, 211, 212, 213, 214, 215, 216, 217, 218, 219, 220, 221] (by decide +kernel) (by decide +kernel)
set_option maxRecDepth 20000 in
theorem gX11_readTest_X11_signed : GoodIn wsX11_readTest (wsV RX11 277 RX11 yX11_signed wsX11_signed) := goodIn_app (goodIn_of _ (by decide +kernel)) ggX11_readTest_X11_signed
theorem dX11_readTest_0 : decode cX11_readTest 0 = .ok (.aload_n 0, 1) := by decide +kernel
theorem dX11_readTest_1 : decode cX11_readTest 1 = .ok (.invokevirtual 220, 3) := by decide +kernel
theorem dX11_readTest_4 : decode cX11_readTest 4 = .ok (.istore_n 2, 1) := by decide +kernel
theorem dX11_readTest_5 : decode cX11_readTest 5 = .ok (.aload_n 0, 1) := by decide +kernel
theorem dX11_readTest_6 : decode cX11_readTest 6 = .ok (.iload_n 2, 1) := by decide +kernel
theorem dX11_readTest_7 : decode cX11_readTest 7 = .ok (.ifCond .lt 7, 3) := by decide +kernel
theorem dX11_readTest_10 : decode cX11_readTest 10 = .ok (.iconst 1, 1) := by decide +kernel
theorem dX11_readTest_11 : decode cX11_readTest 11 = .ok (.goto 4, 3) := by decide +kernel
theorem dX11_readTest_14 : decode cX11_readTest 14 = .ok (.iconst 0, 1) := by decide +kernel
theorem dX11_readTest_15 : decode cX11_readTest 15 = .ok (.invokevirtual 270, 3) := by decide +kernel
theorem dX11_readTest_18 : decode cX11_readTest 18 = .ok (.aload_n 0, 1) := by decide +kernel
theorem dX11_readTest_19 : decode cX11_readTest 19 = .ok (.getfield 35, 3) := by decide +kernel
theorem dX11_readTest_22 : decode cX11_readTest 22 = .ok (.iload_n 1, 1) := by decide +kernel
theorem dX11_readTest_23 : decode cX11_readTest 23 = .ok (.bipush 6, 2) := by decide +kernel
theorem dX11_readTest_25 : decode cX11_readTest 25 = .ok (.iadd, 1) := by decide +kernel
theorem dX11_readTest_26 : decode cX11_readTest 26 = .ok (.iload_n 2, 1) := by decide +kernel
theorem dX11_readTest_27 : decode cX11_readTest 27 = .ok (.iastore, 1) := by decide +kernel
theorem dX11_readTest_28 : decode cX11_readTest 28 = .ok (.iload_n 2, 1) := by decide +kernel
theorem dX11_readTest_29 : decode cX11_readTest 29 = .ok (.ifCond .le 19, 3) := by decide +kernel
theorem dX11_readTest_32 : decode cX11_readTest 32 = .ok (.aload_n 0, 1) := by decide +kernel
theorem dX11_readTest_33 : decode cX11_readTest 33 = .ok (.getfield 35, 3) := by decide +kernel
theorem dX11_readTest_36 : decode cX11_readTest 36 = .ok (.iload_n 1, 1) := by decide +kernel
theorem dX11_readTest_37 : decode cX11_readTest 37 = .ok (.iconst 1, 1) := by decide +kernel
theorem dX11_readTest_38 : decode cX11_readTest 38 = .ok (.iadd, 1) := by decide +kernel
theorem dX11_readTest_39 : decode cX11_readTest 39 = .ok (.aload_n 0, 1) := by decide +kernel
theorem dX11_readTest_40 : decode cX11_readTest 40 = .ok (.iconst 0, 1) := by decide +kernel
theorem dX11_readTest_41 : decode cX11_readTest 41 = .ok (.iload_n 2, 1) := by decide +kernel
theorem dX11_readTest_42 : decode cX11_readTest 42 = .ok (.iconst 1, 1) := by decide +kernel
theorem dX11_readTest_43 : decode cX11_readTest 43 = .ok (.iadd, 1) := by decide +kernel
theorem dX11_readTest_44 : decode cX11_readTest 44 = .ok (.invokevirtual 280, 3) := by decide +kernel
theorem dX11_readTest_47 : decode cX11_readTest 47 = .ok (.iastore, 1) := by decide +kernel
theorem dX11_readTest_48 : decode cX11_readTest 48 = .ok (.aload_n 0, 1) := by decide +kernel
theorem dX11_readTest_49 : decode cX11_readTest 49 = .ok (.getfield 229, 3) := by decide +kernel
theorem dX11_readTest_52 : decode cX11_readTest 52 = .ok (.ifCond .gt 8, 3) := by decide +kernel
theorem dX11_readTest_55 : decode cX11_readTest 55 = .ok (.iload_n 2, 1) := by decide +kernel
theorem dX11_readTest_56 : decode cX11_readTest 56 = .ok (.iconst 1, 1) := by decide +kernel
theorem dX11_readTest_57 : decode cX11_readTest 57 = .ok (.if_icmp .ne 4, 3) := by decide +kernel
theorem dX11_readTest_60 : decode cX11_readTest 60 = .ok (.return_, 1) := by decide +kernel
theorem dX11_readTest_61 : decode cX11_readTest 61 = .ok (.aload_n 0, 1) := by decide +kernel
theorem dX11_readTest_62 : decode cX11_readTest 62 = .ok (.getfield 35, 3) := by decide +kernel
theorem dX11_readTest_65 : decode cX11_readTest 65 = .ok (.iload_n 1, 1) := by decide +kernel
theorem dX11_readTest_66 : decode cX11_readTest 66 = .ok (.bipush 7, 2) := by decide +kernel
theorem dX11_readTest_68 : decode cX11_readTest 68 = .ok (.iadd, 1) := by decide +kernel
theorem dX11_readTest_69 : decode cX11_readTest 69 = .ok (.aload_n 0, 1) := by decide +kernel
theorem dX11_readTest_70 : decode cX11_readTest 70 = .ok (.getfield 126, 3) := by decide +kernel
theorem dX11_readTest_73 : decode cX11_readTest 73 = .ok (.iconst 3, 1) := by decide +kernel
theorem dX11_readTest_74 : decode cX11_readTest 74 = .ok (.if_icmp .ne 10, 3) := by decide +kernel
theorem dX11_readTest_77 : decode cX11_readTest 77 = .ok (.aload_n 0, 1) := by decide +kernel
theorem dX11_readTest_78 : decode cX11_readTest 78 = .ok (.getfield 145, 3) := by decide +kernel
theorem dX11_readTest_81 : decode cX11_readTest 81 = .ok (.goto 4, 3) := by decide +kernel
theorem dX11_readTest_84 : decode cX11_readTest 84 = .ok (.iconst 0, 1) := by decide +kernel
theorem dX11_readTest_85 : decode cX11_readTest 85 = .ok (.iastore, 1) := by decide +kernel
theorem dX11_readTest_86 : decode cX11_readTest 86 = .ok (.aload_n 0, 1) := by decide +kernel
theorem dX11_readTest_87 : decode cX11_readTest 87 = .ok (.aload_n 0, 1) := by decide +kernel
theorem dX11_readTest_88 : decode cX11_readTest 88 = .ok (.bipush 60, 2) := by decide +kernel
theorem dX11_readTest_90 : decode cX11_readTest 90 = .ok (.invokevirtual 314, 3) := by decide +kernel
theorem dX11_readTest_93 : decode cX11_readTest 93 = .ok (.ifCond .ne 21, 3) := by decide +kernel
theorem dX11_readTest_96 : decode cX11_readTest 96 = .ok (.aload_n 0, 1) := by decide +kernel
theorem dX11_readTest_97 : decode cX11_readTest 97 = .ok (.bipush 62, 2) := by decide +kernel
theorem dX11_readTest_99 : decode cX11_readTest 99 = .ok (.invokevirtual 314, 3) := by decide +kernel
theorem dX11_readTest_102 : decode cX11_readTest 102 = .ok (.ifCond .ne 12, 3) := by decide +kernel
theorem dX11_readTest_105 : decode cX11_readTest 105 = .ok (.aload_n 0, 1) := by decide +kernel
theorem dX11_readTest_106 : decode cX11_readTest 106 = .ok (.bipush 61, 2) := by decide +kernel
theorem dX11_readTest_108 : decode cX11_readTest 108 = .ok (.invokevirtual 314, 3) := by decide +kernel
theorem dX11_readTest_111 : decode cX11_readTest 111 = .ok (.ifCond .eq 7, 3) := by decide +kernel
theorem dX11_readTest_114 : decode cX11_readTest 114 = .ok (.iconst 1, 1) := by decide +kernel
theorem dX11_readTest_115 : decode cX11_readTest 115 = .ok (.goto 4, 3) := by decide +kernel
theorem dX11_readTest_118 : decode cX11_readTest 118 = .ok (.iconst 0, 1) := by decide +kernel
theorem dX11_readTest_119 : decode cX11_readTest 119 = .ok (.invokevirtual 270, 3) := by decide +kernel
theorem dX11_readTest_122 : decode cX11_readTest 122 = .ok (.aload_n 0, 1) := by decide +kernel
theorem dX11_readTest_123 : decode cX11_readTest 123 = .ok (.getfield 35, 3) := by decide +kernel
theorem dX11_readTest_126 : decode cX11_readTest 126 = .ok (.iload_n 1, 1) := by decide +kernel
theorem dX11_readTest_127 : decode cX11_readTest 127 = .ok (.iconst 2, 1) := by decide +kernel
theorem dX11_readTest_128 : decode cX11_readTest 128 = .ok (.iadd, 1) := by decide +kernel
theorem dX11_readTest_129 : decode cX11_readTest 129 = .ok (.iload_n 2, 1) := by decide +kernel
theorem dX11_readTest_130 : decode cX11_readTest 130 = .ok (.ifCond .ne 13, 3) := by decide +kernel
theorem dX11_readTest_133 : decode cX11_readTest 133 = .ok (.aload_n 0, 1) := by decide +kernel
theorem dX11_readTest_134 : decode cX11_readTest 134 = .ok (.iconst 0, 1) := by decide +kernel
theorem dX11_readTest_135 : decode cX11_readTest 135 = .ok (.bipush 10, 2) := by decide +kernel
theorem dX11_readTest_137 : decode cX11_readTest 137 = .ok (.invokevirtual 245, 3) := by decide +kernel
theorem dX11_readTest_140 : decode cX11_readTest 140 = .ok (.goto 10, 3) := by decide +kernel
theorem dX11_readTest_143 : decode cX11_readTest 143 = .ok (.aload_n 0, 1) := by decide +kernel
theorem dX11_readTest_144 : decode cX11_readTest 144 = .ok (.sipush 9999, 3) := by decide +kernel
theorem dX11_readTest_147 : decode cX11_readTest 147 = .ok (.invokevirtual 277, 3) := by decide +kernel
theorem dX11_readTest_150 : decode cX11_readTest 150 = .ok (.iastore, 1) := by decide +kernel
theorem dX11_readTest_151 : decode cX11_readTest 151 = .ok (.return_, 1) := by decide +kernel
set_option maxRecDepth 20000 in
theorem ggX11_readRest_X11_readTold : GoodIn wsX11_readRest wsX11_readTold := goodIn_r _ [7, 8, 9, 10, 6, 11, 2, 12, 13, 14, 15, 16, 17, 18, 19, 20, 21, 22, 23, 24, 25, 26, 27, 28, 29, 30, 31, 32, 33, 34, 35, 36, 37, 38, 39, 40, 41, 42, 43, 44, 45, 46, 47, 48, 49, 50, 51, 52, 53, 54, 55, 56, 57, 58, 59, 60, 61, 62, 63, 64, 65, 66, 67, 68, 69, 70, 71, 72, 73, 74, 75, 76, 77, 78, 79, 80, 81, 82, 83, 84, 85, 86, 87, 88, 89, 90, 91, 92, 93, 94, 95, 96, 97, 98, 99, 100, 101, 102, 103, 104, 105, 106, 107, 108, 109, 110, 111, 112, 113, 114, 115, 116, 117, 118, 119, 120, 121, 122, 123, 124, 125, 126, 127, 128, 129, 1, 130, 131, 132, 133, 134, 135, 136, 137, 138, 139, 140, 141, 142, 143, 144, 145, 146, 147, 148, 149, 150, 151, 152, 153, 154, 155, 156, 157, 158, 159, 160, 180, 181, 182, 183, 184, 185, 186, 187, 188, 189, 190, 191, 192, 193, 194, 195, 196, 197, 198, 199, 200, 201, 202, 203, 204, 205, 206, 207, 208, 209, 210, 211, 212, 213, 214, 215, 216, 217, 218, 219, 220, 221, 222, 223, 224, 225] (by decide +kernel) (by decide +kernel)
set_option maxRecDepth 20000 in
theorem gX11_readRest_X11_readTold : GoodIn wsX11_readRest (wsV RX11 280 RX11 yX11_readTold wsX11_readTold) := goodIn_app (goodIn_of _ (by decide +kernel)) ggX11_readRest_X11_readTold
set_option maxRecDepth 20000 in
theorem ggX11_readRest_X11_count : GoodIn wsX11_readRest wsX11_count := goodIn_r _ [164, 2, 21, 145, 12, 117, 118, 119, 6, 120, 121, 122, 123, 124, 125, 165, 166, 167, 138, 139, 140, 141, 142, 143, 40, 35, 34, 144, 22, 146, 147, 148, 149, 150, 151, 152, 153, 154, 155, 156, 157, 158, 159, 160, 180, 181, 182, 183, 184, 185, 186, 187, 188, 189, 190, 191, 192, 193, 194, 195, 196, 197, 198, 199, 200, 201, 202, 203, 204, 205, 206, 207, 208, 209, 210, 211, 212, 213, 214, 215, 216, 217, 218, 219, 220, 221, 222, 223, 224, 225] (by decide +kernel) (by decide +kernel)
set_option maxRecDepth 20000 in
theorem gX11_readRest_X11_count : GoodIn wsX11_readRest (wsV RX11 245 RX11 yX11_count wsX11_count) := goodIn_app (goodIn_of _ (by decide +kernel)) ggX11_readRest_X11_count
set_option maxRecDepth 20000 in
theorem ggX11_readRest_X11_readTest : GoodIn wsX11_readRest wsX11_readTest := goodIn_r _ [171, 1, 2, 21, 145, 101, 102, 103, 6, 104, 31, 32, 33, 34, 35, 36, 37, 38, 39, 40, 105, 106, 107, 108, 53, 109, 110, 111, 112, 134, 135, 136, 137, 138, 139, 140, 141, 142, 12, 143, 144, 22, 146, 147, 148, 149, 150, 151, 152, 153, 154, 155, 156, 157, 158, 159, 160, 117, 118, 119, 120, 121, 122, 123, 124, 125, 3, 4, 5, 7, 8, 9, 10, 11, 13, 14, 15, 16, 17, 18, 19, 20, 23, 24, 25, 26, 27, 28, 29, 30, 41, 42, 43, 44, 45, 46, 47, 48, 49, 50, 51, 52, 54, 55, 56, 57, 58, 59, 60, 61, 62, 63, 64, 65, 66, 67, 68, 69, 70, 71, 72, 73, 74, 75, 76, 77, 78, 79, 80, 81, 82, 83, 84, 85, 86, 87, 88, 89, 90, 91, 92, 93, 94, 95, 96, 97, 98, 99, 100, 113, 114, 115, 116, 126, 127, 128, 129, 130, 131, 132, 133, 172, 173, 174, 175, 161, 162, 163, 164, 165, 166, 167, 176, 177, 178, 179, 180, 181, 182, 183, 184, 185, 186, 187, 188, 189, 190, 191, 192, 193, 194, 195, 196, 197, 198, 199, 200, 201, 202, 203, 204, 205, 206, 207, 208, 209, 210, 211, 212, 213, 214, 215, 216, 217, 218, 219, 220, 221, 222, 223, 224, 225] (by decide +kernel) (by decide +kernel)
set_option maxRecDepth 20000 in
theorem gX11_readRest_X11_readTest : GoodIn wsX11_readRest (wsV RX11 323 RX11 yX11_readTest wsX11_readTest) := goodIn_app (goodIn_of _ (by decide +kernel)) ggX11_readRest_X11_readTest
set_option maxRecDepth 20000 in
theorem ggX11_readRest_X11_isLess : GoodIn wsX11_readRest wsX11_isLess := goodIn_r _ [48, 31, 32, 6, 33, 34, 35, 36, 37, 38, 39, 21, 40, 180, 181, 182, 183, 184, 185, 186, 187, 188, 189, 190, 191, 192, 193, 194, 195, 196, 197, 198, 199, 200, 201, 202, 203, 204, 205, 206, 207, 208, 209, 210, 211, 212, 213, 214, 215, 216, 217, 218, 219, 220, 221, 222, 223, 224, 225] (by decide +kernel) (by decide +kernel)
set_option maxRecDepth 20000 in
theorem gX11_readRest_X11_isLess : GoodIn wsX11_readRest (wsV RX11 180 RX11 yX11_isLess wsX11_isLess) := goodIn_app (goodIn_of _ (by decide +kernel)) ggX11_readRest_X11_isLess
set_option maxRecDepth 20000 in
theorem ggX11_readRest_X11_next : GoodIn wsX11_readRest wsX11_next := goodIn_r _ [141, 142, 12, 143, 21, 40, 35, 34, 144, 22, 145, 146, 147, 148, 6, 149, 150, 151, 152, 153, 154, 155, 156, 157, 158, 159, 160, 180, 181, 182, 183, 184, 185, 186, 187, 188, 189, 190, 191, 192, 193, 194, 195, 196, 197, 198, 199, 200, 201, 202, 203, 204, 205, 206, 207, 208, 209, 210, 211, 212, 213, 214, 215, 216, 217, 218, 219, 220, 221, 222, 223, 224, 225] (by decide +kernel) (by decide +kernel)
set_option maxRecDepth 20000 in
theorem gX11_readRest_X11_next : GoodIn wsX11_readRest (wsV RX11 239 RX11 yX11_next wsX11_next) := goodIn_app (goodIn_of _ (by decide +kernel)) ggX11_readRest_X11_next
theorem dX11_readRest_0 : decode cX11_readRest 0 = .ok (.aload_n 0, 1) := by decide +kernel
theorem dX11_readRest_1 : decode cX11_readRest 1 = .ok (.getfield 35, 3) := by decide +kernel
theorem dX11_readRest_4 : decode cX11_readRest 4 = .ok (.iload_n 1, 1) := by decide +kernel
theorem dX11_readRest_5 : decode cX11_readRest 5 = .ok (.iaload, 1) := by decide +kernel
theorem dX11_readRest_6 : decode cX11_readRest 6 = .ok (.istore_n 2, 1) := by decide +kernel
theorem dX11_readRest_7 : decode cX11_readRest 7 = .ok (.iload_n 2, 1) := by decide +kernel
theorem dX11_readRest_8 : decode cX11_readRest 8 = .ok (.ifCond .ne 20, 3) := by decide +kernel
theorem dX11_readRest_11 : decode cX11_readRest 11 = .ok (.aload_n 0, 1) := by decide +kernel
theorem dX11_readRest_12 : decode cX11_readRest 12 = .ok (.getfield 35, 3) := by decide +kernel
theorem dX11_readRest_15 : decode cX11_readRest 15 = .ok (.iload_n 1, 1) := by decide +kernel
theorem dX11_readRest_16 : decode cX11_readRest 16 = .ok (.iconst 1, 1) := by decide +kernel
theorem dX11_readRest_17 : decode cX11_readRest 17 = .ok (.iadd, 1) := by decide +kernel
theorem dX11_readRest_18 : decode cX11_readRest 18 = .ok (.aload_n 0, 1) := by decide +kernel
theorem dX11_readRest_19 : decode cX11_readRest 19 = .ok (.iconst 0, 1) := by decide +kernel
theorem dX11_readRest_20 : decode cX11_readRest 20 = .ok (.iconst 1, 1) := by decide +kernel
theorem dX11_readRest_21 : decode cX11_readRest 21 = .ok (.invokevirtual 280, 3) := by decide +kernel
theorem dX11_readRest_24 : decode cX11_readRest 24 = .ok (.iastore, 1) := by decide +kernel
theorem dX11_readRest_25 : decode cX11_readRest 25 = .ok (.goto 122, 3) := by decide +kernel
theorem dX11_readRest_28 : decode cX11_readRest 28 = .ok (.iload_n 2, 1) := by decide +kernel
theorem dX11_readRest_29 : decode cX11_readRest 29 = .ok (.iconst 1, 1) := by decide +kernel
theorem dX11_readRest_30 : decode cX11_readRest 30 = .ok (.if_icmp .eq 9, 3) := by decide +kernel
theorem dX11_readRest_33 : decode cX11_readRest 33 = .ok (.iload_n 2, 1) := by decide +kernel
theorem dX11_readRest_34 : decode cX11_readRest 34 = .ok (.bipush 8, 2) := by decide +kernel
theorem dX11_readRest_36 : decode cX11_readRest 36 = .ok (.if_icmp .ne 21, 3) := by decide +kernel
theorem dX11_readRest_39 : decode cX11_readRest 39 = .ok (.aload_n 0, 1) := by decide +kernel
theorem dX11_readRest_40 : decode cX11_readRest 40 = .ok (.getfield 35, 3) := by decide +kernel
theorem dX11_readRest_43 : decode cX11_readRest 43 = .ok (.iload_n 1, 1) := by decide +kernel
theorem dX11_readRest_44 : decode cX11_readRest 44 = .ok (.iconst 1, 1) := by decide +kernel
theorem dX11_readRest_45 : decode cX11_readRest 45 = .ok (.iadd, 1) := by decide +kernel
theorem dX11_readRest_46 : decode cX11_readRest 46 = .ok (.aload_n 0, 1) := by decide +kernel
theorem dX11_readRest_47 : decode cX11_readRest 47 = .ok (.iconst 1, 1) := by decide +kernel
theorem dX11_readRest_48 : decode cX11_readRest 48 = .ok (.bipush 99, 2) := by decide +kernel
theorem dX11_readRest_50 : decode cX11_readRest 50 = .ok (.invokevirtual 245, 3) := by decide +kernel
theorem dX11_readRest_53 : decode cX11_readRest 53 = .ok (.iastore, 1) := by decide +kernel
theorem dX11_readRest_54 : decode cX11_readRest 54 = .ok (.goto 93, 3) := by decide +kernel
theorem dX11_readRest_57 : decode cX11_readRest 57 = .ok (.iload_n 2, 1) := by decide +kernel
theorem dX11_readRest_58 : decode cX11_readRest 58 = .ok (.bipush 7, 2) := by decide +kernel
theorem dX11_readRest_60 : decode cX11_readRest 60 = .ok (.if_icmp .ne 11, 3) := by decide +kernel
theorem dX11_readRest_63 : decode cX11_readRest 63 = .ok (.aload_n 0, 1) := by decide +kernel
theorem dX11_readRest_64 : decode cX11_readRest 64 = .ok (.iload_n 1, 1) := by decide +kernel
theorem dX11_readRest_65 : decode cX11_readRest 65 = .ok (.invokevirtual 323, 3) := by decide +kernel
theorem dX11_readRest_68 : decode cX11_readRest 68 = .ok (.goto 79, 3) := by decide +kernel
theorem dX11_readRest_71 : decode cX11_readRest 71 = .ok (.iload_n 2, 1) := by decide +kernel
theorem dX11_readRest_72 : decode cX11_readRest 72 = .ok (.iconst 3, 1) := by decide +kernel
theorem dX11_readRest_73 : decode cX11_readRest 73 = .ok (.if_icmp .eq 13, 3) := by decide +kernel
theorem dX11_readRest_76 : decode cX11_readRest 76 = .ok (.iload_n 2, 1) := by decide +kernel
theorem dX11_readRest_77 : decode cX11_readRest 77 = .ok (.iconst 4, 1) := by decide +kernel
theorem dX11_readRest_78 : decode cX11_readRest 78 = .ok (.if_icmp .eq 8, 3) := by decide +kernel
theorem dX11_readRest_81 : decode cX11_readRest 81 = .ok (.iload_n 2, 1) := by decide +kernel
theorem dX11_readRest_82 : decode cX11_readRest 82 = .ok (.iconst 5, 1) := by decide +kernel
theorem dX11_readRest_83 : decode cX11_readRest 83 = .ok (.if_icmp .ne 64, 3) := by decide +kernel
theorem dX11_readRest_86 : decode cX11_readRest 86 = .ok (.aload_n 0, 1) := by decide +kernel
theorem dX11_readRest_87 : decode cX11_readRest 87 = .ok (.getfield 35, 3) := by decide +kernel
theorem dX11_readRest_90 : decode cX11_readRest 90 = .ok (.iload_n 1, 1) := by decide +kernel
theorem dX11_readRest_91 : decode cX11_readRest 91 = .ok (.iconst 1, 1) := by decide +kernel
theorem dX11_readRest_92 : decode cX11_readRest 92 = .ok (.iadd, 1) := by decide +kernel
theorem dX11_readRest_93 : decode cX11_readRest 93 = .ok (.aload_n 0, 1) := by decide +kernel
theorem dX11_readRest_94 : decode cX11_readRest 94 = .ok (.iconst 0, 1) := by decide +kernel
theorem dX11_readRest_95 : decode cX11_readRest 95 = .ok (.iconst 0, 1) := by decide +kernel
theorem dX11_readRest_96 : decode cX11_readRest 96 = .ok (.invokevirtual 280, 3) := by decide +kernel
theorem dX11_readRest_99 : decode cX11_readRest 99 = .ok (.iastore, 1) := by decide +kernel
theorem dX11_readRest_100 : decode cX11_readRest 100 = .ok (.aload_n 0, 1) := by decide +kernel
theorem dX11_readRest_101 : decode cX11_readRest 101 = .ok (.getfield 35, 3) := by decide +kernel
theorem dX11_readRest_104 : decode cX11_readRest 104 = .ok (.iload_n 1, 1) := by decide +kernel
theorem dX11_readRest_105 : decode cX11_readRest 105 = .ok (.iconst 2, 1) := by decide +kernel
theorem dX11_readRest_106 : decode cX11_readRest 106 = .ok (.iadd, 1) := by decide +kernel
theorem dX11_readRest_107 : decode cX11_readRest 107 = .ok (.iload_n 2, 1) := by decide +kernel
theorem dX11_readRest_108 : decode cX11_readRest 108 = .ok (.iconst 5, 1) := by decide +kernel
theorem dX11_readRest_109 : decode cX11_readRest 109 = .ok (.if_icmp .ne 21, 3) := by decide +kernel
theorem dX11_readRest_112 : decode cX11_readRest 112 = .ok (.aload_n 0, 1) := by decide +kernel
theorem dX11_readRest_113 : decode cX11_readRest 113 = .ok (.getfield 229, 3) := by decide +kernel
theorem dX11_readRest_116 : decode cX11_readRest 116 = .ok (.ifCond .ne 14, 3) := by decide +kernel
theorem dX11_readRest_119 : decode cX11_readRest 119 = .ok (.aload_n 0, 1) := by decide +kernel
theorem dX11_readRest_120 : decode cX11_readRest 120 = .ok (.invokevirtual 180, 3) := by decide +kernel
theorem dX11_readRest_123 : decode cX11_readRest 123 = .ok (.ifCond .eq 7, 3) := by decide +kernel
theorem dX11_readRest_126 : decode cX11_readRest 126 = .ok (.iconst (-1), 1) := by decide +kernel
theorem dX11_readRest_127 : decode cX11_readRest 127 = .ok (.goto 4, 3) := by decide +kernel
theorem dX11_readRest_130 : decode cX11_readRest 130 = .ok (.iconst 1, 1) := by decide +kernel
theorem dX11_readRest_131 : decode cX11_readRest 131 = .ok (.iastore, 1) := by decide +kernel
theorem dX11_readRest_132 : decode cX11_readRest 132 = .ok (.aload_n 0, 1) := by decide +kernel
theorem dX11_readRest_133 : decode cX11_readRest 133 = .ok (.getfield 35, 3) := by decide +kernel
theorem dX11_readRest_136 : decode cX11_readRest 136 = .ok (.iload_n 1, 1) := by decide +kernel
theorem dX11_readRest_137 : decode cX11_readRest 137 = .ok (.iconst 2, 1) := by decide +kernel
theorem dX11_readRest_138 : decode cX11_readRest 138 = .ok (.iadd, 1) := by decide +kernel
theorem dX11_readRest_139 : decode cX11_readRest 139 = .ok (.iaload, 1) := by decide +kernel
theorem dX11_readRest_140 : decode cX11_readRest 140 = .ok (.ifCond .ge 7, 3) := by decide +kernel
theorem dX11_readRest_143 : decode cX11_readRest 143 = .ok (.aload_n 0, 1) := by decide +kernel
theorem dX11_readRest_144 : decode cX11_readRest 144 = .ok (.invokevirtual 239, 3) := by decide +kernel
theorem dX11_readRest_147 : decode cX11_readRest 147 = .ok (.return_, 1) := by decide +kernel
set_option maxRecDepth 20000 in
theorem ggX11_readStep_X11_stepWord : GoodIn wsX11_readStep wsX11_stepWord := goodIn_r _ [9, 10, 11, 12, 13, 8, 14, 15, 16, 17, 18, 19, 20, 21, 188, 189, 190, 191, 192, 193, 194, 195, 196, 197, 198, 199, 200, 201, 202, 203, 204, 205, 206, 207, 208, 209, 210, 211, 212, 213, 214, 215, 216, 217, 218, 219, 220, 221, 222, 223, 224, 225, 226, 227, 228, 229, 230, 231, 232, 233] (by decide +kernel) (by decide +kernel)
set_option maxRecDepth 20000 in
theorem gX11_readStep_X11_stepWord : GoodIn wsX11_readStep (wsV RX11 217 RX11 yX11_stepWord wsX11_stepWord) := goodIn_app (goodIn_of _ (by decide +kernel)) ggX11_readStep_X11_stepWord
set_option maxRecDepth 20000 in
theorem ggX11_readStep_X11_wrong : GoodIn wsX11_readStep wsX11_wrong := goodIn_r _ [25, 20, 3, 26, 27, 28, 8, 29, 1, 30, 188, 189, 190, 191, 192, 193, 194, 195, 196, 197, 198, 199, 200, 201, 202, 203, 204, 205, 206, 207, 208, 209, 210, 211, 212, 213, 214, 215, 216, 217, 218, 219, 220, 221, 222, 223, 224, 225, 226, 227, 228, 229, 230, 231, 232, 233] (by decide +kernel) (by decide +kernel)
set_option maxRecDepth 20000 in
theorem gX11_readStep_X11_wrong : GoodIn wsX11_readStep (wsV RX11 242 RX11 yX11_wrong wsX11_wrong) := goodIn_app (goodIn_of _ (by decide +kernel)) ggX11_readStep_X11_wrong
set_option maxRecDepth 20000 in
theorem ggX11_readStep_X11_fail : GoodIn wsX11_readStep wsX11_fail := goodIn_r _ [29, 1, 30, 188, 189, 190, 191, 192, 193, 194, 195, 196, 197, 198, 199, 200, 201, 202, 203, 204, 205, 206, 207, 208, 209, 210, 211, 212, 213, 214, 215, 216, 217, 218, 219, 220, 221, 222, 223, 224, 225, 226, 227, 228, 229, 230, 231, 232, 233] (by decide +kernel) (by decide +kernel)
set_option maxRecDepth 20000 in
theorem gX11_readStep_X11_fail : GoodIn wsX11_readStep (wsV RX11 235 RX11 yX11_fail wsX11_fail) := goodIn_app (goodIn_of _ (by decide +kernel)) ggX11_readStep_X11_fail
set_option maxRecDepth 20000 in
theorem ggX11_readStep_X11_next : GoodIn wsX11_readStep wsX11_next := goodIn_r _ [34, 35, 3, 36, 20, 21, 10, 15, 37, 38, 39, 40, 41, 42, 8, 43, 44, 45, 46, 47, 48, 49, 50, 51, 52, 53, 54, 188, 189, 190, 191, 192, 193, 194, 195, 196, 197, 198, 199, 200, 201, 202, 203, 204, 205, 206, 207, 208, 209, 210, 211, 212, 213, 214, 215, 216, 217, 218, 219, 220, 221, 222, 223, 224, 225, 226, 227, 228, 229, 230, 231, 232, 233] (by decide +kernel) (by decide +kernel)
set_option maxRecDepth 20000 in
theorem gX11_readStep_X11_next : GoodIn wsX11_readStep (wsV RX11 239 RX11 yX11_next wsX11_next) := goodIn_app (goodIn_of _ (by decide +kernel)) ggX11_readStep_X11_next
set_option maxRecDepth 20000 in
theorem ggX11_readStep_X11_readRest : GoodIn wsX11_readStep wsX11_readRest := goodIn_r _ [58, 4, 1, 59, 60, 61, 8, 62, 63, 64, 65, 66, 3, 67, 68, 69, 70, 71, 72, 73, 74, 20, 38, 75, 76, 77, 78, 79, 80, 81, 82, 12, 13, 14, 15, 10, 16, 17, 18, 19, 21, 83, 84, 85, 86, 87, 88, 89, 90, 91, 92, 93, 94, 95, 96, 97, 98, 99, 100, 101, 102, 103, 104, 105, 106, 107, 108, 109, 110, 111, 112, 113, 114, 115, 116, 117, 118, 119, 120, 121, 122, 123, 124, 125, 126, 127, 128, 129, 130, 131, 132, 133, 134, 135, 136, 137, 5, 6, 7, 9, 11, 138, 139, 140, 141, 142, 143, 144, 145, 146, 147, 148, 149, 150, 151, 152, 153, 22, 23, 24, 25, 26, 27, 28, 29, 30, 154, 155, 156, 157, 158, 159, 160, 161, 162, 163, 164, 165, 31, 32, 33, 34, 35, 36, 37, 39, 40, 41, 42, 43, 44, 45, 46, 47, 48, 49, 50, 51, 52, 53, 54, 166, 167, 168, 169, 170, 171, 172, 173, 174, 175, 176, 177, 178, 179, 180, 181, 182, 183, 184, 188, 189, 190, 191, 192, 193, 194, 195, 196, 197, 198, 199, 200, 201, 202, 203, 204, 205, 206, 207, 208, 209, 210, 211, 212, 213, 214, 215, 216, 217, 218, 219, 220, 221, 222, 223, 224, 225, 226, 227, 228, 229, 230, 231, 232, 233] (by decide +kernel) (by decide +kernel)
set_option maxRecDepth 20000 in
theorem gX11_readStep_X11_readRest : GoodIn wsX11_readStep (wsV RX11 329 RX11 yX11_readRest wsX11_readRest) := goodIn_app (goodIn_of _ (by decide +kernel)) ggX11_readStep_X11_readRest
set_option maxRecDepth 20000 in
theorem ggX11_readStep_X11_isSign : GoodIn wsX11_readStep wsX11_isSign := goodIn_r _ [180, 20, 39, 188, 189, 190, 191, 192, 193, 194, 195, 196, 197, 198, 199, 200, 201, 202, 203, 204, 205, 206, 207, 208, 209, 210, 211, 212, 213, 214, 215, 216, 217, 218, 219, 220, 221, 222, 223, 224, 225, 226, 227, 228, 229, 230, 231, 232, 233] (by decide +kernel) (by decide +kernel)
set_option maxRecDepth 20000 in
theorem gX11_readStep_X11_isSign : GoodIn wsX11_readStep (wsV RX11 314 RX11 yX11_isSign wsX11_isSign) := goodIn_app (goodIn_of _ (by decide +kernel)) ggX11_readStep_X11_isSign
set_option maxRecDepth 20000 in
theorem ggX11_readStep_X11_must : GoodIn wsX11_readStep wsX11_must := goodIn_r _ [165, 1, 31, 32, 33, 8, 34, 35, 3, 36, 20, 21, 10, 15, 37, 38, 39, 40, 41, 42, 43, 44, 45, 46, 47, 48, 49, 50, 51, 52, 53, 54, 22, 23, 24, 25, 26, 27, 28, 29, 30, 188, 189, 190, 191, 192, 193, 194, 195, 196, 197, 198, 199, 200, 201, 202, 203, 204, 205, 206, 207, 208, 209, 210, 211, 212, 213, 214, 215, 216, 217, 218, 219, 220, 221, 222, 223, 224, 225, 226, 227, 228, 229, 230, 231, 232, 233] (by decide +kernel) (by decide +kernel)
set_option maxRecDepth 20000 in
theorem gX11_readStep_X11_must : GoodIn wsX11_readStep (wsV RX11 270 RX11 yX11_must wsX11_must) := goodIn_app (goodIn_of _ (by decide +kernel)) ggX11_readStep_X11_must
set_option maxRecDepth 20000 in
theorem ggX11_readStep_X11_isEnd : GoodIn wsX11_readStep wsX11_isEnd := goodIn_r _ [153, 12, 13, 8, 14, 15, 10, 16, 17, 18, 19, 20, 21, 188, 189, 190, 191, 192, 193, 194, 195, 196, 197, 198, 199, 200, 201, 202, 203, 204, 205, 206, 207, 208, 209, 210, 211, 212, 213, 214, 215, 216, 217, 218, 219, 220, 221, 222, 223, 224, 225, 226, 227, 228, 229, 230, 231, 232, 233] (by decide +kernel) (by decide +kernel)
set_option maxRecDepth 20000 in
theorem gX11_readStep_X11_isEnd : GoodIn wsX11_readStep (wsV RX11 223 RX11 yX11_isEnd wsX11_isEnd) := goodIn_app (goodIn_of _ (by decide +kernel)) ggX11_readStep_X11_isEnd
set_option maxRecDepth 20000 in
theorem ggX11_readStep_X11_readStep : GoodIn wsX11_readStep wsX11_readStep := goodIn_r _ [0, 1, 2, 3, 4, 5, 6, 7, 8, 9, 10, 11, 12, 13, 14, 15, 16, 17, 18, 19, 20, 21, 22, 23, 24, 25, 26, 27, 28, 29, 30, 31, 32, 33, 34, 35, 36, 37, 38, 39, 40, 41, 42, 43, 44, 45, 46, 47, 48, 49, 50, 51, 52, 53, 54, 55, 56, 57, 58, 59, 60, 61, 62, 63, 64, 65, 66, 67, 68, 69, 70, 71, 72, 73, 74, 75, 76, 77, 78, 79, 80, 81, 82, 83, 84, 85, 86, 87, 88, 89, 90, 91, 92, 93, 94, 95, 96, 97, 98, 99, 100, 101, 102, 103, 104, 105, 106, 107, 108, 109, 110, 111, 112, 113, 114, 115, 116, 117, 118, 119, 120, 121, 122, 123, 124, 125, 126, 127, 128, 129, 130, 131, 132, 133, 134, 135, 136, 137, 138, 139, 140, 141, 142, 143, 144, 145, 146, 147, 148, 149, 150, 151, 152, 153, 154, 155, 156, 157, 158, 159, 160, 161, 162, 163, 164, 165, 166, 167, 168, 169, 170, 171, 172, 173, 174, 175, 176, 177, 178, 179, 180, 181, 182, 183, 184, 185, 186, 187, 188, 189, 190, 191, 192, 193, 194, 195, 196, 197, 198, 199, 200, 201, 202, 203, 204, 205, 206, 207, 208, 209, 210, 211, 212, 213, 214, 215, 216, 217, 218, 219, 220, 221, 222, 223, 224, 225, 226, 227, 228, 229, 230, 231, 232, 233] (by decide +kernel) (by decide +kernel)
set_option maxRecDepth 20000 in
theorem gX11_readStep_X11_readStep : GoodIn wsX11_readStep (wsV RX11 332 RX11 yX11_readStep wsX11_readStep) := goodIn_app (goodIn_of _ (by decide +kernel)) ggX11_readStep_X11_readStep
theorem dX11_readStep_0 : decode cX11_readStep 0 = .ok (.aload_n 0, 1) := by decide +kernel
theorem dX11_readStep_1 : decode cX11_readStep 1 = .ok (.invokevirtual 217, 3) := by decide +kernel
theorem dX11_readStep_4 : decode cX11_readStep 4 = .ok (.istore_n 2, 1) := by decide +kernel
theorem dX11_readStep_5 : decode cX11_readStep 5 = .ok (.iload_n 2, 1) := by decide +kernel
theorem dX11_readStep_6 : decode cX11_readStep 6 = .ok (.bipush 7, 2) := by decide +kernel
theorem dX11_readStep_8 : decode cX11_readStep 8 = .ok (.if_icmp .eq 9, 3) := by decide +kernel
theorem dX11_readStep_11 : decode cX11_readStep 11 = .ok (.iload_n 2, 1) := by decide +kernel
theorem dX11_readStep_12 : decode cX11_readStep 12 = .ok (.bipush 8, 2) := by decide +kernel
theorem dX11_readStep_14 : decode cX11_readStep 14 = .ok (.if_icmp .ne 7, 3) := by decide +kernel
theorem dX11_readStep_17 : decode cX11_readStep 17 = .ok (.iconst 1, 1) := by decide +kernel
theorem dX11_readStep_18 : decode cX11_readStep 18 = .ok (.goto 4, 3) := by decide +kernel
theorem dX11_readStep_21 : decode cX11_readStep 21 = .ok (.iconst 0, 1) := by decide +kernel
theorem dX11_readStep_22 : decode cX11_readStep 22 = .ok (.istore_n 3, 1) := by decide +kernel
theorem dX11_readStep_23 : decode cX11_readStep 23 = .ok (.iload_n 2, 1) := by decide +kernel
theorem dX11_readStep_24 : decode cX11_readStep 24 = .ok (.ifCond .ge 7, 3) := by decide +kernel
theorem dX11_readStep_27 : decode cX11_readStep 27 = .ok (.aload_n 0, 1) := by decide +kernel
theorem dX11_readStep_28 : decode cX11_readStep 28 = .ok (.invokevirtual 242, 3) := by decide +kernel
theorem dX11_readStep_31 : decode cX11_readStep 31 = .ok (.aload_n 0, 1) := by decide +kernel
theorem dX11_readStep_32 : decode cX11_readStep 32 = .ok (.getfield 229, 3) := by decide +kernel
theorem dX11_readStep_35 : decode cX11_readStep 35 = .ok (.ifCond .ne 22, 3) := by decide +kernel
theorem dX11_readStep_38 : decode cX11_readStep 38 = .ok (.aload_n 0, 1) := by decide +kernel
theorem dX11_readStep_39 : decode cX11_readStep 39 = .ok (.getfield 326, 3) := by decide +kernel
theorem dX11_readStep_42 : decode cX11_readStep 42 = .ok (.bipush 30, 2) := by decide +kernel
theorem dX11_readStep_44 : decode cX11_readStep 44 = .ok (.if_icmp .ne 13, 3) := by decide +kernel
theorem dX11_readStep_47 : decode cX11_readStep 47 = .ok (.aload_n 0, 1) := by decide +kernel
theorem dX11_readStep_48 : decode cX11_readStep 48 = .ok (.bipush 6, 2) := by decide +kernel
theorem dX11_readStep_50 : decode cX11_readStep 50 = .ok (.aload_n 0, 1) := by decide +kernel
theorem dX11_readStep_51 : decode cX11_readStep 51 = .ok (.getfield 120, 3) := by decide +kernel
theorem dX11_readStep_54 : decode cX11_readStep 54 = .ok (.invokevirtual 235, 3) := by decide +kernel
theorem dX11_readStep_57 : decode cX11_readStep 57 = .ok (.aload_n 0, 1) := by decide +kernel
theorem dX11_readStep_58 : decode cX11_readStep 58 = .ok (.getfield 229, 3) := by decide +kernel
theorem dX11_readStep_61 : decode cX11_readStep 61 = .ok (.ifCond .ne 22, 3) := by decide +kernel
theorem dX11_readStep_64 : decode cX11_readStep 64 = .ok (.iload_n 3, 1) := by decide +kernel
theorem dX11_readStep_65 : decode cX11_readStep 65 = .ok (.ifCond .eq 18, 3) := by decide +kernel
theorem dX11_readStep_68 : decode cX11_readStep 68 = .ok (.iload_n 1, 1) := by decide +kernel
theorem dX11_readStep_69 : decode cX11_readStep 69 = .ok (.iconst 3, 1) := by decide +kernel
theorem dX11_readStep_70 : decode cX11_readStep 70 = .ok (.if_icmp .ne 13, 3) := by decide +kernel
theorem dX11_readStep_73 : decode cX11_readStep 73 = .ok (.aload_n 0, 1) := by decide +kernel
theorem dX11_readStep_74 : decode cX11_readStep 74 = .ok (.bipush 7, 2) := by decide +kernel
theorem dX11_readStep_76 : decode cX11_readStep 76 = .ok (.aload_n 0, 1) := by decide +kernel
theorem dX11_readStep_77 : decode cX11_readStep 77 = .ok (.getfield 120, 3) := by decide +kernel
theorem dX11_readStep_80 : decode cX11_readStep 80 = .ok (.invokevirtual 235, 3) := by decide +kernel
theorem dX11_readStep_83 : decode cX11_readStep 83 = .ok (.aload_n 0, 1) := by decide +kernel
theorem dX11_readStep_84 : decode cX11_readStep 84 = .ok (.getfield 229, 3) := by decide +kernel
theorem dX11_readStep_87 : decode cX11_readStep 87 = .ok (.ifCond .le 4, 3) := by decide +kernel
theorem dX11_readStep_90 : decode cX11_readStep 90 = .ok (.return_, 1) := by decide +kernel
theorem dX11_readStep_91 : decode cX11_readStep 91 = .ok (.sipush 2100, 3) := by decide +kernel
theorem dX11_readStep_94 : decode cX11_readStep 94 = .ok (.bipush 9, 2) := by decide +kernel
theorem dX11_readStep_96 : decode cX11_readStep 96 = .ok (.aload_n 0, 1) := by decide +kernel
theorem dX11_readStep_97 : decode cX11_readStep 97 = .ok (.getfield 326, 3) := by decide +kernel
theorem dX11_readStep_100 : decode cX11_readStep 100 = .ok (.imul, 1) := by decide +kernel
theorem dX11_readStep_101 : decode cX11_readStep 101 = .ok (.iadd, 1) := by decide +kernel
theorem dX11_readStep_102 : decode cX11_readStep 102 = .ok (.istore 4, 2) := by decide +kernel
theorem dX11_readStep_104 : decode cX11_readStep 104 = .ok (.aload_n 0, 1) := by decide +kernel
theorem dX11_readStep_105 : decode cX11_readStep 105 = .ok (.dup, 1) := by decide +kernel
theorem dX11_readStep_106 : decode cX11_readStep 106 = .ok (.getfield 326, 3) := by decide +kernel
theorem dX11_readStep_109 : decode cX11_readStep 109 = .ok (.iconst 1, 1) := by decide +kernel
theorem dX11_readStep_110 : decode cX11_readStep 110 = .ok (.iadd, 1) := by decide +kernel
theorem dX11_readStep_111 : decode cX11_readStep 111 = .ok (.putfield 326, 3) := by decide +kernel
theorem dX11_readStep_114 : decode cX11_readStep 114 = .ok (.aload_n 0, 1) := by decide +kernel
theorem dX11_readStep_115 : decode cX11_readStep 115 = .ok (.invokevirtual 239, 3) := by decide +kernel
theorem dX11_readStep_118 : decode cX11_readStep 118 = .ok (.aload_n 0, 1) := by decide +kernel
theorem dX11_readStep_119 : decode cX11_readStep 119 = .ok (.getfield 35, 3) := by decide +kernel
theorem dX11_readStep_122 : decode cX11_readStep 122 = .ok (.iload 4, 2) := by decide +kernel
theorem dX11_readStep_124 : decode cX11_readStep 124 = .ok (.iload_n 2, 1) := by decide +kernel
theorem dX11_readStep_125 : decode cX11_readStep 125 = .ok (.iastore, 1) := by decide +kernel
theorem dX11_readStep_126 : decode cX11_readStep 126 = .ok (.aload_n 0, 1) := by decide +kernel
theorem dX11_readStep_127 : decode cX11_readStep 127 = .ok (.iload 4, 2) := by decide +kernel
theorem dX11_readStep_129 : decode cX11_readStep 129 = .ok (.invokevirtual 329, 3) := by decide +kernel
theorem dX11_readStep_132 : decode cX11_readStep 132 = .ok (.aload_n 0, 1) := by decide +kernel
theorem dX11_readStep_133 : decode cX11_readStep 133 = .ok (.aload_n 0, 1) := by decide +kernel
theorem dX11_readStep_134 : decode cX11_readStep 134 = .ok (.bipush 59, 2) := by decide +kernel
theorem dX11_readStep_136 : decode cX11_readStep 136 = .ok (.invokevirtual 314, 3) := by decide +kernel
theorem dX11_readStep_139 : decode cX11_readStep 139 = .ok (.invokevirtual 270, 3) := by decide +kernel
theorem dX11_readStep_142 : decode cX11_readStep 142 = .ok (.iload_n 3, 1) := by decide +kernel
theorem dX11_readStep_143 : decode cX11_readStep 143 = .ok (.ifCond .eq 27, 3) := by decide +kernel
theorem dX11_readStep_146 : decode cX11_readStep 146 = .ok (.aload_n 0, 1) := by decide +kernel
theorem dX11_readStep_147 : decode cX11_readStep 147 = .ok (.getfield 229, 3) := by decide +kernel
theorem dX11_readStep_150 : decode cX11_readStep 150 = .ok (.ifCond .ne 20, 3) := by decide +kernel
theorem dX11_readStep_153 : decode cX11_readStep 153 = .ok (.aload_n 0, 1) := by decide +kernel
theorem dX11_readStep_154 : decode cX11_readStep 154 = .ok (.invokevirtual 223, 3) := by decide +kernel
theorem dX11_readStep_157 : decode cX11_readStep 157 = .ok (.ifCond .ne 13, 3) := by decide +kernel
theorem dX11_readStep_160 : decode cX11_readStep 160 = .ok (.aload_n 0, 1) := by decide +kernel
theorem dX11_readStep_161 : decode cX11_readStep 161 = .ok (.iload_n 1, 1) := by decide +kernel
theorem dX11_readStep_162 : decode cX11_readStep 162 = .ok (.iconst 1, 1) := by decide +kernel
theorem dX11_readStep_163 : decode cX11_readStep 163 = .ok (.iadd, 1) := by decide +kernel
theorem dX11_readStep_164 : decode cX11_readStep 164 = .ok (.invokevirtual 332, 3) := by decide +kernel
theorem dX11_readStep_167 : decode cX11_readStep 167 = .ok (.goto (-25), 3) := by decide +kernel
theorem dX11_readStep_170 : decode cX11_readStep 170 = .ok (.iload_n 3, 1) := by decide +kernel
theorem dX11_readStep_171 : decode cX11_readStep 171 = .ok (.ifCond .eq 21, 3) := by decide +kernel
theorem dX11_readStep_174 : decode cX11_readStep 174 = .ok (.aload_n 0, 1) := by decide +kernel
theorem dX11_readStep_175 : decode cX11_readStep 175 = .ok (.aload_n 0, 1) := by decide +kernel
theorem dX11_readStep_176 : decode cX11_readStep 176 = .ok (.invokevirtual 223, 3) := by decide +kernel
theorem dX11_readStep_179 : decode cX11_readStep 179 = .ok (.invokevirtual 270, 3) := by decide +kernel
theorem dX11_readStep_182 : decode cX11_readStep 182 = .ok (.aload_n 0, 1) := by decide +kernel
theorem dX11_readStep_183 : decode cX11_readStep 183 = .ok (.aload_n 0, 1) := by decide +kernel
theorem dX11_readStep_184 : decode cX11_readStep 184 = .ok (.bipush 59, 2) := by decide +kernel
theorem dX11_readStep_186 : decode cX11_readStep 186 = .ok (.invokevirtual 314, 3) := by decide +kernel
theorem dX11_readStep_189 : decode cX11_readStep 189 = .ok (.invokevirtual 270, 3) := by decide +kernel
theorem dX11_readStep_192 : decode cX11_readStep 192 = .ok (.aload_n 0, 1) := by decide +kernel
theorem dX11_readStep_193 : decode cX11_readStep 193 = .ok (.getfield 35, 3) := by decide +kernel
theorem dX11_readStep_196 : decode cX11_readStep 196 = .ok (.iload 4, 2) := by decide +kernel
theorem dX11_readStep_198 : decode cX11_readStep 198 = .ok (.bipush 8, 2) := by decide +kernel
theorem dX11_readStep_200 : decode cX11_readStep 200 = .ok (.iadd, 1) := by decide +kernel
theorem dX11_readStep_201 : decode cX11_readStep 201 = .ok (.aload_n 0, 1) := by decide +kernel
theorem dX11_readStep_202 : decode cX11_readStep 202 = .ok (.getfield 326, 3) := by decide +kernel
theorem dX11_readStep_205 : decode cX11_readStep 205 = .ok (.iastore, 1) := by decide +kernel
theorem dX11_readStep_206 : decode cX11_readStep 206 = .ok (.return_, 1) := by decide +kernel
set_option maxRecDepth 20000 in
theorem ggX11_weeks_X11_starts : GoodIn wsX11_weeks wsX11_starts := goodIn_r _ [11, 12, 13, 14, 4, 15, 16, 17, 10, 18, 2, 19, 20, 21, 22, 23, 5, 24, 25, 26, 27, 28, 29, 30, 31, 32, 33, 34, 35, 36, 37, 38, 39, 40, 41, 42, 43, 44, 206, 207, 208, 209, 210, 211, 212, 213, 214, 215, 216, 217, 218, 219, 220, 221, 222, 223, 224, 225, 226, 227, 228, 229, 230, 231, 232, 233, 234, 235, 236, 237, 238, 239, 240, 241, 242, 243, 244, 245, 246, 247, 248, 249, 250, 251] (by decide +kernel) (by decide +kernel)
set_option maxRecDepth 20000 in
theorem gX11_weeks_X11_starts : GoodIn wsX11_weeks (wsV RX11 287 RX11 yX11_starts wsX11_starts) := goodIn_app (goodIn_of _ (by decide +kernel)) ggX11_weeks_X11_starts
set_option maxRecDepth 20000 in
theorem ggX11_weeks_X11_readStep : GoodIn wsX11_weeks wsX11_readStep := goodIn_r _ [48, 4, 3, 23, 6, 49, 50, 51, 10, 52, 25, 53, 54, 55, 56, 26, 57, 58, 59, 60, 5, 24, 61, 62, 63, 64, 65, 66, 67, 68, 69, 19, 20, 21, 22, 14, 13, 27, 28, 29, 30, 31, 32, 33, 34, 35, 36, 37, 38, 39, 40, 41, 42, 43, 44, 70, 71, 72, 73, 74, 75, 76, 77, 78, 79, 80, 81, 82, 83, 84, 85, 86, 87, 88, 89, 90, 91, 92, 93, 94, 95, 96, 97, 98, 99, 100, 101, 102, 103, 104, 105, 106, 107, 108, 109, 110, 111, 112, 113, 114, 115, 116, 117, 118, 119, 120, 121, 122, 123, 124, 125, 126, 127, 128, 129, 130, 131, 132, 133, 134, 135, 136, 137, 138, 139, 140, 141, 142, 143, 144, 145, 146, 147, 148, 149, 150, 151, 152, 153, 154, 155, 156, 157, 158, 159, 160, 161, 162, 163, 164, 165, 166, 167, 168, 169, 170, 171, 172, 173, 174, 175, 176, 177, 178, 179, 180, 181, 182, 183, 184, 185, 186, 187, 188, 189, 190, 191, 192, 193, 194, 195, 196, 197, 198, 199, 45, 46, 47, 206, 207, 208, 209, 210, 211, 212, 213, 214, 215, 216, 217, 218, 219, 220, 221, 222, 223, 224, 225, 226, 227, 228, 229, 230, 231, 232, 233, 234, 235, 236, 237, 238, 239, 240, 241, 242, 243, 244, 245, 246, 247, 248, 249, 250, 251] (by decide +kernel) (by decide +kernel)
set_option maxRecDepth 20000 in
theorem gX11_weeks_X11_readStep : GoodIn wsX11_weeks (wsV RX11 332 RX11 yX11_readStep wsX11_readStep) := goodIn_app (goodIn_of _ (by decide +kernel)) ggX11_weeks_X11_readStep
set_option maxRecDepth 20000 in
theorem ggX11_weeks_X11_isWell : GoodIn wsX11_weeks wsX11_isWell := goodIn_r _ [203, 4, 204, 69, 205, 15, 16, 17, 10, 18, 2, 206, 207, 208, 209, 210, 211, 212, 213, 214, 215, 216, 217, 218, 219, 220, 221, 222, 223, 224, 225, 226, 227, 228, 229, 230, 231, 232, 233, 234, 235, 236, 237, 238, 239, 240, 241, 242, 243, 244, 245, 246, 247, 248, 249, 250, 251] (by decide +kernel) (by decide +kernel)
set_option maxRecDepth 20000 in
theorem gX11_weeks_X11_isWell : GoodIn wsX11_weeks (wsV RX11 317 RX11 yX11_isWell wsX11_isWell) := goodIn_app (goodIn_of _ (by decide +kernel)) ggX11_weeks_X11_isWell
theorem dX11_weeks_0 : decode cX11_weeks 0 = .ok (.aload_n 0, 1) := by decide +kernel
theorem dX11_weeks_1 : decode cX11_weeks 1 = .ok (.iconst 0, 1) := by decide +kernel
theorem dX11_weeks_2 : decode cX11_weeks 2 = .ok (.putfield 71, 3) := by decide +kernel
theorem dX11_weeks_5 : decode cX11_weeks 5 = .ok (.aload_n 0, 1) := by decide +kernel
theorem dX11_weeks_6 : decode cX11_weeks 6 = .ok (.iconst 0, 1) := by decide +kernel
theorem dX11_weeks_7 : decode cX11_weeks 7 = .ok (.putfield 74, 3) := by decide +kernel
theorem dX11_weeks_10 : decode cX11_weeks 10 = .ok (.aload_n 0, 1) := by decide +kernel
theorem dX11_weeks_11 : decode cX11_weeks 11 = .ok (.iload_n 1, 1) := by decide +kernel
theorem dX11_weeks_12 : decode cX11_weeks 12 = .ok (.sipush 300, 3) := by decide +kernel
theorem dX11_weeks_15 : decode cX11_weeks 15 = .ok (.invokevirtual 287, 3) := by decide +kernel
theorem dX11_weeks_18 : decode cX11_weeks 18 = .ok (.ifCond .ne 5, 3) := by decide +kernel
theorem dX11_weeks_21 : decode cX11_weeks 21 = .ok (.iconst (-1), 1) := by decide +kernel
theorem dX11_weeks_22 : decode cX11_weeks 22 = .ok (.ireturn, 1) := by decide +kernel
theorem dX11_weeks_23 : decode cX11_weeks 23 = .ok (.aload_n 0, 1) := by decide +kernel
theorem dX11_weeks_24 : decode cX11_weeks 24 = .ok (.iconst 0, 1) := by decide +kernel
theorem dX11_weeks_25 : decode cX11_weeks 25 = .ok (.putfield 326, 3) := by decide +kernel
theorem dX11_weeks_28 : decode cX11_weeks 28 = .ok (.aload_n 0, 1) := by decide +kernel
theorem dX11_weeks_29 : decode cX11_weeks 29 = .ok (.getfield 229, 3) := by decide +kernel
theorem dX11_weeks_32 : decode cX11_weeks 32 = .ok (.ifCond .ne 18, 3) := by decide +kernel
theorem dX11_weeks_35 : decode cX11_weeks 35 = .ok (.aload_n 0, 1) := by decide +kernel
theorem dX11_weeks_36 : decode cX11_weeks 36 = .ok (.getfield 126, 3) := by decide +kernel
theorem dX11_weeks_39 : decode cX11_weeks 39 = .ok (.ifCond .eq 11, 3) := by decide +kernel
theorem dX11_weeks_42 : decode cX11_weeks 42 = .ok (.aload_n 0, 1) := by decide +kernel
theorem dX11_weeks_43 : decode cX11_weeks 43 = .ok (.iconst 0, 1) := by decide +kernel
theorem dX11_weeks_44 : decode cX11_weeks 44 = .ok (.invokevirtual 332, 3) := by decide +kernel
theorem dX11_weeks_47 : decode cX11_weeks 47 = .ok (.goto (-19), 3) := by decide +kernel
theorem dX11_weeks_50 : decode cX11_weeks 50 = .ok (.aload_n 0, 1) := by decide +kernel
theorem dX11_weeks_51 : decode cX11_weeks 51 = .ok (.invokevirtual 317, 3) := by decide +kernel
theorem dX11_weeks_54 : decode cX11_weeks 54 = .ok (.ifCond .ne 5, 3) := by decide +kernel
theorem dX11_weeks_57 : decode cX11_weeks 57 = .ok (.iconst (-1), 1) := by decide +kernel
theorem dX11_weeks_58 : decode cX11_weeks 58 = .ok (.ireturn, 1) := by decide +kernel
theorem dX11_weeks_59 : decode cX11_weeks 59 = .ok (.aload_n 0, 1) := by decide +kernel
theorem dX11_weeks_60 : decode cX11_weeks 60 = .ok (.getfield 35, 3) := by decide +kernel
theorem dX11_weeks_63 : decode cX11_weeks 63 = .ok (.sipush 198, 3) := by decide +kernel
theorem dX11_weeks_66 : decode cX11_weeks 66 = .ok (.iconst 1, 1) := by decide +kernel
theorem dX11_weeks_67 : decode cX11_weeks 67 = .ok (.iastore, 1) := by decide +kernel
theorem dX11_weeks_68 : decode cX11_weeks 68 = .ok (.aload_n 0, 1) := by decide +kernel
theorem dX11_weeks_69 : decode cX11_weeks 69 = .ok (.getfield 35, 3) := by decide +kernel
theorem dX11_weeks_72 : decode cX11_weeks 72 = .ok (.sipush 199, 3) := by decide +kernel
theorem dX11_weeks_75 : decode cX11_weeks 75 = .ok (.aload_n 0, 1) := by decide +kernel
theorem dX11_weeks_76 : decode cX11_weeks 76 = .ok (.getfield 326, 3) := by decide +kernel
theorem dX11_weeks_79 : decode cX11_weeks 79 = .ok (.iastore, 1) := by decide +kernel
theorem dX11_weeks_80 : decode cX11_weeks 80 = .ok (.iconst 0, 1) := by decide +kernel
theorem dX11_weeks_81 : decode cX11_weeks 81 = .ok (.istore_n 2, 1) := by decide +kernel
theorem dX11_weeks_82 : decode cX11_weeks 82 = .ok (.iload_n 2, 1) := by decide +kernel
theorem dX11_weeks_83 : decode cX11_weeks 83 = .ok (.bipush 9, 2) := by decide +kernel
theorem dX11_weeks_85 : decode cX11_weeks 85 = .ok (.aload_n 0, 1) := by decide +kernel
theorem dX11_weeks_86 : decode cX11_weeks 86 = .ok (.getfield 326, 3) := by decide +kernel
theorem dX11_weeks_89 : decode cX11_weeks 89 = .ok (.imul, 1) := by decide +kernel
theorem dX11_weeks_90 : decode cX11_weeks 90 = .ok (.if_icmp .ge 29, 3) := by decide +kernel
theorem dX11_weeks_93 : decode cX11_weeks 93 = .ok (.aload_n 0, 1) := by decide +kernel
theorem dX11_weeks_94 : decode cX11_weeks 94 = .ok (.getfield 35, 3) := by decide +kernel
theorem dX11_weeks_97 : decode cX11_weeks 97 = .ok (.sipush 200, 3) := by decide +kernel
theorem dX11_weeks_100 : decode cX11_weeks 100 = .ok (.iload_n 2, 1) := by decide +kernel
theorem dX11_weeks_101 : decode cX11_weeks 101 = .ok (.iadd, 1) := by decide +kernel
theorem dX11_weeks_102 : decode cX11_weeks 102 = .ok (.aload_n 0, 1) := by decide +kernel
theorem dX11_weeks_103 : decode cX11_weeks 103 = .ok (.getfield 35, 3) := by decide +kernel
theorem dX11_weeks_106 : decode cX11_weeks 106 = .ok (.sipush 2100, 3) := by decide +kernel
theorem dX11_weeks_109 : decode cX11_weeks 109 = .ok (.iload_n 2, 1) := by decide +kernel
theorem dX11_weeks_110 : decode cX11_weeks 110 = .ok (.iadd, 1) := by decide +kernel
theorem dX11_weeks_111 : decode cX11_weeks 111 = .ok (.iaload, 1) := by decide +kernel
theorem dX11_weeks_112 : decode cX11_weeks 112 = .ok (.iastore, 1) := by decide +kernel
theorem dX11_weeks_113 : decode cX11_weeks 113 = .ok (.iinc 2 1, 3) := by decide +kernel
theorem dX11_weeks_116 : decode cX11_weeks 116 = .ok (.goto (-34), 3) := by decide +kernel
theorem dX11_weeks_119 : decode cX11_weeks 119 = .ok (.aload_n 0, 1) := by decide +kernel
theorem dX11_weeks_120 : decode cX11_weeks 120 = .ok (.getfield 326, 3) := by decide +kernel
theorem dX11_weeks_123 : decode cX11_weeks 123 = .ok (.ireturn, 1) := by decide +kernel
set_option maxRecDepth 20000 in
theorem ggX11_isJurorAt_X11_isIn : GoodIn wsX11_isJurorAt wsX11_isIn := goodIn_r _ [5] (by decide +kernel) (by decide +kernel)
set_option maxRecDepth 20000 in
theorem gX11_isJurorAt_X11_isIn : GoodIn wsX11_isJurorAt (va_wsS RX11 106 yX11_isIn wsX11_isIn) := goodIn_app (goodIn_of _ (by decide +kernel)) ggX11_isJurorAt_X11_isIn
theorem dX11_isJurorAt_0 : decode cX11_isJurorAt 0 = .ok (.iload_n 1, 1) := by decide +kernel
theorem dX11_isJurorAt_1 : decode cX11_isJurorAt 1 = .ok (.i2l, 1) := by decide +kernel
theorem dX11_isJurorAt_2 : decode cX11_isJurorAt 2 = .ok (.lconst 0, 1) := by decide +kernel
theorem dX11_isJurorAt_3 : decode cX11_isJurorAt 3 = .ok (.aload_n 0, 1) := by decide +kernel
theorem dX11_isJurorAt_4 : decode cX11_isJurorAt 4 = .ok (.getfield 35, 3) := by decide +kernel
theorem dX11_isJurorAt_7 : decode cX11_isJurorAt 7 = .ok (.iconst 0, 1) := by decide +kernel
theorem dX11_isJurorAt_8 : decode cX11_isJurorAt 8 = .ok (.iaload, 1) := by decide +kernel
theorem dX11_isJurorAt_9 : decode cX11_isJurorAt 9 = .ok (.iconst 1, 1) := by decide +kernel
theorem dX11_isJurorAt_10 : decode cX11_isJurorAt 10 = .ok (.isub, 1) := by decide +kernel
theorem dX11_isJurorAt_11 : decode cX11_isJurorAt 11 = .ok (.i2l, 1) := by decide +kernel
theorem dX11_isJurorAt_12 : decode cX11_isJurorAt 12 = .ok (.invokestatic 106, 3) := by decide +kernel
theorem dX11_isJurorAt_15 : decode cX11_isJurorAt 15 = .ok (.ireturn, 1) := by decide +kernel
set_option maxRecDepth 20000 in
theorem ggX11_isWeatherAt_X11_isIn : GoodIn wsX11_isWeatherAt wsX11_isIn := goodIn_r _ [5] (by decide +kernel) (by decide +kernel)
set_option maxRecDepth 20000 in
theorem gX11_isWeatherAt_X11_isIn : GoodIn wsX11_isWeatherAt (va_wsS RX11 106 yX11_isIn wsX11_isIn) := goodIn_app (goodIn_of _ (by decide +kernel)) ggX11_isWeatherAt_X11_isIn
theorem dX11_isWeatherAt_0 : decode cX11_isWeatherAt 0 = .ok (.iload_n 1, 1) := by decide +kernel
theorem dX11_isWeatherAt_1 : decode cX11_isWeatherAt 1 = .ok (.i2l, 1) := by decide +kernel
theorem dX11_isWeatherAt_2 : decode cX11_isWeatherAt 2 = .ok (.lconst 0, 1) := by decide +kernel
theorem dX11_isWeatherAt_3 : decode cX11_isWeatherAt 3 = .ok (.aload_n 0, 1) := by decide +kernel
theorem dX11_isWeatherAt_4 : decode cX11_isWeatherAt 4 = .ok (.getfield 35, 3) := by decide +kernel
theorem dX11_isWeatherAt_7 : decode cX11_isWeatherAt 7 = .ok (.iconst 2, 1) := by decide +kernel
theorem dX11_isWeatherAt_8 : decode cX11_isWeatherAt 8 = .ok (.iaload, 1) := by decide +kernel
theorem dX11_isWeatherAt_9 : decode cX11_isWeatherAt 9 = .ok (.iconst 1, 1) := by decide +kernel
theorem dX11_isWeatherAt_10 : decode cX11_isWeatherAt 10 = .ok (.isub, 1) := by decide +kernel
theorem dX11_isWeatherAt_11 : decode cX11_isWeatherAt 11 = .ok (.i2l, 1) := by decide +kernel
theorem dX11_isWeatherAt_12 : decode cX11_isWeatherAt 12 = .ok (.invokestatic 106, 3) := by decide +kernel
theorem dX11_isWeatherAt_15 : decode cX11_isWeatherAt 15 = .ok (.ireturn, 1) := by decide +kernel
set_option maxRecDepth 20000 in
theorem ggX11_isCropAt_X11_isIn : GoodIn wsX11_isCropAt wsX11_isIn := goodIn_r _ [5] (by decide +kernel) (by decide +kernel)
set_option maxRecDepth 20000 in
theorem gX11_isCropAt_X11_isIn : GoodIn wsX11_isCropAt (va_wsS RX11 106 yX11_isIn wsX11_isIn) := goodIn_app (goodIn_of _ (by decide +kernel)) ggX11_isCropAt_X11_isIn
theorem dX11_isCropAt_0 : decode cX11_isCropAt 0 = .ok (.iload_n 1, 1) := by decide +kernel
theorem dX11_isCropAt_1 : decode cX11_isCropAt 1 = .ok (.i2l, 1) := by decide +kernel
theorem dX11_isCropAt_2 : decode cX11_isCropAt 2 = .ok (.lconst 0, 1) := by decide +kernel
theorem dX11_isCropAt_3 : decode cX11_isCropAt 3 = .ok (.aload_n 0, 1) := by decide +kernel
theorem dX11_isCropAt_4 : decode cX11_isCropAt 4 = .ok (.getfield 35, 3) := by decide +kernel
theorem dX11_isCropAt_7 : decode cX11_isCropAt 7 = .ok (.iconst 3, 1) := by decide +kernel
theorem dX11_isCropAt_8 : decode cX11_isCropAt 8 = .ok (.iaload, 1) := by decide +kernel
theorem dX11_isCropAt_9 : decode cX11_isCropAt 9 = .ok (.iconst 1, 1) := by decide +kernel
theorem dX11_isCropAt_10 : decode cX11_isCropAt 10 = .ok (.isub, 1) := by decide +kernel
theorem dX11_isCropAt_11 : decode cX11_isCropAt 11 = .ok (.i2l, 1) := by decide +kernel
theorem dX11_isCropAt_12 : decode cX11_isCropAt 12 = .ok (.invokestatic 106, 3) := by decide +kernel
theorem dX11_isCropAt_15 : decode cX11_isCropAt 15 = .ok (.ireturn, 1) := by decide +kernel
set_option maxRecDepth 20000 in
theorem ggX11_isSeated_X11_has : GoodIn wsX11_isSeated wsX11_has := goodIn_r _ [5] (by decide +kernel) (by decide +kernel)
set_option maxRecDepth 20000 in
theorem gX11_isSeated_X11_has : GoodIn wsX11_isSeated (va_wsS RX11 110 yX11_has wsX11_has) := goodIn_app (goodIn_of _ (by decide +kernel)) ggX11_isSeated_X11_has
theorem dX11_isSeated_0 : decode cX11_isSeated 0 = .ok (.aload_n 0, 1) := by decide +kernel
theorem dX11_isSeated_1 : decode cX11_isSeated 1 = .ok (.getfield 35, 3) := by decide +kernel
theorem dX11_isSeated_4 : decode cX11_isSeated 4 = .ok (.bipush 10, 2) := by decide +kernel
theorem dX11_isSeated_6 : decode cX11_isSeated 6 = .ok (.iaload, 1) := by decide +kernel
theorem dX11_isSeated_7 : decode cX11_isSeated 7 = .ok (.iload_n 1, 1) := by decide +kernel
theorem dX11_isSeated_8 : decode cX11_isSeated 8 = .ok (.invokestatic 110, 3) := by decide +kernel
theorem dX11_isSeated_11 : decode cX11_isSeated 11 = .ok (.ireturn, 1) := by decide +kernel
theorem dX11_cut__0 : decode cX11_cut_ 0 = .ok (.bipush (-99), 2) := by decide +kernel
theorem dX11_cut__2 : decode cX11_cut_ 2 = .ok (.bipush 99, 2) := by decide +kernel
theorem dX11_cut__4 : decode cX11_cut_ 4 = .ok (.iload_n 0, 1) := by decide +kernel
theorem dX11_cut__5 : decode cX11_cut_ 5 = .ok (.invokestatic 335, 3) := by decide +kernel
theorem dX11_cut__8 : decode cX11_cut_ 8 = .ok (.invokestatic 264, 3) := by decide +kernel
theorem dX11_cut__11 : decode cX11_cut_ 11 = .ok (.ireturn, 1) := by decide +kernel
set_option maxRecDepth 20000 in
theorem ggX11_many_X11_isIn : GoodIn wsX11_many wsX11_isIn := goodIn_r _ [8] (by decide +kernel) (by decide +kernel)
set_option maxRecDepth 20000 in
theorem gX11_many_X11_isIn : GoodIn wsX11_many (va_wsS RX11 106 yX11_isIn wsX11_isIn) := goodIn_app (goodIn_of _ (by decide +kernel)) ggX11_many_X11_isIn
set_option maxRecDepth 20000 in
theorem ggX11_many_X11_refuse : GoodIn wsX11_many wsX11_refuse := goodIn_r _ [12, 2, 13, 14, 15, 16, 17, 18, 19, 20, 21, 22, 23, 24, 25, 26, 27, 28, 29, 30, 31, 32, 33, 34, 35, 36, 37, 38, 39, 40, 41, 42, 43, 44, 45, 46, 47, 48, 49, 50, 51, 52, 53, 54, 55, 56, 57, 58] (by decide +kernel) (by decide +kernel)
set_option maxRecDepth 20000 in
theorem gX11_many_X11_refuse : GoodIn wsX11_many (wsV RX11 340 RX11 yX11_refuse wsX11_refuse) := goodIn_app (goodIn_of _ (by decide +kernel)) ggX11_many_X11_refuse
theorem dX11_many_0 : decode cX11_many 0 = .ok (.aload_n 0, 1) := by decide +kernel
theorem dX11_many_1 : decode cX11_many 1 = .ok (.iconst 0, 1) := by decide +kernel
theorem dX11_many_2 : decode cX11_many 2 = .ok (.putfield 71, 3) := by decide +kernel
theorem dX11_many_5 : decode cX11_many 5 = .ok (.aload_n 0, 1) := by decide +kernel
theorem dX11_many_6 : decode cX11_many 6 = .ok (.iconst 0, 1) := by decide +kernel
theorem dX11_many_7 : decode cX11_many 7 = .ok (.putfield 74, 3) := by decide +kernel
theorem dX11_many_10 : decode cX11_many 10 = .ok (.iload_n 1, 1) := by decide +kernel
theorem dX11_many_11 : decode cX11_many 11 = .ok (.i2l, 1) := by decide +kernel
theorem dX11_many_12 : decode cX11_many 12 = .ok (.lconst 0, 1) := by decide +kernel
theorem dX11_many_13 : decode cX11_many 13 = .ok (.ldc2_w 338, 3) := by decide +kernel
theorem dX11_many_16 : decode cX11_many 16 = .ok (.invokestatic 106, 3) := by decide +kernel
theorem dX11_many_19 : decode cX11_many 19 = .ok (.ifCond .ne 9, 3) := by decide +kernel
theorem dX11_many_22 : decode cX11_many 22 = .ok (.aload_n 0, 1) := by decide +kernel
theorem dX11_many_23 : decode cX11_many 23 = .ok (.iconst 5, 1) := by decide +kernel
theorem dX11_many_24 : decode cX11_many 24 = .ok (.invokevirtual 340, 3) := by decide +kernel
theorem dX11_many_27 : decode cX11_many 27 = .ok (.ireturn, 1) := by decide +kernel
theorem dX11_many_28 : decode cX11_many 28 = .ok (.iload_n 1, 1) := by decide +kernel
theorem dX11_many_29 : decode cX11_many 29 = .ok (.iconst 4, 1) := by decide +kernel
theorem dX11_many_30 : decode cX11_many 30 = .ok (.if_icmp .ne 12, 3) := by decide +kernel
theorem dX11_many_33 : decode cX11_many 33 = .ok (.aload_n 0, 1) := by decide +kernel
theorem dX11_many_34 : decode cX11_many 34 = .ok (.getfield 35, 3) := by decide +kernel
theorem dX11_many_37 : decode cX11_many 37 = .ok (.iconst 4, 1) := by decide +kernel
theorem dX11_many_38 : decode cX11_many 38 = .ok (.iaload, 1) := by decide +kernel
theorem dX11_many_39 : decode cX11_many 39 = .ok (.ifCond .eq 19, 3) := by decide +kernel
theorem dX11_many_42 : decode cX11_many 42 = .ok (.iload_n 1, 1) := by decide +kernel
theorem dX11_many_43 : decode cX11_many 43 = .ok (.bipush 8, 2) := by decide +kernel
theorem dX11_many_45 : decode cX11_many 45 = .ok (.if_icmp .ne 20, 3) := by decide +kernel
theorem dX11_many_48 : decode cX11_many 48 = .ok (.aload_n 0, 1) := by decide +kernel
theorem dX11_many_49 : decode cX11_many 49 = .ok (.getfield 35, 3) := by decide +kernel
theorem dX11_many_52 : decode cX11_many 52 = .ok (.bipush 8, 2) := by decide +kernel
theorem dX11_many_54 : decode cX11_many 54 = .ok (.iaload, 1) := by decide +kernel
theorem dX11_many_55 : decode cX11_many 55 = .ok (.ifCond .ge 10, 3) := by decide +kernel
theorem dX11_many_58 : decode cX11_many 58 = .ok (.aload_n 0, 1) := by decide +kernel
theorem dX11_many_59 : decode cX11_many 59 = .ok (.bipush 8, 2) := by decide +kernel
theorem dX11_many_61 : decode cX11_many 61 = .ok (.invokevirtual 340, 3) := by decide +kernel
theorem dX11_many_64 : decode cX11_many 64 = .ok (.ireturn, 1) := by decide +kernel
theorem dX11_many_65 : decode cX11_many 65 = .ok (.aload_n 0, 1) := by decide +kernel
theorem dX11_many_66 : decode cX11_many 66 = .ok (.getfield 35, 3) := by decide +kernel
theorem dX11_many_69 : decode cX11_many 69 = .ok (.iload_n 1, 1) := by decide +kernel
theorem dX11_many_70 : decode cX11_many 70 = .ok (.iaload, 1) := by decide +kernel
theorem dX11_many_71 : decode cX11_many 71 = .ok (.ireturn, 1) := by decide +kernel
set_option maxRecDepth 20000 in
theorem ggX11_juror_X11_isJurorAt : GoodIn wsX11_juror wsX11_isJurorAt := goodIn_r _ [9, 4, 10, 11, 8, 12, 17, 18, 19, 20, 21, 22, 23, 24, 25, 26, 27, 28, 29, 30, 31, 32, 33, 34, 35, 36, 37, 38, 39, 40, 41, 42, 43, 44, 45, 46, 47, 48, 49, 50, 51, 52, 53, 54, 55, 56, 57, 58, 59, 60, 61, 62] (by decide +kernel) (by decide +kernel)
set_option maxRecDepth 20000 in
theorem gX11_juror_X11_isJurorAt : GoodIn wsX11_juror (wsV RX11 343 RX11 yX11_isJurorAt wsX11_isJurorAt) := goodIn_app (goodIn_of _ (by decide +kernel)) ggX11_juror_X11_isJurorAt
set_option maxRecDepth 20000 in
theorem ggX11_juror_X11_refuse : GoodIn wsX11_juror wsX11_refuse := goodIn_r _ [16, 2, 17, 18, 19, 20, 21, 22, 23, 24, 25, 26, 27, 28, 29, 30, 31, 32, 33, 34, 35, 36, 37, 38, 39, 40, 41, 42, 43, 44, 45, 46, 47, 48, 49, 50, 51, 52, 53, 54, 55, 56, 57, 58, 59, 60, 61, 62] (by decide +kernel) (by decide +kernel)
set_option maxRecDepth 20000 in
theorem gX11_juror_X11_refuse : GoodIn wsX11_juror (wsV RX11 340 RX11 yX11_refuse wsX11_refuse) := goodIn_app (goodIn_of _ (by decide +kernel)) ggX11_juror_X11_refuse
set_option maxRecDepth 20000 in
theorem ggX11_juror_X11_isIn : GoodIn wsX11_juror wsX11_isIn := goodIn_r _ [12] (by decide +kernel) (by decide +kernel)
set_option maxRecDepth 20000 in
theorem gX11_juror_X11_isIn : GoodIn wsX11_juror (va_wsS RX11 106 yX11_isIn wsX11_isIn) := goodIn_app (goodIn_of _ (by decide +kernel)) ggX11_juror_X11_isIn
theorem dX11_juror_0 : decode cX11_juror 0 = .ok (.aload_n 0, 1) := by decide +kernel
theorem dX11_juror_1 : decode cX11_juror 1 = .ok (.iconst 0, 1) := by decide +kernel
theorem dX11_juror_2 : decode cX11_juror 2 = .ok (.putfield 71, 3) := by decide +kernel
theorem dX11_juror_5 : decode cX11_juror 5 = .ok (.aload_n 0, 1) := by decide +kernel
theorem dX11_juror_6 : decode cX11_juror 6 = .ok (.iconst 0, 1) := by decide +kernel
theorem dX11_juror_7 : decode cX11_juror 7 = .ok (.putfield 74, 3) := by decide +kernel
theorem dX11_juror_10 : decode cX11_juror 10 = .ok (.aload_n 0, 1) := by decide +kernel
theorem dX11_juror_11 : decode cX11_juror 11 = .ok (.iload_n 1, 1) := by decide +kernel
theorem dX11_juror_12 : decode cX11_juror 12 = .ok (.invokevirtual 343, 3) := by decide +kernel
theorem dX11_juror_15 : decode cX11_juror 15 = .ok (.ifCond .ne 9, 3) := by decide +kernel
theorem dX11_juror_18 : decode cX11_juror 18 = .ok (.aload_n 0, 1) := by decide +kernel
theorem dX11_juror_19 : decode cX11_juror 19 = .ok (.iconst 2, 1) := by decide +kernel
theorem dX11_juror_20 : decode cX11_juror 20 = .ok (.invokevirtual 340, 3) := by decide +kernel
theorem dX11_juror_23 : decode cX11_juror 23 = .ok (.ireturn, 1) := by decide +kernel
theorem dX11_juror_24 : decode cX11_juror 24 = .ok (.iload_n 2, 1) := by decide +kernel
theorem dX11_juror_25 : decode cX11_juror 25 = .ok (.i2l, 1) := by decide +kernel
theorem dX11_juror_26 : decode cX11_juror 26 = .ok (.lconst 0, 1) := by decide +kernel
theorem dX11_juror_27 : decode cX11_juror 27 = .ok (.ldc2_w 104, 3) := by decide +kernel
theorem dX11_juror_30 : decode cX11_juror 30 = .ok (.invokestatic 106, 3) := by decide +kernel
theorem dX11_juror_33 : decode cX11_juror 33 = .ok (.ifCond .ne 9, 3) := by decide +kernel
theorem dX11_juror_36 : decode cX11_juror 36 = .ok (.aload_n 0, 1) := by decide +kernel
theorem dX11_juror_37 : decode cX11_juror 37 = .ok (.iconst 5, 1) := by decide +kernel
theorem dX11_juror_38 : decode cX11_juror 38 = .ok (.invokevirtual 340, 3) := by decide +kernel
theorem dX11_juror_41 : decode cX11_juror 41 = .ok (.ireturn, 1) := by decide +kernel
theorem dX11_juror_42 : decode cX11_juror 42 = .ok (.iload_n 2, 1) := by decide +kernel
theorem dX11_juror_43 : decode cX11_juror 43 = .ok (.ifCond .ne 15, 3) := by decide +kernel
theorem dX11_juror_46 : decode cX11_juror 46 = .ok (.aload_n 0, 1) := by decide +kernel
theorem dX11_juror_47 : decode cX11_juror 47 = .ok (.getfield 35, 3) := by decide +kernel
theorem dX11_juror_50 : decode cX11_juror 50 = .ok (.bipush 42, 2) := by decide +kernel
theorem dX11_juror_52 : decode cX11_juror 52 = .ok (.iload_n 1, 1) := by decide +kernel
theorem dX11_juror_53 : decode cX11_juror 53 = .ok (.iadd, 1) := by decide +kernel
theorem dX11_juror_54 : decode cX11_juror 54 = .ok (.iaload, 1) := by decide +kernel
theorem dX11_juror_55 : decode cX11_juror 55 = .ok (.goto 19, 3) := by decide +kernel
theorem dX11_juror_58 : decode cX11_juror 58 = .ok (.aload_n 0, 1) := by decide +kernel
theorem dX11_juror_59 : decode cX11_juror 59 = .ok (.getfield 35, 3) := by decide +kernel
theorem dX11_juror_62 : decode cX11_juror 62 = .ok (.bipush 12, 2) := by decide +kernel
theorem dX11_juror_64 : decode cX11_juror 64 = .ok (.bipush 10, 2) := by decide +kernel
theorem dX11_juror_66 : decode cX11_juror 66 = .ok (.iload_n 2, 1) := by decide +kernel
theorem dX11_juror_67 : decode cX11_juror 67 = .ok (.iconst 1, 1) := by decide +kernel
theorem dX11_juror_68 : decode cX11_juror 68 = .ok (.isub, 1) := by decide +kernel
theorem dX11_juror_69 : decode cX11_juror 69 = .ok (.imul, 1) := by decide +kernel
theorem dX11_juror_70 : decode cX11_juror 70 = .ok (.iadd, 1) := by decide +kernel
theorem dX11_juror_71 : decode cX11_juror 71 = .ok (.iload_n 1, 1) := by decide +kernel
theorem dX11_juror_72 : decode cX11_juror 72 = .ok (.iadd, 1) := by decide +kernel
theorem dX11_juror_73 : decode cX11_juror 73 = .ok (.iaload, 1) := by decide +kernel
theorem dX11_juror_74 : decode cX11_juror 74 = .ok (.ireturn, 1) := by decide +kernel
set_option maxRecDepth 20000 in
theorem ggX11_sways_X11_isJurorAt : GoodIn wsX11_sways wsX11_isJurorAt := goodIn_r _ [8, 3, 9, 10, 7, 11, 16, 17, 18, 19, 20, 21, 22, 23, 24, 25, 26, 27, 28, 29, 30, 31, 32, 33, 34, 35, 36, 37, 38, 39, 40, 41, 42, 43, 44, 45, 46, 47, 48, 49, 50, 51, 52, 53, 54, 55, 56, 57, 58, 59, 60, 61] (by decide +kernel) (by decide +kernel)
set_option maxRecDepth 20000 in
theorem gX11_sways_X11_isJurorAt : GoodIn wsX11_sways (wsV RX11 343 RX11 yX11_isJurorAt wsX11_isJurorAt) := goodIn_app (goodIn_of _ (by decide +kernel)) ggX11_sways_X11_isJurorAt
set_option maxRecDepth 20000 in
theorem ggX11_sways_X11_refuse : GoodIn wsX11_sways wsX11_refuse := goodIn_r _ [15, 2, 16, 17, 18, 19, 20, 21, 22, 23, 24, 25, 26, 27, 28, 29, 30, 31, 32, 33, 34, 35, 36, 37, 38, 39, 40, 41, 42, 43, 44, 45, 46, 47, 48, 49, 50, 51, 52, 53, 54, 55, 56, 57, 58, 59, 60, 61] (by decide +kernel) (by decide +kernel)
set_option maxRecDepth 20000 in
theorem gX11_sways_X11_refuse : GoodIn wsX11_sways (wsV RX11 340 RX11 yX11_refuse wsX11_refuse) := goodIn_app (goodIn_of _ (by decide +kernel)) ggX11_sways_X11_refuse
theorem dX11_sways_0 : decode cX11_sways 0 = .ok (.aload_n 0, 1) := by decide +kernel
theorem dX11_sways_1 : decode cX11_sways 1 = .ok (.iconst 0, 1) := by decide +kernel
theorem dX11_sways_2 : decode cX11_sways 2 = .ok (.putfield 71, 3) := by decide +kernel
theorem dX11_sways_5 : decode cX11_sways 5 = .ok (.aload_n 0, 1) := by decide +kernel
theorem dX11_sways_6 : decode cX11_sways 6 = .ok (.iconst 0, 1) := by decide +kernel
theorem dX11_sways_7 : decode cX11_sways 7 = .ok (.putfield 74, 3) := by decide +kernel
theorem dX11_sways_10 : decode cX11_sways 10 = .ok (.aload_n 0, 1) := by decide +kernel
theorem dX11_sways_11 : decode cX11_sways 11 = .ok (.iload_n 1, 1) := by decide +kernel
theorem dX11_sways_12 : decode cX11_sways 12 = .ok (.invokevirtual 343, 3) := by decide +kernel
theorem dX11_sways_15 : decode cX11_sways 15 = .ok (.ifCond .eq 11, 3) := by decide +kernel
theorem dX11_sways_18 : decode cX11_sways 18 = .ok (.aload_n 0, 1) := by decide +kernel
theorem dX11_sways_19 : decode cX11_sways 19 = .ok (.iload_n 2, 1) := by decide +kernel
theorem dX11_sways_20 : decode cX11_sways 20 = .ok (.invokevirtual 343, 3) := by decide +kernel
theorem dX11_sways_23 : decode cX11_sways 23 = .ok (.ifCond .ne 9, 3) := by decide +kernel
theorem dX11_sways_26 : decode cX11_sways 26 = .ok (.aload_n 0, 1) := by decide +kernel
theorem dX11_sways_27 : decode cX11_sways 27 = .ok (.iconst 2, 1) := by decide +kernel
theorem dX11_sways_28 : decode cX11_sways 28 = .ok (.invokevirtual 340, 3) := by decide +kernel
theorem dX11_sways_31 : decode cX11_sways 31 = .ok (.ireturn, 1) := by decide +kernel
theorem dX11_sways_32 : decode cX11_sways 32 = .ok (.iload_n 1, 1) := by decide +kernel
theorem dX11_sways_33 : decode cX11_sways 33 = .ok (.iload_n 2, 1) := by decide +kernel
theorem dX11_sways_34 : decode cX11_sways 34 = .ok (.if_icmp .ne 11, 3) := by decide +kernel
theorem dX11_sways_37 : decode cX11_sways 37 = .ok (.aload_n 0, 1) := by decide +kernel
theorem dX11_sways_38 : decode cX11_sways 38 = .ok (.iconst 5, 1) := by decide +kernel
theorem dX11_sways_39 : decode cX11_sways 39 = .ok (.invokevirtual 340, 3) := by decide +kernel
theorem dX11_sways_42 : decode cX11_sways 42 = .ok (.goto 17, 3) := by decide +kernel
theorem dX11_sways_45 : decode cX11_sways 45 = .ok (.aload_n 0, 1) := by decide +kernel
theorem dX11_sways_46 : decode cX11_sways 46 = .ok (.getfield 35, 3) := by decide +kernel
theorem dX11_sways_49 : decode cX11_sways 49 = .ok (.bipush 52, 2) := by decide +kernel
theorem dX11_sways_51 : decode cX11_sways 51 = .ok (.bipush 10, 2) := by decide +kernel
theorem dX11_sways_53 : decode cX11_sways 53 = .ok (.iload_n 1, 1) := by decide +kernel
theorem dX11_sways_54 : decode cX11_sways 54 = .ok (.imul, 1) := by decide +kernel
theorem dX11_sways_55 : decode cX11_sways 55 = .ok (.iadd, 1) := by decide +kernel
theorem dX11_sways_56 : decode cX11_sways 56 = .ok (.iload_n 2, 1) := by decide +kernel
theorem dX11_sways_57 : decode cX11_sways 57 = .ok (.iadd, 1) := by decide +kernel
theorem dX11_sways_58 : decode cX11_sways 58 = .ok (.iaload, 1) := by decide +kernel
theorem dX11_sways_59 : decode cX11_sways 59 = .ok (.ireturn, 1) := by decide +kernel
set_option maxRecDepth 20000 in
theorem ggX11_proof_X11_isIn : GoodIn wsX11_proof wsX11_isIn := goodIn_r _ [7] (by decide +kernel) (by decide +kernel)
set_option maxRecDepth 20000 in
theorem gX11_proof_X11_isIn : GoodIn wsX11_proof (va_wsS RX11 106 yX11_isIn wsX11_isIn) := goodIn_app (goodIn_of _ (by decide +kernel)) ggX11_proof_X11_isIn
set_option maxRecDepth 20000 in
theorem ggX11_proof_X11_refuse : GoodIn wsX11_proof wsX11_refuse := goodIn_r _ [11, 2, 12, 13, 14, 15, 16, 17, 18, 19, 20, 21, 22, 23, 24, 25, 26, 27, 28, 29, 30, 31, 32, 33, 34, 35, 36, 37, 38, 39, 40, 41, 42, 43, 44, 45, 46, 47, 48, 49, 50, 51, 52, 53, 54, 55, 56, 57] (by decide +kernel) (by decide +kernel)
set_option maxRecDepth 20000 in
theorem gX11_proof_X11_refuse : GoodIn wsX11_proof (wsV RX11 340 RX11 yX11_refuse wsX11_refuse) := goodIn_app (goodIn_of _ (by decide +kernel)) ggX11_proof_X11_refuse
theorem dX11_proof_0 : decode cX11_proof 0 = .ok (.aload_n 0, 1) := by decide +kernel
theorem dX11_proof_1 : decode cX11_proof 1 = .ok (.iconst 0, 1) := by decide +kernel
theorem dX11_proof_2 : decode cX11_proof 2 = .ok (.putfield 71, 3) := by decide +kernel
theorem dX11_proof_5 : decode cX11_proof 5 = .ok (.aload_n 0, 1) := by decide +kernel
theorem dX11_proof_6 : decode cX11_proof 6 = .ok (.iconst 0, 1) := by decide +kernel
theorem dX11_proof_7 : decode cX11_proof 7 = .ok (.putfield 74, 3) := by decide +kernel
theorem dX11_proof_10 : decode cX11_proof 10 = .ok (.iload_n 1, 1) := by decide +kernel
theorem dX11_proof_11 : decode cX11_proof 11 = .ok (.i2l, 1) := by decide +kernel
theorem dX11_proof_12 : decode cX11_proof 12 = .ok (.lconst 0, 1) := by decide +kernel
theorem dX11_proof_13 : decode cX11_proof 13 = .ok (.aload_n 0, 1) := by decide +kernel
theorem dX11_proof_14 : decode cX11_proof 14 = .ok (.getfield 35, 3) := by decide +kernel
theorem dX11_proof_17 : decode cX11_proof 17 = .ok (.iconst 1, 1) := by decide +kernel
theorem dX11_proof_18 : decode cX11_proof 18 = .ok (.iaload, 1) := by decide +kernel
theorem dX11_proof_19 : decode cX11_proof 19 = .ok (.iconst 1, 1) := by decide +kernel
theorem dX11_proof_20 : decode cX11_proof 20 = .ok (.isub, 1) := by decide +kernel
theorem dX11_proof_21 : decode cX11_proof 21 = .ok (.i2l, 1) := by decide +kernel
theorem dX11_proof_22 : decode cX11_proof 22 = .ok (.invokestatic 106, 3) := by decide +kernel
theorem dX11_proof_25 : decode cX11_proof 25 = .ok (.ifCond .eq 16, 3) := by decide +kernel
theorem dX11_proof_28 : decode cX11_proof 28 = .ok (.aload_n 0, 1) := by decide +kernel
theorem dX11_proof_29 : decode cX11_proof 29 = .ok (.getfield 35, 3) := by decide +kernel
theorem dX11_proof_32 : decode cX11_proof 32 = .ok (.sipush 152, 3) := by decide +kernel
theorem dX11_proof_35 : decode cX11_proof 35 = .ok (.iload_n 1, 1) := by decide +kernel
theorem dX11_proof_36 : decode cX11_proof 36 = .ok (.iadd, 1) := by decide +kernel
theorem dX11_proof_37 : decode cX11_proof 37 = .ok (.iaload, 1) := by decide +kernel
theorem dX11_proof_38 : decode cX11_proof 38 = .ok (.goto 8, 3) := by decide +kernel
theorem dX11_proof_41 : decode cX11_proof 41 = .ok (.aload_n 0, 1) := by decide +kernel
theorem dX11_proof_42 : decode cX11_proof 42 = .ok (.iconst 2, 1) := by decide +kernel
theorem dX11_proof_43 : decode cX11_proof 43 = .ok (.invokevirtual 340, 3) := by decide +kernel
theorem dX11_proof_46 : decode cX11_proof 46 = .ok (.ireturn, 1) := by decide +kernel
theorem dX11_behindOf_0 : decode cX11_behindOf 0 = .ok (.iload_n 2, 1) := by decide +kernel
theorem dX11_behindOf_1 : decode cX11_behindOf 1 = .ok (.ifCond .ne 7, 3) := by decide +kernel
theorem dX11_behindOf_4 : decode cX11_behindOf 4 = .ok (.iload_n 1, 1) := by decide +kernel
theorem dX11_behindOf_5 : decode cX11_behindOf 5 = .ok (.goto 23, 3) := by decide +kernel
theorem dX11_behindOf_8 : decode cX11_behindOf 8 = .ok (.aload_n 0, 1) := by decide +kernel
theorem dX11_behindOf_9 : decode cX11_behindOf 9 = .ok (.getfield 35, 3) := by decide +kernel
theorem dX11_behindOf_12 : decode cX11_behindOf 12 = .ok (.iload_n 2, 1) := by decide +kernel
theorem dX11_behindOf_13 : decode cX11_behindOf 13 = .ok (.ifCond .le 9, 3) := by decide +kernel
theorem dX11_behindOf_16 : decode cX11_behindOf 16 = .ok (.sipush 158, 3) := by decide +kernel
theorem dX11_behindOf_19 : decode cX11_behindOf 19 = .ok (.goto 6, 3) := by decide +kernel
theorem dX11_behindOf_22 : decode cX11_behindOf 22 = .ok (.sipush 164, 3) := by decide +kernel
theorem dX11_behindOf_25 : decode cX11_behindOf 25 = .ok (.iload_n 1, 1) := by decide +kernel
theorem dX11_behindOf_26 : decode cX11_behindOf 26 = .ok (.iadd, 1) := by decide +kernel
theorem dX11_behindOf_27 : decode cX11_behindOf 27 = .ok (.iaload, 1) := by decide +kernel
theorem dX11_behindOf_28 : decode cX11_behindOf 28 = .ok (.ireturn, 1) := by decide +kernel
set_option maxRecDepth 20000 in
theorem ggX11_follows_X11_isWeatherAt : GoodIn wsX11_follows wsX11_isWeatherAt := goodIn_r _ [8, 9, 10, 11, 7, 12, 21, 22, 23, 24, 25, 26, 27, 28, 29, 30, 31, 32, 33, 34, 35, 36, 37, 38, 39, 40, 41, 42, 43, 44, 45, 46, 47, 48, 49, 50, 51, 52, 53, 54, 55, 56, 57, 58, 59, 60, 61, 62, 63, 64, 65, 66] (by decide +kernel) (by decide +kernel)
set_option maxRecDepth 20000 in
theorem gX11_follows_X11_isWeatherAt : GoodIn wsX11_follows (wsV RX11 346 RX11 yX11_isWeatherAt wsX11_isWeatherAt) := goodIn_app (goodIn_of _ (by decide +kernel)) ggX11_follows_X11_isWeatherAt
set_option maxRecDepth 20000 in
theorem ggX11_follows_X11_refuse : GoodIn wsX11_follows wsX11_refuse := goodIn_r _ [16, 2, 21, 22, 23, 24, 25, 26, 27, 28, 29, 30, 31, 32, 33, 34, 35, 36, 37, 38, 39, 40, 41, 42, 43, 44, 45, 46, 47, 48, 49, 50, 51, 52, 53, 54, 55, 56, 57, 58, 59, 60, 61, 62, 63, 64, 65, 66] (by decide +kernel) (by decide +kernel)
set_option maxRecDepth 20000 in
theorem gX11_follows_X11_refuse : GoodIn wsX11_follows (wsV RX11 340 RX11 yX11_refuse wsX11_refuse) := goodIn_app (goodIn_of _ (by decide +kernel)) ggX11_follows_X11_refuse
set_option maxRecDepth 20000 in
theorem ggX11_follows_X11_isIn : GoodIn wsX11_follows wsX11_isIn := goodIn_r _ [12] (by decide +kernel) (by decide +kernel)
set_option maxRecDepth 20000 in
theorem gX11_follows_X11_isIn : GoodIn wsX11_follows (va_wsS RX11 106 yX11_isIn wsX11_isIn) := goodIn_app (goodIn_of _ (by decide +kernel)) ggX11_follows_X11_isIn
set_option maxRecDepth 20000 in
theorem ggX11_follows_X11_behindOf : GoodIn wsX11_follows wsX11_behindOf := goodIn_r _ [20, 9, 21, 22, 23, 24, 25, 26, 27, 28, 29, 30, 31, 32, 33, 34, 35, 36, 37, 38, 39, 40, 41, 42, 43, 44, 45, 46, 47, 48, 49, 50, 51, 52, 53, 54, 55, 56, 57, 58, 59, 60, 61, 62, 63, 64, 65, 66] (by decide +kernel) (by decide +kernel)
set_option maxRecDepth 20000 in
theorem gX11_follows_X11_behindOf : GoodIn wsX11_follows (wsV RX11 349 RX11 yX11_behindOf wsX11_behindOf) := goodIn_app (goodIn_of _ (by decide +kernel)) ggX11_follows_X11_behindOf
theorem dX11_follows_0 : decode cX11_follows 0 = .ok (.aload_n 0, 1) := by decide +kernel
theorem dX11_follows_1 : decode cX11_follows 1 = .ok (.iconst 0, 1) := by decide +kernel
theorem dX11_follows_2 : decode cX11_follows 2 = .ok (.putfield 71, 3) := by decide +kernel
theorem dX11_follows_5 : decode cX11_follows 5 = .ok (.aload_n 0, 1) := by decide +kernel
theorem dX11_follows_6 : decode cX11_follows 6 = .ok (.iconst 0, 1) := by decide +kernel
theorem dX11_follows_7 : decode cX11_follows 7 = .ok (.putfield 74, 3) := by decide +kernel
theorem dX11_follows_10 : decode cX11_follows 10 = .ok (.aload_n 0, 1) := by decide +kernel
theorem dX11_follows_11 : decode cX11_follows 11 = .ok (.iload_n 1, 1) := by decide +kernel
theorem dX11_follows_12 : decode cX11_follows 12 = .ok (.invokevirtual 346, 3) := by decide +kernel
theorem dX11_follows_15 : decode cX11_follows 15 = .ok (.ifCond .ne 9, 3) := by decide +kernel
theorem dX11_follows_18 : decode cX11_follows 18 = .ok (.aload_n 0, 1) := by decide +kernel
theorem dX11_follows_19 : decode cX11_follows 19 = .ok (.iconst 2, 1) := by decide +kernel
theorem dX11_follows_20 : decode cX11_follows 20 = .ok (.invokevirtual 340, 3) := by decide +kernel
theorem dX11_follows_23 : decode cX11_follows 23 = .ok (.ireturn, 1) := by decide +kernel
theorem dX11_follows_24 : decode cX11_follows 24 = .ok (.iload_n 2, 1) := by decide +kernel
theorem dX11_follows_25 : decode cX11_follows 25 = .ok (.i2l, 1) := by decide +kernel
theorem dX11_follows_26 : decode cX11_follows 26 = .ok (.ldc2_w 102, 3) := by decide +kernel
theorem dX11_follows_29 : decode cX11_follows 29 = .ok (.lconst 1, 1) := by decide +kernel
theorem dX11_follows_30 : decode cX11_follows 30 = .ok (.invokestatic 106, 3) := by decide +kernel
theorem dX11_follows_33 : decode cX11_follows 33 = .ok (.ifCond .eq 12, 3) := by decide +kernel
theorem dX11_follows_36 : decode cX11_follows 36 = .ok (.aload_n 0, 1) := by decide +kernel
theorem dX11_follows_37 : decode cX11_follows 37 = .ok (.iload_n 1, 1) := by decide +kernel
theorem dX11_follows_38 : decode cX11_follows 38 = .ok (.iload_n 2, 1) := by decide +kernel
theorem dX11_follows_39 : decode cX11_follows 39 = .ok (.invokevirtual 349, 3) := by decide +kernel
theorem dX11_follows_42 : decode cX11_follows 42 = .ok (.goto 8, 3) := by decide +kernel
theorem dX11_follows_45 : decode cX11_follows 45 = .ok (.aload_n 0, 1) := by decide +kernel
theorem dX11_follows_46 : decode cX11_follows 46 = .ok (.iconst 5, 1) := by decide +kernel
theorem dX11_follows_47 : decode cX11_follows 47 = .ok (.invokevirtual 340, 3) := by decide +kernel
theorem dX11_follows_50 : decode cX11_follows 50 = .ok (.ireturn, 1) := by decide +kernel
theorem dX11_growsOn_0 : decode cX11_growsOn 0 = .ok (.aload_n 0, 1) := by decide +kernel
theorem dX11_growsOn_1 : decode cX11_growsOn 1 = .ok (.getfield 35, 3) := by decide +kernel
theorem dX11_growsOn_4 : decode cX11_growsOn 4 = .ok (.sipush 170, 3) := by decide +kernel
theorem dX11_growsOn_7 : decode cX11_growsOn 7 = .ok (.bipush 6, 2) := by decide +kernel
theorem dX11_growsOn_9 : decode cX11_growsOn 9 = .ok (.iload_n 1, 1) := by decide +kernel
theorem dX11_growsOn_10 : decode cX11_growsOn 10 = .ok (.imul, 1) := by decide +kernel
theorem dX11_growsOn_11 : decode cX11_growsOn 11 = .ok (.iadd, 1) := by decide +kernel
theorem dX11_growsOn_12 : decode cX11_growsOn 12 = .ok (.iload_n 2, 1) := by decide +kernel
theorem dX11_growsOn_13 : decode cX11_growsOn 13 = .ok (.iadd, 1) := by decide +kernel
theorem dX11_growsOn_14 : decode cX11_growsOn 14 = .ok (.iaload, 1) := by decide +kernel
theorem dX11_growsOn_15 : decode cX11_growsOn 15 = .ok (.ireturn, 1) := by decide +kernel
set_option maxRecDepth 20000 in
theorem ggX11_grows_X11_isCropAt : GoodIn wsX11_grows wsX11_isCropAt := goodIn_r _ [7, 8, 9, 10, 6, 11, 24, 25, 26, 27, 28, 29, 30, 31, 32, 33, 34, 35, 36, 37, 38, 39, 40, 41, 42, 43, 44, 45, 46, 47, 48, 49, 50, 51, 52, 53, 54, 55, 56, 57, 58, 59, 60, 61, 62, 63, 64, 65, 66, 67, 68, 69] (by decide +kernel) (by decide +kernel)
set_option maxRecDepth 20000 in
theorem gX11_grows_X11_isCropAt : GoodIn wsX11_grows (wsV RX11 352 RX11 yX11_isCropAt wsX11_isCropAt) := goodIn_app (goodIn_of _ (by decide +kernel)) ggX11_grows_X11_isCropAt
set_option maxRecDepth 20000 in
theorem ggX11_grows_X11_isWeatherAt : GoodIn wsX11_grows wsX11_isWeatherAt := goodIn_r _ [15, 8, 9, 10, 6, 11, 24, 25, 26, 27, 28, 29, 30, 31, 32, 33, 34, 35, 36, 37, 38, 39, 40, 41, 42, 43, 44, 45, 46, 47, 48, 49, 50, 51, 52, 53, 54, 55, 56, 57, 58, 59, 60, 61, 62, 63, 64, 65, 66, 67, 68, 69] (by decide +kernel) (by decide +kernel)
set_option maxRecDepth 20000 in
theorem gX11_grows_X11_isWeatherAt : GoodIn wsX11_grows (wsV RX11 346 RX11 yX11_isWeatherAt wsX11_isWeatherAt) := goodIn_app (goodIn_of _ (by decide +kernel)) ggX11_grows_X11_isWeatherAt
set_option maxRecDepth 20000 in
theorem ggX11_grows_X11_growsOn : GoodIn wsX11_grows wsX11_growsOn := goodIn_r _ [19, 8, 24, 25, 26, 27, 28, 29, 30, 31, 32, 33, 34, 35, 36, 37, 38, 39, 40, 41, 42, 43, 44, 45, 46, 47, 48, 49, 50, 51, 52, 53, 54, 55, 56, 57, 58, 59, 60, 61, 62, 63, 64, 65, 66, 67, 68, 69] (by decide +kernel) (by decide +kernel)
set_option maxRecDepth 20000 in
theorem gX11_grows_X11_growsOn : GoodIn wsX11_grows (wsV RX11 355 RX11 yX11_growsOn wsX11_growsOn) := goodIn_app (goodIn_of _ (by decide +kernel)) ggX11_grows_X11_growsOn
set_option maxRecDepth 20000 in
theorem ggX11_grows_X11_refuse : GoodIn wsX11_grows wsX11_refuse := goodIn_r _ [23, 2, 24, 25, 26, 27, 28, 29, 30, 31, 32, 33, 34, 35, 36, 37, 38, 39, 40, 41, 42, 43, 44, 45, 46, 47, 48, 49, 50, 51, 52, 53, 54, 55, 56, 57, 58, 59, 60, 61, 62, 63, 64, 65, 66, 67, 68, 69] (by decide +kernel) (by decide +kernel)
set_option maxRecDepth 20000 in
theorem gX11_grows_X11_refuse : GoodIn wsX11_grows (wsV RX11 340 RX11 yX11_refuse wsX11_refuse) := goodIn_app (goodIn_of _ (by decide +kernel)) ggX11_grows_X11_refuse
theorem dX11_grows_0 : decode cX11_grows 0 = .ok (.aload_n 0, 1) := by decide +kernel
theorem dX11_grows_1 : decode cX11_grows 1 = .ok (.iconst 0, 1) := by decide +kernel
theorem dX11_grows_2 : decode cX11_grows 2 = .ok (.putfield 71, 3) := by decide +kernel
theorem dX11_grows_5 : decode cX11_grows 5 = .ok (.aload_n 0, 1) := by decide +kernel
theorem dX11_grows_6 : decode cX11_grows 6 = .ok (.iconst 0, 1) := by decide +kernel
theorem dX11_grows_7 : decode cX11_grows 7 = .ok (.putfield 74, 3) := by decide +kernel
theorem dX11_grows_10 : decode cX11_grows 10 = .ok (.aload_n 0, 1) := by decide +kernel
theorem dX11_grows_11 : decode cX11_grows 11 = .ok (.iload_n 1, 1) := by decide +kernel
theorem dX11_grows_12 : decode cX11_grows 12 = .ok (.invokevirtual 352, 3) := by decide +kernel
theorem dX11_grows_15 : decode cX11_grows 15 = .ok (.ifCond .eq 20, 3) := by decide +kernel
theorem dX11_grows_18 : decode cX11_grows 18 = .ok (.aload_n 0, 1) := by decide +kernel
theorem dX11_grows_19 : decode cX11_grows 19 = .ok (.iload_n 2, 1) := by decide +kernel
theorem dX11_grows_20 : decode cX11_grows 20 = .ok (.invokevirtual 346, 3) := by decide +kernel
theorem dX11_grows_23 : decode cX11_grows 23 = .ok (.ifCond .eq 12, 3) := by decide +kernel
theorem dX11_grows_26 : decode cX11_grows 26 = .ok (.aload_n 0, 1) := by decide +kernel
theorem dX11_grows_27 : decode cX11_grows 27 = .ok (.iload_n 1, 1) := by decide +kernel
theorem dX11_grows_28 : decode cX11_grows 28 = .ok (.iload_n 2, 1) := by decide +kernel
theorem dX11_grows_29 : decode cX11_grows 29 = .ok (.invokevirtual 355, 3) := by decide +kernel
theorem dX11_grows_32 : decode cX11_grows 32 = .ok (.goto 8, 3) := by decide +kernel
theorem dX11_grows_35 : decode cX11_grows 35 = .ok (.aload_n 0, 1) := by decide +kernel
theorem dX11_grows_36 : decode cX11_grows 36 = .ok (.iconst 2, 1) := by decide +kernel
theorem dX11_grows_37 : decode cX11_grows 37 = .ok (.invokevirtual 340, 3) := by decide +kernel
theorem dX11_grows_40 : decode cX11_grows 40 = .ok (.ireturn, 1) := by decide +kernel
set_option maxRecDepth 20000 in
theorem ggX11_crop_X11_isCropAt : GoodIn wsX11_crop wsX11_isCropAt := goodIn_r _ [8, 3, 9, 10, 7, 11, 16, 17, 18, 19, 20, 21, 22, 23, 24, 25, 26, 27, 28, 29, 30, 31, 32, 33, 34, 35, 36, 37, 38, 39, 40, 41, 42, 43, 44, 45, 46, 47, 48, 49, 50, 51, 52, 53, 54, 55, 56, 57, 58, 59, 60, 61] (by decide +kernel) (by decide +kernel)
set_option maxRecDepth 20000 in
theorem gX11_crop_X11_isCropAt : GoodIn wsX11_crop (wsV RX11 352 RX11 yX11_isCropAt wsX11_isCropAt) := goodIn_app (goodIn_of _ (by decide +kernel)) ggX11_crop_X11_isCropAt
set_option maxRecDepth 20000 in
theorem ggX11_crop_X11_refuse : GoodIn wsX11_crop wsX11_refuse := goodIn_r _ [15, 2, 16, 17, 18, 19, 20, 21, 22, 23, 24, 25, 26, 27, 28, 29, 30, 31, 32, 33, 34, 35, 36, 37, 38, 39, 40, 41, 42, 43, 44, 45, 46, 47, 48, 49, 50, 51, 52, 53, 54, 55, 56, 57, 58, 59, 60, 61] (by decide +kernel) (by decide +kernel)
set_option maxRecDepth 20000 in
theorem gX11_crop_X11_refuse : GoodIn wsX11_crop (wsV RX11 340 RX11 yX11_refuse wsX11_refuse) := goodIn_app (goodIn_of _ (by decide +kernel)) ggX11_crop_X11_refuse
theorem dX11_crop_0 : decode cX11_crop 0 = .ok (.aload_n 0, 1) := by decide +kernel
theorem dX11_crop_1 : decode cX11_crop 1 = .ok (.iconst 0, 1) := by decide +kernel
theorem dX11_crop_2 : decode cX11_crop 2 = .ok (.putfield 71, 3) := by decide +kernel
theorem dX11_crop_5 : decode cX11_crop 5 = .ok (.aload_n 0, 1) := by decide +kernel
theorem dX11_crop_6 : decode cX11_crop 6 = .ok (.iconst 0, 1) := by decide +kernel
theorem dX11_crop_7 : decode cX11_crop 7 = .ok (.putfield 74, 3) := by decide +kernel
theorem dX11_crop_10 : decode cX11_crop 10 = .ok (.aload_n 0, 1) := by decide +kernel
theorem dX11_crop_11 : decode cX11_crop 11 = .ok (.iload_n 1, 1) := by decide +kernel
theorem dX11_crop_12 : decode cX11_crop 12 = .ok (.invokevirtual 352, 3) := by decide +kernel
theorem dX11_crop_15 : decode cX11_crop 15 = .ok (.ifCond .eq 16, 3) := by decide +kernel
theorem dX11_crop_18 : decode cX11_crop 18 = .ok (.aload_n 0, 1) := by decide +kernel
theorem dX11_crop_19 : decode cX11_crop 19 = .ok (.getfield 35, 3) := by decide +kernel
theorem dX11_crop_22 : decode cX11_crop 22 = .ok (.sipush 194, 3) := by decide +kernel
theorem dX11_crop_25 : decode cX11_crop 25 = .ok (.iload_n 1, 1) := by decide +kernel
theorem dX11_crop_26 : decode cX11_crop 26 = .ok (.iadd, 1) := by decide +kernel
theorem dX11_crop_27 : decode cX11_crop 27 = .ok (.iaload, 1) := by decide +kernel
theorem dX11_crop_28 : decode cX11_crop 28 = .ok (.goto 8, 3) := by decide +kernel
theorem dX11_crop_31 : decode cX11_crop 31 = .ok (.aload_n 0, 1) := by decide +kernel
theorem dX11_crop_32 : decode cX11_crop 32 = .ok (.iconst 2, 1) := by decide +kernel
theorem dX11_crop_33 : decode cX11_crop 33 = .ok (.invokevirtual 340, 3) := by decide +kernel
theorem dX11_crop_36 : decode cX11_crop 36 = .ok (.ireturn, 1) := by decide +kernel
set_option maxRecDepth 20000 in
theorem ggX11_copyLeanings_X11_isTray : GoodIn wsX11_copyLeanings wsX11_isTray := goodIn_r _ [10, 11, 12, 13, 9, 14] (by decide +kernel) (by decide +kernel)
set_option maxRecDepth 20000 in
theorem gX11_copyLeanings_X11_isTray : GoodIn wsX11_copyLeanings (wsV RX11 358 RX11 yX11_isTray wsX11_isTray) := goodIn_app (goodIn_of _ (by decide +kernel)) ggX11_copyLeanings_X11_isTray
set_option maxRecDepth 20000 in
theorem ggX11_copyLeanings_X11_refuse : GoodIn wsX11_copyLeanings wsX11_refuse := goodIn_r _ [18, 2, 19, 20, 21, 22, 23, 24, 25, 26, 27, 28, 29, 30, 31, 32, 33, 34, 35, 36, 37, 38, 39, 40, 41, 42, 43, 44, 45, 46, 47, 48, 49, 50, 51, 52, 53, 54, 55, 56, 57, 58, 59, 60, 61, 62, 63, 64] (by decide +kernel) (by decide +kernel)
set_option maxRecDepth 20000 in
theorem gX11_copyLeanings_X11_refuse : GoodIn wsX11_copyLeanings (wsV RX11 340 RX11 yX11_refuse wsX11_refuse) := goodIn_app (goodIn_of _ (by decide +kernel)) ggX11_copyLeanings_X11_refuse
theorem dX11_copyLeanings_0 : decode cX11_copyLeanings 0 = .ok (.aload_n 0, 1) := by decide +kernel
theorem dX11_copyLeanings_1 : decode cX11_copyLeanings 1 = .ok (.iconst 0, 1) := by decide +kernel
theorem dX11_copyLeanings_2 : decode cX11_copyLeanings 2 = .ok (.putfield 71, 3) := by decide +kernel
theorem dX11_copyLeanings_5 : decode cX11_copyLeanings 5 = .ok (.aload_n 0, 1) := by decide +kernel
theorem dX11_copyLeanings_6 : decode cX11_copyLeanings 6 = .ok (.iconst 0, 1) := by decide +kernel
theorem dX11_copyLeanings_7 : decode cX11_copyLeanings 7 = .ok (.putfield 74, 3) := by decide +kernel
theorem dX11_copyLeanings_10 : decode cX11_copyLeanings 10 = .ok (.aload_n 0, 1) := by decide +kernel
theorem dX11_copyLeanings_11 : decode cX11_copyLeanings 11 = .ok (.iload_n 1, 1) := by decide +kernel
theorem dX11_copyLeanings_12 : decode cX11_copyLeanings 12 = .ok (.invokevirtual 358, 3) := by decide +kernel
theorem dX11_copyLeanings_15 : decode cX11_copyLeanings 15 = .ok (.ifCond .ne 9, 3) := by decide +kernel
theorem dX11_copyLeanings_18 : decode cX11_copyLeanings 18 = .ok (.aload_n 0, 1) := by decide +kernel
theorem dX11_copyLeanings_19 : decode cX11_copyLeanings 19 = .ok (.iconst 1, 1) := by decide +kernel
theorem dX11_copyLeanings_20 : decode cX11_copyLeanings 20 = .ok (.invokevirtual 340, 3) := by decide +kernel
theorem dX11_copyLeanings_23 : decode cX11_copyLeanings 23 = .ok (.ireturn, 1) := by decide +kernel
theorem dX11_copyLeanings_24 : decode cX11_copyLeanings 24 = .ok (.aload_n 0, 1) := by decide +kernel
theorem dX11_copyLeanings_25 : decode cX11_copyLeanings 25 = .ok (.getfield 17, 3) := by decide +kernel
theorem dX11_copyLeanings_28 : decode cX11_copyLeanings 28 = .ok (.iload_n 1, 1) := by decide +kernel
theorem dX11_copyLeanings_29 : decode cX11_copyLeanings 29 = .ok (.iaload, 1) := by decide +kernel
theorem dX11_copyLeanings_30 : decode cX11_copyLeanings 30 = .ok (.ifCond .ge 9, 3) := by decide +kernel
theorem dX11_copyLeanings_33 : decode cX11_copyLeanings 33 = .ok (.aload_n 0, 1) := by decide +kernel
theorem dX11_copyLeanings_34 : decode cX11_copyLeanings 34 = .ok (.iconst 3, 1) := by decide +kernel
theorem dX11_copyLeanings_35 : decode cX11_copyLeanings 35 = .ok (.invokevirtual 340, 3) := by decide +kernel
theorem dX11_copyLeanings_38 : decode cX11_copyLeanings 38 = .ok (.ireturn, 1) := by decide +kernel
theorem dX11_copyLeanings_39 : decode cX11_copyLeanings 39 = .ok (.aload_n 0, 1) := by decide +kernel
theorem dX11_copyLeanings_40 : decode cX11_copyLeanings 40 = .ok (.getfield 17, 3) := by decide +kernel
theorem dX11_copyLeanings_43 : decode cX11_copyLeanings 43 = .ok (.iload_n 1, 1) := by decide +kernel
theorem dX11_copyLeanings_44 : decode cX11_copyLeanings 44 = .ok (.iaload, 1) := by decide +kernel
theorem dX11_copyLeanings_45 : decode cX11_copyLeanings 45 = .ok (.aload_n 0, 1) := by decide +kernel
theorem dX11_copyLeanings_46 : decode cX11_copyLeanings 46 = .ok (.getfield 35, 3) := by decide +kernel
theorem dX11_copyLeanings_49 : decode cX11_copyLeanings 49 = .ok (.iconst 0, 1) := by decide +kernel
theorem dX11_copyLeanings_50 : decode cX11_copyLeanings 50 = .ok (.iaload, 1) := by decide +kernel
theorem dX11_copyLeanings_51 : decode cX11_copyLeanings 51 = .ok (.if_icmp .ge 9, 3) := by decide +kernel
theorem dX11_copyLeanings_54 : decode cX11_copyLeanings 54 = .ok (.aload_n 0, 1) := by decide +kernel
theorem dX11_copyLeanings_55 : decode cX11_copyLeanings 55 = .ok (.iconst 4, 1) := by decide +kernel
theorem dX11_copyLeanings_56 : decode cX11_copyLeanings 56 = .ok (.invokevirtual 340, 3) := by decide +kernel
theorem dX11_copyLeanings_59 : decode cX11_copyLeanings 59 = .ok (.ireturn, 1) := by decide +kernel
theorem dX11_copyLeanings_60 : decode cX11_copyLeanings 60 = .ok (.iconst 0, 1) := by decide +kernel
theorem dX11_copyLeanings_61 : decode cX11_copyLeanings 61 = .ok (.istore_n 2, 1) := by decide +kernel
theorem dX11_copyLeanings_62 : decode cX11_copyLeanings 62 = .ok (.iload_n 2, 1) := by decide +kernel
theorem dX11_copyLeanings_63 : decode cX11_copyLeanings 63 = .ok (.aload_n 0, 1) := by decide +kernel
theorem dX11_copyLeanings_64 : decode cX11_copyLeanings 64 = .ok (.getfield 35, 3) := by decide +kernel
theorem dX11_copyLeanings_67 : decode cX11_copyLeanings 67 = .ok (.iconst 0, 1) := by decide +kernel
theorem dX11_copyLeanings_68 : decode cX11_copyLeanings 68 = .ok (.iaload, 1) := by decide +kernel
theorem dX11_copyLeanings_69 : decode cX11_copyLeanings 69 = .ok (.if_icmp .ge 30, 3) := by decide +kernel
theorem dX11_copyLeanings_72 : decode cX11_copyLeanings 72 = .ok (.aload_n 0, 1) := by decide +kernel
theorem dX11_copyLeanings_73 : decode cX11_copyLeanings 73 = .ok (.getfield 20, 3) := by decide +kernel
theorem dX11_copyLeanings_76 : decode cX11_copyLeanings 76 = .ok (.bipush 60, 2) := by decide +kernel
theorem dX11_copyLeanings_78 : decode cX11_copyLeanings 78 = .ok (.iload_n 1, 1) := by decide +kernel
theorem dX11_copyLeanings_79 : decode cX11_copyLeanings 79 = .ok (.imul, 1) := by decide +kernel
theorem dX11_copyLeanings_80 : decode cX11_copyLeanings 80 = .ok (.iload_n 2, 1) := by decide +kernel
theorem dX11_copyLeanings_81 : decode cX11_copyLeanings 81 = .ok (.iadd, 1) := by decide +kernel
theorem dX11_copyLeanings_82 : decode cX11_copyLeanings 82 = .ok (.aload_n 0, 1) := by decide +kernel
theorem dX11_copyLeanings_83 : decode cX11_copyLeanings 83 = .ok (.getfield 35, 3) := by decide +kernel
theorem dX11_copyLeanings_86 : decode cX11_copyLeanings 86 = .ok (.bipush 42, 2) := by decide +kernel
theorem dX11_copyLeanings_88 : decode cX11_copyLeanings 88 = .ok (.iload_n 2, 1) := by decide +kernel
theorem dX11_copyLeanings_89 : decode cX11_copyLeanings 89 = .ok (.iadd, 1) := by decide +kernel
theorem dX11_copyLeanings_90 : decode cX11_copyLeanings 90 = .ok (.iaload, 1) := by decide +kernel
theorem dX11_copyLeanings_91 : decode cX11_copyLeanings 91 = .ok (.i2l, 1) := by decide +kernel
theorem dX11_copyLeanings_92 : decode cX11_copyLeanings 92 = .ok (.lastore, 1) := by decide +kernel
theorem dX11_copyLeanings_93 : decode cX11_copyLeanings 93 = .ok (.iinc 2 1, 3) := by decide +kernel
theorem dX11_copyLeanings_96 : decode cX11_copyLeanings 96 = .ok (.goto (-34), 3) := by decide +kernel
theorem dX11_copyLeanings_99 : decode cX11_copyLeanings 99 = .ok (.aload_n 0, 1) := by decide +kernel
theorem dX11_copyLeanings_100 : decode cX11_copyLeanings 100 = .ok (.getfield 35, 3) := by decide +kernel
theorem dX11_copyLeanings_103 : decode cX11_copyLeanings 103 = .ok (.iconst 0, 1) := by decide +kernel
theorem dX11_copyLeanings_104 : decode cX11_copyLeanings 104 = .ok (.iaload, 1) := by decide +kernel
theorem dX11_copyLeanings_105 : decode cX11_copyLeanings 105 = .ok (.ireturn, 1) := by decide +kernel
set_option maxRecDepth 20000 in
theorem ggX11_showsOne_X11_isSeated : GoodIn wsX11_showsOne wsX11_isSeated := goodIn_r _ [13, 1, 14, 15, 12, 16, 23, 24, 25, 26, 27, 28, 29, 30, 31, 32, 33, 34, 35, 36, 37, 38, 39, 40, 41, 42, 43, 44, 45, 46, 47, 48, 49, 50, 51, 52, 53, 54, 55, 56, 57, 58, 59, 60, 61, 62, 63, 64, 65, 66, 67, 68] (by decide +kernel) (by decide +kernel)
set_option maxRecDepth 20000 in
theorem gX11_showsOne_X11_isSeated : GoodIn wsX11_showsOne (wsV RX11 361 RX11 yX11_isSeated wsX11_isSeated) := goodIn_app (goodIn_of _ (by decide +kernel)) ggX11_showsOne_X11_isSeated
set_option maxRecDepth 20000 in
theorem ggX11_showsOne_X11_cut_ : GoodIn wsX11_showsOne wsX11_cut_ := goodIn_r _ [19, 20, 21, 4, 22, 6, 7, 8] (by decide +kernel) (by decide +kernel)
set_option maxRecDepth 20000 in
theorem gX11_showsOne_X11_cut_ : GoodIn wsX11_showsOne (va_wsS RX11 366 yX11_cut_ wsX11_cut_) := goodIn_app (goodIn_of _ (by decide +kernel)) ggX11_showsOne_X11_cut_
theorem dX11_showsOne_0 : decode cX11_showsOne 0 = .ok (.aload_n 0, 1) := by decide +kernel
theorem dX11_showsOne_1 : decode cX11_showsOne 1 = .ok (.getfield 35, 3) := by decide +kernel
theorem dX11_showsOne_4 : decode cX11_showsOne 4 = .ok (.bipush 11, 2) := by decide +kernel
theorem dX11_showsOne_6 : decode cX11_showsOne 6 = .ok (.dup2, 1) := by decide +kernel
theorem dX11_showsOne_7 : decode cX11_showsOne 7 = .ok (.iaload, 1) := by decide +kernel
theorem dX11_showsOne_8 : decode cX11_showsOne 8 = .ok (.iconst 1, 1) := by decide +kernel
theorem dX11_showsOne_9 : decode cX11_showsOne 9 = .ok (.iload_n 1, 1) := by decide +kernel
theorem dX11_showsOne_10 : decode cX11_showsOne 10 = .ok (.ishl, 1) := by decide +kernel
theorem dX11_showsOne_11 : decode cX11_showsOne 11 = .ok (.ior, 1) := by decide +kernel
theorem dX11_showsOne_12 : decode cX11_showsOne 12 = .ok (.iastore, 1) := by decide +kernel
theorem dX11_showsOne_13 : decode cX11_showsOne 13 = .ok (.iconst 0, 1) := by decide +kernel
theorem dX11_showsOne_14 : decode cX11_showsOne 14 = .ok (.istore_n 2, 1) := by decide +kernel
theorem dX11_showsOne_15 : decode cX11_showsOne 15 = .ok (.iconst 0, 1) := by decide +kernel
theorem dX11_showsOne_16 : decode cX11_showsOne 16 = .ok (.istore_n 3, 1) := by decide +kernel
theorem dX11_showsOne_17 : decode cX11_showsOne 17 = .ok (.iload_n 3, 1) := by decide +kernel
theorem dX11_showsOne_18 : decode cX11_showsOne 18 = .ok (.aload_n 0, 1) := by decide +kernel
theorem dX11_showsOne_19 : decode cX11_showsOne 19 = .ok (.getfield 35, 3) := by decide +kernel
theorem dX11_showsOne_22 : decode cX11_showsOne 22 = .ok (.iconst 0, 1) := by decide +kernel
theorem dX11_showsOne_23 : decode cX11_showsOne 23 = .ok (.iaload, 1) := by decide +kernel
theorem dX11_showsOne_24 : decode cX11_showsOne 24 = .ok (.if_icmp .ge 118, 3) := by decide +kernel
theorem dX11_showsOne_27 : decode cX11_showsOne 27 = .ok (.aload_n 0, 1) := by decide +kernel
theorem dX11_showsOne_28 : decode cX11_showsOne 28 = .ok (.iload_n 3, 1) := by decide +kernel
theorem dX11_showsOne_29 : decode cX11_showsOne 29 = .ok (.invokevirtual 361, 3) := by decide +kernel
theorem dX11_showsOne_32 : decode cX11_showsOne 32 = .ok (.ifCond .ne 6, 3) := by decide +kernel
theorem dX11_showsOne_35 : decode cX11_showsOne 35 = .ok (.goto 101, 3) := by decide +kernel
theorem dX11_showsOne_38 : decode cX11_showsOne 38 = .ok (.aload_n 0, 1) := by decide +kernel
theorem dX11_showsOne_39 : decode cX11_showsOne 39 = .ok (.getfield 35, 3) := by decide +kernel
theorem dX11_showsOne_42 : decode cX11_showsOne 42 = .ok (.bipush 42, 2) := by decide +kernel
theorem dX11_showsOne_44 : decode cX11_showsOne 44 = .ok (.iload_n 3, 1) := by decide +kernel
theorem dX11_showsOne_45 : decode cX11_showsOne 45 = .ok (.iadd, 1) := by decide +kernel
theorem dX11_showsOne_46 : decode cX11_showsOne 46 = .ok (.iaload, 1) := by decide +kernel
theorem dX11_showsOne_47 : decode cX11_showsOne 47 = .ok (.istore 4, 2) := by decide +kernel
theorem dX11_showsOne_49 : decode cX11_showsOne 49 = .ok (.iconst 0, 1) := by decide +kernel
theorem dX11_showsOne_50 : decode cX11_showsOne 50 = .ok (.aload_n 0, 1) := by decide +kernel
theorem dX11_showsOne_51 : decode cX11_showsOne 51 = .ok (.getfield 35, 3) := by decide +kernel
theorem dX11_showsOne_54 : decode cX11_showsOne 54 = .ok (.sipush 152, 3) := by decide +kernel
theorem dX11_showsOne_57 : decode cX11_showsOne 57 = .ok (.iload_n 1, 1) := by decide +kernel
theorem dX11_showsOne_58 : decode cX11_showsOne 58 = .ok (.iadd, 1) := by decide +kernel
theorem dX11_showsOne_59 : decode cX11_showsOne 59 = .ok (.iaload, 1) := by decide +kernel
theorem dX11_showsOne_60 : decode cX11_showsOne 60 = .ok (.invokestatic 364, 3) := by decide +kernel
theorem dX11_showsOne_63 : decode cX11_showsOne 63 = .ok (.aload_n 0, 1) := by decide +kernel
theorem dX11_showsOne_64 : decode cX11_showsOne 64 = .ok (.getfield 35, 3) := by decide +kernel
theorem dX11_showsOne_67 : decode cX11_showsOne 67 = .ok (.bipush 22, 2) := by decide +kernel
theorem dX11_showsOne_69 : decode cX11_showsOne 69 = .ok (.iload_n 3, 1) := by decide +kernel
theorem dX11_showsOne_70 : decode cX11_showsOne 70 = .ok (.iadd, 1) := by decide +kernel
theorem dX11_showsOne_71 : decode cX11_showsOne 71 = .ok (.iaload, 1) := by decide +kernel
theorem dX11_showsOne_72 : decode cX11_showsOne 72 = .ok (.isub, 1) := by decide +kernel
theorem dX11_showsOne_73 : decode cX11_showsOne 73 = .ok (.invokestatic 264, 3) := by decide +kernel
theorem dX11_showsOne_76 : decode cX11_showsOne 76 = .ok (.istore 5, 2) := by decide +kernel
theorem dX11_showsOne_78 : decode cX11_showsOne 78 = .ok (.aload_n 0, 1) := by decide +kernel
theorem dX11_showsOne_79 : decode cX11_showsOne 79 = .ok (.getfield 35, 3) := by decide +kernel
theorem dX11_showsOne_82 : decode cX11_showsOne 82 = .ok (.bipush 42, 2) := by decide +kernel
theorem dX11_showsOne_84 : decode cX11_showsOne 84 = .ok (.iload_n 3, 1) := by decide +kernel
theorem dX11_showsOne_85 : decode cX11_showsOne 85 = .ok (.iadd, 1) := by decide +kernel
theorem dX11_showsOne_86 : decode cX11_showsOne 86 = .ok (.iload 4, 2) := by decide +kernel
theorem dX11_showsOne_88 : decode cX11_showsOne 88 = .ok (.aload_n 0, 1) := by decide +kernel
theorem dX11_showsOne_89 : decode cX11_showsOne 89 = .ok (.getfield 35, 3) := by decide +kernel
theorem dX11_showsOne_92 : decode cX11_showsOne 92 = .ok (.sipush 152, 3) := by decide +kernel
theorem dX11_showsOne_95 : decode cX11_showsOne 95 = .ok (.iload_n 1, 1) := by decide +kernel
theorem dX11_showsOne_96 : decode cX11_showsOne 96 = .ok (.iadd, 1) := by decide +kernel
theorem dX11_showsOne_97 : decode cX11_showsOne 97 = .ok (.iaload, 1) := by decide +kernel
theorem dX11_showsOne_98 : decode cX11_showsOne 98 = .ok (.ifCond .ge 9, 3) := by decide +kernel
theorem dX11_showsOne_101 : decode cX11_showsOne 101 = .ok (.iload 5, 2) := by decide +kernel
theorem dX11_showsOne_103 : decode cX11_showsOne 103 = .ok (.ineg, 1) := by decide +kernel
theorem dX11_showsOne_104 : decode cX11_showsOne 104 = .ok (.goto 5, 3) := by decide +kernel
theorem dX11_showsOne_107 : decode cX11_showsOne 107 = .ok (.iload 5, 2) := by decide +kernel
theorem dX11_showsOne_109 : decode cX11_showsOne 109 = .ok (.iadd, 1) := by decide +kernel
theorem dX11_showsOne_110 : decode cX11_showsOne 110 = .ok (.invokestatic 366, 3) := by decide +kernel
theorem dX11_showsOne_113 : decode cX11_showsOne 113 = .ok (.iastore, 1) := by decide +kernel
theorem dX11_showsOne_114 : decode cX11_showsOne 114 = .ok (.iload_n 2, 1) := by decide +kernel
theorem dX11_showsOne_115 : decode cX11_showsOne 115 = .ok (.aload_n 0, 1) := by decide +kernel
theorem dX11_showsOne_116 : decode cX11_showsOne 116 = .ok (.getfield 35, 3) := by decide +kernel
theorem dX11_showsOne_119 : decode cX11_showsOne 119 = .ok (.bipush 42, 2) := by decide +kernel
theorem dX11_showsOne_121 : decode cX11_showsOne 121 = .ok (.iload_n 3, 1) := by decide +kernel
theorem dX11_showsOne_122 : decode cX11_showsOne 122 = .ok (.iadd, 1) := by decide +kernel
theorem dX11_showsOne_123 : decode cX11_showsOne 123 = .ok (.iaload, 1) := by decide +kernel
theorem dX11_showsOne_124 : decode cX11_showsOne 124 = .ok (.iload 4, 2) := by decide +kernel
theorem dX11_showsOne_126 : decode cX11_showsOne 126 = .ok (.if_icmp .ne 7, 3) := by decide +kernel
theorem dX11_showsOne_129 : decode cX11_showsOne 129 = .ok (.iconst 0, 1) := by decide +kernel
theorem dX11_showsOne_130 : decode cX11_showsOne 130 = .ok (.goto 4, 3) := by decide +kernel
theorem dX11_showsOne_133 : decode cX11_showsOne 133 = .ok (.iconst 1, 1) := by decide +kernel
theorem dX11_showsOne_134 : decode cX11_showsOne 134 = .ok (.iadd, 1) := by decide +kernel
theorem dX11_showsOne_135 : decode cX11_showsOne 135 = .ok (.istore_n 2, 1) := by decide +kernel
theorem dX11_showsOne_136 : decode cX11_showsOne 136 = .ok (.iinc 3 1, 3) := by decide +kernel
theorem dX11_showsOne_139 : decode cX11_showsOne 139 = .ok (.goto (-122), 3) := by decide +kernel
theorem dX11_showsOne_142 : decode cX11_showsOne 142 = .ok (.iload_n 2, 1) := by decide +kernel
theorem dX11_showsOne_143 : decode cX11_showsOne 143 = .ok (.ireturn, 1) := by decide +kernel
set_option maxRecDepth 20000 in
theorem ggX11_show_X11_isIn : GoodIn wsX11_show wsX11_isIn := goodIn_r _ [7] (by decide +kernel) (by decide +kernel)
set_option maxRecDepth 20000 in
theorem gX11_show_X11_isIn : GoodIn wsX11_show (va_wsS RX11 106 yX11_isIn wsX11_isIn) := goodIn_app (goodIn_of _ (by decide +kernel)) ggX11_show_X11_isIn
set_option maxRecDepth 20000 in
theorem ggX11_show_X11_refuse : GoodIn wsX11_show wsX11_refuse := goodIn_r _ [11, 2, 36, 37, 38, 39, 40, 41, 42, 43, 44, 45, 46, 47, 48, 49, 50, 51, 52, 53, 54, 55, 56, 57, 58, 59, 60, 61, 62, 63, 64, 65, 66, 67, 68, 69, 70, 71, 72, 73, 74, 75, 76, 77, 78, 79, 80, 81] (by decide +kernel) (by decide +kernel)
set_option maxRecDepth 20000 in
theorem gX11_show_X11_refuse : GoodIn wsX11_show (wsV RX11 340 RX11 yX11_refuse wsX11_refuse) := goodIn_app (goodIn_of _ (by decide +kernel)) ggX11_show_X11_refuse
set_option maxRecDepth 20000 in
theorem ggX11_show_X11_has : GoodIn wsX11_show wsX11_has := goodIn_r _ [14] (by decide +kernel) (by decide +kernel)
set_option maxRecDepth 20000 in
theorem gX11_show_X11_has : GoodIn wsX11_show (va_wsS RX11 110 yX11_has wsX11_has) := goodIn_app (goodIn_of _ (by decide +kernel)) ggX11_show_X11_has
set_option maxRecDepth 20000 in
theorem ggX11_show_X11_showsOne : GoodIn wsX11_show wsX11_showsOne := goodIn_r _ [18, 3, 19, 20, 21, 22, 23, 24, 25, 26, 27, 28, 6, 29, 12, 13, 14, 30, 31, 32, 33, 34, 35, 36, 37, 38, 39, 40, 41, 42, 43, 44, 45, 46, 47, 48, 49, 50, 51, 52, 53, 54, 55, 56, 57, 58, 59, 60, 61, 62, 63, 64, 65, 66, 67, 68, 69, 70, 71, 72, 73, 74, 75, 76, 77, 78, 79, 80, 81] (by decide +kernel) (by decide +kernel)
set_option maxRecDepth 20000 in
theorem gX11_show_X11_showsOne : GoodIn wsX11_show (wsV RX11 368 RX11 yX11_showsOne wsX11_showsOne) := goodIn_app (goodIn_of _ (by decide +kernel)) ggX11_show_X11_showsOne
theorem dX11_show_0 : decode cX11_show 0 = .ok (.aload_n 0, 1) := by decide +kernel
theorem dX11_show_1 : decode cX11_show 1 = .ok (.iconst 0, 1) := by decide +kernel
theorem dX11_show_2 : decode cX11_show 2 = .ok (.putfield 71, 3) := by decide +kernel
theorem dX11_show_5 : decode cX11_show 5 = .ok (.aload_n 0, 1) := by decide +kernel
theorem dX11_show_6 : decode cX11_show 6 = .ok (.iconst 0, 1) := by decide +kernel
theorem dX11_show_7 : decode cX11_show 7 = .ok (.putfield 74, 3) := by decide +kernel
theorem dX11_show_10 : decode cX11_show 10 = .ok (.iload_n 1, 1) := by decide +kernel
theorem dX11_show_11 : decode cX11_show 11 = .ok (.i2l, 1) := by decide +kernel
theorem dX11_show_12 : decode cX11_show 12 = .ok (.lconst 0, 1) := by decide +kernel
theorem dX11_show_13 : decode cX11_show 13 = .ok (.aload_n 0, 1) := by decide +kernel
theorem dX11_show_14 : decode cX11_show 14 = .ok (.getfield 35, 3) := by decide +kernel
theorem dX11_show_17 : decode cX11_show 17 = .ok (.iconst 1, 1) := by decide +kernel
theorem dX11_show_18 : decode cX11_show 18 = .ok (.iaload, 1) := by decide +kernel
theorem dX11_show_19 : decode cX11_show 19 = .ok (.iconst 1, 1) := by decide +kernel
theorem dX11_show_20 : decode cX11_show 20 = .ok (.isub, 1) := by decide +kernel
theorem dX11_show_21 : decode cX11_show 21 = .ok (.i2l, 1) := by decide +kernel
theorem dX11_show_22 : decode cX11_show 22 = .ok (.invokestatic 106, 3) := by decide +kernel
theorem dX11_show_25 : decode cX11_show 25 = .ok (.ifCond .ne 9, 3) := by decide +kernel
theorem dX11_show_28 : decode cX11_show 28 = .ok (.aload_n 0, 1) := by decide +kernel
theorem dX11_show_29 : decode cX11_show 29 = .ok (.iconst 2, 1) := by decide +kernel
theorem dX11_show_30 : decode cX11_show 30 = .ok (.invokevirtual 340, 3) := by decide +kernel
theorem dX11_show_33 : decode cX11_show 33 = .ok (.ireturn, 1) := by decide +kernel
theorem dX11_show_34 : decode cX11_show 34 = .ok (.aload_n 0, 1) := by decide +kernel
theorem dX11_show_35 : decode cX11_show 35 = .ok (.getfield 35, 3) := by decide +kernel
theorem dX11_show_38 : decode cX11_show 38 = .ok (.bipush 11, 2) := by decide +kernel
theorem dX11_show_40 : decode cX11_show 40 = .ok (.iaload, 1) := by decide +kernel
theorem dX11_show_41 : decode cX11_show 41 = .ok (.iload_n 1, 1) := by decide +kernel
theorem dX11_show_42 : decode cX11_show 42 = .ok (.invokestatic 110, 3) := by decide +kernel
theorem dX11_show_45 : decode cX11_show 45 = .ok (.ifCond .eq 12, 3) := by decide +kernel
theorem dX11_show_48 : decode cX11_show 48 = .ok (.aload_n 0, 1) := by decide +kernel
theorem dX11_show_49 : decode cX11_show 49 = .ok (.bipush 9, 2) := by decide +kernel
theorem dX11_show_51 : decode cX11_show 51 = .ok (.invokevirtual 340, 3) := by decide +kernel
theorem dX11_show_54 : decode cX11_show 54 = .ok (.goto 8, 3) := by decide +kernel
theorem dX11_show_57 : decode cX11_show 57 = .ok (.aload_n 0, 1) := by decide +kernel
theorem dX11_show_58 : decode cX11_show 58 = .ok (.iload_n 1, 1) := by decide +kernel
theorem dX11_show_59 : decode cX11_show 59 = .ok (.invokevirtual 368, 3) := by decide +kernel
theorem dX11_show_62 : decode cX11_show 62 = .ok (.ireturn, 1) := by decide +kernel
set_option maxRecDepth 20000 in
theorem ggX11_pulled_X11_isSeated : GoodIn wsX11_pulled wsX11_isSeated := goodIn_r _ [10, 1, 11, 12, 9, 13, 23, 24, 25, 26, 27, 28, 29, 30, 31, 32, 33, 34, 35, 36, 37, 38, 39, 40, 41, 42, 43, 44, 45, 46, 47, 48, 49, 50, 51, 52, 53, 54, 55, 56, 57, 58, 59, 60, 61, 62, 63, 64, 65, 66, 67, 68] (by decide +kernel) (by decide +kernel)
set_option maxRecDepth 20000 in
theorem gX11_pulled_X11_isSeated : GoodIn wsX11_pulled (wsV RX11 361 RX11 yX11_isSeated wsX11_isSeated) := goodIn_app (goodIn_of _ (by decide +kernel)) ggX11_pulled_X11_isSeated
set_option maxRecDepth 20000 in
theorem ggX11_pulled_X11_cut_ : GoodIn wsX11_pulled wsX11_cut_ := goodIn_r _ [16, 17, 18, 4, 19, 20, 21, 22] (by decide +kernel) (by decide +kernel)
set_option maxRecDepth 20000 in
theorem gX11_pulled_X11_cut_ : GoodIn wsX11_pulled (va_wsS RX11 366 yX11_cut_ wsX11_cut_) := goodIn_app (goodIn_of _ (by decide +kernel)) ggX11_pulled_X11_cut_
theorem dX11_pulled_0 : decode cX11_pulled 0 = .ok (.iconst 0, 1) := by decide +kernel
theorem dX11_pulled_1 : decode cX11_pulled 1 = .ok (.istore_n 2, 1) := by decide +kernel
theorem dX11_pulled_2 : decode cX11_pulled 2 = .ok (.iconst 0, 1) := by decide +kernel
theorem dX11_pulled_3 : decode cX11_pulled 3 = .ok (.istore_n 3, 1) := by decide +kernel
theorem dX11_pulled_4 : decode cX11_pulled 4 = .ok (.iload_n 3, 1) := by decide +kernel
theorem dX11_pulled_5 : decode cX11_pulled 5 = .ok (.aload_n 0, 1) := by decide +kernel
theorem dX11_pulled_6 : decode cX11_pulled 6 = .ok (.getfield 35, 3) := by decide +kernel
theorem dX11_pulled_9 : decode cX11_pulled 9 = .ok (.iconst 0, 1) := by decide +kernel
theorem dX11_pulled_10 : decode cX11_pulled 10 = .ok (.iaload, 1) := by decide +kernel
theorem dX11_pulled_11 : decode cX11_pulled 11 = .ok (.if_icmp .ge 84, 3) := by decide +kernel
theorem dX11_pulled_14 : decode cX11_pulled 14 = .ok (.iload_n 3, 1) := by decide +kernel
theorem dX11_pulled_15 : decode cX11_pulled 15 = .ok (.iload_n 1, 1) := by decide +kernel
theorem dX11_pulled_16 : decode cX11_pulled 16 = .ok (.if_icmp .eq 73, 3) := by decide +kernel
theorem dX11_pulled_19 : decode cX11_pulled 19 = .ok (.aload_n 0, 1) := by decide +kernel
theorem dX11_pulled_20 : decode cX11_pulled 20 = .ok (.iload_n 3, 1) := by decide +kernel
theorem dX11_pulled_21 : decode cX11_pulled 21 = .ok (.invokevirtual 361, 3) := by decide +kernel
theorem dX11_pulled_24 : decode cX11_pulled 24 = .ok (.ifCond .eq 65, 3) := by decide +kernel
theorem dX11_pulled_27 : decode cX11_pulled 27 = .ok (.aload_n 0, 1) := by decide +kernel
theorem dX11_pulled_28 : decode cX11_pulled 28 = .ok (.getfield 35, 3) := by decide +kernel
theorem dX11_pulled_31 : decode cX11_pulled 31 = .ok (.bipush 42, 2) := by decide +kernel
theorem dX11_pulled_33 : decode cX11_pulled 33 = .ok (.iload_n 3, 1) := by decide +kernel
theorem dX11_pulled_34 : decode cX11_pulled 34 = .ok (.iadd, 1) := by decide +kernel
theorem dX11_pulled_35 : decode cX11_pulled 35 = .ok (.iaload, 1) := by decide +kernel
theorem dX11_pulled_36 : decode cX11_pulled 36 = .ok (.ifCond .ne 6, 3) := by decide +kernel
theorem dX11_pulled_39 : decode cX11_pulled 39 = .ok (.goto 50, 3) := by decide +kernel
theorem dX11_pulled_42 : decode cX11_pulled 42 = .ok (.iload_n 2, 1) := by decide +kernel
theorem dX11_pulled_43 : decode cX11_pulled 43 = .ok (.aload_n 0, 1) := by decide +kernel
theorem dX11_pulled_44 : decode cX11_pulled 44 = .ok (.getfield 35, 3) := by decide +kernel
theorem dX11_pulled_47 : decode cX11_pulled 47 = .ok (.bipush 42, 2) := by decide +kernel
theorem dX11_pulled_49 : decode cX11_pulled 49 = .ok (.iload_n 3, 1) := by decide +kernel
theorem dX11_pulled_50 : decode cX11_pulled 50 = .ok (.iadd, 1) := by decide +kernel
theorem dX11_pulled_51 : decode cX11_pulled 51 = .ok (.iaload, 1) := by decide +kernel
theorem dX11_pulled_52 : decode cX11_pulled 52 = .ok (.ifCond .le 20, 3) := by decide +kernel
theorem dX11_pulled_55 : decode cX11_pulled 55 = .ok (.aload_n 0, 1) := by decide +kernel
theorem dX11_pulled_56 : decode cX11_pulled 56 = .ok (.getfield 35, 3) := by decide +kernel
theorem dX11_pulled_59 : decode cX11_pulled 59 = .ok (.bipush 52, 2) := by decide +kernel
theorem dX11_pulled_61 : decode cX11_pulled 61 = .ok (.bipush 10, 2) := by decide +kernel
theorem dX11_pulled_63 : decode cX11_pulled 63 = .ok (.iload_n 3, 1) := by decide +kernel
theorem dX11_pulled_64 : decode cX11_pulled 64 = .ok (.imul, 1) := by decide +kernel
theorem dX11_pulled_65 : decode cX11_pulled 65 = .ok (.iadd, 1) := by decide +kernel
theorem dX11_pulled_66 : decode cX11_pulled 66 = .ok (.iload_n 1, 1) := by decide +kernel
theorem dX11_pulled_67 : decode cX11_pulled 67 = .ok (.iadd, 1) := by decide +kernel
theorem dX11_pulled_68 : decode cX11_pulled 68 = .ok (.iaload, 1) := by decide +kernel
theorem dX11_pulled_69 : decode cX11_pulled 69 = .ok (.goto 18, 3) := by decide +kernel
theorem dX11_pulled_72 : decode cX11_pulled 72 = .ok (.aload_n 0, 1) := by decide +kernel
theorem dX11_pulled_73 : decode cX11_pulled 73 = .ok (.getfield 35, 3) := by decide +kernel
theorem dX11_pulled_76 : decode cX11_pulled 76 = .ok (.bipush 52, 2) := by decide +kernel
theorem dX11_pulled_78 : decode cX11_pulled 78 = .ok (.bipush 10, 2) := by decide +kernel
theorem dX11_pulled_80 : decode cX11_pulled 80 = .ok (.iload_n 3, 1) := by decide +kernel
theorem dX11_pulled_81 : decode cX11_pulled 81 = .ok (.imul, 1) := by decide +kernel
theorem dX11_pulled_82 : decode cX11_pulled 82 = .ok (.iadd, 1) := by decide +kernel
theorem dX11_pulled_83 : decode cX11_pulled 83 = .ok (.iload_n 1, 1) := by decide +kernel
theorem dX11_pulled_84 : decode cX11_pulled 84 = .ok (.iadd, 1) := by decide +kernel
theorem dX11_pulled_85 : decode cX11_pulled 85 = .ok (.iaload, 1) := by decide +kernel
theorem dX11_pulled_86 : decode cX11_pulled 86 = .ok (.ineg, 1) := by decide +kernel
theorem dX11_pulled_87 : decode cX11_pulled 87 = .ok (.iadd, 1) := by decide +kernel
theorem dX11_pulled_88 : decode cX11_pulled 88 = .ok (.istore_n 2, 1) := by decide +kernel
theorem dX11_pulled_89 : decode cX11_pulled 89 = .ok (.iinc 3 1, 3) := by decide +kernel
theorem dX11_pulled_92 : decode cX11_pulled 92 = .ok (.goto (-88), 3) := by decide +kernel
theorem dX11_pulled_95 : decode cX11_pulled 95 = .ok (.iload_n 2, 1) := by decide +kernel
theorem dX11_pulled_96 : decode cX11_pulled 96 = .ok (.invokestatic 364, 3) := by decide +kernel
theorem dX11_pulled_99 : decode cX11_pulled 99 = .ok (.aload_n 0, 1) := by decide +kernel
theorem dX11_pulled_100 : decode cX11_pulled 100 = .ok (.getfield 35, 3) := by decide +kernel
theorem dX11_pulled_103 : decode cX11_pulled 103 = .ok (.bipush 22, 2) := by decide +kernel
theorem dX11_pulled_105 : decode cX11_pulled 105 = .ok (.iload_n 1, 1) := by decide +kernel
theorem dX11_pulled_106 : decode cX11_pulled 106 = .ok (.iadd, 1) := by decide +kernel
theorem dX11_pulled_107 : decode cX11_pulled 107 = .ok (.iaload, 1) := by decide +kernel
theorem dX11_pulled_108 : decode cX11_pulled 108 = .ok (.if_icmp .le 20, 3) := by decide +kernel
theorem dX11_pulled_111 : decode cX11_pulled 111 = .ok (.aload_n 0, 1) := by decide +kernel
theorem dX11_pulled_112 : decode cX11_pulled 112 = .ok (.getfield 35, 3) := by decide +kernel
theorem dX11_pulled_115 : decode cX11_pulled 115 = .ok (.bipush 42, 2) := by decide +kernel
theorem dX11_pulled_117 : decode cX11_pulled 117 = .ok (.iload_n 1, 1) := by decide +kernel
theorem dX11_pulled_118 : decode cX11_pulled 118 = .ok (.iadd, 1) := by decide +kernel
theorem dX11_pulled_119 : decode cX11_pulled 119 = .ok (.iaload, 1) := by decide +kernel
theorem dX11_pulled_120 : decode cX11_pulled 120 = .ok (.iload_n 2, 1) := by decide +kernel
theorem dX11_pulled_121 : decode cX11_pulled 121 = .ok (.iadd, 1) := by decide +kernel
theorem dX11_pulled_122 : decode cX11_pulled 122 = .ok (.invokestatic 366, 3) := by decide +kernel
theorem dX11_pulled_125 : decode cX11_pulled 125 = .ok (.goto 12, 3) := by decide +kernel
theorem dX11_pulled_128 : decode cX11_pulled 128 = .ok (.aload_n 0, 1) := by decide +kernel
theorem dX11_pulled_129 : decode cX11_pulled 129 = .ok (.getfield 35, 3) := by decide +kernel
theorem dX11_pulled_132 : decode cX11_pulled 132 = .ok (.bipush 42, 2) := by decide +kernel
theorem dX11_pulled_134 : decode cX11_pulled 134 = .ok (.iload_n 1, 1) := by decide +kernel
theorem dX11_pulled_135 : decode cX11_pulled 135 = .ok (.iadd, 1) := by decide +kernel
theorem dX11_pulled_136 : decode cX11_pulled 136 = .ok (.iaload, 1) := by decide +kernel
theorem dX11_pulled_137 : decode cX11_pulled 137 = .ok (.ireturn, 1) := by decide +kernel
set_option maxRecDepth 20000 in
theorem ggX11_votesFor_X11_isSeated : GoodIn wsX11_votesFor wsX11_isSeated := goodIn_r _ [6, 1, 7, 8, 5, 9, 10, 11, 12, 13, 14, 15, 16, 17, 18, 19, 20, 21, 22, 23, 24, 25, 26, 27, 28, 29, 30, 31, 32, 33, 34, 35, 36, 37, 38, 39, 40, 41, 42, 43, 44, 45, 46, 47, 48, 49, 50, 51, 52, 53, 54, 55] (by decide +kernel) (by decide +kernel)
set_option maxRecDepth 20000 in
theorem gX11_votesFor_X11_isSeated : GoodIn wsX11_votesFor (wsV RX11 361 RX11 yX11_isSeated wsX11_isSeated) := goodIn_app (goodIn_of _ (by decide +kernel)) ggX11_votesFor_X11_isSeated
theorem dX11_votesFor_0 : decode cX11_votesFor 0 = .ok (.iconst 0, 1) := by decide +kernel
theorem dX11_votesFor_1 : decode cX11_votesFor 1 = .ok (.istore_n 2, 1) := by decide +kernel
theorem dX11_votesFor_2 : decode cX11_votesFor 2 = .ok (.iconst 0, 1) := by decide +kernel
theorem dX11_votesFor_3 : decode cX11_votesFor 3 = .ok (.istore_n 3, 1) := by decide +kernel
theorem dX11_votesFor_4 : decode cX11_votesFor 4 = .ok (.iload_n 3, 1) := by decide +kernel
theorem dX11_votesFor_5 : decode cX11_votesFor 5 = .ok (.aload_n 0, 1) := by decide +kernel
theorem dX11_votesFor_6 : decode cX11_votesFor 6 = .ok (.getfield 35, 3) := by decide +kernel
theorem dX11_votesFor_9 : decode cX11_votesFor 9 = .ok (.iconst 0, 1) := by decide +kernel
theorem dX11_votesFor_10 : decode cX11_votesFor 10 = .ok (.iaload, 1) := by decide +kernel
theorem dX11_votesFor_11 : decode cX11_votesFor 11 = .ok (.if_icmp .ge 54, 3) := by decide +kernel
theorem dX11_votesFor_14 : decode cX11_votesFor 14 = .ok (.iload_n 2, 1) := by decide +kernel
theorem dX11_votesFor_15 : decode cX11_votesFor 15 = .ok (.aload_n 0, 1) := by decide +kernel
theorem dX11_votesFor_16 : decode cX11_votesFor 16 = .ok (.iload_n 3, 1) := by decide +kernel
theorem dX11_votesFor_17 : decode cX11_votesFor 17 = .ok (.invokevirtual 361, 3) := by decide +kernel
theorem dX11_votesFor_20 : decode cX11_votesFor 20 = .ok (.ifCond .eq 36, 3) := by decide +kernel
theorem dX11_votesFor_23 : decode cX11_votesFor 23 = .ok (.aload_n 0, 1) := by decide +kernel
theorem dX11_votesFor_24 : decode cX11_votesFor 24 = .ok (.getfield 35, 3) := by decide +kernel
theorem dX11_votesFor_27 : decode cX11_votesFor 27 = .ok (.bipush 42, 2) := by decide +kernel
theorem dX11_votesFor_29 : decode cX11_votesFor 29 = .ok (.iload_n 3, 1) := by decide +kernel
theorem dX11_votesFor_30 : decode cX11_votesFor 30 = .ok (.iadd, 1) := by decide +kernel
theorem dX11_votesFor_31 : decode cX11_votesFor 31 = .ok (.iaload, 1) := by decide +kernel
theorem dX11_votesFor_32 : decode cX11_votesFor 32 = .ok (.ifCond .le 7, 3) := by decide +kernel
theorem dX11_votesFor_35 : decode cX11_votesFor 35 = .ok (.iconst 1, 1) := by decide +kernel
theorem dX11_votesFor_36 : decode cX11_votesFor 36 = .ok (.goto 4, 3) := by decide +kernel
theorem dX11_votesFor_39 : decode cX11_votesFor 39 = .ok (.iconst 0, 1) := by decide +kernel
theorem dX11_votesFor_40 : decode cX11_votesFor 40 = .ok (.iload_n 1, 1) := by decide +kernel
theorem dX11_votesFor_41 : decode cX11_votesFor 41 = .ok (.ifCond .le 7, 3) := by decide +kernel
theorem dX11_votesFor_44 : decode cX11_votesFor 44 = .ok (.iconst 1, 1) := by decide +kernel
theorem dX11_votesFor_45 : decode cX11_votesFor 45 = .ok (.goto 4, 3) := by decide +kernel
theorem dX11_votesFor_48 : decode cX11_votesFor 48 = .ok (.iconst 0, 1) := by decide +kernel
theorem dX11_votesFor_49 : decode cX11_votesFor 49 = .ok (.if_icmp .ne 7, 3) := by decide +kernel
theorem dX11_votesFor_52 : decode cX11_votesFor 52 = .ok (.iconst 1, 1) := by decide +kernel
theorem dX11_votesFor_53 : decode cX11_votesFor 53 = .ok (.goto 4, 3) := by decide +kernel
theorem dX11_votesFor_56 : decode cX11_votesFor 56 = .ok (.iconst 0, 1) := by decide +kernel
theorem dX11_votesFor_57 : decode cX11_votesFor 57 = .ok (.iadd, 1) := by decide +kernel
theorem dX11_votesFor_58 : decode cX11_votesFor 58 = .ok (.istore_n 2, 1) := by decide +kernel
theorem dX11_votesFor_59 : decode cX11_votesFor 59 = .ok (.iinc 3 1, 3) := by decide +kernel
theorem dX11_votesFor_62 : decode cX11_votesFor 62 = .ok (.goto (-58), 3) := by decide +kernel
theorem dX11_votesFor_65 : decode cX11_votesFor 65 = .ok (.iload_n 2, 1) := by decide +kernel
theorem dX11_votesFor_66 : decode cX11_votesFor 66 = .ok (.ireturn, 1) := by decide +kernel
set_option maxRecDepth 20000 in
theorem ggX11_talks_X11_isSeated : GoodIn wsX11_talks wsX11_isSeated := goodIn_r _ [6, 1, 7, 8, 5, 9, 31, 32, 33, 34, 35, 36, 37, 38, 39, 40, 41, 42, 43, 44, 45, 46, 47, 48, 49, 50, 51, 52, 53, 54, 55, 56, 57, 58, 59, 60, 61, 62, 63, 64, 65, 66, 67, 68, 69, 70, 71, 72, 73, 74, 75, 76] (by decide +kernel) (by decide +kernel)
set_option maxRecDepth 20000 in
theorem gX11_talks_X11_isSeated : GoodIn wsX11_talks (wsV RX11 361 RX11 yX11_isSeated wsX11_isSeated) := goodIn_app (goodIn_of _ (by decide +kernel)) ggX11_talks_X11_isSeated
set_option maxRecDepth 20000 in
theorem ggX11_talks_X11_pulled : GoodIn wsX11_talks wsX11_pulled := goodIn_r _ [13, 1, 14, 15, 16, 17, 2, 3, 4, 5, 6, 7, 8, 9, 18, 19, 20, 21, 22, 23, 24, 25, 26, 31, 32, 33, 34, 35, 36, 37, 38, 39, 40, 41, 42, 43, 44, 45, 46, 47, 48, 49, 50, 51, 52, 53, 54, 55, 56, 57, 58, 59, 60, 61, 62, 63, 64, 65, 66, 67, 68, 69, 70, 71, 72, 73, 74, 75, 76] (by decide +kernel) (by decide +kernel)
