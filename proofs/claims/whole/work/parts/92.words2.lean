theorem qL_L_7 : Cond.classLink RL 7 RX10 ∈ WT := mem_T1 (i := 20) rfl rfl
theorem qI_X10 : Cond.instantiable RX10 19 ∈ WT := mem_T1 (i := 21) rfl rfl
theorem qO_X10 : Cond.methodLink RX10 1 objectInit ∈ WT := mem_T1 (i := 25) rfl rfl
theorem qO_inst : Cond.instanceMethod objectInit ∈ WT := mem_T1 (i := 26) rfl rfl
theorem qO_code : Cond.code objectInit ⟨#[0xb1]⟩ 1 none ∈ WT := mem_T1 (i := 27) rfl rfl
theorem qL_X10_7 : Cond.classLink RX10 7 RX6 ∈ WT := mem_T1 (i := 28) rfl rfl
theorem qI_X6 : Cond.instantiable RX6 3 ∈ WT := mem_T1 (i := 29) rfl rfl
theorem qO_X6 : Cond.methodLink RX6 3 objectInit ∈ WT := mem_T1 (i := 33) rfl rfl
theorem qL_X6_9 : Cond.classLink RX6 9 "[[J" ∈ WT := mem_T1 (i := 34) rfl rfl
theorem qA_long : Cond.arrayClass .long ∈ WT := mem_T1 (i := 49) rfl rfl
theorem qA_int : Cond.arrayClass .int ∈ WT := mem_T1 (i := 50) rfl rfl
theorem qL_X10_16 : Cond.classLink RX10 16 RX9 ∈ WT := mem_T1 (i := 51) rfl rfl
theorem qI_X9 : Cond.instantiable RX9 3 ∈ WT := mem_T1 (i := 52) rfl rfl
theorem qO_X9 : Cond.methodLink RX9 1 objectInit ∈ WT := mem_T1 (i := 56) rfl rfl
theorem qL_X9_7 : Cond.classLink RX9 7 RX1 ∈ WT := mem_T1 (i := 57) rfl rfl
theorem qI_X1 : Cond.instantiable RX1 13 ∈ WT := mem_T1 (i := 58) rfl rfl
theorem qO_X1 : Cond.methodLink RX1 3 objectInit ∈ WT := mem_T1 (i := 62) rfl rfl
theorem qL_X9_16 : Cond.classLink RX9 16 RX3 ∈ WT := mem_T1 (i := 133) rfl rfl
theorem qI_X3 : Cond.instantiable RX3 8 ∈ WT := mem_T1 (i := 134) rfl rfl
theorem qO_X3 : Cond.methodLink RX3 3 objectInit ∈ WT := mem_T1 (i := 138) rfl rfl
theorem qL_X9_23 : Cond.classLink RX9 23 RX7 ∈ WT := mem_T1 (i := 177) rfl rfl
theorem qI_X7 : Cond.instantiable RX7 9 ∈ WT := mem_T1 (i := 178) rfl rfl
theorem qO_X7 : Cond.methodLink RX7 3 objectInit ∈ WT := mem_T1 (i := 182) rfl rfl
theorem qL_X10_27 : Cond.classLink RX10 27 RX1 ∈ WT := mem_T2 (i := 5) rfl rfl
theorem qL_X10_34 : Cond.classLink RX10 34 RX7 ∈ WT := mem_T2 (i := 7) rfl rfl
theorem qL_X10_41 : Cond.classLink RX10 41 RX5 ∈ WT := mem_T2 (i := 9) rfl rfl
theorem qI_X5 : Cond.instantiable RX5 12 ∈ WT := mem_T2 (i := 10) rfl rfl
theorem qO_X5 : Cond.methodLink RX5 3 objectInit ∈ WT := mem_T2 (i := 14) rfl rfl
theorem qk_yJ0_coder_7d493 : Cond.code yJ0_coder_7d493 cJ0_coder_7d493 1 (some .byte) ∈ WT := mem_T2 (i := 23) rfl rfl
theorem qf_J0_38 : Cond.fieldLink RJ0 38 "java/lang/String" "COMPACT_STRINGS" "Z" ∈ WT := mem_T2 (i := 24) rfl rfl
theorem qk_yJ0_charAt_5068e : Cond.code yJ0_charAt_5068e cJ0_charAt_5068e 2 (some .char) ∈ WT := mem_T2 (i := 29) rfl rfl
theorem qk_yJ1_charAt_3b067 : Cond.code yJ1_charAt_3b067 cJ1_charAt_3b067 2 (some .char) ∈ WT := mem_T2 (i := 36) rfl rfl
theorem qf_J0_1053 : Cond.fieldLink RJ0 1053 "jdk/internal/util/Preconditions" "SIOOBE_FORMATTER" "Ljava/util/function/BiFunction;" ∈ WT := mem_T2 (i := 40) rfl rfl
theorem qA_byte : Cond.arrayClass .byte ∈ WT := mem_T2 (i := 113) rfl rfl
theorem qL_X10_48 : Cond.classLink RX10 48 RX2 ∈ WT := mem_T2 (i := 114) rfl rfl
theorem qI_X2 : Cond.instantiable RX2 1 ∈ WT := mem_T2 (i := 115) rfl rfl
theorem qO_X2 : Cond.methodLink RX2 3 objectInit ∈ WT := mem_T2 (i := 119) rfl rfl
theorem qL_X10_55 : Cond.classLink RX10 55 RX8 ∈ WT := mem_T2 (i := 124) rfl rfl
theorem qI_X8 : Cond.instantiable RX8 2 ∈ WT := mem_T2 (i := 125) rfl rfl
theorem qO_X8 : Cond.methodLink RX8 3 objectInit ∈ WT := mem_T2 (i := 129) rfl rfl
theorem qL_X10_62 : Cond.classLink RX10 62 RX0 ∈ WT := mem_T2 (i := 137) rfl rfl
theorem qI_X0 : Cond.instantiable RX0 11 ∈ WT := mem_T2 (i := 138) rfl rfl
theorem qO_X0 : Cond.methodLink RX0 3 objectInit ∈ WT := mem_T2 (i := 142) rfl rfl
theorem qL_X0_18 : Cond.classLink RX0 18 RX3 ∈ WT := mem_T2 (i := 143) rfl rfl
theorem qL_X10_69 : Cond.classLink RX10 69 RX3 ∈ WT := mem_T2 (i := 186) rfl rfl
theorem qL_X10_76 : Cond.classLink RX10 76 RX4 ∈ WT := mem_T2 (i := 188) rfl rfl
theorem qI_X4 : Cond.instantiable RX4 8 ∈ WT := mem_T2 (i := 189) rfl rfl
theorem qO_X4 : Cond.methodLink RX4 3 objectInit ∈ WT := mem_T2 (i := 193) rfl rfl
theorem qL_L_10 : Cond.classLink RL 10 RX11 ∈ WT := mem_T6 (i := 77) rfl rfl
theorem qI_X11 : Cond.instantiable RX11 46 ∈ WT := mem_T6 (i := 78) rfl rfl
theorem qO_X11 : Cond.methodLink RX11 1 objectInit ∈ WT := mem_T6 (i := 82) rfl rfl
theorem qf_J0_9 : Cond.fieldLink RJ0 9 "java/lang/String" "value" "[B" ∈ WT := mem_T9 (i := 150) rfl rfl
theorem qf_J0_15 : Cond.fieldLink RJ0 15 "java/lang/String" "coder" "B" ∈ WT := mem_T9 (i := 151) rfl rfl
