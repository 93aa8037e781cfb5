theorem mem_T0 {w : Cond} {i : Nat} (h : (k2_sels lw_privs)[i]? = some w) (hg : goodWord w = true) : w ∈ WT := List.mem_filter.mpr ⟨List.mem_append_left _ (List.mem_of_getElem? h), hg⟩
theorem mem_T1 {w : Cond} {i : Nat} (h : tables_1_1[i]? = some w) (hg : goodWord w = true) : w ∈ WT := List.mem_filter.mpr ⟨List.mem_append_right _ (List.mem_append_left _ (List.mem_of_getElem? h)), hg⟩
theorem mem_T2 {w : Cond} {i : Nat} (h : tables_1_2[i]? = some w) (hg : goodWord w = true) : w ∈ WT := List.mem_filter.mpr ⟨List.mem_append_right _ (List.mem_append_right _ (List.mem_append_left _ (List.mem_of_getElem? h))), hg⟩
theorem mem_T3 {w : Cond} {i : Nat} (h : tables_1_3[i]? = some w) (hg : goodWord w = true) : w ∈ WT := List.mem_filter.mpr ⟨List.mem_append_right _ (List.mem_append_right _ (List.mem_append_right _ (List.mem_append_left _ (List.mem_of_getElem? h)))), hg⟩
theorem mem_T4 {w : Cond} {i : Nat} (h : tables_1_4[i]? = some w) (hg : goodWord w = true) : w ∈ WT := List.mem_filter.mpr ⟨List.mem_append_right _ (List.mem_append_right _ (List.mem_append_right _ (List.mem_append_right _ (List.mem_append_left _ (List.mem_of_getElem? h))))), hg⟩
theorem mem_T5 {w : Cond} {i : Nat} (h : tables_1_5[i]? = some w) (hg : goodWord w = true) : w ∈ WT := List.mem_filter.mpr ⟨List.mem_append_right _ (List.mem_append_right _ (List.mem_append_right _ (List.mem_append_right _ (List.mem_append_right _ (List.mem_append_left _ (List.mem_of_getElem? h)))))), hg⟩
theorem mem_T6 {w : Cond} {i : Nat} (h : tables_1_6[i]? = some w) (hg : goodWord w = true) : w ∈ WT := List.mem_filter.mpr ⟨List.mem_append_right _ (List.mem_append_right _ (List.mem_append_right _ (List.mem_append_right _ (List.mem_append_right _ (List.mem_append_right _ (List.mem_append_left _ (List.mem_of_getElem? h))))))), hg⟩
theorem mem_T7 {w : Cond} {i : Nat} (h : tables_1_7[i]? = some w) (hg : goodWord w = true) : w ∈ WT := List.mem_filter.mpr ⟨List.mem_append_right _ (List.mem_append_right _ (List.mem_append_right _ (List.mem_append_right _ (List.mem_append_right _ (List.mem_append_right _ (List.mem_append_right _ (List.mem_append_left _ (List.mem_of_getElem? h)))))))), hg⟩
theorem mem_T8 {w : Cond} {i : Nat} (h : tables_1_8[i]? = some w) (hg : goodWord w = true) : w ∈ WT := List.mem_filter.mpr ⟨List.mem_append_right _ (List.mem_append_right _ (List.mem_append_right _ (List.mem_append_right _ (List.mem_append_right _ (List.mem_append_right _ (List.mem_append_right _ (List.mem_append_right _ (List.mem_append_left _ (List.mem_of_getElem? h))))))))), hg⟩
theorem mem_T9 {w : Cond} {i : Nat} (h : tables_1_9[i]? = some w) (hg : goodWord w = true) : w ∈ WT := List.mem_filter.mpr ⟨List.mem_append_right _ (List.mem_append_right _ (List.mem_append_right _ (List.mem_append_right _ (List.mem_append_right _ (List.mem_append_right _ (List.mem_append_right _ (List.mem_append_right _ (List.mem_append_right _ (List.mem_of_getElem? h))))))))), hg⟩
theorem lay_X0 : ∀ w ∈ u_ws RX0 TX0 11, w ∈ WT := by
  intro w hw
  obtain ⟨k, hk, rfl⟩ := List.mem_map.mp hw
  have hk := List.mem_range.mp hk
  match k, hk with
  | 0, _ => exact mem_T2 (i := 163) rfl rfl
  | 1, _ => exact mem_T2 (i := 165) rfl rfl
  | 2, _ => exact mem_T2 (i := 167) rfl rfl
  | 3, _ => exact mem_T2 (i := 169) rfl rfl
  | 4, _ => exact mem_T2 (i := 171) rfl rfl
  | 5, _ => exact mem_T2 (i := 173) rfl rfl
  | 6, _ => exact mem_T2 (i := 175) rfl rfl
  | 7, _ => exact mem_T2 (i := 177) rfl rfl
  | 8, _ => exact mem_T2 (i := 179) rfl rfl
  | 9, _ => exact mem_T2 (i := 181) rfl rfl
  | 10, _ => exact mem_T2 (i := 183) rfl rfl
  | k + 11, h => exact absurd h (by omega)
theorem lay_X1 : ∀ w ∈ u_ws RX1 TX1 13, w ∈ WT := by
  intro w hw
  obtain ⟨k, hk, rfl⟩ := List.mem_map.mp hw
  have hk := List.mem_range.mp hk
  match k, hk with
  | 0, _ => exact mem_T1 (i := 106) rfl rfl
  | 1, _ => exact mem_T1 (i := 108) rfl rfl
  | 2, _ => exact mem_T1 (i := 110) rfl rfl
  | 3, _ => exact mem_T1 (i := 112) rfl rfl
  | 4, _ => exact mem_T1 (i := 114) rfl rfl
  | 5, _ => exact mem_T1 (i := 116) rfl rfl
  | 6, _ => exact mem_T1 (i := 118) rfl rfl
  | 7, _ => exact mem_T1 (i := 120) rfl rfl
  | 8, _ => exact mem_T1 (i := 122) rfl rfl
  | 9, _ => exact mem_T1 (i := 124) rfl rfl
  | 10, _ => exact mem_T1 (i := 126) rfl rfl
  | 11, _ => exact mem_T1 (i := 128) rfl rfl
  | 12, _ => exact mem_T1 (i := 130) rfl rfl
  | k + 13, h => exact absurd h (by omega)
theorem lay_X2 : ∀ w ∈ u_ws RX2 TX2 1, w ∈ WT := by
  intro w hw
  obtain ⟨k, hk, rfl⟩ := List.mem_map.mp hw
  have hk := List.mem_range.mp hk
  match k, hk with
  | 0, _ => exact mem_T2 (i := 121) rfl rfl
  | k + 1, h => exact absurd h (by omega)
theorem lay_X3 : ∀ w ∈ u_ws RX3 TX3 8, w ∈ WT := by
  intro w hw
  obtain ⟨k, hk, rfl⟩ := List.mem_map.mp hw
  have hk := List.mem_range.mp hk
  match k, hk with
  | 0, _ => exact mem_T1 (i := 160) rfl rfl
  | 1, _ => exact mem_T1 (i := 162) rfl rfl
  | 2, _ => exact mem_T1 (i := 164) rfl rfl
  | 3, _ => exact mem_T1 (i := 166) rfl rfl
  | 4, _ => exact mem_T1 (i := 168) rfl rfl
  | 5, _ => exact mem_T1 (i := 170) rfl rfl
  | 6, _ => exact mem_T1 (i := 172) rfl rfl
  | 7, _ => exact mem_T1 (i := 174) rfl rfl
  | k + 8, h => exact absurd h (by omega)
theorem lay_X4 : ∀ w ∈ u_ws RX4 TX4 8, w ∈ WT := by
  intro w hw
  obtain ⟨k, hk, rfl⟩ := List.mem_map.mp hw
  have hk := List.mem_range.mp hk
  match k, hk with
  | 0, _ => exact mem_T2 (i := 208) rfl rfl
  | 1, _ => exact mem_T2 (i := 210) rfl rfl
  | 2, _ => exact mem_T2 (i := 212) rfl rfl
  | 3, _ => exact mem_T2 (i := 214) rfl rfl
  | 4, _ => exact mem_T2 (i := 216) rfl rfl
  | 5, _ => exact mem_T2 (i := 218) rfl rfl
  | 6, _ => exact mem_T2 (i := 220) rfl rfl
  | 7, _ => exact mem_T2 (i := 222) rfl rfl
  | k + 8, h => exact absurd h (by omega)
theorem lay_X5 : ∀ w ∈ u_ws RX5 TX5 12, w ∈ WT := by
  intro w hw
  obtain ⟨k, hk, rfl⟩ := List.mem_map.mp hw
  have hk := List.mem_range.mp hk
  match k, hk with
  | 0, _ => exact mem_T2 (i := 88) rfl rfl
  | 1, _ => exact mem_T2 (i := 90) rfl rfl
  | 2, _ => exact mem_T2 (i := 92) rfl rfl
  | 3, _ => exact mem_T2 (i := 94) rfl rfl
  | 4, _ => exact mem_T2 (i := 96) rfl rfl
  | 5, _ => exact mem_T2 (i := 98) rfl rfl
  | 6, _ => exact mem_T2 (i := 100) rfl rfl
  | 7, _ => exact mem_T2 (i := 102) rfl rfl
  | 8, _ => exact mem_T2 (i := 104) rfl rfl
  | 9, _ => exact mem_T2 (i := 106) rfl rfl
  | 10, _ => exact mem_T2 (i := 108) rfl rfl
  | 11, _ => exact mem_T2 (i := 110) rfl rfl
  | k + 12, h => exact absurd h (by omega)
theorem lay_X6 : ∀ w ∈ u_ws RX6 TX6 3, w ∈ WT := by
  intro w hw
  obtain ⟨k, hk, rfl⟩ := List.mem_map.mp hw
  have hk := List.mem_range.mp hk
  match k, hk with
  | 0, _ => exact mem_T1 (i := 42) rfl rfl
  | 1, _ => exact mem_T1 (i := 44) rfl rfl
  | 2, _ => exact mem_T1 (i := 46) rfl rfl
  | k + 3, h => exact absurd h (by omega)
theorem lay_X7 : ∀ w ∈ u_ws RX7 TX7 9, w ∈ WT := by
  intro w hw
  obtain ⟨k, hk, rfl⟩ := List.mem_map.mp hw
  have hk := List.mem_range.mp hk
  match k, hk with
  | 0, _ => exact mem_T1 (i := 210) rfl rfl
  | 1, _ => exact mem_T1 (i := 212) rfl rfl
  | 2, _ => exact mem_T1 (i := 214) rfl rfl
  | 3, _ => exact mem_T1 (i := 216) rfl rfl
  | 4, _ => exact mem_T1 (i := 218) rfl rfl
  | 5, _ => exact mem_T1 (i := 220) rfl rfl
  | 6, _ => exact mem_T1 (i := 222) rfl rfl
  | 7, _ => exact mem_T1 (i := 224) rfl rfl
  | 8, _ => exact mem_T1 (i := 226) rfl rfl
  | k + 9, h => exact absurd h (by omega)
theorem lay_X8 : ∀ w ∈ u_ws RX8 TX8 2, w ∈ WT := by
  intro w hw
  obtain ⟨k, hk, rfl⟩ := List.mem_map.mp hw
  have hk := List.mem_range.mp hk
  match k, hk with
  | 0, _ => exact mem_T2 (i := 132) rfl rfl
  | 1, _ => exact mem_T2 (i := 134) rfl rfl
  | k + 2, h => exact absurd h (by omega)
theorem lay_X9 : ∀ w ∈ u_ws RX9 TX9 3, w ∈ WT := by
  intro w hw
  obtain ⟨k, hk, rfl⟩ := List.mem_map.mp hw
  have hk := List.mem_range.mp hk
  match k, hk with
  | 0, _ => exact mem_T1 (i := 237) rfl rfl
  | 1, _ => exact mem_T1 (i := 239) rfl rfl
  | 2, _ => exact mem_T2 (i := 1) rfl rfl
  | k + 3, h => exact absurd h (by omega)
theorem lay_X10 : ∀ w ∈ u_ws RX10 TX10 19, w ∈ WT := by
  intro w hw
  obtain ⟨k, hk, rfl⟩ := List.mem_map.mp hw
  have hk := List.mem_range.mp hk
  match k, hk with
  | 0, _ => exact mem_T3 (i := 4) rfl rfl
  | 1, _ => exact mem_T3 (i := 6) rfl rfl
  | 2, _ => exact mem_T3 (i := 8) rfl rfl
  | 3, _ => exact mem_T3 (i := 10) rfl rfl
  | 4, _ => exact mem_T3 (i := 12) rfl rfl
  | 5, _ => exact mem_T3 (i := 14) rfl rfl
  | 6, _ => exact mem_T3 (i := 16) rfl rfl
  | 7, _ => exact mem_T3 (i := 18) rfl rfl
  | 8, _ => exact mem_T3 (i := 20) rfl rfl
  | 9, _ => exact mem_T3 (i := 22) rfl rfl
  | 10, _ => exact mem_T3 (i := 24) rfl rfl
  | 11, _ => exact mem_T3 (i := 26) rfl rfl
  | 12, _ => exact mem_T3 (i := 28) rfl rfl
  | 13, _ => exact mem_T3 (i := 30) rfl rfl
  | 14, _ => exact mem_T3 (i := 32) rfl rfl
  | 15, _ => exact mem_T3 (i := 34) rfl rfl
  | 16, _ => exact mem_T3 (i := 36) rfl rfl
  | 17, _ => exact mem_T3 (i := 38) rfl rfl
  | 18, _ => exact mem_T3 (i := 40) rfl rfl
  | k + 19, h => exact absurd h (by omega)
theorem lay_X11 : ∀ w ∈ u_ws RX11 TX11 46, w ∈ WT := by
  intro w hw
  obtain ⟨k, hk, rfl⟩ := List.mem_map.mp hw
  have hk := List.mem_range.mp hk
  match k, hk with
  | 0, _ => exact mem_T6 (i := 129) rfl rfl
  | 1, _ => exact mem_T6 (i := 131) rfl rfl
  | 2, _ => exact mem_T6 (i := 133) rfl rfl
  | 3, _ => exact mem_T6 (i := 135) rfl rfl
  | 4, _ => exact mem_T6 (i := 137) rfl rfl
  | 5, _ => exact mem_T6 (i := 139) rfl rfl
  | 6, _ => exact mem_T6 (i := 141) rfl rfl
  | 7, _ => exact mem_T6 (i := 143) rfl rfl
  | 8, _ => exact mem_T6 (i := 145) rfl rfl
  | 9, _ => exact mem_T6 (i := 147) rfl rfl
  | 10, _ => exact mem_T6 (i := 149) rfl rfl
  | 11, _ => exact mem_T6 (i := 151) rfl rfl
  | 12, _ => exact mem_T6 (i := 153) rfl rfl
  | 13, _ => exact mem_T6 (i := 155) rfl rfl
  | 14, _ => exact mem_T6 (i := 157) rfl rfl
  | 15, _ => exact mem_T6 (i := 159) rfl rfl
  | 16, _ => exact mem_T6 (i := 161) rfl rfl
  | 17, _ => exact mem_T6 (i := 163) rfl rfl
  | 18, _ => exact mem_T6 (i := 165) rfl rfl
  | 19, _ => exact mem_T6 (i := 167) rfl rfl
  | 20, _ => exact mem_T6 (i := 169) rfl rfl
  | 21, _ => exact mem_T6 (i := 171) rfl rfl
  | 22, _ => exact mem_T6 (i := 173) rfl rfl
  | 23, _ => exact mem_T6 (i := 175) rfl rfl
  | 24, _ => exact mem_T6 (i := 177) rfl rfl
  | 25, _ => exact mem_T6 (i := 179) rfl rfl
  | 26, _ => exact mem_T6 (i := 181) rfl rfl
  | 27, _ => exact mem_T6 (i := 183) rfl rfl
  | 28, _ => exact mem_T6 (i := 185) rfl rfl
  | 29, _ => exact mem_T6 (i := 187) rfl rfl
  | 30, _ => exact mem_T6 (i := 189) rfl rfl
  | 31, _ => exact mem_T6 (i := 191) rfl rfl
  | 32, _ => exact mem_T6 (i := 193) rfl rfl
  | 33, _ => exact mem_T6 (i := 195) rfl rfl
  | 34, _ => exact mem_T6 (i := 197) rfl rfl
  | 35, _ => exact mem_T6 (i := 199) rfl rfl
  | 36, _ => exact mem_T6 (i := 201) rfl rfl
  | 37, _ => exact mem_T6 (i := 203) rfl rfl
  | 38, _ => exact mem_T6 (i := 205) rfl rfl
  | 39, _ => exact mem_T6 (i := 207) rfl rfl
  | 40, _ => exact mem_T6 (i := 209) rfl rfl
  | 41, _ => exact mem_T6 (i := 211) rfl rfl
  | 42, _ => exact mem_T6 (i := 213) rfl rfl
  | 43, _ => exact mem_T6 (i := 215) rfl rfl
  | 44, _ => exact mem_T6 (i := 217) rfl rfl
  | 45, _ => exact mem_T6 (i := 219) rfl rfl
  | k + 46, h => exact absurd h (by omega)
theorem ini_L : Cond.initialized RL ∈ WT := mem_T1 (i := 0) rfl rfl
theorem ini_X10 : Cond.initialized RX10 ∈ WT := mem_T1 (i := 1) rfl rfl
theorem ini_X6 : Cond.initialized RX6 ∈ WT := mem_T1 (i := 2) rfl rfl
theorem ini_X9 : Cond.initialized RX9 ∈ WT := mem_T1 (i := 3) rfl rfl
theorem ini_X1 : Cond.initialized RX1 ∈ WT := mem_T1 (i := 4) rfl rfl
theorem ini_X3 : Cond.initialized RX3 ∈ WT := mem_T1 (i := 5) rfl rfl
theorem ini_X7 : Cond.initialized RX7 ∈ WT := mem_T1 (i := 6) rfl rfl
theorem ini_X5 : Cond.initialized RX5 ∈ WT := mem_T1 (i := 7) rfl rfl
theorem ini_J0 : Cond.initialized RJ0 ∈ WT := mem_T1 (i := 8) rfl rfl
theorem ini_J1 : Cond.initialized RJ1 ∈ WT := mem_T1 (i := 9) rfl rfl
theorem ini_J3 : Cond.initialized RJ3 ∈ WT := mem_T1 (i := 10) rfl rfl
theorem ini_J2 : Cond.initialized RJ2 ∈ WT := mem_T1 (i := 11) rfl rfl
theorem ini_X2 : Cond.initialized RX2 ∈ WT := mem_T1 (i := 12) rfl rfl
theorem ini_X8 : Cond.initialized RX8 ∈ WT := mem_T1 (i := 13) rfl rfl
theorem ini_X0 : Cond.initialized RX0 ∈ WT := mem_T1 (i := 14) rfl rfl
theorem ini_X4 : Cond.initialized RX4 ∈ WT := mem_T1 (i := 15) rfl rfl
theorem ini_X11 : Cond.initialized RX11 ∈ WT := mem_T1 (i := 16) rfl rfl
theorem ini_J10 : Cond.initialized RJ10 ∈ WT := mem_T1 (i := 17) rfl rfl
theorem ini_J9 : Cond.initialized RJ9 ∈ WT := mem_T1 (i := 18) rfl rfl
theorem ini_J6 : Cond.initialized RJ6 ∈ WT := mem_T1 (i := 19) rfl rfl
theorem qf_X6_11 : Cond.fieldLink RX6 11 "RainJury$Trays" "rows" "[[J" ∈ WT := mem_T1 (i := 36) rfl rfl
theorem qf_X10_137 : Cond.fieldLink RX10 137 "RainJury$Trays" "rows" "[[J" ∈ WT := mem_T1 (i := 37) rfl rfl
theorem qf_X6_16 : Cond.fieldLink RX6 16 "RainJury$Trays" "lengths" "[I" ∈ WT := mem_T1 (i := 38) rfl rfl
theorem qf_X10_456 : Cond.fieldLink RX10 456 "RainJury$Trays" "lengths" "[I" ∈ WT := mem_T1 (i := 39) rfl rfl
theorem qf_X6_20 : Cond.fieldLink RX6 20 "RainJury$Trays" "sorts" "[I" ∈ WT := mem_T1 (i := 40) rfl rfl
theorem qf_X10_144 : Cond.fieldLink RX10 144 "RainJury$Trays" "sorts" "[I" ∈ WT := mem_T1 (i := 41) rfl rfl
theorem qf_X1_9 : Cond.fieldLink RX1 9 "RainJury$Court" "counts" "[I" ∈ WT := mem_T1 (i := 63) rfl rfl
theorem qf_X3_47 : Cond.fieldLink RX3 47 "RainJury$Court" "counts" "[I" ∈ WT := mem_T1 (i := 64) rfl rfl
theorem qf_X0_89 : Cond.fieldLink RX0 89 "RainJury$Court" "counts" "[I" ∈ WT := mem_T1 (i := 65) rfl rfl
theorem qf_X2_136 : Cond.fieldLink RX2 136 "RainJury$Court" "counts" "[I" ∈ WT := mem_T1 (i := 66) rfl rfl
theorem qf_X4_151 : Cond.fieldLink RX4 151 "RainJury$Court" "counts" "[I" ∈ WT := mem_T1 (i := 67) rfl rfl
theorem qf_X10_194 : Cond.fieldLink RX10 194 "RainJury$Court" "counts" "[I" ∈ WT := mem_T1 (i := 68) rfl rfl
theorem qf_X1_15 : Cond.fieldLink RX1 15 "RainJury$Court" "names" "[J" ∈ WT := mem_T1 (i := 69) rfl rfl
theorem qf_X1_19 : Cond.fieldLink RX1 19 "RainJury$Court" "told" "[I" ∈ WT := mem_T1 (i := 70) rfl rfl
theorem qf_X3_52 : Cond.fieldLink RX3 52 "RainJury$Court" "told" "[I" ∈ WT := mem_T1 (i := 71) rfl rfl
theorem qf_X2_102 : Cond.fieldLink RX2 102 "RainJury$Court" "told" "[I" ∈ WT := mem_T1 (i := 72) rfl rfl
theorem qf_X10_244 : Cond.fieldLink RX10 244 "RainJury$Court" "told" "[I" ∈ WT := mem_T1 (i := 73) rfl rfl
theorem qf_X1_22 : Cond.fieldLink RX1 22 "RainJury$Court" "stubborn" "[I" ∈ WT := mem_T1 (i := 74) rfl rfl
theorem qf_X2_106 : Cond.fieldLink RX2 106 "RainJury$Court" "stubborn" "[I" ∈ WT := mem_T1 (i := 75) rfl rfl
theorem qf_X10_247 : Cond.fieldLink RX10 247 "RainJury$Court" "stubborn" "[I" ∈ WT := mem_T1 (i := 76) rfl rfl
theorem qf_X3_100 : Cond.fieldLink RX3 100 "RainJury$Court" "stubborn" "[I" ∈ WT := mem_T1 (i := 77) rfl rfl
theorem qf_X1_25 : Cond.fieldLink RX1 25 "RainJury$Court" "price" "[I" ∈ WT := mem_T1 (i := 78) rfl rfl
theorem qf_X2_109 : Cond.fieldLink RX2 109 "RainJury$Court" "price" "[I" ∈ WT := mem_T1 (i := 79) rfl rfl
theorem qf_X3_85 : Cond.fieldLink RX3 85 "RainJury$Court" "price" "[I" ∈ WT := mem_T1 (i := 80) rfl rfl
theorem qf_X10_250 : Cond.fieldLink RX10 250 "RainJury$Court" "price" "[I" ∈ WT := mem_T1 (i := 81) rfl rfl
theorem qf_X1_28 : Cond.fieldLink RX1 28 "RainJury$Court" "swayed" "[I" ∈ WT := mem_T1 (i := 82) rfl rfl
theorem qf_X3_112 : Cond.fieldLink RX3 112 "RainJury$Court" "swayed" "[I" ∈ WT := mem_T1 (i := 83) rfl rfl
theorem qf_X1_31 : Cond.fieldLink RX1 31 "RainJury$Court" "swayers" "[I" ∈ WT := mem_T1 (i := 84) rfl rfl
theorem qf_X3_109 : Cond.fieldLink RX3 109 "RainJury$Court" "swayers" "[I" ∈ WT := mem_T1 (i := 85) rfl rfl
theorem qf_X1_34 : Cond.fieldLink RX1 34 "RainJury$Court" "weight" "[I" ∈ WT := mem_T1 (i := 86) rfl rfl
theorem qf_X2_133 : Cond.fieldLink RX2 133 "RainJury$Court" "weight" "[I" ∈ WT := mem_T1 (i := 87) rfl rfl
theorem qf_X3_88 : Cond.fieldLink RX3 88 "RainJury$Court" "weight" "[I" ∈ WT := mem_T1 (i := 88) rfl rfl
theorem qf_X10_256 : Cond.fieldLink RX10 256 "RainJury$Court" "weight" "[I" ∈ WT := mem_T1 (i := 89) rfl rfl
theorem qf_X1_37 : Cond.fieldLink RX1 37 "RainJury$Court" "ifGuilty" "[I" ∈ WT := mem_T1 (i := 90) rfl rfl
theorem qf_X0_104 : Cond.fieldLink RX0 104 "RainJury$Court" "ifGuilty" "[I" ∈ WT := mem_T1 (i := 91) rfl rfl
theorem qf_X2_139 : Cond.fieldLink RX2 139 "RainJury$Court" "ifGuilty" "[I" ∈ WT := mem_T1 (i := 92) rfl rfl
theorem qf_X1_40 : Cond.fieldLink RX1 40 "RainJury$Court" "ifFree" "[I" ∈ WT := mem_T1 (i := 93) rfl rfl
theorem qf_X0_107 : Cond.fieldLink RX0 107 "RainJury$Court" "ifFree" "[I" ∈ WT := mem_T1 (i := 94) rfl rfl
theorem qf_X2_142 : Cond.fieldLink RX2 142 "RainJury$Court" "ifFree" "[I" ∈ WT := mem_T1 (i := 95) rfl rfl
theorem qf_X1_43 : Cond.fieldLink RX1 43 "RainJury$Court" "growth" "[I" ∈ WT := mem_T1 (i := 96) rfl rfl
theorem qf_X1_46 : Cond.fieldLink RX1 46 "RainJury$Court" "hunger" "I" ∈ WT := mem_T1 (i := 97) rfl rfl
theorem qf_X2_154 : Cond.fieldLink RX2 154 "RainJury$Court" "hunger" "I" ∈ WT := mem_T1 (i := 98) rfl rfl
theorem qf_X10_210 : Cond.fieldLink RX10 210 "RainJury$Court" "hunger" "I" ∈ WT := mem_T1 (i := 99) rfl rfl
theorem qf_X3_115 : Cond.fieldLink RX3 115 "RainJury$Court" "hunger" "I" ∈ WT := mem_T1 (i := 100) rfl rfl
theorem qf_X1_50 : Cond.fieldLink RX1 50 "RainJury$Court" "law" "I" ∈ WT := mem_T1 (i := 101) rfl rfl
theorem qf_X3_55 : Cond.fieldLink RX3 55 "RainJury$Court" "law" "I" ∈ WT := mem_T1 (i := 102) rfl rfl
theorem qf_X0_80 : Cond.fieldLink RX0 80 "RainJury$Court" "law" "I" ∈ WT := mem_T1 (i := 103) rfl rfl
theorem qf_X2_157 : Cond.fieldLink RX2 157 "RainJury$Court" "law" "I" ∈ WT := mem_T1 (i := 104) rfl rfl
theorem qf_X10_213 : Cond.fieldLink RX10 213 "RainJury$Court" "law" "I" ∈ WT := mem_T1 (i := 105) rfl rfl
theorem qf_X3_9 : Cond.fieldLink RX3 9 "RainJury$Hall" "lean" "[I" ∈ WT := mem_T1 (i := 139) rfl rfl
theorem qf_X0_61 : Cond.fieldLink RX0 61 "RainJury$Hall" "lean" "[I" ∈ WT := mem_T1 (i := 140) rfl rfl
theorem qf_X10_241 : Cond.fieldLink RX10 241 "RainJury$Hall" "lean" "[I" ∈ WT := mem_T1 (i := 141) rfl rfl
theorem qf_X3_15 : Cond.fieldLink RX3 15 "RainJury$Hall" "grown" "[I" ∈ WT := mem_T1 (i := 142) rfl rfl
theorem qf_X4_91 : Cond.fieldLink RX4 91 "RainJury$Hall" "grown" "[I" ∈ WT := mem_T1 (i := 143) rfl rfl
theorem qf_X10_269 : Cond.fieldLink RX10 269 "RainJury$Hall" "grown" "[I" ∈ WT := mem_T1 (i := 144) rfl rfl
theorem qf_X3_18 : Cond.fieldLink RX3 18 "RainJury$Hall" "seated" "I" ∈ WT := mem_T1 (i := 145) rfl rfl
theorem qf_X10_231 : Cond.fieldLink RX10 231 "RainJury$Hall" "seated" "I" ∈ WT := mem_T1 (i := 146) rfl rfl
theorem qf_X3_22 : Cond.fieldLink RX3 22 "RainJury$Hall" "shown" "I" ∈ WT := mem_T1 (i := 147) rfl rfl
theorem qf_X10_234 : Cond.fieldLink RX10 234 "RainJury$Hall" "shown" "I" ∈ WT := mem_T1 (i := 148) rfl rfl
theorem qf_X3_25 : Cond.fieldLink RX3 25 "RainJury$Hall" "round" "I" ∈ WT := mem_T1 (i := 149) rfl rfl
theorem qf_X4_138 : Cond.fieldLink RX4 138 "RainJury$Hall" "round" "I" ∈ WT := mem_T1 (i := 150) rfl rfl
theorem qf_X10_219 : Cond.fieldLink RX10 219 "RainJury$Hall" "round" "I" ∈ WT := mem_T1 (i := 151) rfl rfl
theorem qf_X3_28 : Cond.fieldLink RX3 28 "RainJury$Hall" "day" "I" ∈ WT := mem_T1 (i := 152) rfl rfl
theorem qf_X4_141 : Cond.fieldLink RX4 141 "RainJury$Hall" "day" "I" ∈ WT := mem_T1 (i := 153) rfl rfl
theorem qf_X10_216 : Cond.fieldLink RX10 216 "RainJury$Hall" "day" "I" ∈ WT := mem_T1 (i := 154) rfl rfl
theorem qf_X3_31 : Cond.fieldLink RX3 31 "RainJury$Hall" "weather" "I" ∈ WT := mem_T1 (i := 155) rfl rfl
theorem qf_X4_82 : Cond.fieldLink RX4 82 "RainJury$Hall" "weather" "I" ∈ WT := mem_T1 (i := 156) rfl rfl
theorem qf_X10_225 : Cond.fieldLink RX10 225 "RainJury$Hall" "weather" "I" ∈ WT := mem_T1 (i := 157) rfl rfl
theorem qf_X3_34 : Cond.fieldLink RX3 34 "RainJury$Hall" "coins" "I" ∈ WT := mem_T1 (i := 158) rfl rfl
theorem qf_X10_228 : Cond.fieldLink RX10 228 "RainJury$Hall" "coins" "I" ∈ WT := mem_T1 (i := 159) rfl rfl
theorem qf_X7_9 : Cond.fieldLink RX7 9 "RainJury$Weeks" "deed" "[I" ∈ WT := mem_T1 (i := 183) rfl rfl
theorem qf_X4_50 : Cond.fieldLink RX4 50 "RainJury$Weeks" "deed" "[I" ∈ WT := mem_T1 (i := 184) rfl rfl
theorem qf_X8_79 : Cond.fieldLink RX8 79 "RainJury$Weeks" "deed" "[I" ∈ WT := mem_T1 (i := 185) rfl rfl
theorem qf_X7_15 : Cond.fieldLink RX7 15 "RainJury$Weeks" "what" "[I" ∈ WT := mem_T1 (i := 186) rfl rfl
theorem qf_X4_72 : Cond.fieldLink RX4 72 "RainJury$Weeks" "what" "[I" ∈ WT := mem_T1 (i := 187) rfl rfl
theorem qf_X8_94 : Cond.fieldLink RX8 94 "RainJury$Weeks" "what" "[I" ∈ WT := mem_T1 (i := 188) rfl rfl
theorem qf_X7_18 : Cond.fieldLink RX7 18 "RainJury$Weeks" "thing" "[I" ∈ WT := mem_T1 (i := 189) rfl rfl
theorem qf_X4_79 : Cond.fieldLink RX4 79 "RainJury$Weeks" "thing" "[I" ∈ WT := mem_T1 (i := 190) rfl rfl
theorem qf_X8_106 : Cond.fieldLink RX8 106 "RainJury$Weeks" "thing" "[I" ∈ WT := mem_T1 (i := 191) rfl rfl
theorem qf_X7_21 : Cond.fieldLink RX7 21 "RainJury$Weeks" "sign" "[I" ∈ WT := mem_T1 (i := 192) rfl rfl
theorem qf_X4_97 : Cond.fieldLink RX4 97 "RainJury$Weeks" "sign" "[I" ∈ WT := mem_T1 (i := 193) rfl rfl
theorem qf_X8_100 : Cond.fieldLink RX8 100 "RainJury$Weeks" "sign" "[I" ∈ WT := mem_T1 (i := 194) rfl rfl
theorem qf_X7_24 : Cond.fieldLink RX7 24 "RainJury$Weeks" "number" "[I" ∈ WT := mem_T1 (i := 195) rfl rfl
theorem qf_X4_94 : Cond.fieldLink RX4 94 "RainJury$Weeks" "number" "[I" ∈ WT := mem_T1 (i := 196) rfl rfl
theorem qf_X8_115 : Cond.fieldLink RX8 115 "RainJury$Weeks" "number" "[I" ∈ WT := mem_T1 (i := 197) rfl rfl
theorem qf_X7_27 : Cond.fieldLink RX7 27 "RainJury$Weeks" "mate" "[I" ∈ WT := mem_T1 (i := 198) rfl rfl
theorem qf_X4_69 : Cond.fieldLink RX4 69 "RainJury$Weeks" "mate" "[I" ∈ WT := mem_T1 (i := 199) rfl rfl
theorem qf_X8_67 : Cond.fieldLink RX8 67 "RainJury$Weeks" "mate" "[I" ∈ WT := mem_T1 (i := 200) rfl rfl
theorem qf_X7_30 : Cond.fieldLink RX7 30 "RainJury$Weeks" "length" "I" ∈ WT := mem_T1 (i := 201) rfl rfl
theorem qf_X4_45 : Cond.fieldLink RX4 45 "RainJury$Weeks" "length" "I" ∈ WT := mem_T1 (i := 202) rfl rfl
theorem qf_X8_76 : Cond.fieldLink RX8 76 "RainJury$Weeks" "length" "I" ∈ WT := mem_T1 (i := 203) rfl rfl
theorem qf_X7_34 : Cond.fieldLink RX7 34 "RainJury$Weeks" "steps" "I" ∈ WT := mem_T1 (i := 204) rfl rfl
theorem qf_X8_73 : Cond.fieldLink RX8 73 "RainJury$Weeks" "steps" "I" ∈ WT := mem_T1 (i := 205) rfl rfl
theorem qf_X10_207 : Cond.fieldLink RX10 207 "RainJury$Weeks" "steps" "I" ∈ WT := mem_T1 (i := 206) rfl rfl
theorem qf_X7_37 : Cond.fieldLink RX7 37 "RainJury$Weeks" "there" "Z" ∈ WT := mem_T1 (i := 207) rfl rfl
theorem qf_X8_24 : Cond.fieldLink RX8 24 "RainJury$Weeks" "there" "Z" ∈ WT := mem_T1 (i := 208) rfl rfl
theorem qf_X10_411 : Cond.fieldLink RX10 411 "RainJury$Weeks" "there" "Z" ∈ WT := mem_T1 (i := 209) rfl rfl
theorem qf_X9_10 : Cond.fieldLink RX9 10 "RainJury$World" "court" "LRainJury$Court;" ∈ WT := mem_T1 (i := 229) rfl rfl
theorem qf_X4_61 : Cond.fieldLink RX4 61 "RainJury$World" "court" "LRainJury$Court;" ∈ WT := mem_T1 (i := 230) rfl rfl
theorem qf_X10_175 : Cond.fieldLink RX10 175 "RainJury$World" "court" "LRainJury$Court;" ∈ WT := mem_T1 (i := 231) rfl rfl
theorem qf_X9_19 : Cond.fieldLink RX9 19 "RainJury$World" "hall" "LRainJury$Hall;" ∈ WT := mem_T1 (i := 232) rfl rfl
theorem qf_X10_182 : Cond.fieldLink RX10 182 "RainJury$World" "hall" "LRainJury$Hall;" ∈ WT := mem_T1 (i := 233) rfl rfl
theorem qf_X9_26 : Cond.fieldLink RX9 26 "RainJury$World" "weeks" "LRainJury$Weeks;" ∈ WT := mem_T1 (i := 234) rfl rfl
theorem qf_X4_38 : Cond.fieldLink RX4 38 "RainJury$World" "weeks" "LRainJury$Weeks;" ∈ WT := mem_T1 (i := 235) rfl rfl
theorem qf_X10_188 : Cond.fieldLink RX10 188 "RainJury$World" "weeks" "LRainJury$Weeks;" ∈ WT := mem_T1 (i := 236) rfl rfl
theorem qf_X5_9 : Cond.fieldLink RX5 9 "RainJury$Reader" "tape" "[B" ∈ WT := mem_T2 (i := 65) rfl rfl
theorem qf_X5_15 : Cond.fieldLink RX5 15 "RainJury$Reader" "reserved" "[J" ∈ WT := mem_T2 (i := 66) rfl rfl
theorem qf_X5_19 : Cond.fieldLink RX5 19 "RainJury$Reader" "fed" "I" ∈ WT := mem_T2 (i := 67) rfl rfl
theorem qf_X10_165 : Cond.fieldLink RX10 165 "RainJury$Reader" "fed" "I" ∈ WT := mem_T2 (i := 68) rfl rfl
theorem qf_X5_23 : Cond.fieldLink RX5 23 "RainJury$Reader" "length" "I" ∈ WT := mem_T2 (i := 69) rfl rfl
theorem qf_X2_148 : Cond.fieldLink RX2 148 "RainJury$Reader" "length" "I" ∈ WT := mem_T2 (i := 70) rfl rfl
theorem qf_X5_26 : Cond.fieldLink RX5 26 "RainJury$Reader" "next" "I" ∈ WT := mem_T2 (i := 71) rfl rfl
theorem qf_X5_29 : Cond.fieldLink RX5 29 "RainJury$Reader" "start" "I" ∈ WT := mem_T2 (i := 72) rfl rfl
theorem qf_X5_32 : Cond.fieldLink RX5 32 "RainJury$Reader" "kind" "I" ∈ WT := mem_T2 (i := 73) rfl rfl
theorem qf_X2_30 : Cond.fieldLink RX2 30 "RainJury$Reader" "kind" "I" ∈ WT := mem_T2 (i := 74) rfl rfl
theorem qf_X8_37 : Cond.fieldLink RX8 37 "RainJury$Reader" "kind" "I" ∈ WT := mem_T2 (i := 75) rfl rfl
theorem qf_X5_35 : Cond.fieldLink RX5 35 "RainJury$Reader" "value" "I" ∈ WT := mem_T2 (i := 76) rfl rfl
theorem qf_X5_38 : Cond.fieldLink RX5 38 "RainJury$Reader" "letters" "J" ∈ WT := mem_T2 (i := 77) rfl rfl
theorem qf_X2_87 : Cond.fieldLink RX2 87 "RainJury$Reader" "letters" "J" ∈ WT := mem_T2 (i := 78) rfl rfl
theorem qf_X5_42 : Cond.fieldLink RX5 42 "RainJury$Reader" "taken" "I" ∈ WT := mem_T2 (i := 79) rfl rfl
theorem qf_X2_99 : Cond.fieldLink RX2 99 "RainJury$Reader" "taken" "I" ∈ WT := mem_T2 (i := 80) rfl rfl
theorem qf_X8_97 : Cond.fieldLink RX8 97 "RainJury$Reader" "taken" "I" ∈ WT := mem_T2 (i := 81) rfl rfl
theorem qf_X5_45 : Cond.fieldLink RX5 45 "RainJury$Reader" "fault" "I" ∈ WT := mem_T2 (i := 82) rfl rfl
theorem qf_X2_26 : Cond.fieldLink RX2 26 "RainJury$Reader" "fault" "I" ∈ WT := mem_T2 (i := 83) rfl rfl
theorem qf_X8_34 : Cond.fieldLink RX8 34 "RainJury$Reader" "fault" "I" ∈ WT := mem_T2 (i := 84) rfl rfl
theorem qf_X10_447 : Cond.fieldLink RX10 447 "RainJury$Reader" "fault" "I" ∈ WT := mem_T2 (i := 85) rfl rfl
theorem qf_X5_48 : Cond.fieldLink RX5 48 "RainJury$Reader" "faultPlace" "I" ∈ WT := mem_T2 (i := 86) rfl rfl
theorem qf_X10_450 : Cond.fieldLink RX10 450 "RainJury$Reader" "faultPlace" "I" ∈ WT := mem_T2 (i := 87) rfl rfl
theorem qf_X2_9 : Cond.fieldLink RX2 9 "RainJury$CourtReader" "lawTold" "Z" ∈ WT := mem_T2 (i := 120) rfl rfl
theorem qf_X8_9 : Cond.fieldLink RX8 9 "RainJury$WeeksReader" "open" "[I" ∈ WT := mem_T2 (i := 130) rfl rfl
theorem qf_X8_15 : Cond.fieldLink RX8 15 "RainJury$WeeksReader" "depth" "I" ∈ WT := mem_T2 (i := 131) rfl rfl
theorem qf_X0_9 : Cond.fieldLink RX0 9 "RainJury$Counsel" "firstHalf" "[J" ∈ WT := mem_T2 (i := 146) rfl rfl
theorem qf_X0_15 : Cond.fieldLink RX0 15 "RainJury$Counsel" "secondHalf" "[J" ∈ WT := mem_T2 (i := 147) rfl rfl
theorem qf_X0_20 : Cond.fieldLink RX0 20 "RainJury$Counsel" "stages" "[LRainJury$Hall;" ∈ WT := mem_T2 (i := 148) rfl rfl
theorem qf_X0_24 : Cond.fieldLink RX0 24 "RainJury$Counsel" "tried" "[I" ∈ WT := mem_T2 (i := 149) rfl rfl
theorem qf_X0_28 : Cond.fieldLink RX0 28 "RainJury$Counsel" "mostLater" "[I" ∈ WT := mem_T2 (i := 150) rfl rfl
theorem qf_X0_31 : Cond.fieldLink RX0 31 "RainJury$Counsel" "order" "[I" ∈ WT := mem_T2 (i := 151) rfl rfl
theorem qf_X10_353 : Cond.fieldLink RX10 353 "RainJury$Counsel" "order" "[I" ∈ WT := mem_T2 (i := 152) rfl rfl
theorem qf_X0_34 : Cond.fieldLink RX0 34 "RainJury$Counsel" "most" "[I" ∈ WT := mem_T2 (i := 153) rfl rfl
theorem qf_X10_402 : Cond.fieldLink RX10 402 "RainJury$Counsel" "most" "[I" ∈ WT := mem_T2 (i := 154) rfl rfl
theorem qf_X0_37 : Cond.fieldLink RX0 37 "RainJury$Counsel" "orderLength" "I" ∈ WT := mem_T2 (i := 155) rfl rfl
theorem qf_X10_350 : Cond.fieldLink RX10 350 "RainJury$Counsel" "orderLength" "I" ∈ WT := mem_T2 (i := 156) rfl rfl
theorem qf_X0_41 : Cond.fieldLink RX0 41 "RainJury$Counsel" "bribed" "I" ∈ WT := mem_T2 (i := 157) rfl rfl
theorem qf_X10_362 : Cond.fieldLink RX10 362 "RainJury$Counsel" "bribed" "I" ∈ WT := mem_T2 (i := 158) rfl rfl
theorem qf_X0_44 : Cond.fieldLink RX0 44 "RainJury$Counsel" "lead" "I" ∈ WT := mem_T2 (i := 159) rfl rfl
theorem qf_X10_340 : Cond.fieldLink RX10 340 "RainJury$Counsel" "lead" "I" ∈ WT := mem_T2 (i := 160) rfl rfl
theorem qf_X0_47 : Cond.fieldLink RX0 47 "RainJury$Counsel" "cycle" "I" ∈ WT := mem_T2 (i := 161) rfl rfl
theorem qf_X10_343 : Cond.fieldLink RX10 343 "RainJury$Counsel" "cycle" "I" ∈ WT := mem_T2 (i := 162) rfl rfl
theorem qf_X4_9 : Cond.fieldLink RX4 9 "RainJury$Life" "timesLeft" "[I" ∈ WT := mem_T2 (i := 194) rfl rfl
theorem qf_X4_15 : Cond.fieldLink RX4 15 "RainJury$Life" "draws" "I" ∈ WT := mem_T2 (i := 195) rfl rfl
theorem qf_X4_19 : Cond.fieldLink RX4 19 "RainJury$Life" "steps" "I" ∈ WT := mem_T2 (i := 196) rfl rfl
theorem qf_X10_418 : Cond.fieldLink RX10 418 "RainJury$Life" "steps" "I" ∈ WT := mem_T2 (i := 197) rfl rfl
theorem qf_X4_22 : Cond.fieldLink RX4 22 "RainJury$Life" "missed" "I" ∈ WT := mem_T2 (i := 198) rfl rfl
theorem qf_X10_419 : Cond.fieldLink RX10 419 "RainJury$Life" "missed" "I" ∈ WT := mem_T2 (i := 199) rfl rfl
theorem qf_X4_25 : Cond.fieldLink RX4 25 "RainJury$Life" "days" "I" ∈ WT := mem_T2 (i := 200) rfl rfl
theorem qf_X10_422 : Cond.fieldLink RX10 422 "RainJury$Life" "days" "I" ∈ WT := mem_T2 (i := 201) rfl rfl
theorem qf_X4_28 : Cond.fieldLink RX4 28 "RainJury$Life" "guiltyDays" "I" ∈ WT := mem_T2 (i := 202) rfl rfl
theorem qf_X10_425 : Cond.fieldLink RX10 425 "RainJury$Life" "guiltyDays" "I" ∈ WT := mem_T2 (i := 203) rfl rfl
theorem qf_X4_31 : Cond.fieldLink RX4 31 "RainJury$Life" "hungDays" "I" ∈ WT := mem_T2 (i := 204) rfl rfl
theorem qf_X10_428 : Cond.fieldLink RX10 428 "RainJury$Life" "hungDays" "I" ∈ WT := mem_T2 (i := 205) rfl rfl
theorem qf_X4_34 : Cond.fieldLink RX4 34 "RainJury$Life" "unfinished" "Z" ∈ WT := mem_T2 (i := 206) rfl rfl
theorem qf_X10_431 : Cond.fieldLink RX10 431 "RainJury$Life" "unfinished" "Z" ∈ WT := mem_T2 (i := 207) rfl rfl
theorem qf_X10_10 : Cond.fieldLink RX10 10 "RainJury" "trays" "LRainJury$Trays;" ∈ WT := mem_T2 (i := 225) rfl rfl
theorem qf_X10_19 : Cond.fieldLink RX10 19 "RainJury" "world" "LRainJury$World;" ∈ WT := mem_T2 (i := 226) rfl rfl
theorem qf_X10_23 : Cond.fieldLink RX10 23 "RainJury" "marks" "[LRainJury$World;" ∈ WT := mem_T2 (i := 227) rfl rfl
theorem qf_X10_30 : Cond.fieldLink RX10 30 "RainJury" "freshCourt" "LRainJury$Court;" ∈ WT := mem_T2 (i := 228) rfl rfl
theorem qf_X10_37 : Cond.fieldLink RX10 37 "RainJury" "freshWeeks" "LRainJury$Weeks;" ∈ WT := mem_T2 (i := 229) rfl rfl
theorem qf_X10_44 : Cond.fieldLink RX10 44 "RainJury" "reader" "LRainJury$Reader;" ∈ WT := mem_T2 (i := 230) rfl rfl
theorem qf_X10_51 : Cond.fieldLink RX10 51 "RainJury" "courtReader" "LRainJury$CourtReader;" ∈ WT := mem_T2 (i := 231) rfl rfl
theorem qf_X10_58 : Cond.fieldLink RX10 58 "RainJury" "weeksReader" "LRainJury$WeeksReader;" ∈ WT := mem_T2 (i := 232) rfl rfl
theorem qf_X10_65 : Cond.fieldLink RX10 65 "RainJury" "counsel" "LRainJury$Counsel;" ∈ WT := mem_T2 (i := 233) rfl rfl
theorem qf_X10_72 : Cond.fieldLink RX10 72 "RainJury" "trial" "LRainJury$Hall;" ∈ WT := mem_T2 (i := 234) rfl rfl
theorem qf_X10_79 : Cond.fieldLink RX10 79 "RainJury" "latestLife" "LRainJury$Life;" ∈ WT := mem_T2 (i := 235) rfl rfl
theorem qf_X10_83 : Cond.fieldLink RX10 83 "RainJury" "trialLife" "LRainJury$Life;" ∈ WT := mem_T2 (i := 236) rfl rfl
theorem qf_X10_86 : Cond.fieldLink RX10 86 "RainJury" "hasLived" "Z" ∈ WT := mem_T2 (i := 237) rfl rfl
theorem qf_X10_90 : Cond.fieldLink RX10 90 "RainJury" "markCount" "I" ∈ WT := mem_T2 (i := 238) rfl rfl
theorem qf_X10_94 : Cond.fieldLink RX10 94 "RainJury" "status" "I" ∈ WT := mem_T2 (i := 239) rfl rfl
theorem qf_X10_97 : Cond.fieldLink RX10 97 "RainJury" "faultKind" "I" ∈ WT := mem_T3 (i := 0) rfl rfl
theorem qf_X10_100 : Cond.fieldLink RX10 100 "RainJury" "faultPlace" "I" ∈ WT := mem_T3 (i := 1) rfl rfl
theorem qf_X10_103 : Cond.fieldLink RX10 103 "RainJury" "fractionTop" "J" ∈ WT := mem_T3 (i := 2) rfl rfl
theorem qf_X10_107 : Cond.fieldLink RX10 107 "RainJury" "fractionBottom" "J" ∈ WT := mem_T3 (i := 3) rfl rfl
theorem qf_X11_74 : Cond.fieldLink RX11 74 "RainJuryModel" "status" "I" ∈ WT := mem_T6 (i := 83) rfl rfl
theorem qf_X11_71 : Cond.fieldLink RX11 71 "RainJuryModel" "thrown" "I" ∈ WT := mem_T6 (i := 84) rfl rfl
theorem qf_X11_77 : Cond.fieldLink RX11 77 "RainJuryModel" "above" "J" ∈ WT := mem_T6 (i := 85) rfl rfl
theorem qf_X11_7 : Cond.fieldLink RX11 7 "RainJuryModel" "under" "J" ∈ WT := mem_T6 (i := 86) rfl rfl
theorem qf_X11_13 : Cond.fieldLink RX11 13 "RainJuryModel" "traySort" "[I" ∈ WT := mem_T6 (i := 87) rfl rfl
theorem qf_X11_17 : Cond.fieldLink RX11 17 "RainJuryModel" "trayMany" "[I" ∈ WT := mem_T6 (i := 88) rfl rfl
theorem qf_X11_20 : Cond.fieldLink RX11 20 "RainJuryModel" "numbers" "[J" ∈ WT := mem_T6 (i := 89) rfl rfl
theorem qf_X11_24 : Cond.fieldLink RX11 24 "RainJuryModel" "tape" "[B" ∈ WT := mem_T6 (i := 90) rfl rfl
theorem qf_X11_248 : Cond.fieldLink RX11 248 "RainJuryModel" "taped" "I" ∈ WT := mem_T6 (i := 91) rfl rfl
theorem qf_X11_114 : Cond.fieldLink RX11 114 "RainJuryModel" "textEnd" "I" ∈ WT := mem_T6 (i := 92) rfl rfl
theorem qf_X11_28 : Cond.fieldLink RX11 28 "RainJuryModel" "faultKind" "I" ∈ WT := mem_T6 (i := 93) rfl rfl
theorem qf_X11_32 : Cond.fieldLink RX11 32 "RainJuryModel" "faultAt" "I" ∈ WT := mem_T6 (i := 94) rfl rfl
theorem qf_X11_229 : Cond.fieldLink RX11 229 "RainJuryModel" "bad" "I" ∈ WT := mem_T6 (i := 95) rfl rfl
theorem qf_X11_232 : Cond.fieldLink RX11 232 "RainJuryModel" "badAt" "I" ∈ WT := mem_T6 (i := 96) rfl rfl
theorem qf_X11_126 : Cond.fieldLink RX11 126 "RainJuryModel" "token" "I" ∈ WT := mem_T6 (i := 97) rfl rfl
theorem qf_X11_120 : Cond.fieldLink RX11 120 "RainJuryModel" "at" "I" ∈ WT := mem_T6 (i := 98) rfl rfl
theorem qf_X11_117 : Cond.fieldLink RX11 117 "RainJuryModel" "behind" "I" ∈ WT := mem_T6 (i := 99) rfl rfl
theorem qf_X11_145 : Cond.fieldLink RX11 145 "RainJuryModel" "number" "I" ∈ WT := mem_T6 (i := 100) rfl rfl
theorem qf_X11_139 : Cond.fieldLink RX11 139 "RainJuryModel" "letters" "I" ∈ WT := mem_T6 (i := 101) rfl rfl
theorem qf_X11_132 : Cond.fieldLink RX11 132 "RainJuryModel" "word" "J" ∈ WT := mem_T6 (i := 102) rfl rfl
theorem qf_X11_35 : Cond.fieldLink RX11 35 "RainJuryModel" "c" "[I" ∈ WT := mem_T6 (i := 103) rfl rfl
theorem qf_X11_38 : Cond.fieldLink RX11 38 "RainJuryModel" "kept" "[I" ∈ WT := mem_T6 (i := 104) rfl rfl
theorem qf_X11_41 : Cond.fieldLink RX11 41 "RainJuryModel" "words" "[J" ∈ WT := mem_T6 (i := 105) rfl rfl
theorem qf_X11_528 : Cond.fieldLink RX11 528 "RainJuryModel" "markMany" "I" ∈ WT := mem_T6 (i := 106) rfl rfl
theorem qf_X11_283 : Cond.fieldLink RX11 283 "RainJuryModel" "lawTold" "Z" ∈ WT := mem_T6 (i := 107) rfl rfl
theorem qf_X11_326 : Cond.fieldLink RX11 326 "RainJuryModel" "newSteps" "I" ∈ WT := mem_T6 (i := 108) rfl rfl
theorem qf_X11_44 : Cond.fieldLink RX11 44 "RainJuryModel" "was" "[I" ∈ WT := mem_T6 (i := 109) rfl rfl
theorem qf_X11_47 : Cond.fieldLink RX11 47 "RainJuryModel" "proofRow" "[I" ∈ WT := mem_T6 (i := 110) rfl rfl
theorem qf_X11_50 : Cond.fieldLink RX11 50 "RainJuryModel" "proofFound" "[I" ∈ WT := mem_T6 (i := 111) rfl rfl
theorem qf_X11_53 : Cond.fieldLink RX11 53 "RainJuryModel" "depth" "[I" ∈ WT := mem_T6 (i := 112) rfl rfl
theorem qf_X11_56 : Cond.fieldLink RX11 56 "RainJuryModel" "proofMany" "I" ∈ WT := mem_T6 (i := 113) rfl rfl
theorem qf_X11_59 : Cond.fieldLink RX11 59 "RainJuryModel" "bribeTold" "I" ∈ WT := mem_T6 (i := 114) rfl rfl
theorem qf_X11_435 : Cond.fieldLink RX11 435 "RainJuryModel" "firstTold" "I" ∈ WT := mem_T6 (i := 115) rfl rfl
theorem qf_X11_454 : Cond.fieldLink RX11 454 "RainJuryModel" "rowWeather" "I" ∈ WT := mem_T6 (i := 116) rfl rfl
theorem qf_X11_62 : Cond.fieldLink RX11 62 "RainJuryModel" "most" "[I" ∈ WT := mem_T6 (i := 117) rfl rfl
theorem qf_X11_65 : Cond.fieldLink RX11 65 "RainJuryModel" "livedLast" "[I" ∈ WT := mem_T6 (i := 118) rfl rfl
theorem qf_X11_68 : Cond.fieldLink RX11 68 "RainJuryModel" "before" "[I" ∈ WT := mem_T6 (i := 119) rfl rfl
theorem qf_X11_523 : Cond.fieldLink RX11 523 "RainJuryModel" "hasLived" "Z" ∈ WT := mem_T6 (i := 120) rfl rfl
theorem qf_X11_497 : Cond.fieldLink RX11 497 "RainJuryModel" "isOver" "Z" ∈ WT := mem_T6 (i := 121) rfl rfl
theorem qf_X11_472 : Cond.fieldLink RX11 472 "RainJuryModel" "random" "I" ∈ WT := mem_T6 (i := 122) rfl rfl
theorem qf_X11_494 : Cond.fieldLink RX11 494 "RainJuryModel" "done" "I" ∈ WT := mem_T6 (i := 123) rfl rfl
theorem qf_X11_503 : Cond.fieldLink RX11 503 "RainJuryModel" "missed" "I" ∈ WT := mem_T6 (i := 124) rfl rfl
theorem qf_X11_479 : Cond.fieldLink RX11 479 "RainJuryModel" "days" "I" ∈ WT := mem_T6 (i := 125) rfl rfl
theorem qf_X11_482 : Cond.fieldLink RX11 482 "RainJuryModel" "guilty" "I" ∈ WT := mem_T6 (i := 126) rfl rfl
theorem qf_X11_485 : Cond.fieldLink RX11 485 "RainJuryModel" "hung" "I" ∈ WT := mem_T6 (i := 127) rfl rfl
theorem qf_X11_500 : Cond.fieldLink RX11 500 "RainJuryModel" "leftOver" "I" ∈ WT := mem_T6 (i := 128) rfl rfl
theorem qc_X5_62 : Cond.constantLong RX5 62 (32) ∈ WT := mem_T2 (i := 64) rfl rfl
theorem qc_X10_451 : Cond.constantLong RX10 451 (-1) ∈ WT := mem_T4 (i := 140) rfl rfl
theorem qc_X0_59 : Cond.constantLong RX0 59 (256) ∈ WT := mem_T5 (i := 99) rfl rfl
theorem qc_X0_64 : Cond.constantLong RX0 64 (99) ∈ WT := mem_T5 (i := 100) rfl rfl
theorem qc_X11_102 : Cond.constantLong RX11 102 (-1) ∈ WT := mem_T7 (i := 21) rfl rfl
theorem qc_X11_135 : Cond.constantLong RX11 135 (32) ∈ WT := mem_T7 (i := 57) rfl rfl
theorem qc_X11_137 : Cond.constantLong RX11 137 (96) ∈ WT := mem_T7 (i := 58) rfl rfl
theorem qc_X11_159 : Cond.constantLong RX11 159 (18) ∈ WT := mem_T7 (i := 109) rfl rfl
theorem qc_X11_161 : Cond.constantLong RX11 161 (14) ∈ WT := mem_T7 (i := 110) rfl rfl
theorem qc_X11_163 : Cond.constantLong RX11 163 (19) ∈ WT := mem_T7 (i := 127) rfl rfl
theorem qc_X11_165 : Cond.constantLong RX11 165 (20) ∈ WT := mem_T7 (i := 156) rfl rfl
theorem qc_X11_338 : Cond.constantLong RX11 338 (11) ∈ WT := mem_T8 (i := 28) rfl rfl
theorem qc_X11_104 : Cond.constantLong RX11 104 (3) ∈ WT := mem_T8 (i := 41) rfl rfl
theorem qc_X11_384 : Cond.constantLong RX11 384 (99) ∈ WT := mem_T8 (i := 110) rfl rfl
theorem qc_X11_404 : Cond.constantLong RX11 404 (-99) ∈ WT := mem_T8 (i := 170) rfl rfl
theorem qc_X11_406 : Cond.constantLong RX11 406 (2) ∈ WT := mem_T8 (i := 183) rfl rfl
theorem qc_X11_420 : Cond.constantLong RX11 420 (200) ∈ WT := mem_T8 (i := 228) rfl rfl
theorem qc_X11_429 : Cond.constantLong RX11 429 (9) ∈ WT := mem_T9 (i := 12) rfl rfl
theorem qc_X11_448 : Cond.constantLong RX11 448 (60) ∈ WT := mem_T9 (i := 53) rfl rfl
theorem qc_X11_518 : Cond.constantLong RX11 518 (9999) ∈ WT := mem_T9 (i := 98) rfl rfl
theorem qc_X11_526 : Cond.constantLong RX11 526 (4) ∈ WT := mem_T9 (i := 136) rfl rfl
theorem qc_L_32 : Cond.constantLong RL 32 (4294967295) ∈ WT := mem_T9 (i := 149) rfl rfl
theorem qc_J6_265 : Cond.constant RJ6 265 (1431655765) ∈ WT := mem_T4 (i := 222) rfl rfl
theorem qc_J6_266 : Cond.constant RJ6 266 (858993459) ∈ WT := mem_T4 (i := 223) rfl rfl
theorem qc_J6_267 : Cond.constant RJ6 267 (252645135) ∈ WT := mem_T4 (i := 224) rfl rfl
theorem qc_X4_44 : Cond.constant RX4 44 (1000000) ∈ WT := mem_T6 (i := 11) rfl rfl
theorem qc_X4_164 : Cond.constant RX4 164 (65536) ∈ WT := mem_T6 (i := 52) rfl rfl
theorem qc_X11_475 : Cond.constant RX11 475 (65536) ∈ WT := mem_T9 (i := 127) rfl rfl
theorem qs_yJ1_charAt_3b067 : Cond.static yJ1_charAt_3b067 ∈ WT := mem_T2 (i := 35) rfl rfl
theorem qs_yJ0_checkIndex_df160 : Cond.static yJ0_checkIndex_df160 ∈ WT := mem_T2 (i := 38) rfl rfl
theorem qs_yJ3_checkIndex_8e157 : Cond.static yJ3_checkIndex_8e157 ∈ WT := mem_T2 (i := 43) rfl rfl
theorem qs_yJ2_charAt_3b067 : Cond.static yJ2_charAt_3b067 ∈ WT := mem_T2 (i := 46) rfl rfl
theorem qs_yJ2_checkIndex_2214a : Cond.static yJ2_checkIndex_2214a ∈ WT := mem_T2 (i := 49) rfl rfl
theorem qs_yJ2_length_9d52b : Cond.static yJ2_length_9d52b ∈ WT := mem_T2 (i := 52) rfl rfl
theorem qs_yJ2_getChar_3b067 : Cond.static yJ2_getChar_3b067 ∈ WT := mem_T2 (i := 56) rfl rfl
theorem qs_yX10_isTray : Cond.static yX10_isTray ∈ WT := mem_T3 (i := 60) rfl rfl
theorem qs_arraycopyName : Cond.static arraycopyName ∈ WT := mem_T3 (i := 111) rfl rfl
theorem qs_yX8_readRest : Cond.static yX8_readRest ∈ WT := mem_T4 (i := 82) rfl rfl
theorem qs_yX8_readTest : Cond.static yX8_readTest ∈ WT := mem_T4 (i := 87) rfl rfl
theorem qs_yX10_isNoVerdict : Cond.static yX10_isNoVerdict ∈ WT := mem_T4 (i := 138) rfl rfl
theorem qs_Lib_Math_abs_name : Cond.static Lib.Math.abs.name ∈ WT := mem_T4 (i := 182) rfl rfl
theorem qs_Lib_Math_max_name : Cond.static Lib.Math.max.name ∈ WT := mem_T4 (i := 185) rfl rfl
theorem qs_yJ6_bitCount_0f7a4 : Cond.static yJ6_bitCount_0f7a4 ∈ WT := mem_T4 (i := 220) rfl rfl
theorem qs_yJ6_compare_7cf53 : Cond.static yJ6_compare_7cf53 ∈ WT := mem_T4 (i := 226) rfl rfl
theorem qs_yX10_rule : Cond.static yX10_rule ∈ WT := mem_T4 (i := 233) rfl rfl
theorem qs_yX10_isNoSide : Cond.static yX10_isNoSide ∈ WT := mem_T5 (i := 28) rfl rfl
theorem qs_yX0_pack : Cond.static yX0_pack ∈ WT := mem_T5 (i := 97) rfl rfl
theorem qs_yX0_extend : Cond.static yX0_extend ∈ WT := mem_T5 (i := 120) rfl rfl
theorem qs_yX10_isNoFewRounds : Cond.static yX10_isNoFewRounds ∈ WT := mem_T5 (i := 136) rfl rfl
theorem qs_yX10_bestPlay : Cond.static yX10_bestPlay ∈ WT := mem_T5 (i := 163) rfl rfl
theorem qs_Lib_Math_min_name : Cond.static Lib.Math.min.name ∈ WT := mem_T5 (i := 166) rfl rfl
theorem qs_Lib_MathLoose_abs_long_x : Cond.static Lib.MathLoose.abs_long.x ∈ WT := mem_T5 (i := 188) rfl rfl
theorem qs_yX10_commonDivisor : Cond.static yX10_commonDivisor ∈ WT := mem_T5 (i := 191) rfl rfl
theorem qs_yX10_isNoSeed : Cond.static yX10_isNoSeed ∈ WT := mem_T6 (i := 5) rfl rfl
theorem qs_yX4_holds : Cond.static yX4_holds ∈ WT := mem_T6 (i := 21) rfl rfl
theorem qs_yX4_canDo : Cond.static yX4_canDo ∈ WT := mem_T6 (i := 29) rfl rfl
theorem qs_yX11_cut : Cond.static yX11_cut ∈ WT := mem_T7 (i := 15) rfl rfl
theorem qs_yX11_isLetter : Cond.static yX11_isLetter ∈ WT := mem_T7 (i := 55) rfl rfl
theorem qs_yX11_isDigit : Cond.static yX11_isDigit ∈ WT := mem_T7 (i := 60) rfl rfl
theorem qs_yX11_spelled : Cond.static yX11_spelled ∈ WT := mem_T7 (i := 71) rfl rfl
theorem qs_yX11_fromOf : Cond.static yX11_fromOf ∈ WT := mem_T7 (i := 182) rfl rfl
theorem qs_yX11_isIn : Cond.static yX11_isIn ∈ WT := mem_T7 (i := 193) rfl rfl
theorem qs_yX11_has : Cond.static yX11_has ∈ WT := mem_T8 (i := 91) rfl rfl
theorem qs_yX11_cut_ : Cond.static yX11_cut_ ∈ WT := mem_T8 (i := 103) rfl rfl
theorem qs_yX11_judge : Cond.static yX11_judge ∈ WT := mem_T8 (i := 132) rfl rfl
theorem qs_yX11_isVerdict : Cond.static yX11_isVerdict ∈ WT := mem_T8 (i := 234) rfl rfl
theorem qs_yX11_sizeOf : Cond.static yX11_sizeOf ∈ WT := mem_T9 (i := 26) rfl rfl
theorem qi_yX10_init : Cond.instanceMethod yX10_init ∈ WT := mem_T1 (i := 23) rfl rfl
theorem qi_yX6_init : Cond.instanceMethod yX6_init ∈ WT := mem_T1 (i := 31) rfl rfl
theorem qi_yX9_init : Cond.instanceMethod yX9_init ∈ WT := mem_T1 (i := 54) rfl rfl
theorem qi_yX1_init : Cond.instanceMethod yX1_init ∈ WT := mem_T1 (i := 60) rfl rfl
theorem qi_yX3_init : Cond.instanceMethod yX3_init ∈ WT := mem_T1 (i := 136) rfl rfl
theorem qi_yX7_init : Cond.instanceMethod yX7_init ∈ WT := mem_T1 (i := 180) rfl rfl
theorem qi_yX5_init : Cond.instanceMethod yX5_init ∈ WT := mem_T2 (i := 12) rfl rfl
theorem qi_yJ0_length_8abf5 : Cond.instanceMethod yJ0_length_8abf5 ∈ WT := mem_T2 (i := 17) rfl rfl
theorem qi_yJ0_coder_7d493 : Cond.instanceMethod yJ0_coder_7d493 ∈ WT := mem_T2 (i := 21) rfl rfl
theorem qi_yJ0_charAt_5068e : Cond.instanceMethod yJ0_charAt_5068e ∈ WT := mem_T2 (i := 27) rfl rfl
theorem qi_yJ0_isLatin1_aae02 : Cond.instanceMethod yJ0_isLatin1_aae02 ∈ WT := mem_T2 (i := 31) rfl rfl
theorem qi_yX2_init : Cond.instanceMethod yX2_init ∈ WT := mem_T2 (i := 117) rfl rfl
theorem qi_yX8_init : Cond.instanceMethod yX8_init ∈ WT := mem_T2 (i := 127) rfl rfl
theorem qi_yX0_init : Cond.instanceMethod yX0_init ∈ WT := mem_T2 (i := 140) rfl rfl
theorem qi_yX4_init : Cond.instanceMethod yX4_init ∈ WT := mem_T2 (i := 191) rfl rfl
theorem qi_yX10_status : Cond.instanceMethod yX10_status ∈ WT := mem_T3 (i := 44) rfl rfl
theorem qi_yX10_top : Cond.instanceMethod yX10_top ∈ WT := mem_T3 (i := 48) rfl rfl
theorem qi_yX10_bottom : Cond.instanceMethod yX10_bottom ∈ WT := mem_T3 (i := 52) rfl rfl
theorem qi_yX10_tray : Cond.instanceMethod yX10_tray ∈ WT := mem_T3 (i := 56) rfl rfl
theorem qi_yX10_refuse : Cond.instanceMethod yX10_refuse ∈ WT := mem_T3 (i := 64) rfl rfl
theorem qi_yX6_lay : Cond.instanceMethod yX6_lay ∈ WT := mem_T3 (i := 67) rfl rfl
theorem qi_yX10_agree : Cond.instanceMethod yX10_agree ∈ WT := mem_T3 (i := 72) rfl rfl
theorem qi_yX10_write : Cond.instanceMethod yX10_write ∈ WT := mem_T3 (i := 75) rfl rfl
theorem qi_yX10_wrongPlace : Cond.instanceMethod yX10_wrongPlace ∈ WT := mem_T3 (i := 80) rfl rfl
theorem qi_yX10_wrongTray : Cond.instanceMethod yX10_wrongTray ∈ WT := mem_T3 (i := 84) rfl rfl
theorem qi_yX6_isMissing : Cond.instanceMethod yX6_isMissing ∈ WT := mem_T3 (i := 87) rfl rfl
theorem qi_yX6_holds : Cond.instanceMethod yX6_holds ∈ WT := mem_T3 (i := 91) rfl rfl
theorem qi_yX6_put : Cond.instanceMethod yX6_put ∈ WT := mem_T3 (i := 95) rfl rfl
theorem qi_yX10_read : Cond.instanceMethod yX10_read ∈ WT := mem_T3 (i := 99) rfl rfl
theorem qi_yX10_none : Cond.instanceMethod yX10_none ∈ WT := mem_T3 (i := 104) rfl rfl
theorem qi_yX10_pour : Cond.instanceMethod yX10_pour ∈ WT := mem_T3 (i := 107) rfl rfl
theorem qi_yX10_feed : Cond.instanceMethod yX10_feed ∈ WT := mem_T3 (i := 114) rfl rfl
theorem qi_yX5_hasRoom : Cond.instanceMethod yX5_hasRoom ∈ WT := mem_T3 (i := 118) rfl rfl
theorem qi_yX5_append : Cond.instanceMethod yX5_append ∈ WT := mem_T3 (i := 122) rfl rfl
theorem qi_yX10_court : Cond.instanceMethod yX10_court ∈ WT := mem_T3 (i := 126) rfl rfl
theorem qi_yX2_readCourt : Cond.instanceMethod yX2_readCourt ∈ WT := mem_T3 (i := 130) rfl rfl
theorem qi_yX1_clear : Cond.instanceMethod yX1_clear ∈ WT := mem_T3 (i := 134) rfl rfl
theorem qi_yX5_begin : Cond.instanceMethod yX5_begin ∈ WT := mem_T3 (i := 138) rfl rfl
theorem qi_yX5_advance : Cond.instanceMethod yX5_advance ∈ WT := mem_T3 (i := 142) rfl rfl
theorem qi_yX5_lookAtWord : Cond.instanceMethod yX5_lookAtWord ∈ WT := mem_T3 (i := 147) rfl rfl
theorem qi_yX5_lookAtNumber : Cond.instanceMethod yX5_lookAtNumber ∈ WT := mem_T3 (i := 151) rfl rfl
theorem qi_yX5_lookAtSign : Cond.instanceMethod yX5_lookAtSign ∈ WT := mem_T3 (i := 155) rfl rfl
theorem qi_yX2_readPart : Cond.instanceMethod yX2_readPart ∈ WT := mem_T3 (i := 159) rfl rfl
theorem qi_yX5_word : Cond.instanceMethod yX5_word ∈ WT := mem_T3 (i := 162) rfl rfl
theorem qi_yX2_needNew : Cond.instanceMethod yX2_needNew ∈ WT := mem_T3 (i := 167) rfl rfl
theorem qi_yX1_isFull : Cond.instanceMethod yX1_isFull ∈ WT := mem_T3 (i := 170) rfl rfl
theorem qi_yX5_fail : Cond.instanceMethod yX5_fail ∈ WT := mem_T3 (i := 176) rfl rfl
theorem qi_yX5_isName : Cond.instanceMethod yX5_isName ∈ WT := mem_T3 (i := 181) rfl rfl
theorem qi_yX1_isTaken : Cond.instanceMethod yX1_isTaken ∈ WT := mem_T3 (i := 185) rfl rfl
theorem qi_yX1_find : Cond.instanceMethod yX1_find ∈ WT := mem_T3 (i := 189) rfl rfl
theorem qi_yX1_addThing : Cond.instanceMethod yX1_addThing ∈ WT := mem_T3 (i := 193) rfl rfl
theorem qi_yX2_readJuror : Cond.instanceMethod yX2_readJuror ∈ WT := mem_T3 (i := 198) rfl rfl
theorem qi_yX5_takeWord : Cond.instanceMethod yX5_takeWord ∈ WT := mem_T3 (i := 201) rfl rfl
theorem qi_yX5_needEither : Cond.instanceMethod yX5_needEither ∈ WT := mem_T3 (i := 206) rfl rfl
theorem qi_yX5_needNumber : Cond.instanceMethod yX5_needNumber ∈ WT := mem_T3 (i := 211) rfl rfl
theorem qi_yX2_readSways : Cond.instanceMethod yX2_readSways ∈ WT := mem_T3 (i := 218) rfl rfl
theorem qi_yX5_needKnown : Cond.instanceMethod yX5_needKnown ∈ WT := mem_T3 (i := 221) rfl rfl
theorem qi_yX5_seeKnown : Cond.instanceMethod yX5_seeKnown ∈ WT := mem_T3 (i := 225) rfl rfl
theorem qi_yX1_setSway : Cond.instanceMethod yX1_setSway ∈ WT := mem_T3 (i := 232) rfl rfl
theorem qi_yX2_readProof : Cond.instanceMethod yX2_readProof ∈ WT := mem_T3 (i := 237) rfl rfl
theorem qi_yX2_startWeather : Cond.instanceMethod yX2_startWeather ∈ WT := mem_T4 (i := 1) rfl rfl
theorem qi_yX2_readFollows : Cond.instanceMethod yX2_readFollows ∈ WT := mem_T4 (i := 5) rfl rfl
theorem qi_yX5_needWord : Cond.instanceMethod yX5_needWord ∈ WT := mem_T4 (i := 8) rfl rfl
theorem qi_yX2_readCrop : Cond.instanceMethod yX2_readCrop ∈ WT := mem_T4 (i := 13) rfl rfl
theorem qi_yX1_setGrowth : Cond.instanceMethod yX1_setGrowth ∈ WT := mem_T4 (i := 16) rfl rfl
theorem qi_yX2_readHunger : Cond.instanceMethod yX2_readHunger ∈ WT := mem_T4 (i := 21) rfl rfl
theorem qi_yX2_readLaw : Cond.instanceMethod yX2_readLaw ∈ WT := mem_T4 (i := 25) rfl rfl
theorem qi_yX5_needStop : Cond.instanceMethod yX5_needStop ∈ WT := mem_T4 (i := 28) rfl rfl
theorem qi_yX10_keepFault : Cond.instanceMethod yX10_keepFault ∈ WT := mem_T4 (i := 33) rfl rfl
theorem qi_yX1_copyFrom : Cond.instanceMethod yX1_copyFrom ∈ WT := mem_T4 (i := 36) rfl rfl
theorem qi_yX3_openCourt : Cond.instanceMethod yX3_openCourt ∈ WT := mem_T4 (i := 41) rfl rfl
theorem qi_yX3_openDay : Cond.instanceMethod yX3_openDay ∈ WT := mem_T4 (i := 45) rfl rfl
theorem qi_yX7_clear : Cond.instanceMethod yX7_clear ∈ WT := mem_T4 (i := 49) rfl rfl
theorem qi_yX10_answer : Cond.instanceMethod yX10_answer ∈ WT := mem_T4 (i := 54) rfl rfl
theorem qi_yX10_weeks : Cond.instanceMethod yX10_weeks ∈ WT := mem_T4 (i := 57) rfl rfl
theorem qi_yX8_readWeeks : Cond.instanceMethod yX8_readWeeks ∈ WT := mem_T4 (i := 61) rfl rfl
theorem qi_yX8_closes : Cond.instanceMethod yX8_closes ∈ WT := mem_T4 (i := 69) rfl rfl
theorem qi_yX7_addRow : Cond.instanceMethod yX7_addRow ∈ WT := mem_T4 (i := 73) rfl rfl
theorem qi_yX8_begins : Cond.instanceMethod yX8_begins ∈ WT := mem_T4 (i := 79) rfl rfl
theorem qi_yX5_needCompares : Cond.instanceMethod yX5_needCompares ∈ WT := mem_T4 (i := 90) rfl rfl
theorem qi_yX7_copyFrom : Cond.instanceMethod yX7_copyFrom ∈ WT := mem_T4 (i := 97) rfl rfl
theorem qi_yX10_fault : Cond.instanceMethod yX10_fault ∈ WT := mem_T4 (i := 102) rfl rfl
theorem qi_yX10_many : Cond.instanceMethod yX10_many ∈ WT := mem_T4 (i := 106) rfl rfl
theorem qi_yX10_hasNoWeather : Cond.instanceMethod yX10_hasNoWeather ∈ WT := mem_T4 (i := 111) rfl rfl
theorem qi_yX10_juror : Cond.instanceMethod yX10_juror ∈ WT := mem_T4 (i := 114) rfl rfl
theorem qi_yX10_isNo : Cond.instanceMethod yX10_isNo ∈ WT := mem_T4 (i := 119) rfl rfl
theorem qi_yX10_sways : Cond.instanceMethod yX10_sways ∈ WT := mem_T4 (i := 122) rfl rfl
theorem qi_yX1_swayOf : Cond.instanceMethod yX1_swayOf ∈ WT := mem_T4 (i := 126) rfl rfl
theorem qi_yX10_proof : Cond.instanceMethod yX10_proof ∈ WT := mem_T4 (i := 130) rfl rfl
theorem qi_yX10_follows : Cond.instanceMethod yX10_follows ∈ WT := mem_T4 (i := 134) rfl rfl
theorem qi_yX1_weatherBehind : Cond.instanceMethod yX1_weatherBehind ∈ WT := mem_T4 (i := 142) rfl rfl
theorem qi_yX10_grows : Cond.instanceMethod yX10_grows ∈ WT := mem_T4 (i := 146) rfl rfl
theorem qi_yX1_growthOf : Cond.instanceMethod yX1_growthOf ∈ WT := mem_T4 (i := 150) rfl rfl
theorem qi_yX10_crop : Cond.instanceMethod yX10_crop ∈ WT := mem_T4 (i := 154) rfl rfl
theorem qi_yX10_copyLeanings : Cond.instanceMethod yX10_copyLeanings ∈ WT := mem_T4 (i := 158) rfl rfl
theorem qi_yX10_wrongRow : Cond.instanceMethod yX10_wrongRow ∈ WT := mem_T4 (i := 163) rfl rfl
theorem qi_yX10_show : Cond.instanceMethod yX10_show ∈ WT := mem_T4 (i := 166) rfl rfl
theorem qi_yX3_wasShown : Cond.instanceMethod yX3_wasShown ∈ WT := mem_T4 (i := 170) rfl rfl
theorem qi_yX3_present : Cond.instanceMethod yX3_present ∈ WT := mem_T4 (i := 174) rfl rfl
theorem qi_yX3_isSeated : Cond.instanceMethod yX3_isSeated ∈ WT := mem_T4 (i := 178) rfl rfl
theorem qi_yX3_shift : Cond.instanceMethod yX3_shift ∈ WT := mem_T4 (i := 188) rfl rfl
theorem qi_yX10_talk : Cond.instanceMethod yX10_talk ∈ WT := mem_T4 (i := 192) rfl rfl
theorem qi_yX3_talkOn : Cond.instanceMethod yX3_talkOn ∈ WT := mem_T4 (i := 196) rfl rfl
theorem qi_yX3_talkRound : Cond.instanceMethod yX3_talkRound ∈ WT := mem_T4 (i := 200) rfl rfl
theorem qi_yX3_pullOn : Cond.instanceMethod yX3_pullOn ∈ WT := mem_T4 (i := 204) rfl rfl
theorem qi_yX3_goHungry : Cond.instanceMethod yX3_goHungry ∈ WT := mem_T4 (i := 209) rfl rfl
theorem qi_yX3_guiltyVotes : Cond.instanceMethod yX3_guiltyVotes ∈ WT := mem_T4 (i := 212) rfl rfl
theorem qi_yX3_seatedCount : Cond.instanceMethod yX3_seatedCount ∈ WT := mem_T4 (i := 216) rfl rfl
theorem qi_yX3_ruling : Cond.instanceMethod yX3_ruling ∈ WT := mem_T4 (i := 229) rfl rfl
theorem qi_yX10_endDay : Cond.instanceMethod yX10_endDay ∈ WT := mem_T4 (i := 236) rfl rfl
theorem qi_yX3_closeDay : Cond.instanceMethod yX3_closeDay ∈ WT := mem_T5 (i := 0) rfl rfl
theorem qi_yX10_strike : Cond.instanceMethod yX10_strike ∈ WT := mem_T5 (i := 7) rfl rfl
theorem qi_yX3_unseat : Cond.instanceMethod yX3_unseat ∈ WT := mem_T5 (i := 12) rfl rfl
theorem qi_yX10_seat : Cond.instanceMethod yX10_seat ∈ WT := mem_T5 (i := 16) rfl rfl
theorem qi_yX3_reseat : Cond.instanceMethod yX3_reseat ∈ WT := mem_T5 (i := 20) rfl rfl
theorem qi_yX10_bribe : Cond.instanceMethod yX10_bribe ∈ WT := mem_T5 (i := 24) rfl rfl
theorem qi_yX3_canPay : Cond.instanceMethod yX3_canPay ∈ WT := mem_T5 (i := 31) rfl rfl
theorem qi_yX3_buy : Cond.instanceMethod yX3_buy ∈ WT := mem_T5 (i := 35) rfl rfl
theorem qi_yX10_lean : Cond.instanceMethod yX10_lean ∈ WT := mem_T5 (i := 39) rfl rfl
theorem qi_yX10_votes : Cond.instanceMethod yX10_votes ∈ WT := mem_T5 (i := 43) rfl rfl
theorem qi_yX10_verdict : Cond.instanceMethod yX10_verdict ∈ WT := mem_T5 (i := 49) rfl rfl
theorem qi_yX10_verdictBy : Cond.instanceMethod yX10_verdictBy ∈ WT := mem_T5 (i := 53) rfl rfl
theorem qi_yX10_swing : Cond.instanceMethod yX10_swing ∈ WT := mem_T5 (i := 57) rfl rfl
theorem qi_yX10_lacks : Cond.instanceMethod yX10_lacks ∈ WT := mem_T5 (i := 62) rfl rfl
theorem qi_yX10_nearest : Cond.instanceMethod yX10_nearest ∈ WT := mem_T5 (i := 66) rfl rfl
theorem qi_yX10_pull : Cond.instanceMethod yX10_pull ∈ WT := mem_T5 (i := 70) rfl rfl
theorem qi_yX3_copyFrom : Cond.instanceMethod yX3_copyFrom ∈ WT := mem_T5 (i := 74) rfl rfl
theorem qi_yX10_behind : Cond.instanceMethod yX10_behind ∈ WT := mem_T5 (i := 81) rfl rfl
theorem qi_yX1_allBehind : Cond.instanceMethod yX1_allBehind ∈ WT := mem_T5 (i := 85) rfl rfl
theorem qi_yX10_settles : Cond.instanceMethod yX10_settles ∈ WT := mem_T5 (i := 89) rfl rfl
theorem qi_yX0_settle : Cond.instanceMethod yX0_settle ∈ WT := mem_T5 (i := 93) rfl rfl
theorem qi_yX10_after : Cond.instanceMethod yX10_after ∈ WT := mem_T5 (i := 103) rfl rfl
theorem qi_yX10_soonest : Cond.instanceMethod yX10_soonest ∈ WT := mem_T5 (i := 107) rfl rfl
theorem qi_yX10_bestOrder : Cond.instanceMethod yX10_bestOrder ∈ WT := mem_T5 (i := 111) rfl rfl
theorem qi_yX0_findOrder : Cond.instanceMethod yX0_findOrder ∈ WT := mem_T5 (i := 115) rfl rfl
theorem qi_yX10_orderAt : Cond.instanceMethod yX10_orderAt ∈ WT := mem_T5 (i := 128) rfl rfl
theorem qi_yX10_bribes : Cond.instanceMethod yX10_bribes ∈ WT := mem_T5 (i := 132) rfl rfl
theorem qi_yX10_cheapestSet : Cond.instanceMethod yX10_cheapestSet ∈ WT := mem_T5 (i := 140) rfl rfl
theorem qi_yX1_priceOf : Cond.instanceMethod yX1_priceOf ∈ WT := mem_T5 (i := 143) rfl rfl
theorem qi_yX10_wins : Cond.instanceMethod yX10_wins ∈ WT := mem_T5 (i := 148) rfl rfl
theorem qi_yX10_bribeSet : Cond.instanceMethod yX10_bribeSet ∈ WT := mem_T5 (i := 151) rfl rfl
theorem qi_yX10_strikes : Cond.instanceMethod yX10_strikes ∈ WT := mem_T5 (i := 155) rfl rfl
theorem qi_yX10_wrongStrikes : Cond.instanceMethod yX10_wrongStrikes ∈ WT := mem_T5 (i := 160) rfl rfl
theorem qi_yX10_firstStrike : Cond.instanceMethod yX10_firstStrike ∈ WT := mem_T5 (i := 170) rfl rfl
theorem qi_yX10_firstOfBest : Cond.instanceMethod yX10_firstOfBest ∈ WT := mem_T5 (i := 175) rfl rfl
theorem qi_yX10_drawn : Cond.instanceMethod yX10_drawn ∈ WT := mem_T5 (i := 178) rfl rfl
theorem qi_yX10_tellFraction : Cond.instanceMethod yX10_tellFraction ∈ WT := mem_T5 (i := 185) rfl rfl
theorem qi_yX10_row : Cond.instanceMethod yX10_row ∈ WT := mem_T5 (i := 194) rfl rfl
theorem qi_yX10_wrongVerdicts : Cond.instanceMethod yX10_wrongVerdicts ∈ WT := mem_T5 (i := 199) rfl rfl
theorem qi_yX10_rowGrows : Cond.instanceMethod yX10_rowGrows ∈ WT := mem_T5 (i := 202) rfl rfl
theorem qi_yX10_way : Cond.instanceMethod yX10_way ∈ WT := mem_T5 (i := 206) rfl rfl
theorem qi_yX1_dayMore : Cond.instanceMethod yX1_dayMore ∈ WT := mem_T5 (i := 210) rfl rfl
theorem qi_yX10_harvest : Cond.instanceMethod yX10_harvest ∈ WT := mem_T5 (i := 214) rfl rfl
theorem qi_yX10_wrongHarvest : Cond.instanceMethod yX10_wrongHarvest ∈ WT := mem_T5 (i := 219) rfl rfl
theorem qi_yX0_reap : Cond.instanceMethod yX0_reap ∈ WT := mem_T5 (i := 222) rfl rfl
theorem qi_yX10_harvestNow : Cond.instanceMethod yX10_harvestNow ∈ WT := mem_T5 (i := 228) rfl rfl
theorem qi_yX0_bestVerdict : Cond.instanceMethod yX0_bestVerdict ∈ WT := mem_T5 (i := 232) rfl rfl
theorem qi_yX10_reach : Cond.instanceMethod yX10_reach ∈ WT := mem_T5 (i := 237) rfl rfl
theorem qi_yX10_live : Cond.instanceMethod yX10_live ∈ WT := mem_T6 (i := 1) rfl rfl
theorem qi_yX4_run : Cond.instanceMethod yX4_run ∈ WT := mem_T6 (i := 8) rfl rfl
theorem qi_yX4_passEnd : Cond.instanceMethod yX4_passEnd ∈ WT := mem_T6 (i := 14) rfl rfl
theorem qi_yX4_turns : Cond.instanceMethod yX4_turns ∈ WT := mem_T6 (i := 18) rfl rfl
theorem qi_yX4_does : Cond.instanceMethod yX4_does ∈ WT := mem_T6 (i := 26) rfl rfl
theorem qi_yX4_countDay : Cond.instanceMethod yX4_countDay ∈ WT := mem_T6 (i := 39) rfl rfl
theorem qi_yX4_feelMood : Cond.instanceMethod yX4_feelMood ∈ WT := mem_T6 (i := 46) rfl rfl
theorem qi_yX4_drawBy : Cond.instanceMethod yX4_drawBy ∈ WT := mem_T6 (i := 50) rfl rfl
theorem qi_yX10_lived : Cond.instanceMethod yX10_lived ∈ WT := mem_T6 (i := 55) rfl rfl
theorem qi_yX10_mean : Cond.instanceMethod yX10_mean ∈ WT := mem_T6 (i := 59) rfl rfl
theorem qi_yX10_mark : Cond.instanceMethod yX10_mark ∈ WT := mem_T6 (i := 63) rfl rfl
theorem qi_yX9_copyFrom : Cond.instanceMethod yX9_copyFrom ∈ WT := mem_T6 (i := 67) rfl rfl
theorem qi_yX10_back : Cond.instanceMethod yX10_back ∈ WT := mem_T6 (i := 74) rfl rfl
theorem qi_yX11_init : Cond.instanceMethod yX11_init ∈ WT := mem_T6 (i := 80) rfl rfl
theorem qi_yX11_status : Cond.instanceMethod yX11_status ∈ WT := mem_T6 (i := 223) rfl rfl
theorem qi_yX11_top : Cond.instanceMethod yX11_top ∈ WT := mem_T6 (i := 227) rfl rfl
theorem qi_yX11_bottom : Cond.instanceMethod yX11_bottom ∈ WT := mem_T6 (i := 231) rfl rfl
theorem qi_yX11_tray : Cond.instanceMethod yX11_tray ∈ WT := mem_T6 (i := 235) rfl rfl
theorem qi_yX11_no : Cond.instanceMethod yX11_no ∈ WT := mem_T7 (i := 0) rfl rfl
theorem qi_yX11_write : Cond.instanceMethod yX11_write ∈ WT := mem_T7 (i := 3) rfl rfl
theorem qi_yX11_placed : Cond.instanceMethod yX11_placed ∈ WT := mem_T7 (i := 8) rfl rfl
theorem qi_yX11_trayed : Cond.instanceMethod yX11_trayed ∈ WT := mem_T7 (i := 12) rfl rfl
theorem qi_yX11_read : Cond.instanceMethod yX11_read ∈ WT := mem_T7 (i := 18) rfl rfl
theorem qi_yX11_pour : Cond.instanceMethod yX11_pour ∈ WT := mem_T7 (i := 23) rfl rfl
theorem qi_yX11_feed : Cond.instanceMethod yX11_feed ∈ WT := mem_T7 (i := 27) rfl rfl
theorem qi_yX11_lay : Cond.instanceMethod yX11_lay ∈ WT := mem_T7 (i := 32) rfl rfl
theorem qi_yX11_fault : Cond.instanceMethod yX11_fault ∈ WT := mem_T7 (i := 35) rfl rfl
theorem qi_yX11_court : Cond.instanceMethod yX11_court ∈ WT := mem_T7 (i := 39) rfl rfl
theorem qi_yX11_starts : Cond.instanceMethod yX11_starts ∈ WT := mem_T7 (i := 44) rfl rfl
theorem qi_yX11_next : Cond.instanceMethod yX11_next ∈ WT := mem_T7 (i := 48) rfl rfl
theorem qi_yX11_look2 : Cond.instanceMethod yX11_look2 ∈ WT := mem_T7 (i := 52) rfl rfl
theorem qi_yX11_isSignByte : Cond.instanceMethod yX11_isSignByte ∈ WT := mem_T7 (i := 64) rfl rfl
theorem qi_yX11_isJuror : Cond.instanceMethod yX11_isJuror ∈ WT := mem_T7 (i := 68) rfl rfl
theorem qi_yX11_isWord : Cond.instanceMethod yX11_isWord ∈ WT := mem_T7 (i := 75) rfl rfl
theorem qi_yX11_readJuror : Cond.instanceMethod yX11_readJuror ∈ WT := mem_T7 (i := 79) rfl rfl
theorem qi_yX11_readNew : Cond.instanceMethod yX11_readNew ∈ WT := mem_T7 (i := 83) rfl rfl
theorem qi_yX11_fail : Cond.instanceMethod yX11_fail ∈ WT := mem_T7 (i := 87) rfl rfl
theorem qi_yX11_isName : Cond.instanceMethod yX11_isName ∈ WT := mem_T7 (i := 91) rfl rfl
theorem qi_yX11_isKept : Cond.instanceMethod yX11_isKept ∈ WT := mem_T7 (i := 95) rfl rfl
theorem qi_yX11_isLeans : Cond.instanceMethod yX11_isLeans ∈ WT := mem_T7 (i := 99) rfl rfl
theorem qi_yX11_isLess : Cond.instanceMethod yX11_isLess ∈ WT := mem_T7 (i := 103) rfl rfl
theorem qi_yX11_isStubborn : Cond.instanceMethod yX11_isStubborn ∈ WT := mem_T7 (i := 107) rfl rfl
theorem qi_yX11_isPrice : Cond.instanceMethod yX11_isPrice ∈ WT := mem_T7 (i := 113) rfl rfl
theorem qi_yX11_isSways : Cond.instanceMethod yX11_isSways ∈ WT := mem_T7 (i := 117) rfl rfl
theorem qi_yX11_isProof : Cond.instanceMethod yX11_isProof ∈ WT := mem_T7 (i := 121) rfl rfl
theorem qi_yX11_isFollows : Cond.instanceMethod yX11_isFollows ∈ WT := mem_T7 (i := 125) rfl rfl
theorem qi_yX11_isGuilty : Cond.instanceMethod yX11_isGuilty ∈ WT := mem_T7 (i := 130) rfl rfl
theorem qi_yX11_isFree : Cond.instanceMethod yX11_isFree ∈ WT := mem_T7 (i := 134) rfl rfl
theorem qi_yX11_isOn : Cond.instanceMethod yX11_isOn ∈ WT := mem_T7 (i := 138) rfl rfl
theorem qi_yX11_isHunger : Cond.instanceMethod yX11_isHunger ∈ WT := mem_T7 (i := 142) rfl rfl
theorem qi_yX11_isLaw : Cond.instanceMethod yX11_isLaw ∈ WT := mem_T7 (i := 146) rfl rfl
theorem qi_yX11_lawWord : Cond.instanceMethod yX11_lawWord ∈ WT := mem_T7 (i := 150) rfl rfl
theorem qi_yX11_stepWord : Cond.instanceMethod yX11_stepWord ∈ WT := mem_T7 (i := 154) rfl rfl
theorem qi_yX11_testWord : Cond.instanceMethod yX11_testWord ∈ WT := mem_T7 (i := 159) rfl rfl
theorem qi_yX11_isWeather : Cond.instanceMethod yX11_isWeather ∈ WT := mem_T7 (i := 163) rfl rfl
theorem qi_yX11_isCrop : Cond.instanceMethod yX11_isCrop ∈ WT := mem_T7 (i := 167) rfl rfl
theorem qi_yX11_isEnd : Cond.instanceMethod yX11_isEnd ∈ WT := mem_T7 (i := 171) rfl rfl
theorem qi_yX11_wrong : Cond.instanceMethod yX11_wrong ∈ WT := mem_T7 (i := 175) rfl rfl
theorem qi_yX11_named : Cond.instanceMethod yX11_named ∈ WT := mem_T7 (i := 179) rfl rfl
theorem qi_yX11_signed : Cond.instanceMethod yX11_signed ∈ WT := mem_T7 (i := 186) rfl rfl
theorem qi_yX11_count : Cond.instanceMethod yX11_count ∈ WT := mem_T7 (i := 190) rfl rfl
theorem qi_yX11_readSways : Cond.instanceMethod yX11_readSways ∈ WT := mem_T7 (i := 197) rfl rfl
theorem qi_yX11_readTold : Cond.instanceMethod yX11_readTold ∈ WT := mem_T7 (i := 201) rfl rfl
theorem qi_yX11_told : Cond.instanceMethod yX11_told ∈ WT := mem_T7 (i := 205) rfl rfl
theorem qi_yX11_must : Cond.instanceMethod yX11_must ∈ WT := mem_T7 (i := 210) rfl rfl
theorem qi_yX11_readProof : Cond.instanceMethod yX11_readProof ∈ WT := mem_T7 (i := 214) rfl rfl
theorem qi_yX11_readWeather : Cond.instanceMethod yX11_readWeather ∈ WT := mem_T7 (i := 218) rfl rfl
theorem qi_yX11_readFollows : Cond.instanceMethod yX11_readFollows ∈ WT := mem_T7 (i := 222) rfl rfl
theorem qi_yX11_readCrop : Cond.instanceMethod yX11_readCrop ∈ WT := mem_T7 (i := 226) rfl rfl
theorem qi_yX11_readHunger : Cond.instanceMethod yX11_readHunger ∈ WT := mem_T7 (i := 230) rfl rfl
theorem qi_yX11_readLaw : Cond.instanceMethod yX11_readLaw ∈ WT := mem_T7 (i := 234) rfl rfl
theorem qi_yX11_isSign : Cond.instanceMethod yX11_isSign ∈ WT := mem_T7 (i := 238) rfl rfl
theorem qi_yX11_isWell : Cond.instanceMethod yX11_isWell ∈ WT := mem_T8 (i := 2) rfl rfl
theorem qi_yX11_copy : Cond.instanceMethod yX11_copy ∈ WT := mem_T8 (i := 6) rfl rfl
theorem qi_yX11_weeks : Cond.instanceMethod yX11_weeks ∈ WT := mem_T8 (i := 9) rfl rfl
theorem qi_yX11_readStep : Cond.instanceMethod yX11_readStep ∈ WT := mem_T8 (i := 14) rfl rfl
theorem qi_yX11_readRest : Cond.instanceMethod yX11_readRest ∈ WT := mem_T8 (i := 18) rfl rfl
theorem qi_yX11_readTest : Cond.instanceMethod yX11_readTest ∈ WT := mem_T8 (i := 22) rfl rfl
theorem qi_yX11_many : Cond.instanceMethod yX11_many ∈ WT := mem_T8 (i := 25) rfl rfl
theorem qi_yX11_refuse : Cond.instanceMethod yX11_refuse ∈ WT := mem_T8 (i := 31) rfl rfl
theorem qi_yX11_juror : Cond.instanceMethod yX11_juror ∈ WT := mem_T8 (i := 34) rfl rfl
theorem qi_yX11_isJurorAt : Cond.instanceMethod yX11_isJurorAt ∈ WT := mem_T8 (i := 39) rfl rfl
theorem qi_yX11_sways : Cond.instanceMethod yX11_sways ∈ WT := mem_T8 (i := 43) rfl rfl
theorem qi_yX11_proof : Cond.instanceMethod yX11_proof ∈ WT := mem_T8 (i := 47) rfl rfl
theorem qi_yX11_follows : Cond.instanceMethod yX11_follows ∈ WT := mem_T8 (i := 51) rfl rfl
theorem qi_yX11_isWeatherAt : Cond.instanceMethod yX11_isWeatherAt ∈ WT := mem_T8 (i := 56) rfl rfl
theorem qi_yX11_behindOf : Cond.instanceMethod yX11_behindOf ∈ WT := mem_T8 (i := 60) rfl rfl
theorem qi_yX11_grows : Cond.instanceMethod yX11_grows ∈ WT := mem_T8 (i := 63) rfl rfl
theorem qi_yX11_isCropAt : Cond.instanceMethod yX11_isCropAt ∈ WT := mem_T8 (i := 68) rfl rfl
theorem qi_yX11_growsOn : Cond.instanceMethod yX11_growsOn ∈ WT := mem_T8 (i := 72) rfl rfl
theorem qi_yX11_crop : Cond.instanceMethod yX11_crop ∈ WT := mem_T8 (i := 75) rfl rfl
theorem qi_yX11_copyLeanings : Cond.instanceMethod yX11_copyLeanings ∈ WT := mem_T8 (i := 79) rfl rfl
theorem qi_yX11_isTray : Cond.instanceMethod yX11_isTray ∈ WT := mem_T8 (i := 84) rfl rfl
theorem qi_yX11_show : Cond.instanceMethod yX11_show ∈ WT := mem_T8 (i := 87) rfl rfl
theorem qi_yX11_showsOne : Cond.instanceMethod yX11_showsOne ∈ WT := mem_T8 (i := 95) rfl rfl
theorem qi_yX11_isSeated : Cond.instanceMethod yX11_isSeated ∈ WT := mem_T8 (i := 99) rfl rfl
theorem qi_yX11_talk : Cond.instanceMethod yX11_talk ∈ WT := mem_T8 (i := 107) rfl rfl
theorem qi_yX11_talksFor : Cond.instanceMethod yX11_talksFor ∈ WT := mem_T8 (i := 113) rfl rfl
theorem qi_yX11_talks : Cond.instanceMethod yX11_talks ∈ WT := mem_T8 (i := 117) rfl rfl
theorem qi_yX11_pulled : Cond.instanceMethod yX11_pulled ∈ WT := mem_T8 (i := 121) rfl rfl
theorem qi_yX11_votesFor : Cond.instanceMethod yX11_votesFor ∈ WT := mem_T8 (i := 125) rfl rfl
theorem qi_yX11_judged : Cond.instanceMethod yX11_judged ∈ WT := mem_T8 (i := 129) rfl rfl
theorem qi_yX11_endDay : Cond.instanceMethod yX11_endDay ∈ WT := mem_T8 (i := 135) rfl rfl
theorem qi_yX11_endsDay : Cond.instanceMethod yX11_endsDay ∈ WT := mem_T8 (i := 140) rfl rfl
theorem qi_yX11_strike : Cond.instanceMethod yX11_strike ∈ WT := mem_T8 (i := 143) rfl rfl
theorem qi_yX11_strikesOne : Cond.instanceMethod yX11_strikesOne ∈ WT := mem_T8 (i := 148) rfl rfl
theorem qi_yX11_seat : Cond.instanceMethod yX11_seat ∈ WT := mem_T8 (i := 151) rfl rfl
theorem qi_yX11_seatsOne : Cond.instanceMethod yX11_seatsOne ∈ WT := mem_T8 (i := 156) rfl rfl
theorem qi_yX11_bribe : Cond.instanceMethod yX11_bribe ∈ WT := mem_T8 (i := 159) rfl rfl
theorem qi_yX11_bribesOne : Cond.instanceMethod yX11_bribesOne ∈ WT := mem_T8 (i := 164) rfl rfl
theorem qi_yX11_lean : Cond.instanceMethod yX11_lean ∈ WT := mem_T8 (i := 167) rfl rfl
theorem qi_yX11_votes : Cond.instanceMethod yX11_votes ∈ WT := mem_T8 (i := 172) rfl rfl
theorem qi_yX11_verdict : Cond.instanceMethod yX11_verdict ∈ WT := mem_T8 (i := 176) rfl rfl
theorem qi_yX11_verdictBy : Cond.instanceMethod yX11_verdictBy ∈ WT := mem_T8 (i := 180) rfl rfl
theorem qi_yX11_swing : Cond.instanceMethod yX11_swing ∈ WT := mem_T8 (i := 185) rfl rfl
theorem qi_yX11_lacks : Cond.instanceMethod yX11_lacks ∈ WT := mem_T8 (i := 189) rfl rfl
theorem qi_yX11_nearest : Cond.instanceMethod yX11_nearest ∈ WT := mem_T8 (i := 193) rfl rfl
theorem qi_yX11_farFrom : Cond.instanceMethod yX11_farFrom ∈ WT := mem_T8 (i := 198) rfl rfl
theorem qi_yX11_pull : Cond.instanceMethod yX11_pull ∈ WT := mem_T8 (i := 201) rfl rfl
theorem qi_yX11_behind : Cond.instanceMethod yX11_behind ∈ WT := mem_T8 (i := 205) rfl rfl
theorem qi_yX11_settles : Cond.instanceMethod yX11_settles ∈ WT := mem_T8 (i := 209) rfl rfl
theorem qi_yX11_keeps : Cond.instanceMethod yX11_keeps ∈ WT := mem_T8 (i := 214) rfl rfl
theorem qi_yX11_cameBefore : Cond.instanceMethod yX11_cameBefore ∈ WT := mem_T8 (i := 218) rfl rfl
theorem qi_yX11_gives : Cond.instanceMethod yX11_gives ∈ WT := mem_T8 (i := 222) rfl rfl
theorem qi_yX11_after : Cond.instanceMethod yX11_after ∈ WT := mem_T8 (i := 225) rfl rfl
theorem qi_yX11_soonest : Cond.instanceMethod yX11_soonest ∈ WT := mem_T8 (i := 230) rfl rfl
theorem qi_yX11_bestOrder : Cond.instanceMethod yX11_bestOrder ∈ WT := mem_T8 (i := 237) rfl rfl
theorem qi_yX11_orders : Cond.instanceMethod yX11_orders ∈ WT := mem_T9 (i := 2) rfl rfl
theorem qi_yX11_orderAt : Cond.instanceMethod yX11_orderAt ∈ WT := mem_T9 (i := 5) rfl rfl
theorem qi_yX11_bribes : Cond.instanceMethod yX11_bribes ∈ WT := mem_T9 (i := 9) rfl rfl
theorem qi_yX11_bribeSet : Cond.instanceMethod yX11_bribeSet ∈ WT := mem_T9 (i := 14) rfl rfl
theorem qi_yX11_strikes : Cond.instanceMethod yX11_strikes ∈ WT := mem_T9 (i := 18) rfl rfl
theorem qi_yX11_whyNoStrikes : Cond.instanceMethod yX11_whyNoStrikes ∈ WT := mem_T9 (i := 23) rfl rfl
theorem qi_yX11_plays : Cond.instanceMethod yX11_plays ∈ WT := mem_T9 (i := 30) rfl rfl
theorem qi_yX11_firstStrike : Cond.instanceMethod yX11_firstStrike ∈ WT := mem_T9 (i := 33) rfl rfl
theorem qi_yX11_drawn : Cond.instanceMethod yX11_drawn ∈ WT := mem_T9 (i := 37) rfl rfl
theorem qi_yX11_fraction : Cond.instanceMethod yX11_fraction ∈ WT := mem_T9 (i := 42) rfl rfl
theorem qi_yX11_row : Cond.instanceMethod yX11_row ∈ WT := mem_T9 (i := 46) rfl rfl
theorem qi_yX11_goesRow : Cond.instanceMethod yX11_goesRow ∈ WT := mem_T9 (i := 51) rfl rfl
theorem qi_yX11_numberOf : Cond.instanceMethod yX11_numberOf ∈ WT := mem_T9 (i := 56) rfl rfl
theorem qi_yX11_growsRow : Cond.instanceMethod yX11_growsRow ∈ WT := mem_T9 (i := 60) rfl rfl
theorem qi_yX11_rowGrows : Cond.instanceMethod yX11_rowGrows ∈ WT := mem_T9 (i := 63) rfl rfl
theorem qi_yX11_way : Cond.instanceMethod yX11_way ∈ WT := mem_T9 (i := 67) rfl rfl
theorem qi_yX11_behindSet : Cond.instanceMethod yX11_behindSet ∈ WT := mem_T9 (i := 72) rfl rfl
theorem qi_yX11_reach : Cond.instanceMethod yX11_reach ∈ WT := mem_T9 (i := 75) rfl rfl
theorem qi_yX11_harvest : Cond.instanceMethod yX11_harvest ∈ WT := mem_T9 (i := 79) rfl rfl
theorem qi_yX11_whyNoHarvest : Cond.instanceMethod yX11_whyNoHarvest ∈ WT := mem_T9 (i := 84) rfl rfl
theorem qi_yX11_harvests : Cond.instanceMethod yX11_harvests ∈ WT := mem_T9 (i := 88) rfl rfl
theorem qi_yX11_harvestNow : Cond.instanceMethod yX11_harvestNow ∈ WT := mem_T9 (i := 91) rfl rfl
theorem qi_yX11_live : Cond.instanceMethod yX11_live ∈ WT := mem_T9 (i := 95) rfl rfl
theorem qi_yX11_runs : Cond.instanceMethod yX11_runs ∈ WT := mem_T9 (i := 101) rfl rfl
theorem qi_yX11_doAll : Cond.instanceMethod yX11_doAll ∈ WT := mem_T9 (i := 105) rfl rfl
theorem qi_yX11_doOne : Cond.instanceMethod yX11_doOne ∈ WT := mem_T9 (i := 109) rfl rfl
theorem qi_yX11_does : Cond.instanceMethod yX11_does ∈ WT := mem_T9 (i := 113) rfl rfl
theorem qi_yX11_dayEnds : Cond.instanceMethod yX11_dayEnds ∈ WT := mem_T9 (i := 117) rfl rfl
theorem qi_yX11_moods : Cond.instanceMethod yX11_moods ∈ WT := mem_T9 (i := 121) rfl rfl
theorem qi_yX11_draw : Cond.instanceMethod yX11_draw ∈ WT := mem_T9 (i := 125) rfl rfl
theorem qi_yX11_isSo : Cond.instanceMethod yX11_isSo ∈ WT := mem_T9 (i := 130) rfl rfl
theorem qi_yX11_lived : Cond.instanceMethod yX11_lived ∈ WT := mem_T9 (i := 133) rfl rfl
theorem qi_yX11_mean : Cond.instanceMethod yX11_mean ∈ WT := mem_T9 (i := 138) rfl rfl
theorem qi_yX11_mark : Cond.instanceMethod yX11_mark ∈ WT := mem_T9 (i := 142) rfl rfl
theorem qi_yX11_back : Cond.instanceMethod yX11_back ∈ WT := mem_T9 (i := 146) rfl rfl
theorem qk_yX10_init : Cond.code yX10_init cX10_init 2 none ∈ WT := mem_T1 (i := 24) rfl rfl
theorem qk_yX6_init : Cond.code yX6_init cX6_init 1 none ∈ WT := mem_T1 (i := 32) rfl rfl
theorem qk_yX9_init : Cond.code yX9_init cX9_init 1 none ∈ WT := mem_T1 (i := 55) rfl rfl
theorem qk_yX1_init : Cond.code yX1_init cX1_init 1 none ∈ WT := mem_T1 (i := 61) rfl rfl
theorem qk_yX3_init : Cond.code yX3_init cX3_init 1 none ∈ WT := mem_T1 (i := 137) rfl rfl
theorem qk_yX7_init : Cond.code yX7_init cX7_init 1 none ∈ WT := mem_T1 (i := 181) rfl rfl
theorem qk_yX5_init : Cond.code yX5_init cX5_init 6 none ∈ WT := mem_T2 (i := 13) rfl rfl
theorem qk_yJ0_length_8abf5 : Cond.code yJ0_length_8abf5 cJ0_length_8abf5 1 (some .int) ∈ WT := mem_T2 (i := 19) rfl rfl
theorem qk_yJ0_isLatin1_aae02 : Cond.code yJ0_isLatin1_aae02 cJ0_isLatin1_aae02 1 (some .boolean) ∈ WT := mem_T2 (i := 33) rfl rfl
theorem qk_yJ0_checkIndex_df160 : Cond.code yJ0_checkIndex_df160 cJ0_checkIndex_df160 2 none ∈ WT := mem_T2 (i := 39) rfl rfl
theorem qk_yJ3_checkIndex_8e157 : Cond.code yJ3_checkIndex_8e157 cJ3_checkIndex_8e157 3 (some .int) ∈ WT := mem_T2 (i := 44) rfl rfl
theorem qk_yJ2_checkIndex_2214a : Cond.code yJ2_checkIndex_2214a cJ2_checkIndex_2214a 2 none ∈ WT := mem_T2 (i := 50) rfl rfl
theorem qk_yJ2_length_9d52b : Cond.code yJ2_length_9d52b cJ2_length_9d52b 1 (some .int) ∈ WT := mem_T2 (i := 53) rfl rfl
theorem qk_yX2_init : Cond.code yX2_init cX2_init 1 none ∈ WT := mem_T2 (i := 118) rfl rfl
theorem qk_yX8_init : Cond.code yX8_init cX8_init 1 none ∈ WT := mem_T2 (i := 128) rfl rfl
theorem qk_yX0_init : Cond.code yX0_init cX0_init 2 none ∈ WT := mem_T2 (i := 141) rfl rfl
theorem qk_yX4_init : Cond.code yX4_init cX4_init 1 none ∈ WT := mem_T2 (i := 192) rfl rfl
theorem qk_yX10_status : Cond.code yX10_status cX10_status 1 (some .int) ∈ WT := mem_T3 (i := 46) rfl rfl
theorem qk_yX10_top : Cond.code yX10_top cX10_top 1 (some .long) ∈ WT := mem_T3 (i := 50) rfl rfl
theorem qk_yX10_bottom : Cond.code yX10_bottom cX10_bottom 1 (some .long) ∈ WT := mem_T3 (i := 54) rfl rfl
theorem qk_yX10_tray : Cond.code yX10_tray cX10_tray 4 (some .boolean) ∈ WT := mem_T3 (i := 58) rfl rfl
theorem qk_yX10_isTray : Cond.code yX10_isTray cX10_isTray 1 (some .boolean) ∈ WT := mem_T3 (i := 61) rfl rfl
theorem qk_yX10_refuse : Cond.code yX10_refuse cX10_refuse 2 (some .boolean) ∈ WT := mem_T3 (i := 65) rfl rfl
theorem qk_yX6_lay : Cond.code yX6_lay cX6_lay 5 none ∈ WT := mem_T3 (i := 69) rfl rfl
theorem qk_yX10_agree : Cond.code yX10_agree cX10_agree 1 (some .boolean) ∈ WT := mem_T3 (i := 73) rfl rfl
theorem qk_yX10_write : Cond.code yX10_write cX10_write 6 (some .boolean) ∈ WT := mem_T3 (i := 77) rfl rfl
theorem qk_yX10_wrongPlace : Cond.code yX10_wrongPlace cX10_wrongPlace 4 (some .int) ∈ WT := mem_T3 (i := 81) rfl rfl
theorem qk_yX10_wrongTray : Cond.code yX10_wrongTray cX10_wrongTray 2 (some .int) ∈ WT := mem_T3 (i := 85) rfl rfl
theorem qk_yX6_isMissing : Cond.code yX6_isMissing cX6_isMissing 2 (some .boolean) ∈ WT := mem_T3 (i := 89) rfl rfl
theorem qk_yX6_holds : Cond.code yX6_holds cX6_holds 4 (some .boolean) ∈ WT := mem_T3 (i := 93) rfl rfl
theorem qk_yX6_put : Cond.code yX6_put cX6_put 5 none ∈ WT := mem_T3 (i := 97) rfl rfl
theorem qk_yX10_read : Cond.code yX10_read cX10_read 4 (some .long) ∈ WT := mem_T3 (i := 101) rfl rfl
theorem qk_yX10_none : Cond.code yX10_none cX10_none 2 (some .int) ∈ WT := mem_T3 (i := 105) rfl rfl
theorem qk_yX10_pour : Cond.code yX10_pour cX10_pour 6 (some .boolean) ∈ WT := mem_T3 (i := 109) rfl rfl
theorem qk_yX10_feed : Cond.code yX10_feed cX10_feed 6 (some .int) ∈ WT := mem_T3 (i := 116) rfl rfl
theorem qk_yX5_hasRoom : Cond.code yX5_hasRoom cX5_hasRoom 2 (some .boolean) ∈ WT := mem_T3 (i := 120) rfl rfl
theorem qk_yX5_append : Cond.code yX5_append cX5_append 3 none ∈ WT := mem_T3 (i := 124) rfl rfl
theorem qk_yX10_court : Cond.code yX10_court cX10_court 2 (some .int) ∈ WT := mem_T3 (i := 128) rfl rfl
theorem qk_yX2_readCourt : Cond.code yX2_readCourt cX2_readCourt 5 none ∈ WT := mem_T3 (i := 132) rfl rfl
theorem qk_yX1_clear : Cond.code yX1_clear cX1_clear 2 none ∈ WT := mem_T3 (i := 136) rfl rfl
theorem qk_yX5_begin : Cond.code yX5_begin cX5_begin 2 none ∈ WT := mem_T3 (i := 140) rfl rfl
theorem qk_yX5_advance : Cond.code yX5_advance cX5_advance 1 none ∈ WT := mem_T3 (i := 144) rfl rfl
theorem qk_yX5_lookAtWord : Cond.code yX5_lookAtWord cX5_lookAtWord 2 none ∈ WT := mem_T3 (i := 148) rfl rfl
theorem qk_yX5_lookAtNumber : Cond.code yX5_lookAtNumber cX5_lookAtNumber 1 none ∈ WT := mem_T3 (i := 152) rfl rfl
theorem qk_yX5_lookAtSign : Cond.code yX5_lookAtSign cX5_lookAtSign 2 none ∈ WT := mem_T3 (i := 156) rfl rfl
theorem qk_yX2_readPart : Cond.code yX2_readPart cX2_readPart 3 (some .boolean) ∈ WT := mem_T3 (i := 160) rfl rfl
theorem qk_yX5_word : Cond.code yX5_word cX5_word 1 (some .int) ∈ WT := mem_T3 (i := 164) rfl rfl
theorem qk_yX2_needNew : Cond.code yX2_needNew cX2_needNew 4 (some .boolean) ∈ WT := mem_T3 (i := 168) rfl rfl
theorem qk_yX1_isFull : Cond.code yX1_isFull cX1_isFull 2 (some .boolean) ∈ WT := mem_T3 (i := 172) rfl rfl
theorem qk_yX5_fail : Cond.code yX5_fail cX5_fail 2 (some .boolean) ∈ WT := mem_T3 (i := 178) rfl rfl
theorem qk_yX5_isName : Cond.code yX5_isName cX5_isName 1 (some .boolean) ∈ WT := mem_T3 (i := 183) rfl rfl
theorem qk_yX1_isTaken : Cond.code yX1_isTaken cX1_isTaken 4 (some .boolean) ∈ WT := mem_T3 (i := 187) rfl rfl
theorem qk_yX1_find : Cond.code yX1_find cX1_find 5 (some .int) ∈ WT := mem_T3 (i := 191) rfl rfl
theorem qk_yX1_addThing : Cond.code yX1_addThing cX1_addThing 5 (some .int) ∈ WT := mem_T3 (i := 195) rfl rfl
theorem qk_yX2_readJuror : Cond.code yX2_readJuror cX2_readJuror 4 (some .boolean) ∈ WT := mem_T3 (i := 199) rfl rfl
theorem qk_yX5_takeWord : Cond.code yX5_takeWord cX5_takeWord 2 (some .boolean) ∈ WT := mem_T3 (i := 203) rfl rfl
theorem qk_yX5_needEither : Cond.code yX5_needEither cX5_needEither 3 (some .boolean) ∈ WT := mem_T3 (i := 208) rfl rfl
theorem qk_yX5_needNumber : Cond.code yX5_needNumber cX5_needNumber 3 (some .boolean) ∈ WT := mem_T3 (i := 213) rfl rfl
theorem qk_yX2_readSways : Cond.code yX2_readSways cX2_readSways 5 (some .boolean) ∈ WT := mem_T3 (i := 219) rfl rfl
theorem qk_yX5_needKnown : Cond.code yX5_needKnown cX5_needKnown 3 (some .boolean) ∈ WT := mem_T3 (i := 223) rfl rfl
theorem qk_yX5_seeKnown : Cond.code yX5_seeKnown cX5_seeKnown 3 (some .boolean) ∈ WT := mem_T3 (i := 227) rfl rfl
theorem qk_yX1_setSway : Cond.code yX1_setSway cX1_setSway 5 none ∈ WT := mem_T3 (i := 234) rfl rfl
theorem qk_yX2_readProof : Cond.code yX2_readProof cX2_readProof 4 (some .boolean) ∈ WT := mem_T3 (i := 238) rfl rfl
theorem qk_yX2_startWeather : Cond.code yX2_startWeather cX2_startWeather 3 (some .boolean) ∈ WT := mem_T4 (i := 2) rfl rfl
theorem qk_yX2_readFollows : Cond.code yX2_readFollows cX2_readFollows 5 (some .boolean) ∈ WT := mem_T4 (i := 6) rfl rfl
theorem qk_yX5_needWord : Cond.code yX5_needWord cX5_needWord 2 (some .boolean) ∈ WT := mem_T4 (i := 10) rfl rfl
theorem qk_yX2_readCrop : Cond.code yX2_readCrop cX2_readCrop 6 (some .boolean) ∈ WT := mem_T4 (i := 14) rfl rfl
theorem qk_yX1_setGrowth : Cond.code yX1_setGrowth cX1_setGrowth 4 none ∈ WT := mem_T4 (i := 18) rfl rfl
theorem qk_yX2_readHunger : Cond.code yX2_readHunger cX2_readHunger 3 (some .boolean) ∈ WT := mem_T4 (i := 22) rfl rfl
theorem qk_yX2_readLaw : Cond.code yX2_readLaw cX2_readLaw 4 (some .boolean) ∈ WT := mem_T4 (i := 26) rfl rfl
theorem qk_yX5_needStop : Cond.code yX5_needStop cX5_needStop 1 (some .boolean) ∈ WT := mem_T4 (i := 30) rfl rfl
theorem qk_yX10_keepFault : Cond.code yX10_keepFault cX10_keepFault 1 (some .boolean) ∈ WT := mem_T4 (i := 34) rfl rfl
theorem qk_yX1_copyFrom : Cond.code yX1_copyFrom cX1_copyFrom 2 none ∈ WT := mem_T4 (i := 38) rfl rfl
theorem qk_yX3_openCourt : Cond.code yX3_openCourt cX3_openCourt 3 none ∈ WT := mem_T4 (i := 43) rfl rfl
theorem qk_yX3_openDay : Cond.code yX3_openDay cX3_openDay 4 none ∈ WT := mem_T4 (i := 47) rfl rfl
theorem qk_yX7_clear : Cond.code yX7_clear cX7_clear 1 none ∈ WT := mem_T4 (i := 51) rfl rfl
theorem qk_yX10_answer : Cond.code yX10_answer cX10_answer 2 (some .int) ∈ WT := mem_T4 (i := 55) rfl rfl
theorem qk_yX10_weeks : Cond.code yX10_weeks cX10_weeks 2 (some .int) ∈ WT := mem_T4 (i := 59) rfl rfl
theorem qk_yX8_readWeeks : Cond.code yX8_readWeeks cX8_readWeeks 7 none ∈ WT := mem_T4 (i := 63) rfl rfl
theorem qk_yX8_closes : Cond.code yX8_closes cX8_closes 5 (some .boolean) ∈ WT := mem_T4 (i := 70) rfl rfl
theorem qk_yX7_addRow : Cond.code yX7_addRow cX7_addRow 3 (some .int) ∈ WT := mem_T4 (i := 75) rfl rfl
theorem qk_yX8_begins : Cond.code yX8_begins cX8_begins 6 (some .boolean) ∈ WT := mem_T4 (i := 80) rfl rfl
theorem qk_yX8_readRest : Cond.code yX8_readRest cX8_readRest 5 (some .boolean) ∈ WT := mem_T4 (i := 83) rfl rfl
theorem qk_yX8_readTest : Cond.code yX8_readTest cX8_readTest 6 (some .boolean) ∈ WT := mem_T4 (i := 88) rfl rfl
theorem qk_yX5_needCompares : Cond.code yX5_needCompares cX5_needCompares 1 (some .boolean) ∈ WT := mem_T4 (i := 92) rfl rfl
theorem qk_yX7_copyFrom : Cond.code yX7_copyFrom cX7_copyFrom 2 none ∈ WT := mem_T4 (i := 99) rfl rfl
theorem qk_yX10_fault : Cond.code yX10_fault cX10_fault 2 (some .int) ∈ WT := mem_T4 (i := 104) rfl rfl
theorem qk_yX10_many : Cond.code yX10_many cX10_many 4 (some .int) ∈ WT := mem_T4 (i := 108) rfl rfl
theorem qk_yX10_hasNoWeather : Cond.code yX10_hasNoWeather cX10_hasNoWeather 1 (some .boolean) ∈ WT := mem_T4 (i := 112) rfl rfl
theorem qk_yX10_juror : Cond.code yX10_juror cX10_juror 3 (some .int) ∈ WT := mem_T4 (i := 116) rfl rfl
theorem qk_yX10_isNo : Cond.code yX10_isNo cX10_isNo 3 (some .boolean) ∈ WT := mem_T4 (i := 120) rfl rfl
theorem qk_yX10_sways : Cond.code yX10_sways cX10_sways 3 (some .int) ∈ WT := mem_T4 (i := 124) rfl rfl
theorem qk_yX1_swayOf : Cond.code yX1_swayOf cX1_swayOf 3 (some .int) ∈ WT := mem_T4 (i := 128) rfl rfl
theorem qk_yX10_proof : Cond.code yX10_proof cX10_proof 2 (some .int) ∈ WT := mem_T4 (i := 132) rfl rfl
theorem qk_yX10_follows : Cond.code yX10_follows cX10_follows 3 (some .int) ∈ WT := mem_T4 (i := 136) rfl rfl
theorem qk_yX10_isNoVerdict : Cond.code yX10_isNoVerdict cX10_isNoVerdict 2 (some .boolean) ∈ WT := mem_T4 (i := 139) rfl rfl
theorem qk_yX1_weatherBehind : Cond.code yX1_weatherBehind cX1_weatherBehind 3 (some .int) ∈ WT := mem_T4 (i := 144) rfl rfl
theorem qk_yX10_grows : Cond.code yX10_grows cX10_grows 3 (some .int) ∈ WT := mem_T4 (i := 148) rfl rfl
theorem qk_yX1_growthOf : Cond.code yX1_growthOf cX1_growthOf 3 (some .int) ∈ WT := mem_T4 (i := 152) rfl rfl
theorem qk_yX10_crop : Cond.code yX10_crop cX10_crop 2 (some .int) ∈ WT := mem_T4 (i := 156) rfl rfl
theorem qk_yX10_copyLeanings : Cond.code yX10_copyLeanings cX10_copyLeanings 5 (some .int) ∈ WT := mem_T4 (i := 160) rfl rfl
theorem qk_yX10_wrongRow : Cond.code yX10_wrongRow cX10_wrongRow 4 (some .int) ∈ WT := mem_T4 (i := 164) rfl rfl
theorem qk_yX10_show : Cond.code yX10_show cX10_show 2 (some .int) ∈ WT := mem_T4 (i := 168) rfl rfl
theorem qk_yX3_wasShown : Cond.code yX3_wasShown cX3_wasShown 2 (some .boolean) ∈ WT := mem_T4 (i := 172) rfl rfl
theorem qk_yX3_present : Cond.code yX3_present cX3_present 7 (some .int) ∈ WT := mem_T4 (i := 176) rfl rfl
theorem qk_yX3_isSeated : Cond.code yX3_isSeated cX3_isSeated 2 (some .boolean) ∈ WT := mem_T4 (i := 180) rfl rfl
theorem qk_Lib_Math_abs_name : Cond.code Lib.Math.abs.name Lib.Math.abs.code 1 (some .int) ∈ WT := mem_T4 (i := 183) rfl rfl
theorem qk_Lib_Math_max_name : Cond.code Lib.Math.max.name Lib.Math.max.code 2 (some .int) ∈ WT := mem_T4 (i := 186) rfl rfl
theorem qk_yX3_shift : Cond.code yX3_shift cX3_shift 5 (some .int) ∈ WT := mem_T4 (i := 190) rfl rfl
theorem qk_yX10_talk : Cond.code yX10_talk cX10_talk 2 (some .int) ∈ WT := mem_T4 (i := 194) rfl rfl
theorem qk_yX3_talkOn : Cond.code yX3_talkOn cX3_talkOn 6 none ∈ WT := mem_T4 (i := 198) rfl rfl
theorem qk_yX3_talkRound : Cond.code yX3_talkRound cX3_talkRound 5 (some .int) ∈ WT := mem_T4 (i := 202) rfl rfl
theorem qk_yX3_pullOn : Cond.code yX3_pullOn cX3_pullOn 7 (some .int) ∈ WT := mem_T4 (i := 206) rfl rfl
theorem qk_yX3_goHungry : Cond.code yX3_goHungry cX3_goHungry 6 (some .int) ∈ WT := mem_T4 (i := 210) rfl rfl
theorem qk_yX3_guiltyVotes : Cond.code yX3_guiltyVotes cX3_guiltyVotes 3 (some .int) ∈ WT := mem_T4 (i := 214) rfl rfl
theorem qk_yX3_seatedCount : Cond.code yX3_seatedCount cX3_seatedCount 1 (some .int) ∈ WT := mem_T4 (i := 218) rfl rfl
theorem qk_yJ6_bitCount_0f7a4 : Cond.code yJ6_bitCount_0f7a4 cJ6_bitCount_0f7a4 1 (some .int) ∈ WT := mem_T4 (i := 221) rfl rfl
theorem qk_yJ6_compare_7cf53 : Cond.code yJ6_compare_7cf53 cJ6_compare_7cf53 2 (some .int) ∈ WT := mem_T4 (i := 227) rfl rfl
theorem qk_yX3_ruling : Cond.code yX3_ruling cX3_ruling 3 (some .int) ∈ WT := mem_T4 (i := 231) rfl rfl
theorem qk_yX10_rule : Cond.code yX10_rule cX10_rule 4 (some .int) ∈ WT := mem_T4 (i := 234) rfl rfl
theorem qk_yX10_endDay : Cond.code yX10_endDay cX10_endDay 1 (some .int) ∈ WT := mem_T4 (i := 238) rfl rfl
theorem qk_yX3_closeDay : Cond.code yX3_closeDay cX3_closeDay 4 (some .int) ∈ WT := mem_T5 (i := 2) rfl rfl
theorem qk_yX10_strike : Cond.code yX10_strike cX10_strike 2 (some .boolean) ∈ WT := mem_T5 (i := 9) rfl rfl
theorem qk_yX3_unseat : Cond.code yX3_unseat cX3_unseat 2 none ∈ WT := mem_T5 (i := 14) rfl rfl
theorem qk_yX10_seat : Cond.code yX10_seat cX10_seat 2 (some .boolean) ∈ WT := mem_T5 (i := 18) rfl rfl
theorem qk_yX3_reseat : Cond.code yX3_reseat cX3_reseat 2 none ∈ WT := mem_T5 (i := 22) rfl rfl
theorem qk_yX10_bribe : Cond.code yX10_bribe cX10_bribe 3 (some .int) ∈ WT := mem_T5 (i := 26) rfl rfl
theorem qk_yX10_isNoSide : Cond.code yX10_isNoSide cX10_isNoSide 1 (some .boolean) ∈ WT := mem_T5 (i := 29) rfl rfl
theorem qk_yX3_canPay : Cond.code yX3_canPay cX3_canPay 3 (some .boolean) ∈ WT := mem_T5 (i := 33) rfl rfl
theorem qk_yX3_buy : Cond.code yX3_buy cX3_buy 4 none ∈ WT := mem_T5 (i := 37) rfl rfl
theorem qk_yX10_lean : Cond.code yX10_lean cX10_lean 3 (some .boolean) ∈ WT := mem_T5 (i := 41) rfl rfl
theorem qk_yX10_votes : Cond.code yX10_votes cX10_votes 3 (some .int) ∈ WT := mem_T5 (i := 45) rfl rfl
theorem qk_yX10_verdict : Cond.code yX10_verdict cX10_verdict 1 (some .int) ∈ WT := mem_T5 (i := 51) rfl rfl
theorem qk_yX10_verdictBy : Cond.code yX10_verdictBy cX10_verdictBy 2 (some .int) ∈ WT := mem_T5 (i := 55) rfl rfl
theorem qk_yX10_swing : Cond.code yX10_swing cX10_swing 10 (some .int) ∈ WT := mem_T5 (i := 59) rfl rfl
theorem qk_yX10_lacks : Cond.code yX10_lacks cX10_lacks 4 (some .int) ∈ WT := mem_T5 (i := 64) rfl rfl
theorem qk_yX10_nearest : Cond.code yX10_nearest cX10_nearest 6 (some .int) ∈ WT := mem_T5 (i := 68) rfl rfl
theorem qk_yX10_pull : Cond.code yX10_pull cX10_pull 2 (some .int) ∈ WT := mem_T5 (i := 72) rfl rfl
theorem qk_yX3_copyFrom : Cond.code yX3_copyFrom cX3_copyFrom 2 none ∈ WT := mem_T5 (i := 76) rfl rfl
theorem qk_yX10_behind : Cond.code yX10_behind cX10_behind 2 (some .int) ∈ WT := mem_T5 (i := 83) rfl rfl
theorem qk_yX1_allBehind : Cond.code yX1_allBehind cX1_allBehind 5 (some .int) ∈ WT := mem_T5 (i := 87) rfl rfl
theorem qk_yX10_settles : Cond.code yX10_settles cX10_settles 2 (some .int) ∈ WT := mem_T5 (i := 91) rfl rfl
theorem qk_yX0_settle : Cond.code yX0_settle cX0_settle 5 (some .boolean) ∈ WT := mem_T5 (i := 95) rfl rfl
theorem qk_yX0_pack : Cond.code yX0_pack cX0_pack 5 (some .long) ∈ WT := mem_T5 (i := 98) rfl rfl
theorem qk_yX10_after : Cond.code yX10_after cX10_after 2 (some .int) ∈ WT := mem_T5 (i := 105) rfl rfl
theorem qk_yX10_soonest : Cond.code yX10_soonest cX10_soonest 3 (some .int) ∈ WT := mem_T5 (i := 109) rfl rfl
theorem qk_yX10_bestOrder : Cond.code yX10_bestOrder cX10_bestOrder 2 (some .int) ∈ WT := mem_T5 (i := 113) rfl rfl
theorem qk_yX0_findOrder : Cond.code yX0_findOrder cX0_findOrder 5 (some .boolean) ∈ WT := mem_T5 (i := 117) rfl rfl
theorem qk_yX0_extend : Cond.code yX0_extend cX0_extend 8 (some .boolean) ∈ WT := mem_T5 (i := 121) rfl rfl
theorem qk_yX10_orderAt : Cond.code yX10_orderAt cX10_orderAt 2 (some .int) ∈ WT := mem_T5 (i := 130) rfl rfl
theorem qk_yX10_bribes : Cond.code yX10_bribes cX10_bribes 5 (some .int) ∈ WT := mem_T5 (i := 134) rfl rfl
theorem qk_yX10_isNoFewRounds : Cond.code yX10_isNoFewRounds cX10_isNoFewRounds 1 (some .boolean) ∈ WT := mem_T5 (i := 137) rfl rfl
theorem qk_yX10_cheapestSet : Cond.code yX10_cheapestSet cX10_cheapestSet 10 (some .int) ∈ WT := mem_T5 (i := 141) rfl rfl
theorem qk_yX1_priceOf : Cond.code yX1_priceOf cX1_priceOf 4 (some .int) ∈ WT := mem_T5 (i := 145) rfl rfl
theorem qk_yX10_wins : Cond.code yX10_wins cX10_wins 6 (some .boolean) ∈ WT := mem_T5 (i := 149) rfl rfl
theorem qk_yX10_bribeSet : Cond.code yX10_bribeSet cX10_bribeSet 1 (some .int) ∈ WT := mem_T5 (i := 153) rfl rfl
theorem qk_yX10_strikes : Cond.code yX10_strikes cX10_strikes 4 (some .int) ∈ WT := mem_T5 (i := 157) rfl rfl
theorem qk_yX10_wrongStrikes : Cond.code yX10_wrongStrikes cX10_wrongStrikes 2 (some .int) ∈ WT := mem_T5 (i := 161) rfl rfl
theorem qk_yX10_bestPlay : Cond.code yX10_bestPlay cX10_bestPlay 7 (some .int) ∈ WT := mem_T5 (i := 164) rfl rfl
theorem qk_Lib_Math_min_name : Cond.code Lib.Math.min.name Lib.Math.min.code 2 (some .int) ∈ WT := mem_T5 (i := 167) rfl rfl
theorem qk_yX10_firstStrike : Cond.code yX10_firstStrike cX10_firstStrike 3 (some .int) ∈ WT := mem_T5 (i := 172) rfl rfl
theorem qk_yX10_firstOfBest : Cond.code yX10_firstOfBest cX10_firstOfBest 9 (some .int) ∈ WT := mem_T5 (i := 176) rfl rfl
theorem qk_yX10_drawn : Cond.code yX10_drawn cX10_drawn 8 (some .boolean) ∈ WT := mem_T5 (i := 180) rfl rfl
theorem qk_yX10_tellFraction : Cond.code yX10_tellFraction cX10_tellFraction 7 none ∈ WT := mem_T5 (i := 186) rfl rfl
theorem qk_Lib_MathLoose_abs_long_x : Cond.code Lib.MathLoose.abs_long.x Lib.MathLoose.abs_long.code 2 (some .long) ∈ WT := mem_T5 (i := 189) rfl rfl
theorem qk_yX10_commonDivisor : Cond.code yX10_commonDivisor cX10_commonDivisor 11 (some .long) ∈ WT := mem_T5 (i := 192) rfl rfl
theorem qk_yX10_row : Cond.code yX10_row cX10_row 6 (some .int) ∈ WT := mem_T5 (i := 196) rfl rfl
theorem qk_yX10_wrongVerdicts : Cond.code yX10_wrongVerdicts cX10_wrongVerdicts 5 (some .int) ∈ WT := mem_T5 (i := 200) rfl rfl
theorem qk_yX10_rowGrows : Cond.code yX10_rowGrows cX10_rowGrows 8 (some .int) ∈ WT := mem_T5 (i := 204) rfl rfl
theorem qk_yX10_way : Cond.code yX10_way cX10_way 4 (some .int) ∈ WT := mem_T5 (i := 208) rfl rfl
theorem qk_yX1_dayMore : Cond.code yX1_dayMore cX1_dayMore 4 (some .int) ∈ WT := mem_T5 (i := 212) rfl rfl
theorem qk_yX10_harvest : Cond.code yX10_harvest cX10_harvest 4 (some .int) ∈ WT := mem_T5 (i := 216) rfl rfl
theorem qk_yX10_wrongHarvest : Cond.code yX10_wrongHarvest cX10_wrongHarvest 3 (some .int) ∈ WT := mem_T5 (i := 220) rfl rfl
theorem qk_yX0_reap : Cond.code yX0_reap cX0_reap 7 none ∈ WT := mem_T5 (i := 224) rfl rfl
theorem qk_yX10_harvestNow : Cond.code yX10_harvestNow cX10_harvestNow 4 (some .int) ∈ WT := mem_T5 (i := 230) rfl rfl
theorem qk_yX0_bestVerdict : Cond.code yX0_bestVerdict cX0_bestVerdict 6 (some .int) ∈ WT := mem_T5 (i := 234) rfl rfl
theorem qk_yX10_reach : Cond.code yX10_reach cX10_reach 3 (some .int) ∈ WT := mem_T5 (i := 239) rfl rfl
theorem qk_yX10_live : Cond.code yX10_live cX10_live 2 (some .int) ∈ WT := mem_T6 (i := 3) rfl rfl
theorem qk_yX10_isNoSeed : Cond.code yX10_isNoSeed cX10_isNoSeed 1 (some .boolean) ∈ WT := mem_T6 (i := 6) rfl rfl
theorem qk_yX4_run : Cond.code yX4_run cX4_run 8 none ∈ WT := mem_T6 (i := 10) rfl rfl
theorem qk_yX4_passEnd : Cond.code yX4_passEnd cX4_passEnd 4 (some .int) ∈ WT := mem_T6 (i := 15) rfl rfl
theorem qk_yX4_turns : Cond.code yX4_turns cX4_turns 4 (some .int) ∈ WT := mem_T6 (i := 19) rfl rfl
theorem qk_yX4_holds : Cond.code yX4_holds cX4_holds 6 (some .boolean) ∈ WT := mem_T6 (i := 22) rfl rfl
theorem qk_yX4_does : Cond.code yX4_does cX4_does 7 (some .boolean) ∈ WT := mem_T6 (i := 27) rfl rfl
theorem qk_yX4_canDo : Cond.code yX4_canDo cX4_canDo 4 (some .boolean) ∈ WT := mem_T6 (i := 30) rfl rfl
theorem qk_yX4_countDay : Cond.code yX4_countDay cX4_countDay 2 none ∈ WT := mem_T6 (i := 40) rfl rfl
theorem qk_yX4_feelMood : Cond.code yX4_feelMood cX4_feelMood 4 none ∈ WT := mem_T6 (i := 47) rfl rfl
theorem qk_yX4_drawBy : Cond.code yX4_drawBy cX4_drawBy 2 (some .int) ∈ WT := mem_T6 (i := 51) rfl rfl
theorem qk_yX10_lived : Cond.code yX10_lived cX10_lived 2 (some .int) ∈ WT := mem_T6 (i := 57) rfl rfl
theorem qk_yX10_mean : Cond.code yX10_mean cX10_mean 7 (some .boolean) ∈ WT := mem_T6 (i := 61) rfl rfl
theorem qk_yX10_mark : Cond.code yX10_mark cX10_mark 1 (some .int) ∈ WT := mem_T6 (i := 65) rfl rfl
theorem qk_yX9_copyFrom : Cond.code yX9_copyFrom cX9_copyFrom 2 none ∈ WT := mem_T6 (i := 69) rfl rfl
theorem qk_yX10_back : Cond.code yX10_back cX10_back 1 (some .int) ∈ WT := mem_T6 (i := 76) rfl rfl
theorem qk_yX11_init : Cond.code yX11_init cX11_init 2 none ∈ WT := mem_T6 (i := 81) rfl rfl
theorem qk_yX11_status : Cond.code yX11_status cX11_status 1 (some .int) ∈ WT := mem_T6 (i := 225) rfl rfl
theorem qk_yX11_top : Cond.code yX11_top cX11_top 1 (some .long) ∈ WT := mem_T6 (i := 229) rfl rfl
theorem qk_yX11_bottom : Cond.code yX11_bottom cX11_bottom 1 (some .long) ∈ WT := mem_T6 (i := 233) rfl rfl
theorem qk_yX11_tray : Cond.code yX11_tray cX11_tray 5 (some .boolean) ∈ WT := mem_T6 (i := 237) rfl rfl
theorem qk_yX11_no : Cond.code yX11_no cX11_no 2 (some .boolean) ∈ WT := mem_T7 (i := 1) rfl rfl
theorem qk_yX11_write : Cond.code yX11_write cX11_write 5 (some .boolean) ∈ WT := mem_T7 (i := 5) rfl rfl
theorem qk_yX11_placed : Cond.code yX11_placed cX11_placed 4 (some .int) ∈ WT := mem_T7 (i := 9) rfl rfl
theorem qk_yX11_trayed : Cond.code yX11_trayed cX11_trayed 2 (some .int) ∈ WT := mem_T7 (i := 13) rfl rfl
theorem qk_yX11_cut : Cond.code yX11_cut cX11_cut 3 (some .long) ∈ WT := mem_T7 (i := 16) rfl rfl
theorem qk_yX11_read : Cond.code yX11_read cX11_read 3 (some .long) ∈ WT := mem_T7 (i := 20) rfl rfl
theorem qk_yX11_pour : Cond.code yX11_pour cX11_pour 9 (some .boolean) ∈ WT := mem_T7 (i := 25) rfl rfl
theorem qk_yX11_feed : Cond.code yX11_feed cX11_feed 6 (some .int) ∈ WT := mem_T7 (i := 29) rfl rfl
theorem qk_yX11_lay : Cond.code yX11_lay cX11_lay 3 none ∈ WT := mem_T7 (i := 33) rfl rfl
theorem qk_yX11_fault : Cond.code yX11_fault cX11_fault 2 (some .int) ∈ WT := mem_T7 (i := 37) rfl rfl
theorem qk_yX11_court : Cond.code yX11_court cX11_court 3 (some .int) ∈ WT := mem_T7 (i := 41) rfl rfl
theorem qk_yX11_starts : Cond.code yX11_starts cX11_starts 3 (some .boolean) ∈ WT := mem_T7 (i := 45) rfl rfl
theorem qk_yX11_next : Cond.code yX11_next cX11_next 2 none ∈ WT := mem_T7 (i := 49) rfl rfl
theorem qk_yX11_look2 : Cond.code yX11_look2 cX11_look2 2 (some .int) ∈ WT := mem_T7 (i := 53) rfl rfl
theorem qk_yX11_isLetter : Cond.code yX11_isLetter cX11_isLetter 1 (some .boolean) ∈ WT := mem_T7 (i := 56) rfl rfl
theorem qk_yX11_isDigit : Cond.code yX11_isDigit cX11_isDigit 1 (some .boolean) ∈ WT := mem_T7 (i := 61) rfl rfl
theorem qk_yX11_isSignByte : Cond.code yX11_isSignByte cX11_isSignByte 2 (some .boolean) ∈ WT := mem_T7 (i := 65) rfl rfl
theorem qk_yX11_isJuror : Cond.code yX11_isJuror cX11_isJuror 1 (some .boolean) ∈ WT := mem_T7 (i := 69) rfl rfl
theorem qk_yX11_spelled : Cond.code yX11_spelled cX11_spelled 8 (some .long) ∈ WT := mem_T7 (i := 72) rfl rfl
theorem qk_yX11_isWord : Cond.code yX11_isWord cX11_isWord 3 (some .boolean) ∈ WT := mem_T7 (i := 76) rfl rfl
theorem qk_yX11_readJuror : Cond.code yX11_readJuror cX11_readJuror 2 none ∈ WT := mem_T7 (i := 80) rfl rfl
theorem qk_yX11_readNew : Cond.code yX11_readNew cX11_readNew 4 (some .int) ∈ WT := mem_T7 (i := 84) rfl rfl
theorem qk_yX11_fail : Cond.code yX11_fail cX11_fail 3 none ∈ WT := mem_T7 (i := 88) rfl rfl
theorem qk_yX11_isName : Cond.code yX11_isName cX11_isName 1 (some .boolean) ∈ WT := mem_T7 (i := 92) rfl rfl
theorem qk_yX11_isKept : Cond.code yX11_isKept cX11_isKept 1 (some .boolean) ∈ WT := mem_T7 (i := 96) rfl rfl
theorem qk_yX11_isLeans : Cond.code yX11_isLeans cX11_isLeans 1 (some .boolean) ∈ WT := mem_T7 (i := 100) rfl rfl
theorem qk_yX11_isLess : Cond.code yX11_isLess cX11_isLess 1 (some .boolean) ∈ WT := mem_T7 (i := 104) rfl rfl
theorem qk_yX11_isStubborn : Cond.code yX11_isStubborn cX11_isStubborn 1 (some .boolean) ∈ WT := mem_T7 (i := 108) rfl rfl
theorem qk_yX11_isPrice : Cond.code yX11_isPrice cX11_isPrice 1 (some .boolean) ∈ WT := mem_T7 (i := 114) rfl rfl
theorem qk_yX11_isSways : Cond.code yX11_isSways cX11_isSways 1 (some .boolean) ∈ WT := mem_T7 (i := 118) rfl rfl
theorem qk_yX11_isProof : Cond.code yX11_isProof cX11_isProof 1 (some .boolean) ∈ WT := mem_T7 (i := 122) rfl rfl
theorem qk_yX11_isFollows : Cond.code yX11_isFollows cX11_isFollows 1 (some .boolean) ∈ WT := mem_T7 (i := 126) rfl rfl
theorem qk_yX11_isGuilty : Cond.code yX11_isGuilty cX11_isGuilty 1 (some .boolean) ∈ WT := mem_T7 (i := 131) rfl rfl
theorem qk_yX11_isFree : Cond.code yX11_isFree cX11_isFree 1 (some .boolean) ∈ WT := mem_T7 (i := 135) rfl rfl
theorem qk_yX11_isOn : Cond.code yX11_isOn cX11_isOn 1 (some .boolean) ∈ WT := mem_T7 (i := 139) rfl rfl
theorem qk_yX11_isHunger : Cond.code yX11_isHunger cX11_isHunger 1 (some .boolean) ∈ WT := mem_T7 (i := 143) rfl rfl
theorem qk_yX11_isLaw : Cond.code yX11_isLaw cX11_isLaw 1 (some .boolean) ∈ WT := mem_T7 (i := 147) rfl rfl
theorem qk_yX11_lawWord : Cond.code yX11_lawWord cX11_lawWord 1 (some .int) ∈ WT := mem_T7 (i := 151) rfl rfl
theorem qk_yX11_stepWord : Cond.code yX11_stepWord cX11_stepWord 1 (some .int) ∈ WT := mem_T7 (i := 155) rfl rfl
theorem qk_yX11_testWord : Cond.code yX11_testWord cX11_testWord 1 (some .int) ∈ WT := mem_T7 (i := 160) rfl rfl
theorem qk_yX11_isWeather : Cond.code yX11_isWeather cX11_isWeather 1 (some .boolean) ∈ WT := mem_T7 (i := 164) rfl rfl
theorem qk_yX11_isCrop : Cond.code yX11_isCrop cX11_isCrop 1 (some .boolean) ∈ WT := mem_T7 (i := 168) rfl rfl
theorem qk_yX11_isEnd : Cond.code yX11_isEnd cX11_isEnd 1 (some .boolean) ∈ WT := mem_T7 (i := 172) rfl rfl
theorem qk_yX11_wrong : Cond.code yX11_wrong cX11_wrong 1 none ∈ WT := mem_T7 (i := 176) rfl rfl
theorem qk_yX11_named : Cond.code yX11_named cX11_named 4 (some .int) ∈ WT := mem_T7 (i := 180) rfl rfl
theorem qk_yX11_fromOf : Cond.code yX11_fromOf cX11_fromOf 1 (some .int) ∈ WT := mem_T7 (i := 183) rfl rfl
theorem qk_yX11_signed : Cond.code yX11_signed cX11_signed 4 (some .int) ∈ WT := mem_T7 (i := 187) rfl rfl
theorem qk_yX11_count : Cond.code yX11_count cX11_count 4 (some .int) ∈ WT := mem_T7 (i := 191) rfl rfl
theorem qk_yX11_isIn : Cond.code yX11_isIn cX11_isIn 6 (some .boolean) ∈ WT := mem_T7 (i := 194) rfl rfl
theorem qk_yX11_readSways : Cond.code yX11_readSways cX11_readSways 4 none ∈ WT := mem_T7 (i := 198) rfl rfl
theorem qk_yX11_readTold : Cond.code yX11_readTold cX11_readTold 4 (some .int) ∈ WT := mem_T7 (i := 202) rfl rfl
theorem qk_yX11_told : Cond.code yX11_told cX11_told 4 (some .int) ∈ WT := mem_T7 (i := 206) rfl rfl
theorem qk_yX11_must : Cond.code yX11_must cX11_must 2 none ∈ WT := mem_T7 (i := 211) rfl rfl
theorem qk_yX11_readProof : Cond.code yX11_readProof cX11_readProof 2 none ∈ WT := mem_T7 (i := 215) rfl rfl
theorem qk_yX11_readWeather : Cond.code yX11_readWeather cX11_readWeather 2 none ∈ WT := mem_T7 (i := 219) rfl rfl
theorem qk_yX11_readFollows : Cond.code yX11_readFollows cX11_readFollows 4 none ∈ WT := mem_T7 (i := 223) rfl rfl
theorem qk_yX11_readCrop : Cond.code yX11_readCrop cX11_readCrop 4 none ∈ WT := mem_T7 (i := 227) rfl rfl
theorem qk_yX11_readHunger : Cond.code yX11_readHunger cX11_readHunger 1 none ∈ WT := mem_T7 (i := 231) rfl rfl
theorem qk_yX11_readLaw : Cond.code yX11_readLaw cX11_readLaw 1 none ∈ WT := mem_T7 (i := 235) rfl rfl
theorem qk_yX11_isSign : Cond.code yX11_isSign cX11_isSign 2 (some .boolean) ∈ WT := mem_T7 (i := 239) rfl rfl
theorem qk_yX11_isWell : Cond.code yX11_isWell cX11_isWell 1 (some .boolean) ∈ WT := mem_T8 (i := 3) rfl rfl
theorem qk_yX11_copy : Cond.code yX11_copy cX11_copy 4 none ∈ WT := mem_T8 (i := 7) rfl rfl
theorem qk_yX11_weeks : Cond.code yX11_weeks cX11_weeks 3 (some .int) ∈ WT := mem_T8 (i := 11) rfl rfl
theorem qk_yX11_readStep : Cond.code yX11_readStep cX11_readStep 5 none ∈ WT := mem_T8 (i := 15) rfl rfl
theorem qk_yX11_readRest : Cond.code yX11_readRest cX11_readRest 3 none ∈ WT := mem_T8 (i := 19) rfl rfl
theorem qk_yX11_readTest : Cond.code yX11_readTest cX11_readTest 3 none ∈ WT := mem_T8 (i := 23) rfl rfl
theorem qk_yX11_many : Cond.code yX11_many cX11_many 2 (some .int) ∈ WT := mem_T8 (i := 27) rfl rfl
theorem qk_yX11_refuse : Cond.code yX11_refuse cX11_refuse 2 (some .int) ∈ WT := mem_T8 (i := 32) rfl rfl
theorem qk_yX11_juror : Cond.code yX11_juror cX11_juror 3 (some .int) ∈ WT := mem_T8 (i := 36) rfl rfl
theorem qk_yX11_isJurorAt : Cond.code yX11_isJurorAt cX11_isJurorAt 2 (some .boolean) ∈ WT := mem_T8 (i := 40) rfl rfl
theorem qk_yX11_sways : Cond.code yX11_sways cX11_sways 3 (some .int) ∈ WT := mem_T8 (i := 45) rfl rfl
theorem qk_yX11_proof : Cond.code yX11_proof cX11_proof 2 (some .int) ∈ WT := mem_T8 (i := 49) rfl rfl
theorem qk_yX11_follows : Cond.code yX11_follows cX11_follows 3 (some .int) ∈ WT := mem_T8 (i := 53) rfl rfl
theorem qk_yX11_isWeatherAt : Cond.code yX11_isWeatherAt cX11_isWeatherAt 2 (some .boolean) ∈ WT := mem_T8 (i := 57) rfl rfl
theorem qk_yX11_behindOf : Cond.code yX11_behindOf cX11_behindOf 3 (some .int) ∈ WT := mem_T8 (i := 61) rfl rfl
theorem qk_yX11_grows : Cond.code yX11_grows cX11_grows 3 (some .int) ∈ WT := mem_T8 (i := 65) rfl rfl
theorem qk_yX11_isCropAt : Cond.code yX11_isCropAt cX11_isCropAt 2 (some .boolean) ∈ WT := mem_T8 (i := 69) rfl rfl
theorem qk_yX11_growsOn : Cond.code yX11_growsOn cX11_growsOn 3 (some .int) ∈ WT := mem_T8 (i := 73) rfl rfl
theorem qk_yX11_crop : Cond.code yX11_crop cX11_crop 2 (some .int) ∈ WT := mem_T8 (i := 77) rfl rfl
theorem qk_yX11_copyLeanings : Cond.code yX11_copyLeanings cX11_copyLeanings 3 (some .int) ∈ WT := mem_T8 (i := 81) rfl rfl
theorem qk_yX11_isTray : Cond.code yX11_isTray cX11_isTray 2 (some .boolean) ∈ WT := mem_T8 (i := 85) rfl rfl
theorem qk_yX11_show : Cond.code yX11_show cX11_show 2 (some .int) ∈ WT := mem_T8 (i := 89) rfl rfl
theorem qk_yX11_has : Cond.code yX11_has cX11_has 2 (some .boolean) ∈ WT := mem_T8 (i := 92) rfl rfl
theorem qk_yX11_showsOne : Cond.code yX11_showsOne cX11_showsOne 6 (some .int) ∈ WT := mem_T8 (i := 96) rfl rfl
theorem qk_yX11_isSeated : Cond.code yX11_isSeated cX11_isSeated 2 (some .boolean) ∈ WT := mem_T8 (i := 100) rfl rfl
theorem qk_yX11_cut_ : Cond.code yX11_cut_ cX11_cut_ 1 (some .int) ∈ WT := mem_T8 (i := 104) rfl rfl
theorem qk_yX11_talk : Cond.code yX11_talk cX11_talk 2 (some .int) ∈ WT := mem_T8 (i := 109) rfl rfl
theorem qk_yX11_talksFor : Cond.code yX11_talksFor cX11_talksFor 3 none ∈ WT := mem_T8 (i := 114) rfl rfl
theorem qk_yX11_talks : Cond.code yX11_talks cX11_talks 5 none ∈ WT := mem_T8 (i := 118) rfl rfl
theorem qk_yX11_pulled : Cond.code yX11_pulled cX11_pulled 4 (some .int) ∈ WT := mem_T8 (i := 122) rfl rfl
theorem qk_yX11_votesFor : Cond.code yX11_votesFor cX11_votesFor 4 (some .int) ∈ WT := mem_T8 (i := 126) rfl rfl
theorem qk_yX11_judged : Cond.code yX11_judged cX11_judged 1 (some .int) ∈ WT := mem_T8 (i := 130) rfl rfl
theorem qk_yX11_judge : Cond.code yX11_judge cX11_judge 4 (some .int) ∈ WT := mem_T8 (i := 133) rfl rfl
theorem qk_yX11_endDay : Cond.code yX11_endDay cX11_endDay 1 (some .int) ∈ WT := mem_T8 (i := 137) rfl rfl
theorem qk_yX11_endsDay : Cond.code yX11_endsDay cX11_endsDay 3 (some .int) ∈ WT := mem_T8 (i := 141) rfl rfl
theorem qk_yX11_strike : Cond.code yX11_strike cX11_strike 2 (some .boolean) ∈ WT := mem_T8 (i := 145) rfl rfl
theorem qk_yX11_strikesOne : Cond.code yX11_strikesOne cX11_strikesOne 2 (some .boolean) ∈ WT := mem_T8 (i := 149) rfl rfl
theorem qk_yX11_seat : Cond.code yX11_seat cX11_seat 2 (some .boolean) ∈ WT := mem_T8 (i := 153) rfl rfl
theorem qk_yX11_seatsOne : Cond.code yX11_seatsOne cX11_seatsOne 2 (some .boolean) ∈ WT := mem_T8 (i := 157) rfl rfl
theorem qk_yX11_bribe : Cond.code yX11_bribe cX11_bribe 4 (some .int) ∈ WT := mem_T8 (i := 161) rfl rfl
theorem qk_yX11_bribesOne : Cond.code yX11_bribesOne cX11_bribesOne 3 (some .int) ∈ WT := mem_T8 (i := 165) rfl rfl
theorem qk_yX11_lean : Cond.code yX11_lean cX11_lean 3 (some .boolean) ∈ WT := mem_T8 (i := 169) rfl rfl
theorem qk_yX11_votes : Cond.code yX11_votes cX11_votes 2 (some .int) ∈ WT := mem_T8 (i := 174) rfl rfl
theorem qk_yX11_verdict : Cond.code yX11_verdict cX11_verdict 1 (some .int) ∈ WT := mem_T8 (i := 178) rfl rfl
theorem qk_yX11_verdictBy : Cond.code yX11_verdictBy cX11_verdictBy 2 (some .int) ∈ WT := mem_T8 (i := 182) rfl rfl
theorem qk_yX11_swing : Cond.code yX11_swing cX11_swing 4 (some .int) ∈ WT := mem_T8 (i := 187) rfl rfl
theorem qk_yX11_lacks : Cond.code yX11_lacks cX11_lacks 4 (some .int) ∈ WT := mem_T8 (i := 191) rfl rfl
theorem qk_yX11_nearest : Cond.code yX11_nearest cX11_nearest 3 (some .int) ∈ WT := mem_T8 (i := 195) rfl rfl
theorem qk_yX11_farFrom : Cond.code yX11_farFrom cX11_farFrom 2 (some .int) ∈ WT := mem_T8 (i := 199) rfl rfl
theorem qk_yX11_pull : Cond.code yX11_pull cX11_pull 2 (some .int) ∈ WT := mem_T8 (i := 203) rfl rfl
theorem qk_yX11_behind : Cond.code yX11_behind cX11_behind 6 (some .int) ∈ WT := mem_T8 (i := 207) rfl rfl
theorem qk_yX11_settles : Cond.code yX11_settles cX11_settles 5 (some .int) ∈ WT := mem_T8 (i := 211) rfl rfl
theorem qk_yX11_keeps : Cond.code yX11_keeps cX11_keeps 2 none ∈ WT := mem_T8 (i := 215) rfl rfl
theorem qk_yX11_cameBefore : Cond.code yX11_cameBefore cX11_cameBefore 5 (some .int) ∈ WT := mem_T8 (i := 219) rfl rfl
theorem qk_yX11_gives : Cond.code yX11_gives cX11_gives 2 none ∈ WT := mem_T8 (i := 223) rfl rfl
theorem qk_yX11_after : Cond.code yX11_after cX11_after 3 (some .int) ∈ WT := mem_T8 (i := 227) rfl rfl
theorem qk_yX11_soonest : Cond.code yX11_soonest cX11_soonest 3 (some .int) ∈ WT := mem_T8 (i := 232) rfl rfl
theorem qk_yX11_isVerdict : Cond.code yX11_isVerdict cX11_isVerdict 2 (some .boolean) ∈ WT := mem_T8 (i := 235) rfl rfl
theorem qk_yX11_bestOrder : Cond.code yX11_bestOrder cX11_bestOrder 4 (some .int) ∈ WT := mem_T8 (i := 239) rfl rfl
theorem qk_yX11_orders : Cond.code yX11_orders cX11_orders 7 (some .boolean) ∈ WT := mem_T9 (i := 3) rfl rfl
theorem qk_yX11_orderAt : Cond.code yX11_orderAt cX11_orderAt 2 (some .int) ∈ WT := mem_T9 (i := 7) rfl rfl
theorem qk_yX11_bribes : Cond.code yX11_bribes cX11_bribes 9 (some .int) ∈ WT := mem_T9 (i := 11) rfl rfl
theorem qk_yX11_bribeSet : Cond.code yX11_bribeSet cX11_bribeSet 1 (some .int) ∈ WT := mem_T9 (i := 16) rfl rfl
theorem qk_yX11_strikes : Cond.code yX11_strikes cX11_strikes 2 (some .int) ∈ WT := mem_T9 (i := 20) rfl rfl
theorem qk_yX11_whyNoStrikes : Cond.code yX11_whyNoStrikes cX11_whyNoStrikes 2 (some .int) ∈ WT := mem_T9 (i := 24) rfl rfl
theorem qk_yX11_sizeOf : Cond.code yX11_sizeOf cX11_sizeOf 3 (some .int) ∈ WT := mem_T9 (i := 27) rfl rfl
theorem qk_yX11_plays : Cond.code yX11_plays cX11_plays 7 (some .int) ∈ WT := mem_T9 (i := 31) rfl rfl
theorem qk_yX11_firstStrike : Cond.code yX11_firstStrike cX11_firstStrike 2 (some .int) ∈ WT := mem_T9 (i := 35) rfl rfl
theorem qk_yX11_drawn : Cond.code yX11_drawn cX11_drawn 10 (some .boolean) ∈ WT := mem_T9 (i := 39) rfl rfl
theorem qk_yX11_fraction : Cond.code yX11_fraction cX11_fraction 11 (some .boolean) ∈ WT := mem_T9 (i := 43) rfl rfl
theorem qk_yX11_row : Cond.code yX11_row cX11_row 3 (some .int) ∈ WT := mem_T9 (i := 48) rfl rfl
theorem qk_yX11_goesRow : Cond.code yX11_goesRow cX11_goesRow 4 (some .int) ∈ WT := mem_T9 (i := 52) rfl rfl
theorem qk_yX11_numberOf : Cond.code yX11_numberOf cX11_numberOf 3 (some .long) ∈ WT := mem_T9 (i := 57) rfl rfl
theorem qk_yX11_growsRow : Cond.code yX11_growsRow cX11_growsRow 6 (some .int) ∈ WT := mem_T9 (i := 61) rfl rfl
theorem qk_yX11_rowGrows : Cond.code yX11_rowGrows cX11_rowGrows 4 (some .int) ∈ WT := mem_T9 (i := 65) rfl rfl
theorem qk_yX11_way : Cond.code yX11_way cX11_way 4 (some .int) ∈ WT := mem_T9 (i := 69) rfl rfl
theorem qk_yX11_behindSet : Cond.code yX11_behindSet cX11_behindSet 4 (some .int) ∈ WT := mem_T9 (i := 73) rfl rfl
theorem qk_yX11_reach : Cond.code yX11_reach cX11_reach 3 (some .int) ∈ WT := mem_T9 (i := 77) rfl rfl
theorem qk_yX11_harvest : Cond.code yX11_harvest cX11_harvest 3 (some .int) ∈ WT := mem_T9 (i := 81) rfl rfl
theorem qk_yX11_whyNoHarvest : Cond.code yX11_whyNoHarvest cX11_whyNoHarvest 3 (some .int) ∈ WT := mem_T9 (i := 85) rfl rfl
theorem qk_yX11_harvests : Cond.code yX11_harvests cX11_harvests 7 none ∈ WT := mem_T9 (i := 89) rfl rfl
theorem qk_yX11_harvestNow : Cond.code yX11_harvestNow cX11_harvestNow 5 (some .int) ∈ WT := mem_T9 (i := 93) rfl rfl
theorem qk_yX11_live : Cond.code yX11_live cX11_live 2 (some .int) ∈ WT := mem_T9 (i := 97) rfl rfl
theorem qk_yX11_runs : Cond.code yX11_runs cX11_runs 2 none ∈ WT := mem_T9 (i := 102) rfl rfl
theorem qk_yX11_doAll : Cond.code yX11_doAll cX11_doAll 4 none ∈ WT := mem_T9 (i := 106) rfl rfl
theorem qk_yX11_doOne : Cond.code yX11_doOne cX11_doOne 5 none ∈ WT := mem_T9 (i := 110) rfl rfl
theorem qk_yX11_does : Cond.code yX11_does cX11_does 4 (some .boolean) ∈ WT := mem_T9 (i := 114) rfl rfl
theorem qk_yX11_dayEnds : Cond.code yX11_dayEnds cX11_dayEnds 2 (some .boolean) ∈ WT := mem_T9 (i := 118) rfl rfl
theorem qk_yX11_moods : Cond.code yX11_moods cX11_moods 2 none ∈ WT := mem_T9 (i := 122) rfl rfl
theorem qk_yX11_draw : Cond.code yX11_draw cX11_draw 2 (some .int) ∈ WT := mem_T9 (i := 126) rfl rfl
theorem qk_yX11_isSo : Cond.code yX11_isSo cX11_isSo 4 (some .boolean) ∈ WT := mem_T9 (i := 131) rfl rfl
theorem qk_yX11_lived : Cond.code yX11_lived cX11_lived 2 (some .int) ∈ WT := mem_T9 (i := 135) rfl rfl
theorem qk_yX11_mean : Cond.code yX11_mean cX11_mean 8 (some .boolean) ∈ WT := mem_T9 (i := 140) rfl rfl
theorem qk_yX11_mark : Cond.code yX11_mark cX11_mark 1 (some .int) ∈ WT := mem_T9 (i := 144) rfl rfl
theorem qk_yX11_back : Cond.code yX11_back cX11_back 1 (some .int) ∈ WT := mem_T9 (i := 148) rfl rfl
theorem qv_yJ0_length_8abf5 : Cond.selects RJ0 yJ0_length_8abf5 yJ0_length_8abf5 ∈ WT := mem_T2 (i := 18) rfl rfl
theorem qv_yJ0_coder_7d493 : Cond.selects RJ0 yJ0_coder_7d493 yJ0_coder_7d493 ∈ WT := mem_T2 (i := 22) rfl rfl
theorem qv_yJ0_charAt_5068e : Cond.selects RJ0 yJ0_charAt_5068e yJ0_charAt_5068e ∈ WT := mem_T2 (i := 28) rfl rfl
theorem qv_yJ0_isLatin1_aae02 : Cond.selects RJ0 yJ0_isLatin1_aae02 yJ0_isLatin1_aae02 ∈ WT := mem_T2 (i := 32) rfl rfl
theorem qv_yX10_status : Cond.selects RX10 yX10_status yX10_status ∈ WT := mem_T3 (i := 45) rfl rfl
theorem qv_yX10_top : Cond.selects RX10 yX10_top yX10_top ∈ WT := mem_T3 (i := 49) rfl rfl
theorem qv_yX10_bottom : Cond.selects RX10 yX10_bottom yX10_bottom ∈ WT := mem_T3 (i := 53) rfl rfl
theorem qv_yX10_tray : Cond.selects RX10 yX10_tray yX10_tray ∈ WT := mem_T3 (i := 57) rfl rfl
theorem qv_yX6_lay : Cond.selects RX6 yX6_lay yX6_lay ∈ WT := mem_T3 (i := 68) rfl rfl
theorem qv_yX10_write : Cond.selects RX10 yX10_write yX10_write ∈ WT := mem_T3 (i := 76) rfl rfl
theorem qv_yX6_isMissing : Cond.selects RX6 yX6_isMissing yX6_isMissing ∈ WT := mem_T3 (i := 88) rfl rfl
theorem qv_yX6_holds : Cond.selects RX6 yX6_holds yX6_holds ∈ WT := mem_T3 (i := 92) rfl rfl
theorem qv_yX6_put : Cond.selects RX6 yX6_put yX6_put ∈ WT := mem_T3 (i := 96) rfl rfl
theorem qv_yX10_read : Cond.selects RX10 yX10_read yX10_read ∈ WT := mem_T3 (i := 100) rfl rfl
theorem qv_yX10_pour : Cond.selects RX10 yX10_pour yX10_pour ∈ WT := mem_T3 (i := 108) rfl rfl
theorem qv_yX10_feed : Cond.selects RX10 yX10_feed yX10_feed ∈ WT := mem_T3 (i := 115) rfl rfl
theorem qv_yX5_hasRoom : Cond.selects RX5 yX5_hasRoom yX5_hasRoom ∈ WT := mem_T3 (i := 119) rfl rfl
theorem qv_yX5_append : Cond.selects RX5 yX5_append yX5_append ∈ WT := mem_T3 (i := 123) rfl rfl
theorem qv_yX10_court : Cond.selects RX10 yX10_court yX10_court ∈ WT := mem_T3 (i := 127) rfl rfl
theorem qv_yX2_readCourt : Cond.selects RX2 yX2_readCourt yX2_readCourt ∈ WT := mem_T3 (i := 131) rfl rfl
theorem qv_yX1_clear : Cond.selects RX1 yX1_clear yX1_clear ∈ WT := mem_T3 (i := 135) rfl rfl
theorem qv_yX5_begin : Cond.selects RX5 yX5_begin yX5_begin ∈ WT := mem_T3 (i := 139) rfl rfl
theorem qv_yX5_advance : Cond.selects RX5 yX5_advance yX5_advance ∈ WT := mem_T3 (i := 143) rfl rfl
theorem qv_yX5_word : Cond.selects RX5 yX5_word yX5_word ∈ WT := mem_T3 (i := 163) rfl rfl
theorem qv_yX1_isFull : Cond.selects RX1 yX1_isFull yX1_isFull ∈ WT := mem_T3 (i := 171) rfl rfl
theorem qv_yX5_fail : Cond.selects RX5 yX5_fail yX5_fail ∈ WT := mem_T3 (i := 177) rfl rfl
theorem qv_yX5_isName : Cond.selects RX5 yX5_isName yX5_isName ∈ WT := mem_T3 (i := 182) rfl rfl
theorem qv_yX1_isTaken : Cond.selects RX1 yX1_isTaken yX1_isTaken ∈ WT := mem_T3 (i := 186) rfl rfl
theorem qv_yX1_find : Cond.selects RX1 yX1_find yX1_find ∈ WT := mem_T3 (i := 190) rfl rfl
theorem qv_yX1_addThing : Cond.selects RX1 yX1_addThing yX1_addThing ∈ WT := mem_T3 (i := 194) rfl rfl
theorem qv_yX5_takeWord : Cond.selects RX5 yX5_takeWord yX5_takeWord ∈ WT := mem_T3 (i := 202) rfl rfl
theorem qv_yX5_needEither : Cond.selects RX5 yX5_needEither yX5_needEither ∈ WT := mem_T3 (i := 207) rfl rfl
theorem qv_yX5_needNumber : Cond.selects RX5 yX5_needNumber yX5_needNumber ∈ WT := mem_T3 (i := 212) rfl rfl
theorem qv_yX5_needKnown : Cond.selects RX5 yX5_needKnown yX5_needKnown ∈ WT := mem_T3 (i := 222) rfl rfl
theorem qv_yX5_seeKnown : Cond.selects RX5 yX5_seeKnown yX5_seeKnown ∈ WT := mem_T3 (i := 226) rfl rfl
theorem qv_yX1_setSway : Cond.selects RX1 yX1_setSway yX1_setSway ∈ WT := mem_T3 (i := 233) rfl rfl
theorem qv_yX5_needWord : Cond.selects RX5 yX5_needWord yX5_needWord ∈ WT := mem_T4 (i := 9) rfl rfl
theorem qv_yX1_setGrowth : Cond.selects RX1 yX1_setGrowth yX1_setGrowth ∈ WT := mem_T4 (i := 17) rfl rfl
theorem qv_yX5_needStop : Cond.selects RX5 yX5_needStop yX5_needStop ∈ WT := mem_T4 (i := 29) rfl rfl
theorem qv_yX1_copyFrom : Cond.selects RX1 yX1_copyFrom yX1_copyFrom ∈ WT := mem_T4 (i := 37) rfl rfl
theorem qv_yX3_openCourt : Cond.selects RX3 yX3_openCourt yX3_openCourt ∈ WT := mem_T4 (i := 42) rfl rfl
theorem qv_yX3_openDay : Cond.selects RX3 yX3_openDay yX3_openDay ∈ WT := mem_T4 (i := 46) rfl rfl
theorem qv_yX7_clear : Cond.selects RX7 yX7_clear yX7_clear ∈ WT := mem_T4 (i := 50) rfl rfl
theorem qv_yX10_weeks : Cond.selects RX10 yX10_weeks yX10_weeks ∈ WT := mem_T4 (i := 58) rfl rfl
theorem qv_yX8_readWeeks : Cond.selects RX8 yX8_readWeeks yX8_readWeeks ∈ WT := mem_T4 (i := 62) rfl rfl
theorem qv_yX7_addRow : Cond.selects RX7 yX7_addRow yX7_addRow ∈ WT := mem_T4 (i := 74) rfl rfl
theorem qv_yX5_needCompares : Cond.selects RX5 yX5_needCompares yX5_needCompares ∈ WT := mem_T4 (i := 91) rfl rfl
theorem qv_yX7_copyFrom : Cond.selects RX7 yX7_copyFrom yX7_copyFrom ∈ WT := mem_T4 (i := 98) rfl rfl
theorem qv_yX10_fault : Cond.selects RX10 yX10_fault yX10_fault ∈ WT := mem_T4 (i := 103) rfl rfl
theorem qv_yX10_many : Cond.selects RX10 yX10_many yX10_many ∈ WT := mem_T4 (i := 107) rfl rfl
theorem qv_yX10_juror : Cond.selects RX10 yX10_juror yX10_juror ∈ WT := mem_T4 (i := 115) rfl rfl
theorem qv_yX10_sways : Cond.selects RX10 yX10_sways yX10_sways ∈ WT := mem_T4 (i := 123) rfl rfl
theorem qv_yX1_swayOf : Cond.selects RX1 yX1_swayOf yX1_swayOf ∈ WT := mem_T4 (i := 127) rfl rfl
theorem qv_yX10_proof : Cond.selects RX10 yX10_proof yX10_proof ∈ WT := mem_T4 (i := 131) rfl rfl
theorem qv_yX10_follows : Cond.selects RX10 yX10_follows yX10_follows ∈ WT := mem_T4 (i := 135) rfl rfl
theorem qv_yX1_weatherBehind : Cond.selects RX1 yX1_weatherBehind yX1_weatherBehind ∈ WT := mem_T4 (i := 143) rfl rfl
theorem qv_yX10_grows : Cond.selects RX10 yX10_grows yX10_grows ∈ WT := mem_T4 (i := 147) rfl rfl
theorem qv_yX1_growthOf : Cond.selects RX1 yX1_growthOf yX1_growthOf ∈ WT := mem_T4 (i := 151) rfl rfl
theorem qv_yX10_crop : Cond.selects RX10 yX10_crop yX10_crop ∈ WT := mem_T4 (i := 155) rfl rfl
theorem qv_yX10_copyLeanings : Cond.selects RX10 yX10_copyLeanings yX10_copyLeanings ∈ WT := mem_T4 (i := 159) rfl rfl
theorem qv_yX10_show : Cond.selects RX10 yX10_show yX10_show ∈ WT := mem_T4 (i := 167) rfl rfl
theorem qv_yX3_wasShown : Cond.selects RX3 yX3_wasShown yX3_wasShown ∈ WT := mem_T4 (i := 171) rfl rfl
theorem qv_yX3_present : Cond.selects RX3 yX3_present yX3_present ∈ WT := mem_T4 (i := 175) rfl rfl
theorem qv_yX3_isSeated : Cond.selects RX3 yX3_isSeated yX3_isSeated ∈ WT := mem_T4 (i := 179) rfl rfl
theorem qv_yX3_shift : Cond.selects RX3 yX3_shift yX3_shift ∈ WT := mem_T4 (i := 189) rfl rfl
theorem qv_yX10_talk : Cond.selects RX10 yX10_talk yX10_talk ∈ WT := mem_T4 (i := 193) rfl rfl
theorem qv_yX3_talkOn : Cond.selects RX3 yX3_talkOn yX3_talkOn ∈ WT := mem_T4 (i := 197) rfl rfl
theorem qv_yX3_talkRound : Cond.selects RX3 yX3_talkRound yX3_talkRound ∈ WT := mem_T4 (i := 201) rfl rfl
theorem qv_yX3_pullOn : Cond.selects RX3 yX3_pullOn yX3_pullOn ∈ WT := mem_T4 (i := 205) rfl rfl
theorem qv_yX3_guiltyVotes : Cond.selects RX3 yX3_guiltyVotes yX3_guiltyVotes ∈ WT := mem_T4 (i := 213) rfl rfl
theorem qv_yX3_seatedCount : Cond.selects RX3 yX3_seatedCount yX3_seatedCount ∈ WT := mem_T4 (i := 217) rfl rfl
theorem qv_yX3_ruling : Cond.selects RX3 yX3_ruling yX3_ruling ∈ WT := mem_T4 (i := 230) rfl rfl
theorem qv_yX10_endDay : Cond.selects RX10 yX10_endDay yX10_endDay ∈ WT := mem_T4 (i := 237) rfl rfl
theorem qv_yX3_closeDay : Cond.selects RX3 yX3_closeDay yX3_closeDay ∈ WT := mem_T5 (i := 1) rfl rfl
theorem qv_yX10_strike : Cond.selects RX10 yX10_strike yX10_strike ∈ WT := mem_T5 (i := 8) rfl rfl
theorem qv_yX3_unseat : Cond.selects RX3 yX3_unseat yX3_unseat ∈ WT := mem_T5 (i := 13) rfl rfl
theorem qv_yX10_seat : Cond.selects RX10 yX10_seat yX10_seat ∈ WT := mem_T5 (i := 17) rfl rfl
theorem qv_yX3_reseat : Cond.selects RX3 yX3_reseat yX3_reseat ∈ WT := mem_T5 (i := 21) rfl rfl
theorem qv_yX10_bribe : Cond.selects RX10 yX10_bribe yX10_bribe ∈ WT := mem_T5 (i := 25) rfl rfl
theorem qv_yX3_canPay : Cond.selects RX3 yX3_canPay yX3_canPay ∈ WT := mem_T5 (i := 32) rfl rfl
theorem qv_yX3_buy : Cond.selects RX3 yX3_buy yX3_buy ∈ WT := mem_T5 (i := 36) rfl rfl
theorem qv_yX10_lean : Cond.selects RX10 yX10_lean yX10_lean ∈ WT := mem_T5 (i := 40) rfl rfl
theorem qv_yX10_votes : Cond.selects RX10 yX10_votes yX10_votes ∈ WT := mem_T5 (i := 44) rfl rfl
theorem qv_yX10_verdict : Cond.selects RX10 yX10_verdict yX10_verdict ∈ WT := mem_T5 (i := 50) rfl rfl
theorem qv_yX10_verdictBy : Cond.selects RX10 yX10_verdictBy yX10_verdictBy ∈ WT := mem_T5 (i := 54) rfl rfl
theorem qv_yX10_swing : Cond.selects RX10 yX10_swing yX10_swing ∈ WT := mem_T5 (i := 58) rfl rfl
theorem qv_yX10_lacks : Cond.selects RX10 yX10_lacks yX10_lacks ∈ WT := mem_T5 (i := 63) rfl rfl
theorem qv_yX10_nearest : Cond.selects RX10 yX10_nearest yX10_nearest ∈ WT := mem_T5 (i := 67) rfl rfl
theorem qv_yX10_pull : Cond.selects RX10 yX10_pull yX10_pull ∈ WT := mem_T5 (i := 71) rfl rfl
theorem qv_yX3_copyFrom : Cond.selects RX3 yX3_copyFrom yX3_copyFrom ∈ WT := mem_T5 (i := 75) rfl rfl
theorem qv_yX10_behind : Cond.selects RX10 yX10_behind yX10_behind ∈ WT := mem_T5 (i := 82) rfl rfl
theorem qv_yX1_allBehind : Cond.selects RX1 yX1_allBehind yX1_allBehind ∈ WT := mem_T5 (i := 86) rfl rfl
theorem qv_yX10_settles : Cond.selects RX10 yX10_settles yX10_settles ∈ WT := mem_T5 (i := 90) rfl rfl
theorem qv_yX0_settle : Cond.selects RX0 yX0_settle yX0_settle ∈ WT := mem_T5 (i := 94) rfl rfl
theorem qv_yX10_after : Cond.selects RX10 yX10_after yX10_after ∈ WT := mem_T5 (i := 104) rfl rfl
theorem qv_yX10_soonest : Cond.selects RX10 yX10_soonest yX10_soonest ∈ WT := mem_T5 (i := 108) rfl rfl
theorem qv_yX10_bestOrder : Cond.selects RX10 yX10_bestOrder yX10_bestOrder ∈ WT := mem_T5 (i := 112) rfl rfl
theorem qv_yX0_findOrder : Cond.selects RX0 yX0_findOrder yX0_findOrder ∈ WT := mem_T5 (i := 116) rfl rfl
theorem qv_yX10_orderAt : Cond.selects RX10 yX10_orderAt yX10_orderAt ∈ WT := mem_T5 (i := 129) rfl rfl
theorem qv_yX10_bribes : Cond.selects RX10 yX10_bribes yX10_bribes ∈ WT := mem_T5 (i := 133) rfl rfl
theorem qv_yX1_priceOf : Cond.selects RX1 yX1_priceOf yX1_priceOf ∈ WT := mem_T5 (i := 144) rfl rfl
theorem qv_yX10_bribeSet : Cond.selects RX10 yX10_bribeSet yX10_bribeSet ∈ WT := mem_T5 (i := 152) rfl rfl
theorem qv_yX10_strikes : Cond.selects RX10 yX10_strikes yX10_strikes ∈ WT := mem_T5 (i := 156) rfl rfl
theorem qv_yX10_firstStrike : Cond.selects RX10 yX10_firstStrike yX10_firstStrike ∈ WT := mem_T5 (i := 171) rfl rfl
theorem qv_yX10_drawn : Cond.selects RX10 yX10_drawn yX10_drawn ∈ WT := mem_T5 (i := 179) rfl rfl
theorem qv_yX10_row : Cond.selects RX10 yX10_row yX10_row ∈ WT := mem_T5 (i := 195) rfl rfl
theorem qv_yX10_rowGrows : Cond.selects RX10 yX10_rowGrows yX10_rowGrows ∈ WT := mem_T5 (i := 203) rfl rfl
theorem qv_yX10_way : Cond.selects RX10 yX10_way yX10_way ∈ WT := mem_T5 (i := 207) rfl rfl
theorem qv_yX1_dayMore : Cond.selects RX1 yX1_dayMore yX1_dayMore ∈ WT := mem_T5 (i := 211) rfl rfl
theorem qv_yX10_harvest : Cond.selects RX10 yX10_harvest yX10_harvest ∈ WT := mem_T5 (i := 215) rfl rfl
theorem qv_yX0_reap : Cond.selects RX0 yX0_reap yX0_reap ∈ WT := mem_T5 (i := 223) rfl rfl
theorem qv_yX10_harvestNow : Cond.selects RX10 yX10_harvestNow yX10_harvestNow ∈ WT := mem_T5 (i := 229) rfl rfl
theorem qv_yX0_bestVerdict : Cond.selects RX0 yX0_bestVerdict yX0_bestVerdict ∈ WT := mem_T5 (i := 233) rfl rfl
theorem qv_yX10_reach : Cond.selects RX10 yX10_reach yX10_reach ∈ WT := mem_T5 (i := 238) rfl rfl
theorem qv_yX10_live : Cond.selects RX10 yX10_live yX10_live ∈ WT := mem_T6 (i := 2) rfl rfl
theorem qv_yX4_run : Cond.selects RX4 yX4_run yX4_run ∈ WT := mem_T6 (i := 9) rfl rfl
theorem qv_yX10_lived : Cond.selects RX10 yX10_lived yX10_lived ∈ WT := mem_T6 (i := 56) rfl rfl
theorem qv_yX10_mean : Cond.selects RX10 yX10_mean yX10_mean ∈ WT := mem_T6 (i := 60) rfl rfl
theorem qv_yX10_mark : Cond.selects RX10 yX10_mark yX10_mark ∈ WT := mem_T6 (i := 64) rfl rfl
theorem qv_yX9_copyFrom : Cond.selects RX9 yX9_copyFrom yX9_copyFrom ∈ WT := mem_T6 (i := 68) rfl rfl
theorem qv_yX10_back : Cond.selects RX10 yX10_back yX10_back ∈ WT := mem_T6 (i := 75) rfl rfl
theorem qv_yX11_status : Cond.selects RX11 yX11_status yX11_status ∈ WT := mem_T6 (i := 224) rfl rfl
theorem qv_yX11_top : Cond.selects RX11 yX11_top yX11_top ∈ WT := mem_T6 (i := 228) rfl rfl
theorem qv_yX11_bottom : Cond.selects RX11 yX11_bottom yX11_bottom ∈ WT := mem_T6 (i := 232) rfl rfl
theorem qv_yX11_tray : Cond.selects RX11 yX11_tray yX11_tray ∈ WT := mem_T6 (i := 236) rfl rfl
theorem qv_yX11_write : Cond.selects RX11 yX11_write yX11_write ∈ WT := mem_T7 (i := 4) rfl rfl
theorem qv_yX11_read : Cond.selects RX11 yX11_read yX11_read ∈ WT := mem_T7 (i := 19) rfl rfl
theorem qv_yX11_pour : Cond.selects RX11 yX11_pour yX11_pour ∈ WT := mem_T7 (i := 24) rfl rfl
theorem qv_yX11_feed : Cond.selects RX11 yX11_feed yX11_feed ∈ WT := mem_T7 (i := 28) rfl rfl
theorem qv_yX11_fault : Cond.selects RX11 yX11_fault yX11_fault ∈ WT := mem_T7 (i := 36) rfl rfl
theorem qv_yX11_court : Cond.selects RX11 yX11_court yX11_court ∈ WT := mem_T7 (i := 40) rfl rfl
theorem qv_yX11_weeks : Cond.selects RX11 yX11_weeks yX11_weeks ∈ WT := mem_T8 (i := 10) rfl rfl
theorem qv_yX11_many : Cond.selects RX11 yX11_many yX11_many ∈ WT := mem_T8 (i := 26) rfl rfl
theorem qv_yX11_juror : Cond.selects RX11 yX11_juror yX11_juror ∈ WT := mem_T8 (i := 35) rfl rfl
theorem qv_yX11_sways : Cond.selects RX11 yX11_sways yX11_sways ∈ WT := mem_T8 (i := 44) rfl rfl
theorem qv_yX11_proof : Cond.selects RX11 yX11_proof yX11_proof ∈ WT := mem_T8 (i := 48) rfl rfl
theorem qv_yX11_follows : Cond.selects RX11 yX11_follows yX11_follows ∈ WT := mem_T8 (i := 52) rfl rfl
theorem qv_yX11_grows : Cond.selects RX11 yX11_grows yX11_grows ∈ WT := mem_T8 (i := 64) rfl rfl
theorem qv_yX11_crop : Cond.selects RX11 yX11_crop yX11_crop ∈ WT := mem_T8 (i := 76) rfl rfl
theorem qv_yX11_copyLeanings : Cond.selects RX11 yX11_copyLeanings yX11_copyLeanings ∈ WT := mem_T8 (i := 80) rfl rfl
theorem qv_yX11_show : Cond.selects RX11 yX11_show yX11_show ∈ WT := mem_T8 (i := 88) rfl rfl
theorem qv_yX11_talk : Cond.selects RX11 yX11_talk yX11_talk ∈ WT := mem_T8 (i := 108) rfl rfl
theorem qv_yX11_endDay : Cond.selects RX11 yX11_endDay yX11_endDay ∈ WT := mem_T8 (i := 136) rfl rfl
theorem qv_yX11_strike : Cond.selects RX11 yX11_strike yX11_strike ∈ WT := mem_T8 (i := 144) rfl rfl
theorem qv_yX11_seat : Cond.selects RX11 yX11_seat yX11_seat ∈ WT := mem_T8 (i := 152) rfl rfl
theorem qv_yX11_bribe : Cond.selects RX11 yX11_bribe yX11_bribe ∈ WT := mem_T8 (i := 160) rfl rfl
theorem qv_yX11_lean : Cond.selects RX11 yX11_lean yX11_lean ∈ WT := mem_T8 (i := 168) rfl rfl
theorem qv_yX11_votes : Cond.selects RX11 yX11_votes yX11_votes ∈ WT := mem_T8 (i := 173) rfl rfl
theorem qv_yX11_verdict : Cond.selects RX11 yX11_verdict yX11_verdict ∈ WT := mem_T8 (i := 177) rfl rfl
theorem qv_yX11_verdictBy : Cond.selects RX11 yX11_verdictBy yX11_verdictBy ∈ WT := mem_T8 (i := 181) rfl rfl
theorem qv_yX11_swing : Cond.selects RX11 yX11_swing yX11_swing ∈ WT := mem_T8 (i := 186) rfl rfl
theorem qv_yX11_lacks : Cond.selects RX11 yX11_lacks yX11_lacks ∈ WT := mem_T8 (i := 190) rfl rfl
theorem qv_yX11_nearest : Cond.selects RX11 yX11_nearest yX11_nearest ∈ WT := mem_T8 (i := 194) rfl rfl
theorem qv_yX11_pull : Cond.selects RX11 yX11_pull yX11_pull ∈ WT := mem_T8 (i := 202) rfl rfl
theorem qv_yX11_behind : Cond.selects RX11 yX11_behind yX11_behind ∈ WT := mem_T8 (i := 206) rfl rfl
theorem qv_yX11_settles : Cond.selects RX11 yX11_settles yX11_settles ∈ WT := mem_T8 (i := 210) rfl rfl
theorem qv_yX11_after : Cond.selects RX11 yX11_after yX11_after ∈ WT := mem_T8 (i := 226) rfl rfl
theorem qv_yX11_soonest : Cond.selects RX11 yX11_soonest yX11_soonest ∈ WT := mem_T8 (i := 231) rfl rfl
theorem qv_yX11_bestOrder : Cond.selects RX11 yX11_bestOrder yX11_bestOrder ∈ WT := mem_T8 (i := 238) rfl rfl
theorem qv_yX11_orderAt : Cond.selects RX11 yX11_orderAt yX11_orderAt ∈ WT := mem_T9 (i := 6) rfl rfl
theorem qv_yX11_bribes : Cond.selects RX11 yX11_bribes yX11_bribes ∈ WT := mem_T9 (i := 10) rfl rfl
theorem qv_yX11_bribeSet : Cond.selects RX11 yX11_bribeSet yX11_bribeSet ∈ WT := mem_T9 (i := 15) rfl rfl
theorem qv_yX11_strikes : Cond.selects RX11 yX11_strikes yX11_strikes ∈ WT := mem_T9 (i := 19) rfl rfl
theorem qv_yX11_firstStrike : Cond.selects RX11 yX11_firstStrike yX11_firstStrike ∈ WT := mem_T9 (i := 34) rfl rfl
theorem qv_yX11_drawn : Cond.selects RX11 yX11_drawn yX11_drawn ∈ WT := mem_T9 (i := 38) rfl rfl
theorem qv_yX11_row : Cond.selects RX11 yX11_row yX11_row ∈ WT := mem_T9 (i := 47) rfl rfl
theorem qv_yX11_rowGrows : Cond.selects RX11 yX11_rowGrows yX11_rowGrows ∈ WT := mem_T9 (i := 64) rfl rfl
theorem qv_yX11_way : Cond.selects RX11 yX11_way yX11_way ∈ WT := mem_T9 (i := 68) rfl rfl
theorem qv_yX11_reach : Cond.selects RX11 yX11_reach yX11_reach ∈ WT := mem_T9 (i := 76) rfl rfl
theorem qv_yX11_harvest : Cond.selects RX11 yX11_harvest yX11_harvest ∈ WT := mem_T9 (i := 80) rfl rfl
theorem qv_yX11_harvestNow : Cond.selects RX11 yX11_harvestNow yX11_harvestNow ∈ WT := mem_T9 (i := 92) rfl rfl
theorem qv_yX11_live : Cond.selects RX11 yX11_live yX11_live ∈ WT := mem_T9 (i := 96) rfl rfl
theorem qv_yX11_lived : Cond.selects RX11 yX11_lived yX11_lived ∈ WT := mem_T9 (i := 134) rfl rfl
theorem qv_yX11_mean : Cond.selects RX11 yX11_mean yX11_mean ∈ WT := mem_T9 (i := 139) rfl rfl
theorem qv_yX11_mark : Cond.selects RX11 yX11_mark yX11_mark ∈ WT := mem_T9 (i := 143) rfl rfl
theorem qv_yX11_back : Cond.selects RX11 yX11_back yX11_back ∈ WT := mem_T9 (i := 147) rfl rfl
theorem qv_yX10_refuse : Cond.selects RX10 yX10_refuse yX10_refuse ∈ WT := mem_T0 (i := 0) rfl rfl
theorem qv_yX10_agree : Cond.selects RX10 yX10_agree yX10_agree ∈ WT := mem_T0 (i := 1) rfl rfl
theorem qv_yX10_wrongPlace : Cond.selects RX10 yX10_wrongPlace yX10_wrongPlace ∈ WT := mem_T0 (i := 2) rfl rfl
theorem qv_yX10_wrongTray : Cond.selects RX10 yX10_wrongTray yX10_wrongTray ∈ WT := mem_T0 (i := 3) rfl rfl
theorem qv_yX10_none : Cond.selects RX10 yX10_none yX10_none ∈ WT := mem_T0 (i := 4) rfl rfl
theorem qv_yX5_lookAtWord : Cond.selects RX5 yX5_lookAtWord yX5_lookAtWord ∈ WT := mem_T0 (i := 5) rfl rfl
theorem qv_yX5_lookAtNumber : Cond.selects RX5 yX5_lookAtNumber yX5_lookAtNumber ∈ WT := mem_T0 (i := 6) rfl rfl
theorem qv_yX5_lookAtSign : Cond.selects RX5 yX5_lookAtSign yX5_lookAtSign ∈ WT := mem_T0 (i := 7) rfl rfl
theorem qv_yX2_readPart : Cond.selects RX2 yX2_readPart yX2_readPart ∈ WT := mem_T0 (i := 8) rfl rfl
theorem qv_yX2_needNew : Cond.selects RX2 yX2_needNew yX2_needNew ∈ WT := mem_T0 (i := 9) rfl rfl
theorem qv_yX2_readJuror : Cond.selects RX2 yX2_readJuror yX2_readJuror ∈ WT := mem_T0 (i := 10) rfl rfl
theorem qv_yX2_readSways : Cond.selects RX2 yX2_readSways yX2_readSways ∈ WT := mem_T0 (i := 11) rfl rfl
theorem qv_yX2_readProof : Cond.selects RX2 yX2_readProof yX2_readProof ∈ WT := mem_T0 (i := 12) rfl rfl
theorem qv_yX2_startWeather : Cond.selects RX2 yX2_startWeather yX2_startWeather ∈ WT := mem_T0 (i := 13) rfl rfl
theorem qv_yX2_readFollows : Cond.selects RX2 yX2_readFollows yX2_readFollows ∈ WT := mem_T0 (i := 14) rfl rfl
theorem qv_yX2_readCrop : Cond.selects RX2 yX2_readCrop yX2_readCrop ∈ WT := mem_T0 (i := 15) rfl rfl
theorem qv_yX2_readHunger : Cond.selects RX2 yX2_readHunger yX2_readHunger ∈ WT := mem_T0 (i := 16) rfl rfl
theorem qv_yX2_readLaw : Cond.selects RX2 yX2_readLaw yX2_readLaw ∈ WT := mem_T0 (i := 17) rfl rfl
theorem qv_yX10_keepFault : Cond.selects RX10 yX10_keepFault yX10_keepFault ∈ WT := mem_T0 (i := 18) rfl rfl
theorem qv_yX10_answer : Cond.selects RX10 yX10_answer yX10_answer ∈ WT := mem_T0 (i := 19) rfl rfl
theorem qv_yX8_closes : Cond.selects RX8 yX8_closes yX8_closes ∈ WT := mem_T0 (i := 20) rfl rfl
theorem qv_yX8_begins : Cond.selects RX8 yX8_begins yX8_begins ∈ WT := mem_T0 (i := 21) rfl rfl
theorem qv_yX10_hasNoWeather : Cond.selects RX10 yX10_hasNoWeather yX10_hasNoWeather ∈ WT := mem_T0 (i := 22) rfl rfl
theorem qv_yX10_isNo : Cond.selects RX10 yX10_isNo yX10_isNo ∈ WT := mem_T0 (i := 23) rfl rfl
theorem qv_yX10_wrongRow : Cond.selects RX10 yX10_wrongRow yX10_wrongRow ∈ WT := mem_T0 (i := 24) rfl rfl
theorem qv_yX3_goHungry : Cond.selects RX3 yX3_goHungry yX3_goHungry ∈ WT := mem_T0 (i := 25) rfl rfl
theorem qv_yX10_cheapestSet : Cond.selects RX10 yX10_cheapestSet yX10_cheapestSet ∈ WT := mem_T0 (i := 26) rfl rfl
theorem qv_yX10_wins : Cond.selects RX10 yX10_wins yX10_wins ∈ WT := mem_T0 (i := 27) rfl rfl
theorem qv_yX10_wrongStrikes : Cond.selects RX10 yX10_wrongStrikes yX10_wrongStrikes ∈ WT := mem_T0 (i := 28) rfl rfl
theorem qv_yX10_firstOfBest : Cond.selects RX10 yX10_firstOfBest yX10_firstOfBest ∈ WT := mem_T0 (i := 29) rfl rfl
theorem qv_yX10_tellFraction : Cond.selects RX10 yX10_tellFraction yX10_tellFraction ∈ WT := mem_T0 (i := 30) rfl rfl
theorem qv_yX10_wrongVerdicts : Cond.selects RX10 yX10_wrongVerdicts yX10_wrongVerdicts ∈ WT := mem_T0 (i := 31) rfl rfl
theorem qv_yX10_wrongHarvest : Cond.selects RX10 yX10_wrongHarvest yX10_wrongHarvest ∈ WT := mem_T0 (i := 32) rfl rfl
theorem qv_yX4_passEnd : Cond.selects RX4 yX4_passEnd yX4_passEnd ∈ WT := mem_T0 (i := 33) rfl rfl
theorem qv_yX4_turns : Cond.selects RX4 yX4_turns yX4_turns ∈ WT := mem_T0 (i := 34) rfl rfl
theorem qv_yX4_does : Cond.selects RX4 yX4_does yX4_does ∈ WT := mem_T0 (i := 35) rfl rfl
theorem qv_yX4_countDay : Cond.selects RX4 yX4_countDay yX4_countDay ∈ WT := mem_T0 (i := 36) rfl rfl
theorem qv_yX4_feelMood : Cond.selects RX4 yX4_feelMood yX4_feelMood ∈ WT := mem_T0 (i := 37) rfl rfl
theorem qv_yX4_drawBy : Cond.selects RX4 yX4_drawBy yX4_drawBy ∈ WT := mem_T0 (i := 38) rfl rfl
theorem qv_yX11_no : Cond.selects RX11 yX11_no yX11_no ∈ WT := mem_T0 (i := 39) rfl rfl
theorem qv_yX11_placed : Cond.selects RX11 yX11_placed yX11_placed ∈ WT := mem_T0 (i := 40) rfl rfl
theorem qv_yX11_trayed : Cond.selects RX11 yX11_trayed yX11_trayed ∈ WT := mem_T0 (i := 41) rfl rfl
theorem qv_yX11_lay : Cond.selects RX11 yX11_lay yX11_lay ∈ WT := mem_T0 (i := 42) rfl rfl
theorem qv_yX11_starts : Cond.selects RX11 yX11_starts yX11_starts ∈ WT := mem_T0 (i := 43) rfl rfl
theorem qv_yX11_next : Cond.selects RX11 yX11_next yX11_next ∈ WT := mem_T0 (i := 44) rfl rfl
theorem qv_yX11_look2 : Cond.selects RX11 yX11_look2 yX11_look2 ∈ WT := mem_T0 (i := 45) rfl rfl
theorem qv_yX11_isSignByte : Cond.selects RX11 yX11_isSignByte yX11_isSignByte ∈ WT := mem_T0 (i := 46) rfl rfl
theorem qv_yX11_isJuror : Cond.selects RX11 yX11_isJuror yX11_isJuror ∈ WT := mem_T0 (i := 47) rfl rfl
theorem qv_yX11_isWord : Cond.selects RX11 yX11_isWord yX11_isWord ∈ WT := mem_T0 (i := 48) rfl rfl
theorem qv_yX11_readJuror : Cond.selects RX11 yX11_readJuror yX11_readJuror ∈ WT := mem_T0 (i := 49) rfl rfl
theorem qv_yX11_readNew : Cond.selects RX11 yX11_readNew yX11_readNew ∈ WT := mem_T0 (i := 50) rfl rfl
theorem qv_yX11_fail : Cond.selects RX11 yX11_fail yX11_fail ∈ WT := mem_T0 (i := 51) rfl rfl
theorem qv_yX11_isName : Cond.selects RX11 yX11_isName yX11_isName ∈ WT := mem_T0 (i := 52) rfl rfl
theorem qv_yX11_isKept : Cond.selects RX11 yX11_isKept yX11_isKept ∈ WT := mem_T0 (i := 53) rfl rfl
theorem qv_yX11_isLeans : Cond.selects RX11 yX11_isLeans yX11_isLeans ∈ WT := mem_T0 (i := 54) rfl rfl
theorem qv_yX11_isLess : Cond.selects RX11 yX11_isLess yX11_isLess ∈ WT := mem_T0 (i := 55) rfl rfl
theorem qv_yX11_isStubborn : Cond.selects RX11 yX11_isStubborn yX11_isStubborn ∈ WT := mem_T0 (i := 56) rfl rfl
theorem qv_yX11_isPrice : Cond.selects RX11 yX11_isPrice yX11_isPrice ∈ WT := mem_T0 (i := 57) rfl rfl
theorem qv_yX11_isSways : Cond.selects RX11 yX11_isSways yX11_isSways ∈ WT := mem_T0 (i := 58) rfl rfl
theorem qv_yX11_isProof : Cond.selects RX11 yX11_isProof yX11_isProof ∈ WT := mem_T0 (i := 59) rfl rfl
theorem qv_yX11_isFollows : Cond.selects RX11 yX11_isFollows yX11_isFollows ∈ WT := mem_T0 (i := 60) rfl rfl
theorem qv_yX11_isGuilty : Cond.selects RX11 yX11_isGuilty yX11_isGuilty ∈ WT := mem_T0 (i := 61) rfl rfl
theorem qv_yX11_isFree : Cond.selects RX11 yX11_isFree yX11_isFree ∈ WT := mem_T0 (i := 62) rfl rfl
theorem qv_yX11_isOn : Cond.selects RX11 yX11_isOn yX11_isOn ∈ WT := mem_T0 (i := 63) rfl rfl
theorem qv_yX11_isHunger : Cond.selects RX11 yX11_isHunger yX11_isHunger ∈ WT := mem_T0 (i := 64) rfl rfl
theorem qv_yX11_isLaw : Cond.selects RX11 yX11_isLaw yX11_isLaw ∈ WT := mem_T0 (i := 65) rfl rfl
theorem qv_yX11_lawWord : Cond.selects RX11 yX11_lawWord yX11_lawWord ∈ WT := mem_T0 (i := 66) rfl rfl
theorem qv_yX11_stepWord : Cond.selects RX11 yX11_stepWord yX11_stepWord ∈ WT := mem_T0 (i := 67) rfl rfl
theorem qv_yX11_testWord : Cond.selects RX11 yX11_testWord yX11_testWord ∈ WT := mem_T0 (i := 68) rfl rfl
theorem qv_yX11_isWeather : Cond.selects RX11 yX11_isWeather yX11_isWeather ∈ WT := mem_T0 (i := 69) rfl rfl
theorem qv_yX11_isCrop : Cond.selects RX11 yX11_isCrop yX11_isCrop ∈ WT := mem_T0 (i := 70) rfl rfl
theorem qv_yX11_isEnd : Cond.selects RX11 yX11_isEnd yX11_isEnd ∈ WT := mem_T0 (i := 71) rfl rfl
theorem qv_yX11_wrong : Cond.selects RX11 yX11_wrong yX11_wrong ∈ WT := mem_T0 (i := 72) rfl rfl
theorem qv_yX11_named : Cond.selects RX11 yX11_named yX11_named ∈ WT := mem_T0 (i := 73) rfl rfl
theorem qv_yX11_signed : Cond.selects RX11 yX11_signed yX11_signed ∈ WT := mem_T0 (i := 74) rfl rfl
theorem qv_yX11_count : Cond.selects RX11 yX11_count yX11_count ∈ WT := mem_T0 (i := 75) rfl rfl
theorem qv_yX11_readSways : Cond.selects RX11 yX11_readSways yX11_readSways ∈ WT := mem_T0 (i := 76) rfl rfl
theorem qv_yX11_readTold : Cond.selects RX11 yX11_readTold yX11_readTold ∈ WT := mem_T0 (i := 77) rfl rfl
theorem qv_yX11_told : Cond.selects RX11 yX11_told yX11_told ∈ WT := mem_T0 (i := 78) rfl rfl
theorem qv_yX11_must : Cond.selects RX11 yX11_must yX11_must ∈ WT := mem_T0 (i := 79) rfl rfl
theorem qv_yX11_readProof : Cond.selects RX11 yX11_readProof yX11_readProof ∈ WT := mem_T0 (i := 80) rfl rfl
theorem qv_yX11_readWeather : Cond.selects RX11 yX11_readWeather yX11_readWeather ∈ WT := mem_T0 (i := 81) rfl rfl
theorem qv_yX11_readFollows : Cond.selects RX11 yX11_readFollows yX11_readFollows ∈ WT := mem_T0 (i := 82) rfl rfl
theorem qv_yX11_readCrop : Cond.selects RX11 yX11_readCrop yX11_readCrop ∈ WT := mem_T0 (i := 83) rfl rfl
theorem qv_yX11_readHunger : Cond.selects RX11 yX11_readHunger yX11_readHunger ∈ WT := mem_T0 (i := 84) rfl rfl
theorem qv_yX11_readLaw : Cond.selects RX11 yX11_readLaw yX11_readLaw ∈ WT := mem_T0 (i := 85) rfl rfl
theorem qv_yX11_isSign : Cond.selects RX11 yX11_isSign yX11_isSign ∈ WT := mem_T0 (i := 86) rfl rfl
theorem qv_yX11_isWell : Cond.selects RX11 yX11_isWell yX11_isWell ∈ WT := mem_T0 (i := 87) rfl rfl
theorem qv_yX11_copy : Cond.selects RX11 yX11_copy yX11_copy ∈ WT := mem_T0 (i := 88) rfl rfl
theorem qv_yX11_readStep : Cond.selects RX11 yX11_readStep yX11_readStep ∈ WT := mem_T0 (i := 89) rfl rfl
theorem qv_yX11_readRest : Cond.selects RX11 yX11_readRest yX11_readRest ∈ WT := mem_T0 (i := 90) rfl rfl
theorem qv_yX11_readTest : Cond.selects RX11 yX11_readTest yX11_readTest ∈ WT := mem_T0 (i := 91) rfl rfl
theorem qv_yX11_refuse : Cond.selects RX11 yX11_refuse yX11_refuse ∈ WT := mem_T0 (i := 92) rfl rfl
theorem qv_yX11_isJurorAt : Cond.selects RX11 yX11_isJurorAt yX11_isJurorAt ∈ WT := mem_T0 (i := 93) rfl rfl
theorem qv_yX11_isWeatherAt : Cond.selects RX11 yX11_isWeatherAt yX11_isWeatherAt ∈ WT := mem_T0 (i := 94) rfl rfl
theorem qv_yX11_behindOf : Cond.selects RX11 yX11_behindOf yX11_behindOf ∈ WT := mem_T0 (i := 95) rfl rfl
theorem qv_yX11_isCropAt : Cond.selects RX11 yX11_isCropAt yX11_isCropAt ∈ WT := mem_T0 (i := 96) rfl rfl
theorem qv_yX11_growsOn : Cond.selects RX11 yX11_growsOn yX11_growsOn ∈ WT := mem_T0 (i := 97) rfl rfl
theorem qv_yX11_isTray : Cond.selects RX11 yX11_isTray yX11_isTray ∈ WT := mem_T0 (i := 98) rfl rfl
theorem qv_yX11_showsOne : Cond.selects RX11 yX11_showsOne yX11_showsOne ∈ WT := mem_T0 (i := 99) rfl rfl
theorem qv_yX11_isSeated : Cond.selects RX11 yX11_isSeated yX11_isSeated ∈ WT := mem_T0 (i := 100) rfl rfl
theorem qv_yX11_talksFor : Cond.selects RX11 yX11_talksFor yX11_talksFor ∈ WT := mem_T0 (i := 101) rfl rfl
theorem qv_yX11_talks : Cond.selects RX11 yX11_talks yX11_talks ∈ WT := mem_T0 (i := 102) rfl rfl
theorem qv_yX11_pulled : Cond.selects RX11 yX11_pulled yX11_pulled ∈ WT := mem_T0 (i := 103) rfl rfl
theorem qv_yX11_votesFor : Cond.selects RX11 yX11_votesFor yX11_votesFor ∈ WT := mem_T0 (i := 104) rfl rfl
theorem qv_yX11_judged : Cond.selects RX11 yX11_judged yX11_judged ∈ WT := mem_T0 (i := 105) rfl rfl
theorem qv_yX11_endsDay : Cond.selects RX11 yX11_endsDay yX11_endsDay ∈ WT := mem_T0 (i := 106) rfl rfl
theorem qv_yX11_strikesOne : Cond.selects RX11 yX11_strikesOne yX11_strikesOne ∈ WT := mem_T0 (i := 107) rfl rfl
theorem qv_yX11_seatsOne : Cond.selects RX11 yX11_seatsOne yX11_seatsOne ∈ WT := mem_T0 (i := 108) rfl rfl
theorem qv_yX11_bribesOne : Cond.selects RX11 yX11_bribesOne yX11_bribesOne ∈ WT := mem_T0 (i := 109) rfl rfl
theorem qv_yX11_farFrom : Cond.selects RX11 yX11_farFrom yX11_farFrom ∈ WT := mem_T0 (i := 110) rfl rfl
theorem qv_yX11_keeps : Cond.selects RX11 yX11_keeps yX11_keeps ∈ WT := mem_T0 (i := 111) rfl rfl
theorem qv_yX11_cameBefore : Cond.selects RX11 yX11_cameBefore yX11_cameBefore ∈ WT := mem_T0 (i := 112) rfl rfl
theorem qv_yX11_gives : Cond.selects RX11 yX11_gives yX11_gives ∈ WT := mem_T0 (i := 113) rfl rfl
theorem qv_yX11_orders : Cond.selects RX11 yX11_orders yX11_orders ∈ WT := mem_T0 (i := 114) rfl rfl
theorem qv_yX11_whyNoStrikes : Cond.selects RX11 yX11_whyNoStrikes yX11_whyNoStrikes ∈ WT := mem_T0 (i := 115) rfl rfl
theorem qv_yX11_plays : Cond.selects RX11 yX11_plays yX11_plays ∈ WT := mem_T0 (i := 116) rfl rfl
theorem qv_yX11_fraction : Cond.selects RX11 yX11_fraction yX11_fraction ∈ WT := mem_T0 (i := 117) rfl rfl
theorem qv_yX11_goesRow : Cond.selects RX11 yX11_goesRow yX11_goesRow ∈ WT := mem_T0 (i := 118) rfl rfl
theorem qv_yX11_numberOf : Cond.selects RX11 yX11_numberOf yX11_numberOf ∈ WT := mem_T0 (i := 119) rfl rfl
theorem qv_yX11_growsRow : Cond.selects RX11 yX11_growsRow yX11_growsRow ∈ WT := mem_T0 (i := 120) rfl rfl
theorem qv_yX11_behindSet : Cond.selects RX11 yX11_behindSet yX11_behindSet ∈ WT := mem_T0 (i := 121) rfl rfl
theorem qv_yX11_whyNoHarvest : Cond.selects RX11 yX11_whyNoHarvest yX11_whyNoHarvest ∈ WT := mem_T0 (i := 122) rfl rfl
theorem qv_yX11_harvests : Cond.selects RX11 yX11_harvests yX11_harvests ∈ WT := mem_T0 (i := 123) rfl rfl
theorem qv_yX11_runs : Cond.selects RX11 yX11_runs yX11_runs ∈ WT := mem_T0 (i := 124) rfl rfl
theorem qv_yX11_doAll : Cond.selects RX11 yX11_doAll yX11_doAll ∈ WT := mem_T0 (i := 125) rfl rfl
theorem qv_yX11_doOne : Cond.selects RX11 yX11_doOne yX11_doOne ∈ WT := mem_T0 (i := 126) rfl rfl
theorem qv_yX11_does : Cond.selects RX11 yX11_does yX11_does ∈ WT := mem_T0 (i := 127) rfl rfl
theorem qv_yX11_dayEnds : Cond.selects RX11 yX11_dayEnds yX11_dayEnds ∈ WT := mem_T0 (i := 128) rfl rfl
theorem qv_yX11_moods : Cond.selects RX11 yX11_moods yX11_moods ∈ WT := mem_T0 (i := 129) rfl rfl
theorem qv_yX11_draw : Cond.selects RX11 yX11_draw yX11_draw ∈ WT := mem_T0 (i := 130) rfl rfl
theorem qv_yX11_isSo : Cond.selects RX11 yX11_isSo yX11_isSo ∈ WT := mem_T0 (i := 131) rfl rfl
theorem qn_arraycopy : Cond.native arraycopyName ∈ WT := mem_T3 (i := 112) rfl rfl
theorem ql_L_9 : Cond.methodLink RL 9 yX10_init ∈ WT := mem_T1 (i := 22) rfl rfl
theorem ql_X10_43 : Cond.methodLink RX10 43 yX5_init ∈ WT := mem_T2 (i := 11) rfl rfl
theorem ql_X5_53 : Cond.methodLink RX5 53 yJ0_length_8abf5 ∈ WT := mem_T2 (i := 16) rfl rfl
theorem ql_J0_335 : Cond.methodLink RJ0 335 yJ0_coder_7d493 ∈ WT := mem_T2 (i := 20) rfl rfl
theorem ql_X5_58 : Cond.methodLink RX5 58 yJ0_charAt_5068e ∈ WT := mem_T2 (i := 26) rfl rfl
theorem ql_J0_492 : Cond.methodLink RJ0 492 yJ0_isLatin1_aae02 ∈ WT := mem_T2 (i := 30) rfl rfl
theorem ql_J0_495 : Cond.methodLink RJ0 495 yJ1_charAt_3b067 ∈ WT := mem_T2 (i := 34) rfl rfl
theorem ql_J1_9 : Cond.methodLink RJ1 9 yJ0_checkIndex_df160 ∈ WT := mem_T2 (i := 37) rfl rfl
theorem ql_J0_1059 : Cond.methodLink RJ0 1059 yJ3_checkIndex_8e157 ∈ WT := mem_T2 (i := 42) rfl rfl
theorem ql_J0_498 : Cond.methodLink RJ0 498 yJ2_charAt_3b067 ∈ WT := mem_T2 (i := 45) rfl rfl
theorem ql_J2_67 : Cond.methodLink RJ2 67 yJ2_checkIndex_2214a ∈ WT := mem_T2 (i := 48) rfl rfl
theorem ql_J2_48 : Cond.methodLink RJ2 48 yJ2_length_9d52b ∈ WT := mem_T2 (i := 51) rfl rfl
theorem ql_J2_414 : Cond.methodLink RJ2 414 yJ0_checkIndex_df160 ∈ WT := mem_T2 (i := 54) rfl rfl
theorem ql_J2_71 : Cond.methodLink RJ2 71 yJ2_getChar_3b067 ∈ WT := mem_T2 (i := 55) rfl rfl
theorem ql_X10_64 : Cond.methodLink RX10 64 yX0_init ∈ WT := mem_T2 (i := 139) rfl rfl
theorem ql_L_13 : Cond.methodLink RL 13 yX10_status ∈ WT := mem_T3 (i := 43) rfl rfl
theorem ql_L_18 : Cond.methodLink RL 18 yX10_top ∈ WT := mem_T3 (i := 47) rfl rfl
theorem ql_L_23 : Cond.methodLink RL 23 yX10_bottom ∈ WT := mem_T3 (i := 51) rfl rfl
theorem ql_L_27 : Cond.methodLink RL 27 yX10_tray ∈ WT := mem_T3 (i := 55) rfl rfl
theorem ql_X10_110 : Cond.methodLink RX10 110 yX10_isTray ∈ WT := mem_T3 (i := 59) rfl rfl
theorem ql_X10_114 : Cond.methodLink RX10 114 yX10_refuse ∈ WT := mem_T3 (i := 62) rfl rfl
theorem ql_X10_117 : Cond.methodLink RX10 117 yX6_lay ∈ WT := mem_T3 (i := 66) rfl rfl
theorem ql_X10_121 : Cond.methodLink RX10 121 yX10_agree ∈ WT := mem_T3 (i := 70) rfl rfl
theorem ql_L_34 : Cond.methodLink RL 34 yX10_write ∈ WT := mem_T3 (i := 74) rfl rfl
theorem ql_X10_125 : Cond.methodLink RX10 125 yX10_wrongPlace ∈ WT := mem_T3 (i := 78) rfl rfl
theorem ql_X10_453 : Cond.methodLink RX10 453 yX10_wrongTray ∈ WT := mem_T3 (i := 82) rfl rfl
theorem ql_X10_141 : Cond.methodLink RX10 141 yX6_isMissing ∈ WT := mem_T3 (i := 86) rfl rfl
theorem ql_X10_148 : Cond.methodLink RX10 148 yX6_holds ∈ WT := mem_T3 (i := 90) rfl rfl
theorem ql_X10_129 : Cond.methodLink RX10 129 yX6_put ∈ WT := mem_T3 (i := 94) rfl rfl
theorem ql_L_39 : Cond.methodLink RL 39 yX10_read ∈ WT := mem_T3 (i := 98) rfl rfl
theorem ql_X10_133 : Cond.methodLink RX10 133 yX10_none ∈ WT := mem_T3 (i := 102) rfl rfl
theorem ql_L_44 : Cond.methodLink RL 44 yX10_pour ∈ WT := mem_T3 (i := 106) rfl rfl
theorem ql_X10_152 : Cond.methodLink RX10 152 arraycopyName ∈ WT := mem_T3 (i := 110) rfl rfl
theorem ql_L_49 : Cond.methodLink RL 49 yX10_feed ∈ WT := mem_T3 (i := 113) rfl rfl
theorem ql_X10_158 : Cond.methodLink RX10 158 yX5_hasRoom ∈ WT := mem_T3 (i := 117) rfl rfl
theorem ql_X10_161 : Cond.methodLink RX10 161 yX5_append ∈ WT := mem_T3 (i := 121) rfl rfl
theorem ql_L_54 : Cond.methodLink RL 54 yX10_court ∈ WT := mem_T3 (i := 125) rfl rfl
theorem ql_X10_168 : Cond.methodLink RX10 168 yX2_readCourt ∈ WT := mem_T3 (i := 129) rfl rfl
theorem ql_X2_15 : Cond.methodLink RX2 15 yX1_clear ∈ WT := mem_T3 (i := 133) rfl rfl
theorem ql_X2_20 : Cond.methodLink RX2 20 yX5_begin ∈ WT := mem_T3 (i := 137) rfl rfl
theorem ql_X5_64 : Cond.methodLink RX5 64 yX5_advance ∈ WT := mem_T3 (i := 141) rfl rfl
theorem ql_X5_67 : Cond.methodLink RX5 67 yX5_lookAtWord ∈ WT := mem_T3 (i := 145) rfl rfl
theorem ql_X5_70 : Cond.methodLink RX5 70 yX5_lookAtNumber ∈ WT := mem_T3 (i := 149) rfl rfl
theorem ql_X5_73 : Cond.methodLink RX5 73 yX5_lookAtSign ∈ WT := mem_T3 (i := 153) rfl rfl
theorem ql_X2_33 : Cond.methodLink RX2 33 yX2_readPart ∈ WT := mem_T3 (i := 157) rfl rfl
theorem ql_X2_41 : Cond.methodLink RX2 41 yX5_word ∈ WT := mem_T3 (i := 161) rfl rfl
theorem ql_X2_45 : Cond.methodLink RX2 45 yX2_needNew ∈ WT := mem_T3 (i := 165) rfl rfl
theorem ql_X2_78 : Cond.methodLink RX2 78 yX1_isFull ∈ WT := mem_T3 (i := 169) rfl rfl
theorem ql_X2_74 : Cond.methodLink RX2 74 yX5_fail ∈ WT := mem_T3 (i := 175) rfl rfl
theorem ql_X2_81 : Cond.methodLink RX2 81 yX5_advance ∈ WT := mem_T3 (i := 179) rfl rfl
theorem ql_X2_84 : Cond.methodLink RX2 84 yX5_isName ∈ WT := mem_T3 (i := 180) rfl rfl
theorem ql_X2_91 : Cond.methodLink RX2 91 yX1_isTaken ∈ WT := mem_T3 (i := 184) rfl rfl
theorem ql_X1_59 : Cond.methodLink RX1 59 yX1_find ∈ WT := mem_T3 (i := 188) rfl rfl
theorem ql_X2_95 : Cond.methodLink RX2 95 yX1_addThing ∈ WT := mem_T3 (i := 192) rfl rfl
theorem ql_X2_49 : Cond.methodLink RX2 49 yX2_readJuror ∈ WT := mem_T3 (i := 196) rfl rfl
theorem ql_X2_112 : Cond.methodLink RX2 112 yX5_takeWord ∈ WT := mem_T3 (i := 200) rfl rfl
theorem ql_X5_76 : Cond.methodLink RX5 76 yX5_word ∈ WT := mem_T3 (i := 204) rfl rfl
theorem ql_X2_115 : Cond.methodLink RX2 115 yX5_needEither ∈ WT := mem_T3 (i := 205) rfl rfl
theorem ql_X5_79 : Cond.methodLink RX5 79 yX5_takeWord ∈ WT := mem_T3 (i := 209) rfl rfl
theorem ql_X5_86 : Cond.methodLink RX5 86 yX5_needNumber ∈ WT := mem_T3 (i := 210) rfl rfl
theorem ql_X5_83 : Cond.methodLink RX5 83 yX5_fail ∈ WT := mem_T3 (i := 214) rfl rfl
theorem ql_X2_118 : Cond.methodLink RX2 118 yX5_needNumber ∈ WT := mem_T3 (i := 215) rfl rfl
theorem ql_X2_52 : Cond.methodLink RX2 52 yX2_readSways ∈ WT := mem_T3 (i := 216) rfl rfl
theorem ql_X2_122 : Cond.methodLink RX2 122 yX5_needKnown ∈ WT := mem_T3 (i := 220) rfl rfl
theorem ql_X5_100 : Cond.methodLink RX5 100 yX5_seeKnown ∈ WT := mem_T3 (i := 224) rfl rfl
theorem ql_X5_90 : Cond.methodLink RX5 90 yX5_isName ∈ WT := mem_T3 (i := 228) rfl rfl
theorem ql_X5_94 : Cond.methodLink RX5 94 yX1_find ∈ WT := mem_T3 (i := 229) rfl rfl
theorem ql_X2_126 : Cond.methodLink RX2 126 yX5_seeKnown ∈ WT := mem_T3 (i := 230) rfl rfl
theorem ql_X2_129 : Cond.methodLink RX2 129 yX1_setSway ∈ WT := mem_T3 (i := 231) rfl rfl
theorem ql_X2_55 : Cond.methodLink RX2 55 yX2_readProof ∈ WT := mem_T3 (i := 235) rfl rfl
theorem ql_X2_58 : Cond.methodLink RX2 58 yX2_startWeather ∈ WT := mem_T3 (i := 239) rfl rfl
theorem ql_X2_62 : Cond.methodLink RX2 62 yX2_readFollows ∈ WT := mem_T4 (i := 3) rfl rfl
theorem ql_X2_145 : Cond.methodLink RX2 145 yX5_needWord ∈ WT := mem_T4 (i := 7) rfl rfl
theorem ql_X2_65 : Cond.methodLink RX2 65 yX2_readCrop ∈ WT := mem_T4 (i := 11) rfl rfl
theorem ql_X2_151 : Cond.methodLink RX2 151 yX1_setGrowth ∈ WT := mem_T4 (i := 15) rfl rfl
theorem ql_X2_68 : Cond.methodLink RX2 68 yX2_readHunger ∈ WT := mem_T4 (i := 19) rfl rfl
theorem ql_X2_71 : Cond.methodLink RX2 71 yX2_readLaw ∈ WT := mem_T4 (i := 23) rfl rfl
theorem ql_X2_37 : Cond.methodLink RX2 37 yX5_needStop ∈ WT := mem_T4 (i := 27) rfl rfl
theorem ql_X10_172 : Cond.methodLink RX10 172 yX10_keepFault ∈ WT := mem_T4 (i := 31) rfl rfl
theorem ql_X10_178 : Cond.methodLink RX10 178 yX1_copyFrom ∈ WT := mem_T4 (i := 35) rfl rfl
theorem ql_X1_53 : Cond.methodLink RX1 53 arraycopyName ∈ WT := mem_T4 (i := 39) rfl rfl
theorem ql_X10_185 : Cond.methodLink RX10 185 yX3_openCourt ∈ WT := mem_T4 (i := 40) rfl rfl
theorem ql_X3_43 : Cond.methodLink RX3 43 yX3_openDay ∈ WT := mem_T4 (i := 44) rfl rfl
theorem ql_X10_191 : Cond.methodLink RX10 191 yX7_clear ∈ WT := mem_T4 (i := 48) rfl rfl
theorem ql_X10_197 : Cond.methodLink RX10 197 yX10_answer ∈ WT := mem_T4 (i := 52) rfl rfl
theorem ql_L_59 : Cond.methodLink RL 59 yX10_weeks ∈ WT := mem_T4 (i := 56) rfl rfl
theorem ql_X10_200 : Cond.methodLink RX10 200 yX8_readWeeks ∈ WT := mem_T4 (i := 60) rfl rfl
theorem ql_X8_19 : Cond.methodLink RX8 19 yX7_clear ∈ WT := mem_T4 (i := 64) rfl rfl
theorem ql_X8_28 : Cond.methodLink RX8 28 yX5_begin ∈ WT := mem_T4 (i := 65) rfl rfl
theorem ql_X8_40 : Cond.methodLink RX8 40 yX5_word ∈ WT := mem_T4 (i := 66) rfl rfl
theorem ql_X8_44 : Cond.methodLink RX8 44 yX8_closes ∈ WT := mem_T4 (i := 67) rfl rfl
theorem ql_X8_59 : Cond.methodLink RX8 59 yX5_fail ∈ WT := mem_T4 (i := 71) rfl rfl
theorem ql_X8_63 : Cond.methodLink RX8 63 yX7_addRow ∈ WT := mem_T4 (i := 72) rfl rfl
theorem ql_X8_70 : Cond.methodLink RX8 70 yX5_advance ∈ WT := mem_T4 (i := 76) rfl rfl
theorem ql_X8_48 : Cond.methodLink RX8 48 yX8_begins ∈ WT := mem_T4 (i := 77) rfl rfl
theorem ql_X8_51 : Cond.methodLink RX8 51 yX8_readRest ∈ WT := mem_T4 (i := 81) rfl rfl
theorem ql_X8_82 : Cond.methodLink RX8 82 yX5_needKnown ∈ WT := mem_T4 (i := 84) rfl rfl
theorem ql_X8_86 : Cond.methodLink RX8 86 yX5_needNumber ∈ WT := mem_T4 (i := 85) rfl rfl
theorem ql_X8_90 : Cond.methodLink RX8 90 yX8_readTest ∈ WT := mem_T4 (i := 86) rfl rfl
theorem ql_X8_109 : Cond.methodLink RX8 109 yX5_needCompares ∈ WT := mem_T4 (i := 89) rfl rfl
theorem ql_X8_112 : Cond.methodLink RX8 112 yX5_needEither ∈ WT := mem_T4 (i := 93) rfl rfl
theorem ql_X8_103 : Cond.methodLink RX8 103 yX5_takeWord ∈ WT := mem_T4 (i := 94) rfl rfl
theorem ql_X8_55 : Cond.methodLink RX8 55 yX5_needStop ∈ WT := mem_T4 (i := 95) rfl rfl
theorem ql_X10_204 : Cond.methodLink RX10 204 yX7_copyFrom ∈ WT := mem_T4 (i := 96) rfl rfl
theorem ql_X7_41 : Cond.methodLink RX7 41 arraycopyName ∈ WT := mem_T4 (i := 100) rfl rfl
theorem ql_L_63 : Cond.methodLink RL 63 yX10_fault ∈ WT := mem_T4 (i := 101) rfl rfl
theorem ql_L_67 : Cond.methodLink RL 67 yX10_many ∈ WT := mem_T4 (i := 105) rfl rfl
theorem ql_X10_222 : Cond.methodLink RX10 222 yX10_hasNoWeather ∈ WT := mem_T4 (i := 109) rfl rfl
theorem ql_L_71 : Cond.methodLink RL 71 yX10_juror ∈ WT := mem_T4 (i := 113) rfl rfl
theorem ql_X10_237 : Cond.methodLink RX10 237 yX10_isNo ∈ WT := mem_T4 (i := 117) rfl rfl
theorem ql_L_76 : Cond.methodLink RL 76 yX10_sways ∈ WT := mem_T4 (i := 121) rfl rfl
theorem ql_X10_253 : Cond.methodLink RX10 253 yX1_swayOf ∈ WT := mem_T4 (i := 125) rfl rfl
theorem ql_L_80 : Cond.methodLink RL 80 yX10_proof ∈ WT := mem_T4 (i := 129) rfl rfl
theorem ql_L_84 : Cond.methodLink RL 84 yX10_follows ∈ WT := mem_T4 (i := 133) rfl rfl
theorem ql_X10_259 : Cond.methodLink RX10 259 yX10_isNoVerdict ∈ WT := mem_T4 (i := 137) rfl rfl
theorem ql_X10_263 : Cond.methodLink RX10 263 yX1_weatherBehind ∈ WT := mem_T4 (i := 141) rfl rfl
theorem ql_L_88 : Cond.methodLink RL 88 yX10_grows ∈ WT := mem_T4 (i := 145) rfl rfl
theorem ql_X10_266 : Cond.methodLink RX10 266 yX1_growthOf ∈ WT := mem_T4 (i := 149) rfl rfl
theorem ql_L_92 : Cond.methodLink RL 92 yX10_crop ∈ WT := mem_T4 (i := 153) rfl rfl
theorem ql_L_96 : Cond.methodLink RL 96 yX10_copyLeanings ∈ WT := mem_T4 (i := 157) rfl rfl
theorem ql_X10_272 : Cond.methodLink RX10 272 yX10_wrongRow ∈ WT := mem_T4 (i := 161) rfl rfl
theorem ql_L_100 : Cond.methodLink RL 100 yX10_show ∈ WT := mem_T4 (i := 165) rfl rfl
theorem ql_X10_275 : Cond.methodLink RX10 275 yX3_wasShown ∈ WT := mem_T4 (i := 169) rfl rfl
theorem ql_X10_278 : Cond.methodLink RX10 278 yX3_present ∈ WT := mem_T4 (i := 173) rfl rfl
theorem ql_X3_91 : Cond.methodLink RX3 91 yX3_isSeated ∈ WT := mem_T4 (i := 177) rfl rfl
theorem ql_X3_95 : Cond.methodLink RX3 95 Lib.Math.abs.name ∈ WT := mem_T4 (i := 181) rfl rfl
theorem ql_X3_103 : Cond.methodLink RX3 103 Lib.Math.max.name ∈ WT := mem_T4 (i := 184) rfl rfl
theorem ql_X3_106 : Cond.methodLink RX3 106 yX3_shift ∈ WT := mem_T4 (i := 187) rfl rfl
theorem ql_L_104 : Cond.methodLink RL 104 yX10_talk ∈ WT := mem_T4 (i := 191) rfl rfl
theorem ql_X10_282 : Cond.methodLink RX10 282 yX3_talkOn ∈ WT := mem_T4 (i := 195) rfl rfl
theorem ql_X3_118 : Cond.methodLink RX3 118 yX3_talkRound ∈ WT := mem_T4 (i := 199) rfl rfl
theorem ql_X3_122 : Cond.methodLink RX3 122 yX3_pullOn ∈ WT := mem_T4 (i := 203) rfl rfl
theorem ql_X3_126 : Cond.methodLink RX3 126 yX3_goHungry ∈ WT := mem_T4 (i := 207) rfl rfl
theorem ql_X3_74 : Cond.methodLink RX3 74 yX3_guiltyVotes ∈ WT := mem_T4 (i := 211) rfl rfl
theorem ql_X3_78 : Cond.methodLink RX3 78 yX3_seatedCount ∈ WT := mem_T4 (i := 215) rfl rfl
theorem ql_X3_69 : Cond.methodLink RX3 69 yJ6_bitCount_0f7a4 ∈ WT := mem_T4 (i := 219) rfl rfl
theorem ql_X3_130 : Cond.methodLink RX3 130 yJ6_compare_7cf53 ∈ WT := mem_T4 (i := 225) rfl rfl
theorem ql_X10_286 : Cond.methodLink RX10 286 yX3_ruling ∈ WT := mem_T4 (i := 228) rfl rfl
theorem ql_L_108 : Cond.methodLink RL 108 yX10_endDay ∈ WT := mem_T4 (i := 235) rfl rfl
theorem ql_X10_289 : Cond.methodLink RX10 289 yX3_closeDay ∈ WT := mem_T4 (i := 239) rfl rfl
theorem ql_X3_58 : Cond.methodLink RX3 58 yX3_ruling ∈ WT := mem_T5 (i := 3) rfl rfl
theorem ql_X3_62 : Cond.methodLink RX3 62 yX1_growthOf ∈ WT := mem_T5 (i := 4) rfl rfl
theorem ql_X3_66 : Cond.methodLink RX3 66 yX1_weatherBehind ∈ WT := mem_T5 (i := 5) rfl rfl
theorem ql_L_112 : Cond.methodLink RL 112 yX10_strike ∈ WT := mem_T5 (i := 6) rfl rfl
theorem ql_X10_293 : Cond.methodLink RX10 293 yX3_isSeated ∈ WT := mem_T5 (i := 10) rfl rfl
theorem ql_X10_296 : Cond.methodLink RX10 296 yX3_unseat ∈ WT := mem_T5 (i := 11) rfl rfl
theorem ql_L_117 : Cond.methodLink RL 117 yX10_seat ∈ WT := mem_T5 (i := 15) rfl rfl
theorem ql_X10_299 : Cond.methodLink RX10 299 yX3_reseat ∈ WT := mem_T5 (i := 19) rfl rfl
theorem ql_L_121 : Cond.methodLink RL 121 yX10_bribe ∈ WT := mem_T5 (i := 23) rfl rfl
theorem ql_X10_302 : Cond.methodLink RX10 302 yX10_isNoSide ∈ WT := mem_T5 (i := 27) rfl rfl
theorem ql_X10_305 : Cond.methodLink RX10 305 yX3_canPay ∈ WT := mem_T5 (i := 30) rfl rfl
theorem ql_X10_309 : Cond.methodLink RX10 309 yX3_buy ∈ WT := mem_T5 (i := 34) rfl rfl
theorem ql_L_125 : Cond.methodLink RL 125 yX10_lean ∈ WT := mem_T5 (i := 38) rfl rfl
theorem ql_L_130 : Cond.methodLink RL 130 yX10_votes ∈ WT := mem_T5 (i := 42) rfl rfl
theorem ql_X10_313 : Cond.methodLink RX10 313 yX3_guiltyVotes ∈ WT := mem_T5 (i := 46) rfl rfl
theorem ql_X10_317 : Cond.methodLink RX10 317 yX3_seatedCount ∈ WT := mem_T5 (i := 47) rfl rfl
theorem ql_L_134 : Cond.methodLink RL 134 yX10_verdict ∈ WT := mem_T5 (i := 48) rfl rfl
theorem ql_L_138 : Cond.methodLink RL 138 yX10_verdictBy ∈ WT := mem_T5 (i := 52) rfl rfl
theorem ql_L_142 : Cond.methodLink RL 142 yX10_swing ∈ WT := mem_T5 (i := 56) rfl rfl
theorem ql_X10_320 : Cond.methodLink RX10 320 yX10_rule ∈ WT := mem_T5 (i := 60) rfl rfl
theorem ql_L_146 : Cond.methodLink RL 146 yX10_lacks ∈ WT := mem_T5 (i := 61) rfl rfl
theorem ql_L_150 : Cond.methodLink RL 150 yX10_nearest ∈ WT := mem_T5 (i := 65) rfl rfl
theorem ql_L_154 : Cond.methodLink RL 154 yX10_pull ∈ WT := mem_T5 (i := 69) rfl rfl
theorem ql_X10_324 : Cond.methodLink RX10 324 yX3_copyFrom ∈ WT := mem_T5 (i := 73) rfl rfl
theorem ql_X3_37 : Cond.methodLink RX3 37 arraycopyName ∈ WT := mem_T5 (i := 77) rfl rfl
theorem ql_X10_327 : Cond.methodLink RX10 327 yX3_pullOn ∈ WT := mem_T5 (i := 78) rfl rfl
theorem ql_X10_330 : Cond.methodLink RX10 330 yX3_shift ∈ WT := mem_T5 (i := 79) rfl rfl
theorem ql_L_158 : Cond.methodLink RL 158 yX10_behind ∈ WT := mem_T5 (i := 80) rfl rfl
theorem ql_X10_333 : Cond.methodLink RX10 333 yX1_allBehind ∈ WT := mem_T5 (i := 84) rfl rfl
theorem ql_L_162 : Cond.methodLink RL 162 yX10_settles ∈ WT := mem_T5 (i := 88) rfl rfl
theorem ql_X10_336 : Cond.methodLink RX10 336 yX0_settle ∈ WT := mem_T5 (i := 92) rfl rfl
theorem ql_X0_51 : Cond.methodLink RX0 51 yX0_pack ∈ WT := mem_T5 (i := 96) rfl rfl
theorem ql_X0_55 : Cond.methodLink RX0 55 yX3_talkRound ∈ WT := mem_T5 (i := 101) rfl rfl
theorem ql_L_166 : Cond.methodLink RL 166 yX10_after ∈ WT := mem_T5 (i := 102) rfl rfl
theorem ql_L_170 : Cond.methodLink RL 170 yX10_soonest ∈ WT := mem_T5 (i := 106) rfl rfl
theorem ql_L_174 : Cond.methodLink RL 174 yX10_bestOrder ∈ WT := mem_T5 (i := 110) rfl rfl
theorem ql_X10_346 : Cond.methodLink RX10 346 yX0_findOrder ∈ WT := mem_T5 (i := 114) rfl rfl
theorem ql_X0_66 : Cond.methodLink RX0 66 yX3_copyFrom ∈ WT := mem_T5 (i := 118) rfl rfl
theorem ql_X0_70 : Cond.methodLink RX0 70 yX0_extend ∈ WT := mem_T5 (i := 119) rfl rfl
theorem ql_X0_85 : Cond.methodLink RX0 85 yX3_ruling ∈ WT := mem_T5 (i := 122) rfl rfl
theorem ql_X0_92 : Cond.methodLink RX0 92 yX3_wasShown ∈ WT := mem_T5 (i := 123) rfl rfl
theorem ql_X0_96 : Cond.methodLink RX0 96 yX3_present ∈ WT := mem_T5 (i := 124) rfl rfl
theorem ql_X0_100 : Cond.methodLink RX0 100 yX3_talkOn ∈ WT := mem_T5 (i := 125) rfl rfl
theorem ql_X0_74 : Cond.methodLink RX0 74 arraycopyName ∈ WT := mem_T5 (i := 126) rfl rfl
theorem ql_L_178 : Cond.methodLink RL 178 yX10_orderAt ∈ WT := mem_T5 (i := 127) rfl rfl
theorem ql_L_182 : Cond.methodLink RL 182 yX10_bribes ∈ WT := mem_T5 (i := 131) rfl rfl
theorem ql_X10_356 : Cond.methodLink RX10 356 yX10_isNoFewRounds ∈ WT := mem_T5 (i := 135) rfl rfl
theorem ql_X10_359 : Cond.methodLink RX10 359 yX10_cheapestSet ∈ WT := mem_T5 (i := 138) rfl rfl
theorem ql_X10_365 : Cond.methodLink RX10 365 yX1_priceOf ∈ WT := mem_T5 (i := 142) rfl rfl
theorem ql_X10_459 : Cond.methodLink RX10 459 yX10_wins ∈ WT := mem_T5 (i := 146) rfl rfl
theorem ql_L_187 : Cond.methodLink RL 187 yX10_bribeSet ∈ WT := mem_T5 (i := 150) rfl rfl
theorem ql_L_191 : Cond.methodLink RL 191 yX10_strikes ∈ WT := mem_T5 (i := 154) rfl rfl
theorem ql_X10_368 : Cond.methodLink RX10 368 yX10_wrongStrikes ∈ WT := mem_T5 (i := 158) rfl rfl
theorem ql_X10_371 : Cond.methodLink RX10 371 yX10_bestPlay ∈ WT := mem_T5 (i := 162) rfl rfl
theorem ql_X10_463 : Cond.methodLink RX10 463 Lib.Math.min.name ∈ WT := mem_T5 (i := 165) rfl rfl
theorem ql_X10_466 : Cond.methodLink RX10 466 Lib.Math.max.name ∈ WT := mem_T5 (i := 168) rfl rfl
theorem ql_L_195 : Cond.methodLink RL 195 yX10_firstStrike ∈ WT := mem_T5 (i := 169) rfl rfl
theorem ql_X10_375 : Cond.methodLink RX10 375 yX10_firstOfBest ∈ WT := mem_T5 (i := 173) rfl rfl
theorem ql_L_199 : Cond.methodLink RL 199 yX10_drawn ∈ WT := mem_T5 (i := 177) rfl rfl
theorem ql_X10_378 : Cond.methodLink RX10 378 yJ6_bitCount_0f7a4 ∈ WT := mem_T5 (i := 181) rfl rfl
theorem ql_X10_383 : Cond.methodLink RX10 383 yX3_openDay ∈ WT := mem_T5 (i := 182) rfl rfl
theorem ql_X10_386 : Cond.methodLink RX10 386 yX10_tellFraction ∈ WT := mem_T5 (i := 183) rfl rfl
theorem ql_X10_437 : Cond.methodLink RX10 437 Lib.MathLoose.abs_long.x ∈ WT := mem_T5 (i := 187) rfl rfl
theorem ql_X10_443 : Cond.methodLink RX10 443 yX10_commonDivisor ∈ WT := mem_T5 (i := 190) rfl rfl
theorem ql_L_203 : Cond.methodLink RL 203 yX10_row ∈ WT := mem_T5 (i := 193) rfl rfl
theorem ql_X10_390 : Cond.methodLink RX10 390 yX10_wrongVerdicts ∈ WT := mem_T5 (i := 197) rfl rfl
theorem ql_L_207 : Cond.methodLink RL 207 yX10_rowGrows ∈ WT := mem_T5 (i := 201) rfl rfl
theorem ql_L_211 : Cond.methodLink RL 211 yX10_way ∈ WT := mem_T5 (i := 205) rfl rfl
theorem ql_X10_393 : Cond.methodLink RX10 393 yX1_dayMore ∈ WT := mem_T5 (i := 209) rfl rfl
theorem ql_L_215 : Cond.methodLink RL 215 yX10_harvest ∈ WT := mem_T5 (i := 213) rfl rfl
theorem ql_X10_396 : Cond.methodLink RX10 396 yX10_wrongHarvest ∈ WT := mem_T5 (i := 217) rfl rfl
theorem ql_X10_399 : Cond.methodLink RX10 399 yX0_reap ∈ WT := mem_T5 (i := 221) rfl rfl
theorem ql_X0_110 : Cond.methodLink RX0 110 Lib.Math.max.name ∈ WT := mem_T5 (i := 225) rfl rfl
theorem ql_X0_116 : Cond.methodLink RX0 116 yX1_growthOf ∈ WT := mem_T5 (i := 226) rfl rfl
theorem ql_L_219 : Cond.methodLink RL 219 yX10_harvestNow ∈ WT := mem_T5 (i := 227) rfl rfl
theorem ql_X10_405 : Cond.methodLink RX10 405 yX0_bestVerdict ∈ WT := mem_T5 (i := 231) rfl rfl
theorem ql_X0_119 : Cond.methodLink RX0 119 yX1_weatherBehind ∈ WT := mem_T5 (i := 235) rfl rfl
theorem ql_L_223 : Cond.methodLink RL 223 yX10_reach ∈ WT := mem_T5 (i := 236) rfl rfl
theorem ql_L_227 : Cond.methodLink RL 227 yX10_live ∈ WT := mem_T6 (i := 0) rfl rfl
theorem ql_X10_408 : Cond.methodLink RX10 408 yX10_isNoSeed ∈ WT := mem_T6 (i := 4) rfl rfl
theorem ql_X10_414 : Cond.methodLink RX10 414 yX4_run ∈ WT := mem_T6 (i := 7) rfl rfl
theorem ql_X4_53 : Cond.methodLink RX4 53 yX4_passEnd ∈ WT := mem_T6 (i := 12) rfl rfl
theorem ql_X4_57 : Cond.methodLink RX4 57 yX4_turns ∈ WT := mem_T6 (i := 16) rfl rfl
theorem ql_X4_75 : Cond.methodLink RX4 75 yX4_holds ∈ WT := mem_T6 (i := 20) rfl rfl
theorem ql_X4_87 : Cond.methodLink RX4 87 yX3_guiltyVotes ∈ WT := mem_T6 (i := 23) rfl rfl
theorem ql_X4_65 : Cond.methodLink RX4 65 yX4_does ∈ WT := mem_T6 (i := 24) rfl rfl
theorem ql_X4_100 : Cond.methodLink RX4 100 yX4_canDo ∈ WT := mem_T6 (i := 28) rfl rfl
theorem ql_X4_134 : Cond.methodLink RX4 134 yX3_wasShown ∈ WT := mem_T6 (i := 31) rfl rfl
theorem ql_X4_144 : Cond.methodLink RX4 144 yX3_isSeated ∈ WT := mem_T6 (i := 32) rfl rfl
theorem ql_X4_147 : Cond.methodLink RX4 147 yX3_canPay ∈ WT := mem_T6 (i := 33) rfl rfl
theorem ql_X4_104 : Cond.methodLink RX4 104 yX3_present ∈ WT := mem_T6 (i := 34) rfl rfl
theorem ql_X4_108 : Cond.methodLink RX4 108 yX3_talkOn ∈ WT := mem_T6 (i := 35) rfl rfl
theorem ql_X4_112 : Cond.methodLink RX4 112 yX3_closeDay ∈ WT := mem_T6 (i := 36) rfl rfl
theorem ql_X4_116 : Cond.methodLink RX4 116 yX4_countDay ∈ WT := mem_T6 (i := 37) rfl rfl
theorem ql_X4_120 : Cond.methodLink RX4 120 yX3_unseat ∈ WT := mem_T6 (i := 41) rfl rfl
theorem ql_X4_123 : Cond.methodLink RX4 123 yX3_reseat ∈ WT := mem_T6 (i := 42) rfl rfl
theorem ql_X4_126 : Cond.methodLink RX4 126 yX3_buy ∈ WT := mem_T6 (i := 43) rfl rfl
theorem ql_X4_130 : Cond.methodLink RX4 130 yX4_feelMood ∈ WT := mem_T6 (i := 44) rfl rfl
theorem ql_X4_156 : Cond.methodLink RX4 156 yX4_drawBy ∈ WT := mem_T6 (i := 48) rfl rfl
theorem ql_X4_160 : Cond.methodLink RX4 160 yX3_shift ∈ WT := mem_T6 (i := 53) rfl rfl
theorem ql_L_231 : Cond.methodLink RL 231 yX10_lived ∈ WT := mem_T6 (i := 54) rfl rfl
theorem ql_L_235 : Cond.methodLink RL 235 yX10_mean ∈ WT := mem_T6 (i := 58) rfl rfl
theorem ql_L_239 : Cond.methodLink RL 239 yX10_mark ∈ WT := mem_T6 (i := 62) rfl rfl
theorem ql_X10_434 : Cond.methodLink RX10 434 yX9_copyFrom ∈ WT := mem_T6 (i := 66) rfl rfl
theorem ql_X9_30 : Cond.methodLink RX9 30 yX1_copyFrom ∈ WT := mem_T6 (i := 70) rfl rfl
theorem ql_X9_34 : Cond.methodLink RX9 34 yX3_copyFrom ∈ WT := mem_T6 (i := 71) rfl rfl
theorem ql_X9_37 : Cond.methodLink RX9 37 yX7_copyFrom ∈ WT := mem_T6 (i := 72) rfl rfl
theorem ql_L_243 : Cond.methodLink RL 243 yX10_back ∈ WT := mem_T6 (i := 73) rfl rfl
theorem ql_L_12 : Cond.methodLink RL 12 yX11_init ∈ WT := mem_T6 (i := 79) rfl rfl
theorem ql_L_17 : Cond.methodLink RL 17 yX11_status ∈ WT := mem_T6 (i := 222) rfl rfl
theorem ql_L_22 : Cond.methodLink RL 22 yX11_top ∈ WT := mem_T6 (i := 226) rfl rfl
theorem ql_L_26 : Cond.methodLink RL 26 yX11_bottom ∈ WT := mem_T6 (i := 230) rfl rfl
theorem ql_L_31 : Cond.methodLink RL 31 yX11_tray ∈ WT := mem_T6 (i := 234) rfl rfl
theorem ql_X11_86 : Cond.methodLink RX11 86 yX11_no ∈ WT := mem_T6 (i := 238) rfl rfl
theorem ql_L_38 : Cond.methodLink RL 38 yX11_write ∈ WT := mem_T7 (i := 2) rfl rfl
theorem ql_X11_94 : Cond.methodLink RX11 94 yX11_placed ∈ WT := mem_T7 (i := 6) rfl rfl
theorem ql_X11_90 : Cond.methodLink RX11 90 yX11_trayed ∈ WT := mem_T7 (i := 10) rfl rfl
theorem ql_X11_98 : Cond.methodLink RX11 98 yX11_cut ∈ WT := mem_T7 (i := 14) rfl rfl
theorem ql_L_43 : Cond.methodLink RL 43 yX11_read ∈ WT := mem_T7 (i := 17) rfl rfl
theorem ql_L_48 : Cond.methodLink RL 48 yX11_pour ∈ WT := mem_T7 (i := 22) rfl rfl
theorem ql_L_53 : Cond.methodLink RL 53 yX11_feed ∈ WT := mem_T7 (i := 26) rfl rfl
theorem ql_X11_251 : Cond.methodLink RX11 251 yX11_lay ∈ WT := mem_T7 (i := 30) rfl rfl
theorem ql_L_66 : Cond.methodLink RL 66 yX11_fault ∈ WT := mem_T7 (i := 34) rfl rfl
theorem ql_L_58 : Cond.methodLink RL 58 yX11_court ∈ WT := mem_T7 (i := 38) rfl rfl
theorem ql_X11_287 : Cond.methodLink RX11 287 yX11_starts ∈ WT := mem_T7 (i := 42) rfl rfl
theorem ql_X11_239 : Cond.methodLink RX11 239 yX11_next ∈ WT := mem_T7 (i := 46) rfl rfl
theorem ql_X11_123 : Cond.methodLink RX11 123 yX11_look2 ∈ WT := mem_T7 (i := 50) rfl rfl
theorem ql_X11_129 : Cond.methodLink RX11 129 yX11_isLetter ∈ WT := mem_T7 (i := 54) rfl rfl
theorem ql_X11_142 : Cond.methodLink RX11 142 yX11_isDigit ∈ WT := mem_T7 (i := 59) rfl rfl
theorem ql_X11_148 : Cond.methodLink RX11 148 yX11_isSignByte ∈ WT := mem_T7 (i := 62) rfl rfl
theorem ql_X11_174 : Cond.methodLink RX11 174 yX11_isJuror ∈ WT := mem_T7 (i := 66) rfl rfl
theorem ql_X11_151 : Cond.methodLink RX11 151 yX11_spelled ∈ WT := mem_T7 (i := 70) rfl rfl
theorem ql_X11_155 : Cond.methodLink RX11 155 yX11_isWord ∈ WT := mem_T7 (i := 73) rfl rfl
theorem ql_X11_290 : Cond.methodLink RX11 290 yX11_readJuror ∈ WT := mem_T7 (i := 77) rfl rfl
theorem ql_X11_274 : Cond.methodLink RX11 274 yX11_readNew ∈ WT := mem_T7 (i := 81) rfl rfl
theorem ql_X11_235 : Cond.methodLink RX11 235 yX11_fail ∈ WT := mem_T7 (i := 85) rfl rfl
theorem ql_X11_258 : Cond.methodLink RX11 258 yX11_isName ∈ WT := mem_T7 (i := 89) rfl rfl
theorem ql_X11_226 : Cond.methodLink RX11 226 yX11_isKept ∈ WT := mem_T7 (i := 93) rfl rfl
theorem ql_X11_177 : Cond.methodLink RX11 177 yX11_isLeans ∈ WT := mem_T7 (i := 97) rfl rfl
theorem ql_X11_180 : Cond.methodLink RX11 180 yX11_isLess ∈ WT := mem_T7 (i := 101) rfl rfl
theorem ql_X11_183 : Cond.methodLink RX11 183 yX11_isStubborn ∈ WT := mem_T7 (i := 105) rfl rfl
theorem ql_X11_186 : Cond.methodLink RX11 186 yX11_isPrice ∈ WT := mem_T7 (i := 111) rfl rfl
theorem ql_X11_189 : Cond.methodLink RX11 189 yX11_isSways ∈ WT := mem_T7 (i := 115) rfl rfl
theorem ql_X11_192 : Cond.methodLink RX11 192 yX11_isProof ∈ WT := mem_T7 (i := 119) rfl rfl
theorem ql_X11_195 : Cond.methodLink RX11 195 yX11_isFollows ∈ WT := mem_T7 (i := 123) rfl rfl
theorem ql_X11_198 : Cond.methodLink RX11 198 yX11_isGuilty ∈ WT := mem_T7 (i := 128) rfl rfl
theorem ql_X11_201 : Cond.methodLink RX11 201 yX11_isFree ∈ WT := mem_T7 (i := 132) rfl rfl
theorem ql_X11_204 : Cond.methodLink RX11 204 yX11_isOn ∈ WT := mem_T7 (i := 136) rfl rfl
theorem ql_X11_207 : Cond.methodLink RX11 207 yX11_isHunger ∈ WT := mem_T7 (i := 140) rfl rfl
theorem ql_X11_210 : Cond.methodLink RX11 210 yX11_isLaw ∈ WT := mem_T7 (i := 144) rfl rfl
theorem ql_X11_213 : Cond.methodLink RX11 213 yX11_lawWord ∈ WT := mem_T7 (i := 148) rfl rfl
theorem ql_X11_217 : Cond.methodLink RX11 217 yX11_stepWord ∈ WT := mem_T7 (i := 152) rfl rfl
theorem ql_X11_220 : Cond.methodLink RX11 220 yX11_testWord ∈ WT := mem_T7 (i := 157) rfl rfl
theorem ql_X11_167 : Cond.methodLink RX11 167 yX11_isWeather ∈ WT := mem_T7 (i := 161) rfl rfl
theorem ql_X11_171 : Cond.methodLink RX11 171 yX11_isCrop ∈ WT := mem_T7 (i := 165) rfl rfl
theorem ql_X11_223 : Cond.methodLink RX11 223 yX11_isEnd ∈ WT := mem_T7 (i := 169) rfl rfl
theorem ql_X11_242 : Cond.methodLink RX11 242 yX11_wrong ∈ WT := mem_T7 (i := 173) rfl rfl
theorem ql_X11_261 : Cond.methodLink RX11 261 yX11_named ∈ WT := mem_T7 (i := 177) rfl rfl
theorem ql_X11_255 : Cond.methodLink RX11 255 yX11_fromOf ∈ WT := mem_T7 (i := 181) rfl rfl
theorem ql_X11_277 : Cond.methodLink RX11 277 yX11_signed ∈ WT := mem_T7 (i := 184) rfl rfl
theorem ql_X11_245 : Cond.methodLink RX11 245 yX11_count ∈ WT := mem_T7 (i := 188) rfl rfl
theorem ql_X11_106 : Cond.methodLink RX11 106 yX11_isIn ∈ WT := mem_T7 (i := 192) rfl rfl
theorem ql_X11_293 : Cond.methodLink RX11 293 yX11_readSways ∈ WT := mem_T7 (i := 195) rfl rfl
theorem ql_X11_280 : Cond.methodLink RX11 280 yX11_readTold ∈ WT := mem_T7 (i := 199) rfl rfl
theorem ql_X11_267 : Cond.methodLink RX11 267 yX11_told ∈ WT := mem_T7 (i := 203) rfl rfl
theorem ql_X11_264 : Cond.methodLink RX11 264 Lib.Math.max.name ∈ WT := mem_T7 (i := 207) rfl rfl
theorem ql_X11_270 : Cond.methodLink RX11 270 yX11_must ∈ WT := mem_T7 (i := 208) rfl rfl
theorem ql_X11_296 : Cond.methodLink RX11 296 yX11_readProof ∈ WT := mem_T7 (i := 212) rfl rfl
theorem ql_X11_299 : Cond.methodLink RX11 299 yX11_readWeather ∈ WT := mem_T7 (i := 216) rfl rfl
theorem ql_X11_302 : Cond.methodLink RX11 302 yX11_readFollows ∈ WT := mem_T7 (i := 220) rfl rfl
theorem ql_X11_305 : Cond.methodLink RX11 305 yX11_readCrop ∈ WT := mem_T7 (i := 224) rfl rfl
theorem ql_X11_308 : Cond.methodLink RX11 308 yX11_readHunger ∈ WT := mem_T7 (i := 228) rfl rfl
theorem ql_X11_311 : Cond.methodLink RX11 311 yX11_readLaw ∈ WT := mem_T7 (i := 232) rfl rfl
theorem ql_X11_314 : Cond.methodLink RX11 314 yX11_isSign ∈ WT := mem_T7 (i := 236) rfl rfl
theorem ql_X11_317 : Cond.methodLink RX11 317 yX11_isWell ∈ WT := mem_T8 (i := 0) rfl rfl
theorem ql_X11_320 : Cond.methodLink RX11 320 yX11_copy ∈ WT := mem_T8 (i := 4) rfl rfl
theorem ql_L_62 : Cond.methodLink RL 62 yX11_weeks ∈ WT := mem_T8 (i := 8) rfl rfl
theorem ql_X11_332 : Cond.methodLink RX11 332 yX11_readStep ∈ WT := mem_T8 (i := 12) rfl rfl
theorem ql_X11_329 : Cond.methodLink RX11 329 yX11_readRest ∈ WT := mem_T8 (i := 16) rfl rfl
theorem ql_X11_323 : Cond.methodLink RX11 323 yX11_readTest ∈ WT := mem_T8 (i := 20) rfl rfl
theorem ql_L_70 : Cond.methodLink RL 70 yX11_many ∈ WT := mem_T8 (i := 24) rfl rfl
theorem ql_X11_340 : Cond.methodLink RX11 340 yX11_refuse ∈ WT := mem_T8 (i := 29) rfl rfl
theorem ql_L_75 : Cond.methodLink RL 75 yX11_juror ∈ WT := mem_T8 (i := 33) rfl rfl
theorem ql_X11_343 : Cond.methodLink RX11 343 yX11_isJurorAt ∈ WT := mem_T8 (i := 37) rfl rfl
theorem ql_L_79 : Cond.methodLink RL 79 yX11_sways ∈ WT := mem_T8 (i := 42) rfl rfl
theorem ql_L_83 : Cond.methodLink RL 83 yX11_proof ∈ WT := mem_T8 (i := 46) rfl rfl
theorem ql_L_87 : Cond.methodLink RL 87 yX11_follows ∈ WT := mem_T8 (i := 50) rfl rfl
theorem ql_X11_346 : Cond.methodLink RX11 346 yX11_isWeatherAt ∈ WT := mem_T8 (i := 54) rfl rfl
theorem ql_X11_349 : Cond.methodLink RX11 349 yX11_behindOf ∈ WT := mem_T8 (i := 58) rfl rfl
theorem ql_L_91 : Cond.methodLink RL 91 yX11_grows ∈ WT := mem_T8 (i := 62) rfl rfl
theorem ql_X11_352 : Cond.methodLink RX11 352 yX11_isCropAt ∈ WT := mem_T8 (i := 66) rfl rfl
theorem ql_X11_355 : Cond.methodLink RX11 355 yX11_growsOn ∈ WT := mem_T8 (i := 70) rfl rfl
theorem ql_L_95 : Cond.methodLink RL 95 yX11_crop ∈ WT := mem_T8 (i := 74) rfl rfl
theorem ql_L_99 : Cond.methodLink RL 99 yX11_copyLeanings ∈ WT := mem_T8 (i := 78) rfl rfl
theorem ql_X11_358 : Cond.methodLink RX11 358 yX11_isTray ∈ WT := mem_T8 (i := 82) rfl rfl
theorem ql_L_103 : Cond.methodLink RL 103 yX11_show ∈ WT := mem_T8 (i := 86) rfl rfl
theorem ql_X11_110 : Cond.methodLink RX11 110 yX11_has ∈ WT := mem_T8 (i := 90) rfl rfl
theorem ql_X11_368 : Cond.methodLink RX11 368 yX11_showsOne ∈ WT := mem_T8 (i := 93) rfl rfl
theorem ql_X11_361 : Cond.methodLink RX11 361 yX11_isSeated ∈ WT := mem_T8 (i := 97) rfl rfl
theorem ql_X11_364 : Cond.methodLink RX11 364 Lib.Math.abs.name ∈ WT := mem_T8 (i := 101) rfl rfl
theorem ql_X11_366 : Cond.methodLink RX11 366 yX11_cut_ ∈ WT := mem_T8 (i := 102) rfl rfl
theorem ql_X11_335 : Cond.methodLink RX11 335 Lib.Math.min.name ∈ WT := mem_T8 (i := 105) rfl rfl
theorem ql_L_107 : Cond.methodLink RL 107 yX11_talk ∈ WT := mem_T8 (i := 106) rfl rfl
theorem ql_X11_386 : Cond.methodLink RX11 386 yX11_talksFor ∈ WT := mem_T8 (i := 111) rfl rfl
theorem ql_X11_377 : Cond.methodLink RX11 377 yX11_talks ∈ WT := mem_T8 (i := 115) rfl rfl
theorem ql_X11_371 : Cond.methodLink RX11 371 yX11_pulled ∈ WT := mem_T8 (i := 119) rfl rfl
theorem ql_X11_374 : Cond.methodLink RX11 374 yX11_votesFor ∈ WT := mem_T8 (i := 123) rfl rfl
theorem ql_X11_389 : Cond.methodLink RX11 389 yX11_judged ∈ WT := mem_T8 (i := 127) rfl rfl
theorem ql_X11_380 : Cond.methodLink RX11 380 yX11_judge ∈ WT := mem_T8 (i := 131) rfl rfl
theorem ql_L_111 : Cond.methodLink RL 111 yX11_endDay ∈ WT := mem_T8 (i := 134) rfl rfl
theorem ql_X11_392 : Cond.methodLink RX11 392 yX11_endsDay ∈ WT := mem_T8 (i := 138) rfl rfl
theorem ql_L_116 : Cond.methodLink RL 116 yX11_strike ∈ WT := mem_T8 (i := 142) rfl rfl
theorem ql_X11_395 : Cond.methodLink RX11 395 yX11_strikesOne ∈ WT := mem_T8 (i := 146) rfl rfl
theorem ql_L_120 : Cond.methodLink RL 120 yX11_seat ∈ WT := mem_T8 (i := 150) rfl rfl
theorem ql_X11_398 : Cond.methodLink RX11 398 yX11_seatsOne ∈ WT := mem_T8 (i := 154) rfl rfl
theorem ql_L_124 : Cond.methodLink RL 124 yX11_bribe ∈ WT := mem_T8 (i := 158) rfl rfl
theorem ql_X11_401 : Cond.methodLink RX11 401 yX11_bribesOne ∈ WT := mem_T8 (i := 162) rfl rfl
theorem ql_L_129 : Cond.methodLink RL 129 yX11_lean ∈ WT := mem_T8 (i := 166) rfl rfl
theorem ql_L_133 : Cond.methodLink RL 133 yX11_votes ∈ WT := mem_T8 (i := 171) rfl rfl
theorem ql_L_137 : Cond.methodLink RL 137 yX11_verdict ∈ WT := mem_T8 (i := 175) rfl rfl
theorem ql_L_141 : Cond.methodLink RL 141 yX11_verdictBy ∈ WT := mem_T8 (i := 179) rfl rfl
theorem ql_L_145 : Cond.methodLink RL 145 yX11_swing ∈ WT := mem_T8 (i := 184) rfl rfl
theorem ql_L_149 : Cond.methodLink RL 149 yX11_lacks ∈ WT := mem_T8 (i := 188) rfl rfl
theorem ql_L_153 : Cond.methodLink RL 153 yX11_nearest ∈ WT := mem_T8 (i := 192) rfl rfl
theorem ql_X11_408 : Cond.methodLink RX11 408 yX11_farFrom ∈ WT := mem_T8 (i := 196) rfl rfl
theorem ql_L_157 : Cond.methodLink RL 157 yX11_pull ∈ WT := mem_T8 (i := 200) rfl rfl
theorem ql_L_161 : Cond.methodLink RL 161 yX11_behind ∈ WT := mem_T8 (i := 204) rfl rfl
theorem ql_L_165 : Cond.methodLink RL 165 yX11_settles ∈ WT := mem_T8 (i := 208) rfl rfl
theorem ql_X11_411 : Cond.methodLink RX11 411 yX11_keeps ∈ WT := mem_T8 (i := 212) rfl rfl
theorem ql_X11_414 : Cond.methodLink RX11 414 yX11_cameBefore ∈ WT := mem_T8 (i := 216) rfl rfl
theorem ql_X11_417 : Cond.methodLink RX11 417 yX11_gives ∈ WT := mem_T8 (i := 220) rfl rfl
theorem ql_L_169 : Cond.methodLink RL 169 yX11_after ∈ WT := mem_T8 (i := 224) rfl rfl
theorem ql_L_173 : Cond.methodLink RL 173 yX11_soonest ∈ WT := mem_T8 (i := 229) rfl rfl
theorem ql_X11_422 : Cond.methodLink RX11 422 yX11_isVerdict ∈ WT := mem_T8 (i := 233) rfl rfl
theorem ql_L_177 : Cond.methodLink RL 177 yX11_bestOrder ∈ WT := mem_T8 (i := 236) rfl rfl
theorem ql_X11_425 : Cond.methodLink RX11 425 yX11_orders ∈ WT := mem_T9 (i := 0) rfl rfl
theorem ql_L_181 : Cond.methodLink RL 181 yX11_orderAt ∈ WT := mem_T9 (i := 4) rfl rfl
theorem ql_L_186 : Cond.methodLink RL 186 yX11_bribes ∈ WT := mem_T9 (i := 8) rfl rfl
theorem ql_L_190 : Cond.methodLink RL 190 yX11_bribeSet ∈ WT := mem_T9 (i := 13) rfl rfl
theorem ql_L_194 : Cond.methodLink RL 194 yX11_strikes ∈ WT := mem_T9 (i := 17) rfl rfl
theorem ql_X11_441 : Cond.methodLink RX11 441 yX11_whyNoStrikes ∈ WT := mem_T9 (i := 21) rfl rfl
theorem ql_X11_438 : Cond.methodLink RX11 438 yX11_sizeOf ∈ WT := mem_T9 (i := 25) rfl rfl
theorem ql_X11_431 : Cond.methodLink RX11 431 yX11_plays ∈ WT := mem_T9 (i := 28) rfl rfl
theorem ql_L_198 : Cond.methodLink RL 198 yX11_firstStrike ∈ WT := mem_T9 (i := 32) rfl rfl
theorem ql_L_202 : Cond.methodLink RL 202 yX11_drawn ∈ WT := mem_T9 (i := 36) rfl rfl
theorem ql_X11_444 : Cond.methodLink RX11 444 yX11_fraction ∈ WT := mem_T9 (i := 40) rfl rfl
theorem ql_X11_80 : Cond.methodLink RX11 80 Lib.MathLoose.abs_long.x ∈ WT := mem_T9 (i := 44) rfl rfl
theorem ql_L_206 : Cond.methodLink RL 206 yX11_row ∈ WT := mem_T9 (i := 45) rfl rfl
theorem ql_X11_457 : Cond.methodLink RX11 457 yX11_goesRow ∈ WT := mem_T9 (i := 49) rfl rfl
theorem ql_X11_450 : Cond.methodLink RX11 450 yX11_numberOf ∈ WT := mem_T9 (i := 54) rfl rfl
theorem ql_X11_460 : Cond.methodLink RX11 460 yX11_growsRow ∈ WT := mem_T9 (i := 58) rfl rfl
theorem ql_L_210 : Cond.methodLink RL 210 yX11_rowGrows ∈ WT := mem_T9 (i := 62) rfl rfl
theorem ql_L_214 : Cond.methodLink RL 214 yX11_way ∈ WT := mem_T9 (i := 66) rfl rfl
theorem ql_X11_463 : Cond.methodLink RX11 463 yX11_behindSet ∈ WT := mem_T9 (i := 70) rfl rfl
theorem ql_L_226 : Cond.methodLink RL 226 yX11_reach ∈ WT := mem_T9 (i := 74) rfl rfl
theorem ql_L_218 : Cond.methodLink RL 218 yX11_harvest ∈ WT := mem_T9 (i := 78) rfl rfl
theorem ql_X11_466 : Cond.methodLink RX11 466 yX11_whyNoHarvest ∈ WT := mem_T9 (i := 82) rfl rfl
theorem ql_X11_469 : Cond.methodLink RX11 469 yX11_harvests ∈ WT := mem_T9 (i := 86) rfl rfl
theorem ql_L_222 : Cond.methodLink RL 222 yX11_harvestNow ∈ WT := mem_T9 (i := 90) rfl rfl
theorem ql_L_230 : Cond.methodLink RL 230 yX11_live ∈ WT := mem_T9 (i := 94) rfl rfl
theorem ql_X11_520 : Cond.methodLink RX11 520 yX11_runs ∈ WT := mem_T9 (i := 99) rfl rfl
theorem ql_X11_512 : Cond.methodLink RX11 512 yX11_doAll ∈ WT := mem_T9 (i := 103) rfl rfl
theorem ql_X11_515 : Cond.methodLink RX11 515 yX11_doOne ∈ WT := mem_T9 (i := 107) rfl rfl
theorem ql_X11_506 : Cond.methodLink RX11 506 yX11_does ∈ WT := mem_T9 (i := 111) rfl rfl
theorem ql_X11_488 : Cond.methodLink RX11 488 yX11_dayEnds ∈ WT := mem_T9 (i := 115) rfl rfl
theorem ql_X11_491 : Cond.methodLink RX11 491 yX11_moods ∈ WT := mem_T9 (i := 119) rfl rfl
theorem ql_X11_476 : Cond.methodLink RX11 476 yX11_draw ∈ WT := mem_T9 (i := 123) rfl rfl
theorem ql_X11_509 : Cond.methodLink RX11 509 yX11_isSo ∈ WT := mem_T9 (i := 128) rfl rfl
theorem ql_L_234 : Cond.methodLink RL 234 yX11_lived ∈ WT := mem_T9 (i := 132) rfl rfl
theorem ql_L_238 : Cond.methodLink RL 238 yX11_mean ∈ WT := mem_T9 (i := 137) rfl rfl
theorem ql_L_242 : Cond.methodLink RL 242 yX11_mark ∈ WT := mem_T9 (i := 141) rfl rfl
theorem ql_L_246 : Cond.methodLink RL 246 yX11_back ∈ WT := mem_T9 (i := 145) rfl rfl
