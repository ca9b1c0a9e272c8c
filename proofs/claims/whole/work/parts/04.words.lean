theorem bw_X0 : ∀ w ∈ u_ws RX0 TX0 10, w ∈ BIG := big_ws [272, 274, 276, 278, 280, 282, 284, 286, 288, 290] (by decide +kernel) (by decide +kernel)
theorem bi_X0 : Cond.instantiable RX0 10 ∈ BIG := big_1 (i := 138) rfl rfl
theorem bw_X1 : ∀ w ∈ u_ws RX1 TX1 8, w ∈ BIG := big_ws [232, 234, 236, 238, 240, 242, 244, 246] (by decide +kernel) (by decide +kernel)
theorem bi_X1 : Cond.instantiable RX1 8 ∈ BIG := big_1 (i := 145) rfl rfl
theorem bw_X2 : ∀ w ∈ u_ws RX2 TX2 7, w ∈ BIG := big_ws [398, 400, 402, 404, 406, 408, 410] (by decide +kernel) (by decide +kernel)
theorem bi_X2 : Cond.instantiable RX2 7 ∈ BIG := big_2 (i := 85) rfl rfl
theorem bw_X3 : ∀ w ∈ u_ws RX3 TX3 6, w ∈ BIG := big_ws [346, 348, 350, 352, 354, 356] (by decide +kernel) (by decide +kernel)
theorem bi_X3 : Cond.instantiable RX3 6 ∈ BIG := big_2 (i := 33) rfl rfl
theorem bw_X4 : ∀ w ∈ u_ws RX4 TX4 4, w ∈ BIG := big_ws [372, 374, 376, 378] (by decide +kernel) (by decide +kernel)
theorem bi_X4 : Cond.instantiable RX4 4 ∈ BIG := big_2 (i := 63) rfl rfl
theorem bw_X5 : ∀ w ∈ u_ws RX5 TX5 3, w ∈ BIG := big_ws [187, 189, 191] (by decide +kernel) (by decide +kernel)
theorem bi_X5 : Cond.instantiable RX5 3 ∈ BIG := big_1 (i := 103) rfl rfl
theorem bw_X6 : ∀ w ∈ u_ws RX6 TX6 7, w ∈ BIG := big_ws [144, 146, 148, 150, 152, 154, 156] (by decide +kernel) (by decide +kernel)
theorem bi_X6 : Cond.instantiable RX6 7 ∈ BIG := big_1 (i := 70) rfl rfl
theorem bw_X7 : ∀ w ∈ u_ws RX7 TX7 5, w ∈ BIG := big_ws [114, 116, 118, 120, 122] (by decide +kernel) (by decide +kernel)
theorem bi_X7 : Cond.instantiable RX7 5 ∈ BIG := big_1 (i := 45) rfl rfl
theorem bw_X8 : ∀ w ∈ u_ws RX8 TX8 4, w ∈ BIG := big_ws [427, 429, 431, 433] (by decide +kernel) (by decide +kernel)
theorem bi_X8 : Cond.instantiable RX8 4 ∈ BIG := big_2 (i := 118) rfl rfl
theorem bw_X9 : ∀ w ∈ u_ws RX9 TX9 2, w ∈ BIG := big_ws [95, 97] (by decide +kernel) (by decide +kernel)
theorem bi_X9 : Cond.instantiable RX9 2 ∈ BIG := big_1 (i := 29) rfl rfl
theorem bw_X10 : ∀ w ∈ u_ws RX10 TX10 7, w ∈ BIG := big_ws [314, 316, 318, 320, 322, 324, 326] (by decide +kernel) (by decide +kernel)
theorem bi_X10 : Cond.instantiable RX10 7 ∈ BIG := big_1 (i := 237) rfl rfl
theorem bw_X11 : ∀ w ∈ u_ws RX11 TX11 17, w ∈ BIG := big_ws [453, 455, 457, 459, 461, 463, 465, 467, 469, 471, 473, 475, 477, 479, 481, 483, 485] (by decide +kernel) (by decide +kernel)
theorem bi_X11 : Cond.instantiable RX11 17 ∈ BIG := big_1 (i := 21) rfl rfl
theorem bw_X12 : ∀ w ∈ u_ws RX12 TX12 62, w ∈ BIG := big_ws [1096, 1098, 1100, 1102, 1104, 1106, 1108, 1110, 1112, 1114, 1116, 1118, 1120, 1122, 1124, 1126, 1128, 1130, 1132, 1134, 1136, 1138, 1140, 1142, 1144, 1146, 1148, 1150, 1152, 1154, 1156, 1158, 1160, 1162, 1164, 1166, 1168, 1170, 1172, 1174, 1176, 1178, 1180, 1182, 1184, 1186, 1188, 1190, 1192, 1194, 1196, 1198, 1200, 1202, 1204, 1206, 1208, 1210, 1212, 1214, 1216, 1218] (by decide +kernel) (by decide +kernel)
theorem bi_X12 : Cond.instantiable RX12 62 ∈ BIG := big_5 (i := 12) rfl rfl
theorem in_L : Cond.initialized RL ∈ BIG := big_1 (i := 0) rfl rfl
theorem in_X11 : Cond.initialized RX11 ∈ BIG := big_1 (i := 1) rfl rfl
theorem in_X9 : Cond.initialized RX9 ∈ BIG := big_1 (i := 2) rfl rfl
theorem in_X7 : Cond.initialized RX7 ∈ BIG := big_1 (i := 3) rfl rfl
theorem in_X6 : Cond.initialized RX6 ∈ BIG := big_1 (i := 4) rfl rfl
theorem in_X5 : Cond.initialized RX5 ∈ BIG := big_1 (i := 5) rfl rfl
theorem in_X0 : Cond.initialized RX0 ∈ BIG := big_1 (i := 6) rfl rfl
theorem in_X1 : Cond.initialized RX1 ∈ BIG := big_1 (i := 7) rfl rfl
theorem in_X10 : Cond.initialized RX10 ∈ BIG := big_1 (i := 8) rfl rfl
theorem in_X3 : Cond.initialized RX3 ∈ BIG := big_1 (i := 9) rfl rfl
theorem in_X4 : Cond.initialized RX4 ∈ BIG := big_1 (i := 10) rfl rfl
theorem in_X2 : Cond.initialized RX2 ∈ BIG := big_1 (i := 11) rfl rfl
theorem in_X8 : Cond.initialized RX8 ∈ BIG := big_1 (i := 12) rfl rfl
theorem in_X12 : Cond.initialized RX12 ∈ BIG := big_1 (i := 13) rfl rfl
theorem in_J0 : Cond.initialized RJ0 ∈ BIG := big_1 (i := 14) rfl rfl
theorem in_J1 : Cond.initialized RJ1 ∈ BIG := big_1 (i := 15) rfl rfl
theorem in_J3 : Cond.initialized RJ3 ∈ BIG := big_1 (i := 16) rfl rfl
theorem in_J2 : Cond.initialized RJ2 ∈ BIG := big_1 (i := 17) rfl rfl
theorem in_J6 : Cond.initialized RJ6 ∈ BIG := big_1 (i := 18) rfl rfl
theorem in_J9 : Cond.initialized RJ9 ∈ BIG := big_1 (i := 19) rfl rfl
theorem fl_X9_9 : FL RX9 9 9 2 0 := ⟨RX9, TX9, rfl, Nat.le_of_ble_eq_true rfl, bw_X9, big_1 (i := 34) rfl rfl, rfl⟩
theorem fl_X9_13 : FL RX9 13 9 2 1 := ⟨RX9, TX9, rfl, Nat.le_of_ble_eq_true rfl, bw_X9, big_1 (i := 35) rfl rfl, rfl⟩
theorem fl_X11_119 : FL RX11 119 9 2 1 := ⟨RX9, TX9, rfl, Nat.le_of_ble_eq_true rfl, bw_X9, big_1 (i := 36) rfl rfl, rfl⟩
theorem fl_X6_116 : FL RX6 116 9 2 1 := ⟨RX9, TX9, rfl, Nat.le_of_ble_eq_true rfl, bw_X9, big_1 (i := 37) rfl rfl, rfl⟩
theorem fl_X7_11 : FL RX7 11 7 5 0 := ⟨RX7, TX7, rfl, Nat.le_of_ble_eq_true rfl, bw_X7, big_1 (i := 50) rfl rfl, rfl⟩
theorem fl_X7_15 : FL RX7 15 7 5 1 := ⟨RX7, TX7, rfl, Nat.le_of_ble_eq_true rfl, bw_X7, big_1 (i := 51) rfl rfl, rfl⟩
theorem fl_X7_18 : FL RX7 18 7 5 2 := ⟨RX7, TX7, rfl, Nat.le_of_ble_eq_true rfl, bw_X7, big_1 (i := 52) rfl rfl, rfl⟩
theorem fl_X7_21 : FL RX7 21 7 5 3 := ⟨RX7, TX7, rfl, Nat.le_of_ble_eq_true rfl, bw_X7, big_1 (i := 53) rfl rfl, rfl⟩
theorem fl_X7_24 : FL RX7 24 7 5 4 := ⟨RX7, TX7, rfl, Nat.le_of_ble_eq_true rfl, bw_X7, big_1 (i := 54) rfl rfl, rfl⟩
theorem fl_X6_22 : FL RX6 22 7 5 4 := ⟨RX7, TX7, rfl, Nat.le_of_ble_eq_true rfl, bw_X7, big_1 (i := 55) rfl rfl, rfl⟩
theorem fl_X11_135 : FL RX11 135 7 5 4 := ⟨RX7, TX7, rfl, Nat.le_of_ble_eq_true rfl, bw_X7, big_1 (i := 56) rfl rfl, rfl⟩
theorem fl_X6_18 : FL RX6 18 6 7 0 := ⟨RX6, TX6, rfl, Nat.le_of_ble_eq_true rfl, bw_X6, big_1 (i := 77) rfl rfl, rfl⟩
theorem fl_X6_12 : FL RX6 12 6 7 1 := ⟨RX6, TX6, rfl, Nat.le_of_ble_eq_true rfl, bw_X6, big_1 (i := 78) rfl rfl, rfl⟩
theorem fl_X11_129 : FL RX11 129 6 7 1 := ⟨RX6, TX6, rfl, Nat.le_of_ble_eq_true rfl, bw_X6, big_1 (i := 79) rfl rfl, rfl⟩
theorem fl_X6_26 : FL RX6 26 6 7 2 := ⟨RX6, TX6, rfl, Nat.le_of_ble_eq_true rfl, bw_X6, big_1 (i := 80) rfl rfl, rfl⟩
theorem fl_X11_138 : FL RX11 138 6 7 2 := ⟨RX6, TX6, rfl, Nat.le_of_ble_eq_true rfl, bw_X6, big_1 (i := 81) rfl rfl, rfl⟩
theorem fl_X6_83 : FL RX6 83 6 7 3 := ⟨RX6, TX6, rfl, Nat.le_of_ble_eq_true rfl, bw_X6, big_1 (i := 82) rfl rfl, rfl⟩
theorem fl_X11_126 : FL RX11 126 6 7 3 := ⟨RX6, TX6, rfl, Nat.le_of_ble_eq_true rfl, bw_X6, big_1 (i := 83) rfl rfl, rfl⟩
theorem fl_X6_29 : FL RX6 29 6 7 4 := ⟨RX6, TX6, rfl, Nat.le_of_ble_eq_true rfl, bw_X6, big_1 (i := 84) rfl rfl, rfl⟩
theorem fl_X6_35 : FL RX6 35 6 7 5 := ⟨RX6, TX6, rfl, Nat.le_of_ble_eq_true rfl, bw_X6, big_1 (i := 85) rfl rfl, rfl⟩
theorem fl_X6_96 : FL RX6 96 6 7 6 := ⟨RX6, TX6, rfl, Nat.le_of_ble_eq_true rfl, bw_X6, big_1 (i := 86) rfl rfl, rfl⟩
theorem fl_X5_15 : FL RX5 15 5 3 0 := ⟨RX5, TX5, rfl, Nat.le_of_ble_eq_true rfl, bw_X5, big_1 (i := 123) rfl rfl, rfl⟩
theorem fl_X5_9 : FL RX5 9 5 3 1 := ⟨RX5, TX5, rfl, Nat.le_of_ble_eq_true rfl, bw_X5, big_1 (i := 124) rfl rfl, rfl⟩
theorem fl_X1_30 : FL RX1 30 5 3 1 := ⟨RX5, TX5, rfl, Nat.le_of_ble_eq_true rfl, bw_X5, big_1 (i := 125) rfl rfl, rfl⟩
theorem fl_X11_108 : FL RX11 108 5 3 2 := ⟨RX5, TX5, rfl, Nat.le_of_ble_eq_true rfl, bw_X5, big_1 (i := 126) rfl rfl, rfl⟩
theorem fl_X5_22 : FL RX5 22 5 3 2 := ⟨RX5, TX5, rfl, Nat.le_of_ble_eq_true rfl, bw_X5, big_1 (i := 127) rfl rfl, rfl⟩
theorem fl_X1_22 : FL RX1 22 5 3 2 := ⟨RX5, TX5, rfl, Nat.le_of_ble_eq_true rfl, bw_X5, big_1 (i := 128) rfl rfl, rfl⟩
theorem fl_X0_52 : FL RX0 52 5 3 2 := ⟨RX5, TX5, rfl, Nat.le_of_ble_eq_true rfl, bw_X5, big_1 (i := 129) rfl rfl, rfl⟩
theorem fl_X0_43 : FL RX0 43 1 8 0 := ⟨RX1, TX1, rfl, Nat.le_of_ble_eq_true rfl, bw_X1, big_1 (i := 150) rfl rfl, rfl⟩
theorem fl_X1_33 : FL RX1 33 1 8 0 := ⟨RX1, TX1, rfl, Nat.le_of_ble_eq_true rfl, bw_X1, big_1 (i := 151) rfl rfl, rfl⟩
theorem fl_X4_68 : FL RX4 68 1 8 0 := ⟨RX1, TX1, rfl, Nat.le_of_ble_eq_true rfl, bw_X1, big_1 (i := 152) rfl rfl, rfl⟩
theorem fl_X11_161 : FL RX11 161 1 8 0 := ⟨RX1, TX1, rfl, Nat.le_of_ble_eq_true rfl, bw_X1, big_1 (i := 153) rfl rfl, rfl⟩
theorem fl_X0_46 : FL RX0 46 1 8 1 := ⟨RX1, TX1, rfl, Nat.le_of_ble_eq_true rfl, bw_X1, big_1 (i := 154) rfl rfl, rfl⟩
theorem fl_X1_40 : FL RX1 40 1 8 1 := ⟨RX1, TX1, rfl, Nat.le_of_ble_eq_true rfl, bw_X1, big_1 (i := 155) rfl rfl, rfl⟩
theorem fl_X11_166 : FL RX11 166 1 8 1 := ⟨RX1, TX1, rfl, Nat.le_of_ble_eq_true rfl, bw_X1, big_1 (i := 156) rfl rfl, rfl⟩
theorem fl_X0_49 : FL RX0 49 1 8 2 := ⟨RX1, TX1, rfl, Nat.le_of_ble_eq_true rfl, bw_X1, big_1 (i := 157) rfl rfl, rfl⟩
theorem fl_X11_172 : FL RX11 172 1 8 2 := ⟨RX1, TX1, rfl, Nat.le_of_ble_eq_true rfl, bw_X1, big_1 (i := 158) rfl rfl, rfl⟩
theorem fl_X1_27 : FL RX1 27 1 8 3 := ⟨RX1, TX1, rfl, Nat.le_of_ble_eq_true rfl, bw_X1, big_1 (i := 159) rfl rfl, rfl⟩
theorem fl_X0_57 : FL RX0 57 1 8 3 := ⟨RX1, TX1, rfl, Nat.le_of_ble_eq_true rfl, bw_X1, big_1 (i := 160) rfl rfl, rfl⟩
theorem fl_X11_175 : FL RX11 175 1 8 3 := ⟨RX1, TX1, rfl, Nat.le_of_ble_eq_true rfl, bw_X1, big_1 (i := 161) rfl rfl, rfl⟩
theorem fl_X0_76 : FL RX0 76 1 8 4 := ⟨RX1, TX1, rfl, Nat.le_of_ble_eq_true rfl, bw_X1, big_1 (i := 162) rfl rfl, rfl⟩
theorem fl_X11_200 : FL RX11 200 1 8 4 := ⟨RX1, TX1, rfl, Nat.le_of_ble_eq_true rfl, bw_X1, big_1 (i := 163) rfl rfl, rfl⟩
theorem fl_X1_18 : FL RX1 18 1 8 5 := ⟨RX1, TX1, rfl, Nat.le_of_ble_eq_true rfl, bw_X1, big_1 (i := 164) rfl rfl, rfl⟩
theorem fl_X0_70 : FL RX0 70 1 8 5 := ⟨RX1, TX1, rfl, Nat.le_of_ble_eq_true rfl, bw_X1, big_1 (i := 165) rfl rfl, rfl⟩
theorem fl_X11_178 : FL RX11 178 1 8 5 := ⟨RX1, TX1, rfl, Nat.le_of_ble_eq_true rfl, bw_X1, big_1 (i := 166) rfl rfl, rfl⟩
theorem fl_X1_9 : FL RX1 9 1 8 6 := ⟨RX1, TX1, rfl, Nat.le_of_ble_eq_true rfl, bw_X1, big_1 (i := 167) rfl rfl, rfl⟩
theorem fl_X0_60 : FL RX0 60 1 8 6 := ⟨RX1, TX1, rfl, Nat.le_of_ble_eq_true rfl, bw_X1, big_1 (i := 168) rfl rfl, rfl⟩
theorem fl_X1_15 : FL RX1 15 1 8 7 := ⟨RX1, TX1, rfl, Nat.le_of_ble_eq_true rfl, bw_X1, big_1 (i := 169) rfl rfl, rfl⟩
theorem fl_X2_64 : FL RX2 64 1 8 7 := ⟨RX1, TX1, rfl, Nat.le_of_ble_eq_true rfl, bw_X1, big_1 (i := 170) rfl rfl, rfl⟩
theorem fl_X0_63 : FL RX0 63 1 8 7 := ⟨RX1, TX1, rfl, Nat.le_of_ble_eq_true rfl, bw_X1, big_1 (i := 171) rfl rfl, rfl⟩
theorem fl_X10_68 : FL RX10 68 1 8 7 := ⟨RX1, TX1, rfl, Nat.le_of_ble_eq_true rfl, bw_X1, big_1 (i := 172) rfl rfl, rfl⟩
theorem fl_X4_71 : FL RX4 71 1 8 7 := ⟨RX1, TX1, rfl, Nat.le_of_ble_eq_true rfl, bw_X1, big_1 (i := 173) rfl rfl, rfl⟩
theorem fl_X11_169 : FL RX11 169 1 8 7 := ⟨RX1, TX1, rfl, Nat.le_of_ble_eq_true rfl, bw_X1, big_1 (i := 174) rfl rfl, rfl⟩
theorem fl_X0_34 : FL RX0 34 0 10 0 := ⟨RX0, TX0, rfl, Nat.le_of_ble_eq_true rfl, bw_X0, big_1 (i := 193) rfl rfl, rfl⟩
theorem fl_X10_28 : FL RX10 28 0 10 0 := ⟨RX0, TX0, rfl, Nat.le_of_ble_eq_true rfl, bw_X0, big_1 (i := 194) rfl rfl, rfl⟩
theorem fl_X2_83 : FL RX2 83 0 10 0 := ⟨RX0, TX0, rfl, Nat.le_of_ble_eq_true rfl, bw_X0, big_1 (i := 195) rfl rfl, rfl⟩
theorem fl_X0_11 : FL RX0 11 0 10 1 := ⟨RX0, TX0, rfl, Nat.le_of_ble_eq_true rfl, bw_X0, big_1 (i := 196) rfl rfl, rfl⟩
theorem fl_X4_25 : FL RX4 25 0 10 1 := ⟨RX0, TX0, rfl, Nat.le_of_ble_eq_true rfl, bw_X0, big_1 (i := 197) rfl rfl, rfl⟩
theorem fl_X10_37 : FL RX10 37 0 10 1 := ⟨RX0, TX0, rfl, Nat.le_of_ble_eq_true rfl, bw_X0, big_1 (i := 198) rfl rfl, rfl⟩
theorem fl_X2_52 : FL RX2 52 0 10 1 := ⟨RX0, TX0, rfl, Nat.le_of_ble_eq_true rfl, bw_X0, big_1 (i := 199) rfl rfl, rfl⟩
theorem fl_X11_157 : FL RX11 157 0 10 1 := ⟨RX0, TX0, rfl, Nat.le_of_ble_eq_true rfl, bw_X0, big_1 (i := 200) rfl rfl, rfl⟩
theorem fl_X0_39 : FL RX0 39 0 10 2 := ⟨RX0, TX0, rfl, Nat.le_of_ble_eq_true rfl, bw_X0, big_1 (i := 201) rfl rfl, rfl⟩
theorem fl_X4_19 : FL RX4 19 0 10 2 := ⟨RX0, TX0, rfl, Nat.le_of_ble_eq_true rfl, bw_X0, big_1 (i := 202) rfl rfl, rfl⟩
theorem fl_X10_34 : FL RX10 34 0 10 2 := ⟨RX0, TX0, rfl, Nat.le_of_ble_eq_true rfl, bw_X0, big_1 (i := 203) rfl rfl, rfl⟩
theorem fl_X2_67 : FL RX2 67 0 10 2 := ⟨RX0, TX0, rfl, Nat.le_of_ble_eq_true rfl, bw_X0, big_1 (i := 204) rfl rfl, rfl⟩
theorem fl_X11_385 : FL RX11 385 0 10 2 := ⟨RX0, TX0, rfl, Nat.le_of_ble_eq_true rfl, bw_X0, big_1 (i := 205) rfl rfl, rfl⟩
theorem fl_X0_17 : FL RX0 17 0 10 3 := ⟨RX0, TX0, rfl, Nat.le_of_ble_eq_true rfl, bw_X0, big_1 (i := 206) rfl rfl, rfl⟩
theorem fl_X0_104 : FL RX0 104 0 10 4 := ⟨RX0, TX0, rfl, Nat.le_of_ble_eq_true rfl, bw_X0, big_1 (i := 207) rfl rfl, rfl⟩
theorem fl_X11_398 : FL RX11 398 0 10 4 := ⟨RX0, TX0, rfl, Nat.le_of_ble_eq_true rfl, bw_X0, big_1 (i := 208) rfl rfl, rfl⟩
theorem fl_X0_21 : FL RX0 21 0 10 5 := ⟨RX0, TX0, rfl, Nat.le_of_ble_eq_true rfl, bw_X0, big_1 (i := 209) rfl rfl, rfl⟩
theorem fl_X0_25 : FL RX0 25 0 10 6 := ⟨RX0, TX0, rfl, Nat.le_of_ble_eq_true rfl, bw_X0, big_1 (i := 210) rfl rfl, rfl⟩
theorem fl_X0_28 : FL RX0 28 0 10 7 := ⟨RX0, TX0, rfl, Nat.le_of_ble_eq_true rfl, bw_X0, big_1 (i := 211) rfl rfl, rfl⟩
theorem fl_X0_31 : FL RX0 31 0 10 8 := ⟨RX0, TX0, rfl, Nat.le_of_ble_eq_true rfl, bw_X0, big_1 (i := 212) rfl rfl, rfl⟩
theorem fl_X0_73 : FL RX0 73 0 10 9 := ⟨RX0, TX0, rfl, Nat.le_of_ble_eq_true rfl, bw_X0, big_1 (i := 213) rfl rfl, rfl⟩
theorem fl_X11_394 : FL RX11 394 0 10 9 := ⟨RX0, TX0, rfl, Nat.le_of_ble_eq_true rfl, bw_X0, big_1 (i := 214) rfl rfl, rfl⟩
theorem fl_X11_225 : FL RX11 225 10 7 0 := ⟨RX10, TX10, rfl, Nat.le_of_ble_eq_true rfl, bw_X10, big_2 (i := 2) rfl rfl, rfl⟩
theorem fl_X3_30 : FL RX3 30 10 7 1 := ⟨RX10, TX10, rfl, Nat.le_of_ble_eq_true rfl, bw_X10, big_2 (i := 3) rfl rfl, rfl⟩
theorem fl_X10_47 : FL RX10 47 10 7 1 := ⟨RX10, TX10, rfl, Nat.le_of_ble_eq_true rfl, bw_X10, big_2 (i := 4) rfl rfl, rfl⟩
theorem fl_X11_229 : FL RX11 229 10 7 1 := ⟨RX10, TX10, rfl, Nat.le_of_ble_eq_true rfl, bw_X10, big_2 (i := 5) rfl rfl, rfl⟩
theorem fl_X10_9 : FL RX10 9 10 7 2 := ⟨RX10, TX10, rfl, Nat.le_of_ble_eq_true rfl, bw_X10, big_2 (i := 6) rfl rfl, rfl⟩
theorem fl_X3_25 : FL RX3 25 10 7 2 := ⟨RX10, TX10, rfl, Nat.le_of_ble_eq_true rfl, bw_X10, big_2 (i := 7) rfl rfl, rfl⟩
theorem fl_X11_230 : FL RX11 230 10 7 2 := ⟨RX10, TX10, rfl, Nat.le_of_ble_eq_true rfl, bw_X10, big_2 (i := 8) rfl rfl, rfl⟩
theorem fl_X10_15 : FL RX10 15 10 7 3 := ⟨RX10, TX10, rfl, Nat.le_of_ble_eq_true rfl, bw_X10, big_2 (i := 9) rfl rfl, rfl⟩
theorem fl_X11_272 : FL RX11 272 10 7 3 := ⟨RX10, TX10, rfl, Nat.le_of_ble_eq_true rfl, bw_X10, big_2 (i := 10) rfl rfl, rfl⟩
theorem fl_X10_18 : FL RX10 18 10 7 4 := ⟨RX10, TX10, rfl, Nat.le_of_ble_eq_true rfl, bw_X10, big_2 (i := 11) rfl rfl, rfl⟩
theorem fl_X11_271 : FL RX11 271 10 7 4 := ⟨RX10, TX10, rfl, Nat.le_of_ble_eq_true rfl, bw_X10, big_2 (i := 12) rfl rfl, rfl⟩
theorem fl_X10_21 : FL RX10 21 10 7 5 := ⟨RX10, TX10, rfl, Nat.le_of_ble_eq_true rfl, bw_X10, big_2 (i := 13) rfl rfl, rfl⟩
theorem fl_X11_268 : FL RX11 268 10 7 5 := ⟨RX10, TX10, rfl, Nat.le_of_ble_eq_true rfl, bw_X10, big_2 (i := 14) rfl rfl, rfl⟩
theorem fl_X10_25 : FL RX10 25 10 7 6 := ⟨RX10, TX10, rfl, Nat.le_of_ble_eq_true rfl, bw_X10, big_2 (i := 15) rfl rfl, rfl⟩
theorem fl_X11_275 : FL RX11 275 10 7 6 := ⟨RX10, TX10, rfl, Nat.le_of_ble_eq_true rfl, bw_X10, big_2 (i := 16) rfl rfl, rfl⟩
theorem fl_X3_9 : FL RX3 9 3 6 0 := ⟨RX3, TX3, rfl, Nat.le_of_ble_eq_true rfl, bw_X3, big_2 (i := 38) rfl rfl, rfl⟩
theorem fl_X11_239 : FL RX11 239 3 6 0 := ⟨RX3, TX3, rfl, Nat.le_of_ble_eq_true rfl, bw_X3, big_2 (i := 39) rfl rfl, rfl⟩
theorem fl_X3_21 : FL RX3 21 3 6 1 := ⟨RX3, TX3, rfl, Nat.le_of_ble_eq_true rfl, bw_X3, big_2 (i := 40) rfl rfl, rfl⟩
theorem fl_X11_242 : FL RX11 242 3 6 1 := ⟨RX3, TX3, rfl, Nat.le_of_ble_eq_true rfl, bw_X3, big_2 (i := 41) rfl rfl, rfl⟩
theorem fl_X3_15 : FL RX3 15 3 6 2 := ⟨RX3, TX3, rfl, Nat.le_of_ble_eq_true rfl, bw_X3, big_2 (i := 42) rfl rfl, rfl⟩
theorem fl_X11_259 : FL RX11 259 3 6 2 := ⟨RX3, TX3, rfl, Nat.le_of_ble_eq_true rfl, bw_X3, big_2 (i := 43) rfl rfl, rfl⟩
theorem fl_X3_56 : FL RX3 56 3 6 3 := ⟨RX3, TX3, rfl, Nat.le_of_ble_eq_true rfl, bw_X3, big_2 (i := 44) rfl rfl, rfl⟩
theorem fl_X11_256 : FL RX11 256 3 6 3 := ⟨RX3, TX3, rfl, Nat.le_of_ble_eq_true rfl, bw_X3, big_2 (i := 45) rfl rfl, rfl⟩
theorem fl_X3_59 : FL RX3 59 3 6 4 := ⟨RX3, TX3, rfl, Nat.le_of_ble_eq_true rfl, bw_X3, big_2 (i := 46) rfl rfl, rfl⟩
theorem fl_X11_262 : FL RX11 262 3 6 4 := ⟨RX3, TX3, rfl, Nat.le_of_ble_eq_true rfl, bw_X3, big_2 (i := 47) rfl rfl, rfl⟩
theorem fl_X3_18 : FL RX3 18 3 6 5 := ⟨RX3, TX3, rfl, Nat.le_of_ble_eq_true rfl, bw_X3, big_2 (i := 48) rfl rfl, rfl⟩
theorem fl_X4_15 : FL RX4 15 4 4 0 := ⟨RX4, TX4, rfl, Nat.le_of_ble_eq_true rfl, bw_X4, big_2 (i := 68) rfl rfl, rfl⟩
theorem fl_X4_9 : FL RX4 9 4 4 1 := ⟨RX4, TX4, rfl, Nat.le_of_ble_eq_true rfl, bw_X4, big_2 (i := 69) rfl rfl, rfl⟩
theorem fl_X11_306 : FL RX11 306 4 4 1 := ⟨RX4, TX4, rfl, Nat.le_of_ble_eq_true rfl, bw_X4, big_2 (i := 70) rfl rfl, rfl⟩
theorem fl_X4_62 : FL RX4 62 4 4 2 := ⟨RX4, TX4, rfl, Nat.le_of_ble_eq_true rfl, bw_X4, big_2 (i := 71) rfl rfl, rfl⟩
theorem fl_X11_322 : FL RX11 322 4 4 2 := ⟨RX4, TX4, rfl, Nat.le_of_ble_eq_true rfl, bw_X4, big_2 (i := 72) rfl rfl, rfl⟩
theorem fl_X4_65 : FL RX4 65 4 4 3 := ⟨RX4, TX4, rfl, Nat.le_of_ble_eq_true rfl, bw_X4, big_2 (i := 73) rfl rfl, rfl⟩
theorem fl_X11_325 : FL RX11 325 4 4 3 := ⟨RX4, TX4, rfl, Nat.le_of_ble_eq_true rfl, bw_X4, big_2 (i := 74) rfl rfl, rfl⟩
theorem fl_X2_18 : FL RX2 18 2 7 0 := ⟨RX2, TX2, rfl, Nat.le_of_ble_eq_true rfl, bw_X2, big_2 (i := 90) rfl rfl, rfl⟩
theorem fl_X2_46 : FL RX2 46 2 7 1 := ⟨RX2, TX2, rfl, Nat.le_of_ble_eq_true rfl, bw_X2, big_2 (i := 91) rfl rfl, rfl⟩
theorem fl_X11_331 : FL RX11 331 2 7 1 := ⟨RX2, TX2, rfl, Nat.le_of_ble_eq_true rfl, bw_X2, big_2 (i := 92) rfl rfl, rfl⟩
theorem fl_X2_49 : FL RX2 49 2 7 2 := ⟨RX2, TX2, rfl, Nat.le_of_ble_eq_true rfl, bw_X2, big_2 (i := 93) rfl rfl, rfl⟩
theorem fl_X11_334 : FL RX11 334 2 7 2 := ⟨RX2, TX2, rfl, Nat.le_of_ble_eq_true rfl, bw_X2, big_2 (i := 94) rfl rfl, rfl⟩
theorem fl_X2_39 : FL RX2 39 2 7 3 := ⟨RX2, TX2, rfl, Nat.le_of_ble_eq_true rfl, bw_X2, big_2 (i := 95) rfl rfl, rfl⟩
theorem fl_X11_337 : FL RX11 337 2 7 3 := ⟨RX2, TX2, rfl, Nat.le_of_ble_eq_true rfl, bw_X2, big_2 (i := 96) rfl rfl, rfl⟩
theorem fl_X2_43 : FL RX2 43 2 7 4 := ⟨RX2, TX2, rfl, Nat.le_of_ble_eq_true rfl, bw_X2, big_2 (i := 97) rfl rfl, rfl⟩
theorem fl_X11_340 : FL RX11 340 2 7 4 := ⟨RX2, TX2, rfl, Nat.le_of_ble_eq_true rfl, bw_X2, big_2 (i := 98) rfl rfl, rfl⟩
theorem fl_X2_11 : FL RX2 11 2 7 5 := ⟨RX2, TX2, rfl, Nat.le_of_ble_eq_true rfl, bw_X2, big_2 (i := 99) rfl rfl, rfl⟩
theorem fl_X2_15 : FL RX2 15 2 7 6 := ⟨RX2, TX2, rfl, Nat.le_of_ble_eq_true rfl, bw_X2, big_2 (i := 100) rfl rfl, rfl⟩
theorem fl_X8_11 : FL RX8 11 8 4 0 := ⟨RX8, TX8, rfl, Nat.le_of_ble_eq_true rfl, bw_X8, big_2 (i := 123) rfl rfl, rfl⟩
theorem fl_X11_377 : FL RX11 377 8 4 0 := ⟨RX8, TX8, rfl, Nat.le_of_ble_eq_true rfl, bw_X8, big_2 (i := 124) rfl rfl, rfl⟩
theorem fl_X8_15 : FL RX8 15 8 4 1 := ⟨RX8, TX8, rfl, Nat.le_of_ble_eq_true rfl, bw_X8, big_2 (i := 125) rfl rfl, rfl⟩
theorem fl_X11_369 : FL RX11 369 8 4 1 := ⟨RX8, TX8, rfl, Nat.le_of_ble_eq_true rfl, bw_X8, big_2 (i := 126) rfl rfl, rfl⟩
theorem fl_X8_19 : FL RX8 19 8 4 2 := ⟨RX8, TX8, rfl, Nat.le_of_ble_eq_true rfl, bw_X8, big_2 (i := 127) rfl rfl, rfl⟩
theorem fl_X8_23 : FL RX8 23 8 4 3 := ⟨RX8, TX8, rfl, Nat.le_of_ble_eq_true rfl, bw_X8, big_2 (i := 128) rfl rfl, rfl⟩
theorem fl_X11_401 : FL RX11 401 8 4 3 := ⟨RX8, TX8, rfl, Nat.le_of_ble_eq_true rfl, bw_X8, big_2 (i := 129) rfl rfl, rfl⟩
theorem fl_X11_10 : FL RX11 10 11 17 0 := ⟨RX11, TX11, rfl, Nat.le_of_ble_eq_true rfl, bw_X11, big_2 (i := 139) rfl rfl, rfl⟩
theorem fl_X11_19 : FL RX11 19 11 17 1 := ⟨RX11, TX11, rfl, Nat.le_of_ble_eq_true rfl, bw_X11, big_2 (i := 140) rfl rfl, rfl⟩
theorem fl_X11_28 : FL RX11 28 11 17 2 := ⟨RX11, TX11, rfl, Nat.le_of_ble_eq_true rfl, bw_X11, big_2 (i := 141) rfl rfl, rfl⟩
theorem fl_X11_37 : FL RX11 37 11 17 3 := ⟨RX11, TX11, rfl, Nat.le_of_ble_eq_true rfl, bw_X11, big_2 (i := 142) rfl rfl, rfl⟩
theorem fl_X11_46 : FL RX11 46 11 17 4 := ⟨RX11, TX11, rfl, Nat.le_of_ble_eq_true rfl, bw_X11, big_2 (i := 143) rfl rfl, rfl⟩
theorem fl_X11_53 : FL RX11 53 11 17 5 := ⟨RX11, TX11, rfl, Nat.le_of_ble_eq_true rfl, bw_X11, big_2 (i := 144) rfl rfl, rfl⟩
theorem fl_X11_60 : FL RX11 60 11 17 6 := ⟨RX11, TX11, rfl, Nat.le_of_ble_eq_true rfl, bw_X11, big_2 (i := 145) rfl rfl, rfl⟩
theorem fl_X11_69 : FL RX11 69 11 17 7 := ⟨RX11, TX11, rfl, Nat.le_of_ble_eq_true rfl, bw_X11, big_2 (i := 146) rfl rfl, rfl⟩
theorem fl_X11_76 : FL RX11 76 11 17 8 := ⟨RX11, TX11, rfl, Nat.le_of_ble_eq_true rfl, bw_X11, big_2 (i := 147) rfl rfl, rfl⟩
theorem fl_X11_82 : FL RX11 82 11 17 9 := ⟨RX11, TX11, rfl, Nat.le_of_ble_eq_true rfl, bw_X11, big_2 (i := 148) rfl rfl, rfl⟩
theorem fl_X11_87 : FL RX11 87 11 17 10 := ⟨RX11, TX11, rfl, Nat.le_of_ble_eq_true rfl, bw_X11, big_2 (i := 149) rfl rfl, rfl⟩
theorem fl_X11_91 : FL RX11 91 11 17 11 := ⟨RX11, TX11, rfl, Nat.le_of_ble_eq_true rfl, bw_X11, big_2 (i := 150) rfl rfl, rfl⟩
theorem fl_X11_94 : FL RX11 94 11 17 12 := ⟨RX11, TX11, rfl, Nat.le_of_ble_eq_true rfl, bw_X11, big_2 (i := 151) rfl rfl, rfl⟩
theorem fl_X11_97 : FL RX11 97 11 17 13 := ⟨RX11, TX11, rfl, Nat.le_of_ble_eq_true rfl, bw_X11, big_2 (i := 152) rfl rfl, rfl⟩
theorem fl_X11_100 : FL RX11 100 11 17 14 := ⟨RX11, TX11, rfl, Nat.le_of_ble_eq_true rfl, bw_X11, big_2 (i := 153) rfl rfl, rfl⟩
theorem fl_X11_351 : FL RX11 351 11 17 15 := ⟨RX11, TX11, rfl, Nat.le_of_ble_eq_true rfl, bw_X11, big_2 (i := 154) rfl rfl, rfl⟩
theorem fl_X11_387 : FL RX11 387 11 17 16 := ⟨RX11, TX11, rfl, Nat.le_of_ble_eq_true rfl, bw_X11, big_2 (i := 155) rfl rfl, rfl⟩
theorem fl_X12_132 : FL RX12 132 12 62 0 := ⟨RX12, TX12, rfl, Nat.le_of_ble_eq_true rfl, bw_X12, big_5 (i := 17) rfl rfl, rfl⟩
theorem fl_X12_7 : FL RX12 7 12 62 1 := ⟨RX12, TX12, rfl, Nat.le_of_ble_eq_true rfl, bw_X12, big_5 (i := 18) rfl rfl, rfl⟩
theorem fl_X12_141 : FL RX12 141 12 62 2 := ⟨RX12, TX12, rfl, Nat.le_of_ble_eq_true rfl, bw_X12, big_5 (i := 19) rfl rfl, rfl⟩
theorem fl_X12_204 : FL RX12 204 12 62 3 := ⟨RX12, TX12, rfl, Nat.le_of_ble_eq_true rfl, bw_X12, big_5 (i := 20) rfl rfl, rfl⟩
theorem fl_X12_144 : FL RX12 144 12 62 4 := ⟨RX12, TX12, rfl, Nat.le_of_ble_eq_true rfl, bw_X12, big_5 (i := 21) rfl rfl, rfl⟩
theorem fl_X12_150 : FL RX12 150 12 62 5 := ⟨RX12, TX12, rfl, Nat.le_of_ble_eq_true rfl, bw_X12, big_5 (i := 22) rfl rfl, rfl⟩
theorem fl_X12_153 : FL RX12 153 12 62 6 := ⟨RX12, TX12, rfl, Nat.le_of_ble_eq_true rfl, bw_X12, big_5 (i := 23) rfl rfl, rfl⟩
theorem fl_X12_147 : FL RX12 147 12 62 7 := ⟨RX12, TX12, rfl, Nat.le_of_ble_eq_true rfl, bw_X12, big_5 (i := 24) rfl rfl, rfl⟩
theorem fl_X12_163 : FL RX12 163 12 62 8 := ⟨RX12, TX12, rfl, Nat.le_of_ble_eq_true rfl, bw_X12, big_5 (i := 25) rfl rfl, rfl⟩
theorem fl_X12_160 : FL RX12 160 12 62 9 := ⟨RX12, TX12, rfl, Nat.le_of_ble_eq_true rfl, bw_X12, big_5 (i := 26) rfl rfl, rfl⟩
theorem fl_X12_13 : FL RX12 13 12 62 10 := ⟨RX12, TX12, rfl, Nat.le_of_ble_eq_true rfl, bw_X12, big_5 (i := 27) rfl rfl, rfl⟩
theorem fl_X12_16 : FL RX12 16 12 62 11 := ⟨RX12, TX12, rfl, Nat.le_of_ble_eq_true rfl, bw_X12, big_5 (i := 28) rfl rfl, rfl⟩
theorem fl_X12_207 : FL RX12 207 12 62 12 := ⟨RX12, TX12, rfl, Nat.le_of_ble_eq_true rfl, bw_X12, big_5 (i := 29) rfl rfl, rfl⟩
theorem fl_X12_19 : FL RX12 19 12 62 13 := ⟨RX12, TX12, rfl, Nat.le_of_ble_eq_true rfl, bw_X12, big_5 (i := 30) rfl rfl, rfl⟩
theorem fl_X12_22 : FL RX12 22 12 62 14 := ⟨RX12, TX12, rfl, Nat.le_of_ble_eq_true rfl, bw_X12, big_5 (i := 31) rfl rfl, rfl⟩
theorem fl_X12_25 : FL RX12 25 12 62 15 := ⟨RX12, TX12, rfl, Nat.le_of_ble_eq_true rfl, bw_X12, big_5 (i := 32) rfl rfl, rfl⟩
theorem fl_X12_28 : FL RX12 28 12 62 16 := ⟨RX12, TX12, rfl, Nat.le_of_ble_eq_true rfl, bw_X12, big_5 (i := 33) rfl rfl, rfl⟩
theorem fl_X12_31 : FL RX12 31 12 62 17 := ⟨RX12, TX12, rfl, Nat.le_of_ble_eq_true rfl, bw_X12, big_5 (i := 34) rfl rfl, rfl⟩
theorem fl_X12_181 : FL RX12 181 12 62 18 := ⟨RX12, TX12, rfl, Nat.le_of_ble_eq_true rfl, bw_X12, big_5 (i := 35) rfl rfl, rfl⟩
theorem fl_X12_34 : FL RX12 34 12 62 19 := ⟨RX12, TX12, rfl, Nat.le_of_ble_eq_true rfl, bw_X12, big_5 (i := 36) rfl rfl, rfl⟩
theorem fl_X12_37 : FL RX12 37 12 62 20 := ⟨RX12, TX12, rfl, Nat.le_of_ble_eq_true rfl, bw_X12, big_5 (i := 37) rfl rfl, rfl⟩
theorem fl_X12_40 : FL RX12 40 12 62 21 := ⟨RX12, TX12, rfl, Nat.le_of_ble_eq_true rfl, bw_X12, big_5 (i := 38) rfl rfl, rfl⟩
theorem fl_X12_43 : FL RX12 43 12 62 22 := ⟨RX12, TX12, rfl, Nat.le_of_ble_eq_true rfl, bw_X12, big_5 (i := 39) rfl rfl, rfl⟩
theorem fl_X12_46 : FL RX12 46 12 62 23 := ⟨RX12, TX12, rfl, Nat.le_of_ble_eq_true rfl, bw_X12, big_5 (i := 40) rfl rfl, rfl⟩
theorem fl_X12_232 : FL RX12 232 12 62 24 := ⟨RX12, TX12, rfl, Nat.le_of_ble_eq_true rfl, bw_X12, big_5 (i := 41) rfl rfl, rfl⟩
theorem fl_X12_49 : FL RX12 49 12 62 25 := ⟨RX12, TX12, rfl, Nat.le_of_ble_eq_true rfl, bw_X12, big_5 (i := 42) rfl rfl, rfl⟩
theorem fl_X12_52 : FL RX12 52 12 62 26 := ⟨RX12, TX12, rfl, Nat.le_of_ble_eq_true rfl, bw_X12, big_5 (i := 43) rfl rfl, rfl⟩
theorem fl_X12_55 : FL RX12 55 12 62 27 := ⟨RX12, TX12, rfl, Nat.le_of_ble_eq_true rfl, bw_X12, big_5 (i := 44) rfl rfl, rfl⟩
theorem fl_X12_58 : FL RX12 58 12 62 28 := ⟨RX12, TX12, rfl, Nat.le_of_ble_eq_true rfl, bw_X12, big_5 (i := 45) rfl rfl, rfl⟩
theorem fl_X12_61 : FL RX12 61 12 62 29 := ⟨RX12, TX12, rfl, Nat.le_of_ble_eq_true rfl, bw_X12, big_5 (i := 46) rfl rfl, rfl⟩
theorem fl_X12_64 : FL RX12 64 12 62 30 := ⟨RX12, TX12, rfl, Nat.le_of_ble_eq_true rfl, bw_X12, big_5 (i := 47) rfl rfl, rfl⟩
theorem fl_X12_67 : FL RX12 67 12 62 31 := ⟨RX12, TX12, rfl, Nat.le_of_ble_eq_true rfl, bw_X12, big_5 (i := 48) rfl rfl, rfl⟩
theorem fl_X12_70 : FL RX12 70 12 62 32 := ⟨RX12, TX12, rfl, Nat.le_of_ble_eq_true rfl, bw_X12, big_5 (i := 49) rfl rfl, rfl⟩
theorem fl_X12_271 : FL RX12 271 12 62 33 := ⟨RX12, TX12, rfl, Nat.le_of_ble_eq_true rfl, bw_X12, big_5 (i := 50) rfl rfl, rfl⟩
theorem fl_X12_73 : FL RX12 73 12 62 34 := ⟨RX12, TX12, rfl, Nat.le_of_ble_eq_true rfl, bw_X12, big_5 (i := 51) rfl rfl, rfl⟩
theorem fl_X12_76 : FL RX12 76 12 62 35 := ⟨RX12, TX12, rfl, Nat.le_of_ble_eq_true rfl, bw_X12, big_5 (i := 52) rfl rfl, rfl⟩
theorem fl_X12_79 : FL RX12 79 12 62 36 := ⟨RX12, TX12, rfl, Nat.le_of_ble_eq_true rfl, bw_X12, big_5 (i := 53) rfl rfl, rfl⟩
theorem fl_X12_82 : FL RX12 82 12 62 37 := ⟨RX12, TX12, rfl, Nat.le_of_ble_eq_true rfl, bw_X12, big_5 (i := 54) rfl rfl, rfl⟩
theorem fl_X12_338 : FL RX12 338 12 62 38 := ⟨RX12, TX12, rfl, Nat.le_of_ble_eq_true rfl, bw_X12, big_5 (i := 55) rfl rfl, rfl⟩
theorem fl_X12_86 : FL RX12 86 12 62 39 := ⟨RX12, TX12, rfl, Nat.le_of_ble_eq_true rfl, bw_X12, big_5 (i := 56) rfl rfl, rfl⟩
theorem fl_X12_90 : FL RX12 90 12 62 40 := ⟨RX12, TX12, rfl, Nat.le_of_ble_eq_true rfl, bw_X12, big_5 (i := 57) rfl rfl, rfl⟩
theorem fl_X12_93 : FL RX12 93 12 62 41 := ⟨RX12, TX12, rfl, Nat.le_of_ble_eq_true rfl, bw_X12, big_5 (i := 58) rfl rfl, rfl⟩
theorem fl_X12_96 : FL RX12 96 12 62 42 := ⟨RX12, TX12, rfl, Nat.le_of_ble_eq_true rfl, bw_X12, big_5 (i := 59) rfl rfl, rfl⟩
theorem fl_X12_290 : FL RX12 290 12 62 43 := ⟨RX12, TX12, rfl, Nat.le_of_ble_eq_true rfl, bw_X12, big_5 (i := 60) rfl rfl, rfl⟩
theorem fl_X12_99 : FL RX12 99 12 62 44 := ⟨RX12, TX12, rfl, Nat.le_of_ble_eq_true rfl, bw_X12, big_5 (i := 61) rfl rfl, rfl⟩
theorem fl_X12_293 : FL RX12 293 12 62 45 := ⟨RX12, TX12, rfl, Nat.le_of_ble_eq_true rfl, bw_X12, big_5 (i := 62) rfl rfl, rfl⟩
theorem fl_X12_102 : FL RX12 102 12 62 46 := ⟨RX12, TX12, rfl, Nat.le_of_ble_eq_true rfl, bw_X12, big_5 (i := 63) rfl rfl, rfl⟩
theorem fl_X12_311 : FL RX12 311 12 62 47 := ⟨RX12, TX12, rfl, Nat.le_of_ble_eq_true rfl, bw_X12, big_5 (i := 64) rfl rfl, rfl⟩
theorem fl_X12_105 : FL RX12 105 12 62 48 := ⟨RX12, TX12, rfl, Nat.le_of_ble_eq_true rfl, bw_X12, big_5 (i := 65) rfl rfl, rfl⟩
theorem fl_X12_354 : FL RX12 354 12 62 49 := ⟨RX12, TX12, rfl, Nat.le_of_ble_eq_true rfl, bw_X12, big_5 (i := 66) rfl rfl, rfl⟩
theorem fl_X12_357 : FL RX12 357 12 62 50 := ⟨RX12, TX12, rfl, Nat.le_of_ble_eq_true rfl, bw_X12, big_5 (i := 67) rfl rfl, rfl⟩
theorem fl_X12_351 : FL RX12 351 12 62 51 := ⟨RX12, TX12, rfl, Nat.le_of_ble_eq_true rfl, bw_X12, big_5 (i := 68) rfl rfl, rfl⟩
theorem fl_X12_363 : FL RX12 363 12 62 52 := ⟨RX12, TX12, rfl, Nat.le_of_ble_eq_true rfl, bw_X12, big_5 (i := 69) rfl rfl, rfl⟩
theorem fl_X12_108 : FL RX12 108 12 62 53 := ⟨RX12, TX12, rfl, Nat.le_of_ble_eq_true rfl, bw_X12, big_5 (i := 70) rfl rfl, rfl⟩
theorem fl_X12_111 : FL RX12 111 12 62 54 := ⟨RX12, TX12, rfl, Nat.le_of_ble_eq_true rfl, bw_X12, big_5 (i := 71) rfl rfl, rfl⟩
theorem fl_X12_114 : FL RX12 114 12 62 55 := ⟨RX12, TX12, rfl, Nat.le_of_ble_eq_true rfl, bw_X12, big_5 (i := 72) rfl rfl, rfl⟩
theorem fl_X12_117 : FL RX12 117 12 62 56 := ⟨RX12, TX12, rfl, Nat.le_of_ble_eq_true rfl, bw_X12, big_5 (i := 73) rfl rfl, rfl⟩
theorem fl_X12_120 : FL RX12 120 12 62 57 := ⟨RX12, TX12, rfl, Nat.le_of_ble_eq_true rfl, bw_X12, big_5 (i := 74) rfl rfl, rfl⟩
theorem fl_X12_123 : FL RX12 123 12 62 58 := ⟨RX12, TX12, rfl, Nat.le_of_ble_eq_true rfl, bw_X12, big_5 (i := 75) rfl rfl, rfl⟩
theorem fl_X12_126 : FL RX12 126 12 62 59 := ⟨RX12, TX12, rfl, Nat.le_of_ble_eq_true rfl, bw_X12, big_5 (i := 76) rfl rfl, rfl⟩
theorem fl_X12_371 : FL RX12 371 12 62 60 := ⟨RX12, TX12, rfl, Nat.le_of_ble_eq_true rfl, bw_X12, big_5 (i := 77) rfl rfl, rfl⟩
theorem fl_X12_129 : FL RX12 129 12 62 61 := ⟨RX12, TX12, rfl, Nat.le_of_ble_eq_true rfl, bw_X12, big_5 (i := 78) rfl rfl, rfl⟩
theorem fp_X0_2 : FP 0 10 2 .int := ⟨RX0, TX0, tyX0, rfl, tyX0_ok, nmX0, rfl, rfl⟩
theorem fp_X0_4 : FP 0 10 4 .int := ⟨RX0, TX0, tyX0, rfl, tyX0_ok, nmX0, rfl, rfl⟩
theorem fp_X0_9 : FP 0 10 9 .int := ⟨RX0, TX0, tyX0, rfl, tyX0_ok, nmX0, rfl, rfl⟩
theorem fp_X1_0 : FP 1 8 0 .int := ⟨RX1, TX1, tyX1, rfl, tyX1_ok, nmX1, rfl, rfl⟩
theorem fp_X1_1 : FP 1 8 1 .int := ⟨RX1, TX1, tyX1, rfl, tyX1_ok, nmX1, rfl, rfl⟩
theorem fp_X1_2 : FP 1 8 2 .int := ⟨RX1, TX1, tyX1, rfl, tyX1_ok, nmX1, rfl, rfl⟩
theorem fp_X1_3 : FP 1 8 3 .int := ⟨RX1, TX1, tyX1, rfl, tyX1_ok, nmX1, rfl, rfl⟩
theorem fp_X1_4 : FP 1 8 4 .int := ⟨RX1, TX1, tyX1, rfl, tyX1_ok, nmX1, rfl, rfl⟩
theorem fp_X1_5 : FP 1 8 5 .int := ⟨RX1, TX1, tyX1, rfl, tyX1_ok, nmX1, rfl, rfl⟩
theorem fp_X2_1 : FP 2 7 1 .int := ⟨RX2, TX2, tyX2, rfl, tyX2_ok, nmX2, rfl, rfl⟩
theorem fp_X2_2 : FP 2 7 2 .int := ⟨RX2, TX2, tyX2, rfl, tyX2_ok, nmX2, rfl, rfl⟩
theorem fp_X2_3 : FP 2 7 3 .int := ⟨RX2, TX2, tyX2, rfl, tyX2_ok, nmX2, rfl, rfl⟩
theorem fp_X2_4 : FP 2 7 4 .int := ⟨RX2, TX2, tyX2, rfl, tyX2_ok, nmX2, rfl, rfl⟩
theorem fp_X3_1 : FP 3 6 1 .int := ⟨RX3, TX3, tyX3, rfl, tyX3_ok, nmX3, rfl, rfl⟩
theorem fp_X3_3 : FP 3 6 3 .int := ⟨RX3, TX3, tyX3, rfl, tyX3_ok, nmX3, rfl, rfl⟩
theorem fp_X3_4 : FP 3 6 4 .int := ⟨RX3, TX3, tyX3, rfl, tyX3_ok, nmX3, rfl, rfl⟩
theorem fp_X4_2 : FP 4 4 2 .int := ⟨RX4, TX4, tyX4, rfl, tyX4_ok, nmX4, rfl, rfl⟩
theorem fp_X4_3 : FP 4 4 3 .int := ⟨RX4, TX4, tyX4, rfl, tyX4_ok, nmX4, rfl, rfl⟩
theorem fp_X5_2 : FP 5 3 2 .int := ⟨RX5, TX5, tyX5, rfl, tyX5_ok, nmX5, rfl, rfl⟩
theorem fp_X6_2 : FP 6 7 2 .int := ⟨RX6, TX6, tyX6, rfl, tyX6_ok, nmX6, rfl, rfl⟩
theorem fp_X6_3 : FP 6 7 3 .int := ⟨RX6, TX6, tyX6, rfl, tyX6_ok, nmX6, rfl, rfl⟩
theorem fp_X6_4 : FP 6 7 4 .int := ⟨RX6, TX6, tyX6, rfl, tyX6_ok, nmX6, rfl, rfl⟩
theorem fp_X6_5 : FP 6 7 5 .int := ⟨RX6, TX6, tyX6, rfl, tyX6_ok, nmX6, rfl, rfl⟩
theorem fp_X6_6 : FP 6 7 6 .int := ⟨RX6, TX6, tyX6, rfl, tyX6_ok, nmX6, rfl, rfl⟩
theorem fp_X7_4 : FP 7 5 4 .int := ⟨RX7, TX7, tyX7, rfl, tyX7_ok, nmX7, rfl, rfl⟩
theorem fp_X8_1 : FP 8 4 1 .boolean := ⟨RX8, TX8, tyX8, rfl, tyX8_ok, nmX8, rfl, rfl⟩
theorem fp_X8_2 : FP 8 4 2 .int := ⟨RX8, TX8, tyX8, rfl, tyX8_ok, nmX8, rfl, rfl⟩
theorem fp_X8_3 : FP 8 4 3 .int := ⟨RX8, TX8, tyX8, rfl, tyX8_ok, nmX8, rfl, rfl⟩
theorem fp_X9_1 : FP 9 2 1 .int := ⟨RX9, TX9, tyX9, rfl, tyX9_ok, nmX9, rfl, rfl⟩
theorem fp_X10_0 : FP 10 7 0 .boolean := ⟨RX10, TX10, tyX10, rfl, tyX10_ok, nmX10, rfl, rfl⟩
theorem fp_X10_1 : FP 10 7 1 .int := ⟨RX10, TX10, tyX10, rfl, tyX10_ok, nmX10, rfl, rfl⟩
theorem fp_X10_5 : FP 10 7 5 .int := ⟨RX10, TX10, tyX10, rfl, tyX10_ok, nmX10, rfl, rfl⟩
theorem fp_X10_6 : FP 10 7 6 .int := ⟨RX10, TX10, tyX10, rfl, tyX10_ok, nmX10, rfl, rfl⟩
theorem fp_X11_15 : FP 11 17 15 .int := ⟨RX11, TX11, tyX11, rfl, tyX11_ok, nmX11, rfl, rfl⟩
theorem fp_X11_16 : FP 11 17 16 .int := ⟨RX11, TX11, tyX11, rfl, tyX11_ok, nmX11, rfl, rfl⟩
theorem fp_X12_0 : FP 12 62 0 .int := ⟨RX12, TX12, tyX12, rfl, tyX12_ok, nmX12, rfl, rfl⟩
theorem fp_X12_2 : FP 12 62 2 .int := ⟨RX12, TX12, tyX12, rfl, tyX12_ok, nmX12, rfl, rfl⟩
theorem fp_X12_3 : FP 12 62 3 .int := ⟨RX12, TX12, tyX12, rfl, tyX12_ok, nmX12, rfl, rfl⟩
theorem fp_X12_4 : FP 12 62 4 .int := ⟨RX12, TX12, tyX12, rfl, tyX12_ok, nmX12, rfl, rfl⟩
theorem fp_X12_5 : FP 12 62 5 .int := ⟨RX12, TX12, tyX12, rfl, tyX12_ok, nmX12, rfl, rfl⟩
theorem fp_X12_6 : FP 12 62 6 .int := ⟨RX12, TX12, tyX12, rfl, tyX12_ok, nmX12, rfl, rfl⟩
theorem fp_X12_7 : FP 12 62 7 .int := ⟨RX12, TX12, tyX12, rfl, tyX12_ok, nmX12, rfl, rfl⟩
theorem fp_X12_8 : FP 12 62 8 .int := ⟨RX12, TX12, tyX12, rfl, tyX12_ok, nmX12, rfl, rfl⟩
theorem fp_X12_9 : FP 12 62 9 .int := ⟨RX12, TX12, tyX12, rfl, tyX12_ok, nmX12, rfl, rfl⟩
theorem fp_X12_12 : FP 12 62 12 .int := ⟨RX12, TX12, tyX12, rfl, tyX12_ok, nmX12, rfl, rfl⟩
theorem fp_X12_18 : FP 12 62 18 .int := ⟨RX12, TX12, tyX12, rfl, tyX12_ok, nmX12, rfl, rfl⟩
theorem fp_X12_24 : FP 12 62 24 .int := ⟨RX12, TX12, tyX12, rfl, tyX12_ok, nmX12, rfl, rfl⟩
theorem fp_X12_33 : FP 12 62 33 .int := ⟨RX12, TX12, tyX12, rfl, tyX12_ok, nmX12, rfl, rfl⟩
theorem fp_X12_38 : FP 12 62 38 .int := ⟨RX12, TX12, tyX12, rfl, tyX12_ok, nmX12, rfl, rfl⟩
theorem fp_X12_39 : FP 12 62 39 .int := ⟨RX12, TX12, tyX12, rfl, tyX12_ok, nmX12, rfl, rfl⟩
theorem fp_X12_43 : FP 12 62 43 .int := ⟨RX12, TX12, tyX12, rfl, tyX12_ok, nmX12, rfl, rfl⟩
theorem fp_X12_45 : FP 12 62 45 .int := ⟨RX12, TX12, tyX12, rfl, tyX12_ok, nmX12, rfl, rfl⟩
theorem fp_X12_47 : FP 12 62 47 .int := ⟨RX12, TX12, tyX12, rfl, tyX12_ok, nmX12, rfl, rfl⟩
theorem fp_X12_49 : FP 12 62 49 .int := ⟨RX12, TX12, tyX12, rfl, tyX12_ok, nmX12, rfl, rfl⟩
theorem fp_X12_50 : FP 12 62 50 .int := ⟨RX12, TX12, tyX12, rfl, tyX12_ok, nmX12, rfl, rfl⟩
theorem fp_X12_51 : FP 12 62 51 .int := ⟨RX12, TX12, tyX12, rfl, tyX12_ok, nmX12, rfl, rfl⟩
theorem fp_X12_52 : FP 12 62 52 .int := ⟨RX12, TX12, tyX12, rfl, tyX12_ok, nmX12, rfl, rfl⟩
theorem fp_X12_60 : FP 12 62 60 .int := ⟨RX12, TX12, tyX12, rfl, tyX12_ok, nmX12, rfl, rfl⟩
theorem co_X11_init : Cond.code yX11_init cX11_init 2 none ∈ BIG := big_1 (i := 24) rfl rfl
theorem im_X11_init : Cond.instanceMethod yX11_init ∈ BIG := big_1 (i := 23) rfl rfl
theorem co_X9_init : Cond.code yX9_init cX9_init 1 none ∈ BIG := big_1 (i := 32) rfl rfl
theorem im_X9_init : Cond.instanceMethod yX9_init ∈ BIG := big_1 (i := 31) rfl rfl
theorem co_X7_init : Cond.code yX7_init cX7_init 1 none ∈ BIG := big_1 (i := 48) rfl rfl
theorem im_X7_init : Cond.instanceMethod yX7_init ∈ BIG := big_1 (i := 47) rfl rfl
theorem co_X6_init : Cond.code yX6_init cX6_init 2 none ∈ BIG := big_1 (i := 73) rfl rfl
theorem im_X6_init : Cond.instanceMethod yX6_init ∈ BIG := big_1 (i := 72) rfl rfl
theorem co_X5_init : Cond.code yX5_init cX5_init 2 none ∈ BIG := big_1 (i := 106) rfl rfl
theorem im_X5_init : Cond.instanceMethod yX5_init ∈ BIG := big_1 (i := 105) rfl rfl
theorem co_X5_refresh : Cond.code yX5_refresh cX5_refresh 2 none ∈ BIG := big_1 (i := 111) rfl rfl
theorem me_X5_refresh : ME RX5 yX5_refresh cX5_refresh 2 none := ⟨rfl, big_1 (i := 109) rfl rfl, big_1 (i := 110) rfl rfl, in_X5, co_X5_refresh⟩
theorem co_X7_value : Cond.code yX7_value cX7_value 5 (some .int) ∈ BIG := big_1 (i := 115) rfl rfl
theorem me_X7_value : ME RX7 yX7_value cX7_value 5 (some .int) := ⟨rfl, big_1 (i := 113) rfl rfl, big_1 (i := 114) rfl rfl, in_X7, co_X7_value⟩
theorem co_X7_latest : Cond.code yX7_latest cX7_latest 6 (some .int) ∈ BIG := big_1 (i := 119) rfl rfl
theorem me_X7_latest : ME RX7 yX7_latest cX7_latest 6 (some .int) := ⟨rfl, big_1 (i := 118) rfl rfl, big_in (i := 0) (by decide +kernel) rfl, in_X7, co_X7_latest⟩
theorem co_X7_usual : Cond.code yX7_usual cX7_usual 1 (some .int) ∈ BIG := big_1 (i := 122) rfl rfl
theorem me_X7_usual : MS yX7_usual cX7_usual 1 (some .int) := ⟨big_1 (i := 121) rfl rfl, in_X7, co_X7_usual⟩
theorem co_X0_init : Cond.code yX0_init cX0_init 3 none ∈ BIG := big_1 (i := 141) rfl rfl
theorem im_X0_init : Cond.instanceMethod yX0_init ∈ BIG := big_1 (i := 140) rfl rfl
theorem co_X1_init : Cond.code yX1_init cX1_init 1 none ∈ BIG := big_1 (i := 148) rfl rfl
theorem im_X1_init : Cond.instanceMethod yX1_init ∈ BIG := big_1 (i := 147) rfl rfl
theorem co_X10_init : Cond.code yX10_init cX10_init 1 none ∈ BIG := big_2 (i := 0) rfl rfl
theorem im_X10_init : Cond.instanceMethod yX10_init ∈ BIG := big_1 (i := 239) rfl rfl
theorem co_X3_init : Cond.code yX3_init cX3_init 1 none ∈ BIG := big_2 (i := 36) rfl rfl
theorem im_X3_init : Cond.instanceMethod yX3_init ∈ BIG := big_2 (i := 35) rfl rfl
theorem co_X4_init : Cond.code yX4_init cX4_init 2 none ∈ BIG := big_2 (i := 66) rfl rfl
theorem im_X4_init : Cond.instanceMethod yX4_init ∈ BIG := big_2 (i := 65) rfl rfl
theorem co_X2_init : Cond.code yX2_init cX2_init 2 none ∈ BIG := big_2 (i := 88) rfl rfl
theorem im_X2_init : Cond.instanceMethod yX2_init ∈ BIG := big_2 (i := 87) rfl rfl
theorem co_X8_init : Cond.code yX8_init cX8_init 1 none ∈ BIG := big_2 (i := 121) rfl rfl
theorem im_X8_init : Cond.instanceMethod yX8_init ∈ BIG := big_2 (i := 120) rfl rfl
theorem co_X11_day : Cond.code yX11_day cX11_day 3 (some .int) ∈ BIG := big_2 (i := 194) rfl rfl
theorem me_X11_day : ME RX11 yX11_day cX11_day 3 (some .int) := ⟨rfl, big_2 (i := 192) rfl rfl, big_2 (i := 193) rfl rfl, in_X11, co_X11_day⟩
theorem co_X11_isDay : Cond.code yX11_isDay cX11_isDay 1 (some .boolean) ∈ BIG := big_2 (i := 197) rfl rfl
theorem me_X11_isDay : MS yX11_isDay cX11_isDay 1 (some .boolean) := ⟨big_2 (i := 196) rfl rfl, in_X11, co_X11_isDay⟩
theorem co_X11_feed : Cond.code yX11_feed cX11_feed 3 (some .int) ∈ BIG := big_2 (i := 202) rfl rfl
theorem me_X11_feed : ME RX11 yX11_feed cX11_feed 3 (some .int) := ⟨rfl, big_2 (i := 200) rfl rfl, big_2 (i := 201) rfl rfl, in_X11, co_X11_feed⟩
theorem co_X9_add : Cond.code yX9_add cX9_add 4 (some .boolean) ∈ BIG := big_2 (i := 206) rfl rfl
theorem me_X9_add : ME RX9 yX9_add cX9_add 4 (some .boolean) := ⟨rfl, big_2 (i := 204) rfl rfl, big_2 (i := 205) rfl rfl, in_X9, co_X9_add⟩
theorem co_X11_end : Cond.code yX11_end cX11_end 3 (some .int) ∈ BIG := big_2 (i := 210) rfl rfl
theorem me_X11_end : ME RX11 yX11_end cX11_end 3 (some .int) := ⟨rfl, big_2 (i := 208) rfl rfl, big_2 (i := 209) rfl rfl, in_X11, co_X11_end⟩
theorem co_X11_text : Cond.code yX11_text cX11_text 2 (some .int) ∈ BIG := big_2 (i := 214) rfl rfl
theorem me_X11_text : ME RX11 yX11_text cX11_text 2 (some .int) := ⟨rfl, big_2 (i := 212) rfl rfl, big_2 (i := 213) rfl rfl, in_X11, co_X11_text⟩
theorem co_X6_readText : Cond.code yX6_readText cX6_readText 2 (some .boolean) ∈ BIG := big_2 (i := 218) rfl rfl
theorem me_X6_readText : ME RX6 yX6_readText cX6_readText 2 (some .boolean) := ⟨rfl, big_2 (i := 216) rfl rfl, big_2 (i := 217) rfl rfl, in_X6, co_X6_readText⟩
theorem co_X6_step : Cond.code yX6_step cX6_step 2 none ∈ BIG := big_2 (i := 222) rfl rfl
theorem me_X6_step : ME RX6 yX6_step cX6_step 2 none := ⟨rfl, big_2 (i := 221) rfl rfl, big_in (i := 1) (by decide +kernel) rfl, in_X6, co_X6_step⟩
theorem co_X9_signAt : Cond.code yX9_signAt cX9_signAt 2 (some .int) ∈ BIG := big_2 (i := 226) rfl rfl
theorem me_X9_signAt : ME RX9 yX9_signAt cX9_signAt 2 (some .int) := ⟨rfl, big_2 (i := 224) rfl rfl, big_2 (i := 225) rfl rfl, in_X9, co_X9_signAt⟩
theorem co_X6_isLow : Cond.code yX6_isLow cX6_isLow 1 (some .boolean) ∈ BIG := big_2 (i := 229) rfl rfl
theorem me_X6_isLow : MS yX6_isLow cX6_isLow 1 (some .boolean) := ⟨big_2 (i := 228) rfl rfl, in_X6, co_X6_isLow⟩
theorem co_X6_stepName : Cond.code yX6_stepName cX6_stepName 1 none ∈ BIG := big_2 (i := 233) rfl rfl
theorem me_X6_stepName : ME RX6 yX6_stepName cX6_stepName 1 none := ⟨rfl, big_2 (i := 232) rfl rfl, big_in (i := 2) (by decide +kernel) rfl, in_X6, co_X6_stepName⟩
theorem co_X6_isFigure : Cond.code yX6_isFigure cX6_isFigure 1 (some .boolean) ∈ BIG := big_2 (i := 236) rfl rfl
theorem me_X6_isFigure : MS yX6_isFigure cX6_isFigure 1 (some .boolean) := ⟨big_2 (i := 235) rfl rfl, in_X6, co_X6_isFigure⟩
theorem co_X6_stepNumber : Cond.code yX6_stepNumber cX6_stepNumber 1 none ∈ BIG := big_3 (i := 0) rfl rfl
theorem me_X6_stepNumber : ME RX6 yX6_stepNumber cX6_stepNumber 1 none := ⟨rfl, big_2 (i := 239) rfl rfl, big_in (i := 3) (by decide +kernel) rfl, in_X6, co_X6_stepNumber⟩
theorem co_X6_fail : Cond.code yX6_fail cX6_fail 2 none ∈ BIG := big_3 (i := 4) rfl rfl
theorem me_X6_fail : ME RX6 yX6_fail cX6_fail 2 none := ⟨rfl, big_3 (i := 3) rfl rfl, big_in (i := 4) (by decide +kernel) rfl, in_X6, co_X6_fail⟩
theorem co_X6_isName : Cond.code yX6_isName cX6_isName 3 (some .boolean) ∈ BIG := big_3 (i := 9) rfl rfl
theorem me_X6_isName : ME RX6 yX6_isName cX6_isName 3 (some .boolean) := ⟨rfl, big_3 (i := 8) rfl rfl, big_in (i := 5) (by decide +kernel) rfl, in_X6, co_X6_isName⟩
theorem co_J0_length_8abf5 : Cond.code yJ0_length_8abf5 cJ0_length_8abf5 1 (some .int) ∈ BIG := big_3 (i := 13) rfl rfl
theorem me_J0_length_8abf5 : ME RJ0 yJ0_length_8abf5 cJ0_length_8abf5 1 (some .int) := ⟨rfl, big_3 (i := 11) rfl rfl, big_3 (i := 12) rfl rfl, in_J0, co_J0_length_8abf5⟩
theorem co_J0_coder_7d493 : Cond.code yJ0_coder_7d493 cJ0_coder_7d493 1 (some .byte) ∈ BIG := big_3 (i := 17) rfl rfl
theorem me_J0_coder_7d493 : ME RJ0 yJ0_coder_7d493 cJ0_coder_7d493 1 (some .byte) := ⟨rfl, big_3 (i := 15) rfl rfl, big_3 (i := 16) rfl rfl, in_J0, co_J0_coder_7d493⟩
theorem co_J0_charAt_5068e : Cond.code yJ0_charAt_5068e cJ0_charAt_5068e 2 (some .char) ∈ BIG := big_3 (i := 23) rfl rfl
theorem me_J0_charAt_5068e : ME RJ0 yJ0_charAt_5068e cJ0_charAt_5068e 2 (some .char) := ⟨rfl, big_3 (i := 21) rfl rfl, big_3 (i := 22) rfl rfl, in_J0, co_J0_charAt_5068e⟩
theorem co_J0_isLatin1_aae02 : Cond.code yJ0_isLatin1_aae02 cJ0_isLatin1_aae02 1 (some .boolean) ∈ BIG := big_3 (i := 27) rfl rfl
theorem me_J0_isLatin1_aae02 : ME RJ0 yJ0_isLatin1_aae02 cJ0_isLatin1_aae02 1 (some .boolean) := ⟨rfl, big_3 (i := 25) rfl rfl, big_3 (i := 26) rfl rfl, in_J0, co_J0_isLatin1_aae02⟩
theorem co_J1_charAt_3b067 : Cond.code yJ1_charAt_3b067 cJ1_charAt_3b067 2 (some .char) ∈ BIG := big_3 (i := 30) rfl rfl
theorem me_J1_charAt_3b067 : MS yJ1_charAt_3b067 cJ1_charAt_3b067 2 (some .char) := ⟨big_3 (i := 29) rfl rfl, in_J1, co_J1_charAt_3b067⟩
theorem co_J0_checkIndex_df160 : Cond.code yJ0_checkIndex_df160 cJ0_checkIndex_df160 2 none ∈ BIG := big_3 (i := 33) rfl rfl
theorem me_J0_checkIndex_df160 : MS yJ0_checkIndex_df160 cJ0_checkIndex_df160 2 none := ⟨big_3 (i := 32) rfl rfl, in_J0, co_J0_checkIndex_df160⟩
theorem co_J3_checkIndex_8e157 : Cond.code yJ3_checkIndex_8e157 cJ3_checkIndex_8e157 3 (some .int) ∈ BIG := big_3 (i := 38) rfl rfl
theorem me_J3_checkIndex_8e157 : MS yJ3_checkIndex_8e157 cJ3_checkIndex_8e157 3 (some .int) := ⟨big_3 (i := 37) rfl rfl, in_J3, co_J3_checkIndex_8e157⟩
theorem co_J2_charAt_3b067 : Cond.code yJ2_charAt_3b067 cJ2_charAt_3b067 2 (some .char) ∈ BIG := big_3 (i := 41) rfl rfl
theorem me_J2_charAt_3b067 : MS yJ2_charAt_3b067 cJ2_charAt_3b067 2 (some .char) := ⟨big_3 (i := 40) rfl rfl, in_J2, co_J2_charAt_3b067⟩
theorem co_J2_checkIndex_2214a : Cond.code yJ2_checkIndex_2214a cJ2_checkIndex_2214a 2 none ∈ BIG := big_3 (i := 44) rfl rfl
theorem me_J2_checkIndex_2214a : MS yJ2_checkIndex_2214a cJ2_checkIndex_2214a 2 none := ⟨big_3 (i := 43) rfl rfl, in_J2, co_J2_checkIndex_2214a⟩
theorem co_J2_length_9d52b : Cond.code yJ2_length_9d52b cJ2_length_9d52b 1 (some .int) ∈ BIG := big_3 (i := 47) rfl rfl
theorem me_J2_length_9d52b : MS yJ2_length_9d52b cJ2_length_9d52b 1 (some .int) := ⟨big_3 (i := 46) rfl rfl, in_J2, co_J2_length_9d52b⟩
theorem co_J2_getChar_3b067 : Cond.code yJ2_getChar_3b067 cJ2_getChar_3b067 2 (some .char) ∈ BIG := big_3 (i := 51) rfl rfl
theorem me_J2_getChar_3b067 : MS yJ2_getChar_3b067 cJ2_getChar_3b067 2 (some .char) := ⟨big_3 (i := 50) rfl rfl, in_J2, co_J2_getChar_3b067⟩
theorem co_X6_isRule : Cond.code yX6_isRule cX6_isRule 1 (some .boolean) ∈ BIG := big_3 (i := 61) rfl rfl
theorem me_X6_isRule : ME RX6 yX6_isRule cX6_isRule 1 (some .boolean) := ⟨rfl, big_3 (i := 60) rfl rfl, big_in (i := 6) (by decide +kernel) rfl, in_X6, co_X6_isRule⟩
theorem co_X6_readLine : Cond.code yX6_readLine cX6_readLine 5 none ∈ BIG := big_3 (i := 70) rfl rfl
theorem me_X6_readLine : ME RX6 yX6_readLine cX6_readLine 5 none := ⟨rfl, big_3 (i := 69) rfl rfl, big_in (i := 7) (by decide +kernel) rfl, in_X6, co_X6_readLine⟩
theorem co_X6_takeNumber : Cond.code yX6_takeNumber cX6_takeNumber 4 (some .int) ∈ BIG := big_3 (i := 74) rfl rfl
theorem me_X6_takeNumber : ME RX6 yX6_takeNumber cX6_takeNumber 4 (some .int) := ⟨rfl, big_3 (i := 73) rfl rfl, big_in (i := 8) (by decide +kernel) rfl, in_X6, co_X6_takeNumber⟩
theorem co_X6_needNumber : Cond.code yX6_needNumber cX6_needNumber 3 (some .int) ∈ BIG := big_3 (i := 78) rfl rfl
theorem me_X6_needNumber : ME RX6 yX6_needNumber cX6_needNumber 3 (some .int) := ⟨rfl, big_3 (i := 77) rfl rfl, big_in (i := 9) (by decide +kernel) rfl, in_X6, co_X6_needNumber⟩
theorem co_X6_takeLetter : Cond.code yX6_takeLetter cX6_takeLetter 5 (some .int) ∈ BIG := big_3 (i := 82) rfl rfl
theorem me_X6_takeLetter : ME RX6 yX6_takeLetter cX6_takeLetter 5 (some .int) := ⟨rfl, big_3 (i := 81) rfl rfl, big_in (i := 10) (by decide +kernel) rfl, in_X6, co_X6_takeLetter⟩
theorem co_X11_isMeasure : Cond.code yX11_isMeasure cX11_isMeasure 1 (some .boolean) ∈ BIG := big_3 (i := 85) rfl rfl
theorem me_X11_isMeasure : MS yX11_isMeasure cX11_isMeasure 1 (some .boolean) := ⟨big_3 (i := 84) rfl rfl, in_X11, co_X11_isMeasure⟩
theorem co_X6_needNew : Cond.code yX6_needNew cX6_needNew 3 none ∈ BIG := big_3 (i := 89) rfl rfl
theorem me_X6_needNew : ME RX6 yX6_needNew cX6_needNew 3 none := ⟨rfl, big_3 (i := 88) rfl rfl, big_in (i := 11) (by decide +kernel) rfl, in_X6, co_X6_needNew⟩
theorem co_X7_isThere : Cond.code yX7_isThere cX7_isThere 4 (some .boolean) ∈ BIG := big_3 (i := 93) rfl rfl
theorem me_X7_isThere : ME RX7 yX7_isThere cX7_isThere 4 (some .boolean) := ⟨rfl, big_3 (i := 91) rfl rfl, big_3 (i := 92) rfl rfl, in_X7, co_X7_isThere⟩
theorem co_X6_takeStop : Cond.code yX6_takeStop cX6_takeStop 5 none ∈ BIG := big_3 (i := 97) rfl rfl
theorem me_X6_takeStop : ME RX6 yX6_takeStop cX6_takeStop 5 none := ⟨rfl, big_3 (i := 96) rfl rfl, big_in (i := 12) (by decide +kernel) rfl, in_X6, co_X6_takeStop⟩
theorem co_X7_add : Cond.code yX7_add cX7_add 5 none ∈ BIG := big_3 (i := 101) rfl rfl
theorem me_X7_add : ME RX7 yX7_add cX7_add 5 none := ⟨rfl, big_3 (i := 99) rfl rfl, big_3 (i := 100) rfl rfl, in_X7, co_X7_add⟩
theorem co_X7_become : Cond.code yX7_become cX7_become 3 none ∈ BIG := big_3 (i := 105) rfl rfl
theorem me_X7_become : ME RX7 yX7_become cX7_become 3 none := ⟨rfl, big_3 (i := 103) rfl rfl, big_3 (i := 104) rfl rfl, in_X7, co_X7_become⟩
theorem co_X11_fault : Cond.code yX11_fault cX11_fault 1 (some .int) ∈ BIG := big_3 (i := 110) rfl rfl
theorem me_X11_fault : ME RX11 yX11_fault cX11_fault 1 (some .int) := ⟨rfl, big_3 (i := 108) rfl rfl, big_3 (i := 109) rfl rfl, in_X11, co_X11_fault⟩
theorem co_X11_rule : Cond.code yX11_rule cX11_rule 3 (some .int) ∈ BIG := big_3 (i := 114) rfl rfl
theorem me_X11_rule : ME RX11 yX11_rule cX11_rule 3 (some .int) := ⟨rfl, big_3 (i := 112) rfl rfl, big_3 (i := 113) rfl rfl, in_X11, co_X11_rule⟩
theorem co_X11_card : Cond.code yX11_card cX11_card 10 (some .int) ∈ BIG := big_3 (i := 119) rfl rfl
theorem me_X11_card : ME RX11 yX11_card cX11_card 10 (some .int) := ⟨rfl, big_3 (i := 117) rfl rfl, big_3 (i := 118) rfl rfl, in_X11, co_X11_card⟩
theorem co_X11_isTold : Cond.code yX11_isTold cX11_isTold 1 (some .boolean) ∈ BIG := big_3 (i := 122) rfl rfl
theorem me_X11_isTold : MS yX11_isTold cX11_isTold 1 (some .boolean) := ⟨big_3 (i := 121) rfl rfl, in_X11, co_X11_isTold⟩
theorem co_X11_isHand : Cond.code yX11_isHand cX11_isHand 1 (some .boolean) ∈ BIG := big_3 (i := 125) rfl rfl
theorem me_X11_isHand : MS yX11_isHand cX11_isHand 1 (some .boolean) := ⟨big_3 (i := 124) rfl rfl, in_X11, co_X11_isHand⟩
theorem co_X0_add : Cond.code yX0_add cX0_add 8 (some .int) ∈ BIG := big_3 (i := 129) rfl rfl
theorem me_X0_add : ME RX0 yX0_add cX0_add 8 (some .int) := ⟨rfl, big_3 (i := 127) rfl rfl, big_3 (i := 128) rfl rfl, in_X0, co_X0_add⟩
theorem co_X5_drawerBy : Cond.code yX5_drawerBy cX5_drawerBy 2 (some .int) ∈ BIG := big_3 (i := 133) rfl rfl
theorem me_X5_drawerBy : ME RX5 yX5_drawerBy cX5_drawerBy 2 (some .int) := ⟨rfl, big_3 (i := 131) rfl rfl, big_3 (i := 132) rfl rfl, in_X5, co_X5_drawerBy⟩
theorem co_X5_third : Cond.code yX5_third cX5_third 3 (some .int) ∈ BIG := big_3 (i := 137) rfl rfl
theorem me_X5_third : ME RX5 yX5_third cX5_third 3 (some .int) := ⟨rfl, big_3 (i := 135) rfl rfl, big_3 (i := 136) rfl rfl, in_X5, co_X5_third⟩
theorem co_X11_of : Cond.code yX11_of cX11_of 4 (some .int) ∈ BIG := big_3 (i := 141) rfl rfl
theorem me_X11_of : ME RX11 yX11_of cX11_of 4 (some .int) := ⟨rfl, big_3 (i := 139) rfl rfl, big_3 (i := 140) rfl rfl, in_X11, co_X11_of⟩
theorem co_X0_has : Cond.code yX0_has cX0_has 2 (some .boolean) ∈ BIG := big_3 (i := 145) rfl rfl
theorem me_X0_has : ME RX0 yX0_has cX0_has 2 (some .boolean) := ⟨rfl, big_3 (i := 143) rfl rfl, big_3 (i := 144) rfl rfl, in_X0, co_X0_has⟩
theorem co_X1_isOut : Cond.code yX1_isOut cX1_isOut 1 (some .boolean) ∈ BIG := big_3 (i := 150) rfl rfl
theorem me_X1_isOut : ME RX1 yX1_isOut cX1_isOut 1 (some .boolean) := ⟨rfl, big_3 (i := 148) rfl rfl, big_3 (i := 149) rfl rfl, in_X1, co_X1_isOut⟩
theorem co_X11_bit : Cond.code yX11_bit cX11_bit 1 (some .int) ∈ BIG := big_3 (i := 153) rfl rfl
theorem me_X11_bit : MS yX11_bit cX11_bit 1 (some .int) := ⟨big_3 (i := 152) rfl rfl, in_X11, co_X11_bit⟩
theorem co_X1_isDue : Cond.code yX1_isDue cX1_isDue 2 (some .boolean) ∈ BIG := big_3 (i := 157) rfl rfl
theorem me_X1_isDue : ME RX1 yX1_isDue cX1_isDue 2 (some .boolean) := ⟨rfl, big_3 (i := 155) rfl rfl, big_3 (i := 156) rfl rfl, in_X1, co_X1_isDue⟩
theorem co_X1_spread : Cond.code yX1_spread cX1_spread 3 (some .int) ∈ BIG := big_3 (i := 161) rfl rfl
theorem me_X1_spread : ME RX1 yX1_spread cX1_spread 3 (some .int) := ⟨rfl, big_3 (i := 159) rfl rfl, big_3 (i := 160) rfl rfl, in_X1, co_X1_spread⟩
theorem co_X5_spreadOf : Cond.code yX5_spreadOf cX5_spreadOf 2 (some .int) ∈ BIG := big_3 (i := 165) rfl rfl
theorem me_X5_spreadOf : ME RX5 yX5_spreadOf cX5_spreadOf 2 (some .int) := ⟨rfl, big_3 (i := 163) rfl rfl, big_3 (i := 164) rfl rfl, in_X5, co_X5_spreadOf⟩
theorem co_X11_anew : Cond.code yX11_anew cX11_anew 4 (some .int) ∈ BIG := big_3 (i := 169) rfl rfl
theorem me_X11_anew : ME RX11 yX11_anew cX11_anew 4 (some .int) := ⟨rfl, big_3 (i := 167) rfl rfl, big_3 (i := 168) rfl rfl, in_X11, co_X11_anew⟩
theorem co_X0_tellAnew : Cond.code yX0_tellAnew cX0_tellAnew 6 (some .int) ∈ BIG := big_3 (i := 174) rfl rfl
theorem me_X0_tellAnew : ME RX0 yX0_tellAnew cX0_tellAnew 6 (some .int) := ⟨rfl, big_3 (i := 172) rfl rfl, big_3 (i := 173) rfl rfl, in_X0, co_X0_tellAnew⟩
theorem co_X11_known : Cond.code yX11_known cX11_known 4 (some .int) ∈ BIG := big_3 (i := 178) rfl rfl
theorem me_X11_known : ME RX11 yX11_known cX11_known 4 (some .int) := ⟨rfl, big_3 (i := 176) rfl rfl, big_3 (i := 177) rfl rfl, in_X11, co_X11_known⟩
theorem co_X0_knownOn : Cond.code yX0_knownOn cX0_knownOn 6 (some .int) ∈ BIG := big_3 (i := 182) rfl rfl
theorem me_X0_knownOn : ME RX0 yX0_knownOn cX0_knownOn 6 (some .int) := ⟨rfl, big_3 (i := 180) rfl rfl, big_3 (i := 181) rfl rfl, in_X0, co_X0_knownOn⟩
theorem co_X11_file : Cond.code yX11_file cX11_file 4 (some .int) ∈ BIG := big_3 (i := 186) rfl rfl
theorem me_X11_file : ME RX11 yX11_file cX11_file 4 (some .int) := ⟨rfl, big_3 (i := 184) rfl rfl, big_3 (i := 185) rfl rfl, in_X11, co_X11_file⟩
theorem co_X11_out : Cond.code yX11_out cX11_out 3 (some .int) ∈ BIG := big_3 (i := 190) rfl rfl
theorem me_X11_out : ME RX11 yX11_out cX11_out 3 (some .int) := ⟨rfl, big_3 (i := 188) rfl rfl, big_3 (i := 189) rfl rfl, in_X11, co_X11_out⟩
theorem co_X11_drawer : Cond.code yX11_drawer cX11_drawer 4 (some .int) ∈ BIG := big_3 (i := 194) rfl rfl
theorem me_X11_drawer : ME RX11 yX11_drawer cX11_drawer 4 (some .int) := ⟨rfl, big_3 (i := 192) rfl rfl, big_3 (i := 193) rfl rfl, in_X11, co_X11_drawer⟩
theorem co_X0_filedIn : Cond.code yX0_filedIn cX0_filedIn 4 (some .int) ∈ BIG := big_3 (i := 198) rfl rfl
theorem me_X0_filedIn : ME RX0 yX0_filedIn cX0_filedIn 4 (some .int) := ⟨rfl, big_3 (i := 196) rfl rfl, big_3 (i := 197) rfl rfl, in_X0, co_X0_filedIn⟩
theorem co_J6_bitCount_0f7a4 : Cond.code yJ6_bitCount_0f7a4 cJ6_bitCount_0f7a4 1 (some .int) ∈ BIG := big_3 (i := 202) rfl rfl
theorem me_J6_bitCount_0f7a4 : MS yJ6_bitCount_0f7a4 cJ6_bitCount_0f7a4 1 (some .int) := ⟨big_3 (i := 201) rfl rfl, in_J6, co_J6_bitCount_0f7a4⟩
theorem co_X0_elsewhere : Cond.code yX0_elsewhere cX0_elsewhere 5 (some .int) ∈ BIG := big_3 (i := 209) rfl rfl
theorem me_X0_elsewhere : ME RX0 yX0_elsewhere cX0_elsewhere 5 (some .int) := ⟨rfl, big_3 (i := 207) rfl rfl, big_3 (i := 208) rfl rfl, in_X0, co_X0_elsewhere⟩
theorem co_X11_tell : Cond.code yX11_tell cX11_tell 6 (some .int) ∈ BIG := big_3 (i := 214) rfl rfl
theorem me_X11_tell : ME RX11 yX11_tell cX11_tell 6 (some .int) := ⟨rfl, big_3 (i := 212) rfl rfl, big_3 (i := 213) rfl rfl, in_X11, co_X11_tell⟩
theorem co_X11_chance : Cond.code yX11_chance cX11_chance 3 (some .long) ∈ BIG := big_3 (i := 218) rfl rfl
theorem me_X11_chance : ME RX11 yX11_chance cX11_chance 3 (some .long) := ⟨rfl, big_3 (i := 216) rfl rfl, big_3 (i := 217) rfl rfl, in_X11, co_X11_chance⟩
theorem co_X3_weigh : Cond.code yX3_weigh cX3_weigh 4 none ∈ BIG := big_3 (i := 224) rfl rfl
theorem me_X3_weigh : ME RX3 yX3_weigh cX3_weigh 4 none := ⟨rfl, big_3 (i := 222) rfl rfl, big_3 (i := 223) rfl rfl, in_X3, co_X3_weigh⟩
theorem co_X3_share : Cond.code yX3_share cX3_share 7 (some .int) ∈ BIG := big_3 (i := 229) rfl rfl
theorem me_X3_share : ME RX3 yX3_share cX3_share 7 (some .int) := ⟨rfl, big_3 (i := 228) rfl rfl, big_in (i := 13) (by decide +kernel) rfl, in_X3, co_X3_share⟩
theorem co_J9_max_7cf53 : Cond.code yJ9_max_7cf53 cJ9_max_7cf53 2 (some .int) ∈ BIG := big_3 (i := 233) rfl rfl
theorem me_J9_max_7cf53 : MS yJ9_max_7cf53 cJ9_max_7cf53 2 (some .int) := ⟨big_3 (i := 232) rfl rfl, in_J9, co_J9_max_7cf53⟩
theorem co_X11_lowest : Cond.code yX11_lowest cX11_lowest 12 (some .long) ∈ BIG := big_3 (i := 237) rfl rfl
theorem me_X11_lowest : MS yX11_lowest cX11_lowest 12 (some .long) := ⟨big_3 (i := 236) rfl rfl, in_X11, co_X11_lowest⟩
theorem co_X11_look : Cond.code yX11_look cX11_look 4 (some .int) ∈ BIG := big_4 (i := 1) rfl rfl
theorem me_X11_look : ME RX11 yX11_look cX11_look 4 (some .int) := ⟨rfl, big_3 (i := 239) rfl rfl, big_4 (i := 0) rfl rfl, in_X11, co_X11_look⟩
theorem co_X11_isShare : Cond.code yX11_isShare cX11_isShare 1 (some .boolean) ∈ BIG := big_4 (i := 4) rfl rfl
theorem me_X11_isShare : MS yX11_isShare cX11_isShare 1 (some .boolean) := ⟨big_4 (i := 3) rfl rfl, in_X11, co_X11_isShare⟩
theorem co_X3_take : Cond.code yX3_take cX3_take 5 none ∈ BIG := big_4 (i := 8) rfl rfl
theorem me_X3_take : ME RX3 yX3_take cX3_take 5 none := ⟨rfl, big_4 (i := 6) rfl rfl, big_4 (i := 7) rfl rfl, in_X3, co_X3_take⟩
theorem co_X3_heaviest : Cond.code yX3_heaviest cX3_heaviest 4 (some .int) ∈ BIG := big_4 (i := 13) rfl rfl
theorem me_X3_heaviest : ME RX3 yX3_heaviest cX3_heaviest 4 (some .int) := ⟨rfl, big_4 (i := 12) rfl rfl, big_in (i := 14) (by decide +kernel) rfl, in_X3, co_X3_heaviest⟩
theorem co_X11_match : Cond.code yX11_match cX11_match 4 (some .int) ∈ BIG := big_4 (i := 17) rfl rfl
theorem me_X11_match : ME RX11 yX11_match cX11_match 4 (some .int) := ⟨rfl, big_4 (i := 15) rfl rfl, big_4 (i := 16) rfl rfl, in_X11, co_X11_match⟩
theorem co_X10_findMatches : Cond.code yX10_findMatches cX10_findMatches 5 none ∈ BIG := big_4 (i := 21) rfl rfl
theorem me_X10_findMatches : ME RX10 yX10_findMatches cX10_findMatches 5 none := ⟨rfl, big_4 (i := 19) rfl rfl, big_4 (i := 20) rfl rfl, in_X10, co_X10_findMatches⟩
theorem co_X1_miss : Cond.code yX1_miss cX1_miss 8 (some .int) ∈ BIG := big_4 (i := 27) rfl rfl
theorem me_X1_miss : ME RX1 yX1_miss cX1_miss 8 (some .int) := ⟨rfl, big_4 (i := 25) rfl rfl, big_4 (i := 26) rfl rfl, in_X1, co_X1_miss⟩
theorem co_X1_canMeasure : Cond.code yX1_canMeasure cX1_canMeasure 4 (some .int) ∈ BIG := big_4 (i := 32) rfl rfl
theorem me_X1_canMeasure : ME RX1 yX1_canMeasure cX1_canMeasure 4 (some .int) := ⟨rfl, big_4 (i := 30) rfl rfl, big_4 (i := 31) rfl rfl, in_X1, co_X1_canMeasure⟩
theorem co_X10_insert : Cond.code yX10_insert cX10_insert 3 none ∈ BIG := big_4 (i := 37) rfl rfl
theorem me_X10_insert : ME RX10 yX10_insert cX10_insert 3 none := ⟨rfl, big_4 (i := 36) rfl rfl, big_in (i := 15) (by decide +kernel) rfl, in_X10, co_X10_insert⟩
theorem co_X11_byChance : Cond.code yX11_byChance cX11_byChance 8 (some .long) ∈ BIG := big_4 (i := 41) rfl rfl
theorem me_X11_byChance : ME RX11 yX11_byChance cX11_byChance 8 (some .long) := ⟨rfl, big_4 (i := 39) rfl rfl, big_4 (i := 40) rfl rfl, in_X11, co_X11_byChance⟩
theorem co_X0_kept : Cond.code yX0_kept cX0_kept 3 (some .int) ∈ BIG := big_4 (i := 45) rfl rfl
theorem me_X0_kept : ME RX0 yX0_kept cX0_kept 3 (some .int) := ⟨rfl, big_4 (i := 43) rfl rfl, big_4 (i := 44) rfl rfl, in_X0, co_X0_kept⟩
theorem co_X10_near : Cond.code yX10_near cX10_near 8 (some .int) ∈ BIG := big_4 (i := 50) rfl rfl
theorem me_X10_near : ME RX10 yX10_near cX10_near 8 (some .int) := ⟨rfl, big_4 (i := 48) rfl rfl, big_4 (i := 49) rfl rfl, in_X10, co_X10_near⟩
theorem co_J9_abs_0f7a4 : Cond.code yJ9_abs_0f7a4 cJ9_abs_0f7a4 1 (some .int) ∈ BIG := big_4 (i := 54) rfl rfl
theorem me_J9_abs_0f7a4 : MS yJ9_abs_0f7a4 cJ9_abs_0f7a4 1 (some .int) := ⟨big_4 (i := 53) rfl rfl, in_J9, co_J9_abs_0f7a4⟩
theorem co_X11_grown : Cond.code yX11_grown cX11_grown 4 (some .int) ∈ BIG := big_4 (i := 59) rfl rfl
theorem me_X11_grown : ME RX11 yX11_grown cX11_grown 4 (some .int) := ⟨rfl, big_4 (i := 57) rfl rfl, big_4 (i := 58) rfl rfl, in_X11, co_X11_grown⟩
theorem co_X11_beside : Cond.code yX11_beside cX11_beside 5 (some .int) ∈ BIG := big_4 (i := 64) rfl rfl
theorem me_X11_beside : ME RX11 yX11_beside cX11_beside 5 (some .int) := ⟨rfl, big_4 (i := 62) rfl rfl, big_4 (i := 63) rfl rfl, in_X11, co_X11_beside⟩
theorem co_X0_printed : Cond.code yX0_printed cX0_printed 4 (some .int) ∈ BIG := big_4 (i := 68) rfl rfl
theorem me_X0_printed : ME RX0 yX0_printed cX0_printed 4 (some .int) := ⟨rfl, big_4 (i := 66) rfl rfl, big_4 (i := 67) rfl rfl, in_X0, co_X0_printed⟩
theorem co_X11_bar : Cond.code yX11_bar cX11_bar 5 (some .int) ∈ BIG := big_4 (i := 73) rfl rfl
theorem me_X11_bar : ME RX11 yX11_bar cX11_bar 5 (some .int) := ⟨rfl, big_4 (i := 71) rfl rfl, big_4 (i := 72) rfl rfl, in_X11, co_X11_bar⟩
theorem co_X0_isBarred : Cond.code yX0_isBarred cX0_isBarred 3 (some .boolean) ∈ BIG := big_4 (i := 77) rfl rfl
theorem me_X0_isBarred : ME RX0 yX0_isBarred cX0_isBarred 3 (some .boolean) := ⟨rfl, big_4 (i := 75) rfl rfl, big_4 (i := 76) rfl rfl, in_X0, co_X0_isBarred⟩
theorem co_J9_min_7cf53 : Cond.code yJ9_min_7cf53 cJ9_min_7cf53 2 (some .int) ∈ BIG := big_4 (i := 80) rfl rfl
theorem me_J9_min_7cf53 : MS yJ9_min_7cf53 cJ9_min_7cf53 2 (some .int) := ⟨big_4 (i := 79) rfl rfl, in_J9, co_J9_min_7cf53⟩
theorem co_X0_setBar : Cond.code yX0_setBar cX0_setBar 4 none ∈ BIG := big_4 (i := 85) rfl rfl
theorem me_X0_setBar : ME RX0 yX0_setBar cX0_setBar 4 none := ⟨rfl, big_4 (i := 83) rfl rfl, big_4 (i := 84) rfl rfl, in_X0, co_X0_setBar⟩
theorem co_X11_join : Cond.code yX11_join cX11_join 3 (some .int) ∈ BIG := big_4 (i := 90) rfl rfl
theorem me_X11_join : ME RX11 yX11_join cX11_join 3 (some .int) := ⟨rfl, big_4 (i := 88) rfl rfl, big_4 (i := 89) rfl rfl, in_X11, co_X11_join⟩
theorem co_X0_joined : Cond.code yX0_joined cX0_joined 6 (some .boolean) ∈ BIG := big_4 (i := 94) rfl rfl
theorem me_X0_joined : ME RX0 yX0_joined cX0_joined 6 (some .boolean) := ⟨rfl, big_4 (i := 92) rfl rfl, big_4 (i := 93) rfl rfl, in_X0, co_X0_joined⟩
theorem co_X11_men : Cond.code yX11_men cX11_men 3 (some .int) ∈ BIG := big_4 (i := 100) rfl rfl
theorem me_X11_men : ME RX11 yX11_men cX11_men 3 (some .int) := ⟨rfl, big_4 (i := 98) rfl rfl, big_4 (i := 99) rfl rfl, in_X11, co_X11_men⟩
theorem co_X4_gather : Cond.code yX4_gather cX4_gather 3 none ∈ BIG := big_4 (i := 104) rfl rfl
theorem me_X4_gather : ME RX4 yX4_gather cX4_gather 3 none := ⟨rfl, big_4 (i := 102) rfl rfl, big_4 (i := 103) rfl rfl, in_X4, co_X4_gather⟩
theorem co_X4_hang : Cond.code yX4_hang cX4_hang 4 none ∈ BIG := big_4 (i := 112) rfl rfl
theorem me_X4_hang : ME RX4 yX4_hang cX4_hang 4 none := ⟨rfl, big_4 (i := 111) rfl rfl, big_in (i := 16) (by decide +kernel) rfl, in_X4, co_X4_hang⟩
theorem co_X4_number : Cond.code yX4_number cX4_number 3 (some .int) ∈ BIG := big_4 (i := 116) rfl rfl
theorem me_X4_number : ME RX4 yX4_number cX4_number 3 (some .int) := ⟨rfl, big_4 (i := 114) rfl rfl, big_4 (i := 115) rfl rfl, in_X4, co_X4_number⟩
theorem co_X4_greatest : Cond.code yX4_greatest cX4_greatest 5 (some .int) ∈ BIG := big_4 (i := 121) rfl rfl
theorem me_X4_greatest : ME RX4 yX4_greatest cX4_greatest 5 (some .int) := ⟨rfl, big_4 (i := 119) rfl rfl, big_4 (i := 120) rfl rfl, in_X4, co_X4_greatest⟩
theorem co_X4_isOne : Cond.code yX4_isOne cX4_isOne 3 (some .boolean) ∈ BIG := big_4 (i := 125) rfl rfl
theorem me_X4_isOne : ME RX4 yX4_isOne cX4_isOne 3 (some .boolean) := ⟨rfl, big_4 (i := 124) rfl rfl, big_in (i := 17) (by decide +kernel) rfl, in_X4, co_X4_isOne⟩
theorem co_X4_quarrels : Cond.code yX4_quarrels cX4_quarrels 4 (some .int) ∈ BIG := big_4 (i := 129) rfl rfl
theorem me_X4_quarrels : ME RX4 yX4_quarrels cX4_quarrels 4 (some .int) := ⟨rfl, big_4 (i := 127) rfl rfl, big_4 (i := 128) rfl rfl, in_X4, co_X4_quarrels⟩
theorem co_X11_guess : Cond.code yX11_guess cX11_guess 4 (some .int) ∈ BIG := big_4 (i := 134) rfl rfl
theorem me_X11_guess : ME RX11 yX11_guess cX11_guess 4 (some .int) := ⟨rfl, big_4 (i := 132) rfl rfl, big_4 (i := 133) rfl rfl, in_X11, co_X11_guess⟩
theorem co_X4_findDoubles : Cond.code yX4_findDoubles cX4_findDoubles 9 none ∈ BIG := big_4 (i := 138) rfl rfl
theorem me_X4_findDoubles : ME RX4 yX4_findDoubles cX4_findDoubles 9 none := ⟨rfl, big_4 (i := 136) rfl rfl, big_4 (i := 137) rfl rfl, in_X4, co_X4_findDoubles⟩
theorem co_X11_even : Cond.code yX11_even cX11_even 4 (some .int) ∈ BIG := big_4 (i := 143) rfl rfl
theorem me_X11_even : ME RX11 yX11_even cX11_even 4 (some .int) := ⟨rfl, big_4 (i := 141) rfl rfl, big_4 (i := 142) rfl rfl, in_X11, co_X11_even⟩
theorem co_X2_search : Cond.code yX2_search cX2_search 11 (some .boolean) ∈ BIG := big_4 (i := 147) rfl rfl
theorem me_X2_search : ME RX2 yX2_search cX2_search 11 (some .boolean) := ⟨rfl, big_4 (i := 145) rfl rfl, big_4 (i := 146) rfl rfl, in_X2, co_X2_search⟩
theorem co_X2_below : Cond.code yX2_below cX2_below 5 (some .int) ∈ BIG := big_4 (i := 151) rfl rfl
theorem me_X2_below : ME RX2 yX2_below cX2_below 5 (some .int) := ⟨rfl, big_4 (i := 149) rfl rfl, big_4 (i := 150) rfl rfl, in_X2, co_X2_below⟩
theorem co_X2_isCounted : Cond.code yX2_isCounted cX2_isCounted 3 (some .boolean) ∈ BIG := big_4 (i := 155) rfl rfl
theorem me_X2_isCounted : ME RX2 yX2_isCounted cX2_isCounted 3 (some .boolean) := ⟨rfl, big_4 (i := 154) rfl rfl, big_in (i := 18) (by decide +kernel) rfl, in_X2, co_X2_isCounted⟩
theorem co_X2_near : Cond.code yX2_near cX2_near 7 (some .int) ∈ BIG := big_4 (i := 161) rfl rfl
theorem me_X2_near : ME RX2 yX2_near cX2_near 7 (some .int) := ⟨rfl, big_4 (i := 159) rfl rfl, big_4 (i := 160) rfl rfl, in_X2, co_X2_near⟩
theorem co_X2_difference : Cond.code yX2_difference cX2_difference 7 (some .int) ∈ BIG := big_4 (i := 167) rfl rfl
theorem me_X2_difference : ME RX2 yX2_difference cX2_difference 7 (some .int) := ⟨rfl, big_4 (i := 165) rfl rfl, big_4 (i := 166) rfl rfl, in_X2, co_X2_difference⟩
theorem co_X11_judge : Cond.code yX11_judge cX11_judge 8 (some .int) ∈ BIG := big_4 (i := 174) rfl rfl
theorem me_X11_judge : ME RX11 yX11_judge cX11_judge 8 (some .int) := ⟨rfl, big_4 (i := 172) rfl rfl, big_4 (i := 173) rfl rfl, in_X11, co_X11_judge⟩
theorem co_X11_hold : Cond.code yX11_hold cX11_hold 2 (some .int) ∈ BIG := big_4 (i := 181) rfl rfl
theorem me_X11_hold : ME RX11 yX11_hold cX11_hold 2 (some .int) := ⟨rfl, big_4 (i := 179) rfl rfl, big_4 (i := 180) rfl rfl, in_X11, co_X11_hold⟩
theorem co_X11_held : Cond.code yX11_held cX11_held 3 (some .int) ∈ BIG := big_4 (i := 185) rfl rfl
theorem me_X11_held : ME RX11 yX11_held cX11_held 3 (some .int) := ⟨rfl, big_4 (i := 183) rfl rfl, big_4 (i := 184) rfl rfl, in_X11, co_X11_held⟩
theorem co_X11_isHold : Cond.code yX11_isHold cX11_isHold 2 (some .boolean) ∈ BIG := big_4 (i := 189) rfl rfl
theorem me_X11_isHold : ME RX11 yX11_isHold cX11_isHold 2 (some .boolean) := ⟨rfl, big_4 (i := 188) rfl rfl, big_in (i := 19) (by decide +kernel) rfl, in_X11, co_X11_isHold⟩
theorem co_X11_leaned : Cond.code yX11_leaned cX11_leaned 6 (some .int) ∈ BIG := big_4 (i := 193) rfl rfl
theorem me_X11_leaned : ME RX11 yX11_leaned cX11_leaned 6 (some .int) := ⟨rfl, big_4 (i := 192) rfl rfl, big_in (i := 20) (by decide +kernel) rfl, in_X11, co_X11_leaned⟩
theorem co_X11_wrong : Cond.code yX11_wrong cX11_wrong 2 (some .int) ∈ BIG := big_4 (i := 197) rfl rfl
theorem me_X11_wrong : ME RX11 yX11_wrong cX11_wrong 2 (some .int) := ⟨rfl, big_4 (i := 195) rfl rfl, big_4 (i := 196) rfl rfl, in_X11, co_X11_wrong⟩
theorem co_X11_sheet : Cond.code yX11_sheet cX11_sheet 4 (some .int) ∈ BIG := big_4 (i := 201) rfl rfl
theorem me_X11_sheet : ME RX11 yX11_sheet cX11_sheet 4 (some .int) := ⟨rfl, big_4 (i := 199) rfl rfl, big_4 (i := 200) rfl rfl, in_X11, co_X11_sheet⟩
theorem co_X11_isSheet : Cond.code yX11_isSheet cX11_isSheet 1 (some .boolean) ∈ BIG := big_4 (i := 204) rfl rfl
theorem me_X11_isSheet : MS yX11_isSheet cX11_isSheet 1 (some .boolean) := ⟨big_4 (i := 203) rfl rfl, in_X11, co_X11_isSheet⟩
theorem co_X11_isLane : Cond.code yX11_isLane cX11_isLane 1 (some .boolean) ∈ BIG := big_4 (i := 207) rfl rfl
theorem me_X11_isLane : MS yX11_isLane cX11_isLane 1 (some .boolean) := ⟨big_4 (i := 206) rfl rfl, in_X11, co_X11_isLane⟩
theorem co_X8_renew : Cond.code yX8_renew cX8_renew 4 none ∈ BIG := big_4 (i := 211) rfl rfl
theorem me_X8_renew : ME RX8 yX8_renew cX8_renew 4 none := ⟨rfl, big_4 (i := 209) rfl rfl, big_4 (i := 210) rfl rfl, in_X8, co_X8_renew⟩
theorem co_X11_lay : Cond.code yX11_lay cX11_lay 5 (some .int) ∈ BIG := big_4 (i := 215) rfl rfl
theorem me_X11_lay : ME RX11 yX11_lay cX11_lay 5 (some .int) := ⟨rfl, big_4 (i := 213) rfl rfl, big_4 (i := 214) rfl rfl, in_X11, co_X11_lay⟩
theorem co_X8_has : Cond.code yX8_has cX8_has 2 (some .boolean) ∈ BIG := big_4 (i := 219) rfl rfl
theorem me_X8_has : ME RX8 yX8_has cX8_has 2 (some .boolean) := ⟨rfl, big_4 (i := 217) rfl rfl, big_4 (i := 218) rfl rfl, in_X8, co_X8_has⟩
theorem co_X8_put : Cond.code yX8_put cX8_put 3 none ∈ BIG := big_4 (i := 223) rfl rfl
theorem me_X8_put : ME RX8 yX8_put cX8_put 3 none := ⟨rfl, big_4 (i := 221) rfl rfl, big_4 (i := 222) rfl rfl, in_X8, co_X8_put⟩
theorem co_X11_read : Cond.code yX11_read cX11_read 10 (some .int) ∈ BIG := big_4 (i := 227) rfl rfl
theorem me_X11_read : ME RX11 yX11_read cX11_read 10 (some .int) := ⟨rfl, big_4 (i := 225) rfl rfl, big_4 (i := 226) rfl rfl, in_X11, co_X11_read⟩
theorem co_X8_refusal : Cond.code yX8_refusal cX8_refusal 2 (some .int) ∈ BIG := big_4 (i := 231) rfl rfl
theorem me_X8_refusal : ME RX8 yX8_refusal cX8_refusal 2 (some .int) := ⟨rfl, big_4 (i := 229) rfl rfl, big_4 (i := 230) rfl rfl, in_X8, co_X8_refusal⟩
theorem co_X11_torn : Cond.code yX11_torn cX11_torn 1 (some .int) ∈ BIG := big_4 (i := 236) rfl rfl
theorem me_X11_torn : ME RX11 yX11_torn cX11_torn 1 (some .int) := ⟨rfl, big_4 (i := 234) rfl rfl, big_4 (i := 235) rfl rfl, in_X11, co_X11_torn⟩
theorem co_X11_count : Cond.code yX11_count cX11_count 2 (some .int) ∈ BIG := big_5 (i := 0) rfl rfl
theorem me_X11_count : ME RX11 yX11_count cX11_count 2 (some .int) := ⟨rfl, big_4 (i := 238) rfl rfl, big_4 (i := 239) rfl rfl, in_X11, co_X11_count⟩
theorem co_X0_due : Cond.code yX0_due cX0_due 3 (some .int) ∈ BIG := big_5 (i := 4) rfl rfl
theorem me_X0_due : ME RX0 yX0_due cX0_due 3 (some .int) := ⟨rfl, big_5 (i := 2) rfl rfl, big_5 (i := 3) rfl rfl, in_X0, co_X0_due⟩
theorem co_X11_wrongHolds : Cond.code yX11_wrongHolds cX11_wrongHolds 3 (some .int) ∈ BIG := big_5 (i := 10) rfl rfl
theorem me_X11_wrongHolds : ME RX11 yX11_wrongHolds cX11_wrongHolds 3 (some .int) := ⟨rfl, big_5 (i := 9) rfl rfl, big_in (i := 21) (by decide +kernel) rfl, in_X11, co_X11_wrongHolds⟩
theorem co_X12_init : Cond.code yX12_init cX12_init 1 none ∈ BIG := big_5 (i := 15) rfl rfl
theorem im_X12_init : Cond.instanceMethod yX12_init ∈ BIG := big_5 (i := 14) rfl rfl
theorem co_X12_day : Cond.code yX12_day cX12_day 3 (some .int) ∈ BIG := big_5 (i := 207) rfl rfl
theorem me_X12_day : ME RX12 yX12_day cX12_day 3 (some .int) := ⟨rfl, big_5 (i := 205) rfl rfl, big_5 (i := 206) rfl rfl, in_X12, co_X12_day⟩
theorem co_X12_in : Cond.code yX12_in cX12_in 6 (some .boolean) ∈ BIG := big_5 (i := 211) rfl rfl
theorem me_X12_in : MS yX12_in cX12_in 6 (some .boolean) := ⟨big_5 (i := 210) rfl rfl, in_X12, co_X12_in⟩
theorem co_X12_feed : Cond.code yX12_feed cX12_feed 4 (some .int) ∈ BIG := big_5 (i := 215) rfl rfl
theorem me_X12_feed : ME RX12 yX12_feed cX12_feed 4 (some .int) := ⟨rfl, big_5 (i := 213) rfl rfl, big_5 (i := 214) rfl rfl, in_X12, co_X12_feed⟩
theorem co_X12_end : Cond.code yX12_end cX12_end 3 (some .int) ∈ BIG := big_5 (i := 219) rfl rfl
theorem me_X12_end : ME RX12 yX12_end cX12_end 3 (some .int) := ⟨rfl, big_5 (i := 217) rfl rfl, big_5 (i := 218) rfl rfl, in_X12, co_X12_end⟩
theorem co_X12_text : Cond.code yX12_text cX12_text 2 (some .int) ∈ BIG := big_5 (i := 223) rfl rfl
theorem me_X12_text : ME RX12 yX12_text cX12_text 2 (some .int) := ⟨rfl, big_5 (i := 221) rfl rfl, big_5 (i := 222) rfl rfl, in_X12, co_X12_text⟩
theorem co_X12_next : Cond.code yX12_next cX12_next 2 none ∈ BIG := big_5 (i := 227) rfl rfl
theorem me_X12_next : ME RX12 yX12_next cX12_next 2 none := ⟨rfl, big_5 (i := 226) rfl rfl, big_in (i := 22) (by decide +kernel) rfl, in_X12, co_X12_next⟩
theorem co_X12_byteAt : Cond.code yX12_byteAt cX12_byteAt 2 (some .int) ∈ BIG := big_5 (i := 231) rfl rfl
theorem me_X12_byteAt : ME RX12 yX12_byteAt cX12_byteAt 2 (some .int) := ⟨rfl, big_5 (i := 230) rfl rfl, big_in (i := 23) (by decide +kernel) rfl, in_X12, co_X12_byteAt⟩
theorem co_X12_fails : Cond.code yX12_fails cX12_fails 2 none ∈ BIG := big_5 (i := 239) rfl rfl
theorem me_X12_fails : ME RX12 yX12_fails cX12_fails 2 none := ⟨rfl, big_5 (i := 238) rfl rfl, big_in (i := 24) (by decide +kernel) rfl, in_X12, co_X12_fails⟩
theorem co_X12_readLine : Cond.code yX12_readLine cX12_readLine 6 none ∈ BIG := big_6 (i := 3) rfl rfl
theorem me_X12_readLine : ME RX12 yX12_readLine cX12_readLine 6 none := ⟨rfl, big_6 (i := 2) rfl rfl, big_in (i := 25) (by decide +kernel) rfl, in_X12, co_X12_readLine⟩
theorem co_X12_nameHere : Cond.code yX12_nameHere cX12_nameHere 4 (some .int) ∈ BIG := big_6 (i := 7) rfl rfl
theorem me_X12_nameHere : ME RX12 yX12_nameHere cX12_nameHere 4 (some .int) := ⟨rfl, big_6 (i := 6) rfl rfl, big_in (i := 26) (by decide +kernel) rfl, in_X12, co_X12_nameHere⟩
theorem co_X12_number : Cond.code yX12_number cX12_number 4 (some .int) ∈ BIG := big_6 (i := 11) rfl rfl
theorem me_X12_number : ME RX12 yX12_number cX12_number 4 (some .int) := ⟨rfl, big_6 (i := 10) rfl rfl, big_in (i := 27) (by decide +kernel) rfl, in_X12, co_X12_number⟩
theorem co_X12_readOf : Cond.code yX12_readOf cX12_readOf 4 (some .int) ∈ BIG := big_6 (i := 15) rfl rfl
theorem me_X12_readOf : ME RX12 yX12_readOf cX12_readOf 4 (some .int) := ⟨rfl, big_6 (i := 14) rfl rfl, big_in (i := 28) (by decide +kernel) rfl, in_X12, co_X12_readOf⟩
theorem co_X12_once : Cond.code yX12_once cX12_once 5 none ∈ BIG := big_6 (i := 20) rfl rfl
theorem me_X12_once : ME RX12 yX12_once cX12_once 5 none := ⟨rfl, big_6 (i := 19) rfl rfl, big_in (i := 29) (by decide +kernel) rfl, in_X12, co_X12_once⟩
theorem co_X12_fault : Cond.code yX12_fault cX12_fault 1 (some .int) ∈ BIG := big_6 (i := 24) rfl rfl
theorem me_X12_fault : ME RX12 yX12_fault cX12_fault 1 (some .int) := ⟨rfl, big_6 (i := 22) rfl rfl, big_6 (i := 23) rfl rfl, in_X12, co_X12_fault⟩
theorem co_X12_rule : Cond.code yX12_rule cX12_rule 3 (some .int) ∈ BIG := big_6 (i := 28) rfl rfl
theorem me_X12_rule : ME RX12 yX12_rule cX12_rule 3 (some .int) := ⟨rfl, big_6 (i := 26) rfl rfl, big_6 (i := 27) rfl rfl, in_X12, co_X12_rule⟩
theorem co_X12_firstEdge : Cond.code yX12_firstEdge cX12_firstEdge 3 (some .int) ∈ BIG := big_6 (i := 33) rfl rfl
theorem me_X12_firstEdge : ME RX12 yX12_firstEdge cX12_firstEdge 3 (some .int) := ⟨rfl, big_6 (i := 32) rfl rfl, big_in (i := 30) (by decide +kernel) rfl, in_X12, co_X12_firstEdge⟩
theorem co_X12_holdsThen : Cond.code yX12_holdsThen cX12_holdsThen 6 (some .int) ∈ BIG := big_6 (i := 37) rfl rfl
theorem me_X12_holdsThen : ME RX12 yX12_holdsThen cX12_holdsThen 6 (some .int) := ⟨rfl, big_6 (i := 36) rfl rfl, big_in (i := 31) (by decide +kernel) rfl, in_X12, co_X12_holdsThen⟩
theorem co_X12_lineAt : Cond.code yX12_lineAt cX12_lineAt 6 (some .int) ∈ BIG := big_6 (i := 41) rfl rfl
theorem me_X12_lineAt : ME RX12 yX12_lineAt cX12_lineAt 6 (some .int) := ⟨rfl, big_6 (i := 40) rfl rfl, big_in (i := 32) (by decide +kernel) rfl, in_X12, co_X12_lineAt⟩
theorem co_X12_secondEdge : Cond.code yX12_secondEdge cX12_secondEdge 4 (some .int) ∈ BIG := big_6 (i := 45) rfl rfl
theorem me_X12_secondEdge : ME RX12 yX12_secondEdge cX12_secondEdge 4 (some .int) := ⟨rfl, big_6 (i := 44) rfl rfl, big_in (i := 33) (by decide +kernel) rfl, in_X12, co_X12_secondEdge⟩
theorem co_X12_spreadOf : Cond.code yX12_spreadOf cX12_spreadOf 3 (some .int) ∈ BIG := big_6 (i := 49) rfl rfl
theorem me_X12_spreadOf : ME RX12 yX12_spreadOf cX12_spreadOf 3 (some .int) := ⟨rfl, big_6 (i := 48) rfl rfl, big_in (i := 34) (by decide +kernel) rfl, in_X12, co_X12_spreadOf⟩
theorem co_X12_growOf : Cond.code yX12_growOf cX12_growOf 3 (some .int) ∈ BIG := big_6 (i := 53) rfl rfl
theorem me_X12_growOf : ME RX12 yX12_growOf cX12_growOf 3 (some .int) := ⟨rfl, big_6 (i := 52) rfl rfl, big_in (i := 35) (by decide +kernel) rfl, in_X12, co_X12_growOf⟩
theorem co_X12_card : Cond.code yX12_card cX12_card 8 (some .int) ∈ BIG := big_6 (i := 57) rfl rfl
theorem me_X12_card : ME RX12 yX12_card cX12_card 8 (some .int) := ⟨rfl, big_6 (i := 55) rfl rfl, big_6 (i := 56) rfl rfl, in_X12, co_X12_card⟩
theorem co_X12_isMeasure : Cond.code yX12_isMeasure cX12_isMeasure 1 (some .boolean) ∈ BIG := big_6 (i := 62) rfl rfl
theorem me_X12_isMeasure : MS yX12_isMeasure cX12_isMeasure 1 (some .boolean) := ⟨big_6 (i := 61) rfl rfl, in_X12, co_X12_isMeasure⟩
theorem co_X12_addCard : Cond.code yX12_addCard cX12_addCard 10 none ∈ BIG := big_6 (i := 68) rfl rfl
theorem me_X12_addCard : ME RX12 yX12_addCard cX12_addCard 10 none := ⟨rfl, big_6 (i := 67) rfl rfl, big_in (i := 36) (by decide +kernel) rfl, in_X12, co_X12_addCard⟩
theorem co_X12_drawerOf : Cond.code yX12_drawerOf cX12_drawerOf 2 (some .int) ∈ BIG := big_6 (i := 72) rfl rfl
theorem me_X12_drawerOf : ME RX12 yX12_drawerOf cX12_drawerOf 2 (some .int) := ⟨rfl, big_6 (i := 71) rfl rfl, big_in (i := 37) (by decide +kernel) rfl, in_X12, co_X12_drawerOf⟩
theorem co_X12_thirdOf : Cond.code yX12_thirdOf cX12_thirdOf 4 (some .int) ∈ BIG := big_6 (i := 76) rfl rfl
theorem me_X12_thirdOf : ME RX12 yX12_thirdOf cX12_thirdOf 4 (some .int) := ⟨rfl, big_6 (i := 75) rfl rfl, big_in (i := 38) (by decide +kernel) rfl, in_X12, co_X12_thirdOf⟩
theorem co_X12_of : Cond.code yX12_of cX12_of 3 (some .int) ∈ BIG := big_6 (i := 80) rfl rfl
theorem me_X12_of : ME RX12 yX12_of cX12_of 3 (some .int) := ⟨rfl, big_6 (i := 78) rfl rfl, big_6 (i := 79) rfl rfl, in_X12, co_X12_of⟩
theorem co_X12_isCard : Cond.code yX12_isCard cX12_isCard 2 (some .boolean) ∈ BIG := big_6 (i := 84) rfl rfl
theorem me_X12_isCard : ME RX12 yX12_isCard cX12_isCard 2 (some .boolean) := ⟨rfl, big_6 (i := 83) rfl rfl, big_in (i := 39) (by decide +kernel) rfl, in_X12, co_X12_isCard⟩
theorem co_X12_isOut : Cond.code yX12_isOut cX12_isOut 2 (some .boolean) ∈ BIG := big_6 (i := 88) rfl rfl
theorem me_X12_isOut : ME RX12 yX12_isOut cX12_isOut 2 (some .boolean) := ⟨rfl, big_6 (i := 87) rfl rfl, big_in (i := 40) (by decide +kernel) rfl, in_X12, co_X12_isOut⟩
theorem co_X12_isDue : Cond.code yX12_isDue cX12_isDue 2 (some .boolean) ∈ BIG := big_6 (i := 92) rfl rfl
theorem me_X12_isDue : ME RX12 yX12_isDue cX12_isDue 2 (some .boolean) := ⟨rfl, big_6 (i := 91) rfl rfl, big_in (i := 41) (by decide +kernel) rfl, in_X12, co_X12_isDue⟩
theorem co_X12_spreadAt : Cond.code yX12_spreadAt cX12_spreadAt 2 (some .int) ∈ BIG := big_6 (i := 96) rfl rfl
theorem me_X12_spreadAt : ME RX12 yX12_spreadAt cX12_spreadAt 2 (some .int) := ⟨rfl, big_6 (i := 95) rfl rfl, big_in (i := 42) (by decide +kernel) rfl, in_X12, co_X12_spreadAt⟩
theorem co_X12_anew : Cond.code yX12_anew cX12_anew 5 (some .int) ∈ BIG := big_6 (i := 100) rfl rfl
theorem me_X12_anew : ME RX12 yX12_anew cX12_anew 5 (some .int) := ⟨rfl, big_6 (i := 98) rfl rfl, big_6 (i := 99) rfl rfl, in_X12, co_X12_anew⟩
theorem co_X12_known : Cond.code yX12_known cX12_known 6 (some .int) ∈ BIG := big_6 (i := 105) rfl rfl
theorem me_X12_known : ME RX12 yX12_known cX12_known 6 (some .int) := ⟨rfl, big_6 (i := 103) rfl rfl, big_6 (i := 104) rfl rfl, in_X12, co_X12_known⟩
theorem co_X12_file : Cond.code yX12_file cX12_file 3 (some .int) ∈ BIG := big_6 (i := 109) rfl rfl
theorem me_X12_file : ME RX12 yX12_file cX12_file 3 (some .int) := ⟨rfl, big_6 (i := 107) rfl rfl, big_6 (i := 108) rfl rfl, in_X12, co_X12_file⟩
theorem co_X12_out : Cond.code yX12_out cX12_out 2 (some .int) ∈ BIG := big_6 (i := 113) rfl rfl
theorem me_X12_out : ME RX12 yX12_out cX12_out 2 (some .int) := ⟨rfl, big_6 (i := 111) rfl rfl, big_6 (i := 112) rfl rfl, in_X12, co_X12_out⟩
theorem co_X12_drawer : Cond.code yX12_drawer cX12_drawer 7 (some .int) ∈ BIG := big_6 (i := 117) rfl rfl
theorem me_X12_drawer : ME RX12 yX12_drawer cX12_drawer 7 (some .int) := ⟨rfl, big_6 (i := 115) rfl rfl, big_6 (i := 116) rfl rfl, in_X12, co_X12_drawer⟩
theorem co_X12_tell : Cond.code yX12_tell cX12_tell 6 (some .int) ∈ BIG := big_6 (i := 122) rfl rfl
theorem me_X12_tell : ME RX12 yX12_tell cX12_tell 6 (some .int) := ⟨rfl, big_6 (i := 120) rfl rfl, big_6 (i := 121) rfl rfl, in_X12, co_X12_tell⟩
theorem co_X12_chance : Cond.code yX12_chance cX12_chance 3 (some .long) ∈ BIG := big_6 (i := 126) rfl rfl
theorem me_X12_chance : ME RX12 yX12_chance cX12_chance 3 (some .long) := ⟨rfl, big_6 (i := 124) rfl rfl, big_6 (i := 125) rfl rfl, in_X12, co_X12_chance⟩
theorem co_X12_layThirds : Cond.code yX12_layThirds cX12_layThirds 4 none ∈ BIG := big_6 (i := 132) rfl rfl
theorem me_X12_layThirds : ME RX12 yX12_layThirds cX12_layThirds 4 none := ⟨rfl, big_6 (i := 131) rfl rfl, big_in (i := 43) (by decide +kernel) rfl, in_X12, co_X12_layThirds⟩
theorem co_X12_chanceOf : Cond.code yX12_chanceOf cX12_chanceOf 2 (some .int) ∈ BIG := big_6 (i := 136) rfl rfl
theorem me_X12_chanceOf : ME RX12 yX12_chanceOf cX12_chanceOf 2 (some .int) := ⟨rfl, big_6 (i := 135) rfl rfl, big_in (i := 44) (by decide +kernel) rfl, in_X12, co_X12_chanceOf⟩
theorem co_X12_lowest : Cond.code yX12_lowest cX12_lowest 11 (some .long) ∈ BIG := big_6 (i := 139) rfl rfl
theorem me_X12_lowest : MS yX12_lowest cX12_lowest 11 (some .long) := ⟨big_6 (i := 138) rfl rfl, in_X12, co_X12_lowest⟩
theorem co_X12_look : Cond.code yX12_look cX12_look 5 (some .int) ∈ BIG := big_6 (i := 143) rfl rfl
theorem me_X12_look : ME RX12 yX12_look cX12_look 5 (some .int) := ⟨rfl, big_6 (i := 141) rfl rfl, big_6 (i := 142) rfl rfl, in_X12, co_X12_look⟩
theorem co_X12_layLook : Cond.code yX12_layLook cX12_layLook 8 none ∈ BIG := big_6 (i := 149) rfl rfl
theorem me_X12_layLook : ME RX12 yX12_layLook cX12_layLook 8 none := ⟨rfl, big_6 (i := 148) rfl rfl, big_in (i := 45) (by decide +kernel) rfl, in_X12, co_X12_layLook⟩
theorem co_X12_isLooked : Cond.code yX12_isLooked cX12_isLooked 2 (some .boolean) ∈ BIG := big_6 (i := 154) rfl rfl
theorem me_X12_isLooked : ME RX12 yX12_isLooked cX12_isLooked 2 (some .boolean) := ⟨rfl, big_6 (i := 153) rfl rfl, big_in (i := 46) (by decide +kernel) rfl, in_X12, co_X12_isLooked⟩
theorem co_X12_grown : Cond.code yX12_grown cX12_grown 4 (some .int) ∈ BIG := big_6 (i := 158) rfl rfl
theorem me_X12_grown : ME RX12 yX12_grown cX12_grown 4 (some .int) := ⟨rfl, big_6 (i := 156) rfl rfl, big_6 (i := 157) rfl rfl, in_X12, co_X12_grown⟩
theorem co_X12_grownOf : Cond.code yX12_grownOf cX12_grownOf 5 (some .int) ∈ BIG := big_6 (i := 162) rfl rfl
theorem me_X12_grownOf : ME RX12 yX12_grownOf cX12_grownOf 5 (some .int) := ⟨rfl, big_6 (i := 161) rfl rfl, big_in (i := 47) (by decide +kernel) rfl, in_X12, co_X12_grownOf⟩
theorem co_X12_match : Cond.code yX12_match cX12_match 3 (some .int) ∈ BIG := big_6 (i := 166) rfl rfl
theorem me_X12_match : ME RX12 yX12_match cX12_match 3 (some .int) := ⟨rfl, big_6 (i := 164) rfl rfl, big_6 (i := 165) rfl rfl, in_X12, co_X12_match⟩
theorem co_X12_matches : Cond.code yX12_matches cX12_matches 3 (some .int) ∈ BIG := big_6 (i := 172) rfl rfl
theorem me_X12_matches : ME RX12 yX12_matches cX12_matches 3 (some .int) := ⟨rfl, big_6 (i := 171) rfl rfl, big_in (i := 48) (by decide +kernel) rfl, in_X12, co_X12_matches⟩
theorem co_X12_tryTelling : Cond.code yX12_tryTelling cX12_tryTelling 2 none ∈ BIG := big_6 (i := 176) rfl rfl
theorem me_X12_tryTelling : ME RX12 yX12_tryTelling cX12_tryTelling 2 none := ⟨rfl, big_6 (i := 175) rfl rfl, big_in (i := 49) (by decide +kernel) rfl, in_X12, co_X12_tryTelling⟩
theorem co_X12_missOf : Cond.code yX12_missOf cX12_missOf 9 (some .int) ∈ BIG := big_6 (i := 180) rfl rfl
theorem me_X12_missOf : ME RX12 yX12_missOf cX12_missOf 9 (some .int) := ⟨rfl, big_6 (i := 179) rfl rfl, big_in (i := 50) (by decide +kernel) rfl, in_X12, co_X12_missOf⟩
theorem co_X12_sizeOf : Cond.code yX12_sizeOf cX12_sizeOf 3 (some .int) ∈ BIG := big_6 (i := 183) rfl rfl
theorem me_X12_sizeOf : MS yX12_sizeOf cX12_sizeOf 3 (some .int) := ⟨big_6 (i := 182) rfl rfl, in_X12, co_X12_sizeOf⟩
theorem co_X12_matchAt : Cond.code yX12_matchAt cX12_matchAt 7 (some .int) ∈ BIG := big_6 (i := 187) rfl rfl
theorem me_X12_matchAt : ME RX12 yX12_matchAt cX12_matchAt 7 (some .int) := ⟨rfl, big_6 (i := 186) rfl rfl, big_in (i := 51) (by decide +kernel) rfl, in_X12, co_X12_matchAt⟩
theorem co_X12_byChance : Cond.code yX12_byChance cX12_byChance 12 (some .long) ∈ BIG := big_6 (i := 191) rfl rfl
theorem me_X12_byChance : ME RX12 yX12_byChance cX12_byChance 12 (some .long) := ⟨rfl, big_6 (i := 189) rfl rfl, big_6 (i := 190) rfl rfl, in_X12, co_X12_byChance⟩
theorem co_X12_beside : Cond.code yX12_beside cX12_beside 8 (some .int) ∈ BIG := big_6 (i := 196) rfl rfl
theorem me_X12_beside : ME RX12 yX12_beside cX12_beside 8 (some .int) := ⟨rfl, big_6 (i := 194) rfl rfl, big_6 (i := 195) rfl rfl, in_X12, co_X12_beside⟩
theorem co_X12_onesOf : Cond.code yX12_onesOf cX12_onesOf 1 (some .int) ∈ BIG := big_6 (i := 199) rfl rfl
theorem me_X12_onesOf : MS yX12_onesOf cX12_onesOf 1 (some .int) := ⟨big_6 (i := 198) rfl rfl, in_X12, co_X12_onesOf⟩
theorem co_X12_bar : Cond.code yX12_bar cX12_bar 5 (some .int) ∈ BIG := big_6 (i := 203) rfl rfl
theorem me_X12_bar : ME RX12 yX12_bar cX12_bar 5 (some .int) := ⟨rfl, big_6 (i := 201) rfl rfl, big_6 (i := 202) rfl rfl, in_X12, co_X12_bar⟩
theorem co_X12_join : Cond.code yX12_join cX12_join 3 (some .int) ∈ BIG := big_6 (i := 207) rfl rfl
theorem me_X12_join : ME RX12 yX12_join cX12_join 3 (some .int) := ⟨rfl, big_6 (i := 205) rfl rfl, big_6 (i := 206) rfl rfl, in_X12, co_X12_join⟩
theorem co_X12_doJoin : Cond.code yX12_doJoin cX12_doJoin 4 (some .boolean) ∈ BIG := big_6 (i := 211) rfl rfl
theorem me_X12_doJoin : ME RX12 yX12_doJoin cX12_doJoin 4 (some .boolean) := ⟨rfl, big_6 (i := 210) rfl rfl, big_in (i := 52) (by decide +kernel) rfl, in_X12, co_X12_doJoin⟩
theorem co_X12_tryCard : Cond.code yX12_tryCard cX12_tryCard 3 none ∈ BIG := big_6 (i := 215) rfl rfl
theorem me_X12_tryCard : ME RX12 yX12_tryCard cX12_tryCard 3 none := ⟨rfl, big_6 (i := 214) rfl rfl, big_in (i := 53) (by decide +kernel) rfl, in_X12, co_X12_tryCard⟩
theorem co_X12_men : Cond.code yX12_men cX12_men 8 (some .int) ∈ BIG := big_6 (i := 219) rfl rfl
theorem me_X12_men : ME RX12 yX12_men cX12_men 8 (some .int) := ⟨rfl, big_6 (i := 217) rfl rfl, big_6 (i := 218) rfl rfl, in_X12, co_X12_men⟩
theorem co_X12_layMen : Cond.code yX12_layMen cX12_layMen 4 none ∈ BIG := big_6 (i := 223) rfl rfl
theorem me_X12_layMen : ME RX12 yX12_layMen cX12_layMen 4 none := ⟨rfl, big_6 (i := 222) rfl rfl, big_in (i := 54) (by decide +kernel) rfl, in_X12, co_X12_layMen⟩
theorem co_X12_guess : Cond.code yX12_guess cX12_guess 11 (some .int) ∈ BIG := big_6 (i := 227) rfl rfl
theorem me_X12_guess : ME RX12 yX12_guess cX12_guess 11 (some .int) := ⟨rfl, big_6 (i := 225) rfl rfl, big_6 (i := 226) rfl rfl, in_X12, co_X12_guess⟩
theorem co_X12_even : Cond.code yX12_even cX12_even 10 (some .int) ∈ BIG := big_6 (i := 231) rfl rfl
theorem me_X12_even : ME RX12 yX12_even cX12_even 10 (some .int) := ⟨rfl, big_6 (i := 229) rfl rfl, big_6 (i := 230) rfl rfl, in_X12, co_X12_even⟩
theorem co_X12_judgeEdges : Cond.code yX12_judgeEdges cX12_judgeEdges 10 none ∈ BIG := big_6 (i := 235) rfl rfl
theorem me_X12_judgeEdges : ME RX12 yX12_judgeEdges cX12_judgeEdges 10 none := ⟨rfl, big_6 (i := 234) rfl rfl, big_in (i := 55) (by decide +kernel) rfl, in_X12, co_X12_judgeEdges⟩
theorem co_X12_judge : Cond.code yX12_judge cX12_judge 5 (some .int) ∈ BIG := big_6 (i := 239) rfl rfl
theorem me_X12_judge : ME RX12 yX12_judge cX12_judge 5 (some .int) := ⟨rfl, big_6 (i := 237) rfl rfl, big_6 (i := 238) rfl rfl, in_X12, co_X12_judge⟩
theorem co_X12_hold : Cond.code yX12_hold cX12_hold 2 (some .int) ∈ BIG := big_7 (i := 3) rfl rfl
theorem me_X12_hold : ME RX12 yX12_hold cX12_hold 2 (some .int) := ⟨rfl, big_7 (i := 1) rfl rfl, big_7 (i := 2) rfl rfl, in_X12, co_X12_hold⟩
theorem co_X12_held : Cond.code yX12_held cX12_held 3 (some .int) ∈ BIG := big_7 (i := 7) rfl rfl
theorem me_X12_held : ME RX12 yX12_held cX12_held 3 (some .int) := ⟨rfl, big_7 (i := 5) rfl rfl, big_7 (i := 6) rfl rfl, in_X12, co_X12_held⟩
theorem co_X12_leaned : Cond.code yX12_leaned cX12_leaned 5 (some .int) ∈ BIG := big_7 (i := 11) rfl rfl
theorem me_X12_leaned : ME RX12 yX12_leaned cX12_leaned 5 (some .int) := ⟨rfl, big_7 (i := 10) rfl rfl, big_in (i := 56) (by decide +kernel) rfl, in_X12, co_X12_leaned⟩
theorem co_X12_wrong : Cond.code yX12_wrong cX12_wrong 2 (some .int) ∈ BIG := big_7 (i := 15) rfl rfl
theorem me_X12_wrong : ME RX12 yX12_wrong cX12_wrong 2 (some .int) := ⟨rfl, big_7 (i := 13) rfl rfl, big_7 (i := 14) rfl rfl, in_X12, co_X12_wrong⟩
theorem co_X12_sheet : Cond.code yX12_sheet cX12_sheet 5 (some .int) ∈ BIG := big_7 (i := 19) rfl rfl
theorem me_X12_sheet : ME RX12 yX12_sheet cX12_sheet 5 (some .int) := ⟨rfl, big_7 (i := 17) rfl rfl, big_7 (i := 18) rfl rfl, in_X12, co_X12_sheet⟩
theorem co_X12_lay : Cond.code yX12_lay cX12_lay 4 (some .int) ∈ BIG := big_7 (i := 23) rfl rfl
theorem me_X12_lay : ME RX12 yX12_lay cX12_lay 4 (some .int) := ⟨rfl, big_7 (i := 21) rfl rfl, big_7 (i := 22) rfl rfl, in_X12, co_X12_lay⟩
theorem co_X12_read : Cond.code yX12_read cX12_read 10 (some .int) ∈ BIG := big_7 (i := 27) rfl rfl
theorem me_X12_read : ME RX12 yX12_read cX12_read 10 (some .int) := ⟨rfl, big_7 (i := 25) rfl rfl, big_7 (i := 26) rfl rfl, in_X12, co_X12_read⟩
theorem co_X12_torn : Cond.code yX12_torn cX12_torn 1 (some .int) ∈ BIG := big_7 (i := 32) rfl rfl
theorem me_X12_torn : ME RX12 yX12_torn cX12_torn 1 (some .int) := ⟨rfl, big_7 (i := 30) rfl rfl, big_7 (i := 31) rfl rfl, in_X12, co_X12_torn⟩
theorem co_X12_count : Cond.code yX12_count cX12_count 7 (some .int) ∈ BIG := big_7 (i := 36) rfl rfl
theorem me_X12_count : ME RX12 yX12_count cX12_count 7 (some .int) := ⟨rfl, big_7 (i := 34) rfl rfl, big_7 (i := 35) rfl rfl, in_X12, co_X12_count⟩
theorem ml_L_9 : Cond.methodLink RL 9 yX11_init ∈ BIG := big_1 (i := 22) rfl rfl
theorem ml_X11_1 : Cond.methodLink RX11 1 objectInit ∈ BIG := big_1 (i := 25) rfl rfl
theorem ml_X9_1 : Cond.methodLink RX9 1 objectInit ∈ BIG := big_1 (i := 33) rfl rfl
theorem ml_X7_3 : Cond.methodLink RX7 3 objectInit ∈ BIG := big_1 (i := 49) rfl rfl
theorem ml_X11_25 : Cond.methodLink RX11 25 yX6_init ∈ BIG := big_1 (i := 71) rfl rfl
theorem ml_X6_3 : Cond.methodLink RX6 3 objectInit ∈ BIG := big_1 (i := 74) rfl rfl
theorem ml_X11_34 : Cond.methodLink RX11 34 yX5_init ∈ BIG := big_1 (i := 104) rfl rfl
theorem ml_X5_3 : Cond.methodLink RX5 3 objectInit ∈ BIG := big_1 (i := 107) rfl rfl
theorem ml_X5_19 : Cond.methodLink RX5 19 yX5_refresh ∈ BIG := big_1 (i := 108) rfl rfl
theorem ml_X5_26 : Cond.methodLink RX5 26 yX7_value ∈ BIG := big_1 (i := 112) rfl rfl
theorem ml_X7_32 : Cond.methodLink RX7 32 yX7_latest ∈ BIG := big_1 (i := 116) rfl rfl
theorem ml_X7_36 : Cond.methodLink RX7 36 yX7_usual ∈ BIG := big_1 (i := 120) rfl rfl
theorem ml_X11_43 : Cond.methodLink RX11 43 yX0_init ∈ BIG := big_1 (i := 139) rfl rfl
theorem ml_X0_3 : Cond.methodLink RX0 3 objectInit ∈ BIG := big_1 (i := 142) rfl rfl
theorem ml_X1_3 : Cond.methodLink RX1 3 objectInit ∈ BIG := big_1 (i := 149) rfl rfl
theorem ml_X10_3 : Cond.methodLink RX10 3 objectInit ∈ BIG := big_2 (i := 1) rfl rfl
theorem ml_X3_3 : Cond.methodLink RX3 3 objectInit ∈ BIG := big_2 (i := 37) rfl rfl
theorem ml_X11_66 : Cond.methodLink RX11 66 yX4_init ∈ BIG := big_2 (i := 64) rfl rfl
theorem ml_X4_3 : Cond.methodLink RX4 3 objectInit ∈ BIG := big_2 (i := 67) rfl rfl
theorem ml_X11_75 : Cond.methodLink RX11 75 yX2_init ∈ BIG := big_2 (i := 86) rfl rfl
theorem ml_X2_3 : Cond.methodLink RX2 3 objectInit ∈ BIG := big_2 (i := 89) rfl rfl
theorem ml_X8_3 : Cond.methodLink RX8 3 objectInit ∈ BIG := big_2 (i := 122) rfl rfl
theorem ml_L_13 : Cond.methodLink RL 13 yX11_day ∈ BIG := big_2 (i := 191) rfl rfl
theorem ml_X11_104 : Cond.methodLink RX11 104 yX11_isDay ∈ BIG := big_2 (i := 195) rfl rfl
theorem ml_X11_112 : Cond.methodLink RX11 112 yX5_refresh ∈ BIG := big_2 (i := 198) rfl rfl
theorem ml_L_20 : Cond.methodLink RL 20 yX11_feed ∈ BIG := big_2 (i := 199) rfl rfl
theorem ml_X11_115 : Cond.methodLink RX11 115 yX9_add ∈ BIG := big_2 (i := 203) rfl rfl
theorem ml_L_25 : Cond.methodLink RL 25 yX11_end ∈ BIG := big_2 (i := 207) rfl rfl
theorem ml_L_29 : Cond.methodLink RL 29 yX11_text ∈ BIG := big_2 (i := 211) rfl rfl
theorem ml_X11_122 : Cond.methodLink RX11 122 yX6_readText ∈ BIG := big_2 (i := 215) rfl rfl
theorem ml_X6_32 : Cond.methodLink RX6 32 yX6_step ∈ BIG := big_2 (i := 219) rfl rfl
theorem ml_X6_86 : Cond.methodLink RX6 86 yX9_signAt ∈ BIG := big_2 (i := 223) rfl rfl
theorem ml_X6_118 : Cond.methodLink RX6 118 yX6_isLow ∈ BIG := big_2 (i := 227) rfl rfl
theorem ml_X6_121 : Cond.methodLink RX6 121 yX6_stepName ∈ BIG := big_2 (i := 230) rfl rfl
theorem ml_X6_124 : Cond.methodLink RX6 124 yX6_isFigure ∈ BIG := big_2 (i := 234) rfl rfl
theorem ml_X6_127 : Cond.methodLink RX6 127 yX6_stepNumber ∈ BIG := big_2 (i := 237) rfl rfl
theorem ml_X6_48 : Cond.methodLink RX6 48 yX6_fail ∈ BIG := big_3 (i := 1) rfl rfl
theorem ml_X6_40 : Cond.methodLink RX6 40 yX6_isName ∈ BIG := big_3 (i := 6) rfl rfl
theorem ml_X6_106 : Cond.methodLink RX6 106 yJ0_length_8abf5 ∈ BIG := big_3 (i := 10) rfl rfl
theorem ml_J0_335 : Cond.methodLink RJ0 335 yJ0_coder_7d493 ∈ BIG := big_3 (i := 14) rfl rfl
theorem ml_X6_112 : Cond.methodLink RX6 112 yJ0_charAt_5068e ∈ BIG := big_3 (i := 20) rfl rfl
theorem ml_J0_492 : Cond.methodLink RJ0 492 yJ0_isLatin1_aae02 ∈ BIG := big_3 (i := 24) rfl rfl
theorem ml_J0_495 : Cond.methodLink RJ0 495 yJ1_charAt_3b067 ∈ BIG := big_3 (i := 28) rfl rfl
theorem ml_J1_9 : Cond.methodLink RJ1 9 yJ0_checkIndex_df160 ∈ BIG := big_3 (i := 31) rfl rfl
theorem ml_J0_1059 : Cond.methodLink RJ0 1059 yJ3_checkIndex_8e157 ∈ BIG := big_3 (i := 36) rfl rfl
theorem ml_J0_498 : Cond.methodLink RJ0 498 yJ2_charAt_3b067 ∈ BIG := big_3 (i := 39) rfl rfl
theorem ml_J2_67 : Cond.methodLink RJ2 67 yJ2_checkIndex_2214a ∈ BIG := big_3 (i := 42) rfl rfl
theorem ml_J2_48 : Cond.methodLink RJ2 48 yJ2_length_9d52b ∈ BIG := big_3 (i := 45) rfl rfl
theorem ml_J2_414 : Cond.methodLink RJ2 414 yJ0_checkIndex_df160 ∈ BIG := big_3 (i := 48) rfl rfl
theorem ml_J2_71 : Cond.methodLink RJ2 71 yJ2_getChar_3b067 ∈ BIG := big_3 (i := 49) rfl rfl
theorem ml_X6_44 : Cond.methodLink RX6 44 yX6_isRule ∈ BIG := big_3 (i := 58) rfl rfl
theorem ml_X6_52 : Cond.methodLink RX6 52 yX6_readLine ∈ BIG := big_3 (i := 67) rfl rfl
theorem ml_X6_65 : Cond.methodLink RX6 65 yX6_takeNumber ∈ BIG := big_3 (i := 71) rfl rfl
theorem ml_X6_76 : Cond.methodLink RX6 76 yX6_needNumber ∈ BIG := big_3 (i := 75) rfl rfl
theorem ml_X6_69 : Cond.methodLink RX6 69 yX6_takeLetter ∈ BIG := big_3 (i := 79) rfl rfl
theorem ml_X6_79 : Cond.methodLink RX6 79 yX6_needNew ∈ BIG := big_3 (i := 86) rfl rfl
theorem ml_X6_99 : Cond.methodLink RX6 99 yX7_isThere ∈ BIG := big_3 (i := 90) rfl rfl
theorem ml_X6_72 : Cond.methodLink RX6 72 yX6_takeStop ∈ BIG := big_3 (i := 94) rfl rfl
theorem ml_X6_103 : Cond.methodLink RX6 103 yX7_add ∈ BIG := big_3 (i := 98) rfl rfl
theorem ml_X11_132 : Cond.methodLink RX11 132 yX7_become ∈ BIG := big_3 (i := 102) rfl rfl
theorem ml_X7_28 : Cond.methodLink RX7 28 yX7_add ∈ BIG := big_3 (i := 106) rfl rfl
theorem ml_L_34 : Cond.methodLink RL 34 yX11_fault ∈ BIG := big_3 (i := 107) rfl rfl
theorem ml_L_38 : Cond.methodLink RL 38 yX11_rule ∈ BIG := big_3 (i := 111) rfl rfl
theorem ml_X11_141 : Cond.methodLink RX11 141 yX7_value ∈ BIG := big_3 (i := 115) rfl rfl
theorem ml_L_43 : Cond.methodLink RL 43 yX11_card ∈ BIG := big_3 (i := 116) rfl rfl
theorem ml_X11_145 : Cond.methodLink RX11 145 yX11_isTold ∈ BIG := big_3 (i := 120) rfl rfl
theorem ml_X11_148 : Cond.methodLink RX11 148 yX11_isHand ∈ BIG := big_3 (i := 123) rfl rfl
theorem ml_X11_151 : Cond.methodLink RX11 151 yX0_add ∈ BIG := big_3 (i := 126) rfl rfl
theorem ml_X0_66 : Cond.methodLink RX0 66 yX5_drawerBy ∈ BIG := big_3 (i := 130) rfl rfl
theorem ml_X5_32 : Cond.methodLink RX5 32 yX5_third ∈ BIG := big_3 (i := 134) rfl rfl
theorem ml_L_48 : Cond.methodLink RL 48 yX11_of ∈ BIG := big_3 (i := 138) rfl rfl
theorem ml_X11_154 : Cond.methodLink RX11 154 yX0_has ∈ BIG := big_3 (i := 142) rfl rfl
theorem ml_X11_181 : Cond.methodLink RX11 181 yX5_drawerBy ∈ BIG := big_3 (i := 146) rfl rfl
theorem ml_X11_185 : Cond.methodLink RX11 185 yX1_isOut ∈ BIG := big_3 (i := 147) rfl rfl
theorem ml_X11_188 : Cond.methodLink RX11 188 yX11_bit ∈ BIG := big_3 (i := 151) rfl rfl
theorem ml_X11_192 : Cond.methodLink RX11 192 yX1_isDue ∈ BIG := big_3 (i := 154) rfl rfl
theorem ml_X11_196 : Cond.methodLink RX11 196 yX1_spread ∈ BIG := big_3 (i := 158) rfl rfl
theorem ml_X1_36 : Cond.methodLink RX1 36 yX5_spreadOf ∈ BIG := big_3 (i := 162) rfl rfl
theorem ml_L_52 : Cond.methodLink RL 52 yX11_anew ∈ BIG := big_3 (i := 166) rfl rfl
theorem ml_X11_203 : Cond.methodLink RX11 203 yX11_isMeasure ∈ BIG := big_3 (i := 170) rfl rfl
theorem ml_X11_206 : Cond.methodLink RX11 206 yX0_tellAnew ∈ BIG := big_3 (i := 171) rfl rfl
theorem ml_L_57 : Cond.methodLink RL 57 yX11_known ∈ BIG := big_3 (i := 175) rfl rfl
theorem ml_X11_210 : Cond.methodLink RX11 210 yX0_knownOn ∈ BIG := big_3 (i := 179) rfl rfl
theorem ml_L_61 : Cond.methodLink RL 61 yX11_file ∈ BIG := big_3 (i := 183) rfl rfl
theorem ml_L_65 : Cond.methodLink RL 65 yX11_out ∈ BIG := big_3 (i := 187) rfl rfl
theorem ml_L_69 : Cond.methodLink RL 69 yX11_drawer ∈ BIG := big_3 (i := 191) rfl rfl
theorem ml_X11_213 : Cond.methodLink RX11 213 yX0_filedIn ∈ BIG := big_3 (i := 195) rfl rfl
theorem ml_X0_77 : Cond.methodLink RX0 77 yX1_isOut ∈ BIG := big_3 (i := 199) rfl rfl
theorem ml_X11_217 : Cond.methodLink RX11 217 yJ6_bitCount_0f7a4 ∈ BIG := big_3 (i := 200) rfl rfl
theorem ml_X11_222 : Cond.methodLink RX11 222 yX0_elsewhere ∈ BIG := big_3 (i := 206) rfl rfl
theorem ml_L_73 : Cond.methodLink RL 73 yX11_tell ∈ BIG := big_3 (i := 211) rfl rfl
theorem ml_L_78 : Cond.methodLink RL 78 yX11_chance ∈ BIG := big_3 (i := 215) rfl rfl
theorem ml_X11_235 : Cond.methodLink RX11 235 yX3_weigh ∈ BIG := big_3 (i := 221) rfl rfl
theorem ml_X3_33 : Cond.methodLink RX3 33 yX5_spreadOf ∈ BIG := big_3 (i := 225) rfl rfl
theorem ml_X3_39 : Cond.methodLink RX3 39 yX3_share ∈ BIG := big_3 (i := 226) rfl rfl
theorem ml_X3_47 : Cond.methodLink RX3 47 yJ9_max_7cf53 ∈ BIG := big_3 (i := 231) rfl rfl
theorem ml_X3_53 : Cond.methodLink RX3 53 yX5_third ∈ BIG := big_3 (i := 234) rfl rfl
theorem ml_X11_245 : Cond.methodLink RX11 245 yX11_lowest ∈ BIG := big_3 (i := 235) rfl rfl
theorem ml_L_83 : Cond.methodLink RL 83 yX11_look ∈ BIG := big_3 (i := 238) rfl rfl
theorem ml_X11_249 : Cond.methodLink RX11 249 yX11_isShare ∈ BIG := big_4 (i := 2) rfl rfl
theorem ml_X11_252 : Cond.methodLink RX11 252 yX3_take ∈ BIG := big_4 (i := 5) rfl rfl
theorem ml_X3_64 : Cond.methodLink RX3 64 yX3_heaviest ∈ BIG := big_4 (i := 10) rfl rfl
theorem ml_L_87 : Cond.methodLink RL 87 yX11_match ∈ BIG := big_4 (i := 14) rfl rfl
theorem ml_X11_265 : Cond.methodLink RX11 265 yX10_findMatches ∈ BIG := big_4 (i := 18) rfl rfl
theorem ml_X10_41 : Cond.methodLink RX10 41 yX1_spread ∈ BIG := big_4 (i := 22) rfl rfl
theorem ml_X10_50 : Cond.methodLink RX10 50 yX5_spreadOf ∈ BIG := big_4 (i := 23) rfl rfl
theorem ml_X10_56 : Cond.methodLink RX10 56 yX1_miss ∈ BIG := big_4 (i := 24) rfl rfl
theorem ml_X1_43 : Cond.methodLink RX1 43 yX1_isOut ∈ BIG := big_4 (i := 28) rfl rfl
theorem ml_X1_47 : Cond.methodLink RX1 47 yX1_canMeasure ∈ BIG := big_4 (i := 29) rfl rfl
theorem ml_X1_51 : Cond.methodLink RX1 51 yJ9_max_7cf53 ∈ BIG := big_4 (i := 33) rfl rfl
theorem ml_X10_60 : Cond.methodLink RX10 60 yX10_insert ∈ BIG := big_4 (i := 34) rfl rfl
theorem ml_L_91 : Cond.methodLink RL 91 yX11_byChance ∈ BIG := big_4 (i := 38) rfl rfl
theorem ml_X11_276 : Cond.methodLink RX11 276 yX0_kept ∈ BIG := big_4 (i := 42) rfl rfl
theorem ml_X11_282 : Cond.methodLink RX11 282 yX10_near ∈ BIG := big_4 (i := 47) rfl rfl
theorem ml_X10_64 : Cond.methodLink RX10 64 yX1_isOut ∈ BIG := big_4 (i := 51) rfl rfl
theorem ml_X10_69 : Cond.methodLink RX10 69 yJ9_abs_0f7a4 ∈ BIG := big_4 (i := 52) rfl rfl
theorem ml_L_96 : Cond.methodLink RL 96 yX11_grown ∈ BIG := big_4 (i := 56) rfl rfl
theorem ml_X11_286 : Cond.methodLink RX11 286 yX1_canMeasure ∈ BIG := big_4 (i := 60) rfl rfl
theorem ml_L_100 : Cond.methodLink RL 100 yX11_beside ∈ BIG := big_4 (i := 61) rfl rfl
theorem ml_X11_289 : Cond.methodLink RX11 289 yX0_printed ∈ BIG := big_4 (i := 65) rfl rfl
theorem ml_X0_85 : Cond.methodLink RX0 85 yJ6_bitCount_0f7a4 ∈ BIG := big_4 (i := 69) rfl rfl
theorem ml_L_104 : Cond.methodLink RL 104 yX11_bar ∈ BIG := big_4 (i := 70) rfl rfl
theorem ml_X11_292 : Cond.methodLink RX11 292 yX0_isBarred ∈ BIG := big_4 (i := 74) rfl rfl
theorem ml_X0_95 : Cond.methodLink RX0 95 yJ9_min_7cf53 ∈ BIG := big_4 (i := 78) rfl rfl
theorem ml_X0_101 : Cond.methodLink RX0 101 yJ9_max_7cf53 ∈ BIG := big_4 (i := 81) rfl rfl
theorem ml_X11_296 : Cond.methodLink RX11 296 yX0_setBar ∈ BIG := big_4 (i := 82) rfl rfl
theorem ml_X0_107 : Cond.methodLink RX0 107 yX0_isBarred ∈ BIG := big_4 (i := 86) rfl rfl
theorem ml_L_109 : Cond.methodLink RL 109 yX11_join ∈ BIG := big_4 (i := 87) rfl rfl
theorem ml_X11_300 : Cond.methodLink RX11 300 yX0_joined ∈ BIG := big_4 (i := 91) rfl rfl
theorem ml_X0_111 : Cond.methodLink RX0 111 yX1_spread ∈ BIG := big_4 (i := 95) rfl rfl
theorem ml_X0_115 : Cond.methodLink RX0 115 yX1_miss ∈ BIG := big_4 (i := 96) rfl rfl
theorem ml_L_113 : Cond.methodLink RL 113 yX11_men ∈ BIG := big_4 (i := 97) rfl rfl
theorem ml_X11_303 : Cond.methodLink RX11 303 yX4_gather ∈ BIG := big_4 (i := 101) rfl rfl
theorem ml_X4_29 : Cond.methodLink RX4 29 yX1_isOut ∈ BIG := big_4 (i := 105) rfl rfl
theorem ml_X4_35 : Cond.methodLink RX4 35 yX0_joined ∈ BIG := big_4 (i := 106) rfl rfl
theorem ml_X4_39 : Cond.methodLink RX4 39 yJ9_min_7cf53 ∈ BIG := big_4 (i := 107) rfl rfl
theorem ml_X4_45 : Cond.methodLink RX4 45 yJ9_max_7cf53 ∈ BIG := big_4 (i := 108) rfl rfl
theorem ml_X4_48 : Cond.methodLink RX4 48 yX4_hang ∈ BIG := big_4 (i := 109) rfl rfl
theorem ml_X11_309 : Cond.methodLink RX11 309 yX4_number ∈ BIG := big_4 (i := 113) rfl rfl
theorem ml_X11_312 : Cond.methodLink RX11 312 yX4_greatest ∈ BIG := big_4 (i := 118) rfl rfl
theorem ml_X4_56 : Cond.methodLink RX4 56 yX4_isOne ∈ BIG := big_4 (i := 122) rfl rfl
theorem ml_X11_315 : Cond.methodLink RX11 315 yX4_quarrels ∈ BIG := big_4 (i := 126) rfl rfl
theorem ml_X4_59 : Cond.methodLink RX4 59 yX0_isBarred ∈ BIG := big_4 (i := 130) rfl rfl
theorem ml_L_117 : Cond.methodLink RL 117 yX11_guess ∈ BIG := big_4 (i := 131) rfl rfl
theorem ml_X11_318 : Cond.methodLink RX11 318 yX4_findDoubles ∈ BIG := big_4 (i := 135) rfl rfl
theorem ml_X4_74 : Cond.methodLink RX4 74 yJ9_abs_0f7a4 ∈ BIG := big_4 (i := 139) rfl rfl
theorem ml_L_121 : Cond.methodLink RL 121 yX11_even ∈ BIG := big_4 (i := 140) rfl rfl
theorem ml_X11_328 : Cond.methodLink RX11 328 yX2_search ∈ BIG := big_4 (i := 144) rfl rfl
theorem ml_X2_22 : Cond.methodLink RX2 22 yX2_below ∈ BIG := big_4 (i := 148) rfl rfl
theorem ml_X2_70 : Cond.methodLink RX2 70 yX2_isCounted ∈ BIG := big_4 (i := 152) rfl rfl
theorem ml_X2_58 : Cond.methodLink RX2 58 yX1_isOut ∈ BIG := big_4 (i := 156) rfl rfl
theorem ml_X2_26 : Cond.methodLink RX2 26 yX2_near ∈ BIG := big_4 (i := 158) rfl rfl
theorem ml_X2_78 : Cond.methodLink RX2 78 yJ9_abs_0f7a4 ∈ BIG := big_4 (i := 162) rfl rfl
theorem ml_X2_87 : Cond.methodLink RX2 87 yX1_spread ∈ BIG := big_4 (i := 163) rfl rfl
theorem ml_X2_29 : Cond.methodLink RX2 29 yX2_difference ∈ BIG := big_4 (i := 164) rfl rfl
theorem ml_X2_91 : Cond.methodLink RX2 91 yJ9_max_7cf53 ∈ BIG := big_4 (i := 168) rfl rfl
theorem ml_X2_94 : Cond.methodLink RX2 94 yJ9_min_7cf53 ∈ BIG := big_4 (i := 169) rfl rfl
theorem ml_X2_33 : Cond.methodLink RX2 33 yJ6_bitCount_0f7a4 ∈ BIG := big_4 (i := 170) rfl rfl
theorem ml_L_125 : Cond.methodLink RL 125 yX11_judge ∈ BIG := big_4 (i := 171) rfl rfl
theorem ml_X11_343 : Cond.methodLink RX11 343 yX2_below ∈ BIG := big_4 (i := 175) rfl rfl
theorem ml_X11_346 : Cond.methodLink RX11 346 yX2_difference ∈ BIG := big_4 (i := 176) rfl rfl
theorem ml_X11_349 : Cond.methodLink RX11 349 yX2_near ∈ BIG := big_4 (i := 177) rfl rfl
theorem ml_L_130 : Cond.methodLink RL 130 yX11_hold ∈ BIG := big_4 (i := 178) rfl rfl
theorem ml_L_134 : Cond.methodLink RL 134 yX11_held ∈ BIG := big_4 (i := 182) rfl rfl
theorem ml_X11_354 : Cond.methodLink RX11 354 yX11_isHold ∈ BIG := big_4 (i := 186) rfl rfl
theorem ml_X11_357 : Cond.methodLink RX11 357 yX11_leaned ∈ BIG := big_4 (i := 190) rfl rfl
theorem ml_L_138 : Cond.methodLink RL 138 yX11_wrong ∈ BIG := big_4 (i := 194) rfl rfl
theorem ml_L_142 : Cond.methodLink RL 142 yX11_sheet ∈ BIG := big_4 (i := 198) rfl rfl
theorem ml_X11_360 : Cond.methodLink RX11 360 yX11_isSheet ∈ BIG := big_4 (i := 202) rfl rfl
theorem ml_X11_363 : Cond.methodLink RX11 363 yX11_isLane ∈ BIG := big_4 (i := 205) rfl rfl
theorem ml_X11_366 : Cond.methodLink RX11 366 yX8_renew ∈ BIG := big_4 (i := 208) rfl rfl
theorem ml_L_146 : Cond.methodLink RL 146 yX11_lay ∈ BIG := big_4 (i := 212) rfl rfl
theorem ml_X11_370 : Cond.methodLink RX11 370 yX8_has ∈ BIG := big_4 (i := 216) rfl rfl
theorem ml_X11_371 : Cond.methodLink RX11 371 yX8_put ∈ BIG := big_4 (i := 220) rfl rfl
theorem ml_L_150 : Cond.methodLink RL 150 yX11_read ∈ BIG := big_4 (i := 224) rfl rfl
theorem ml_X11_374 : Cond.methodLink RX11 374 yX8_refusal ∈ BIG := big_4 (i := 228) rfl rfl
theorem ml_X11_380 : Cond.methodLink RX11 380 yJ9_max_7cf53 ∈ BIG := big_4 (i := 232) rfl rfl
theorem ml_L_154 : Cond.methodLink RL 154 yX11_torn ∈ BIG := big_4 (i := 233) rfl rfl
theorem ml_L_158 : Cond.methodLink RL 158 yX11_count ∈ BIG := big_4 (i := 237) rfl rfl
theorem ml_X11_390 : Cond.methodLink RX11 390 yX0_due ∈ BIG := big_5 (i := 1) rfl rfl
theorem ml_X0_91 : Cond.methodLink RX0 91 yX1_isDue ∈ BIG := big_5 (i := 5) rfl rfl
theorem ml_X11_395 : Cond.methodLink RX11 395 yX11_wrongHolds ∈ BIG := big_5 (i := 7) rfl rfl
theorem ml_L_12 : Cond.methodLink RL 12 yX12_init ∈ BIG := big_5 (i := 13) rfl rfl
theorem ml_X12_1 : Cond.methodLink RX12 1 objectInit ∈ BIG := big_5 (i := 16) rfl rfl
theorem ml_L_17 : Cond.methodLink RL 17 yX12_day ∈ BIG := big_5 (i := 204) rfl rfl
theorem ml_X12_137 : Cond.methodLink RX12 137 yX12_in ∈ BIG := big_5 (i := 209) rfl rfl
theorem ml_L_24 : Cond.methodLink RL 24 yX12_feed ∈ BIG := big_5 (i := 212) rfl rfl
theorem ml_L_28 : Cond.methodLink RL 28 yX12_end ∈ BIG := big_5 (i := 216) rfl rfl
theorem ml_L_33 : Cond.methodLink RL 33 yX12_text ∈ BIG := big_5 (i := 220) rfl rfl
theorem ml_X12_178 : Cond.methodLink RX12 178 yX12_next ∈ BIG := big_5 (i := 224) rfl rfl
theorem ml_X12_156 : Cond.methodLink RX12 156 yX12_byteAt ∈ BIG := big_5 (i := 228) rfl rfl
theorem ml_X12_174 : Cond.methodLink RX12 174 yX12_fails ∈ BIG := big_5 (i := 236) rfl rfl
theorem ml_X12_201 : Cond.methodLink RX12 201 yX12_readLine ∈ BIG := big_6 (i := 0) rfl rfl
theorem ml_X12_190 : Cond.methodLink RX12 190 yX12_nameHere ∈ BIG := big_6 (i := 4) rfl rfl
theorem ml_X12_194 : Cond.methodLink RX12 194 yX12_number ∈ BIG := big_6 (i := 8) rfl rfl
theorem ml_X12_198 : Cond.methodLink RX12 198 yX12_readOf ∈ BIG := big_6 (i := 12) rfl rfl
theorem ml_X12_186 : Cond.methodLink RX12 186 yX12_once ∈ BIG := big_6 (i := 17) rfl rfl
theorem ml_L_37 : Cond.methodLink RL 37 yX12_fault ∈ BIG := big_6 (i := 21) rfl rfl
theorem ml_L_42 : Cond.methodLink RL 42 yX12_rule ∈ BIG := big_6 (i := 25) rfl rfl
theorem ml_X12_220 : Cond.methodLink RX12 220 yX12_firstEdge ∈ BIG := big_6 (i := 30) rfl rfl
theorem ml_X12_214 : Cond.methodLink RX12 214 yX12_holdsThen ∈ BIG := big_6 (i := 34) rfl rfl
theorem ml_X12_210 : Cond.methodLink RX12 210 yX12_lineAt ∈ BIG := big_6 (i := 38) rfl rfl
theorem ml_X12_223 : Cond.methodLink RX12 223 yX12_secondEdge ∈ BIG := big_6 (i := 42) rfl rfl
theorem ml_X12_226 : Cond.methodLink RX12 226 yX12_spreadOf ∈ BIG := big_6 (i := 46) rfl rfl
theorem ml_X12_229 : Cond.methodLink RX12 229 yX12_growOf ∈ BIG := big_6 (i := 50) rfl rfl
theorem ml_L_47 : Cond.methodLink RL 47 yX12_card ∈ BIG := big_6 (i := 54) rfl rfl
theorem ml_X12_247 : Cond.methodLink RX12 247 yX12_isMeasure ∈ BIG := big_6 (i := 60) rfl rfl
theorem ml_X12_253 : Cond.methodLink RX12 253 yX12_addCard ∈ BIG := big_6 (i := 65) rfl rfl
theorem ml_X12_240 : Cond.methodLink RX12 240 yX12_drawerOf ∈ BIG := big_6 (i := 69) rfl rfl
theorem ml_X12_237 : Cond.methodLink RX12 237 yX12_thirdOf ∈ BIG := big_6 (i := 73) rfl rfl
theorem ml_L_51 : Cond.methodLink RL 51 yX12_of ∈ BIG := big_6 (i := 77) rfl rfl
theorem ml_X12_257 : Cond.methodLink RX12 257 yX12_isCard ∈ BIG := big_6 (i := 81) rfl rfl
theorem ml_X12_260 : Cond.methodLink RX12 260 yX12_isOut ∈ BIG := big_6 (i := 85) rfl rfl
theorem ml_X12_263 : Cond.methodLink RX12 263 yX12_isDue ∈ BIG := big_6 (i := 89) rfl rfl
theorem ml_X12_266 : Cond.methodLink RX12 266 yX12_spreadAt ∈ BIG := big_6 (i := 93) rfl rfl
theorem ml_L_56 : Cond.methodLink RL 56 yX12_anew ∈ BIG := big_6 (i := 97) rfl rfl
theorem ml_L_60 : Cond.methodLink RL 60 yX12_known ∈ BIG := big_6 (i := 102) rfl rfl
theorem ml_L_64 : Cond.methodLink RL 64 yX12_file ∈ BIG := big_6 (i := 106) rfl rfl
theorem ml_L_68 : Cond.methodLink RL 68 yX12_out ∈ BIG := big_6 (i := 110) rfl rfl
theorem ml_L_72 : Cond.methodLink RL 72 yX12_drawer ∈ BIG := big_6 (i := 114) rfl rfl
theorem ml_L_77 : Cond.methodLink RL 77 yX12_tell ∈ BIG := big_6 (i := 119) rfl rfl
theorem ml_L_82 : Cond.methodLink RL 82 yX12_chance ∈ BIG := big_6 (i := 123) rfl rfl
theorem ml_X12_280 : Cond.methodLink RX12 280 yX12_layThirds ∈ BIG := big_6 (i := 129) rfl rfl
theorem ml_X12_283 : Cond.methodLink RX12 283 yX12_chanceOf ∈ BIG := big_6 (i := 133) rfl rfl
theorem ml_X12_286 : Cond.methodLink RX12 286 yX12_lowest ∈ BIG := big_6 (i := 137) rfl rfl
theorem ml_L_86 : Cond.methodLink RL 86 yX12_look ∈ BIG := big_6 (i := 140) rfl rfl
theorem ml_X12_302 : Cond.methodLink RX12 302 yX12_layLook ∈ BIG := big_6 (i := 146) rfl rfl
theorem ml_X12_305 : Cond.methodLink RX12 305 yX12_isLooked ∈ BIG := big_6 (i := 151) rfl rfl
theorem ml_L_99 : Cond.methodLink RL 99 yX12_grown ∈ BIG := big_6 (i := 155) rfl rfl
theorem ml_X12_308 : Cond.methodLink RX12 308 yX12_grownOf ∈ BIG := big_6 (i := 159) rfl rfl
theorem ml_L_90 : Cond.methodLink RL 90 yX12_match ∈ BIG := big_6 (i := 163) rfl rfl
theorem ml_X12_324 : Cond.methodLink RX12 324 yX12_matches ∈ BIG := big_6 (i := 169) rfl rfl
theorem ml_X12_314 : Cond.methodLink RX12 314 yX12_tryTelling ∈ BIG := big_6 (i := 173) rfl rfl
theorem ml_X12_317 : Cond.methodLink RX12 317 yX12_missOf ∈ BIG := big_6 (i := 177) rfl rfl
theorem ml_X12_327 : Cond.methodLink RX12 327 yX12_sizeOf ∈ BIG := big_6 (i := 181) rfl rfl
theorem ml_X12_330 : Cond.methodLink RX12 330 yX12_matchAt ∈ BIG := big_6 (i := 184) rfl rfl
theorem ml_L_95 : Cond.methodLink RL 95 yX12_byChance ∈ BIG := big_6 (i := 188) rfl rfl
theorem ml_L_103 : Cond.methodLink RL 103 yX12_beside ∈ BIG := big_6 (i := 193) rfl rfl
theorem ml_X12_335 : Cond.methodLink RX12 335 yX12_onesOf ∈ BIG := big_6 (i := 197) rfl rfl
theorem ml_L_108 : Cond.methodLink RL 108 yX12_bar ∈ BIG := big_6 (i := 200) rfl rfl
theorem ml_L_112 : Cond.methodLink RL 112 yX12_join ∈ BIG := big_6 (i := 204) rfl rfl
theorem ml_X12_344 : Cond.methodLink RX12 344 yX12_doJoin ∈ BIG := big_6 (i := 208) rfl rfl
theorem ml_X12_341 : Cond.methodLink RX12 341 yX12_tryCard ∈ BIG := big_6 (i := 212) rfl rfl
theorem ml_L_116 : Cond.methodLink RL 116 yX12_men ∈ BIG := big_6 (i := 216) rfl rfl
theorem ml_X12_348 : Cond.methodLink RX12 348 yX12_layMen ∈ BIG := big_6 (i := 220) rfl rfl
theorem ml_L_120 : Cond.methodLink RL 120 yX12_guess ∈ BIG := big_6 (i := 224) rfl rfl
theorem ml_L_124 : Cond.methodLink RL 124 yX12_even ∈ BIG := big_6 (i := 228) rfl rfl
theorem ml_X12_360 : Cond.methodLink RX12 360 yX12_judgeEdges ∈ BIG := big_6 (i := 232) rfl rfl
theorem ml_L_129 : Cond.methodLink RL 129 yX12_judge ∈ BIG := big_6 (i := 236) rfl rfl
theorem ml_L_133 : Cond.methodLink RL 133 yX12_hold ∈ BIG := big_7 (i := 0) rfl rfl
theorem ml_L_137 : Cond.methodLink RL 137 yX12_held ∈ BIG := big_7 (i := 4) rfl rfl
theorem ml_X12_366 : Cond.methodLink RX12 366 yX12_leaned ∈ BIG := big_7 (i := 8) rfl rfl
theorem ml_L_141 : Cond.methodLink RL 141 yX12_wrong ∈ BIG := big_7 (i := 12) rfl rfl
theorem ml_L_145 : Cond.methodLink RL 145 yX12_sheet ∈ BIG := big_7 (i := 16) rfl rfl
theorem ml_L_149 : Cond.methodLink RL 149 yX12_lay ∈ BIG := big_7 (i := 20) rfl rfl
theorem ml_L_153 : Cond.methodLink RL 153 yX12_read ∈ BIG := big_7 (i := 24) rfl rfl
theorem ml_L_157 : Cond.methodLink RL 157 yX12_torn ∈ BIG := big_7 (i := 29) rfl rfl
theorem ml_L_161 : Cond.methodLink RL 161 yX12_count ∈ BIG := big_7 (i := 33) rfl rfl
theorem cn_X11_231 : Cond.constantLong RX11 231 (Int64.ofInt (-1)) ∈ BIG := big_3 (i := 219) rfl rfl
theorem cn_X11_233 : Cond.constantLong RX11 233 (Int64.ofInt (-2)) ∈ BIG := big_3 (i := 220) rfl rfl
theorem cn_X3_62 : Cond.constantLong RX3 62 (Int64.ofInt (1000)) ∈ BIG := big_4 (i := 9) rfl rfl
theorem cn_X11_280 : Cond.constantLong RX11 280 (Int64.ofInt (-4)) ∈ BIG := big_4 (i := 46) rfl rfl
theorem cn_X12_135 : Cond.constantLong RX12 135 (Int64.ofInt (9999)) ∈ BIG := big_5 (i := 208) rfl rfl
theorem cn_X12_166 : Cond.constantLong RX12 166 (Int64.ofInt (97)) ∈ BIG := big_5 (i := 232) rfl rfl
theorem cn_X12_168 : Cond.constantLong RX12 168 (Int64.ofInt (122)) ∈ BIG := big_5 (i := 233) rfl rfl
theorem cn_X12_170 : Cond.constantLong RX12 170 (Int64.ofInt (48)) ∈ BIG := big_5 (i := 234) rfl rfl
theorem cn_X12_172 : Cond.constantLong RX12 172 (Int64.ofInt (57)) ∈ BIG := big_5 (i := 235) rfl rfl
theorem cn_X12_184 : Cond.constantLong RX12 184 (Int64.ofInt (100)) ∈ BIG := big_6 (i := 16) rfl rfl
theorem cn_X12_218 : Cond.constantLong RX12 218 (Int64.ofInt (19)) ∈ BIG := big_6 (i := 29) rfl rfl
theorem cn_X12_243 : Cond.constantLong RX12 243 (Int64.ofInt (5)) ∈ BIG := big_6 (i := 58) rfl rfl
theorem cn_X12_245 : Cond.constantLong RX12 245 (Int64.ofInt (2)) ∈ BIG := big_6 (i := 59) rfl rfl
theorem cn_X12_235 : Cond.constantLong RX12 235 (Int64.ofInt (999)) ∈ BIG := big_6 (i := 63) rfl rfl
theorem cn_X12_251 : Cond.constantLong RX12 251 (Int64.ofInt (1023)) ∈ BIG := big_6 (i := 64) rfl rfl
theorem cn_X12_269 : Cond.constantLong RX12 269 (Int64.ofInt (3)) ∈ BIG := big_6 (i := 101) rfl rfl
theorem cn_X12_274 : Cond.constantLong RX12 274 (Int64.ofInt (26)) ∈ BIG := big_6 (i := 118) rfl rfl
theorem cn_X12_276 : Cond.constantLong RX12 276 (Int64.ofInt (-1)) ∈ BIG := big_6 (i := 127) rfl rfl
theorem cn_X12_278 : Cond.constantLong RX12 278 (Int64.ofInt (-2)) ∈ BIG := big_6 (i := 128) rfl rfl
theorem cn_X12_298 : Cond.constantLong RX12 298 (Int64.ofInt (10)) ∈ BIG := big_6 (i := 144) rfl rfl
theorem cn_X12_300 : Cond.constantLong RX12 300 (Int64.ofInt (36)) ∈ BIG := big_6 (i := 145) rfl rfl
theorem cn_X12_296 : Cond.constantLong RX12 296 (Int64.ofInt (1000)) ∈ BIG := big_6 (i := 150) rfl rfl
theorem cn_X12_320 : Cond.constantLong RX12 320 (Int64.ofInt (33)) ∈ BIG := big_6 (i := 167) rfl rfl
theorem cn_X12_322 : Cond.constantLong RX12 322 (Int64.ofInt (50)) ∈ BIG := big_6 (i := 168) rfl rfl
theorem cn_X12_333 : Cond.constantLong RX12 333 (Int64.ofInt (-4)) ∈ BIG := big_6 (i := 192) rfl rfl
theorem cn_X12_369 : Cond.constantLong RX12 369 (Int64.ofInt (24)) ∈ BIG := big_7 (i := 28) rfl rfl
theorem cn_L_18 : Cond.constantLong RL 18 (Int64.ofInt (4294967295)) ∈ BIG := big_7 (i := 37) rfl rfl
theorem cn_J6_265 : Cond.constant RJ6 265 (Int32.ofInt (1431655765)) ∈ BIG := big_3 (i := 203) rfl rfl
theorem cn_J6_266 : Cond.constant RJ6 266 (Int32.ofInt (858993459)) ∈ BIG := big_3 (i := 204) rfl rfl
theorem cn_J6_267 : Cond.constant RJ6 267 (Int32.ofInt (252645135)) ∈ BIG := big_3 (i := 205) rfl rfl
theorem cn_X11_393 : Cond.constant RX11 393 (Int32.ofInt (134217727)) ∈ BIG := big_5 (i := 6) rfl rfl
theorem oi_i : Cond.instanceMethod objectInit ∈ BIG := big_1 (i := 26) rfl rfl
theorem oi_c : Cond.code objectInit ⟨#[0xb1]⟩ 1 none ∈ BIG := big_1 (i := 27) rfl rfl
theorem mt_max : Cond.static Lib.Math.max.name ∈ BIG ∧ Cond.code Lib.Math.max.name Lib.Math.max.code 2 (some .int) ∈ BIG := ⟨big_3 (i := 232) rfl rfl, big_3 (i := 233) rfl rfl⟩
theorem mt_min : Cond.static Lib.Math.min.name ∈ BIG ∧ Cond.code Lib.Math.min.name Lib.Math.min.code 2 (some .int) ∈ BIG := ⟨big_4 (i := 79) rfl rfl, big_4 (i := 80) rfl rfl⟩
theorem mt_abs : Cond.static Lib.Math.abs.name ∈ BIG ∧ Cond.code Lib.Math.abs.name Lib.Math.abs.code 1 (some .int) ∈ BIG := ⟨big_4 (i := 53) rfl rfl, big_4 (i := 54) rfl rfl⟩
theorem ac_byte : Cond.arrayClass .byte ∈ BIG := big_1 (i := 43) rfl rfl
theorem ac_int : Cond.arrayClass .int ∈ BIG := big_1 (i := 68) rfl rfl
theorem ac_boolean : Cond.arrayClass .boolean ∈ BIG := big_1 (i := 192) rfl rfl
theorem ao_X1 : lw_tbl[201]? = some (Cond.arrayOver (.object RX1)) := by decide +kernel
theorem ao_X8 : lw_tbl[414]? = some (Cond.arrayOver (.object RX8)) := by decide +kernel
theorem kl_L_7 : Cond.classLink RL 7 RX11 ∈ BIG := big_1 (i := 20) rfl rfl
theorem kl_X11_7 : Cond.classLink RX11 7 RX9 ∈ BIG := big_1 (i := 28) rfl rfl
theorem kl_X11_16 : Cond.classLink RX11 16 RX7 ∈ BIG := big_1 (i := 44) rfl rfl
theorem kl_X11_23 : Cond.classLink RX11 23 RX6 ∈ BIG := big_1 (i := 69) rfl rfl
theorem kl_X6_9 : Cond.classLink RX6 9 RX7 ∈ BIG := big_1 (i := 75) rfl rfl
theorem kl_X11_32 : Cond.classLink RX11 32 RX5 ∈ BIG := big_1 (i := 102) rfl rfl
theorem kl_X11_41 : Cond.classLink RX11 41 RX0 ∈ BIG := big_1 (i := 137) rfl rfl
theorem kl_X0_9 : Cond.classLink RX0 9 RX1 ∈ BIG := big_1 (i := 143) rfl rfl
theorem kl_X11_50 : Cond.classLink RX11 50 RX10 ∈ BIG := big_1 (i := 236) rfl rfl
theorem kl_X11_57 : Cond.classLink RX11 57 RX3 ∈ BIG := big_2 (i := 32) rfl rfl
theorem kl_X11_64 : Cond.classLink RX11 64 RX4 ∈ BIG := big_2 (i := 62) rfl rfl
theorem kl_X11_73 : Cond.classLink RX11 73 RX2 ∈ BIG := big_2 (i := 84) rfl rfl
theorem kl_X11_80 : Cond.classLink RX11 80 RX8 ∈ BIG := big_2 (i := 116) rfl rfl
theorem kl_L_10 : Cond.classLink RL 10 RX12 ∈ BIG := big_5 (i := 11) rfl rfl
