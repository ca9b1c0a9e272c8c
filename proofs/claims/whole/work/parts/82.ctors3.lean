/-! THE MODEL IS MADE -/
def mInit (σ : Mem) : Mem := (mset (mset (mset (mset (mset (mset (mset (mset (mset (mset (mset (mset (mset (mset (mset (mset (mset (mset (mset (mset (mset (mset (mset (mset (mset (mset (mset (mset (mset (mset (mset (mset (mset (mset (mset (mset (mset (mset (mset σ 124 0 (0)) 124 1 (4)) 124 2 (10)) 124 3 (14)) 124 4 (18)) 124 5 (23)) 124 6 (27)) 125 0 (101)) 125 1 (100)) 125 2 (103)) 125 3 (101)) 125 4 (115)) 125 5 (112)) 125 6 (114)) 125 7 (101)) 125 8 (97)) 125 9 (100)) 125 10 (103)) 125 11 (114)) 125 12 (111)) 125 13 (119)) 125 14 (107)) 125 15 (101)) 125 16 (101)) 125 17 (112)) 125 18 (111)) 125 19 (116)) 125 20 (104)) 125 21 (101)) 125 22 (114)) 125 23 (102)) 125 24 (114)) 125 25 (111)) 125 26 (109)) 122 39 (-4)) 158 0 (-4)) 158 1 (-4)) 158 2 (-4)) 158 3 (-4))
set_option maxRecDepth 100000 in
set_option maxHeartbeats 4000000 in
theorem k_X12 (X : XE) {pr : Nat → Nat → Bool} {σ : Mem} : BT X yX12_init cX12_init 1 ({ frames := 1, cells := 162 - (122 + 1), slots := SL (162) - SL (122 + 1), locals := 12 } : Room) [.ref (xad X 122)] 122 162 pr σ (fun τ => τ = mInit σ) := by
  refine bt_of (own := RX12) (L := [(0, .ref (xad X 122))]) 1000 (by decide) rfl rfl rfl (Nat.le_of_ble_eq_true rfl) rfl ?_
  refine b_aload_n 0 (pc := 0) dX12_init_0 rfl rfl ?_
  refine b_objInit (pc := 1) dX12_init_1 ml_X12_1 ⟨rfl, rfl⟩ ?_
  refine b_aload_n 0 (pc := 4) dX12_init_4 rfl rfl ?_
  refine b_sipush (pc := 5) dX12_init_5 rfl ?_
  refine b_newa (ty := .int) (ci := 20) (t0 := 0) (pc := 8) dX12_init_8 rfl ac_int rfl (fun _ _ h => h) rfl (by decide) sh_123 (by decide) rfl rfl ⟨rfl, rfl⟩ rfl (by decide) (by decide) ?_
  refine b_putR (ty := tyX12 1) (pc := 10) dX12_init_10 fl_X12_7 fq_X12_1 sh_122 rfl rfl (by decide) (by decide) (by decide) rfl rfl ?_
  refine b_aload_n 0 (pc := 13) dX12_init_13 rfl rfl ?_
  refine b_bipush (pc := 14) dX12_init_14 rfl ?_
  refine b_newa (ty := .int) (ci := 20) (t0 := 0) (pc := 16) dX12_init_16 rfl ac_int rfl (fun _ _ h => h) rfl (by decide) sh_124 (by decide) rfl rfl ⟨rfl, rfl⟩ rfl (by decide) (by decide) ?_
  refine b_dup (pc := 18) dX12_init_18 rfl ?_
  refine b_iconst (pc := 19) dX12_init_19 ?_
  refine b_iconst (pc := 20) dX12_init_20 ?_
  refine b_iast (pc := 21) dX12_init_21 sh_124 (by decide) rfl (by decide) (by decide) (r_lit rfl) ?_
  refine b_dup (pc := 22) dX12_init_22 rfl ?_
  refine b_iconst (pc := 23) dX12_init_23 ?_
  refine b_iconst (pc := 24) dX12_init_24 ?_
  refine b_iast (pc := 25) dX12_init_25 sh_124 (by decide) rfl (by decide) (by decide) (r_lit rfl) ?_
  refine b_dup (pc := 26) dX12_init_26 rfl ?_
  refine b_iconst (pc := 27) dX12_init_27 ?_
  refine b_bipush (pc := 28) dX12_init_28 rfl ?_
  refine b_iast (pc := 30) dX12_init_30 sh_124 (by decide) rfl (by decide) (by decide) (r_lit rfl) ?_
  refine b_dup (pc := 31) dX12_init_31 rfl ?_
  refine b_iconst (pc := 32) dX12_init_32 ?_
  refine b_bipush (pc := 33) dX12_init_33 rfl ?_
  refine b_iast (pc := 35) dX12_init_35 sh_124 (by decide) rfl (by decide) (by decide) (r_lit rfl) ?_
  refine b_dup (pc := 36) dX12_init_36 rfl ?_
  refine b_iconst (pc := 37) dX12_init_37 ?_
  refine b_bipush (pc := 38) dX12_init_38 rfl ?_
  refine b_iast (pc := 40) dX12_init_40 sh_124 (by decide) rfl (by decide) (by decide) (r_lit rfl) ?_
  refine b_dup (pc := 41) dX12_init_41 rfl ?_
  refine b_iconst (pc := 42) dX12_init_42 ?_
  refine b_bipush (pc := 43) dX12_init_43 rfl ?_
  refine b_iast (pc := 45) dX12_init_45 sh_124 (by decide) rfl (by decide) (by decide) (r_lit rfl) ?_
  refine b_dup (pc := 46) dX12_init_46 rfl ?_
  refine b_bipush (pc := 47) dX12_init_47 rfl ?_
  refine b_bipush (pc := 49) dX12_init_49 rfl ?_
  refine b_iast (pc := 51) dX12_init_51 sh_124 (by decide) rfl (by decide) (by decide) (r_lit rfl) ?_
  refine b_putR (ty := tyX12 10) (pc := 52) dX12_init_52 fl_X12_13 fq_X12_10 sh_122 rfl rfl (by decide) (by decide) (by decide) rfl rfl ?_
  refine b_aload_n 0 (pc := 55) dX12_init_55 rfl rfl ?_
  refine b_bipush (pc := 56) dX12_init_56 rfl ?_
  refine b_newa (ty := .int) (ci := 20) (t0 := 0) (pc := 58) dX12_init_58 rfl ac_int rfl (fun _ _ h => h) rfl (by decide) sh_125 (by decide) rfl rfl ⟨rfl, rfl⟩ rfl (by decide) (by decide) ?_
  refine b_dup (pc := 60) dX12_init_60 rfl ?_
  refine b_iconst (pc := 61) dX12_init_61 ?_
  refine b_bipush (pc := 62) dX12_init_62 rfl ?_
  refine b_iast (pc := 64) dX12_init_64 sh_125 (by decide) rfl (by decide) (by decide) (r_lit rfl) ?_
  refine b_dup (pc := 65) dX12_init_65 rfl ?_
  refine b_iconst (pc := 66) dX12_init_66 ?_
  refine b_bipush (pc := 67) dX12_init_67 rfl ?_
  refine b_iast (pc := 69) dX12_init_69 sh_125 (by decide) rfl (by decide) (by decide) (r_lit rfl) ?_
  refine b_dup (pc := 70) dX12_init_70 rfl ?_
  refine b_iconst (pc := 71) dX12_init_71 ?_
  refine b_bipush (pc := 72) dX12_init_72 rfl ?_
  refine b_iast (pc := 74) dX12_init_74 sh_125 (by decide) rfl (by decide) (by decide) (r_lit rfl) ?_
  refine b_dup (pc := 75) dX12_init_75 rfl ?_
  refine b_iconst (pc := 76) dX12_init_76 ?_
  refine b_bipush (pc := 77) dX12_init_77 rfl ?_
  refine b_iast (pc := 79) dX12_init_79 sh_125 (by decide) rfl (by decide) (by decide) (r_lit rfl) ?_
  refine b_dup (pc := 80) dX12_init_80 rfl ?_
  refine b_iconst (pc := 81) dX12_init_81 ?_
  refine b_bipush (pc := 82) dX12_init_82 rfl ?_
  refine b_iast (pc := 84) dX12_init_84 sh_125 (by decide) rfl (by decide) (by decide) (r_lit rfl) ?_
  refine b_dup (pc := 85) dX12_init_85 rfl ?_
  refine b_iconst (pc := 86) dX12_init_86 ?_
  refine b_bipush (pc := 87) dX12_init_87 rfl ?_
  refine b_iast (pc := 89) dX12_init_89 sh_125 (by decide) rfl (by decide) (by decide) (r_lit rfl) ?_
  refine b_dup (pc := 90) dX12_init_90 rfl ?_
  refine b_bipush (pc := 91) dX12_init_91 rfl ?_
  refine b_bipush (pc := 93) dX12_init_93 rfl ?_
  refine b_iast (pc := 95) dX12_init_95 sh_125 (by decide) rfl (by decide) (by decide) (r_lit rfl) ?_
  refine b_dup (pc := 96) dX12_init_96 rfl ?_
  refine b_bipush (pc := 97) dX12_init_97 rfl ?_
  refine b_bipush (pc := 99) dX12_init_99 rfl ?_
  refine b_iast (pc := 101) dX12_init_101 sh_125 (by decide) rfl (by decide) (by decide) (r_lit rfl) ?_
  refine b_dup (pc := 102) dX12_init_102 rfl ?_
  refine b_bipush (pc := 103) dX12_init_103 rfl ?_
  refine b_bipush (pc := 105) dX12_init_105 rfl ?_
  refine b_iast (pc := 107) dX12_init_107 sh_125 (by decide) rfl (by decide) (by decide) (r_lit rfl) ?_
  refine b_dup (pc := 108) dX12_init_108 rfl ?_
  refine b_bipush (pc := 109) dX12_init_109 rfl ?_
  refine b_bipush (pc := 111) dX12_init_111 rfl ?_
  refine b_iast (pc := 113) dX12_init_113 sh_125 (by decide) rfl (by decide) (by decide) (r_lit rfl) ?_
  refine b_dup (pc := 114) dX12_init_114 rfl ?_
  refine b_bipush (pc := 115) dX12_init_115 rfl ?_
  refine b_bipush (pc := 117) dX12_init_117 rfl ?_
  refine b_iast (pc := 119) dX12_init_119 sh_125 (by decide) rfl (by decide) (by decide) (r_lit rfl) ?_
  refine b_dup (pc := 120) dX12_init_120 rfl ?_
  refine b_bipush (pc := 121) dX12_init_121 rfl ?_
  refine b_bipush (pc := 123) dX12_init_123 rfl ?_
  refine b_iast (pc := 125) dX12_init_125 sh_125 (by decide) rfl (by decide) (by decide) (r_lit rfl) ?_
  refine b_dup (pc := 126) dX12_init_126 rfl ?_
  refine b_bipush (pc := 127) dX12_init_127 rfl ?_
  refine b_bipush (pc := 129) dX12_init_129 rfl ?_
  refine b_iast (pc := 131) dX12_init_131 sh_125 (by decide) rfl (by decide) (by decide) (r_lit rfl) ?_
  refine b_dup (pc := 132) dX12_init_132 rfl ?_
  refine b_bipush (pc := 133) dX12_init_133 rfl ?_
  refine b_bipush (pc := 135) dX12_init_135 rfl ?_
  refine b_iast (pc := 137) dX12_init_137 sh_125 (by decide) rfl (by decide) (by decide) (r_lit rfl) ?_
  refine b_dup (pc := 138) dX12_init_138 rfl ?_
  refine b_bipush (pc := 139) dX12_init_139 rfl ?_
  refine b_bipush (pc := 141) dX12_init_141 rfl ?_
  refine b_iast (pc := 143) dX12_init_143 sh_125 (by decide) rfl (by decide) (by decide) (r_lit rfl) ?_
  refine b_dup (pc := 144) dX12_init_144 rfl ?_
  refine b_bipush (pc := 145) dX12_init_145 rfl ?_
  refine b_bipush (pc := 147) dX12_init_147 rfl ?_
  refine b_iast (pc := 149) dX12_init_149 sh_125 (by decide) rfl (by decide) (by decide) (r_lit rfl) ?_
  refine b_dup (pc := 150) dX12_init_150 rfl ?_
  refine b_bipush (pc := 151) dX12_init_151 rfl ?_
  refine b_bipush (pc := 153) dX12_init_153 rfl ?_
  refine b_iast (pc := 155) dX12_init_155 sh_125 (by decide) rfl (by decide) (by decide) (r_lit rfl) ?_
  refine b_dup (pc := 156) dX12_init_156 rfl ?_
  refine b_bipush (pc := 157) dX12_init_157 rfl ?_
  refine b_bipush (pc := 159) dX12_init_159 rfl ?_
  refine b_iast (pc := 161) dX12_init_161 sh_125 (by decide) rfl (by decide) (by decide) (r_lit rfl) ?_
  refine b_dup (pc := 162) dX12_init_162 rfl ?_
  refine b_bipush (pc := 163) dX12_init_163 rfl ?_
  refine b_bipush (pc := 165) dX12_init_165 rfl ?_
  refine b_iast (pc := 167) dX12_init_167 sh_125 (by decide) rfl (by decide) (by decide) (r_lit rfl) ?_
  refine b_dup (pc := 168) dX12_init_168 rfl ?_
  refine b_bipush (pc := 169) dX12_init_169 rfl ?_
  refine b_bipush (pc := 171) dX12_init_171 rfl ?_
  refine b_iast (pc := 173) dX12_init_173 sh_125 (by decide) rfl (by decide) (by decide) (r_lit rfl) ?_
  refine b_dup (pc := 174) dX12_init_174 rfl ?_
  refine b_bipush (pc := 175) dX12_init_175 rfl ?_
  refine b_bipush (pc := 177) dX12_init_177 rfl ?_
  refine b_iast (pc := 179) dX12_init_179 sh_125 (by decide) rfl (by decide) (by decide) (r_lit rfl) ?_
  refine b_dup (pc := 180) dX12_init_180 rfl ?_
  refine b_bipush (pc := 181) dX12_init_181 rfl ?_
  refine b_bipush (pc := 183) dX12_init_183 rfl ?_
  refine b_iast (pc := 185) dX12_init_185 sh_125 (by decide) rfl (by decide) (by decide) (r_lit rfl) ?_
  refine b_dup (pc := 186) dX12_init_186 rfl ?_
  refine b_bipush (pc := 187) dX12_init_187 rfl ?_
  refine b_bipush (pc := 189) dX12_init_189 rfl ?_
  refine b_iast (pc := 191) dX12_init_191 sh_125 (by decide) rfl (by decide) (by decide) (r_lit rfl) ?_
  refine b_dup (pc := 192) dX12_init_192 rfl ?_
  refine b_bipush (pc := 193) dX12_init_193 rfl ?_
  refine b_bipush (pc := 195) dX12_init_195 rfl ?_
  refine b_iast (pc := 197) dX12_init_197 sh_125 (by decide) rfl (by decide) (by decide) (r_lit rfl) ?_
  refine b_dup (pc := 198) dX12_init_198 rfl ?_
  refine b_bipush (pc := 199) dX12_init_199 rfl ?_
  refine b_bipush (pc := 201) dX12_init_201 rfl ?_
  refine b_iast (pc := 203) dX12_init_203 sh_125 (by decide) rfl (by decide) (by decide) (r_lit rfl) ?_
  refine b_dup (pc := 204) dX12_init_204 rfl ?_
  refine b_bipush (pc := 205) dX12_init_205 rfl ?_
  refine b_bipush (pc := 207) dX12_init_207 rfl ?_
  refine b_iast (pc := 209) dX12_init_209 sh_125 (by decide) rfl (by decide) (by decide) (r_lit rfl) ?_
  refine b_dup (pc := 210) dX12_init_210 rfl ?_
  refine b_bipush (pc := 211) dX12_init_211 rfl ?_
  refine b_bipush (pc := 213) dX12_init_213 rfl ?_
  refine b_iast (pc := 215) dX12_init_215 sh_125 (by decide) rfl (by decide) (by decide) (r_lit rfl) ?_
  refine b_putR (ty := tyX12 11) (pc := 216) dX12_init_216 fl_X12_16 fq_X12_11 sh_122 rfl rfl (by decide) (by decide) (by decide) rfl rfl ?_
  refine b_aload_n 0 (pc := 219) dX12_init_219 rfl rfl ?_
  refine b_bipush (pc := 220) dX12_init_220 rfl ?_
  refine b_newa (ty := .int) (ci := 20) (t0 := 0) (pc := 222) dX12_init_222 rfl ac_int rfl (fun _ _ h => h) rfl (by decide) sh_126 (by decide) rfl rfl ⟨rfl, rfl⟩ rfl (by decide) (by decide) ?_
  refine b_putR (ty := tyX12 13) (pc := 224) dX12_init_224 fl_X12_19 fq_X12_13 sh_122 rfl rfl (by decide) (by decide) (by decide) rfl rfl ?_
  refine b_aload_n 0 (pc := 227) dX12_init_227 rfl rfl ?_
  refine b_bipush (pc := 228) dX12_init_228 rfl ?_
  refine b_newa (ty := .int) (ci := 20) (t0 := 0) (pc := 230) dX12_init_230 rfl ac_int rfl (fun _ _ h => h) rfl (by decide) sh_127 (by decide) rfl rfl ⟨rfl, rfl⟩ rfl (by decide) (by decide) ?_
  refine b_putR (ty := tyX12 14) (pc := 232) dX12_init_232 fl_X12_22 fq_X12_14 sh_122 rfl rfl (by decide) (by decide) (by decide) rfl rfl ?_
  refine b_aload_n 0 (pc := 235) dX12_init_235 rfl rfl ?_
  refine b_bipush (pc := 236) dX12_init_236 rfl ?_
  refine b_newa (ty := .int) (ci := 20) (t0 := 0) (pc := 238) dX12_init_238 rfl ac_int rfl (fun _ _ h => h) rfl (by decide) sh_128 (by decide) rfl rfl ⟨rfl, rfl⟩ rfl (by decide) (by decide) ?_
  refine b_putR (ty := tyX12 15) (pc := 240) dX12_init_240 fl_X12_25 fq_X12_15 sh_122 rfl rfl (by decide) (by decide) (by decide) rfl rfl ?_
  refine b_aload_n 0 (pc := 243) dX12_init_243 rfl rfl ?_
  refine b_bipush (pc := 244) dX12_init_244 rfl ?_
  refine b_newa (ty := .int) (ci := 20) (t0 := 0) (pc := 246) dX12_init_246 rfl ac_int rfl (fun _ _ h => h) rfl (by decide) sh_129 (by decide) rfl rfl ⟨rfl, rfl⟩ rfl (by decide) (by decide) ?_
  refine b_putR (ty := tyX12 16) (pc := 248) dX12_init_248 fl_X12_28 fq_X12_16 sh_122 rfl rfl (by decide) (by decide) (by decide) rfl rfl ?_
  refine b_aload_n 0 (pc := 251) dX12_init_251 rfl rfl ?_
  refine b_bipush (pc := 252) dX12_init_252 rfl ?_
  refine b_newa (ty := .int) (ci := 20) (t0 := 0) (pc := 254) dX12_init_254 rfl ac_int rfl (fun _ _ h => h) rfl (by decide) sh_130 (by decide) rfl rfl ⟨rfl, rfl⟩ rfl (by decide) (by decide) ?_
  refine b_putR (ty := tyX12 17) (pc := 256) dX12_init_256 fl_X12_31 fq_X12_17 sh_122 rfl rfl (by decide) (by decide) (by decide) rfl rfl ?_
  refine b_aload_n 0 (pc := 259) dX12_init_259 rfl rfl ?_
  refine b_bipush (pc := 260) dX12_init_260 rfl ?_
  refine b_newa (ty := .int) (ci := 20) (t0 := 0) (pc := 262) dX12_init_262 rfl ac_int rfl (fun _ _ h => h) rfl (by decide) sh_131 (by decide) rfl rfl ⟨rfl, rfl⟩ rfl (by decide) (by decide) ?_
  refine b_putR (ty := tyX12 19) (pc := 264) dX12_init_264 fl_X12_34 fq_X12_19 sh_122 rfl rfl (by decide) (by decide) (by decide) rfl rfl ?_
  refine b_aload_n 0 (pc := 267) dX12_init_267 rfl rfl ?_
  refine b_bipush (pc := 268) dX12_init_268 rfl ?_
  refine b_newa (ty := .int) (ci := 20) (t0 := 0) (pc := 270) dX12_init_270 rfl ac_int rfl (fun _ _ h => h) rfl (by decide) sh_132 (by decide) rfl rfl ⟨rfl, rfl⟩ rfl (by decide) (by decide) ?_
  refine b_putR (ty := tyX12 20) (pc := 272) dX12_init_272 fl_X12_37 fq_X12_20 sh_122 rfl rfl (by decide) (by decide) (by decide) rfl rfl ?_
  refine b_aload_n 0 (pc := 275) dX12_init_275 rfl rfl ?_
  refine b_bipush (pc := 276) dX12_init_276 rfl ?_
  refine b_newa (ty := .int) (ci := 20) (t0 := 0) (pc := 278) dX12_init_278 rfl ac_int rfl (fun _ _ h => h) rfl (by decide) sh_133 (by decide) rfl rfl ⟨rfl, rfl⟩ rfl (by decide) (by decide) ?_
  refine b_putR (ty := tyX12 21) (pc := 280) dX12_init_280 fl_X12_40 fq_X12_21 sh_122 rfl rfl (by decide) (by decide) (by decide) rfl rfl ?_
  refine b_aload_n 0 (pc := 283) dX12_init_283 rfl rfl ?_
  refine b_bipush (pc := 284) dX12_init_284 rfl ?_
  refine b_newa (ty := .int) (ci := 20) (t0 := 0) (pc := 286) dX12_init_286 rfl ac_int rfl (fun _ _ h => h) rfl (by decide) sh_134 (by decide) rfl rfl ⟨rfl, rfl⟩ rfl (by decide) (by decide) ?_
  refine b_putR (ty := tyX12 22) (pc := 288) dX12_init_288 fl_X12_43 fq_X12_22 sh_122 rfl rfl (by decide) (by decide) (by decide) rfl rfl ?_
  refine b_aload_n 0 (pc := 291) dX12_init_291 rfl rfl ?_
  refine b_bipush (pc := 292) dX12_init_292 rfl ?_
  refine b_newa (ty := .int) (ci := 20) (t0 := 0) (pc := 294) dX12_init_294 rfl ac_int rfl (fun _ _ h => h) rfl (by decide) sh_135 (by decide) rfl rfl ⟨rfl, rfl⟩ rfl (by decide) (by decide) ?_
  refine b_putR (ty := tyX12 23) (pc := 296) dX12_init_296 fl_X12_46 fq_X12_23 sh_122 rfl rfl (by decide) (by decide) (by decide) rfl rfl ?_
  refine b_aload_n 0 (pc := 299) dX12_init_299 rfl rfl ?_
  refine b_bipush (pc := 300) dX12_init_300 rfl ?_
  refine b_newa (ty := .int) (ci := 20) (t0 := 0) (pc := 302) dX12_init_302 rfl ac_int rfl (fun _ _ h => h) rfl (by decide) sh_136 (by decide) rfl rfl ⟨rfl, rfl⟩ rfl (by decide) (by decide) ?_
  refine b_putR (ty := tyX12 25) (pc := 304) dX12_init_304 fl_X12_49 fq_X12_25 sh_122 rfl rfl (by decide) (by decide) (by decide) rfl rfl ?_
  refine b_aload_n 0 (pc := 307) dX12_init_307 rfl rfl ?_
  refine b_bipush (pc := 308) dX12_init_308 rfl ?_
  refine b_newa (ty := .int) (ci := 20) (t0 := 0) (pc := 310) dX12_init_310 rfl ac_int rfl (fun _ _ h => h) rfl (by decide) sh_137 (by decide) rfl rfl ⟨rfl, rfl⟩ rfl (by decide) (by decide) ?_
  refine b_putR (ty := tyX12 26) (pc := 312) dX12_init_312 fl_X12_52 fq_X12_26 sh_122 rfl rfl (by decide) (by decide) (by decide) rfl rfl ?_
  refine b_aload_n 0 (pc := 315) dX12_init_315 rfl rfl ?_
  refine b_bipush (pc := 316) dX12_init_316 rfl ?_
  refine b_newa (ty := .int) (ci := 20) (t0 := 0) (pc := 318) dX12_init_318 rfl ac_int rfl (fun _ _ h => h) rfl (by decide) sh_138 (by decide) rfl rfl ⟨rfl, rfl⟩ rfl (by decide) (by decide) ?_
  refine b_putR (ty := tyX12 27) (pc := 320) dX12_init_320 fl_X12_55 fq_X12_27 sh_122 rfl rfl (by decide) (by decide) (by decide) rfl rfl ?_
  refine b_aload_n 0 (pc := 323) dX12_init_323 rfl rfl ?_
  refine b_bipush (pc := 324) dX12_init_324 rfl ?_
  refine b_newa (ty := .int) (ci := 20) (t0 := 0) (pc := 326) dX12_init_326 rfl ac_int rfl (fun _ _ h => h) rfl (by decide) sh_139 (by decide) rfl rfl ⟨rfl, rfl⟩ rfl (by decide) (by decide) ?_
  refine b_putR (ty := tyX12 28) (pc := 328) dX12_init_328 fl_X12_58 fq_X12_28 sh_122 rfl rfl (by decide) (by decide) (by decide) rfl rfl ?_
  refine b_aload_n 0 (pc := 331) dX12_init_331 rfl rfl ?_
  refine b_bipush (pc := 332) dX12_init_332 rfl ?_
  refine b_newa (ty := .int) (ci := 20) (t0 := 0) (pc := 334) dX12_init_334 rfl ac_int rfl (fun _ _ h => h) rfl (by decide) sh_140 (by decide) rfl rfl ⟨rfl, rfl⟩ rfl (by decide) (by decide) ?_
  refine b_putR (ty := tyX12 29) (pc := 336) dX12_init_336 fl_X12_61 fq_X12_29 sh_122 rfl rfl (by decide) (by decide) (by decide) rfl rfl ?_
  refine b_aload_n 0 (pc := 339) dX12_init_339 rfl rfl ?_
  refine b_bipush (pc := 340) dX12_init_340 rfl ?_
  refine b_newa (ty := .int) (ci := 20) (t0 := 0) (pc := 342) dX12_init_342 rfl ac_int rfl (fun _ _ h => h) rfl (by decide) sh_141 (by decide) rfl rfl ⟨rfl, rfl⟩ rfl (by decide) (by decide) ?_
  refine b_putR (ty := tyX12 30) (pc := 344) dX12_init_344 fl_X12_64 fq_X12_30 sh_122 rfl rfl (by decide) (by decide) (by decide) rfl rfl ?_
  refine b_aload_n 0 (pc := 347) dX12_init_347 rfl rfl ?_
  refine b_bipush (pc := 348) dX12_init_348 rfl ?_
  refine b_newa (ty := .int) (ci := 20) (t0 := 0) (pc := 350) dX12_init_350 rfl ac_int rfl (fun _ _ h => h) rfl (by decide) sh_142 (by decide) rfl rfl ⟨rfl, rfl⟩ rfl (by decide) (by decide) ?_
  refine b_putR (ty := tyX12 31) (pc := 352) dX12_init_352 fl_X12_67 fq_X12_31 sh_122 rfl rfl (by decide) (by decide) (by decide) rfl rfl ?_
  refine b_aload_n 0 (pc := 355) dX12_init_355 rfl rfl ?_
  refine b_bipush (pc := 356) dX12_init_356 rfl ?_
  refine b_newa (ty := .int) (ci := 20) (t0 := 0) (pc := 358) dX12_init_358 rfl ac_int rfl (fun _ _ h => h) rfl (by decide) sh_143 (by decide) rfl rfl ⟨rfl, rfl⟩ rfl (by decide) (by decide) ?_
  refine b_putR (ty := tyX12 32) (pc := 360) dX12_init_360 fl_X12_70 fq_X12_32 sh_122 rfl rfl (by decide) (by decide) (by decide) rfl rfl ?_
  refine b_aload_n 0 (pc := 363) dX12_init_363 rfl rfl ?_
  refine b_bipush (pc := 364) dX12_init_364 rfl ?_
  refine b_newa (ty := .int) (ci := 20) (t0 := 0) (pc := 366) dX12_init_366 rfl ac_int rfl (fun _ _ h => h) rfl (by decide) sh_144 (by decide) rfl rfl ⟨rfl, rfl⟩ rfl (by decide) (by decide) ?_
  refine b_putR (ty := tyX12 34) (pc := 368) dX12_init_368 fl_X12_73 fq_X12_34 sh_122 rfl rfl (by decide) (by decide) (by decide) rfl rfl ?_
  refine b_aload_n 0 (pc := 371) dX12_init_371 rfl rfl ?_
  refine b_bipush (pc := 372) dX12_init_372 rfl ?_
  refine b_newa (ty := .int) (ci := 20) (t0 := 0) (pc := 374) dX12_init_374 rfl ac_int rfl (fun _ _ h => h) rfl (by decide) sh_145 (by decide) rfl rfl ⟨rfl, rfl⟩ rfl (by decide) (by decide) ?_
  refine b_putR (ty := tyX12 35) (pc := 376) dX12_init_376 fl_X12_76 fq_X12_35 sh_122 rfl rfl (by decide) (by decide) (by decide) rfl rfl ?_
  refine b_aload_n 0 (pc := 379) dX12_init_379 rfl rfl ?_
  refine b_bipush (pc := 380) dX12_init_380 rfl ?_
  refine b_newa (ty := .int) (ci := 20) (t0 := 0) (pc := 382) dX12_init_382 rfl ac_int rfl (fun _ _ h => h) rfl (by decide) sh_146 (by decide) rfl rfl ⟨rfl, rfl⟩ rfl (by decide) (by decide) ?_
  refine b_putR (ty := tyX12 36) (pc := 384) dX12_init_384 fl_X12_79 fq_X12_36 sh_122 rfl rfl (by decide) (by decide) (by decide) rfl rfl ?_
  refine b_aload_n 0 (pc := 387) dX12_init_387 rfl rfl ?_
  refine b_sipush (pc := 388) dX12_init_388 rfl ?_
  refine b_newa (ty := .boolean) (ci := 21) (t0 := 1) (pc := 391) dX12_init_391 rfl ac_boolean rfl (fun _ _ h => h) rfl (by decide) sh_147 (by decide) rfl rfl ⟨rfl, rfl⟩ rfl (by decide) (by decide) ?_
  refine b_putR (ty := tyX12 37) (pc := 393) dX12_init_393 fl_X12_82 fq_X12_37 sh_122 rfl rfl (by decide) (by decide) (by decide) rfl rfl ?_
  refine b_aload_n 0 (pc := 396) dX12_init_396 rfl rfl ?_
  refine b_bipush (pc := 397) dX12_init_397 rfl ?_
  refine b_putI (pc := 399) dX12_init_399 fl_X12_86 fp_X12_39 sh_122 rfl rfl (by decide) (r_lit rfl) rfl rfl ?_
  refine b_aload_n 0 (pc := 402) dX12_init_402 rfl rfl ?_
  refine b_iconst (pc := 403) dX12_init_403 ?_
  refine b_newa (ty := .int) (ci := 20) (t0 := 0) (pc := 404) dX12_init_404 rfl ac_int rfl (fun _ _ h => h) rfl (by decide) sh_148 (by decide) rfl rfl ⟨rfl, rfl⟩ rfl (by decide) (by decide) ?_
  refine b_putR (ty := tyX12 40) (pc := 406) dX12_init_406 fl_X12_90 fq_X12_40 sh_122 rfl rfl (by decide) (by decide) (by decide) rfl rfl ?_
  refine b_aload_n 0 (pc := 409) dX12_init_409 rfl rfl ?_
  refine b_bipush (pc := 410) dX12_init_410 rfl ?_
  refine b_newa (ty := .int) (ci := 20) (t0 := 0) (pc := 412) dX12_init_412 rfl ac_int rfl (fun _ _ h => h) rfl (by decide) sh_149 (by decide) rfl rfl ⟨rfl, rfl⟩ rfl (by decide) (by decide) ?_
  refine b_putR (ty := tyX12 41) (pc := 414) dX12_init_414 fl_X12_93 fq_X12_41 sh_122 rfl rfl (by decide) (by decide) (by decide) rfl rfl ?_
  refine b_aload_n 0 (pc := 417) dX12_init_417 rfl rfl ?_
  refine b_iconst (pc := 418) dX12_init_418 ?_
  refine b_newa (ty := .int) (ci := 20) (t0 := 0) (pc := 419) dX12_init_419 rfl ac_int rfl (fun _ _ h => h) rfl (by decide) sh_150 (by decide) rfl rfl ⟨rfl, rfl⟩ rfl (by decide) (by decide) ?_
  refine b_putR (ty := tyX12 42) (pc := 421) dX12_init_421 fl_X12_96 fq_X12_42 sh_122 rfl rfl (by decide) (by decide) (by decide) rfl rfl ?_
  refine b_aload_n 0 (pc := 424) dX12_init_424 rfl rfl ?_
  refine b_bipush (pc := 425) dX12_init_425 rfl ?_
  refine b_newa (ty := .int) (ci := 20) (t0 := 0) (pc := 427) dX12_init_427 rfl ac_int rfl (fun _ _ h => h) rfl (by decide) sh_151 (by decide) rfl rfl ⟨rfl, rfl⟩ rfl (by decide) (by decide) ?_
  refine b_putR (ty := tyX12 44) (pc := 429) dX12_init_429 fl_X12_99 fq_X12_44 sh_122 rfl rfl (by decide) (by decide) (by decide) rfl rfl ?_
  refine b_aload_n 0 (pc := 432) dX12_init_432 rfl rfl ?_
  refine b_iconst (pc := 433) dX12_init_433 ?_
  refine b_newa (ty := .int) (ci := 20) (t0 := 0) (pc := 434) dX12_init_434 rfl ac_int rfl (fun _ _ h => h) rfl (by decide) sh_152 (by decide) rfl rfl ⟨rfl, rfl⟩ rfl (by decide) (by decide) ?_
  refine b_putR (ty := tyX12 46) (pc := 436) dX12_init_436 fl_X12_102 fq_X12_46 sh_122 rfl rfl (by decide) (by decide) (by decide) rfl rfl ?_
  refine b_aload_n 0 (pc := 439) dX12_init_439 rfl rfl ?_
  refine b_bipush (pc := 440) dX12_init_440 rfl ?_
  refine b_newa (ty := .int) (ci := 20) (t0 := 0) (pc := 442) dX12_init_442 rfl ac_int rfl (fun _ _ h => h) rfl (by decide) sh_153 (by decide) rfl rfl ⟨rfl, rfl⟩ rfl (by decide) (by decide) ?_
  refine b_putR (ty := tyX12 48) (pc := 444) dX12_init_444 fl_X12_105 fq_X12_48 sh_122 rfl rfl (by decide) (by decide) (by decide) rfl rfl ?_
  refine b_aload_n 0 (pc := 447) dX12_init_447 rfl rfl ?_
  refine b_bipush (pc := 448) dX12_init_448 rfl ?_
  refine b_newa (ty := .int) (ci := 20) (t0 := 0) (pc := 450) dX12_init_450 rfl ac_int rfl (fun _ _ h => h) rfl (by decide) sh_154 (by decide) rfl rfl ⟨rfl, rfl⟩ rfl (by decide) (by decide) ?_
  refine b_putR (ty := tyX12 53) (pc := 452) dX12_init_452 fl_X12_108 fq_X12_53 sh_122 rfl rfl (by decide) (by decide) (by decide) rfl rfl ?_
  refine b_aload_n 0 (pc := 455) dX12_init_455 rfl rfl ?_
  refine b_bipush (pc := 456) dX12_init_456 rfl ?_
  refine b_newa (ty := .int) (ci := 20) (t0 := 0) (pc := 458) dX12_init_458 rfl ac_int rfl (fun _ _ h => h) rfl (by decide) sh_155 (by decide) rfl rfl ⟨rfl, rfl⟩ rfl (by decide) (by decide) ?_
  refine b_putR (ty := tyX12 54) (pc := 460) dX12_init_460 fl_X12_111 fq_X12_54 sh_122 rfl rfl (by decide) (by decide) (by decide) rfl rfl ?_
  refine b_aload_n 0 (pc := 463) dX12_init_463 rfl rfl ?_
  refine b_bipush (pc := 464) dX12_init_464 rfl ?_
  refine b_newa (ty := .int) (ci := 20) (t0 := 0) (pc := 466) dX12_init_466 rfl ac_int rfl (fun _ _ h => h) rfl (by decide) sh_156 (by decide) rfl rfl ⟨rfl, rfl⟩ rfl (by decide) (by decide) ?_
  refine b_putR (ty := tyX12 55) (pc := 468) dX12_init_468 fl_X12_114 fq_X12_55 sh_122 rfl rfl (by decide) (by decide) (by decide) rfl rfl ?_
  refine b_aload_n 0 (pc := 471) dX12_init_471 rfl rfl ?_
  refine b_bipush (pc := 472) dX12_init_472 rfl ?_
  refine b_newa (ty := .int) (ci := 20) (t0 := 0) (pc := 474) dX12_init_474 rfl ac_int rfl (fun _ _ h => h) rfl (by decide) sh_157 (by decide) rfl rfl ⟨rfl, rfl⟩ rfl (by decide) (by decide) ?_
  refine b_putR (ty := tyX12 56) (pc := 476) dX12_init_476 fl_X12_117 fq_X12_56 sh_122 rfl rfl (by decide) (by decide) (by decide) rfl rfl ?_
  refine b_aload_n 0 (pc := 479) dX12_init_479 rfl rfl ?_
  refine b_iconst (pc := 480) dX12_init_480 ?_
  refine b_newa (ty := .int) (ci := 20) (t0 := 0) (pc := 481) dX12_init_481 rfl ac_int rfl (fun _ _ h => h) rfl (by decide) sh_158 (by decide) rfl rfl ⟨rfl, rfl⟩ rfl (by decide) (by decide) ?_
  refine b_dup (pc := 483) dX12_init_483 rfl ?_
  refine b_iconst (pc := 484) dX12_init_484 ?_
  refine b_bipush (pc := 485) dX12_init_485 rfl ?_
  refine b_iast (pc := 487) dX12_init_487 sh_158 (by decide) rfl (by decide) (by decide) (r_lit rfl) ?_
  refine b_dup (pc := 488) dX12_init_488 rfl ?_
  refine b_iconst (pc := 489) dX12_init_489 ?_
  refine b_bipush (pc := 490) dX12_init_490 rfl ?_
  refine b_iast (pc := 492) dX12_init_492 sh_158 (by decide) rfl (by decide) (by decide) (r_lit rfl) ?_
  refine b_dup (pc := 493) dX12_init_493 rfl ?_
  refine b_iconst (pc := 494) dX12_init_494 ?_
  refine b_bipush (pc := 495) dX12_init_495 rfl ?_
  refine b_iast (pc := 497) dX12_init_497 sh_158 (by decide) rfl (by decide) (by decide) (r_lit rfl) ?_
  refine b_dup (pc := 498) dX12_init_498 rfl ?_
  refine b_iconst (pc := 499) dX12_init_499 ?_
  refine b_bipush (pc := 500) dX12_init_500 rfl ?_
  refine b_iast (pc := 502) dX12_init_502 sh_158 (by decide) rfl (by decide) (by decide) (r_lit rfl) ?_
  refine b_putR (ty := tyX12 57) (pc := 503) dX12_init_503 fl_X12_120 fq_X12_57 sh_122 rfl rfl (by decide) (by decide) (by decide) rfl rfl ?_
  refine b_aload_n 0 (pc := 506) dX12_init_506 rfl rfl ?_
  refine b_iconst (pc := 507) dX12_init_507 ?_
  refine b_newa (ty := .int) (ci := 20) (t0 := 0) (pc := 508) dX12_init_508 rfl ac_int rfl (fun _ _ h => h) rfl (by decide) sh_159 (by decide) rfl rfl ⟨rfl, rfl⟩ rfl (by decide) (by decide) ?_
  refine b_putR (ty := tyX12 58) (pc := 510) dX12_init_510 fl_X12_123 fq_X12_58 sh_122 rfl rfl (by decide) (by decide) (by decide) rfl rfl ?_
  refine b_aload_n 0 (pc := 513) dX12_init_513 rfl rfl ?_
  refine b_sipush (pc := 514) dX12_init_514 rfl ?_
  refine b_newa (ty := .int) (ci := 20) (t0 := 0) (pc := 517) dX12_init_517 rfl ac_int rfl (fun _ _ h => h) rfl (by decide) sh_160 (by decide) rfl rfl ⟨rfl, rfl⟩ rfl (by decide) (by decide) ?_
  refine b_putR (ty := tyX12 59) (pc := 519) dX12_init_519 fl_X12_126 fq_X12_59 sh_122 rfl rfl (by decide) (by decide) (by decide) rfl rfl ?_
  refine b_aload_n 0 (pc := 522) dX12_init_522 rfl rfl ?_
  refine b_bipush (pc := 523) dX12_init_523 rfl ?_
  refine b_newa (ty := .int) (ci := 20) (t0 := 0) (pc := 525) dX12_init_525 rfl ac_int rfl (fun _ _ h => h) rfl (by decide) sh_161 (by decide) rfl rfl ⟨rfl, rfl⟩ rfl (by decide) (by decide) ?_
  refine b_putR (ty := tyX12 61) (pc := 527) dX12_init_527 fl_X12_129 fq_X12_61 sh_122 rfl rfl (by decide) (by decide) (by decide) rfl rfl ?_
  exact b_vret (pc := 530) dX12_init_530 rfl rfl (by decide) (wh_of sh_122 rfl) (fun h => absurd h (by decide)) rfl
