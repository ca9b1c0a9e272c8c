theorem dX12_guess_0 : decode cX12_guess 0 = .ok (.iload_n 1, 1) := by decide +kernel
theorem dX12_guess_1 : decode cX12_guess 1 = .ok (.i2l, 1) := by decide +kernel
theorem dX12_guess_2 : decode cX12_guess 2 = .ok (.lconst 0, 1) := by decide +kernel
theorem dX12_guess_3 : decode cX12_guess 3 = .ok (.ldc2_w 243, 3) := by decide +kernel
theorem dX12_guess_6 : decode cX12_guess 6 = .ok (.invokestatic 137, 3) := by decide +kernel
theorem dX12_guess_9 : decode cX12_guess 9 = .ok (.ifCond .eq 27, 3) := by decide +kernel
theorem dX12_guess_12 : decode cX12_guess 12 = .ok (.iload_n 2, 1) := by decide +kernel
theorem dX12_guess_13 : decode cX12_guess 13 = .ok (.i2l, 1) := by decide +kernel
theorem dX12_guess_14 : decode cX12_guess 14 = .ok (.lconst 0, 1) := by decide +kernel
theorem dX12_guess_15 : decode cX12_guess 15 = .ok (.ldc2_w 269, 3) := by decide +kernel
theorem dX12_guess_18 : decode cX12_guess 18 = .ok (.invokestatic 137, 3) := by decide +kernel
theorem dX12_guess_21 : decode cX12_guess 21 = .ok (.ifCond .eq 15, 3) := by decide +kernel
theorem dX12_guess_24 : decode cX12_guess 24 = .ok (.iload_n 3, 1) := by decide +kernel
theorem dX12_guess_25 : decode cX12_guess 25 = .ok (.i2l, 1) := by decide +kernel
theorem dX12_guess_26 : decode cX12_guess 26 = .ok (.lconst 0, 1) := by decide +kernel
theorem dX12_guess_27 : decode cX12_guess 27 = .ok (.ldc2_w 245, 3) := by decide +kernel
theorem dX12_guess_30 : decode cX12_guess 30 = .ok (.invokestatic 137, 3) := by decide +kernel
theorem dX12_guess_33 : decode cX12_guess 33 = .ok (.ifCond .ne 5, 3) := by decide +kernel
theorem dX12_guess_36 : decode cX12_guess 36 = .ok (.iconst (-1), 1) := by decide +kernel
theorem dX12_guess_37 : decode cX12_guess 37 = .ok (.ireturn, 1) := by decide +kernel
theorem dX12_guess_38 : decode cX12_guess 38 = .ok (.aload_n 0, 1) := by decide +kernel
theorem dX12_guess_39 : decode cX12_guess 39 = .ok (.invokevirtual 348, 3) := by decide +kernel
theorem dX12_guess_42 : decode cX12_guess 42 = .ok (.iconst 0, 1) := by decide +kernel
theorem dX12_guess_43 : decode cX12_guess 43 = .ok (.istore 4, 2) := by decide +kernel
theorem dX12_guess_45 : decode cX12_guess 45 = .ok (.iconst 0, 1) := by decide +kernel
theorem dX12_guess_46 : decode cX12_guess 46 = .ok (.istore 5, 2) := by decide +kernel
theorem dX12_guess_48 : decode cX12_guess 48 = .ok (.iconst 0, 1) := by decide +kernel
theorem dX12_guess_49 : decode cX12_guess 49 = .ok (.istore 6, 2) := by decide +kernel
theorem dX12_guess_51 : decode cX12_guess 51 = .ok (.iload 6, 2) := by decide +kernel
theorem dX12_guess_53 : decode cX12_guess 53 = .ok (.aload_n 0, 1) := by decide +kernel
theorem dX12_guess_54 : decode cX12_guess 54 = .ok (.getfield 232, 3) := by decide +kernel
theorem dX12_guess_57 : decode cX12_guess 57 = .ok (.if_icmp .ge 169, 3) := by decide +kernel
theorem dX12_guess_60 : decode cX12_guess 60 = .ok (.iconst 0, 1) := by decide +kernel
theorem dX12_guess_61 : decode cX12_guess 61 = .ok (.istore 7, 2) := by decide +kernel
theorem dX12_guess_63 : decode cX12_guess 63 = .ok (.iload 7, 2) := by decide +kernel
theorem dX12_guess_65 : decode cX12_guess 65 = .ok (.iload 6, 2) := by decide +kernel
theorem dX12_guess_67 : decode cX12_guess 67 = .ok (.if_icmp .ge 153, 3) := by decide +kernel
theorem dX12_guess_70 : decode cX12_guess 70 = .ok (.aload_n 0, 1) := by decide +kernel
theorem dX12_guess_71 : decode cX12_guess 71 = .ok (.getfield 55, 3) := by decide +kernel
theorem dX12_guess_74 : decode cX12_guess 74 = .ok (.iconst 4, 1) := by decide +kernel
theorem dX12_guess_75 : decode cX12_guess 75 = .ok (.iload 6, 2) := by decide +kernel
theorem dX12_guess_77 : decode cX12_guess 77 = .ok (.imul, 1) := by decide +kernel
theorem dX12_guess_78 : decode cX12_guess 78 = .ok (.iload_n 2, 1) := by decide +kernel
theorem dX12_guess_79 : decode cX12_guess 79 = .ok (.iadd, 1) := by decide +kernel
theorem dX12_guess_80 : decode cX12_guess 80 = .ok (.iaload, 1) := by decide +kernel
theorem dX12_guess_81 : decode cX12_guess 81 = .ok (.istore 8, 2) := by decide +kernel
theorem dX12_guess_83 : decode cX12_guess 83 = .ok (.aload_n 0, 1) := by decide +kernel
theorem dX12_guess_84 : decode cX12_guess 84 = .ok (.getfield 55, 3) := by decide +kernel
theorem dX12_guess_87 : decode cX12_guess 87 = .ok (.iconst 4, 1) := by decide +kernel
theorem dX12_guess_88 : decode cX12_guess 88 = .ok (.iload 7, 2) := by decide +kernel
theorem dX12_guess_90 : decode cX12_guess 90 = .ok (.imul, 1) := by decide +kernel
theorem dX12_guess_91 : decode cX12_guess 91 = .ok (.iload_n 2, 1) := by decide +kernel
theorem dX12_guess_92 : decode cX12_guess 92 = .ok (.iadd, 1) := by decide +kernel
theorem dX12_guess_93 : decode cX12_guess 93 = .ok (.iaload, 1) := by decide +kernel
theorem dX12_guess_94 : decode cX12_guess 94 = .ok (.istore 9, 2) := by decide +kernel
theorem dX12_guess_96 : decode cX12_guess 96 = .ok (.aload_n 0, 1) := by decide +kernel
theorem dX12_guess_97 : decode cX12_guess 97 = .ok (.getfield 49, 3) := by decide +kernel
theorem dX12_guess_100 : decode cX12_guess 100 = .ok (.iload 6, 2) := by decide +kernel
theorem dX12_guess_102 : decode cX12_guess 102 = .ok (.iaload, 1) := by decide +kernel
theorem dX12_guess_103 : decode cX12_guess 103 = .ok (.aload_n 0, 1) := by decide +kernel
theorem dX12_guess_104 : decode cX12_guess 104 = .ok (.getfield 49, 3) := by decide +kernel
theorem dX12_guess_107 : decode cX12_guess 107 = .ok (.iload 7, 2) := by decide +kernel
theorem dX12_guess_109 : decode cX12_guess 109 = .ok (.iaload, 1) := by decide +kernel
theorem dX12_guess_110 : decode cX12_guess 110 = .ok (.if_icmp .eq 29, 3) := by decide +kernel
theorem dX12_guess_113 : decode cX12_guess 113 = .ok (.aload_n 0, 1) := by decide +kernel
theorem dX12_guess_114 : decode cX12_guess 114 = .ok (.getfield 49, 3) := by decide +kernel
theorem dX12_guess_117 : decode cX12_guess 117 = .ok (.iload 6, 2) := by decide +kernel
theorem dX12_guess_119 : decode cX12_guess 119 = .ok (.iaload, 1) := by decide +kernel
theorem dX12_guess_120 : decode cX12_guess 120 = .ok (.iload_n 1, 1) := by decide +kernel
theorem dX12_guess_121 : decode cX12_guess 121 = .ok (.if_icmp .eq 14, 3) := by decide +kernel
theorem dX12_guess_124 : decode cX12_guess 124 = .ok (.aload_n 0, 1) := by decide +kernel
theorem dX12_guess_125 : decode cX12_guess 125 = .ok (.getfield 49, 3) := by decide +kernel
theorem dX12_guess_128 : decode cX12_guess 128 = .ok (.iload 7, 2) := by decide +kernel
theorem dX12_guess_130 : decode cX12_guess 130 = .ok (.iaload, 1) := by decide +kernel
theorem dX12_guess_131 : decode cX12_guess 131 = .ok (.iload_n 1, 1) := by decide +kernel
theorem dX12_guess_132 : decode cX12_guess 132 = .ok (.if_icmp .ne 7, 3) := by decide +kernel
theorem dX12_guess_135 : decode cX12_guess 135 = .ok (.iconst 1, 1) := by decide +kernel
theorem dX12_guess_136 : decode cX12_guess 136 = .ok (.goto 4, 3) := by decide +kernel
theorem dX12_guess_139 : decode cX12_guess 139 = .ok (.iconst 0, 1) := by decide +kernel
theorem dX12_guess_140 : decode cX12_guess 140 = .ok (.istore 10, 2) := by decide +kernel
theorem dX12_guess_142 : decode cX12_guess 142 = .ok (.iload 10, 2) := by decide +kernel
theorem dX12_guess_144 : decode cX12_guess 144 = .ok (.ifCond .eq 70, 3) := by decide +kernel
theorem dX12_guess_147 : decode cX12_guess 147 = .ok (.aload_n 0, 1) := by decide +kernel
theorem dX12_guess_148 : decode cX12_guess 148 = .ok (.getfield 105, 3) := by decide +kernel
theorem dX12_guess_151 : decode cX12_guess 151 = .ok (.iload 6, 2) := by decide +kernel
theorem dX12_guess_153 : decode cX12_guess 153 = .ok (.iaload, 1) := by decide +kernel
theorem dX12_guess_154 : decode cX12_guess 154 = .ok (.bipush (-4), 2) := by decide +kernel
theorem dX12_guess_156 : decode cX12_guess 156 = .ok (.if_icmp .eq 58, 3) := by decide +kernel
theorem dX12_guess_159 : decode cX12_guess 159 = .ok (.aload_n 0, 1) := by decide +kernel
theorem dX12_guess_160 : decode cX12_guess 160 = .ok (.getfield 105, 3) := by decide +kernel
theorem dX12_guess_163 : decode cX12_guess 163 = .ok (.iload 6, 2) := by decide +kernel
theorem dX12_guess_165 : decode cX12_guess 165 = .ok (.iaload, 1) := by decide +kernel
theorem dX12_guess_166 : decode cX12_guess 166 = .ok (.aload_n 0, 1) := by decide +kernel
theorem dX12_guess_167 : decode cX12_guess 167 = .ok (.getfield 105, 3) := by decide +kernel
theorem dX12_guess_170 : decode cX12_guess 170 = .ok (.iload 7, 2) := by decide +kernel
theorem dX12_guess_172 : decode cX12_guess 172 = .ok (.iaload, 1) := by decide +kernel
theorem dX12_guess_173 : decode cX12_guess 173 = .ok (.if_icmp .ne 41, 3) := by decide +kernel
theorem dX12_guess_176 : decode cX12_guess 176 = .ok (.iload 8, 2) := by decide +kernel
theorem dX12_guess_178 : decode cX12_guess 178 = .ok (.ifCond .le 36, 3) := by decide +kernel
theorem dX12_guess_181 : decode cX12_guess 181 = .ok (.iload 9, 2) := by decide +kernel
theorem dX12_guess_183 : decode cX12_guess 183 = .ok (.ifCond .le 31, 3) := by decide +kernel
theorem dX12_guess_186 : decode cX12_guess 186 = .ok (.iinc 4 1, 3) := by decide +kernel
theorem dX12_guess_189 : decode cX12_guess 189 = .ok (.iload 5, 2) := by decide +kernel
theorem dX12_guess_191 : decode cX12_guess 191 = .ok (.iload 8, 2) := by decide +kernel
theorem dX12_guess_193 : decode cX12_guess 193 = .ok (.iload 9, 2) := by decide +kernel
theorem dX12_guess_195 : decode cX12_guess 195 = .ok (.if_icmp .ge 11, 3) := by decide +kernel
theorem dX12_guess_198 : decode cX12_guess 198 = .ok (.iload 9, 2) := by decide +kernel
theorem dX12_guess_200 : decode cX12_guess 200 = .ok (.iload 8, 2) := by decide +kernel
theorem dX12_guess_202 : decode cX12_guess 202 = .ok (.isub, 1) := by decide +kernel
theorem dX12_guess_203 : decode cX12_guess 203 = .ok (.goto 8, 3) := by decide +kernel
theorem dX12_guess_206 : decode cX12_guess 206 = .ok (.iload 8, 2) := by decide +kernel
theorem dX12_guess_208 : decode cX12_guess 208 = .ok (.iload 9, 2) := by decide +kernel
theorem dX12_guess_210 : decode cX12_guess 210 = .ok (.isub, 1) := by decide +kernel
theorem dX12_guess_211 : decode cX12_guess 211 = .ok (.iadd, 1) := by decide +kernel
theorem dX12_guess_212 : decode cX12_guess 212 = .ok (.istore 5, 2) := by decide +kernel
theorem dX12_guess_214 : decode cX12_guess 214 = .ok (.iinc 7 1, 3) := by decide +kernel
theorem dX12_guess_217 : decode cX12_guess 217 = .ok (.goto (-154), 3) := by decide +kernel
theorem dX12_guess_220 : decode cX12_guess 220 = .ok (.iinc 6 1, 3) := by decide +kernel
theorem dX12_guess_223 : decode cX12_guess 223 = .ok (.goto (-172), 3) := by decide +kernel
theorem dX12_guess_226 : decode cX12_guess 226 = .ok (.iload_n 3, 1) := by decide +kernel
theorem dX12_guess_227 : decode cX12_guess 227 = .ok (.iconst 2, 1) := by decide +kernel
theorem dX12_guess_228 : decode cX12_guess 228 = .ok (.if_icmp .ne 8, 3) := by decide +kernel
theorem dX12_guess_231 : decode cX12_guess 231 = .ok (.iload 4, 2) := by decide +kernel
theorem dX12_guess_233 : decode cX12_guess 233 = .ok (.goto 24, 3) := by decide +kernel
theorem dX12_guess_236 : decode cX12_guess 236 = .ok (.iload 4, 2) := by decide +kernel
theorem dX12_guess_238 : decode cX12_guess 238 = .ok (.ifCond .ne 8, 3) := by decide +kernel
theorem dX12_guess_241 : decode cX12_guess 241 = .ok (.bipush (-4), 2) := by decide +kernel
theorem dX12_guess_243 : decode cX12_guess 243 = .ok (.goto 14, 3) := by decide +kernel
theorem dX12_guess_246 : decode cX12_guess 246 = .ok (.iload 5, 2) := by decide +kernel
theorem dX12_guess_248 : decode cX12_guess 248 = .ok (.i2l, 1) := by decide +kernel
theorem dX12_guess_249 : decode cX12_guess 249 = .ok (.iload 4, 2) := by decide +kernel
theorem dX12_guess_251 : decode cX12_guess 251 = .ok (.i2l, 1) := by decide +kernel
theorem dX12_guess_252 : decode cX12_guess 252 = .ok (.iload_n 3, 1) := by decide +kernel
theorem dX12_guess_253 : decode cX12_guess 253 = .ok (.invokestatic 286, 3) := by decide +kernel
theorem dX12_guess_256 : decode cX12_guess 256 = .ok (.l2i, 1) := by decide +kernel
theorem dX12_guess_257 : decode cX12_guess 257 = .ok (.ireturn, 1) := by decide +kernel
set_option maxRecDepth 100000 in
set_option maxHeartbeats 4000000 in
theorem w_X12_guess_140 (X : XE) (p1 : Int) (p2 : Int) (p3 : Int) (hp1 : inR p1) (hp2 : inR p2) (hp3 : inR p3) (x4 : Int) (x5 : Int) (x6 : Int) (x7 : Int) (x8 : Int) (x9 : Int) (s0 : Int) (hx4 : inR x4) (hx5 : inR x5) (hx6 : inR x6) (hx7 : inR x7) (hx8 : inR x8) (hx9 : inR x9) (hs0 : inR s0) {K51 : Int → Int → Int → Mem → Prop} {K63 : Int → Int → Int → Mem → Prop} {Q : Int → Mem → Prop} (hK51 : ∀ (x4 : Int) (x5 : Int) (x6 : Int) (σ : Mem), inR x4 → inR x5 → inR x6 → K51 x4 x5 x6 σ → ok X rm_X12_guess RX12 cX12_guess 11 (some .int) 1 Q 51 [(0, .ref (xad X 122)), (1, vI p1), (2, vI p2), (3, vI p3), (4, vI x4), (5, vI x5), (6, vI x6)] [] σ) (hK63 : ∀ (x4 : Int) (x5 : Int) (x7 : Int) (σ : Mem), inR x4 → inR x5 → inR x7 → K63 x4 x5 x7 σ → ok X rm_X12_guess RX12 cX12_guess 11 (some .int) 1 Q 63 [(0, .ref (xad X 122)), (1, vI p1), (2, vI p2), (3, vI p3), (4, vI x4), (5, vI x5), (6, vI x6), (7, vI x7)] [] σ) {σ : Mem} (h : j_X12_guess_140 p1 p2 p3 K51 K63 Q x4 x5 x6 x7 x8 x9 s0 σ) : ok X rm_X12_guess RX12 cX12_guess 11 (some .int) 1 Q 140 [(0, .ref (xad X 122)), (1, vI p1), (2, vI p2), (3, vI p3), (4, vI x4), (5, vI x5), (6, vI x6), (7, vI x7), (8, vI x8), (9, vI x9)] [vI s0] σ := by
  refine ok_istore (L' := [(10, vI s0), (0, .ref (xad X 122)), (1, vI p1), (2, vI p2), (3, vI p3), (4, vI x4), (5, vI x5), (6, vI x6), (7, vI x7), (8, vI x8), (9, vI x9)]) (pc := 140) dX12_guess_140 rfl rfl ?_
  refine ok_iload 0 (pc := 142) dX12_guess_142 rfl ?_
  refine ok_if_eq (tgt := 214) (pc := 144) dX12_guess_144 rfl hs0 (fun q1 => ?_) (fun q1 => ?_)
  · have h := iteT h q1
    refine ok_iinc (L' := [(7, vI (x7 + 1)), (10, vI s0), (0, .ref (xad X 122)), (1, vI p1), (2, vI p2), (3, vI p3), (4, vI x4), (5, vI x5), (6, vI x6), (8, vI x8), (9, vI x9)]) 8 (pc := 214) dX12_guess_214 rfl rfl rfl ?_
    refine ok_goto (tgt := 63) (pc := 217) dX12_guess_217 rfl ?_
    obtain ⟨h2, h⟩ := h
    refine ok_sub (L' := [(0, .ref (xad X 122)), (1, vI p1), (2, vI p2), (3, vI p3), (4, vI x4), (5, vI x5), (6, vI x6), (7, vI (x7 + 1))]) [2,3,4,5,6,7,8,0] rfl ?_
    exact hK63 x4 x5 (x7 + 1) σ hx4 hx5 h2 h
  · have h := iteF h q1
    refine ok_aload_n 1 (pc := 147) dX12_guess_147 rfl rfl ?_
    refine ok_getR (pc := 148) dX12_guess_148 fl_X12_105 sh_122 (Nat.le_of_ble_eq_true rfl) rfl rfl ?_
    refine ok_iload 7 (pc := 151) dX12_guess_151 rfl ?_
    obtain ⟨h3, h⟩ := h
    obtain ⟨h4, h⟩ := h
    refine ok_wf (fun hw5 => ?_)
    refine ok_iald (pc := 153) dX12_guess_153 sh_153 (Nat.le_of_ble_eq_true rfl) rfl h3 h4 ?_
    refine ok_bipush (pc := 154) dX12_guess_154 rfl ?_
    refine ok_icmp_eq (tgt := 214) (pc := 156) dX12_guess_156 rfl (hw5 _ _) (r_lit rfl) (fun q6 => ?_) (fun q6 => ?_)
    · have h := iteT h q6
      refine ok_iinc (L' := [(7, vI (x7 + 1)), (10, vI s0), (0, .ref (xad X 122)), (1, vI p1), (2, vI p2), (3, vI p3), (4, vI x4), (5, vI x5), (6, vI x6), (8, vI x8), (9, vI x9)]) 8 (pc := 214) dX12_guess_214 rfl rfl rfl ?_
      refine ok_goto (tgt := 63) (pc := 217) dX12_guess_217 rfl ?_
      obtain ⟨h7, h⟩ := h
      refine ok_sub (L' := [(0, .ref (xad X 122)), (1, vI p1), (2, vI p2), (3, vI p3), (4, vI x4), (5, vI x5), (6, vI x6), (7, vI (x7 + 1))]) [2,3,4,5,6,7,8,0] rfl ?_
      exact hK63 x4 x5 (x7 + 1) σ hx4 hx5 h7 h
    · have h := iteF h q6
      refine ok_aload_n 1 (pc := 159) dX12_guess_159 rfl rfl ?_
      refine ok_getR (pc := 160) dX12_guess_160 fl_X12_105 sh_122 (Nat.le_of_ble_eq_true rfl) rfl rfl ?_
      refine ok_iload 7 (pc := 163) dX12_guess_163 rfl ?_
      refine ok_iald (pc := 165) dX12_guess_165 sh_153 (Nat.le_of_ble_eq_true rfl) rfl h3 h4 ?_
      refine ok_aload_n 1 (pc := 166) dX12_guess_166 rfl rfl ?_
      refine ok_getR (pc := 167) dX12_guess_167 fl_X12_105 sh_122 (Nat.le_of_ble_eq_true rfl) rfl rfl ?_
      refine ok_iload 8 (pc := 170) dX12_guess_170 rfl ?_
      obtain ⟨h8, h⟩ := h
      obtain ⟨h9, h⟩ := h
      refine ok_iald (pc := 172) dX12_guess_172 sh_153 (Nat.le_of_ble_eq_true rfl) rfl h8 h9 ?_
      refine ok_icmp_ne (tgt := 214) (pc := 173) dX12_guess_173 rfl (hw5 _ _) (hw5 _ _) (fun q10 => ?_) (fun q10 => ?_)
      · have h := iteF h q10
        refine ok_iinc (L' := [(7, vI (x7 + 1)), (10, vI s0), (0, .ref (xad X 122)), (1, vI p1), (2, vI p2), (3, vI p3), (4, vI x4), (5, vI x5), (6, vI x6), (8, vI x8), (9, vI x9)]) 8 (pc := 214) dX12_guess_214 rfl rfl rfl ?_
        refine ok_goto (tgt := 63) (pc := 217) dX12_guess_217 rfl ?_
        obtain ⟨h11, h⟩ := h
        refine ok_sub (L' := [(0, .ref (xad X 122)), (1, vI p1), (2, vI p2), (3, vI p3), (4, vI x4), (5, vI x5), (6, vI x6), (7, vI (x7 + 1))]) [2,3,4,5,6,7,8,0] rfl ?_
        exact hK63 x4 x5 (x7 + 1) σ hx4 hx5 h11 h
      · have h := iteT h q10
        refine ok_iload 9 (pc := 176) dX12_guess_176 rfl ?_
        refine ok_if_le (tgt := 214) (pc := 178) dX12_guess_178 rfl hx8 (fun q12 => ?_) (fun q12 => ?_)
        · have h := iteF h q12
          refine ok_iinc (L' := [(7, vI (x7 + 1)), (10, vI s0), (0, .ref (xad X 122)), (1, vI p1), (2, vI p2), (3, vI p3), (4, vI x4), (5, vI x5), (6, vI x6), (8, vI x8), (9, vI x9)]) 8 (pc := 214) dX12_guess_214 rfl rfl rfl ?_
          refine ok_goto (tgt := 63) (pc := 217) dX12_guess_217 rfl ?_
          obtain ⟨h13, h⟩ := h
          refine ok_sub (L' := [(0, .ref (xad X 122)), (1, vI p1), (2, vI p2), (3, vI p3), (4, vI x4), (5, vI x5), (6, vI x6), (7, vI (x7 + 1))]) [2,3,4,5,6,7,8,0] rfl ?_
          exact hK63 x4 x5 (x7 + 1) σ hx4 hx5 h13 h
        · have h := iteT h q12
          refine ok_iload 10 (pc := 181) dX12_guess_181 rfl ?_
          refine ok_if_le (tgt := 214) (pc := 183) dX12_guess_183 rfl hx9 (fun q14 => ?_) (fun q14 => ?_)
          · have h := iteF h q14
            refine ok_iinc (L' := [(7, vI (x7 + 1)), (10, vI s0), (0, .ref (xad X 122)), (1, vI p1), (2, vI p2), (3, vI p3), (4, vI x4), (5, vI x5), (6, vI x6), (8, vI x8), (9, vI x9)]) 8 (pc := 214) dX12_guess_214 rfl rfl rfl ?_
            refine ok_goto (tgt := 63) (pc := 217) dX12_guess_217 rfl ?_
            obtain ⟨h15, h⟩ := h
            refine ok_sub (L' := [(0, .ref (xad X 122)), (1, vI p1), (2, vI p2), (3, vI p3), (4, vI x4), (5, vI x5), (6, vI x6), (7, vI (x7 + 1))]) [2,3,4,5,6,7,8,0] rfl ?_
            exact hK63 x4 x5 (x7 + 1) σ hx4 hx5 h15 h
          · have h := iteT h q14
            refine ok_iinc (L' := [(4, vI (x4 + 1)), (10, vI s0), (0, .ref (xad X 122)), (1, vI p1), (2, vI p2), (3, vI p3), (5, vI x5), (6, vI x6), (7, vI x7), (8, vI x8), (9, vI x9)]) 5 (pc := 186) dX12_guess_186 rfl rfl rfl ?_
            refine ok_iload 6 (pc := 189) dX12_guess_189 rfl ?_
            refine ok_iload 9 (pc := 191) dX12_guess_191 rfl ?_
            refine ok_iload 10 (pc := 193) dX12_guess_193 rfl ?_
            refine ok_icmp_ge (tgt := 206) (pc := 195) dX12_guess_195 rfl hx8 hx9 (fun q16 => ?_) (fun q16 => ?_)
            · have h := iteF h q16
              refine ok_iload 9 (pc := 206) dX12_guess_206 rfl ?_
              refine ok_iload 10 (pc := 208) dX12_guess_208 rfl ?_
              refine ok_isub (pc := 210) dX12_guess_210 ?_
              refine ok_iadd (pc := 211) dX12_guess_211 ?_
              refine ok_istore (L' := [(5, vI (x5 + (x8 - x9))), (4, vI (x4 + 1)), (10, vI s0), (0, .ref (xad X 122)), (1, vI p1), (2, vI p2), (3, vI p3), (6, vI x6), (7, vI x7), (8, vI x8), (9, vI x9)]) (pc := 212) dX12_guess_212 rfl rfl ?_
              refine ok_iinc (L' := [(7, vI (x7 + 1)), (5, vI (x5 + (x8 - x9))), (4, vI (x4 + 1)), (10, vI s0), (0, .ref (xad X 122)), (1, vI p1), (2, vI p2), (3, vI p3), (6, vI x6), (8, vI x8), (9, vI x9)]) 8 (pc := 214) dX12_guess_214 rfl rfl rfl ?_
              refine ok_goto (tgt := 63) (pc := 217) dX12_guess_217 rfl ?_
              obtain ⟨h17, h⟩ := h
              obtain ⟨h18, h⟩ := h
              obtain ⟨h19, h⟩ := h
              refine ok_sub (L' := [(0, .ref (xad X 122)), (1, vI p1), (2, vI p2), (3, vI p3), (4, vI (x4 + 1)), (5, vI (x5 + (x8 - x9))), (6, vI x6), (7, vI (x7 + 1))]) [4,5,6,7,2,1,8,0] rfl ?_
              exact hK63 (x4 + 1) (x5 + (x8 - x9)) (x7 + 1) σ h17 h18 h19 h
            · have h := iteT h q16
              refine ok_iload 10 (pc := 198) dX12_guess_198 rfl ?_
              refine ok_iload 9 (pc := 200) dX12_guess_200 rfl ?_
              refine ok_isub (pc := 202) dX12_guess_202 ?_
              refine ok_goto (tgt := 211) (pc := 203) dX12_guess_203 rfl ?_
              refine ok_iadd (pc := 211) dX12_guess_211 ?_
              refine ok_istore (L' := [(5, vI (x5 + (x9 - x8))), (4, vI (x4 + 1)), (10, vI s0), (0, .ref (xad X 122)), (1, vI p1), (2, vI p2), (3, vI p3), (6, vI x6), (7, vI x7), (8, vI x8), (9, vI x9)]) (pc := 212) dX12_guess_212 rfl rfl ?_
              refine ok_iinc (L' := [(7, vI (x7 + 1)), (5, vI (x5 + (x9 - x8))), (4, vI (x4 + 1)), (10, vI s0), (0, .ref (xad X 122)), (1, vI p1), (2, vI p2), (3, vI p3), (6, vI x6), (8, vI x8), (9, vI x9)]) 8 (pc := 214) dX12_guess_214 rfl rfl rfl ?_
              refine ok_goto (tgt := 63) (pc := 217) dX12_guess_217 rfl ?_
              obtain ⟨h20, h⟩ := h
              obtain ⟨h21, h⟩ := h
              obtain ⟨h22, h⟩ := h
              refine ok_sub (L' := [(0, .ref (xad X 122)), (1, vI p1), (2, vI p2), (3, vI p3), (4, vI (x4 + 1)), (5, vI (x5 + (x9 - x8))), (6, vI x6), (7, vI (x7 + 1))]) [4,5,6,7,2,1,8,0] rfl ?_
              exact hK63 (x4 + 1) (x5 + (x9 - x8)) (x7 + 1) σ h20 h21 h22 h
set_option maxRecDepth 100000 in
set_option maxHeartbeats 4000000 in
theorem w_X12_guess_63 (X : XE) (p1 : Int) (p2 : Int) (p3 : Int) (hp1 : inR p1) (hp2 : inR p2) (hp3 : inR p3) (x6 : Int) (hx6 : inR x6) {K51 : Int → Int → Int → Mem → Prop} {Q : Int → Mem → Prop} (hK51 : ∀ (x4 : Int) (x5 : Int) (x6 : Int) (σ : Mem), inR x4 → inR x5 → inR x6 → K51 x4 x5 x6 σ → ok X rm_X12_guess RX12 cX12_guess 11 (some .int) 1 Q 51 [(0, .ref (xad X 122)), (1, vI p1), (2, vI p2), (3, vI p3), (4, vI x4), (5, vI x5), (6, vI x6)] [] σ) : ∀ (n : Nat) (x4 : Int) (x5 : Int) (x7 : Int) (σ : Mem), inR x4 → inR x5 → inR x7 → l_X12_guess_63 p1 p2 p3 x6 K51 Q n x4 x5 x7 σ → ok X rm_X12_guess RX12 cX12_guess 11 (some .int) 1 Q 63 [(0, .ref (xad X 122)), (1, vI p1), (2, vI p2), (3, vI p3), (4, vI x4), (5, vI x5), (6, vI x6), (7, vI x7)] [] σ := by
  intro n
  induction n with
  | zero => intro x4 x5 x7 σ hx4 hx5 hx7 h; exact False.elim h
  | succ n ih =>
    intro x4 x5 x7 σ hx4 hx5 hx7 h
    refine ok_iload 7 (pc := 63) dX12_guess_63 rfl ?_
    refine ok_iload 6 (pc := 65) dX12_guess_65 rfl ?_
    refine ok_icmp_ge (tgt := 220) (pc := 67) dX12_guess_67 rfl hx7 hx6 (fun q1 => ?_) (fun q1 => ?_)
    · have h := iteF h q1
      refine ok_iinc (L' := [(6, vI (x6 + 1)), (0, .ref (xad X 122)), (1, vI p1), (2, vI p2), (3, vI p3), (4, vI x4), (5, vI x5), (7, vI x7)]) 6 (pc := 220) dX12_guess_220 rfl rfl rfl ?_
      refine ok_goto (tgt := 51) (pc := 223) dX12_guess_223 rfl ?_
      obtain ⟨h2, h⟩ := h
      refine ok_sub (L' := [(0, .ref (xad X 122)), (1, vI p1), (2, vI p2), (3, vI p3), (4, vI x4), (5, vI x5), (6, vI (x6 + 1))]) [1,2,3,4,5,6,0] rfl ?_
      exact hK51 x4 x5 (x6 + 1) σ hx4 hx5 h2 h
    · have h := iteT h q1
      refine ok_aload_n 0 (pc := 70) dX12_guess_70 rfl rfl ?_
      refine ok_getR (pc := 71) dX12_guess_71 fl_X12_55 sh_122 (Nat.le_of_ble_eq_true rfl) rfl rfl ?_
      refine ok_iconst (pc := 74) dX12_guess_74 ?_
      refine ok_iload 6 (pc := 75) dX12_guess_75 rfl ?_
      refine ok_imul (pc := 77) dX12_guess_77 ?_
      refine ok_iload_n 2 (pc := 78) dX12_guess_78 rfl rfl ?_
      refine ok_iadd (pc := 79) dX12_guess_79 ?_
      obtain ⟨h3, h⟩ := h
      obtain ⟨h4, h⟩ := h
      refine ok_wf (fun hw5 => ?_)
      refine ok_iald (pc := 80) dX12_guess_80 sh_138 (Nat.le_of_ble_eq_true rfl) rfl h3 h4 ?_
      refine ok_istore (L' := [(8, vI (σ 138 ((4 * x6) + p2).toNat)), (0, .ref (xad X 122)), (1, vI p1), (2, vI p2), (3, vI p3), (4, vI x4), (5, vI x5), (6, vI x6), (7, vI x7)]) (pc := 81) dX12_guess_81 rfl rfl ?_
      refine ok_aload_n 1 (pc := 83) dX12_guess_83 rfl rfl ?_
      refine ok_getR (pc := 84) dX12_guess_84 fl_X12_55 sh_122 (Nat.le_of_ble_eq_true rfl) rfl rfl ?_
      refine ok_iconst (pc := 87) dX12_guess_87 ?_
      refine ok_iload 8 (pc := 88) dX12_guess_88 rfl ?_
      refine ok_imul (pc := 90) dX12_guess_90 ?_
      refine ok_iload_n 3 (pc := 91) dX12_guess_91 rfl rfl ?_
      refine ok_iadd (pc := 92) dX12_guess_92 ?_
      obtain ⟨h6, h⟩ := h
      obtain ⟨h7, h⟩ := h
      refine ok_iald (pc := 93) dX12_guess_93 sh_138 (Nat.le_of_ble_eq_true rfl) rfl h6 h7 ?_
      refine ok_istore (L' := [(9, vI (σ 138 ((4 * x7) + p2).toNat)), (8, vI (σ 138 ((4 * x6) + p2).toNat)), (0, .ref (xad X 122)), (1, vI p1), (2, vI p2), (3, vI p3), (4, vI x4), (5, vI x5), (6, vI x6), (7, vI x7)]) (pc := 94) dX12_guess_94 rfl rfl ?_
      refine ok_aload_n 2 (pc := 96) dX12_guess_96 rfl rfl ?_
      refine ok_getR (pc := 97) dX12_guess_97 fl_X12_49 sh_122 (Nat.le_of_ble_eq_true rfl) rfl rfl ?_
      refine ok_iload 8 (pc := 100) dX12_guess_100 rfl ?_
      obtain ⟨h8, h⟩ := h
      obtain ⟨h9, h⟩ := h
      refine ok_iald (pc := 102) dX12_guess_102 sh_136 (Nat.le_of_ble_eq_true rfl) rfl h8 h9 ?_
      refine ok_aload_n 2 (pc := 103) dX12_guess_103 rfl rfl ?_
      refine ok_getR (pc := 104) dX12_guess_104 fl_X12_49 sh_122 (Nat.le_of_ble_eq_true rfl) rfl rfl ?_
      refine ok_iload 9 (pc := 107) dX12_guess_107 rfl ?_
      obtain ⟨h10, h⟩ := h
      obtain ⟨h11, h⟩ := h
      refine ok_iald (pc := 109) dX12_guess_109 sh_136 (Nat.le_of_ble_eq_true rfl) rfl h10 h11 ?_
      refine ok_icmp_eq (tgt := 139) (pc := 110) dX12_guess_110 rfl (hw5 _ _) (hw5 _ _) (fun q12 => ?_) (fun q12 => ?_)
      · simp only [if_pos q12] at h
        refine ok_iconst (pc := 139) dX12_guess_139 ?_
        refine ok_sub (L' := [(0, .ref (xad X 122)), (1, vI p1), (2, vI p2), (3, vI p3), (4, vI x4), (5, vI x5), (6, vI x6), (7, vI x7), (8, vI (σ 138 ((4 * x6) + p2).toNat)), (9, vI (σ 138 ((4 * x7) + p2).toNat))]) [2,3,4,5,6,7,8,9,1,0] rfl ?_
        exact w_X12_guess_140 X p1 p2 p3 hp1 hp2 hp3 x4 x5 x6 x7 (σ 138 ((4 * x6) + p2).toNat) (σ 138 ((4 * x7) + p2).toNat) 0 hx4 hx5 hx6 hx7 (hw5 _ _) (hw5 _ _) (r_lit rfl) hK51 (fun x4_ x5_ x7_ σ_ hx4_ hx5_ hx7_ h_ => ih x4_ x5_ x7_ σ_ hx4_ hx5_ hx7_ h_) h
      · simp only [if_neg q12] at h
        refine ok_aload_n 2 (pc := 113) dX12_guess_113 rfl rfl ?_
        refine ok_getR (pc := 114) dX12_guess_114 fl_X12_49 sh_122 (Nat.le_of_ble_eq_true rfl) rfl rfl ?_
        refine ok_iload 8 (pc := 117) dX12_guess_117 rfl ?_
        refine ok_iald (pc := 119) dX12_guess_119 sh_136 (Nat.le_of_ble_eq_true rfl) rfl h8 h9 ?_
        refine ok_iload_n 3 (pc := 120) dX12_guess_120 rfl rfl ?_
        refine ok_icmp_eq (tgt := 135) (pc := 121) dX12_guess_121 rfl (hw5 _ _) hp1 (fun q13 => ?_) (fun q13 => ?_)
        · simp only [if_pos q13] at h
          refine ok_iconst (pc := 135) dX12_guess_135 ?_
          refine ok_goto (tgt := 140) (pc := 136) dX12_guess_136 rfl ?_
          refine ok_sub (L' := [(0, .ref (xad X 122)), (1, vI p1), (2, vI p2), (3, vI p3), (4, vI x4), (5, vI x5), (6, vI x6), (7, vI x7), (8, vI (σ 138 ((4 * x6) + p2).toNat)), (9, vI (σ 138 ((4 * x7) + p2).toNat))]) [2,3,4,5,6,7,8,9,1,0] rfl ?_
          exact w_X12_guess_140 X p1 p2 p3 hp1 hp2 hp3 x4 x5 x6 x7 (σ 138 ((4 * x6) + p2).toNat) (σ 138 ((4 * x7) + p2).toNat) 1 hx4 hx5 hx6 hx7 (hw5 _ _) (hw5 _ _) (r_lit rfl) hK51 (fun x4_ x5_ x7_ σ_ hx4_ hx5_ hx7_ h_ => ih x4_ x5_ x7_ σ_ hx4_ hx5_ hx7_ h_) h
        · simp only [if_neg q13] at h
          refine ok_aload_n 2 (pc := 124) dX12_guess_124 rfl rfl ?_
          refine ok_getR (pc := 125) dX12_guess_125 fl_X12_49 sh_122 (Nat.le_of_ble_eq_true rfl) rfl rfl ?_
          refine ok_iload 9 (pc := 128) dX12_guess_128 rfl ?_
          refine ok_iald (pc := 130) dX12_guess_130 sh_136 (Nat.le_of_ble_eq_true rfl) rfl h10 h11 ?_
          refine ok_iload_n 3 (pc := 131) dX12_guess_131 rfl rfl ?_
          refine ok_icmp_ne (tgt := 139) (pc := 132) dX12_guess_132 rfl (hw5 _ _) hp1 (fun q14 => ?_) (fun q14 => ?_)
          · simp only [if_neg q14] at h
            refine ok_iconst (pc := 139) dX12_guess_139 ?_
            refine ok_sub (L' := [(0, .ref (xad X 122)), (1, vI p1), (2, vI p2), (3, vI p3), (4, vI x4), (5, vI x5), (6, vI x6), (7, vI x7), (8, vI (σ 138 ((4 * x6) + p2).toNat)), (9, vI (σ 138 ((4 * x7) + p2).toNat))]) [2,3,4,5,6,7,8,9,1,0] rfl ?_
            exact w_X12_guess_140 X p1 p2 p3 hp1 hp2 hp3 x4 x5 x6 x7 (σ 138 ((4 * x6) + p2).toNat) (σ 138 ((4 * x7) + p2).toNat) 0 hx4 hx5 hx6 hx7 (hw5 _ _) (hw5 _ _) (r_lit rfl) hK51 (fun x4_ x5_ x7_ σ_ hx4_ hx5_ hx7_ h_ => ih x4_ x5_ x7_ σ_ hx4_ hx5_ hx7_ h_) h
          · simp only [if_pos q14] at h
            refine ok_iconst (pc := 135) dX12_guess_135 ?_
            refine ok_goto (tgt := 140) (pc := 136) dX12_guess_136 rfl ?_
            refine ok_sub (L' := [(0, .ref (xad X 122)), (1, vI p1), (2, vI p2), (3, vI p3), (4, vI x4), (5, vI x5), (6, vI x6), (7, vI x7), (8, vI (σ 138 ((4 * x6) + p2).toNat)), (9, vI (σ 138 ((4 * x7) + p2).toNat))]) [2,3,4,5,6,7,8,9,1,0] rfl ?_
            exact w_X12_guess_140 X p1 p2 p3 hp1 hp2 hp3 x4 x5 x6 x7 (σ 138 ((4 * x6) + p2).toNat) (σ 138 ((4 * x7) + p2).toNat) 1 hx4 hx5 hx6 hx7 (hw5 _ _) (hw5 _ _) (r_lit rfl) hK51 (fun x4_ x5_ x7_ σ_ hx4_ hx5_ hx7_ h_ => ih x4_ x5_ x7_ σ_ hx4_ hx5_ hx7_ h_) h
set_option maxRecDepth 100000 in
set_option maxHeartbeats 4000000 in
theorem w_X12_guess_51 (X : XE) (p1 : Int) (p2 : Int) (p3 : Int) (hp1 : inR p1) (hp2 : inR p2) (hp3 : inR p3) {Q : Int → Mem → Prop} : ∀ (n : Nat) (x4 : Int) (x5 : Int) (x6 : Int) (σ : Mem), inR x4 → inR x5 → inR x6 → l_X12_guess_51 p1 p2 p3 Q n x4 x5 x6 σ → ok X rm_X12_guess RX12 cX12_guess 11 (some .int) 1 Q 51 [(0, .ref (xad X 122)), (1, vI p1), (2, vI p2), (3, vI p3), (4, vI x4), (5, vI x5), (6, vI x6)] [] σ := by
  intro n
  induction n with
  | zero => intro x4 x5 x6 σ hx4 hx5 hx6 h; exact False.elim h
  | succ n ih =>
    intro x4 x5 x6 σ hx4 hx5 hx6 h
    refine ok_iload 6 (pc := 51) dX12_guess_51 rfl ?_
    refine ok_aload_n 0 (pc := 53) dX12_guess_53 rfl rfl ?_
    refine ok_wf (fun hw1 => ?_)
    refine ok_getI (pc := 54) dX12_guess_54 fl_X12_232 sh_122 (Nat.le_of_ble_eq_true rfl) rfl rfl ?_
    refine ok_icmp_ge (tgt := 226) (pc := 57) dX12_guess_57 rfl hx6 (hw1 _ _) (fun q2 => ?_) (fun q2 => ?_)
    · have h := iteF h q2
      refine ok_iload_n 3 (pc := 226) dX12_guess_226 rfl rfl ?_
      refine ok_iconst (pc := 227) dX12_guess_227 ?_
      refine ok_icmp_ne (tgt := 236) (pc := 228) dX12_guess_228 rfl hp3 (r_lit rfl) (fun q3 => ?_) (fun q3 => ?_)
      · have h := iteF h q3
        refine ok_iload 4 (pc := 236) dX12_guess_236 rfl ?_
        refine ok_if_ne (tgt := 246) (pc := 238) dX12_guess_238 rfl hx4 (fun q4 => ?_) (fun q4 => ?_)
        · have h := iteF h q4
          refine ok_iload 5 (pc := 246) dX12_guess_246 rfl ?_
          refine ok_i2l (pc := 248) dX12_guess_248 hx5 ?_
          refine ok_iload 4 (pc := 249) dX12_guess_249 rfl ?_
          refine ok_i2l (pc := 251) dX12_guess_251 hx4 ?_
          refine ok_iload_n 3 (pc := 252) dX12_guess_252 rfl rfl ?_
          refine ok_callSl (As := [vL x5, vL x4, vI p3]) (rest := []) (rm := rm_X12_lowest) (pc := 253) dX12_guess_253 me_X12_lowest ml_X12_286 des_X12_lowest rfl ⟨rfl, rfl, rfl, rfl⟩ rfl rfl (c_X12_lowest X x5 x4 p3 (l_of_r hx5) (l_of_r hx4) hp3 h) (fun r6 σ7 h5 h => ?_)
          refine ok_l2i (pc := 256) dX12_guess_256 ?_
          exact ok_iret (pc := 257) dX12_guess_257 rfl rfl rfl (q_rng _) h
        · have h := iteT h q4
          refine ok_bipush (pc := 241) dX12_guess_241 rfl ?_
          refine ok_goto (tgt := 257) (pc := 243) dX12_guess_243 rfl ?_
          exact ok_iret (pc := 257) dX12_guess_257 rfl rfl rfl (r_lit rfl) h
      · have h := iteT h q3
        refine ok_iload 4 (pc := 231) dX12_guess_231 rfl ?_
        refine ok_goto (tgt := 257) (pc := 233) dX12_guess_233 rfl ?_
        exact ok_iret (pc := 257) dX12_guess_257 rfl rfl rfl hx4 h
    · have h := iteT h q2
      refine ok_iconst (pc := 60) dX12_guess_60 ?_
      refine ok_istore (L' := [(7, vI 0), (0, .ref (xad X 122)), (1, vI p1), (2, vI p2), (3, vI p3), (4, vI x4), (5, vI x5), (6, vI x6)]) (pc := 61) dX12_guess_61 rfl rfl ?_
      refine ok_sub (L' := [(0, .ref (xad X 122)), (1, vI p1), (2, vI p2), (3, vI p3), (4, vI x4), (5, vI x5), (6, vI x6), (7, vI 0)]) [1,2,3,4,5,6,7,0] rfl ?_
      obtain ⟨n8, h⟩ := h
      exact w_X12_guess_63 X p1 p2 p3 hp1 hp2 hp3 x6 hx6 (fun x4_ x5_ x6_ σ_ hx4_ hx5_ hx6_ h_ => ih x4_ x5_ x6_ σ_ hx4_ hx5_ hx6_ h_) n8 x4 x5 0 σ hx4 hx5 (r_lit rfl) h
set_option maxRecDepth 100000 in
set_option maxHeartbeats 4000000 in
theorem c_X12_guess (X : XE) (p1 : Int) (p2 : Int) (p3 : Int) (hp1 : inR p1) (hp2 : inR p2) (hp3 : inR p3) {σ : Mem} {Q : Int → Mem → Prop} (h : v_X12_guess p1 p2 p3 σ Q) : CT X yX12_guess cX12_guess 11 (some .int) rm_X12_guess 1 [.ref (xad X 122), vI p1, vI p2, vI p3] σ Q := by
  refine ct_of (own := RX12) (L := [(0, .ref (xad X 122)), (1, vI p1), (2, vI p2), (3, vI p3)]) rfl rfl (Nat.le_of_ble_eq_true rfl) rfl ?_
  refine ok_iload_n 1 (pc := 0) dX12_guess_0 rfl rfl ?_
  refine ok_i2l (pc := 1) dX12_guess_1 hp1 ?_
  refine ok_lconst (v := 0) (pc := 2) dX12_guess_2 rfl ?_
  refine ok_ldc2 (pc := 3) dX12_guess_3 cn_X12_243 ?_
  refine ok_callSi (As := [vL p1, vL 0, vL 5]) (rest := []) (rm := rm_X12_in) (pc := 6) dX12_guess_6 me_X12_in ml_X12_137 des_X12_in rfl ⟨rfl, rfl, rfl, rfl⟩ rfl rfl (c_X12_in X p1 0 5 (l_of_r hp1) (l_of_r (r_lit rfl)) (l_of_r (r_lit rfl)) h) (fun r2 σ3 h1 h => ?_)
  refine ok_if_eq (tgt := 36) (pc := 9) dX12_guess_9 rfl h1 (fun q4 => ?_) (fun q4 => ?_)
  · have h := iteT h q4
    refine ok_iconst (pc := 36) dX12_guess_36 ?_
    exact ok_iret (pc := 37) dX12_guess_37 rfl rfl rfl (r_lit rfl) h
  · have h := iteF h q4
    refine ok_iload_n 2 (pc := 12) dX12_guess_12 rfl rfl ?_
    refine ok_i2l (pc := 13) dX12_guess_13 hp2 ?_
    refine ok_lconst (v := 0) (pc := 14) dX12_guess_14 rfl ?_
    refine ok_ldc2 (pc := 15) dX12_guess_15 cn_X12_269 ?_
    refine ok_callSi (As := [vL p2, vL 0, vL 3]) (rest := []) (rm := rm_X12_in) (pc := 18) dX12_guess_18 me_X12_in ml_X12_137 des_X12_in rfl ⟨rfl, rfl, rfl, rfl⟩ rfl rfl (c_X12_in X p2 0 3 (l_of_r hp2) (l_of_r (r_lit rfl)) (l_of_r (r_lit rfl)) h) (fun r6 σ7 h5 h => ?_)
    refine ok_if_eq (tgt := 36) (pc := 21) dX12_guess_21 rfl h5 (fun q8 => ?_) (fun q8 => ?_)
    · have h := iteT h q8
      refine ok_iconst (pc := 36) dX12_guess_36 ?_
      exact ok_iret (pc := 37) dX12_guess_37 rfl rfl rfl (r_lit rfl) h
    · have h := iteF h q8
      refine ok_iload_n 3 (pc := 24) dX12_guess_24 rfl rfl ?_
      refine ok_i2l (pc := 25) dX12_guess_25 hp3 ?_
      refine ok_lconst (v := 0) (pc := 26) dX12_guess_26 rfl ?_
      refine ok_ldc2 (pc := 27) dX12_guess_27 cn_X12_245 ?_
      refine ok_callSi (As := [vL p3, vL 0, vL 2]) (rest := []) (rm := rm_X12_in) (pc := 30) dX12_guess_30 me_X12_in ml_X12_137 des_X12_in rfl ⟨rfl, rfl, rfl, rfl⟩ rfl rfl (c_X12_in X p3 0 2 (l_of_r hp3) (l_of_r (r_lit rfl)) (l_of_r (r_lit rfl)) h) (fun r10 σ11 h9 h => ?_)
      refine ok_if_ne (tgt := 38) (pc := 33) dX12_guess_33 rfl h9 (fun q12 => ?_) (fun q12 => ?_)
      · have h := iteF h q12
        refine ok_aload_n 0 (pc := 38) dX12_guess_38 rfl rfl ?_
        refine ok_callVv (As := []) (rest := []) (rm := rm_X12_layMen) (pc := 39) dX12_guess_39 me_X12_layMen ml_X12_348 (ci := 12) rfl sh_122 (Nat.le_of_ble_eq_true rfl) rfl des_X12_layMen rfl ⟨rfl, rfl, rfl, rfl⟩ rfl rfl (c_X12_layMen X h) (fun σ15 h => ?_)
        refine ok_iconst (pc := 42) dX12_guess_42 ?_
        refine ok_istore (L' := [(4, vI 0), (0, .ref (xad X 122)), (1, vI p1), (2, vI p2), (3, vI p3)]) (pc := 43) dX12_guess_43 rfl rfl ?_
        refine ok_iconst (pc := 45) dX12_guess_45 ?_
        refine ok_istore (L' := [(5, vI 0), (4, vI 0), (0, .ref (xad X 122)), (1, vI p1), (2, vI p2), (3, vI p3)]) (pc := 46) dX12_guess_46 rfl rfl ?_
        refine ok_iconst (pc := 48) dX12_guess_48 ?_
        refine ok_istore (L' := [(6, vI 0), (5, vI 0), (4, vI 0), (0, .ref (xad X 122)), (1, vI p1), (2, vI p2), (3, vI p3)]) (pc := 49) dX12_guess_49 rfl rfl ?_
        refine ok_sub (L' := [(0, .ref (xad X 122)), (1, vI p1), (2, vI p2), (3, vI p3), (4, vI 0), (5, vI 0), (6, vI 0)]) [3,4,5,6,2,1,0] rfl ?_
        obtain ⟨n16, h⟩ := h
        exact w_X12_guess_51 X p1 p2 p3 hp1 hp2 hp3 n16 0 0 0 σ15 (r_lit rfl) (r_lit rfl) (r_lit rfl) h
      · have h := iteT h q12
        refine ok_iconst (pc := 36) dX12_guess_36 ?_
        exact ok_iret (pc := 37) dX12_guess_37 rfl rfl rfl (r_lit rfl) h
theorem dX12_judgeEdges_0 : decode cX12_judgeEdges 0 = .ok (.iconst 0, 1) := by decide +kernel
theorem dX12_judgeEdges_1 : decode cX12_judgeEdges 1 = .ok (.istore 4, 2) := by decide +kernel
theorem dX12_judgeEdges_3 : decode cX12_judgeEdges 3 = .ok (.iconst 0, 1) := by decide +kernel
theorem dX12_judgeEdges_4 : decode cX12_judgeEdges 4 = .ok (.istore 5, 2) := by decide +kernel
theorem dX12_judgeEdges_6 : decode cX12_judgeEdges 6 = .ok (.iconst 0, 1) := by decide +kernel
theorem dX12_judgeEdges_7 : decode cX12_judgeEdges 7 = .ok (.istore 6, 2) := by decide +kernel
theorem dX12_judgeEdges_9 : decode cX12_judgeEdges 9 = .ok (.aload_n 0, 1) := by decide +kernel
theorem dX12_judgeEdges_10 : decode cX12_judgeEdges 10 = .ok (.iconst 0, 1) := by decide +kernel
theorem dX12_judgeEdges_11 : decode cX12_judgeEdges 11 = .ok (.putfield 351, 3) := by decide +kernel
theorem dX12_judgeEdges_14 : decode cX12_judgeEdges 14 = .ok (.iconst 0, 1) := by decide +kernel
theorem dX12_judgeEdges_15 : decode cX12_judgeEdges 15 = .ok (.istore 7, 2) := by decide +kernel
theorem dX12_judgeEdges_17 : decode cX12_judgeEdges 17 = .ok (.iload 7, 2) := by decide +kernel
theorem dX12_judgeEdges_19 : decode cX12_judgeEdges 19 = .ok (.aload_n 0, 1) := by decide +kernel
theorem dX12_judgeEdges_20 : decode cX12_judgeEdges 20 = .ok (.getfield 232, 3) := by decide +kernel
theorem dX12_judgeEdges_23 : decode cX12_judgeEdges 23 = .ok (.if_icmp .ge 150, 3) := by decide +kernel
theorem dX12_judgeEdges_26 : decode cX12_judgeEdges 26 = .ok (.aload_n 0, 1) := by decide +kernel
theorem dX12_judgeEdges_27 : decode cX12_judgeEdges 27 = .ok (.getfield 55, 3) := by decide +kernel
theorem dX12_judgeEdges_30 : decode cX12_judgeEdges 30 = .ok (.iconst 4, 1) := by decide +kernel
theorem dX12_judgeEdges_31 : decode cX12_judgeEdges 31 = .ok (.iload 7, 2) := by decide +kernel
theorem dX12_judgeEdges_33 : decode cX12_judgeEdges 33 = .ok (.imul, 1) := by decide +kernel
theorem dX12_judgeEdges_34 : decode cX12_judgeEdges 34 = .ok (.iload_n 1, 1) := by decide +kernel
theorem dX12_judgeEdges_35 : decode cX12_judgeEdges 35 = .ok (.iadd, 1) := by decide +kernel
theorem dX12_judgeEdges_36 : decode cX12_judgeEdges 36 = .ok (.iaload, 1) := by decide +kernel
theorem dX12_judgeEdges_37 : decode cX12_judgeEdges 37 = .ok (.istore 8, 2) := by decide +kernel
theorem dX12_judgeEdges_39 : decode cX12_judgeEdges 39 = .ok (.aload_n 0, 1) := by decide +kernel
theorem dX12_judgeEdges_40 : decode cX12_judgeEdges 40 = .ok (.iload 7, 2) := by decide +kernel
theorem dX12_judgeEdges_42 : decode cX12_judgeEdges 42 = .ok (.invokevirtual 260, 3) := by decide +kernel
theorem dX12_judgeEdges_45 : decode cX12_judgeEdges 45 = .ok (.ifCond .ne 122, 3) := by decide +kernel
theorem dX12_judgeEdges_48 : decode cX12_judgeEdges 48 = .ok (.iload 8, 2) := by decide +kernel
theorem dX12_judgeEdges_50 : decode cX12_judgeEdges 50 = .ok (.ifCond .le 117, 3) := by decide +kernel
theorem dX12_judgeEdges_53 : decode cX12_judgeEdges 53 = .ok (.iload 4, 2) := by decide +kernel
theorem dX12_judgeEdges_55 : decode cX12_judgeEdges 55 = .ok (.iload 8, 2) := by decide +kernel
theorem dX12_judgeEdges_57 : decode cX12_judgeEdges 57 = .ok (.iload_n 2, 1) := by decide +kernel
theorem dX12_judgeEdges_58 : decode cX12_judgeEdges 58 = .ok (.if_icmp .ge 7, 3) := by decide +kernel
theorem dX12_judgeEdges_61 : decode cX12_judgeEdges 61 = .ok (.iconst 1, 1) := by decide +kernel
theorem dX12_judgeEdges_62 : decode cX12_judgeEdges 62 = .ok (.goto 4, 3) := by decide +kernel
theorem dX12_judgeEdges_65 : decode cX12_judgeEdges 65 = .ok (.iconst 0, 1) := by decide +kernel
theorem dX12_judgeEdges_66 : decode cX12_judgeEdges 66 = .ok (.iadd, 1) := by decide +kernel
theorem dX12_judgeEdges_67 : decode cX12_judgeEdges 67 = .ok (.istore 4, 2) := by decide +kernel
theorem dX12_judgeEdges_69 : decode cX12_judgeEdges 69 = .ok (.iload 6, 2) := by decide +kernel
theorem dX12_judgeEdges_71 : decode cX12_judgeEdges 71 = .ok (.iload 8, 2) := by decide +kernel
theorem dX12_judgeEdges_73 : decode cX12_judgeEdges 73 = .ok (.iload_n 3, 1) := by decide +kernel
theorem dX12_judgeEdges_74 : decode cX12_judgeEdges 74 = .ok (.if_icmp .lt 7, 3) := by decide +kernel
theorem dX12_judgeEdges_77 : decode cX12_judgeEdges 77 = .ok (.iconst 1, 1) := by decide +kernel
theorem dX12_judgeEdges_78 : decode cX12_judgeEdges 78 = .ok (.goto 4, 3) := by decide +kernel
theorem dX12_judgeEdges_81 : decode cX12_judgeEdges 81 = .ok (.iconst 0, 1) := by decide +kernel
theorem dX12_judgeEdges_82 : decode cX12_judgeEdges 82 = .ok (.iadd, 1) := by decide +kernel
theorem dX12_judgeEdges_83 : decode cX12_judgeEdges 83 = .ok (.istore 6, 2) := by decide +kernel
theorem dX12_judgeEdges_85 : decode cX12_judgeEdges 85 = .ok (.iload 5, 2) := by decide +kernel
theorem dX12_judgeEdges_87 : decode cX12_judgeEdges 87 = .ok (.iload 8, 2) := by decide +kernel
theorem dX12_judgeEdges_89 : decode cX12_judgeEdges 89 = .ok (.iload_n 2, 1) := by decide +kernel
theorem dX12_judgeEdges_90 : decode cX12_judgeEdges 90 = .ok (.if_icmp .lt 13, 3) := by decide +kernel
theorem dX12_judgeEdges_93 : decode cX12_judgeEdges 93 = .ok (.iload 8, 2) := by decide +kernel
theorem dX12_judgeEdges_95 : decode cX12_judgeEdges 95 = .ok (.iload_n 3, 1) := by decide +kernel
theorem dX12_judgeEdges_96 : decode cX12_judgeEdges 96 = .ok (.if_icmp .ge 7, 3) := by decide +kernel
theorem dX12_judgeEdges_99 : decode cX12_judgeEdges 99 = .ok (.iconst 1, 1) := by decide +kernel
theorem dX12_judgeEdges_100 : decode cX12_judgeEdges 100 = .ok (.goto 4, 3) := by decide +kernel
theorem dX12_judgeEdges_103 : decode cX12_judgeEdges 103 = .ok (.iconst 0, 1) := by decide +kernel
theorem dX12_judgeEdges_104 : decode cX12_judgeEdges 104 = .ok (.iadd, 1) := by decide +kernel
theorem dX12_judgeEdges_105 : decode cX12_judgeEdges 105 = .ok (.istore 5, 2) := by decide +kernel
theorem dX12_judgeEdges_107 : decode cX12_judgeEdges 107 = .ok (.aload_n 0, 1) := by decide +kernel
theorem dX12_judgeEdges_108 : decode cX12_judgeEdges 108 = .ok (.iload 7, 2) := by decide +kernel
theorem dX12_judgeEdges_110 : decode cX12_judgeEdges 110 = .ok (.invokevirtual 266, 3) := by decide +kernel
theorem dX12_judgeEdges_113 : decode cX12_judgeEdges 113 = .ok (.istore 9, 2) := by decide +kernel
theorem dX12_judgeEdges_115 : decode cX12_judgeEdges 115 = .ok (.aload_n 0, 1) := by decide +kernel
theorem dX12_judgeEdges_116 : decode cX12_judgeEdges 116 = .ok (.dup, 1) := by decide +kernel
theorem dX12_judgeEdges_117 : decode cX12_judgeEdges 117 = .ok (.getfield 351, 3) := by decide +kernel
theorem dX12_judgeEdges_120 : decode cX12_judgeEdges 120 = .ok (.iload 8, 2) := by decide +kernel
theorem dX12_judgeEdges_122 : decode cX12_judgeEdges 122 = .ok (.i2l, 1) := by decide +kernel
theorem dX12_judgeEdges_123 : decode cX12_judgeEdges 123 = .ok (.iload_n 2, 1) := by decide +kernel
theorem dX12_judgeEdges_124 : decode cX12_judgeEdges 124 = .ok (.iload 9, 2) := by decide +kernel
theorem dX12_judgeEdges_126 : decode cX12_judgeEdges 126 = .ok (.isub, 1) := by decide +kernel
theorem dX12_judgeEdges_127 : decode cX12_judgeEdges 127 = .ok (.i2l, 1) := by decide +kernel
theorem dX12_judgeEdges_128 : decode cX12_judgeEdges 128 = .ok (.iload_n 2, 1) := by decide +kernel
theorem dX12_judgeEdges_129 : decode cX12_judgeEdges 129 = .ok (.iload 9, 2) := by decide +kernel
theorem dX12_judgeEdges_131 : decode cX12_judgeEdges 131 = .ok (.iadd, 1) := by decide +kernel
theorem dX12_judgeEdges_132 : decode cX12_judgeEdges 132 = .ok (.i2l, 1) := by decide +kernel
theorem dX12_judgeEdges_133 : decode cX12_judgeEdges 133 = .ok (.invokestatic 137, 3) := by decide +kernel
theorem dX12_judgeEdges_136 : decode cX12_judgeEdges 136 = .ok (.ifCond .ne 22, 3) := by decide +kernel
theorem dX12_judgeEdges_139 : decode cX12_judgeEdges 139 = .ok (.iload 8, 2) := by decide +kernel
theorem dX12_judgeEdges_141 : decode cX12_judgeEdges 141 = .ok (.i2l, 1) := by decide +kernel
theorem dX12_judgeEdges_142 : decode cX12_judgeEdges 142 = .ok (.iload_n 3, 1) := by decide +kernel
theorem dX12_judgeEdges_143 : decode cX12_judgeEdges 143 = .ok (.iload 9, 2) := by decide +kernel
theorem dX12_judgeEdges_145 : decode cX12_judgeEdges 145 = .ok (.isub, 1) := by decide +kernel
theorem dX12_judgeEdges_146 : decode cX12_judgeEdges 146 = .ok (.i2l, 1) := by decide +kernel
theorem dX12_judgeEdges_147 : decode cX12_judgeEdges 147 = .ok (.iload_n 3, 1) := by decide +kernel
theorem dX12_judgeEdges_148 : decode cX12_judgeEdges 148 = .ok (.iload 9, 2) := by decide +kernel
theorem dX12_judgeEdges_150 : decode cX12_judgeEdges 150 = .ok (.iadd, 1) := by decide +kernel
theorem dX12_judgeEdges_151 : decode cX12_judgeEdges 151 = .ok (.i2l, 1) := by decide +kernel
theorem dX12_judgeEdges_152 : decode cX12_judgeEdges 152 = .ok (.invokestatic 137, 3) := by decide +kernel
theorem dX12_judgeEdges_155 : decode cX12_judgeEdges 155 = .ok (.ifCond .eq 7, 3) := by decide +kernel
theorem dX12_judgeEdges_158 : decode cX12_judgeEdges 158 = .ok (.iconst 1, 1) := by decide +kernel
theorem dX12_judgeEdges_159 : decode cX12_judgeEdges 159 = .ok (.goto 4, 3) := by decide +kernel
theorem dX12_judgeEdges_162 : decode cX12_judgeEdges 162 = .ok (.iconst 0, 1) := by decide +kernel
theorem dX12_judgeEdges_163 : decode cX12_judgeEdges 163 = .ok (.iadd, 1) := by decide +kernel
theorem dX12_judgeEdges_164 : decode cX12_judgeEdges 164 = .ok (.putfield 351, 3) := by decide +kernel
theorem dX12_judgeEdges_167 : decode cX12_judgeEdges 167 = .ok (.iinc 7 1, 3) := by decide +kernel
theorem dX12_judgeEdges_170 : decode cX12_judgeEdges 170 = .ok (.goto (-153), 3) := by decide +kernel
theorem dX12_judgeEdges_173 : decode cX12_judgeEdges 173 = .ok (.aload_n 0, 1) := by decide +kernel
theorem dX12_judgeEdges_174 : decode cX12_judgeEdges 174 = .ok (.iload 4, 2) := by decide +kernel
theorem dX12_judgeEdges_176 : decode cX12_judgeEdges 176 = .ok (.iload 5, 2) := by decide +kernel
theorem dX12_judgeEdges_178 : decode cX12_judgeEdges 178 = .ok (.iadd, 1) := by decide +kernel
theorem dX12_judgeEdges_179 : decode cX12_judgeEdges 179 = .ok (.iload 6, 2) := by decide +kernel
theorem dX12_judgeEdges_181 : decode cX12_judgeEdges 181 = .ok (.iadd, 1) := by decide +kernel
theorem dX12_judgeEdges_182 : decode cX12_judgeEdges 182 = .ok (.putfield 354, 3) := by decide +kernel
theorem dX12_judgeEdges_185 : decode cX12_judgeEdges 185 = .ok (.iload 4, 2) := by decide +kernel
theorem dX12_judgeEdges_187 : decode cX12_judgeEdges 187 = .ok (.iload 5, 2) := by decide +kernel
theorem dX12_judgeEdges_189 : decode cX12_judgeEdges 189 = .ok (.if_icmp .le 8, 3) := by decide +kernel
theorem dX12_judgeEdges_192 : decode cX12_judgeEdges 192 = .ok (.iload 4, 2) := by decide +kernel
theorem dX12_judgeEdges_194 : decode cX12_judgeEdges 194 = .ok (.goto 5, 3) := by decide +kernel
theorem dX12_judgeEdges_197 : decode cX12_judgeEdges 197 = .ok (.iload 5, 2) := by decide +kernel
theorem dX12_judgeEdges_199 : decode cX12_judgeEdges 199 = .ok (.istore 7, 2) := by decide +kernel
theorem dX12_judgeEdges_201 : decode cX12_judgeEdges 201 = .ok (.iload 4, 2) := by decide +kernel
theorem dX12_judgeEdges_203 : decode cX12_judgeEdges 203 = .ok (.iload 5, 2) := by decide +kernel
theorem dX12_judgeEdges_205 : decode cX12_judgeEdges 205 = .ok (.if_icmp .ge 8, 3) := by decide +kernel
theorem dX12_judgeEdges_208 : decode cX12_judgeEdges 208 = .ok (.iload 4, 2) := by decide +kernel
theorem dX12_judgeEdges_210 : decode cX12_judgeEdges 210 = .ok (.goto 5, 3) := by decide +kernel
theorem dX12_judgeEdges_213 : decode cX12_judgeEdges 213 = .ok (.iload 5, 2) := by decide +kernel
theorem dX12_judgeEdges_215 : decode cX12_judgeEdges 215 = .ok (.istore 8, 2) := by decide +kernel
theorem dX12_judgeEdges_217 : decode cX12_judgeEdges 217 = .ok (.aload_n 0, 1) := by decide +kernel
theorem dX12_judgeEdges_218 : decode cX12_judgeEdges 218 = .ok (.iload 7, 2) := by decide +kernel
theorem dX12_judgeEdges_220 : decode cX12_judgeEdges 220 = .ok (.iload 6, 2) := by decide +kernel
theorem dX12_judgeEdges_222 : decode cX12_judgeEdges 222 = .ok (.if_icmp .le 8, 3) := by decide +kernel
theorem dX12_judgeEdges_225 : decode cX12_judgeEdges 225 = .ok (.iload 7, 2) := by decide +kernel
theorem dX12_judgeEdges_227 : decode cX12_judgeEdges 227 = .ok (.goto 5, 3) := by decide +kernel
theorem dX12_judgeEdges_230 : decode cX12_judgeEdges 230 = .ok (.iload 6, 2) := by decide +kernel
theorem dX12_judgeEdges_232 : decode cX12_judgeEdges 232 = .ok (.iload 8, 2) := by decide +kernel
theorem dX12_judgeEdges_234 : decode cX12_judgeEdges 234 = .ok (.iload 6, 2) := by decide +kernel
theorem dX12_judgeEdges_236 : decode cX12_judgeEdges 236 = .ok (.if_icmp .ge 8, 3) := by decide +kernel
theorem dX12_judgeEdges_239 : decode cX12_judgeEdges 239 = .ok (.iload 8, 2) := by decide +kernel
theorem dX12_judgeEdges_241 : decode cX12_judgeEdges 241 = .ok (.goto 5, 3) := by decide +kernel
theorem dX12_judgeEdges_244 : decode cX12_judgeEdges 244 = .ok (.iload 6, 2) := by decide +kernel
theorem dX12_judgeEdges_246 : decode cX12_judgeEdges 246 = .ok (.isub, 1) := by decide +kernel
theorem dX12_judgeEdges_247 : decode cX12_judgeEdges 247 = .ok (.putfield 357, 3) := by decide +kernel
theorem dX12_judgeEdges_250 : decode cX12_judgeEdges 250 = .ok (.return_, 1) := by decide +kernel
set_option maxRecDepth 100000 in
set_option maxHeartbeats 4000000 in
theorem w_X12_judgeEdges_232 (X : XE) (p1 : Int) (p2 : Int) (p3 : Int) (hp1 : inR p1) (hp2 : inR p2) (hp3 : inR p3) (x6 : Int) (x8 : Int) (s0 : Int) (hx6 : inR x6) (hx8 : inR x8) (hs0 : inR s0) {Q : Int → Mem → Prop} {σ : Mem} (h : j_X12_judgeEdges_232 p1 p2 p3 Q x6 x8 s0 σ) : ok X rm_X12_judgeEdges RX12 cX12_judgeEdges 10 none 0 Q 232 [(6, vI x6), (8, vI x8)] [vI s0, .ref (xad X 122)] σ := by
  refine ok_iload 1 (pc := 232) dX12_judgeEdges_232 rfl ?_
  refine ok_iload 0 (pc := 234) dX12_judgeEdges_234 rfl ?_
  refine ok_icmp_ge (tgt := 244) (pc := 236) dX12_judgeEdges_236 rfl hx8 hx6 (fun q1 => ?_) (fun q1 => ?_)
  · have h := iteF h q1
    refine ok_iload 0 (pc := 244) dX12_judgeEdges_244 rfl ?_
    refine ok_isub (pc := 246) dX12_judgeEdges_246 ?_
    obtain ⟨h2, h⟩ := h
    refine ok_putI (pc := 247) dX12_judgeEdges_247 fl_X12_357 fp_X12_50 sh_122 (Nat.le_of_ble_eq_true rfl) rfl rfl h2 rfl rfl ?_
    exact ok_vret (pc := 250) dX12_judgeEdges_250 rfl rfl h
  · have h := iteT h q1
    refine ok_iload 1 (pc := 239) dX12_judgeEdges_239 rfl ?_
    refine ok_goto (tgt := 246) (pc := 241) dX12_judgeEdges_241 rfl ?_
    refine ok_isub (pc := 246) dX12_judgeEdges_246 ?_
    obtain ⟨h3, h⟩ := h
    refine ok_putI (pc := 247) dX12_judgeEdges_247 fl_X12_357 fp_X12_50 sh_122 (Nat.le_of_ble_eq_true rfl) rfl rfl h3 rfl rfl ?_
    exact ok_vret (pc := 250) dX12_judgeEdges_250 rfl rfl h
set_option maxRecDepth 100000 in
set_option maxHeartbeats 4000000 in
theorem w_X12_judgeEdges_215 (X : XE) (p1 : Int) (p2 : Int) (p3 : Int) (hp1 : inR p1) (hp2 : inR p2) (hp3 : inR p3) (x6 : Int) (x7 : Int) (s0 : Int) (hx6 : inR x6) (hx7 : inR x7) (hs0 : inR s0) {Q : Int → Mem → Prop} {σ : Mem} (h : j_X12_judgeEdges_215 p1 p2 p3 Q x6 x7 s0 σ) : ok X rm_X12_judgeEdges RX12 cX12_judgeEdges 10 none 0 Q 215 [(0, .ref (xad X 122)), (6, vI x6), (7, vI x7)] [vI s0] σ := by
  unfold j_X12_judgeEdges_215 at h
  refine ok_istore (L' := [(8, vI s0), (0, .ref (xad X 122)), (6, vI x6), (7, vI x7)]) (pc := 215) dX12_judgeEdges_215 rfl rfl ?_
  refine ok_aload_n 1 (pc := 217) dX12_judgeEdges_217 rfl rfl ?_
  refine ok_iload 3 (pc := 218) dX12_judgeEdges_218 rfl ?_
  refine ok_iload 2 (pc := 220) dX12_judgeEdges_220 rfl ?_
  refine ok_icmp_le (tgt := 230) (pc := 222) dX12_judgeEdges_222 rfl hx7 hx6 (fun q1 => ?_) (fun q1 => ?_)
  · simp only [if_neg q1] at h
    refine ok_iload 2 (pc := 230) dX12_judgeEdges_230 rfl ?_
    refine ok_sub (L' := [(6, vI x6), (8, vI s0)]) [2,0] rfl ?_
    exact w_X12_judgeEdges_232 X p1 p2 p3 hp1 hp2 hp3 x6 s0 x6 hx6 hs0 hx6 h
  · simp only [if_pos q1] at h
    refine ok_iload 3 (pc := 225) dX12_judgeEdges_225 rfl ?_
    refine ok_goto (tgt := 232) (pc := 227) dX12_judgeEdges_227 rfl ?_
    refine ok_sub (L' := [(6, vI x6), (8, vI s0)]) [2,0] rfl ?_
    exact w_X12_judgeEdges_232 X p1 p2 p3 hp1 hp2 hp3 x6 s0 x7 hx6 hs0 hx7 h
set_option maxRecDepth 100000 in
set_option maxHeartbeats 4000000 in
theorem w_X12_judgeEdges_199 (X : XE) (p1 : Int) (p2 : Int) (p3 : Int) (hp1 : inR p1) (hp2 : inR p2) (hp3 : inR p3) (x4 : Int) (x5 : Int) (x6 : Int) (s0 : Int) (hx4 : inR x4) (hx5 : inR x5) (hx6 : inR x6) (hs0 : inR s0) {Q : Int → Mem → Prop} {σ : Mem} (h : j_X12_judgeEdges_199 p1 p2 p3 Q x4 x5 x6 s0 σ) : ok X rm_X12_judgeEdges RX12 cX12_judgeEdges 10 none 0 Q 199 [(0, .ref (xad X 122)), (4, vI x4), (5, vI x5), (6, vI x6)] [vI s0] σ := by
  unfold j_X12_judgeEdges_199 at h
  refine ok_istore (L' := [(7, vI s0), (0, .ref (xad X 122)), (4, vI x4), (5, vI x5), (6, vI x6)]) (pc := 199) dX12_judgeEdges_199 rfl rfl ?_
  refine ok_iload 2 (pc := 201) dX12_judgeEdges_201 rfl ?_
  refine ok_iload 3 (pc := 203) dX12_judgeEdges_203 rfl ?_
  refine ok_icmp_ge (tgt := 213) (pc := 205) dX12_judgeEdges_205 rfl hx4 hx5 (fun q1 => ?_) (fun q1 => ?_)
  · simp only [if_neg q1] at h
    refine ok_iload 3 (pc := 213) dX12_judgeEdges_213 rfl ?_
    refine ok_sub (L' := [(0, .ref (xad X 122)), (6, vI x6), (7, vI s0)]) [1,4,0] rfl ?_
    exact w_X12_judgeEdges_215 X p1 p2 p3 hp1 hp2 hp3 x6 s0 x5 hx6 hs0 hx5 h
  · simp only [if_pos q1] at h
    refine ok_iload 2 (pc := 208) dX12_judgeEdges_208 rfl ?_
    refine ok_goto (tgt := 215) (pc := 210) dX12_judgeEdges_210 rfl ?_
    refine ok_sub (L' := [(0, .ref (xad X 122)), (6, vI x6), (7, vI s0)]) [1,4,0] rfl ?_
    exact w_X12_judgeEdges_215 X p1 p2 p3 hp1 hp2 hp3 x6 s0 x4 hx6 hs0 hx4 h
set_option maxRecDepth 100000 in
set_option maxHeartbeats 4000000 in
theorem w_X12_judgeEdges_158 (X : XE) (p1 : Int) (p2 : Int) (p3 : Int) (hp1 : inR p1) (hp2 : inR p2) (hp3 : inR p3) (x4 : Int) (x5 : Int) (x6 : Int) (x7 : Int) (s0 : Int) (hx4 : inR x4) (hx5 : inR x5) (hx6 : inR x6) (hx7 : inR x7) (hs0 : inR s0) {K17 : Int → Int → Int → Int → Mem → Prop} {Q : Int → Mem → Prop} (hK17 : ∀ (x4 : Int) (x5 : Int) (x6 : Int) (x7 : Int) (σ : Mem), inR x4 → inR x5 → inR x6 → inR x7 → K17 x4 x5 x6 x7 σ → ok X rm_X12_judgeEdges RX12 cX12_judgeEdges 10 none 0 Q 17 [(0, .ref (xad X 122)), (1, vI p1), (2, vI p2), (3, vI p3), (4, vI x4), (5, vI x5), (6, vI x6), (7, vI x7)] [] σ) {σ : Mem} (h : j_X12_judgeEdges_158 p1 p2 p3 K17 Q x4 x5 x6 x7 s0 σ) : ok X rm_X12_judgeEdges RX12 cX12_judgeEdges 10 none 0 Q 158 [(0, .ref (xad X 122)), (1, vI p1), (2, vI p2), (3, vI p3), (4, vI x4), (5, vI x5), (6, vI x6), (7, vI x7)] [vI s0, .ref (xad X 122)] σ := by
  refine ok_iconst (pc := 158) dX12_judgeEdges_158 ?_
  refine ok_goto (tgt := 163) (pc := 159) dX12_judgeEdges_159 rfl ?_
  refine ok_iadd (pc := 163) dX12_judgeEdges_163 ?_
  obtain ⟨h1, h⟩ := h
  refine ok_putI (pc := 164) dX12_judgeEdges_164 fl_X12_351 fp_X12_51 sh_122 (Nat.le_of_ble_eq_true rfl) rfl rfl h1 rfl rfl ?_
  refine ok_iinc (L' := [(7, vI (x7 + 1)), (0, .ref (xad X 122)), (1, vI p1), (2, vI p2), (3, vI p3), (4, vI x4), (5, vI x5), (6, vI x6)]) 7 (pc := 167) dX12_judgeEdges_167 rfl rfl rfl ?_
  refine ok_goto (tgt := 17) (pc := 170) dX12_judgeEdges_170 rfl ?_
  obtain ⟨h2, h⟩ := h
  refine ok_sub (L' := [(0, .ref (xad X 122)), (1, vI p1), (2, vI p2), (3, vI p3), (4, vI x4), (5, vI x5), (6, vI x6), (7, vI (x7 + 1))]) [1,2,3,4,5,6,7,0] rfl ?_
  exact hK17 x4 x5 x6 (x7 + 1) (mset σ 122 51 (s0 + 1)) hx4 hx5 hx6 h2 h
set_option maxRecDepth 100000 in
set_option maxHeartbeats 4000000 in
theorem w_X12_judgeEdges_104 (X : XE) (p1 : Int) (p2 : Int) (p3 : Int) (hp1 : inR p1) (hp2 : inR p2) (hp3 : inR p3) (x4 : Int) (x6 : Int) (x7 : Int) (x8 : Int) (s0 : Int) (s1 : Int) (hx4 : inR x4) (hx6 : inR x6) (hx7 : inR x7) (hx8 : inR x8) (hs0 : inR s0) (hs1 : inR s1) {K17 : Int → Int → Int → Int → Mem → Prop} {Q : Int → Mem → Prop} (hK17 : ∀ (x4 : Int) (x5 : Int) (x6 : Int) (x7 : Int) (σ : Mem), inR x4 → inR x5 → inR x6 → inR x7 → K17 x4 x5 x6 x7 σ → ok X rm_X12_judgeEdges RX12 cX12_judgeEdges 10 none 0 Q 17 [(0, .ref (xad X 122)), (1, vI p1), (2, vI p2), (3, vI p3), (4, vI x4), (5, vI x5), (6, vI x6), (7, vI x7)] [] σ) {σ : Mem} (h : j_X12_judgeEdges_104 p1 p2 p3 K17 Q x4 x6 x7 x8 s0 s1 σ) : ok X rm_X12_judgeEdges RX12 cX12_judgeEdges 10 none 0 Q 104 [(0, .ref (xad X 122)), (1, vI p1), (2, vI p2), (3, vI p3), (4, vI x4), (6, vI x6), (7, vI x7), (8, vI x8)] [vI s0, vI s1] σ := by
  refine ok_iadd (pc := 104) dX12_judgeEdges_104 ?_
  refine ok_istore (L' := [(5, vI (s1 + s0)), (0, .ref (xad X 122)), (1, vI p1), (2, vI p2), (3, vI p3), (4, vI x4), (6, vI x6), (7, vI x7), (8, vI x8)]) (pc := 105) dX12_judgeEdges_105 rfl rfl ?_
  refine ok_aload_n 1 (pc := 107) dX12_judgeEdges_107 rfl rfl ?_
  refine ok_iload 7 (pc := 108) dX12_judgeEdges_108 rfl ?_
  refine ok_callVi (As := [vI x7]) (rest := []) (rm := rm_X12_spreadAt) (pc := 110) dX12_judgeEdges_110 me_X12_spreadAt ml_X12_266 (ci := 12) rfl sh_122 (Nat.le_of_ble_eq_true rfl) rfl des_X12_spreadAt rfl ⟨rfl, rfl, rfl, rfl⟩ rfl rfl (c_X12_spreadAt X x7 hx7 h) (fun r2 σ3 h1 h => ?_)
  refine ok_istore (L' := [(9, vI r2), (5, vI (s1 + s0)), (0, .ref (xad X 122)), (1, vI p1), (2, vI p2), (3, vI p3), (4, vI x4), (6, vI x6), (7, vI x7), (8, vI x8)]) (pc := 113) dX12_judgeEdges_113 rfl rfl ?_
  refine ok_aload_n 2 (pc := 115) dX12_judgeEdges_115 rfl rfl ?_
  refine ok_dup (pc := 116) dX12_judgeEdges_116 rfl ?_
  refine ok_wf (fun hw4 => ?_)
  refine ok_getI (pc := 117) dX12_judgeEdges_117 fl_X12_351 sh_122 (Nat.le_of_ble_eq_true rfl) rfl rfl ?_
  refine ok_iload 9 (pc := 120) dX12_judgeEdges_120 rfl ?_
  refine ok_i2l (pc := 122) dX12_judgeEdges_122 hx8 ?_
  refine ok_iload_n 4 (pc := 123) dX12_judgeEdges_123 rfl rfl ?_
  refine ok_iload 0 (pc := 124) dX12_judgeEdges_124 rfl ?_
  refine ok_isub (pc := 126) dX12_judgeEdges_126 ?_
  obtain ⟨h5, h⟩ := h
  refine ok_i2l (pc := 127) dX12_judgeEdges_127 h5 ?_
  refine ok_iload_n 4 (pc := 128) dX12_judgeEdges_128 rfl rfl ?_
  refine ok_iload 0 (pc := 129) dX12_judgeEdges_129 rfl ?_
  refine ok_iadd (pc := 131) dX12_judgeEdges_131 ?_
  obtain ⟨h6, h⟩ := h
  refine ok_i2l (pc := 132) dX12_judgeEdges_132 h6 ?_
  refine ok_callSi (As := [vL x8, vL (p2 - r2), vL (p2 + r2)]) (rest := [vI (σ3 122 51), .ref (xad X 122)]) (rm := rm_X12_in) (pc := 133) dX12_judgeEdges_133 me_X12_in ml_X12_137 des_X12_in rfl ⟨rfl, rfl, rfl, rfl⟩ rfl rfl (c_X12_in X x8 (p2 - r2) (p2 + r2) (l_of_r hx8) (l_of_r h5) (l_of_r h6) h) (fun r8 σ9 h7 h => ?_)
  refine ok_if_ne (tgt := 158) (pc := 136) dX12_judgeEdges_136 rfl h7 (fun q10 => ?_) (fun q10 => ?_)
  · have h := iteF h q10
    obtain ⟨h11, h⟩ := h
    refine ok_sub (L' := [(0, .ref (xad X 122)), (1, vI p1), (2, vI p2), (3, vI p3), (4, vI x4), (5, vI (s1 + s0)), (6, vI x6), (7, vI x7)]) [2,3,4,5,6,1,7,8] rfl ?_
    exact w_X12_judgeEdges_158 X p1 p2 p3 hp1 hp2 hp3 x4 (s1 + s0) x6 x7 (σ3 122 51) hx4 h11 hx6 hx7 (hw4 _ _) hK17 h
  · have h := iteT h q10
    refine ok_iload 9 (pc := 139) dX12_judgeEdges_139 rfl ?_
    refine ok_i2l (pc := 141) dX12_judgeEdges_141 hx8 ?_
    refine ok_iload_n 5 (pc := 142) dX12_judgeEdges_142 rfl rfl ?_
    refine ok_iload 0 (pc := 143) dX12_judgeEdges_143 rfl ?_
    refine ok_isub (pc := 145) dX12_judgeEdges_145 ?_
    obtain ⟨h12, h⟩ := h
    refine ok_i2l (pc := 146) dX12_judgeEdges_146 h12 ?_
    refine ok_iload_n 5 (pc := 147) dX12_judgeEdges_147 rfl rfl ?_
    refine ok_iload 0 (pc := 148) dX12_judgeEdges_148 rfl ?_
    refine ok_iadd (pc := 150) dX12_judgeEdges_150 ?_
    obtain ⟨h13, h⟩ := h
    refine ok_i2l (pc := 151) dX12_judgeEdges_151 h13 ?_
    refine ok_callSi (As := [vL x8, vL (p3 - r2), vL (p3 + r2)]) (rest := [vI (σ3 122 51), .ref (xad X 122)]) (rm := rm_X12_in) (pc := 152) dX12_judgeEdges_152 me_X12_in ml_X12_137 des_X12_in rfl ⟨rfl, rfl, rfl, rfl⟩ rfl rfl (c_X12_in X x8 (p3 - r2) (p3 + r2) (l_of_r hx8) (l_of_r h12) (l_of_r h13) h) (fun r15 σ16 h14 h => ?_)
    refine ok_if_eq (tgt := 162) (pc := 155) dX12_judgeEdges_155 rfl h14 (fun q17 => ?_) (fun q17 => ?_)
    · have h := iteT h q17
      refine ok_iconst (pc := 162) dX12_judgeEdges_162 ?_
      refine ok_iadd (pc := 163) dX12_judgeEdges_163 ?_
      obtain ⟨h18, h⟩ := h
      refine ok_putI (pc := 164) dX12_judgeEdges_164 fl_X12_351 fp_X12_51 sh_122 (Nat.le_of_ble_eq_true rfl) rfl rfl h18 rfl rfl ?_
      refine ok_iinc (L' := [(7, vI (x7 + 1)), (9, vI r2), (5, vI (s1 + s0)), (0, .ref (xad X 122)), (1, vI p1), (2, vI p2), (3, vI p3), (4, vI x4), (6, vI x6), (8, vI x8)]) 8 (pc := 167) dX12_judgeEdges_167 rfl rfl rfl ?_
      refine ok_goto (tgt := 17) (pc := 170) dX12_judgeEdges_170 rfl ?_
      obtain ⟨h19, h⟩ := h
      obtain ⟨h20, h⟩ := h
      refine ok_sub (L' := [(0, .ref (xad X 122)), (1, vI p1), (2, vI p2), (3, vI p3), (4, vI x4), (5, vI (s1 + s0)), (6, vI x6), (7, vI (x7 + 1))]) [3,4,5,6,7,2,8,0] rfl ?_
      exact hK17 x4 (s1 + s0) x6 (x7 + 1) (mset σ16 122 51 ((σ3 122 51) + 0)) hx4 h19 hx6 h20 h
    · have h := iteF h q17
      obtain ⟨h21, h⟩ := h
      refine ok_sub (L' := [(0, .ref (xad X 122)), (1, vI p1), (2, vI p2), (3, vI p3), (4, vI x4), (5, vI (s1 + s0)), (6, vI x6), (7, vI x7)]) [2,3,4,5,6,1,7,8] rfl ?_
      exact w_X12_judgeEdges_158 X p1 p2 p3 hp1 hp2 hp3 x4 (s1 + s0) x6 x7 (σ3 122 51) hx4 h21 hx6 hx7 (hw4 _ _) hK17 h
set_option maxRecDepth 100000 in
set_option maxHeartbeats 4000000 in
theorem w_X12_judgeEdges_82 (X : XE) (p1 : Int) (p2 : Int) (p3 : Int) (hp1 : inR p1) (hp2 : inR p2) (hp3 : inR p3) (x4 : Int) (x5 : Int) (x7 : Int) (x8 : Int) (s0 : Int) (s1 : Int) (hx4 : inR x4) (hx5 : inR x5) (hx7 : inR x7) (hx8 : inR x8) (hs0 : inR s0) (hs1 : inR s1) {K17 : Int → Int → Int → Int → Mem → Prop} {Q : Int → Mem → Prop} (hK17 : ∀ (x4 : Int) (x5 : Int) (x6 : Int) (x7 : Int) (σ : Mem), inR x4 → inR x5 → inR x6 → inR x7 → K17 x4 x5 x6 x7 σ → ok X rm_X12_judgeEdges RX12 cX12_judgeEdges 10 none 0 Q 17 [(0, .ref (xad X 122)), (1, vI p1), (2, vI p2), (3, vI p3), (4, vI x4), (5, vI x5), (6, vI x6), (7, vI x7)] [] σ) {σ : Mem} (h : j_X12_judgeEdges_82 p1 p2 p3 K17 Q x4 x5 x7 x8 s0 s1 σ) : ok X rm_X12_judgeEdges RX12 cX12_judgeEdges 10 none 0 Q 82 [(0, .ref (xad X 122)), (1, vI p1), (2, vI p2), (3, vI p3), (4, vI x4), (5, vI x5), (7, vI x7), (8, vI x8)] [vI s0, vI s1] σ := by
  refine ok_iadd (pc := 82) dX12_judgeEdges_82 ?_
  refine ok_istore (L' := [(6, vI (s1 + s0)), (0, .ref (xad X 122)), (1, vI p1), (2, vI p2), (3, vI p3), (4, vI x4), (5, vI x5), (7, vI x7), (8, vI x8)]) (pc := 83) dX12_judgeEdges_83 rfl rfl ?_
  refine ok_iload 6 (pc := 85) dX12_judgeEdges_85 rfl ?_
  refine ok_iload 8 (pc := 87) dX12_judgeEdges_87 rfl ?_
  refine ok_iload_n 3 (pc := 89) dX12_judgeEdges_89 rfl rfl ?_
  refine ok_icmp_lt (tgt := 103) (pc := 90) dX12_judgeEdges_90 rfl hx8 hp2 (fun q1 => ?_) (fun q1 => ?_)
  · have h := iteT h q1
    refine ok_iconst (pc := 103) dX12_judgeEdges_103 ?_
    obtain ⟨h2, h⟩ := h
    refine ok_sub (L' := [(0, .ref (xad X 122)), (1, vI p1), (2, vI p2), (3, vI p3), (4, vI x4), (6, vI (s1 + s0)), (7, vI x7), (8, vI x8)]) [1,2,3,4,5,0,7,8] rfl ?_
    exact w_X12_judgeEdges_104 X p1 p2 p3 hp1 hp2 hp3 x4 (s1 + s0) x7 x8 0 x5 hx4 h2 hx7 hx8 (r_lit rfl) hx5 hK17 h
  · have h := iteF h q1
    refine ok_iload 8 (pc := 93) dX12_judgeEdges_93 rfl ?_
    refine ok_iload_n 4 (pc := 95) dX12_judgeEdges_95 rfl rfl ?_
    refine ok_icmp_ge (tgt := 103) (pc := 96) dX12_judgeEdges_96 rfl hx8 hp3 (fun q3 => ?_) (fun q3 => ?_)
    · have h := iteF h q3
      refine ok_iconst (pc := 103) dX12_judgeEdges_103 ?_
      obtain ⟨h4, h⟩ := h
      refine ok_sub (L' := [(0, .ref (xad X 122)), (1, vI p1), (2, vI p2), (3, vI p3), (4, vI x4), (6, vI (s1 + s0)), (7, vI x7), (8, vI x8)]) [1,2,3,4,5,0,7,8] rfl ?_
      exact w_X12_judgeEdges_104 X p1 p2 p3 hp1 hp2 hp3 x4 (s1 + s0) x7 x8 0 x5 hx4 h4 hx7 hx8 (r_lit rfl) hx5 hK17 h
    · have h := iteT h q3
      refine ok_iconst (pc := 99) dX12_judgeEdges_99 ?_
      refine ok_goto (tgt := 104) (pc := 100) dX12_judgeEdges_100 rfl ?_
      obtain ⟨h5, h⟩ := h
      refine ok_sub (L' := [(0, .ref (xad X 122)), (1, vI p1), (2, vI p2), (3, vI p3), (4, vI x4), (6, vI (s1 + s0)), (7, vI x7), (8, vI x8)]) [1,2,3,4,5,0,7,8] rfl ?_
      exact w_X12_judgeEdges_104 X p1 p2 p3 hp1 hp2 hp3 x4 (s1 + s0) x7 x8 1 x5 hx4 h5 hx7 hx8 (r_lit rfl) hx5 hK17 h
set_option maxRecDepth 100000 in
set_option maxHeartbeats 4000000 in
theorem w_X12_judgeEdges_66 (X : XE) (p1 : Int) (p2 : Int) (p3 : Int) (hp1 : inR p1) (hp2 : inR p2) (hp3 : inR p3) (x5 : Int) (x6 : Int) (x7 : Int) (x8 : Int) (s0 : Int) (s1 : Int) (hx5 : inR x5) (hx6 : inR x6) (hx7 : inR x7) (hx8 : inR x8) (hs0 : inR s0) (hs1 : inR s1) {K17 : Int → Int → Int → Int → Mem → Prop} {Q : Int → Mem → Prop} (hK17 : ∀ (x4 : Int) (x5 : Int) (x6 : Int) (x7 : Int) (σ : Mem), inR x4 → inR x5 → inR x6 → inR x7 → K17 x4 x5 x6 x7 σ → ok X rm_X12_judgeEdges RX12 cX12_judgeEdges 10 none 0 Q 17 [(0, .ref (xad X 122)), (1, vI p1), (2, vI p2), (3, vI p3), (4, vI x4), (5, vI x5), (6, vI x6), (7, vI x7)] [] σ) {σ : Mem} (h : j_X12_judgeEdges_66 p1 p2 p3 K17 Q x5 x6 x7 x8 s0 s1 σ) : ok X rm_X12_judgeEdges RX12 cX12_judgeEdges 10 none 0 Q 66 [(0, .ref (xad X 122)), (1, vI p1), (2, vI p2), (3, vI p3), (5, vI x5), (6, vI x6), (7, vI x7), (8, vI x8)] [vI s0, vI s1] σ := by
  refine ok_iadd (pc := 66) dX12_judgeEdges_66 ?_
  refine ok_istore (L' := [(4, vI (s1 + s0)), (0, .ref (xad X 122)), (1, vI p1), (2, vI p2), (3, vI p3), (5, vI x5), (6, vI x6), (7, vI x7), (8, vI x8)]) (pc := 67) dX12_judgeEdges_67 rfl rfl ?_
  refine ok_iload 6 (pc := 69) dX12_judgeEdges_69 rfl ?_
  refine ok_iload 8 (pc := 71) dX12_judgeEdges_71 rfl ?_
  refine ok_iload_n 4 (pc := 73) dX12_judgeEdges_73 rfl rfl ?_
  refine ok_icmp_lt (tgt := 81) (pc := 74) dX12_judgeEdges_74 rfl hx8 hp3 (fun q1 => ?_) (fun q1 => ?_)
  · have h := iteT h q1
    refine ok_iconst (pc := 81) dX12_judgeEdges_81 ?_
    obtain ⟨h2, h⟩ := h
    refine ok_sub (L' := [(0, .ref (xad X 122)), (1, vI p1), (2, vI p2), (3, vI p3), (4, vI (s1 + s0)), (5, vI x5), (7, vI x7), (8, vI x8)]) [1,2,3,4,0,5,7,8] rfl ?_
    exact w_X12_judgeEdges_82 X p1 p2 p3 hp1 hp2 hp3 (s1 + s0) x5 x7 x8 0 x6 h2 hx5 hx7 hx8 (r_lit rfl) hx6 hK17 h
  · have h := iteF h q1
    refine ok_iconst (pc := 77) dX12_judgeEdges_77 ?_
    refine ok_goto (tgt := 82) (pc := 78) dX12_judgeEdges_78 rfl ?_
    obtain ⟨h3, h⟩ := h
    refine ok_sub (L' := [(0, .ref (xad X 122)), (1, vI p1), (2, vI p2), (3, vI p3), (4, vI (s1 + s0)), (5, vI x5), (7, vI x7), (8, vI x8)]) [1,2,3,4,0,5,7,8] rfl ?_
    exact w_X12_judgeEdges_82 X p1 p2 p3 hp1 hp2 hp3 (s1 + s0) x5 x7 x8 1 x6 h3 hx5 hx7 hx8 (r_lit rfl) hx6 hK17 h
set_option maxRecDepth 100000 in
set_option maxHeartbeats 4000000 in
theorem w_X12_judgeEdges_17 (X : XE) (p1 : Int) (p2 : Int) (p3 : Int) (hp1 : inR p1) (hp2 : inR p2) (hp3 : inR p3) {Q : Int → Mem → Prop} : ∀ (n : Nat) (x4 : Int) (x5 : Int) (x6 : Int) (x7 : Int) (σ : Mem), inR x4 → inR x5 → inR x6 → inR x7 → l_X12_judgeEdges_17 p1 p2 p3 Q n x4 x5 x6 x7 σ → ok X rm_X12_judgeEdges RX12 cX12_judgeEdges 10 none 0 Q 17 [(0, .ref (xad X 122)), (1, vI p1), (2, vI p2), (3, vI p3), (4, vI x4), (5, vI x5), (6, vI x6), (7, vI x7)] [] σ := by
  intro n
  induction n with
  | zero => intro x4 x5 x6 x7 σ hx4 hx5 hx6 hx7 h; exact False.elim h
  | succ n ih =>
    intro x4 x5 x6 x7 σ hx4 hx5 hx6 hx7 h
    refine ok_iload 7 (pc := 17) dX12_judgeEdges_17 rfl ?_
    refine ok_aload_n 0 (pc := 19) dX12_judgeEdges_19 rfl rfl ?_
    refine ok_wf (fun hw1 => ?_)
    refine ok_getI (pc := 20) dX12_judgeEdges_20 fl_X12_232 sh_122 (Nat.le_of_ble_eq_true rfl) rfl rfl ?_
    refine ok_icmp_ge (tgt := 173) (pc := 23) dX12_judgeEdges_23 rfl hx7 (hw1 _ _) (fun q2 => ?_) (fun q2 => ?_)
    · have h := iteF h q2
      refine ok_aload_n 0 (pc := 173) dX12_judgeEdges_173 rfl rfl ?_
      refine ok_iload 4 (pc := 174) dX12_judgeEdges_174 rfl ?_
      refine ok_iload 5 (pc := 176) dX12_judgeEdges_176 rfl ?_
      refine ok_iadd (pc := 178) dX12_judgeEdges_178 ?_
      refine ok_iload 6 (pc := 179) dX12_judgeEdges_179 rfl ?_
      refine ok_iadd (pc := 181) dX12_judgeEdges_181 ?_
      obtain ⟨h3, h⟩ := h
      refine ok_putI (pc := 182) dX12_judgeEdges_182 fl_X12_354 fp_X12_49 sh_122 (Nat.le_of_ble_eq_true rfl) rfl rfl h3 rfl rfl ?_
      refine ok_iload 4 (pc := 185) dX12_judgeEdges_185 rfl ?_
      refine ok_iload 5 (pc := 187) dX12_judgeEdges_187 rfl ?_
      refine ok_icmp_le (tgt := 197) (pc := 189) dX12_judgeEdges_189 rfl hx4 hx5 (fun q4 => ?_) (fun q4 => ?_)
      · simp only [if_neg q4] at h
        refine ok_iload 5 (pc := 197) dX12_judgeEdges_197 rfl ?_
        refine ok_sub (L' := [(0, .ref (xad X 122)), (4, vI x4), (5, vI x5), (6, vI x6)]) [0,4,5,6] rfl ?_
        exact w_X12_judgeEdges_199 X p1 p2 p3 hp1 hp2 hp3 x4 x5 x6 x5 hx4 hx5 hx6 hx5 h
      · simp only [if_pos q4] at h
        refine ok_iload 4 (pc := 192) dX12_judgeEdges_192 rfl ?_
        refine ok_goto (tgt := 199) (pc := 194) dX12_judgeEdges_194 rfl ?_
        refine ok_sub (L' := [(0, .ref (xad X 122)), (4, vI x4), (5, vI x5), (6, vI x6)]) [0,4,5,6] rfl ?_
        exact w_X12_judgeEdges_199 X p1 p2 p3 hp1 hp2 hp3 x4 x5 x6 x4 hx4 hx5 hx6 hx4 h
    · have h := iteT h q2
      refine ok_aload_n 0 (pc := 26) dX12_judgeEdges_26 rfl rfl ?_
      refine ok_getR (pc := 27) dX12_judgeEdges_27 fl_X12_55 sh_122 (Nat.le_of_ble_eq_true rfl) rfl rfl ?_
      refine ok_iconst (pc := 30) dX12_judgeEdges_30 ?_
      refine ok_iload 7 (pc := 31) dX12_judgeEdges_31 rfl ?_
      refine ok_imul (pc := 33) dX12_judgeEdges_33 ?_
      refine ok_iload_n 1 (pc := 34) dX12_judgeEdges_34 rfl rfl ?_
      refine ok_iadd (pc := 35) dX12_judgeEdges_35 ?_
      obtain ⟨h5, h⟩ := h
      obtain ⟨h6, h⟩ := h
      refine ok_iald (pc := 36) dX12_judgeEdges_36 sh_138 (Nat.le_of_ble_eq_true rfl) rfl h5 h6 ?_
      refine ok_istore (L' := [(8, vI (σ 138 ((4 * x7) + p1).toNat)), (0, .ref (xad X 122)), (1, vI p1), (2, vI p2), (3, vI p3), (4, vI x4), (5, vI x5), (6, vI x6), (7, vI x7)]) (pc := 37) dX12_judgeEdges_37 rfl rfl ?_
      refine ok_aload_n 1 (pc := 39) dX12_judgeEdges_39 rfl rfl ?_
      refine ok_iload 8 (pc := 40) dX12_judgeEdges_40 rfl ?_
      refine ok_callVi (As := [vI x7]) (rest := []) (rm := rm_X12_isOut) (pc := 42) dX12_judgeEdges_42 me_X12_isOut ml_X12_260 (ci := 12) rfl sh_122 (Nat.le_of_ble_eq_true rfl) rfl des_X12_isOut rfl ⟨rfl, rfl, rfl, rfl⟩ rfl rfl (c_X12_isOut X x7 hx7 h) (fun r8 σ9 h7 h => ?_)
      refine ok_if_ne (tgt := 167) (pc := 45) dX12_judgeEdges_45 rfl h7 (fun q10 => ?_) (fun q10 => ?_)
      · have h := iteF h q10
        refine ok_iinc (L' := [(7, vI (x7 + 1)), (8, vI (σ 138 ((4 * x7) + p1).toNat)), (0, .ref (xad X 122)), (1, vI p1), (2, vI p2), (3, vI p3), (4, vI x4), (5, vI x5), (6, vI x6)]) 8 (pc := 167) dX12_judgeEdges_167 rfl rfl rfl ?_
        refine ok_goto (tgt := 17) (pc := 170) dX12_judgeEdges_170 rfl ?_
        obtain ⟨h11, h⟩ := h
        refine ok_sub (L' := [(0, .ref (xad X 122)), (1, vI p1), (2, vI p2), (3, vI p3), (4, vI x4), (5, vI x5), (6, vI x6), (7, vI (x7 + 1))]) [2,3,4,5,6,7,8,0] rfl ?_
        exact ih x4 x5 x6 (x7 + 1) σ9 hx4 hx5 hx6 h11 h
      · have h := iteT h q10
        refine ok_iload 0 (pc := 48) dX12_judgeEdges_48 rfl ?_
        refine ok_if_le (tgt := 167) (pc := 50) dX12_judgeEdges_50 rfl (hw1 _ _) (fun q12 => ?_) (fun q12 => ?_)
        · have h := iteF h q12
          refine ok_iinc (L' := [(7, vI (x7 + 1)), (8, vI (σ 138 ((4 * x7) + p1).toNat)), (0, .ref (xad X 122)), (1, vI p1), (2, vI p2), (3, vI p3), (4, vI x4), (5, vI x5), (6, vI x6)]) 8 (pc := 167) dX12_judgeEdges_167 rfl rfl rfl ?_
          refine ok_goto (tgt := 17) (pc := 170) dX12_judgeEdges_170 rfl ?_
          obtain ⟨h13, h⟩ := h
          refine ok_sub (L' := [(0, .ref (xad X 122)), (1, vI p1), (2, vI p2), (3, vI p3), (4, vI x4), (5, vI x5), (6, vI x6), (7, vI (x7 + 1))]) [2,3,4,5,6,7,8,0] rfl ?_
          exact ih x4 x5 x6 (x7 + 1) σ9 hx4 hx5 hx6 h13 h
        · have h := iteT h q12
          refine ok_iload 5 (pc := 53) dX12_judgeEdges_53 rfl ?_
          refine ok_iload 0 (pc := 55) dX12_judgeEdges_55 rfl ?_
          refine ok_iload_n 3 (pc := 57) dX12_judgeEdges_57 rfl rfl ?_
          refine ok_icmp_ge (tgt := 65) (pc := 58) dX12_judgeEdges_58 rfl (hw1 _ _) hp2 (fun q14 => ?_) (fun q14 => ?_)
          · simp only [if_neg q14] at h
            refine ok_iconst (pc := 65) dX12_judgeEdges_65 ?_
            refine ok_sub (L' := [(0, .ref (xad X 122)), (1, vI p1), (2, vI p2), (3, vI p3), (5, vI x5), (6, vI x6), (7, vI x7), (8, vI (σ 138 ((4 * x7) + p1).toNat))]) [1,2,3,4,6,7,8,0] rfl ?_
            exact w_X12_judgeEdges_66 X p1 p2 p3 hp1 hp2 hp3 x5 x6 x7 (σ 138 ((4 * x7) + p1).toNat) 0 x4 hx5 hx6 hx7 (hw1 _ _) (r_lit rfl) hx4 (fun x4_ x5_ x6_ x7_ σ_ hx4_ hx5_ hx6_ hx7_ h_ => ih x4_ x5_ x6_ x7_ σ_ hx4_ hx5_ hx6_ hx7_ h_) h
          · simp only [if_pos q14] at h
            refine ok_iconst (pc := 61) dX12_judgeEdges_61 ?_
            refine ok_goto (tgt := 66) (pc := 62) dX12_judgeEdges_62 rfl ?_
            refine ok_sub (L' := [(0, .ref (xad X 122)), (1, vI p1), (2, vI p2), (3, vI p3), (5, vI x5), (6, vI x6), (7, vI x7), (8, vI (σ 138 ((4 * x7) + p1).toNat))]) [1,2,3,4,6,7,8,0] rfl ?_
            exact w_X12_judgeEdges_66 X p1 p2 p3 hp1 hp2 hp3 x5 x6 x7 (σ 138 ((4 * x7) + p1).toNat) 1 x4 hx5 hx6 hx7 (hw1 _ _) (r_lit rfl) hx4 (fun x4_ x5_ x6_ x7_ σ_ hx4_ hx5_ hx6_ hx7_ h_ => ih x4_ x5_ x6_ x7_ σ_ hx4_ hx5_ hx6_ hx7_ h_) h
set_option maxRecDepth 100000 in
set_option maxHeartbeats 4000000 in
theorem c_X12_judgeEdges (X : XE) (p1 : Int) (p2 : Int) (p3 : Int) (hp1 : inR p1) (hp2 : inR p2) (hp3 : inR p3) {σ : Mem} {Q : Int → Mem → Prop} (h : v_X12_judgeEdges p1 p2 p3 σ Q) : CT X yX12_judgeEdges cX12_judgeEdges 10 none rm_X12_judgeEdges 0 [.ref (xad X 122), vI p1, vI p2, vI p3] σ Q := by
  refine ct_of (own := RX12) (L := [(0, .ref (xad X 122)), (1, vI p1), (2, vI p2), (3, vI p3)]) rfl rfl (Nat.le_of_ble_eq_true rfl) rfl ?_
  refine ok_iconst (pc := 0) dX12_judgeEdges_0 ?_
  refine ok_istore (L' := [(4, vI 0), (0, .ref (xad X 122)), (1, vI p1), (2, vI p2), (3, vI p3)]) (pc := 1) dX12_judgeEdges_1 rfl rfl ?_
  refine ok_iconst (pc := 3) dX12_judgeEdges_3 ?_
  refine ok_istore (L' := [(5, vI 0), (4, vI 0), (0, .ref (xad X 122)), (1, vI p1), (2, vI p2), (3, vI p3)]) (pc := 4) dX12_judgeEdges_4 rfl rfl ?_
  refine ok_iconst (pc := 6) dX12_judgeEdges_6 ?_
  refine ok_istore (L' := [(6, vI 0), (5, vI 0), (4, vI 0), (0, .ref (xad X 122)), (1, vI p1), (2, vI p2), (3, vI p3)]) (pc := 7) dX12_judgeEdges_7 rfl rfl ?_
  refine ok_aload_n 3 (pc := 9) dX12_judgeEdges_9 rfl rfl ?_
  refine ok_iconst (pc := 10) dX12_judgeEdges_10 ?_
  refine ok_putI (pc := 11) dX12_judgeEdges_11 fl_X12_351 fp_X12_51 sh_122 (Nat.le_of_ble_eq_true rfl) rfl rfl (r_lit rfl) rfl rfl ?_
  refine ok_iconst (pc := 14) dX12_judgeEdges_14 ?_
  refine ok_istore (L' := [(7, vI 0), (6, vI 0), (5, vI 0), (4, vI 0), (0, .ref (xad X 122)), (1, vI p1), (2, vI p2), (3, vI p3)]) (pc := 15) dX12_judgeEdges_15 rfl rfl ?_
  refine ok_sub (L' := [(0, .ref (xad X 122)), (1, vI p1), (2, vI p2), (3, vI p3), (4, vI 0), (5, vI 0), (6, vI 0), (7, vI 0)]) [4,5,6,7,3,2,1,0] rfl ?_
  obtain ⟨n1, h⟩ := h
  exact w_X12_judgeEdges_17 X p1 p2 p3 hp1 hp2 hp3 n1 0 0 0 0 (mset σ 122 51 0) (r_lit rfl) (r_lit rfl) (r_lit rfl) (r_lit rfl) h
theorem dX12_even_0 : decode cX12_even 0 = .ok (.iload_n 1, 1) := by decide +kernel
theorem dX12_even_1 : decode cX12_even 1 = .ok (.i2l, 1) := by decide +kernel
theorem dX12_even_2 : decode cX12_even 2 = .ok (.lconst 0, 1) := by decide +kernel
theorem dX12_even_3 : decode cX12_even 3 = .ok (.ldc2_w 269, 3) := by decide +kernel
theorem dX12_even_6 : decode cX12_even 6 = .ok (.invokestatic 137, 3) := by decide +kernel
theorem dX12_even_9 : decode cX12_even 9 = .ok (.ifCond .eq 29, 3) := by decide +kernel
theorem dX12_even_12 : decode cX12_even 12 = .ok (.iload_n 2, 1) := by decide +kernel
theorem dX12_even_13 : decode cX12_even 13 = .ok (.i2l, 1) := by decide +kernel
theorem dX12_even_14 : decode cX12_even 14 = .ok (.ldc2_w 298, 3) := by decide +kernel
theorem dX12_even_17 : decode cX12_even 17 = .ok (.ldc2_w 184, 3) := by decide +kernel
theorem dX12_even_20 : decode cX12_even 20 = .ok (.invokestatic 137, 3) := by decide +kernel
theorem dX12_even_23 : decode cX12_even 23 = .ok (.ifCond .eq 15, 3) := by decide +kernel
theorem dX12_even_26 : decode cX12_even 26 = .ok (.iload_n 3, 1) := by decide +kernel
theorem dX12_even_27 : decode cX12_even 27 = .ok (.i2l, 1) := by decide +kernel
theorem dX12_even_28 : decode cX12_even 28 = .ok (.lconst 0, 1) := by decide +kernel
theorem dX12_even_29 : decode cX12_even 29 = .ok (.ldc2_w 269, 3) := by decide +kernel
theorem dX12_even_32 : decode cX12_even 32 = .ok (.invokestatic 137, 3) := by decide +kernel
theorem dX12_even_35 : decode cX12_even 35 = .ok (.ifCond .ne 5, 3) := by decide +kernel
theorem dX12_even_38 : decode cX12_even 38 = .ok (.iconst (-1), 1) := by decide +kernel
theorem dX12_even_39 : decode cX12_even 39 = .ok (.ireturn, 1) := by decide +kernel
theorem dX12_even_40 : decode cX12_even 40 = .ok (.bipush (-4), 2) := by decide +kernel
theorem dX12_even_42 : decode cX12_even 42 = .ok (.istore 4, 2) := by decide +kernel
theorem dX12_even_44 : decode cX12_even 44 = .ok (.bipush (-4), 2) := by decide +kernel
theorem dX12_even_46 : decode cX12_even 46 = .ok (.istore 5, 2) := by decide +kernel
theorem dX12_even_48 : decode cX12_even 48 = .ok (.iconst 0, 1) := by decide +kernel
theorem dX12_even_49 : decode cX12_even 49 = .ok (.istore 6, 2) := by decide +kernel
theorem dX12_even_51 : decode cX12_even 51 = .ok (.iconst 0, 1) := by decide +kernel
theorem dX12_even_52 : decode cX12_even 52 = .ok (.istore 7, 2) := by decide +kernel
theorem dX12_even_54 : decode cX12_even 54 = .ok (.iload_n 2, 1) := by decide +kernel
theorem dX12_even_55 : decode cX12_even 55 = .ok (.istore 8, 2) := by decide +kernel
theorem dX12_even_57 : decode cX12_even 57 = .ok (.iload 8, 2) := by decide +kernel
theorem dX12_even_59 : decode cX12_even 59 = .ok (.sipush 999, 3) := by decide +kernel
theorem dX12_even_62 : decode cX12_even 62 = .ok (.if_icmp .ge 108, 3) := by decide +kernel
theorem dX12_even_65 : decode cX12_even 65 = .ok (.iload 8, 2) := by decide +kernel
theorem dX12_even_67 : decode cX12_even 67 = .ok (.iload_n 2, 1) := by decide +kernel
theorem dX12_even_68 : decode cX12_even 68 = .ok (.iadd, 1) := by decide +kernel
theorem dX12_even_69 : decode cX12_even 69 = .ok (.istore 9, 2) := by decide +kernel
theorem dX12_even_71 : decode cX12_even 71 = .ok (.iload 9, 2) := by decide +kernel
theorem dX12_even_73 : decode cX12_even 73 = .ok (.sipush 999, 3) := by decide +kernel
theorem dX12_even_76 : decode cX12_even 76 = .ok (.if_icmp .gt 85, 3) := by decide +kernel
theorem dX12_even_79 : decode cX12_even 79 = .ok (.aload_n 0, 1) := by decide +kernel
theorem dX12_even_80 : decode cX12_even 80 = .ok (.iload_n 1, 1) := by decide +kernel
theorem dX12_even_81 : decode cX12_even 81 = .ok (.iload 8, 2) := by decide +kernel
theorem dX12_even_83 : decode cX12_even 83 = .ok (.iload 9, 2) := by decide +kernel
theorem dX12_even_85 : decode cX12_even 85 = .ok (.invokevirtual 360, 3) := by decide +kernel
theorem dX12_even_88 : decode cX12_even 88 = .ok (.aload_n 0, 1) := by decide +kernel
theorem dX12_even_89 : decode cX12_even 89 = .ok (.getfield 354, 3) := by decide +kernel
theorem dX12_even_92 : decode cX12_even 92 = .ok (.ifCond .ne 6, 3) := by decide +kernel
theorem dX12_even_95 : decode cX12_even 95 = .ok (.bipush (-4), 2) := by decide +kernel
theorem dX12_even_97 : decode cX12_even 97 = .ok (.ireturn, 1) := by decide +kernel
theorem dX12_even_98 : decode cX12_even 98 = .ok (.iload 4, 2) := by decide +kernel
theorem dX12_even_100 : decode cX12_even 100 = .ok (.bipush (-4), 2) := by decide +kernel
theorem dX12_even_102 : decode cX12_even 102 = .ok (.if_icmp .eq 30, 3) := by decide +kernel
theorem dX12_even_105 : decode cX12_even 105 = .ok (.aload_n 0, 1) := by decide +kernel
theorem dX12_even_106 : decode cX12_even 106 = .ok (.getfield 357, 3) := by decide +kernel
theorem dX12_even_109 : decode cX12_even 109 = .ok (.iload 6, 2) := by decide +kernel
theorem dX12_even_111 : decode cX12_even 111 = .ok (.if_icmp .lt 21, 3) := by decide +kernel
theorem dX12_even_114 : decode cX12_even 114 = .ok (.aload_n 0, 1) := by decide +kernel
theorem dX12_even_115 : decode cX12_even 115 = .ok (.getfield 357, 3) := by decide +kernel
theorem dX12_even_118 : decode cX12_even 118 = .ok (.iload 6, 2) := by decide +kernel
theorem dX12_even_120 : decode cX12_even 120 = .ok (.if_icmp .ne 32, 3) := by decide +kernel
theorem dX12_even_123 : decode cX12_even 123 = .ok (.aload_n 0, 1) := by decide +kernel
theorem dX12_even_124 : decode cX12_even 124 = .ok (.getfield 351, 3) := by decide +kernel
theorem dX12_even_127 : decode cX12_even 127 = .ok (.iload 7, 2) := by decide +kernel
theorem dX12_even_129 : decode cX12_even 129 = .ok (.if_icmp .ge 23, 3) := by decide +kernel
theorem dX12_even_132 : decode cX12_even 132 = .ok (.iload 8, 2) := by decide +kernel
theorem dX12_even_134 : decode cX12_even 134 = .ok (.istore 4, 2) := by decide +kernel
theorem dX12_even_136 : decode cX12_even 136 = .ok (.iload 9, 2) := by decide +kernel
theorem dX12_even_138 : decode cX12_even 138 = .ok (.istore 5, 2) := by decide +kernel
theorem dX12_even_140 : decode cX12_even 140 = .ok (.aload_n 0, 1) := by decide +kernel
theorem dX12_even_141 : decode cX12_even 141 = .ok (.getfield 357, 3) := by decide +kernel
theorem dX12_even_144 : decode cX12_even 144 = .ok (.istore 6, 2) := by decide +kernel
theorem dX12_even_146 : decode cX12_even 146 = .ok (.aload_n 0, 1) := by decide +kernel
theorem dX12_even_147 : decode cX12_even 147 = .ok (.getfield 351, 3) := by decide +kernel
theorem dX12_even_150 : decode cX12_even 150 = .ok (.istore 7, 2) := by decide +kernel
theorem dX12_even_152 : decode cX12_even 152 = .ok (.iload 9, 2) := by decide +kernel
theorem dX12_even_154 : decode cX12_even 154 = .ok (.iload_n 2, 1) := by decide +kernel
theorem dX12_even_155 : decode cX12_even 155 = .ok (.iadd, 1) := by decide +kernel
theorem dX12_even_156 : decode cX12_even 156 = .ok (.istore 9, 2) := by decide +kernel
theorem dX12_even_158 : decode cX12_even 158 = .ok (.goto (-87), 3) := by decide +kernel
theorem dX12_even_161 : decode cX12_even 161 = .ok (.iload 8, 2) := by decide +kernel
theorem dX12_even_163 : decode cX12_even 163 = .ok (.iload_n 2, 1) := by decide +kernel
theorem dX12_even_164 : decode cX12_even 164 = .ok (.iadd, 1) := by decide +kernel
theorem dX12_even_165 : decode cX12_even 165 = .ok (.istore 8, 2) := by decide +kernel
theorem dX12_even_167 : decode cX12_even 167 = .ok (.goto (-110), 3) := by decide +kernel
theorem dX12_even_170 : decode cX12_even 170 = .ok (.iload_n 3, 1) := by decide +kernel
theorem dX12_even_171 : decode cX12_even 171 = .ok (.ifCond .ne 8, 3) := by decide +kernel
theorem dX12_even_174 : decode cX12_even 174 = .ok (.iload 4, 2) := by decide +kernel
theorem dX12_even_176 : decode cX12_even 176 = .ok (.goto 25, 3) := by decide +kernel
theorem dX12_even_179 : decode cX12_even 179 = .ok (.iload_n 3, 1) := by decide +kernel
theorem dX12_even_180 : decode cX12_even 180 = .ok (.iconst 1, 1) := by decide +kernel
theorem dX12_even_181 : decode cX12_even 181 = .ok (.if_icmp .ne 8, 3) := by decide +kernel
theorem dX12_even_184 : decode cX12_even 184 = .ok (.iload 5, 2) := by decide +kernel
theorem dX12_even_186 : decode cX12_even 186 = .ok (.goto 15, 3) := by decide +kernel
theorem dX12_even_189 : decode cX12_even 189 = .ok (.iload_n 3, 1) := by decide +kernel
theorem dX12_even_190 : decode cX12_even 190 = .ok (.iconst 2, 1) := by decide +kernel
theorem dX12_even_191 : decode cX12_even 191 = .ok (.if_icmp .ne 8, 3) := by decide +kernel
theorem dX12_even_194 : decode cX12_even 194 = .ok (.iload 6, 2) := by decide +kernel
theorem dX12_even_196 : decode cX12_even 196 = .ok (.goto 5, 3) := by decide +kernel
theorem dX12_even_199 : decode cX12_even 199 = .ok (.iload 7, 2) := by decide +kernel
theorem dX12_even_201 : decode cX12_even 201 = .ok (.ireturn, 1) := by decide +kernel
set_option maxRecDepth 100000 in
set_option maxHeartbeats 4000000 in
theorem w_X12_even_152 (X : XE) (p1 : Int) (p2 : Int) (p3 : Int) (hp1 : inR p1) (hp2 : inR p2) (hp3 : inR p3) (x4 : Int) (x5 : Int) (x6 : Int) (x7 : Int) (x8 : Int) (x9 : Int) (hx4 : inR x4) (hx5 : inR x5) (hx6 : inR x6) (hx7 : inR x7) (hx8 : inR x8) (hx9 : inR x9) {K57 : Int → Int → Int → Int → Int → Mem → Prop} {K71 : Int → Int → Int → Int → Int → Mem → Prop} {Q : Int → Mem → Prop} (hK57 : ∀ (x4 : Int) (x5 : Int) (x6 : Int) (x7 : Int) (x8 : Int) (σ : Mem), inR x4 → inR x5 → inR x6 → inR x7 → inR x8 → K57 x4 x5 x6 x7 x8 σ → ok X rm_X12_even RX12 cX12_even 10 (some .int) 1 Q 57 [(0, .ref (xad X 122)), (1, vI p1), (2, vI p2), (3, vI p3), (4, vI x4), (5, vI x5), (6, vI x6), (7, vI x7), (8, vI x8)] [] σ) (hK71 : ∀ (x4 : Int) (x5 : Int) (x6 : Int) (x7 : Int) (x9 : Int) (σ : Mem), inR x4 → inR x5 → inR x6 → inR x7 → inR x9 → K71 x4 x5 x6 x7 x9 σ → ok X rm_X12_even RX12 cX12_even 10 (some .int) 1 Q 71 [(0, .ref (xad X 122)), (1, vI p1), (2, vI p2), (3, vI p3), (4, vI x4), (5, vI x5), (6, vI x6), (7, vI x7), (8, vI x8), (9, vI x9)] [] σ) {σ : Mem} (h : j_X12_even_152 p1 p2 p3 K57 K71 Q x4 x5 x6 x7 x8 x9 σ) : ok X rm_X12_even RX12 cX12_even 10 (some .int) 1 Q 152 [(0, .ref (xad X 122)), (1, vI p1), (2, vI p2), (3, vI p3), (4, vI x4), (5, vI x5), (6, vI x6), (7, vI x7), (8, vI x8), (9, vI x9)] [] σ := by
  refine ok_iload 9 (pc := 152) dX12_even_152 rfl ?_
  refine ok_iload_n 2 (pc := 154) dX12_even_154 rfl rfl ?_
  refine ok_iadd (pc := 155) dX12_even_155 ?_
  refine ok_istore (L' := [(9, vI (x9 + p2)), (0, .ref (xad X 122)), (1, vI p1), (2, vI p2), (3, vI p3), (4, vI x4), (5, vI x5), (6, vI x6), (7, vI x7), (8, vI x8)]) (pc := 156) dX12_even_156 rfl rfl ?_
  refine ok_goto (tgt := 71) (pc := 158) dX12_even_158 rfl ?_
  obtain ⟨h1, h⟩ := h
  refine ok_sub (L' := [(0, .ref (xad X 122)), (1, vI p1), (2, vI p2), (3, vI p3), (4, vI x4), (5, vI x5), (6, vI x6), (7, vI x7), (8, vI x8), (9, vI (x9 + p2))]) [1,2,3,4,5,6,7,8,9,0] rfl ?_
  exact hK71 x4 x5 x6 x7 (x9 + p2) σ hx4 hx5 hx6 hx7 h1 h
set_option maxRecDepth 100000 in
set_option maxHeartbeats 4000000 in
theorem w_X12_even_132 (X : XE) (p1 : Int) (p2 : Int) (p3 : Int) (hp1 : inR p1) (hp2 : inR p2) (hp3 : inR p3) (x8 : Int) (x9 : Int) (hx8 : inR x8) (hx9 : inR x9) {K57 : Int → Int → Int → Int → Int → Mem → Prop} {K71 : Int → Int → Int → Int → Int → Mem → Prop} {Q : Int → Mem → Prop} (hK57 : ∀ (x4 : Int) (x5 : Int) (x6 : Int) (x7 : Int) (x8 : Int) (σ : Mem), inR x4 → inR x5 → inR x6 → inR x7 → inR x8 → K57 x4 x5 x6 x7 x8 σ → ok X rm_X12_even RX12 cX12_even 10 (some .int) 1 Q 57 [(0, .ref (xad X 122)), (1, vI p1), (2, vI p2), (3, vI p3), (4, vI x4), (5, vI x5), (6, vI x6), (7, vI x7), (8, vI x8)] [] σ) (hK71 : ∀ (x4 : Int) (x5 : Int) (x6 : Int) (x7 : Int) (x9 : Int) (σ : Mem), inR x4 → inR x5 → inR x6 → inR x7 → inR x9 → K71 x4 x5 x6 x7 x9 σ → ok X rm_X12_even RX12 cX12_even 10 (some .int) 1 Q 71 [(0, .ref (xad X 122)), (1, vI p1), (2, vI p2), (3, vI p3), (4, vI x4), (5, vI x5), (6, vI x6), (7, vI x7), (8, vI x8), (9, vI x9)] [] σ) {σ : Mem} (h : j_X12_even_132 p1 p2 p3 K57 K71 Q x8 x9 σ) : ok X rm_X12_even RX12 cX12_even 10 (some .int) 1 Q 132 [(0, .ref (xad X 122)), (1, vI p1), (2, vI p2), (3, vI p3), (8, vI x8), (9, vI x9)] [] σ := by
  refine ok_iload 4 (pc := 132) dX12_even_132 rfl ?_
  refine ok_istore (L' := [(4, vI x8), (0, .ref (xad X 122)), (1, vI p1), (2, vI p2), (3, vI p3), (8, vI x8), (9, vI x9)]) (pc := 134) dX12_even_134 rfl rfl ?_
  refine ok_iload 6 (pc := 136) dX12_even_136 rfl ?_
  refine ok_istore (L' := [(5, vI x9), (4, vI x8), (0, .ref (xad X 122)), (1, vI p1), (2, vI p2), (3, vI p3), (8, vI x8), (9, vI x9)]) (pc := 138) dX12_even_138 rfl rfl ?_
  refine ok_aload_n 2 (pc := 140) dX12_even_140 rfl rfl ?_
  refine ok_wf (fun hw1 => ?_)
  refine ok_getI (pc := 141) dX12_even_141 fl_X12_357 sh_122 (Nat.le_of_ble_eq_true rfl) rfl rfl ?_
  refine ok_istore (L' := [(6, vI (σ 122 50)), (5, vI x9), (4, vI x8), (0, .ref (xad X 122)), (1, vI p1), (2, vI p2), (3, vI p3), (8, vI x8), (9, vI x9)]) (pc := 144) dX12_even_144 rfl rfl ?_
  refine ok_aload_n 3 (pc := 146) dX12_even_146 rfl rfl ?_
  refine ok_getI (pc := 147) dX12_even_147 fl_X12_351 sh_122 (Nat.le_of_ble_eq_true rfl) rfl rfl ?_
  refine ok_istore (L' := [(7, vI (σ 122 51)), (6, vI (σ 122 50)), (5, vI x9), (4, vI x8), (0, .ref (xad X 122)), (1, vI p1), (2, vI p2), (3, vI p3), (8, vI x8), (9, vI x9)]) (pc := 150) dX12_even_150 rfl rfl ?_
  refine ok_sub (L' := [(0, .ref (xad X 122)), (1, vI p1), (2, vI p2), (3, vI p3), (4, vI x8), (5, vI x9), (6, vI (σ 122 50)), (7, vI (σ 122 51)), (8, vI x8), (9, vI x9)]) [4,5,6,7,3,2,1,0,8,9] rfl ?_
  exact w_X12_even_152 X p1 p2 p3 hp1 hp2 hp3 x8 x9 (σ 122 50) (σ 122 51) x8 x9 hx8 hx9 (hw1 _ _) (hw1 _ _) hx8 hx9 hK57 hK71 h
set_option maxRecDepth 100000 in
set_option maxHeartbeats 4000000 in
theorem w_X12_even_71 (X : XE) (p1 : Int) (p2 : Int) (p3 : Int) (hp1 : inR p1) (hp2 : inR p2) (hp3 : inR p3) (x8 : Int) (hx8 : inR x8) {K57 : Int → Int → Int → Int → Int → Mem → Prop} {Q : Int → Mem → Prop} (hK57 : ∀ (x4 : Int) (x5 : Int) (x6 : Int) (x7 : Int) (x8 : Int) (σ : Mem), inR x4 → inR x5 → inR x6 → inR x7 → inR x8 → K57 x4 x5 x6 x7 x8 σ → ok X rm_X12_even RX12 cX12_even 10 (some .int) 1 Q 57 [(0, .ref (xad X 122)), (1, vI p1), (2, vI p2), (3, vI p3), (4, vI x4), (5, vI x5), (6, vI x6), (7, vI x7), (8, vI x8)] [] σ) : ∀ (n : Nat) (x4 : Int) (x5 : Int) (x6 : Int) (x7 : Int) (x9 : Int) (σ : Mem), inR x4 → inR x5 → inR x6 → inR x7 → inR x9 → l_X12_even_71 p1 p2 p3 x8 K57 Q n x4 x5 x6 x7 x9 σ → ok X rm_X12_even RX12 cX12_even 10 (some .int) 1 Q 71 [(0, .ref (xad X 122)), (1, vI p1), (2, vI p2), (3, vI p3), (4, vI x4), (5, vI x5), (6, vI x6), (7, vI x7), (8, vI x8), (9, vI x9)] [] σ := by
  intro n
  induction n with
  | zero => intro x4 x5 x6 x7 x9 σ hx4 hx5 hx6 hx7 hx9 h; exact False.elim h
  | succ n ih =>
    intro x4 x5 x6 x7 x9 σ hx4 hx5 hx6 hx7 hx9 h
    refine ok_iload 9 (pc := 71) dX12_even_71 rfl ?_
    refine ok_sipush (pc := 73) dX12_even_73 rfl ?_
    refine ok_icmp_gt (tgt := 161) (pc := 76) dX12_even_76 rfl hx9 (r_lit rfl) (fun q1 => ?_) (fun q1 => ?_)
    · have h := iteT h q1
      refine ok_iload 8 (pc := 161) dX12_even_161 rfl ?_
      refine ok_iload_n 2 (pc := 163) dX12_even_163 rfl rfl ?_
      refine ok_iadd (pc := 164) dX12_even_164 ?_
      refine ok_istore (L' := [(8, vI (x8 + p2)), (0, .ref (xad X 122)), (1, vI p1), (2, vI p2), (3, vI p3), (4, vI x4), (5, vI x5), (6, vI x6), (7, vI x7), (9, vI x9)]) (pc := 165) dX12_even_165 rfl rfl ?_
      refine ok_goto (tgt := 57) (pc := 167) dX12_even_167 rfl ?_
      obtain ⟨h2, h⟩ := h
      refine ok_sub (L' := [(0, .ref (xad X 122)), (1, vI p1), (2, vI p2), (3, vI p3), (4, vI x4), (5, vI x5), (6, vI x6), (7, vI x7), (8, vI (x8 + p2))]) [1,2,3,4,5,6,7,8,0] rfl ?_
      exact hK57 x4 x5 x6 x7 (x8 + p2) σ hx4 hx5 hx6 hx7 h2 h
    · have h := iteF h q1
      refine ok_aload_n 0 (pc := 79) dX12_even_79 rfl rfl ?_
      refine ok_iload_n 1 (pc := 80) dX12_even_80 rfl rfl ?_
      refine ok_iload 8 (pc := 81) dX12_even_81 rfl ?_
      refine ok_iload 9 (pc := 83) dX12_even_83 rfl ?_
      refine ok_callVv (As := [vI p1, vI x8, vI x9]) (rest := []) (rm := rm_X12_judgeEdges) (pc := 85) dX12_even_85 me_X12_judgeEdges ml_X12_360 (ci := 12) rfl sh_122 (Nat.le_of_ble_eq_true rfl) rfl des_X12_judgeEdges rfl ⟨rfl, rfl, rfl, rfl⟩ rfl rfl (c_X12_judgeEdges X p1 x8 x9 hp1 hx8 hx9 h) (fun σ5 h => ?_)
      refine ok_aload_n 0 (pc := 88) dX12_even_88 rfl rfl ?_
      refine ok_wf (fun hw6 => ?_)
      refine ok_getI (pc := 89) dX12_even_89 fl_X12_354 sh_122 (Nat.le_of_ble_eq_true rfl) rfl rfl ?_
      refine ok_if_ne (tgt := 98) (pc := 92) dX12_even_92 rfl (hw6 _ _) (fun q7 => ?_) (fun q7 => ?_)
      · have h := iteF h q7
        refine ok_iload 4 (pc := 98) dX12_even_98 rfl ?_
        refine ok_bipush (pc := 100) dX12_even_100 rfl ?_
        refine ok_icmp_eq (tgt := 132) (pc := 102) dX12_even_102 rfl hx4 (r_lit rfl) (fun q8 => ?_) (fun q8 => ?_)
        · have h := iteT h q8
          refine ok_sub (L' := [(0, .ref (xad X 122)), (1, vI p1), (2, vI p2), (3, vI p3), (8, vI x8), (9, vI x9)]) [0,1,2,3,8,9] rfl ?_
          exact w_X12_even_132 X p1 p2 p3 hp1 hp2 hp3 x8 x9 hx8 hx9 hK57 (fun x4_ x5_ x6_ x7_ x9_ σ_ hx4_ hx5_ hx6_ hx7_ hx9_ h_ => ih x4_ x5_ x6_ x7_ x9_ σ_ hx4_ hx5_ hx6_ hx7_ hx9_ h_) h
        · have h := iteF h q8
          refine ok_aload_n 0 (pc := 105) dX12_even_105 rfl rfl ?_
          refine ok_getI (pc := 106) dX12_even_106 fl_X12_357 sh_122 (Nat.le_of_ble_eq_true rfl) rfl rfl ?_
          refine ok_iload 6 (pc := 109) dX12_even_109 rfl ?_
          refine ok_icmp_lt (tgt := 132) (pc := 111) dX12_even_111 rfl (hw6 _ _) hx6 (fun q9 => ?_) (fun q9 => ?_)
          · have h := iteT h q9
            refine ok_sub (L' := [(0, .ref (xad X 122)), (1, vI p1), (2, vI p2), (3, vI p3), (8, vI x8), (9, vI x9)]) [0,1,2,3,8,9] rfl ?_
            exact w_X12_even_132 X p1 p2 p3 hp1 hp2 hp3 x8 x9 hx8 hx9 hK57 (fun x4_ x5_ x6_ x7_ x9_ σ_ hx4_ hx5_ hx6_ hx7_ hx9_ h_ => ih x4_ x5_ x6_ x7_ x9_ σ_ hx4_ hx5_ hx6_ hx7_ hx9_ h_) h
          · have h := iteF h q9
            refine ok_aload_n 0 (pc := 114) dX12_even_114 rfl rfl ?_
            refine ok_getI (pc := 115) dX12_even_115 fl_X12_357 sh_122 (Nat.le_of_ble_eq_true rfl) rfl rfl ?_
            refine ok_iload 6 (pc := 118) dX12_even_118 rfl ?_
            refine ok_icmp_ne (tgt := 152) (pc := 120) dX12_even_120 rfl (hw6 _ _) hx6 (fun q10 => ?_) (fun q10 => ?_)
            · have h := iteF h q10
              exact w_X12_even_152 X p1 p2 p3 hp1 hp2 hp3 x4 x5 x6 x7 x8 x9 hx4 hx5 hx6 hx7 hx8 hx9 hK57 (fun x4_ x5_ x6_ x7_ x9_ σ_ hx4_ hx5_ hx6_ hx7_ hx9_ h_ => ih x4_ x5_ x6_ x7_ x9_ σ_ hx4_ hx5_ hx6_ hx7_ hx9_ h_) h
            · have h := iteT h q10
              refine ok_aload_n 0 (pc := 123) dX12_even_123 rfl rfl ?_
              refine ok_getI (pc := 124) dX12_even_124 fl_X12_351 sh_122 (Nat.le_of_ble_eq_true rfl) rfl rfl ?_
              refine ok_iload 7 (pc := 127) dX12_even_127 rfl ?_
              refine ok_icmp_ge (tgt := 152) (pc := 129) dX12_even_129 rfl (hw6 _ _) hx7 (fun q11 => ?_) (fun q11 => ?_)
              · have h := iteF h q11
                exact w_X12_even_152 X p1 p2 p3 hp1 hp2 hp3 x4 x5 x6 x7 x8 x9 hx4 hx5 hx6 hx7 hx8 hx9 hK57 (fun x4_ x5_ x6_ x7_ x9_ σ_ hx4_ hx5_ hx6_ hx7_ hx9_ h_ => ih x4_ x5_ x6_ x7_ x9_ σ_ hx4_ hx5_ hx6_ hx7_ hx9_ h_) h
              · have h := iteT h q11
                refine ok_sub (L' := [(0, .ref (xad X 122)), (1, vI p1), (2, vI p2), (3, vI p3), (8, vI x8), (9, vI x9)]) [0,1,2,3,8,9] rfl ?_
                exact w_X12_even_132 X p1 p2 p3 hp1 hp2 hp3 x8 x9 hx8 hx9 hK57 (fun x4_ x5_ x6_ x7_ x9_ σ_ hx4_ hx5_ hx6_ hx7_ hx9_ h_ => ih x4_ x5_ x6_ x7_ x9_ σ_ hx4_ hx5_ hx6_ hx7_ hx9_ h_) h
      · have h := iteT h q7
        refine ok_bipush (pc := 95) dX12_even_95 rfl ?_
        exact ok_iret (pc := 97) dX12_even_97 rfl rfl rfl (r_lit rfl) h
set_option maxRecDepth 100000 in
set_option maxHeartbeats 4000000 in
theorem w_X12_even_57 (X : XE) (p1 : Int) (p2 : Int) (p3 : Int) (hp1 : inR p1) (hp2 : inR p2) (hp3 : inR p3) {Q : Int → Mem → Prop} : ∀ (n : Nat) (x4 : Int) (x5 : Int) (x6 : Int) (x7 : Int) (x8 : Int) (σ : Mem), inR x4 → inR x5 → inR x6 → inR x7 → inR x8 → l_X12_even_57 p1 p2 p3 Q n x4 x5 x6 x7 x8 σ → ok X rm_X12_even RX12 cX12_even 10 (some .int) 1 Q 57 [(0, .ref (xad X 122)), (1, vI p1), (2, vI p2), (3, vI p3), (4, vI x4), (5, vI x5), (6, vI x6), (7, vI x7), (8, vI x8)] [] σ := by
  intro n
  induction n with
  | zero => intro x4 x5 x6 x7 x8 σ hx4 hx5 hx6 hx7 hx8 h; exact False.elim h
  | succ n ih =>
    intro x4 x5 x6 x7 x8 σ hx4 hx5 hx6 hx7 hx8 h
    refine ok_iload 8 (pc := 57) dX12_even_57 rfl ?_
    refine ok_sipush (pc := 59) dX12_even_59 rfl ?_
    refine ok_icmp_ge (tgt := 170) (pc := 62) dX12_even_62 rfl hx8 (r_lit rfl) (fun q1 => ?_) (fun q1 => ?_)
    · have h := iteF h q1
      refine ok_iload_n 3 (pc := 170) dX12_even_170 rfl rfl ?_
      refine ok_if_ne (tgt := 179) (pc := 171) dX12_even_171 rfl hp3 (fun q2 => ?_) (fun q2 => ?_)
      · have h := iteF h q2
        refine ok_iload_n 3 (pc := 179) dX12_even_179 rfl rfl ?_
        refine ok_iconst (pc := 180) dX12_even_180 ?_
        refine ok_icmp_ne (tgt := 189) (pc := 181) dX12_even_181 rfl hp3 (r_lit rfl) (fun q3 => ?_) (fun q3 => ?_)
        · have h := iteF h q3
          refine ok_iload_n 3 (pc := 189) dX12_even_189 rfl rfl ?_
          refine ok_iconst (pc := 190) dX12_even_190 ?_
          refine ok_icmp_ne (tgt := 199) (pc := 191) dX12_even_191 rfl hp3 (r_lit rfl) (fun q4 => ?_) (fun q4 => ?_)
          · have h := iteF h q4
            refine ok_iload 7 (pc := 199) dX12_even_199 rfl ?_
            exact ok_iret (pc := 201) dX12_even_201 rfl rfl rfl hx7 h
          · have h := iteT h q4
            refine ok_iload 6 (pc := 194) dX12_even_194 rfl ?_
            refine ok_goto (tgt := 201) (pc := 196) dX12_even_196 rfl ?_
            exact ok_iret (pc := 201) dX12_even_201 rfl rfl rfl hx6 h
        · have h := iteT h q3
          refine ok_iload 5 (pc := 184) dX12_even_184 rfl ?_
          refine ok_goto (tgt := 201) (pc := 186) dX12_even_186 rfl ?_
          exact ok_iret (pc := 201) dX12_even_201 rfl rfl rfl hx5 h
      · have h := iteT h q2
        refine ok_iload 4 (pc := 174) dX12_even_174 rfl ?_
        refine ok_goto (tgt := 201) (pc := 176) dX12_even_176 rfl ?_
        exact ok_iret (pc := 201) dX12_even_201 rfl rfl rfl hx4 h
    · have h := iteT h q1
      refine ok_iload 8 (pc := 65) dX12_even_65 rfl ?_
      refine ok_iload_n 2 (pc := 67) dX12_even_67 rfl rfl ?_
      refine ok_iadd (pc := 68) dX12_even_68 ?_
      refine ok_istore (L' := [(9, vI (x8 + p2)), (0, .ref (xad X 122)), (1, vI p1), (2, vI p2), (3, vI p3), (4, vI x4), (5, vI x5), (6, vI x6), (7, vI x7), (8, vI x8)]) (pc := 69) dX12_even_69 rfl rfl ?_
      obtain ⟨h5, h⟩ := h
      refine ok_sub (L' := [(0, .ref (xad X 122)), (1, vI p1), (2, vI p2), (3, vI p3), (4, vI x4), (5, vI x5), (6, vI x6), (7, vI x7), (8, vI x8), (9, vI (x8 + p2))]) [1,2,3,4,5,6,7,8,9,0] rfl ?_
      obtain ⟨n6, h⟩ := h
      exact w_X12_even_71 X p1 p2 p3 hp1 hp2 hp3 x8 hx8 (fun x4_ x5_ x6_ x7_ x8_ σ_ hx4_ hx5_ hx6_ hx7_ hx8_ h_ => ih x4_ x5_ x6_ x7_ x8_ σ_ hx4_ hx5_ hx6_ hx7_ hx8_ h_) n6 x4 x5 x6 x7 (x8 + p2) σ hx4 hx5 hx6 hx7 h5 h
set_option maxRecDepth 100000 in
set_option maxHeartbeats 4000000 in
theorem c_X12_even (X : XE) (p1 : Int) (p2 : Int) (p3 : Int) (hp1 : inR p1) (hp2 : inR p2) (hp3 : inR p3) {σ : Mem} {Q : Int → Mem → Prop} (h : v_X12_even p1 p2 p3 σ Q) : CT X yX12_even cX12_even 10 (some .int) rm_X12_even 1 [.ref (xad X 122), vI p1, vI p2, vI p3] σ Q := by
  refine ct_of (own := RX12) (L := [(0, .ref (xad X 122)), (1, vI p1), (2, vI p2), (3, vI p3)]) rfl rfl (Nat.le_of_ble_eq_true rfl) rfl ?_
  refine ok_iload_n 1 (pc := 0) dX12_even_0 rfl rfl ?_
  refine ok_i2l (pc := 1) dX12_even_1 hp1 ?_
  refine ok_lconst (v := 0) (pc := 2) dX12_even_2 rfl ?_
  refine ok_ldc2 (pc := 3) dX12_even_3 cn_X12_269 ?_
  refine ok_callSi (As := [vL p1, vL 0, vL 3]) (rest := []) (rm := rm_X12_in) (pc := 6) dX12_even_6 me_X12_in ml_X12_137 des_X12_in rfl ⟨rfl, rfl, rfl, rfl⟩ rfl rfl (c_X12_in X p1 0 3 (l_of_r hp1) (l_of_r (r_lit rfl)) (l_of_r (r_lit rfl)) h) (fun r2 σ3 h1 h => ?_)
  refine ok_if_eq (tgt := 38) (pc := 9) dX12_even_9 rfl h1 (fun q4 => ?_) (fun q4 => ?_)
  · have h := iteT h q4
    refine ok_iconst (pc := 38) dX12_even_38 ?_
    exact ok_iret (pc := 39) dX12_even_39 rfl rfl rfl (r_lit rfl) h
  · have h := iteF h q4
    refine ok_iload_n 2 (pc := 12) dX12_even_12 rfl rfl ?_
    refine ok_i2l (pc := 13) dX12_even_13 hp2 ?_
    refine ok_ldc2 (pc := 14) dX12_even_14 cn_X12_298 ?_
    refine ok_ldc2 (pc := 17) dX12_even_17 cn_X12_184 ?_
    refine ok_callSi (As := [vL p2, vL 10, vL 100]) (rest := []) (rm := rm_X12_in) (pc := 20) dX12_even_20 me_X12_in ml_X12_137 des_X12_in rfl ⟨rfl, rfl, rfl, rfl⟩ rfl rfl (c_X12_in X p2 10 100 (l_of_r hp2) (l_of_r (r_lit rfl)) (l_of_r (r_lit rfl)) h) (fun r6 σ7 h5 h => ?_)
    refine ok_if_eq (tgt := 38) (pc := 23) dX12_even_23 rfl h5 (fun q8 => ?_) (fun q8 => ?_)
    · have h := iteT h q8
      refine ok_iconst (pc := 38) dX12_even_38 ?_
      exact ok_iret (pc := 39) dX12_even_39 rfl rfl rfl (r_lit rfl) h
    · have h := iteF h q8
      refine ok_iload_n 3 (pc := 26) dX12_even_26 rfl rfl ?_
      refine ok_i2l (pc := 27) dX12_even_27 hp3 ?_
      refine ok_lconst (v := 0) (pc := 28) dX12_even_28 rfl ?_
      refine ok_ldc2 (pc := 29) dX12_even_29 cn_X12_269 ?_
      refine ok_callSi (As := [vL p3, vL 0, vL 3]) (rest := []) (rm := rm_X12_in) (pc := 32) dX12_even_32 me_X12_in ml_X12_137 des_X12_in rfl ⟨rfl, rfl, rfl, rfl⟩ rfl rfl (c_X12_in X p3 0 3 (l_of_r hp3) (l_of_r (r_lit rfl)) (l_of_r (r_lit rfl)) h) (fun r10 σ11 h9 h => ?_)
      refine ok_if_ne (tgt := 40) (pc := 35) dX12_even_35 rfl h9 (fun q12 => ?_) (fun q12 => ?_)
      · have h := iteF h q12
        refine ok_bipush (pc := 40) dX12_even_40 rfl ?_
        refine ok_istore (L' := [(4, vI (-4)), (0, .ref (xad X 122)), (1, vI p1), (2, vI p2), (3, vI p3)]) (pc := 42) dX12_even_42 rfl rfl ?_
        refine ok_bipush (pc := 44) dX12_even_44 rfl ?_
        refine ok_istore (L' := [(5, vI (-4)), (4, vI (-4)), (0, .ref (xad X 122)), (1, vI p1), (2, vI p2), (3, vI p3)]) (pc := 46) dX12_even_46 rfl rfl ?_
        refine ok_iconst (pc := 48) dX12_even_48 ?_
        refine ok_istore (L' := [(6, vI 0), (5, vI (-4)), (4, vI (-4)), (0, .ref (xad X 122)), (1, vI p1), (2, vI p2), (3, vI p3)]) (pc := 49) dX12_even_49 rfl rfl ?_
        refine ok_iconst (pc := 51) dX12_even_51 ?_
        refine ok_istore (L' := [(7, vI 0), (6, vI 0), (5, vI (-4)), (4, vI (-4)), (0, .ref (xad X 122)), (1, vI p1), (2, vI p2), (3, vI p3)]) (pc := 52) dX12_even_52 rfl rfl ?_
        refine ok_iload_n 6 (pc := 54) dX12_even_54 rfl rfl ?_
        refine ok_istore (L' := [(8, vI p2), (7, vI 0), (6, vI 0), (5, vI (-4)), (4, vI (-4)), (0, .ref (xad X 122)), (1, vI p1), (2, vI p2), (3, vI p3)]) (pc := 55) dX12_even_55 rfl rfl ?_
        refine ok_sub (L' := [(0, .ref (xad X 122)), (1, vI p1), (2, vI p2), (3, vI p3), (4, vI (-4)), (5, vI (-4)), (6, vI 0), (7, vI 0), (8, vI p2)]) [5,6,7,8,4,3,2,1,0] rfl ?_
        obtain ⟨n13, h⟩ := h
        exact w_X12_even_57 X p1 p2 p3 hp1 hp2 hp3 n13 (-4) (-4) 0 0 p2 σ11 (r_lit rfl) (r_lit rfl) (r_lit rfl) (r_lit rfl) hp2 h
      · have h := iteT h q12
        refine ok_iconst (pc := 38) dX12_even_38 ?_
        exact ok_iret (pc := 39) dX12_even_39 rfl rfl rfl (r_lit rfl) h
theorem dX12_judge_0 : decode cX12_judge 0 = .ok (.iload_n 1, 1) := by decide +kernel
theorem dX12_judge_1 : decode cX12_judge 1 = .ok (.i2l, 1) := by decide +kernel
theorem dX12_judge_2 : decode cX12_judge 2 = .ok (.lconst 0, 1) := by decide +kernel
theorem dX12_judge_3 : decode cX12_judge 3 = .ok (.ldc2_w 269, 3) := by decide +kernel
theorem dX12_judge_6 : decode cX12_judge 6 = .ok (.invokestatic 137, 3) := by decide +kernel
theorem dX12_judge_9 : decode cX12_judge 9 = .ok (.ifCond .eq 41, 3) := by decide +kernel
theorem dX12_judge_12 : decode cX12_judge 12 = .ok (.iload_n 2, 1) := by decide +kernel
theorem dX12_judge_13 : decode cX12_judge 13 = .ok (.i2l, 1) := by decide +kernel
theorem dX12_judge_14 : decode cX12_judge 14 = .ok (.lconst 1, 1) := by decide +kernel
theorem dX12_judge_15 : decode cX12_judge 15 = .ok (.ldc2_w 235, 3) := by decide +kernel
theorem dX12_judge_18 : decode cX12_judge 18 = .ok (.invokestatic 137, 3) := by decide +kernel
theorem dX12_judge_21 : decode cX12_judge 21 = .ok (.ifCond .eq 29, 3) := by decide +kernel
theorem dX12_judge_24 : decode cX12_judge 24 = .ok (.iload_n 3, 1) := by decide +kernel
theorem dX12_judge_25 : decode cX12_judge 25 = .ok (.i2l, 1) := by decide +kernel
theorem dX12_judge_26 : decode cX12_judge 26 = .ok (.iload_n 2, 1) := by decide +kernel
theorem dX12_judge_27 : decode cX12_judge 27 = .ok (.i2l, 1) := by decide +kernel
theorem dX12_judge_28 : decode cX12_judge 28 = .ok (.lconst 1, 1) := by decide +kernel
theorem dX12_judge_29 : decode cX12_judge 29 = .ok (.ladd, 1) := by decide +kernel
theorem dX12_judge_30 : decode cX12_judge 30 = .ok (.ldc2_w 235, 3) := by decide +kernel
theorem dX12_judge_33 : decode cX12_judge 33 = .ok (.invokestatic 137, 3) := by decide +kernel
theorem dX12_judge_36 : decode cX12_judge 36 = .ok (.ifCond .eq 14, 3) := by decide +kernel
theorem dX12_judge_39 : decode cX12_judge 39 = .ok (.iload 4, 2) := by decide +kernel
theorem dX12_judge_41 : decode cX12_judge 41 = .ok (.i2l, 1) := by decide +kernel
theorem dX12_judge_42 : decode cX12_judge 42 = .ok (.lconst 0, 1) := by decide +kernel
theorem dX12_judge_43 : decode cX12_judge 43 = .ok (.lconst 1, 1) := by decide +kernel
theorem dX12_judge_44 : decode cX12_judge 44 = .ok (.invokestatic 137, 3) := by decide +kernel
theorem dX12_judge_47 : decode cX12_judge 47 = .ok (.ifCond .ne 5, 3) := by decide +kernel
theorem dX12_judge_50 : decode cX12_judge 50 = .ok (.iconst (-1), 1) := by decide +kernel
theorem dX12_judge_51 : decode cX12_judge 51 = .ok (.ireturn, 1) := by decide +kernel
theorem dX12_judge_52 : decode cX12_judge 52 = .ok (.aload_n 0, 1) := by decide +kernel
theorem dX12_judge_53 : decode cX12_judge 53 = .ok (.iload_n 1, 1) := by decide +kernel
theorem dX12_judge_54 : decode cX12_judge 54 = .ok (.iload_n 2, 1) := by decide +kernel
theorem dX12_judge_55 : decode cX12_judge 55 = .ok (.iload_n 3, 1) := by decide +kernel
theorem dX12_judge_56 : decode cX12_judge 56 = .ok (.invokevirtual 360, 3) := by decide +kernel
theorem dX12_judge_59 : decode cX12_judge 59 = .ok (.iload 4, 2) := by decide +kernel
theorem dX12_judge_61 : decode cX12_judge 61 = .ok (.ifCond .ne 10, 3) := by decide +kernel
theorem dX12_judge_64 : decode cX12_judge 64 = .ok (.aload_n 0, 1) := by decide +kernel
theorem dX12_judge_65 : decode cX12_judge 65 = .ok (.getfield 357, 3) := by decide +kernel
theorem dX12_judge_68 : decode cX12_judge 68 = .ok (.goto 7, 3) := by decide +kernel
theorem dX12_judge_71 : decode cX12_judge 71 = .ok (.aload_n 0, 1) := by decide +kernel
theorem dX12_judge_72 : decode cX12_judge 72 = .ok (.getfield 351, 3) := by decide +kernel
theorem dX12_judge_75 : decode cX12_judge 75 = .ok (.ireturn, 1) := by decide +kernel
set_option maxRecDepth 100000 in
set_option maxHeartbeats 4000000 in
theorem c_X12_judge (X : XE) (p1 : Int) (p2 : Int) (p3 : Int) (p4 : Int) (hp1 : inR p1) (hp2 : inR p2) (hp3 : inR p3) (hp4 : inR p4) {σ : Mem} {Q : Int → Mem → Prop} (h : v_X12_judge p1 p2 p3 p4 σ Q) : CT X yX12_judge cX12_judge 5 (some .int) rm_X12_judge 1 [.ref (xad X 122), vI p1, vI p2, vI p3, vI p4] σ Q := by
  refine ct_of (own := RX12) (L := [(0, .ref (xad X 122)), (1, vI p1), (2, vI p2), (3, vI p3), (4, vI p4)]) rfl rfl (Nat.le_of_ble_eq_true rfl) rfl ?_
  refine ok_iload_n 1 (pc := 0) dX12_judge_0 rfl rfl ?_
  refine ok_i2l (pc := 1) dX12_judge_1 hp1 ?_
  refine ok_lconst (v := 0) (pc := 2) dX12_judge_2 rfl ?_
  refine ok_ldc2 (pc := 3) dX12_judge_3 cn_X12_269 ?_
  refine ok_callSi (As := [vL p1, vL 0, vL 3]) (rest := []) (rm := rm_X12_in) (pc := 6) dX12_judge_6 me_X12_in ml_X12_137 des_X12_in rfl ⟨rfl, rfl, rfl, rfl⟩ rfl rfl (c_X12_in X p1 0 3 (l_of_r hp1) (l_of_r (r_lit rfl)) (l_of_r (r_lit rfl)) h) (fun r2 σ3 h1 h => ?_)
  refine ok_if_eq (tgt := 50) (pc := 9) dX12_judge_9 rfl h1 (fun q4 => ?_) (fun q4 => ?_)
  · have h := iteT h q4
    refine ok_iconst (pc := 50) dX12_judge_50 ?_
    exact ok_iret (pc := 51) dX12_judge_51 rfl rfl rfl (r_lit rfl) h
  · have h := iteF h q4
    refine ok_iload_n 2 (pc := 12) dX12_judge_12 rfl rfl ?_
    refine ok_i2l (pc := 13) dX12_judge_13 hp2 ?_
    refine ok_lconst (v := 1) (pc := 14) dX12_judge_14 rfl ?_
    refine ok_ldc2 (pc := 15) dX12_judge_15 cn_X12_235 ?_
    refine ok_callSi (As := [vL p2, vL 1, vL 999]) (rest := []) (rm := rm_X12_in) (pc := 18) dX12_judge_18 me_X12_in ml_X12_137 des_X12_in rfl ⟨rfl, rfl, rfl, rfl⟩ rfl rfl (c_X12_in X p2 1 999 (l_of_r hp2) (l_of_r (r_lit rfl)) (l_of_r (r_lit rfl)) h) (fun r6 σ7 h5 h => ?_)
    refine ok_if_eq (tgt := 50) (pc := 21) dX12_judge_21 rfl h5 (fun q8 => ?_) (fun q8 => ?_)
    · have h := iteT h q8
      refine ok_iconst (pc := 50) dX12_judge_50 ?_
      exact ok_iret (pc := 51) dX12_judge_51 rfl rfl rfl (r_lit rfl) h
    · have h := iteF h q8
      refine ok_iload_n 3 (pc := 24) dX12_judge_24 rfl rfl ?_
      refine ok_i2l (pc := 25) dX12_judge_25 hp3 ?_
      refine ok_iload_n 2 (pc := 26) dX12_judge_26 rfl rfl ?_
      refine ok_i2l (pc := 27) dX12_judge_27 hp2 ?_
      refine ok_lconst (v := 1) (pc := 28) dX12_judge_28 rfl ?_
      refine ok_ladd (pc := 29) dX12_judge_29 ?_
      refine ok_ldc2 (pc := 30) dX12_judge_30 cn_X12_235 ?_
      obtain ⟨h9, h⟩ := h
      refine ok_callSi (As := [vL p3, vL (p2 + 1), vL 999]) (rest := []) (rm := rm_X12_in) (pc := 33) dX12_judge_33 me_X12_in ml_X12_137 des_X12_in rfl ⟨rfl, rfl, rfl, rfl⟩ rfl rfl (c_X12_in X p3 (p2 + 1) 999 (l_of_r hp3) h9 (l_of_r (r_lit rfl)) h) (fun r11 σ12 h10 h => ?_)
      refine ok_if_eq (tgt := 50) (pc := 36) dX12_judge_36 rfl h10 (fun q13 => ?_) (fun q13 => ?_)
      · have h := iteT h q13
        refine ok_iconst (pc := 50) dX12_judge_50 ?_
        exact ok_iret (pc := 51) dX12_judge_51 rfl rfl rfl (r_lit rfl) h
      · have h := iteF h q13
        refine ok_iload 4 (pc := 39) dX12_judge_39 rfl ?_
        refine ok_i2l (pc := 41) dX12_judge_41 hp4 ?_
        refine ok_lconst (v := 0) (pc := 42) dX12_judge_42 rfl ?_
        refine ok_lconst (v := 1) (pc := 43) dX12_judge_43 rfl ?_
        refine ok_callSi (As := [vL p4, vL 0, vL 1]) (rest := []) (rm := rm_X12_in) (pc := 44) dX12_judge_44 me_X12_in ml_X12_137 des_X12_in rfl ⟨rfl, rfl, rfl, rfl⟩ rfl rfl (c_X12_in X p4 0 1 (l_of_r hp4) (l_of_r (r_lit rfl)) (l_of_r (r_lit rfl)) h) (fun r15 σ16 h14 h => ?_)
        refine ok_if_ne (tgt := 52) (pc := 47) dX12_judge_47 rfl h14 (fun q17 => ?_) (fun q17 => ?_)
        · have h := iteF h q17
          refine ok_aload_n 0 (pc := 52) dX12_judge_52 rfl rfl ?_
          refine ok_iload_n 1 (pc := 53) dX12_judge_53 rfl rfl ?_
          refine ok_iload_n 2 (pc := 54) dX12_judge_54 rfl rfl ?_
          refine ok_iload_n 3 (pc := 55) dX12_judge_55 rfl rfl ?_
          refine ok_callVv (As := [vI p1, vI p2, vI p3]) (rest := []) (rm := rm_X12_judgeEdges) (pc := 56) dX12_judge_56 me_X12_judgeEdges ml_X12_360 (ci := 12) rfl sh_122 (Nat.le_of_ble_eq_true rfl) rfl des_X12_judgeEdges rfl ⟨rfl, rfl, rfl, rfl⟩ rfl rfl (c_X12_judgeEdges X p1 p2 p3 hp1 hp2 hp3 h) (fun σ20 h => ?_)
          refine ok_iload 4 (pc := 59) dX12_judge_59 rfl ?_
          refine ok_if_ne (tgt := 71) (pc := 61) dX12_judge_61 rfl hp4 (fun q21 => ?_) (fun q21 => ?_)
          · have h := iteF h q21
            refine ok_aload_n 0 (pc := 71) dX12_judge_71 rfl rfl ?_
            refine ok_wf (fun hw22 => ?_)
            refine ok_getI (pc := 72) dX12_judge_72 fl_X12_351 sh_122 (Nat.le_of_ble_eq_true rfl) rfl rfl ?_
            exact ok_iret (pc := 75) dX12_judge_75 rfl rfl rfl (hw22 _ _) h
          · have h := iteT h q21
            refine ok_aload_n 0 (pc := 64) dX12_judge_64 rfl rfl ?_
            refine ok_wf (fun hw23 => ?_)
            refine ok_getI (pc := 65) dX12_judge_65 fl_X12_357 sh_122 (Nat.le_of_ble_eq_true rfl) rfl rfl ?_
            refine ok_goto (tgt := 75) (pc := 68) dX12_judge_68 rfl ?_
            exact ok_iret (pc := 75) dX12_judge_75 rfl rfl rfl (hw23 _ _) h
        · have h := iteT h q17
          refine ok_iconst (pc := 50) dX12_judge_50 ?_
          exact ok_iret (pc := 51) dX12_judge_51 rfl rfl rfl (r_lit rfl) h
theorem dX12_hold_0 : decode cX12_hold 0 = .ok (.aload_n 0, 1) := by decide +kernel
theorem dX12_hold_1 : decode cX12_hold 1 = .ok (.iload_n 1, 1) := by decide +kernel
theorem dX12_hold_2 : decode cX12_hold 2 = .ok (.invokevirtual 257, 3) := by decide +kernel
theorem dX12_hold_5 : decode cX12_hold 5 = .ok (.ifCond .ne 5, 3) := by decide +kernel
theorem dX12_hold_8 : decode cX12_hold 8 = .ok (.iconst (-1), 1) := by decide +kernel
theorem dX12_hold_9 : decode cX12_hold 9 = .ok (.ireturn, 1) := by decide +kernel
theorem dX12_hold_10 : decode cX12_hold 10 = .ok (.aload_n 0, 1) := by decide +kernel
theorem dX12_hold_11 : decode cX12_hold 11 = .ok (.getfield 86, 3) := by decide +kernel
theorem dX12_hold_14 : decode cX12_hold 14 = .ok (.bipush (-4), 2) := by decide +kernel
theorem dX12_hold_16 : decode cX12_hold 16 = .ok (.if_icmp .eq 14, 3) := by decide +kernel
theorem dX12_hold_19 : decode cX12_hold 19 = .ok (.aload_n 0, 1) := by decide +kernel
theorem dX12_hold_20 : decode cX12_hold 20 = .ok (.invokevirtual 324, 3) := by decide +kernel
theorem dX12_hold_23 : decode cX12_hold 23 = .ok (.iload_n 1, 1) := by decide +kernel
theorem dX12_hold_24 : decode cX12_hold 24 = .ok (.ishr, 1) := by decide +kernel
theorem dX12_hold_25 : decode cX12_hold 25 = .ok (.iconst 1, 1) := by decide +kernel
theorem dX12_hold_26 : decode cX12_hold 26 = .ok (.iand, 1) := by decide +kernel
theorem dX12_hold_27 : decode cX12_hold 27 = .ok (.ifCond .ne 6, 3) := by decide +kernel
theorem dX12_hold_30 : decode cX12_hold 30 = .ok (.bipush (-2), 2) := by decide +kernel
theorem dX12_hold_32 : decode cX12_hold 32 = .ok (.ireturn, 1) := by decide +kernel
theorem dX12_hold_33 : decode cX12_hold 33 = .ok (.aload_n 0, 1) := by decide +kernel
theorem dX12_hold_34 : decode cX12_hold 34 = .ok (.getfield 363, 3) := by decide +kernel
theorem dX12_hold_37 : decode cX12_hold 37 = .ok (.bipush 12, 2) := by decide +kernel
theorem dX12_hold_39 : decode cX12_hold 39 = .ok (.if_icmp .ne 6, 3) := by decide +kernel
theorem dX12_hold_42 : decode cX12_hold 42 = .ok (.bipush (-3), 2) := by decide +kernel
theorem dX12_hold_44 : decode cX12_hold 44 = .ok (.ireturn, 1) := by decide +kernel
theorem dX12_hold_45 : decode cX12_hold 45 = .ok (.aload_n 0, 1) := by decide +kernel
theorem dX12_hold_46 : decode cX12_hold 46 = .ok (.getfield 108, 3) := by decide +kernel
theorem dX12_hold_49 : decode cX12_hold 49 = .ok (.aload_n 0, 1) := by decide +kernel
theorem dX12_hold_50 : decode cX12_hold 50 = .ok (.getfield 363, 3) := by decide +kernel
theorem dX12_hold_53 : decode cX12_hold 53 = .ok (.iload_n 1, 1) := by decide +kernel
theorem dX12_hold_54 : decode cX12_hold 54 = .ok (.iastore, 1) := by decide +kernel
theorem dX12_hold_55 : decode cX12_hold 55 = .ok (.aload_n 0, 1) := by decide +kernel
theorem dX12_hold_56 : decode cX12_hold 56 = .ok (.getfield 111, 3) := by decide +kernel
theorem dX12_hold_59 : decode cX12_hold 59 = .ok (.aload_n 0, 1) := by decide +kernel
theorem dX12_hold_60 : decode cX12_hold 60 = .ok (.getfield 363, 3) := by decide +kernel
theorem dX12_hold_63 : decode cX12_hold 63 = .ok (.aload_n 0, 1) := by decide +kernel
theorem dX12_hold_64 : decode cX12_hold 64 = .ok (.getfield 132, 3) := by decide +kernel
theorem dX12_hold_67 : decode cX12_hold 67 = .ok (.iastore, 1) := by decide +kernel
theorem dX12_hold_68 : decode cX12_hold 68 = .ok (.aload_n 0, 1) := by decide +kernel
theorem dX12_hold_69 : decode cX12_hold 69 = .ok (.getfield 114, 3) := by decide +kernel
theorem dX12_hold_72 : decode cX12_hold 72 = .ok (.aload_n 0, 1) := by decide +kernel
theorem dX12_hold_73 : decode cX12_hold 73 = .ok (.getfield 363, 3) := by decide +kernel
theorem dX12_hold_76 : decode cX12_hold 76 = .ok (.aload_n 0, 1) := by decide +kernel
theorem dX12_hold_77 : decode cX12_hold 77 = .ok (.getfield 86, 3) := by decide +kernel
theorem dX12_hold_80 : decode cX12_hold 80 = .ok (.iastore, 1) := by decide +kernel
theorem dX12_hold_81 : decode cX12_hold 81 = .ok (.aload_n 0, 1) := by decide +kernel
theorem dX12_hold_82 : decode cX12_hold 82 = .ok (.getfield 117, 3) := by decide +kernel
theorem dX12_hold_85 : decode cX12_hold 85 = .ok (.aload_n 0, 1) := by decide +kernel
theorem dX12_hold_86 : decode cX12_hold 86 = .ok (.getfield 363, 3) := by decide +kernel
theorem dX12_hold_89 : decode cX12_hold 89 = .ok (.iconst 0, 1) := by decide +kernel
theorem dX12_hold_90 : decode cX12_hold 90 = .ok (.iastore, 1) := by decide +kernel
theorem dX12_hold_91 : decode cX12_hold 91 = .ok (.aload_n 0, 1) := by decide +kernel
theorem dX12_hold_92 : decode cX12_hold 92 = .ok (.dup, 1) := by decide +kernel
theorem dX12_hold_93 : decode cX12_hold 93 = .ok (.getfield 363, 3) := by decide +kernel
theorem dX12_hold_96 : decode cX12_hold 96 = .ok (.iconst 1, 1) := by decide +kernel
theorem dX12_hold_97 : decode cX12_hold 97 = .ok (.iadd, 1) := by decide +kernel
theorem dX12_hold_98 : decode cX12_hold 98 = .ok (.putfield 363, 3) := by decide +kernel
theorem dX12_hold_101 : decode cX12_hold 101 = .ok (.aload_n 0, 1) := by decide +kernel
theorem dX12_hold_102 : decode cX12_hold 102 = .ok (.getfield 363, 3) := by decide +kernel
theorem dX12_hold_105 : decode cX12_hold 105 = .ok (.iconst 1, 1) := by decide +kernel
theorem dX12_hold_106 : decode cX12_hold 106 = .ok (.isub, 1) := by decide +kernel
theorem dX12_hold_107 : decode cX12_hold 107 = .ok (.ireturn, 1) := by decide +kernel
set_option maxRecDepth 100000 in
set_option maxHeartbeats 4000000 in
theorem c_X12_hold (X : XE) (p1 : Int) (hp1 : inR p1) {σ : Mem} {Q : Int → Mem → Prop} (h : v_X12_hold p1 σ Q) : CT X yX12_hold cX12_hold 2 (some .int) rm_X12_hold 1 [.ref (xad X 122), vI p1] σ Q := by
  refine ct_of (own := RX12) (L := [(0, .ref (xad X 122)), (1, vI p1)]) rfl rfl (Nat.le_of_ble_eq_true rfl) rfl ?_
  refine ok_aload_n 0 (pc := 0) dX12_hold_0 rfl rfl ?_
  refine ok_iload_n 1 (pc := 1) dX12_hold_1 rfl rfl ?_
  refine ok_callVi (As := [vI p1]) (rest := []) (rm := rm_X12_isCard) (pc := 2) dX12_hold_2 me_X12_isCard ml_X12_257 (ci := 12) rfl sh_122 (Nat.le_of_ble_eq_true rfl) rfl des_X12_isCard rfl ⟨rfl, rfl, rfl, rfl⟩ rfl rfl (c_X12_isCard X p1 hp1 h) (fun r2 σ3 h1 h => ?_)
  refine ok_if_ne (tgt := 10) (pc := 5) dX12_hold_5 rfl h1 (fun q4 => ?_) (fun q4 => ?_)
  · have h := iteF h q4
    refine ok_aload_n 0 (pc := 10) dX12_hold_10 rfl rfl ?_
    refine ok_wf (fun hw5 => ?_)
    refine ok_getI (pc := 11) dX12_hold_11 fl_X12_86 sh_122 (Nat.le_of_ble_eq_true rfl) rfl rfl ?_
    refine ok_bipush (pc := 14) dX12_hold_14 rfl ?_
    refine ok_icmp_eq (tgt := 30) (pc := 16) dX12_hold_16 rfl (hw5 _ _) (r_lit rfl) (fun q6 => ?_) (fun q6 => ?_)
    · have h := iteT h q6
      refine ok_bipush (pc := 30) dX12_hold_30 rfl ?_
      exact ok_iret (pc := 32) dX12_hold_32 rfl rfl rfl (r_lit rfl) h
    · have h := iteF h q6
      refine ok_aload_n 0 (pc := 19) dX12_hold_19 rfl rfl ?_
      refine ok_callVi (As := []) (rest := []) (rm := rm_X12_matches) (pc := 20) dX12_hold_20 me_X12_matches ml_X12_324 (ci := 12) rfl sh_122 (Nat.le_of_ble_eq_true rfl) rfl des_X12_matches rfl ⟨rfl, rfl, rfl, rfl⟩ rfl rfl (c_X12_matches X h) (fun r8 σ9 h7 h => ?_)
      refine ok_iload_n 1 (pc := 23) dX12_hold_23 rfl rfl ?_
      refine ok_ishr (pc := 24) dX12_hold_24 ?_
      refine ok_iconst (pc := 25) dX12_hold_25 ?_
      refine ok_iand (pc := 26) dX12_hold_26 ?_
      refine ok_if_ne (tgt := 33) (pc := 27) dX12_hold_27 rfl (q_rng _) (fun q10 => ?_) (fun q10 => ?_)
      · have h := iteF h q10
        refine ok_aload_n 0 (pc := 33) dX12_hold_33 rfl rfl ?_
        refine ok_wf (fun hw11 => ?_)
        refine ok_getI (pc := 34) dX12_hold_34 fl_X12_363 sh_122 (Nat.le_of_ble_eq_true rfl) rfl rfl ?_
        refine ok_bipush (pc := 37) dX12_hold_37 rfl ?_
        refine ok_icmp_ne (tgt := 45) (pc := 39) dX12_hold_39 rfl (hw11 _ _) (r_lit rfl) (fun q12 => ?_) (fun q12 => ?_)
        · have h := iteF h q12
          refine ok_aload_n 0 (pc := 45) dX12_hold_45 rfl rfl ?_
          refine ok_getR (pc := 46) dX12_hold_46 fl_X12_108 sh_122 (Nat.le_of_ble_eq_true rfl) rfl rfl ?_
          refine ok_aload_n 0 (pc := 49) dX12_hold_49 rfl rfl ?_
          refine ok_getI (pc := 50) dX12_hold_50 fl_X12_363 sh_122 (Nat.le_of_ble_eq_true rfl) rfl rfl ?_
          refine ok_iload_n 1 (pc := 53) dX12_hold_53 rfl rfl ?_
          obtain ⟨h13, h⟩ := h
          obtain ⟨h14, h⟩ := h
          refine ok_iast (pc := 54) dX12_hold_54 sh_154 (Nat.le_of_ble_eq_true rfl) rfl h13 h14 hp1 ?_
          refine ok_aload_n 0 (pc := 55) dX12_hold_55 rfl rfl ?_
          refine ok_getR (pc := 56) dX12_hold_56 fl_X12_111 sh_122 (Nat.le_of_ble_eq_true rfl) rfl rfl ?_
          refine ok_aload_n 0 (pc := 59) dX12_hold_59 rfl rfl ?_
          refine ok_wf (fun hw15 => ?_)
          refine ok_getI (pc := 60) dX12_hold_60 fl_X12_363 sh_122 (Nat.le_of_ble_eq_true rfl) rfl rfl ?_
          have e16 : ((mset σ9 154 ((σ9 122 52).toNat) p1) 122 52) = (σ9 122 52) := (mset_ne (by omega))
          refine ok_top e16 ?_
          refine ok_aload_n 0 (pc := 63) dX12_hold_63 rfl rfl ?_
          refine ok_getI (pc := 64) dX12_hold_64 fl_X12_132 sh_122 (Nat.le_of_ble_eq_true rfl) rfl rfl ?_
          have e18 : ((mset σ9 154 ((σ9 122 52).toNat) p1) 122 0) = (σ9 122 0) := (mset_ne (by omega))
          refine ok_top e18 ?_
          refine ok_iast (pc := 67) dX12_hold_67 sh_155 (Nat.le_of_ble_eq_true rfl) rfl h13 h14 (e18 ▸ hw15 _ _) ?_
          refine ok_aload_n 0 (pc := 68) dX12_hold_68 rfl rfl ?_
          refine ok_getR (pc := 69) dX12_hold_69 fl_X12_114 sh_122 (Nat.le_of_ble_eq_true rfl) rfl rfl ?_
          refine ok_aload_n 0 (pc := 72) dX12_hold_72 rfl rfl ?_
          refine ok_wf (fun hw20 => ?_)
          refine ok_getI (pc := 73) dX12_hold_73 fl_X12_363 sh_122 (Nat.le_of_ble_eq_true rfl) rfl rfl ?_
          have e21 : ((mset (mset σ9 154 ((σ9 122 52).toNat) p1) 155 ((σ9 122 52).toNat) (σ9 122 0)) 122 52) = (σ9 122 52) := (mset_ne (by omega)).trans (mset_ne (by omega))
          refine ok_top e21 ?_
          refine ok_aload_n 0 (pc := 76) dX12_hold_76 rfl rfl ?_
          refine ok_getI (pc := 77) dX12_hold_77 fl_X12_86 sh_122 (Nat.le_of_ble_eq_true rfl) rfl rfl ?_
          have e23 : ((mset (mset σ9 154 ((σ9 122 52).toNat) p1) 155 ((σ9 122 52).toNat) (σ9 122 0)) 122 39) = (σ9 122 39) := (mset_ne (by omega)).trans (mset_ne (by omega))
          refine ok_top e23 ?_
          refine ok_iast (pc := 80) dX12_hold_80 sh_156 (Nat.le_of_ble_eq_true rfl) rfl h13 h14 (e23 ▸ hw20 _ _) ?_
          refine ok_aload_n 0 (pc := 81) dX12_hold_81 rfl rfl ?_
          refine ok_getR (pc := 82) dX12_hold_82 fl_X12_117 sh_122 (Nat.le_of_ble_eq_true rfl) rfl rfl ?_
          refine ok_aload_n 0 (pc := 85) dX12_hold_85 rfl rfl ?_
          refine ok_wf (fun hw25 => ?_)
          refine ok_getI (pc := 86) dX12_hold_86 fl_X12_363 sh_122 (Nat.le_of_ble_eq_true rfl) rfl rfl ?_
          have e26 : ((mset (mset (mset σ9 154 ((σ9 122 52).toNat) p1) 155 ((σ9 122 52).toNat) (σ9 122 0)) 156 ((σ9 122 52).toNat) (σ9 122 39)) 122 52) = (σ9 122 52) := (mset_ne (by omega)).trans ((mset_ne (by omega)).trans (mset_ne (by omega)))
          refine ok_top e26 ?_
          refine ok_iconst (pc := 89) dX12_hold_89 ?_
          refine ok_iast (pc := 90) dX12_hold_90 sh_157 (Nat.le_of_ble_eq_true rfl) rfl h13 h14 (r_lit rfl) ?_
          refine ok_aload_n 0 (pc := 91) dX12_hold_91 rfl rfl ?_
          refine ok_dup (pc := 92) dX12_hold_92 rfl ?_
          refine ok_wf (fun hw28 => ?_)
          refine ok_getI (pc := 93) dX12_hold_93 fl_X12_363 sh_122 (Nat.le_of_ble_eq_true rfl) rfl rfl ?_
          have e29 : ((mset (mset (mset (mset σ9 154 ((σ9 122 52).toNat) p1) 155 ((σ9 122 52).toNat) (σ9 122 0)) 156 ((σ9 122 52).toNat) (σ9 122 39)) 157 ((σ9 122 52).toNat) 0) 122 52) = (σ9 122 52) := (mset_ne (by omega)).trans ((mset_ne (by omega)).trans ((mset_ne (by omega)).trans (mset_ne (by omega))))
          refine ok_top e29 ?_
          refine ok_iconst (pc := 96) dX12_hold_96 ?_
          refine ok_iadd (pc := 97) dX12_hold_97 ?_
          obtain ⟨h31, h⟩ := h
          refine ok_putI (pc := 98) dX12_hold_98 fl_X12_363 fp_X12_52 sh_122 (Nat.le_of_ble_eq_true rfl) rfl rfl h31 rfl rfl ?_
          refine ok_aload_n 0 (pc := 101) dX12_hold_101 rfl rfl ?_
          refine ok_wf (fun hw32 => ?_)
          refine ok_getI (pc := 102) dX12_hold_102 fl_X12_363 sh_122 (Nat.le_of_ble_eq_true rfl) rfl rfl ?_
          have e33 : ((mset (mset (mset (mset (mset σ9 154 ((σ9 122 52).toNat) p1) 155 ((σ9 122 52).toNat) (σ9 122 0)) 156 ((σ9 122 52).toNat) (σ9 122 39)) 157 ((σ9 122 52).toNat) 0) 122 52 ((σ9 122 52) + 1)) 122 52) = ((σ9 122 52) + 1) := mset_eq
          refine ok_top e33 ?_
          refine ok_iconst (pc := 105) dX12_hold_105 ?_
          refine ok_isub (pc := 106) dX12_hold_106 ?_
          obtain ⟨h34, h⟩ := h
          exact ok_iret (pc := 107) dX12_hold_107 rfl rfl rfl h34 h
        · have h := iteT h q12
          refine ok_bipush (pc := 42) dX12_hold_42 rfl ?_
          exact ok_iret (pc := 44) dX12_hold_44 rfl rfl rfl (r_lit rfl) h
      · have h := iteT h q10
        refine ok_bipush (pc := 30) dX12_hold_30 rfl ?_
        exact ok_iret (pc := 32) dX12_hold_32 rfl rfl rfl (r_lit rfl) h
  · have h := iteT h q4
    refine ok_iconst (pc := 8) dX12_hold_8 ?_
    exact ok_iret (pc := 9) dX12_hold_9 rfl rfl rfl (r_lit rfl) h
theorem dX12_leaned_0 : decode cX12_leaned 0 = .ok (.iconst 0, 1) := by decide +kernel
theorem dX12_leaned_1 : decode cX12_leaned 1 = .ok (.istore_n 2, 1) := by decide +kernel
theorem dX12_leaned_2 : decode cX12_leaned 2 = .ok (.iconst 0, 1) := by decide +kernel
theorem dX12_leaned_3 : decode cX12_leaned 3 = .ok (.istore_n 3, 1) := by decide +kernel
theorem dX12_leaned_4 : decode cX12_leaned 4 = .ok (.iload_n 3, 1) := by decide +kernel
theorem dX12_leaned_5 : decode cX12_leaned 5 = .ok (.aload_n 0, 1) := by decide +kernel
theorem dX12_leaned_6 : decode cX12_leaned 6 = .ok (.getfield 363, 3) := by decide +kernel
theorem dX12_leaned_9 : decode cX12_leaned 9 = .ok (.if_icmp .ge 85, 3) := by decide +kernel
theorem dX12_leaned_12 : decode cX12_leaned 12 = .ok (.aload_n 0, 1) := by decide +kernel
theorem dX12_leaned_13 : decode cX12_leaned 13 = .ok (.getfield 108, 3) := by decide +kernel
theorem dX12_leaned_16 : decode cX12_leaned 16 = .ok (.iload_n 3, 1) := by decide +kernel
theorem dX12_leaned_17 : decode cX12_leaned 17 = .ok (.iaload, 1) := by decide +kernel
theorem dX12_leaned_18 : decode cX12_leaned 18 = .ok (.aload_n 0, 1) := by decide +kernel
theorem dX12_leaned_19 : decode cX12_leaned 19 = .ok (.getfield 108, 3) := by decide +kernel
theorem dX12_leaned_22 : decode cX12_leaned 22 = .ok (.iload_n 1, 1) := by decide +kernel
theorem dX12_leaned_23 : decode cX12_leaned 23 = .ok (.iaload, 1) := by decide +kernel
theorem dX12_leaned_24 : decode cX12_leaned 24 = .ok (.if_icmp .eq 22, 3) := by decide +kernel
theorem dX12_leaned_27 : decode cX12_leaned 27 = .ok (.aload_n 0, 1) := by decide +kernel
theorem dX12_leaned_28 : decode cX12_leaned 28 = .ok (.aload_n 0, 1) := by decide +kernel
theorem dX12_leaned_29 : decode cX12_leaned 29 = .ok (.getfield 108, 3) := by decide +kernel
theorem dX12_leaned_32 : decode cX12_leaned 32 = .ok (.iload_n 3, 1) := by decide +kernel
theorem dX12_leaned_33 : decode cX12_leaned 33 = .ok (.iaload, 1) := by decide +kernel
theorem dX12_leaned_34 : decode cX12_leaned 34 = .ok (.aload_n 0, 1) := by decide +kernel
theorem dX12_leaned_35 : decode cX12_leaned 35 = .ok (.getfield 108, 3) := by decide +kernel
theorem dX12_leaned_38 : decode cX12_leaned 38 = .ok (.iload_n 1, 1) := by decide +kernel
theorem dX12_leaned_39 : decode cX12_leaned 39 = .ok (.iaload, 1) := by decide +kernel
theorem dX12_leaned_40 : decode cX12_leaned 40 = .ok (.invokevirtual 344, 3) := by decide +kernel
theorem dX12_leaned_43 : decode cX12_leaned 43 = .ok (.ifCond .eq 7, 3) := by decide +kernel
theorem dX12_leaned_46 : decode cX12_leaned 46 = .ok (.iconst 1, 1) := by decide +kernel
theorem dX12_leaned_47 : decode cX12_leaned 47 = .ok (.goto 4, 3) := by decide +kernel
theorem dX12_leaned_50 : decode cX12_leaned 50 = .ok (.iconst 0, 1) := by decide +kernel
theorem dX12_leaned_51 : decode cX12_leaned 51 = .ok (.istore 4, 2) := by decide +kernel
theorem dX12_leaned_53 : decode cX12_leaned 53 = .ok (.iload_n 2, 1) := by decide +kernel
theorem dX12_leaned_54 : decode cX12_leaned 54 = .ok (.iload_n 3, 1) := by decide +kernel
theorem dX12_leaned_55 : decode cX12_leaned 55 = .ok (.iload_n 1, 1) := by decide +kernel
theorem dX12_leaned_56 : decode cX12_leaned 56 = .ok (.if_icmp .eq 29, 3) := by decide +kernel
theorem dX12_leaned_59 : decode cX12_leaned 59 = .ok (.aload_n 0, 1) := by decide +kernel
theorem dX12_leaned_60 : decode cX12_leaned 60 = .ok (.getfield 111, 3) := by decide +kernel
theorem dX12_leaned_63 : decode cX12_leaned 63 = .ok (.iload_n 3, 1) := by decide +kernel
theorem dX12_leaned_64 : decode cX12_leaned 64 = .ok (.iaload, 1) := by decide +kernel
theorem dX12_leaned_65 : decode cX12_leaned 65 = .ok (.aload_n 0, 1) := by decide +kernel
theorem dX12_leaned_66 : decode cX12_leaned 66 = .ok (.getfield 111, 3) := by decide +kernel
theorem dX12_leaned_69 : decode cX12_leaned 69 = .ok (.iload_n 1, 1) := by decide +kernel
theorem dX12_leaned_70 : decode cX12_leaned 70 = .ok (.iaload, 1) := by decide +kernel
theorem dX12_leaned_71 : decode cX12_leaned 71 = .ok (.if_icmp .lt 14, 3) := by decide +kernel
theorem dX12_leaned_74 : decode cX12_leaned 74 = .ok (.iload 4, 2) := by decide +kernel
theorem dX12_leaned_76 : decode cX12_leaned 76 = .ok (.ifCond .eq 9, 3) := by decide +kernel
theorem dX12_leaned_79 : decode cX12_leaned 79 = .ok (.iconst 1, 1) := by decide +kernel
theorem dX12_leaned_80 : decode cX12_leaned 80 = .ok (.iload_n 3, 1) := by decide +kernel
theorem dX12_leaned_81 : decode cX12_leaned 81 = .ok (.ishl, 1) := by decide +kernel
theorem dX12_leaned_82 : decode cX12_leaned 82 = .ok (.goto 4, 3) := by decide +kernel
theorem dX12_leaned_85 : decode cX12_leaned 85 = .ok (.iconst 0, 1) := by decide +kernel
theorem dX12_leaned_86 : decode cX12_leaned 86 = .ok (.ior, 1) := by decide +kernel
theorem dX12_leaned_87 : decode cX12_leaned 87 = .ok (.istore_n 2, 1) := by decide +kernel
theorem dX12_leaned_88 : decode cX12_leaned 88 = .ok (.iinc 3 1, 3) := by decide +kernel
theorem dX12_leaned_91 : decode cX12_leaned 91 = .ok (.goto (-87), 3) := by decide +kernel
theorem dX12_leaned_94 : decode cX12_leaned 94 = .ok (.iload_n 2, 1) := by decide +kernel
theorem dX12_leaned_95 : decode cX12_leaned 95 = .ok (.ireturn, 1) := by decide +kernel
set_option maxRecDepth 100000 in
set_option maxHeartbeats 4000000 in
theorem w_X12_leaned_85 (X : XE) (p1 : Int) (hp1 : inR p1) (x3 : Int) (s0 : Int) (hx3 : inR x3) (hs0 : inR s0) {K4 : Int → Int → Mem → Prop} {Q : Int → Mem → Prop} (hK4 : ∀ (x2 : Int) (x3 : Int) (σ : Mem), inR x2 → inR x3 → K4 x2 x3 σ → ok X rm_X12_leaned RX12 cX12_leaned 5 (some .int) 1 Q 4 [(0, .ref (xad X 122)), (1, vI p1), (2, vI x2), (3, vI x3)] [] σ) {σ : Mem} (h : j_X12_leaned_85 p1 K4 Q x3 s0 σ) : ok X rm_X12_leaned RX12 cX12_leaned 5 (some .int) 1 Q 85 [(0, .ref (xad X 122)), (1, vI p1), (3, vI x3)] [vI s0] σ := by
  refine ok_iconst (pc := 85) dX12_leaned_85 ?_
  refine ok_ior (pc := 86) dX12_leaned_86 ?_
  refine ok_istore_n (L' := [(2, vI (ior s0 0)), (0, .ref (xad X 122)), (1, vI p1), (3, vI x3)]) (pc := 87) dX12_leaned_87 rfl rfl rfl ?_
  refine ok_iinc (L' := [(3, vI (x3 + 1)), (2, vI (ior s0 0)), (0, .ref (xad X 122)), (1, vI p1)]) 3 (pc := 88) dX12_leaned_88 rfl rfl rfl ?_
  refine ok_goto (tgt := 4) (pc := 91) dX12_leaned_91 rfl ?_
  obtain ⟨h1, h⟩ := h
  refine ok_sub (L' := [(0, .ref (xad X 122)), (1, vI p1), (2, vI (ior s0 0)), (3, vI (x3 + 1))]) [2,3,1,0] rfl ?_
  exact hK4 (ior s0 0) (x3 + 1) σ (q_rng _) h1 h
set_option maxRecDepth 100000 in
set_option maxHeartbeats 4000000 in
theorem w_X12_leaned_51 (X : XE) (p1 : Int) (hp1 : inR p1) (x2 : Int) (x3 : Int) (s0 : Int) (hx2 : inR x2) (hx3 : inR x3) (hs0 : inR s0) {K4 : Int → Int → Mem → Prop} {Q : Int → Mem → Prop} (hK4 : ∀ (x2 : Int) (x3 : Int) (σ : Mem), inR x2 → inR x3 → K4 x2 x3 σ → ok X rm_X12_leaned RX12 cX12_leaned 5 (some .int) 1 Q 4 [(0, .ref (xad X 122)), (1, vI p1), (2, vI x2), (3, vI x3)] [] σ) {σ : Mem} (h : j_X12_leaned_51 p1 K4 Q x2 x3 s0 σ) : ok X rm_X12_leaned RX12 cX12_leaned 5 (some .int) 1 Q 51 [(0, .ref (xad X 122)), (1, vI p1), (2, vI x2), (3, vI x3)] [vI s0] σ := by
  refine ok_istore (L' := [(4, vI s0), (0, .ref (xad X 122)), (1, vI p1), (2, vI x2), (3, vI x3)]) (pc := 51) dX12_leaned_51 rfl rfl ?_
  refine ok_iload_n 3 (pc := 53) dX12_leaned_53 rfl rfl ?_
  refine ok_iload_n 4 (pc := 54) dX12_leaned_54 rfl rfl ?_
  refine ok_iload_n 2 (pc := 55) dX12_leaned_55 rfl rfl ?_
  refine ok_icmp_eq (tgt := 85) (pc := 56) dX12_leaned_56 rfl hx3 hp1 (fun q1 => ?_) (fun q1 => ?_)
  · have h := iteT h q1
    refine ok_sub (L' := [(0, .ref (xad X 122)), (1, vI p1), (3, vI x3)]) [1,2,4] rfl ?_
    exact w_X12_leaned_85 X p1 hp1 x3 x2 hx3 hx2 hK4 h
  · have h := iteF h q1
    refine ok_aload_n 1 (pc := 59) dX12_leaned_59 rfl rfl ?_
    refine ok_getR (pc := 60) dX12_leaned_60 fl_X12_111 sh_122 (Nat.le_of_ble_eq_true rfl) rfl rfl ?_
    refine ok_iload_n 4 (pc := 63) dX12_leaned_63 rfl rfl ?_
    obtain ⟨h2, h⟩ := h
    obtain ⟨h3, h⟩ := h
    refine ok_wf (fun hw4 => ?_)
    refine ok_iald (pc := 64) dX12_leaned_64 sh_155 (Nat.le_of_ble_eq_true rfl) rfl h2 h3 ?_
    refine ok_aload_n 1 (pc := 65) dX12_leaned_65 rfl rfl ?_
    refine ok_getR (pc := 66) dX12_leaned_66 fl_X12_111 sh_122 (Nat.le_of_ble_eq_true rfl) rfl rfl ?_
    refine ok_iload_n 2 (pc := 69) dX12_leaned_69 rfl rfl ?_
    obtain ⟨h5, h⟩ := h
    obtain ⟨h6, h⟩ := h
    refine ok_iald (pc := 70) dX12_leaned_70 sh_155 (Nat.le_of_ble_eq_true rfl) rfl h5 h6 ?_
    refine ok_icmp_lt (tgt := 85) (pc := 71) dX12_leaned_71 rfl (hw4 _ _) (hw4 _ _) (fun q7 => ?_) (fun q7 => ?_)
    · have h := iteT h q7
      refine ok_sub (L' := [(0, .ref (xad X 122)), (1, vI p1), (3, vI x3)]) [1,2,4] rfl ?_
      exact w_X12_leaned_85 X p1 hp1 x3 x2 hx3 hx2 hK4 h
    · have h := iteF h q7
      refine ok_iload 0 (pc := 74) dX12_leaned_74 rfl ?_
      refine ok_if_eq (tgt := 85) (pc := 76) dX12_leaned_76 rfl hs0 (fun q8 => ?_) (fun q8 => ?_)
      · have h := iteT h q8
        refine ok_sub (L' := [(0, .ref (xad X 122)), (1, vI p1), (3, vI x3)]) [1,2,4] rfl ?_
        exact w_X12_leaned_85 X p1 hp1 x3 x2 hx3 hx2 hK4 h
      · have h := iteF h q8
        refine ok_iconst (pc := 79) dX12_leaned_79 ?_
        refine ok_iload_n 4 (pc := 80) dX12_leaned_80 rfl rfl ?_
        refine ok_ishl (pc := 81) dX12_leaned_81 ?_
        refine ok_goto (tgt := 86) (pc := 82) dX12_leaned_82 rfl ?_
        refine ok_ior (pc := 86) dX12_leaned_86 ?_
        refine ok_istore_n (L' := [(2, vI (ior x2 (ishl 1 x3))), (4, vI s0), (0, .ref (xad X 122)), (1, vI p1), (3, vI x3)]) (pc := 87) dX12_leaned_87 rfl rfl rfl ?_
        refine ok_iinc (L' := [(3, vI (x3 + 1)), (2, vI (ior x2 (ishl 1 x3))), (4, vI s0), (0, .ref (xad X 122)), (1, vI p1)]) 4 (pc := 88) dX12_leaned_88 rfl rfl rfl ?_
        refine ok_goto (tgt := 4) (pc := 91) dX12_leaned_91 rfl ?_
        obtain ⟨h9, h⟩ := h
        refine ok_sub (L' := [(0, .ref (xad X 122)), (1, vI p1), (2, vI (ior x2 (ishl 1 x3))), (3, vI (x3 + 1))]) [3,4,1,0] rfl ?_
        exact hK4 (ior x2 (ishl 1 x3)) (x3 + 1) σ (q_rng _) h9 h
set_option maxRecDepth 100000 in
set_option maxHeartbeats 4000000 in
theorem w_X12_leaned_4 (X : XE) (p1 : Int) (hp1 : inR p1) {Q : Int → Mem → Prop} : ∀ (n : Nat) (x2 : Int) (x3 : Int) (σ : Mem), inR x2 → inR x3 → l_X12_leaned_4 p1 Q n x2 x3 σ → ok X rm_X12_leaned RX12 cX12_leaned 5 (some .int) 1 Q 4 [(0, .ref (xad X 122)), (1, vI p1), (2, vI x2), (3, vI x3)] [] σ := by
  intro n
  induction n with
  | zero => intro x2 x3 σ hx2 hx3 h; exact False.elim h
  | succ n ih =>
    intro x2 x3 σ hx2 hx3 h
    refine ok_iload_n 3 (pc := 4) dX12_leaned_4 rfl rfl ?_
    refine ok_aload_n 0 (pc := 5) dX12_leaned_5 rfl rfl ?_
    refine ok_wf (fun hw1 => ?_)
    refine ok_getI (pc := 6) dX12_leaned_6 fl_X12_363 sh_122 (Nat.le_of_ble_eq_true rfl) rfl rfl ?_
    refine ok_icmp_ge (tgt := 94) (pc := 9) dX12_leaned_9 rfl hx3 (hw1 _ _) (fun q2 => ?_) (fun q2 => ?_)
    · have h := iteF h q2
      refine ok_iload_n 2 (pc := 94) dX12_leaned_94 rfl rfl ?_
      exact ok_iret (pc := 95) dX12_leaned_95 rfl rfl rfl hx2 h
    · have h := iteT h q2
      refine ok_aload_n 0 (pc := 12) dX12_leaned_12 rfl rfl ?_
      refine ok_getR (pc := 13) dX12_leaned_13 fl_X12_108 sh_122 (Nat.le_of_ble_eq_true rfl) rfl rfl ?_
      refine ok_iload_n 3 (pc := 16) dX12_leaned_16 rfl rfl ?_
      obtain ⟨h3, h⟩ := h
      obtain ⟨h4, h⟩ := h
      refine ok_iald (pc := 17) dX12_leaned_17 sh_154 (Nat.le_of_ble_eq_true rfl) rfl h3 h4 ?_
      refine ok_aload_n 0 (pc := 18) dX12_leaned_18 rfl rfl ?_
      refine ok_getR (pc := 19) dX12_leaned_19 fl_X12_108 sh_122 (Nat.le_of_ble_eq_true rfl) rfl rfl ?_
      refine ok_iload_n 1 (pc := 22) dX12_leaned_22 rfl rfl ?_
      obtain ⟨h5, h⟩ := h
      obtain ⟨h6, h⟩ := h
      refine ok_iald (pc := 23) dX12_leaned_23 sh_154 (Nat.le_of_ble_eq_true rfl) rfl h5 h6 ?_
      refine ok_icmp_eq (tgt := 46) (pc := 24) dX12_leaned_24 rfl (hw1 _ _) (hw1 _ _) (fun q7 => ?_) (fun q7 => ?_)
      · have h := iteT h q7
        refine ok_iconst (pc := 46) dX12_leaned_46 ?_
        refine ok_goto (tgt := 51) (pc := 47) dX12_leaned_47 rfl ?_
        exact w_X12_leaned_51 X p1 hp1 x2 x3 1 hx2 hx3 (r_lit rfl) (fun x2_ x3_ σ_ hx2_ hx3_ h_ => ih x2_ x3_ σ_ hx2_ hx3_ h_) h
      · have h := iteF h q7
        refine ok_aload_n 0 (pc := 27) dX12_leaned_27 rfl rfl ?_
        refine ok_aload_n 0 (pc := 28) dX12_leaned_28 rfl rfl ?_
        refine ok_getR (pc := 29) dX12_leaned_29 fl_X12_108 sh_122 (Nat.le_of_ble_eq_true rfl) rfl rfl ?_
        refine ok_iload_n 3 (pc := 32) dX12_leaned_32 rfl rfl ?_
        refine ok_iald (pc := 33) dX12_leaned_33 sh_154 (Nat.le_of_ble_eq_true rfl) rfl h3 h4 ?_
        refine ok_aload_n 0 (pc := 34) dX12_leaned_34 rfl rfl ?_
        refine ok_getR (pc := 35) dX12_leaned_35 fl_X12_108 sh_122 (Nat.le_of_ble_eq_true rfl) rfl rfl ?_
        refine ok_iload_n 1 (pc := 38) dX12_leaned_38 rfl rfl ?_
        refine ok_iald (pc := 39) dX12_leaned_39 sh_154 (Nat.le_of_ble_eq_true rfl) rfl h5 h6 ?_
        refine ok_callVi (As := [vI (σ 154 x3.toNat), vI (σ 154 p1.toNat)]) (rest := []) (rm := rm_X12_doJoin) (pc := 40) dX12_leaned_40 me_X12_doJoin ml_X12_344 (ci := 12) rfl sh_122 (Nat.le_of_ble_eq_true rfl) rfl des_X12_doJoin rfl ⟨rfl, rfl, rfl, rfl⟩ rfl rfl (c_X12_doJoin X (σ 154 x3.toNat) (σ 154 p1.toNat) (hw1 _ _) (hw1 _ _) h) (fun r9 σ10 h8 h => ?_)
        refine ok_if_eq (tgt := 50) (pc := 43) dX12_leaned_43 rfl h8 (fun q11 => ?_) (fun q11 => ?_)
        · simp only [if_pos q11] at h
          refine ok_iconst (pc := 50) dX12_leaned_50 ?_
          exact w_X12_leaned_51 X p1 hp1 x2 x3 0 hx2 hx3 (r_lit rfl) (fun x2_ x3_ σ_ hx2_ hx3_ h_ => ih x2_ x3_ σ_ hx2_ hx3_ h_) h
        · simp only [if_neg q11] at h
          refine ok_iconst (pc := 46) dX12_leaned_46 ?_
          refine ok_goto (tgt := 51) (pc := 47) dX12_leaned_47 rfl ?_
          exact w_X12_leaned_51 X p1 hp1 x2 x3 1 hx2 hx3 (r_lit rfl) (fun x2_ x3_ σ_ hx2_ hx3_ h_ => ih x2_ x3_ σ_ hx2_ hx3_ h_) h
set_option maxRecDepth 100000 in
set_option maxHeartbeats 4000000 in
theorem c_X12_leaned (X : XE) (p1 : Int) (hp1 : inR p1) {σ : Mem} {Q : Int → Mem → Prop} (h : v_X12_leaned p1 σ Q) : CT X yX12_leaned cX12_leaned 5 (some .int) rm_X12_leaned 1 [.ref (xad X 122), vI p1] σ Q := by
  refine ct_of (own := RX12) (L := [(0, .ref (xad X 122)), (1, vI p1)]) rfl rfl (Nat.le_of_ble_eq_true rfl) rfl ?_
  refine ok_iconst (pc := 0) dX12_leaned_0 ?_
  refine ok_istore_n (L' := [(2, vI 0), (0, .ref (xad X 122)), (1, vI p1)]) (pc := 1) dX12_leaned_1 rfl rfl rfl ?_
  refine ok_iconst (pc := 2) dX12_leaned_2 ?_
  refine ok_istore_n (L' := [(3, vI 0), (2, vI 0), (0, .ref (xad X 122)), (1, vI p1)]) (pc := 3) dX12_leaned_3 rfl rfl rfl ?_
  refine ok_sub (L' := [(0, .ref (xad X 122)), (1, vI p1), (2, vI 0), (3, vI 0)]) [2,3,1,0] rfl ?_
  obtain ⟨n1, h⟩ := h
  exact w_X12_leaned_4 X p1 hp1 n1 0 0 σ (r_lit rfl) (r_lit rfl) h
theorem dX12_held_0 : decode cX12_held 0 = .ok (.iload_n 1, 1) := by decide +kernel
theorem dX12_held_1 : decode cX12_held 1 = .ok (.i2l, 1) := by decide +kernel
theorem dX12_held_2 : decode cX12_held 2 = .ok (.lconst 0, 1) := by decide +kernel
theorem dX12_held_3 : decode cX12_held 3 = .ok (.aload_n 0, 1) := by decide +kernel
theorem dX12_held_4 : decode cX12_held 4 = .ok (.getfield 363, 3) := by decide +kernel
theorem dX12_held_7 : decode cX12_held 7 = .ok (.iconst 1, 1) := by decide +kernel
theorem dX12_held_8 : decode cX12_held 8 = .ok (.isub, 1) := by decide +kernel
theorem dX12_held_9 : decode cX12_held 9 = .ok (.i2l, 1) := by decide +kernel
theorem dX12_held_10 : decode cX12_held 10 = .ok (.invokestatic 137, 3) := by decide +kernel
theorem dX12_held_13 : decode cX12_held 13 = .ok (.ifCond .ne 5, 3) := by decide +kernel
theorem dX12_held_16 : decode cX12_held 16 = .ok (.iconst (-1), 1) := by decide +kernel
theorem dX12_held_17 : decode cX12_held 17 = .ok (.ireturn, 1) := by decide +kernel
theorem dX12_held_18 : decode cX12_held 18 = .ok (.iload_n 2, 1) := by decide +kernel
theorem dX12_held_19 : decode cX12_held 19 = .ok (.tableswitch 80 0 5 #[37, 44, 51, 58, 65, 74], 37) := by decide +kernel
theorem dX12_held_56 : decode cX12_held 56 = .ok (.aload_n 0, 1) := by decide +kernel
theorem dX12_held_57 : decode cX12_held 57 = .ok (.getfield 108, 3) := by decide +kernel
theorem dX12_held_60 : decode cX12_held 60 = .ok (.iload_n 1, 1) := by decide +kernel
theorem dX12_held_61 : decode cX12_held 61 = .ok (.iaload, 1) := by decide +kernel
theorem dX12_held_62 : decode cX12_held 62 = .ok (.ireturn, 1) := by decide +kernel
theorem dX12_held_63 : decode cX12_held 63 = .ok (.aload_n 0, 1) := by decide +kernel
theorem dX12_held_64 : decode cX12_held 64 = .ok (.getfield 111, 3) := by decide +kernel
theorem dX12_held_67 : decode cX12_held 67 = .ok (.iload_n 1, 1) := by decide +kernel
theorem dX12_held_68 : decode cX12_held 68 = .ok (.iaload, 1) := by decide +kernel
theorem dX12_held_69 : decode cX12_held 69 = .ok (.ireturn, 1) := by decide +kernel
theorem dX12_held_70 : decode cX12_held 70 = .ok (.aload_n 0, 1) := by decide +kernel
theorem dX12_held_71 : decode cX12_held 71 = .ok (.getfield 114, 3) := by decide +kernel
theorem dX12_held_74 : decode cX12_held 74 = .ok (.iload_n 1, 1) := by decide +kernel
theorem dX12_held_75 : decode cX12_held 75 = .ok (.iaload, 1) := by decide +kernel
theorem dX12_held_76 : decode cX12_held 76 = .ok (.ireturn, 1) := by decide +kernel
theorem dX12_held_77 : decode cX12_held 77 = .ok (.aload_n 0, 1) := by decide +kernel
theorem dX12_held_78 : decode cX12_held 78 = .ok (.getfield 117, 3) := by decide +kernel
theorem dX12_held_81 : decode cX12_held 81 = .ok (.iload_n 1, 1) := by decide +kernel
theorem dX12_held_82 : decode cX12_held 82 = .ok (.iaload, 1) := by decide +kernel
theorem dX12_held_83 : decode cX12_held 83 = .ok (.ireturn, 1) := by decide +kernel
theorem dX12_held_84 : decode cX12_held 84 = .ok (.aload_n 0, 1) := by decide +kernel
theorem dX12_held_85 : decode cX12_held 85 = .ok (.iload_n 1, 1) := by decide +kernel
theorem dX12_held_86 : decode cX12_held 86 = .ok (.invokevirtual 366, 3) := by decide +kernel
theorem dX12_held_89 : decode cX12_held 89 = .ok (.invokestatic 327, 3) := by decide +kernel
theorem dX12_held_92 : decode cX12_held 92 = .ok (.ireturn, 1) := by decide +kernel
theorem dX12_held_93 : decode cX12_held 93 = .ok (.aload_n 0, 1) := by decide +kernel
theorem dX12_held_94 : decode cX12_held 94 = .ok (.iload_n 1, 1) := by decide +kernel
theorem dX12_held_95 : decode cX12_held 95 = .ok (.invokevirtual 366, 3) := by decide +kernel
theorem dX12_held_98 : decode cX12_held 98 = .ok (.ireturn, 1) := by decide +kernel
theorem dX12_held_99 : decode cX12_held 99 = .ok (.iconst (-1), 1) := by decide +kernel
theorem dX12_held_100 : decode cX12_held 100 = .ok (.ireturn, 1) := by decide +kernel
set_option maxRecDepth 100000 in
set_option maxHeartbeats 4000000 in
theorem c_X12_held (X : XE) (p1 : Int) (p2 : Int) (hp1 : inR p1) (hp2 : inR p2) {σ : Mem} {Q : Int → Mem → Prop} (h : v_X12_held p1 p2 σ Q) : CT X yX12_held cX12_held 3 (some .int) rm_X12_held 1 [.ref (xad X 122), vI p1, vI p2] σ Q := by
  refine ct_of (own := RX12) (L := [(0, .ref (xad X 122)), (1, vI p1), (2, vI p2)]) rfl rfl (Nat.le_of_ble_eq_true rfl) rfl ?_
  refine ok_iload_n 1 (pc := 0) dX12_held_0 rfl rfl ?_
  refine ok_i2l (pc := 1) dX12_held_1 hp1 ?_
  refine ok_lconst (v := 0) (pc := 2) dX12_held_2 rfl ?_
  refine ok_aload_n 0 (pc := 3) dX12_held_3 rfl rfl ?_
  refine ok_wf (fun hw1 => ?_)
  refine ok_getI (pc := 4) dX12_held_4 fl_X12_363 sh_122 (Nat.le_of_ble_eq_true rfl) rfl rfl ?_
  refine ok_iconst (pc := 7) dX12_held_7 ?_
  refine ok_isub (pc := 8) dX12_held_8 ?_
  obtain ⟨h2, h⟩ := h
  refine ok_i2l (pc := 9) dX12_held_9 h2 ?_
  refine ok_callSi (As := [vL p1, vL 0, vL ((σ 122 52) - 1)]) (rest := []) (rm := rm_X12_in) (pc := 10) dX12_held_10 me_X12_in ml_X12_137 des_X12_in rfl ⟨rfl, rfl, rfl, rfl⟩ rfl rfl (c_X12_in X p1 0 ((σ 122 52) - 1) (l_of_r hp1) (l_of_r (r_lit rfl)) (l_of_r h2) h) (fun r4 σ5 h3 h => ?_)
  refine ok_if_ne (tgt := 18) (pc := 13) dX12_held_13 rfl h3 (fun q6 => ?_) (fun q6 => ?_)
  · have h := iteF h q6
    refine ok_iload_n 2 (pc := 18) dX12_held_18 rfl rfl ?_
    by_cases q7 : p2 = 0
    · have h := iteT h q7
      refine ok_tin (tgt := 56) (pc := 19) dX12_held_19 hp2 (by omega) (by omega) (by first | (rw [q7]; done) | (rw [q7]; rfl)) rfl ?_
      refine ok_aload_n 0 (pc := 56) dX12_held_56 rfl rfl ?_
      refine ok_getR (pc := 57) dX12_held_57 fl_X12_108 sh_122 (Nat.le_of_ble_eq_true rfl) rfl rfl ?_
      refine ok_iload_n 1 (pc := 60) dX12_held_60 rfl rfl ?_
      obtain ⟨h8, h⟩ := h
      obtain ⟨h9, h⟩ := h
      refine ok_wf (fun hw10 => ?_)
      refine ok_iald (pc := 61) dX12_held_61 sh_154 (Nat.le_of_ble_eq_true rfl) rfl h8 h9 ?_
      exact ok_iret (pc := 62) dX12_held_62 rfl rfl rfl (hw10 _ _) h
    · have h := iteF h q7
      by_cases q11 : p2 = 1
      · have h := iteT h q11
        refine ok_tin (tgt := 63) (pc := 19) dX12_held_19 hp2 (by omega) (by omega) (by first | (rw [q11]; done) | (rw [q11]; rfl)) rfl ?_
        refine ok_aload_n 0 (pc := 63) dX12_held_63 rfl rfl ?_
        refine ok_getR (pc := 64) dX12_held_64 fl_X12_111 sh_122 (Nat.le_of_ble_eq_true rfl) rfl rfl ?_
        refine ok_iload_n 1 (pc := 67) dX12_held_67 rfl rfl ?_
        obtain ⟨h12, h⟩ := h
        obtain ⟨h13, h⟩ := h
        refine ok_wf (fun hw14 => ?_)
        refine ok_iald (pc := 68) dX12_held_68 sh_155 (Nat.le_of_ble_eq_true rfl) rfl h12 h13 ?_
        exact ok_iret (pc := 69) dX12_held_69 rfl rfl rfl (hw14 _ _) h
      · have h := iteF h q11
        by_cases q15 : p2 = 2
        · have h := iteT h q15
          refine ok_tin (tgt := 70) (pc := 19) dX12_held_19 hp2 (by omega) (by omega) (by first | (rw [q15]; done) | (rw [q15]; rfl)) rfl ?_
          refine ok_aload_n 0 (pc := 70) dX12_held_70 rfl rfl ?_
          refine ok_getR (pc := 71) dX12_held_71 fl_X12_114 sh_122 (Nat.le_of_ble_eq_true rfl) rfl rfl ?_
          refine ok_iload_n 1 (pc := 74) dX12_held_74 rfl rfl ?_
          obtain ⟨h16, h⟩ := h
          obtain ⟨h17, h⟩ := h
          refine ok_wf (fun hw18 => ?_)
          refine ok_iald (pc := 75) dX12_held_75 sh_156 (Nat.le_of_ble_eq_true rfl) rfl h16 h17 ?_
          exact ok_iret (pc := 76) dX12_held_76 rfl rfl rfl (hw18 _ _) h
        · have h := iteF h q15
          by_cases q19 : p2 = 3
          · have h := iteT h q19
            refine ok_tin (tgt := 77) (pc := 19) dX12_held_19 hp2 (by omega) (by omega) (by first | (rw [q19]; done) | (rw [q19]; rfl)) rfl ?_
            refine ok_aload_n 0 (pc := 77) dX12_held_77 rfl rfl ?_
            refine ok_getR (pc := 78) dX12_held_78 fl_X12_117 sh_122 (Nat.le_of_ble_eq_true rfl) rfl rfl ?_
            refine ok_iload_n 1 (pc := 81) dX12_held_81 rfl rfl ?_
            obtain ⟨h20, h⟩ := h
            obtain ⟨h21, h⟩ := h
            refine ok_wf (fun hw22 => ?_)
            refine ok_iald (pc := 82) dX12_held_82 sh_157 (Nat.le_of_ble_eq_true rfl) rfl h20 h21 ?_
            exact ok_iret (pc := 83) dX12_held_83 rfl rfl rfl (hw22 _ _) h
          · have h := iteF h q19
            by_cases q23 : p2 = 4
            · have h := iteT h q23
              refine ok_tin (tgt := 84) (pc := 19) dX12_held_19 hp2 (by omega) (by omega) (by first | (rw [q23]; done) | (rw [q23]; rfl)) rfl ?_
              refine ok_aload_n 0 (pc := 84) dX12_held_84 rfl rfl ?_
              refine ok_iload_n 1 (pc := 85) dX12_held_85 rfl rfl ?_
              refine ok_callVi (As := [vI p1]) (rest := []) (rm := rm_X12_leaned) (pc := 86) dX12_held_86 me_X12_leaned ml_X12_366 (ci := 12) rfl sh_122 (Nat.le_of_ble_eq_true rfl) rfl des_X12_leaned rfl ⟨rfl, rfl, rfl, rfl⟩ rfl rfl (c_X12_leaned X p1 hp1 h) (fun r25 σ26 h24 h => ?_)
              refine ok_callSi (As := [vI r25]) (rest := []) (rm := rm_X12_sizeOf) (pc := 89) dX12_held_89 me_X12_sizeOf ml_X12_327 des_X12_sizeOf rfl ⟨rfl, rfl, rfl, rfl⟩ rfl rfl (c_X12_sizeOf X r25 h24 h) (fun r28 σ29 h27 h => ?_)
              exact ok_iret (pc := 92) dX12_held_92 rfl rfl rfl h27 h
            · have h := iteF h q23
              by_cases q30 : p2 = 5
              · have h := iteT h q30
                refine ok_tin (tgt := 93) (pc := 19) dX12_held_19 hp2 (by omega) (by omega) (by first | (rw [q30]; done) | (rw [q30]; rfl)) rfl ?_
                refine ok_aload_n 0 (pc := 93) dX12_held_93 rfl rfl ?_
                refine ok_iload_n 1 (pc := 94) dX12_held_94 rfl rfl ?_
                refine ok_callVi (As := [vI p1]) (rest := []) (rm := rm_X12_leaned) (pc := 95) dX12_held_95 me_X12_leaned ml_X12_366 (ci := 12) rfl sh_122 (Nat.le_of_ble_eq_true rfl) rfl des_X12_leaned rfl ⟨rfl, rfl, rfl, rfl⟩ rfl rfl (c_X12_leaned X p1 hp1 h) (fun r32 σ33 h31 h => ?_)
                exact ok_iret (pc := 98) dX12_held_98 rfl rfl rfl h31 h
              · have h := iteF h q30
                refine ok_tout (tgt := 99) (pc := 19) dX12_held_19 hp2 (by omega) rfl ?_
                refine ok_iconst (pc := 99) dX12_held_99 ?_
                exact ok_iret (pc := 100) dX12_held_100 rfl rfl rfl (r_lit rfl) h
  · have h := iteT h q6
    refine ok_iconst (pc := 16) dX12_held_16 ?_
    exact ok_iret (pc := 17) dX12_held_17 rfl rfl rfl (r_lit rfl) h
theorem dX12_wrong_0 : decode cX12_wrong 0 = .ok (.iload_n 1, 1) := by decide +kernel
theorem dX12_wrong_1 : decode cX12_wrong 1 = .ok (.i2l, 1) := by decide +kernel
theorem dX12_wrong_2 : decode cX12_wrong 2 = .ok (.lconst 0, 1) := by decide +kernel
theorem dX12_wrong_3 : decode cX12_wrong 3 = .ok (.aload_n 0, 1) := by decide +kernel
theorem dX12_wrong_4 : decode cX12_wrong 4 = .ok (.getfield 363, 3) := by decide +kernel
theorem dX12_wrong_7 : decode cX12_wrong 7 = .ok (.iconst 1, 1) := by decide +kernel
theorem dX12_wrong_8 : decode cX12_wrong 8 = .ok (.isub, 1) := by decide +kernel
theorem dX12_wrong_9 : decode cX12_wrong 9 = .ok (.i2l, 1) := by decide +kernel
theorem dX12_wrong_10 : decode cX12_wrong 10 = .ok (.invokestatic 137, 3) := by decide +kernel
theorem dX12_wrong_13 : decode cX12_wrong 13 = .ok (.ifCond .ne 5, 3) := by decide +kernel
theorem dX12_wrong_16 : decode cX12_wrong 16 = .ok (.iconst (-1), 1) := by decide +kernel
theorem dX12_wrong_17 : decode cX12_wrong 17 = .ok (.ireturn, 1) := by decide +kernel
theorem dX12_wrong_18 : decode cX12_wrong 18 = .ok (.aload_n 0, 1) := by decide +kernel
theorem dX12_wrong_19 : decode cX12_wrong 19 = .ok (.getfield 117, 3) := by decide +kernel
theorem dX12_wrong_22 : decode cX12_wrong 22 = .ok (.iload_n 1, 1) := by decide +kernel
theorem dX12_wrong_23 : decode cX12_wrong 23 = .ok (.iaload, 1) := by decide +kernel
theorem dX12_wrong_24 : decode cX12_wrong 24 = .ok (.iconst 1, 1) := by decide +kernel
theorem dX12_wrong_25 : decode cX12_wrong 25 = .ok (.if_icmp .ne 6, 3) := by decide +kernel
theorem dX12_wrong_28 : decode cX12_wrong 28 = .ok (.bipush (-2), 2) := by decide +kernel
theorem dX12_wrong_30 : decode cX12_wrong 30 = .ok (.ireturn, 1) := by decide +kernel
theorem dX12_wrong_31 : decode cX12_wrong 31 = .ok (.aload_n 0, 1) := by decide +kernel
theorem dX12_wrong_32 : decode cX12_wrong 32 = .ok (.getfield 117, 3) := by decide +kernel
theorem dX12_wrong_35 : decode cX12_wrong 35 = .ok (.iload_n 1, 1) := by decide +kernel
theorem dX12_wrong_36 : decode cX12_wrong 36 = .ok (.iconst 1, 1) := by decide +kernel
theorem dX12_wrong_37 : decode cX12_wrong 37 = .ok (.iastore, 1) := by decide +kernel
theorem dX12_wrong_38 : decode cX12_wrong 38 = .ok (.aload_n 0, 1) := by decide +kernel
theorem dX12_wrong_39 : decode cX12_wrong 39 = .ok (.iload_n 1, 1) := by decide +kernel
theorem dX12_wrong_40 : decode cX12_wrong 40 = .ok (.invokevirtual 366, 3) := by decide +kernel
theorem dX12_wrong_43 : decode cX12_wrong 43 = .ok (.invokestatic 327, 3) := by decide +kernel
theorem dX12_wrong_46 : decode cX12_wrong 46 = .ok (.ireturn, 1) := by decide +kernel
set_option maxRecDepth 100000 in
set_option maxHeartbeats 4000000 in
theorem c_X12_wrong (X : XE) (p1 : Int) (hp1 : inR p1) {σ : Mem} {Q : Int → Mem → Prop} (h : v_X12_wrong p1 σ Q) : CT X yX12_wrong cX12_wrong 2 (some .int) rm_X12_wrong 1 [.ref (xad X 122), vI p1] σ Q := by
  refine ct_of (own := RX12) (L := [(0, .ref (xad X 122)), (1, vI p1)]) rfl rfl (Nat.le_of_ble_eq_true rfl) rfl ?_
  refine ok_iload_n 1 (pc := 0) dX12_wrong_0 rfl rfl ?_
  refine ok_i2l (pc := 1) dX12_wrong_1 hp1 ?_
  refine ok_lconst (v := 0) (pc := 2) dX12_wrong_2 rfl ?_
  refine ok_aload_n 0 (pc := 3) dX12_wrong_3 rfl rfl ?_
  refine ok_wf (fun hw1 => ?_)
  refine ok_getI (pc := 4) dX12_wrong_4 fl_X12_363 sh_122 (Nat.le_of_ble_eq_true rfl) rfl rfl ?_
  refine ok_iconst (pc := 7) dX12_wrong_7 ?_
  refine ok_isub (pc := 8) dX12_wrong_8 ?_
  obtain ⟨h2, h⟩ := h
  refine ok_i2l (pc := 9) dX12_wrong_9 h2 ?_
  refine ok_callSi (As := [vL p1, vL 0, vL ((σ 122 52) - 1)]) (rest := []) (rm := rm_X12_in) (pc := 10) dX12_wrong_10 me_X12_in ml_X12_137 des_X12_in rfl ⟨rfl, rfl, rfl, rfl⟩ rfl rfl (c_X12_in X p1 0 ((σ 122 52) - 1) (l_of_r hp1) (l_of_r (r_lit rfl)) (l_of_r h2) h) (fun r4 σ5 h3 h => ?_)
  refine ok_if_ne (tgt := 18) (pc := 13) dX12_wrong_13 rfl h3 (fun q6 => ?_) (fun q6 => ?_)
  · have h := iteF h q6
    refine ok_aload_n 0 (pc := 18) dX12_wrong_18 rfl rfl ?_
    refine ok_getR (pc := 19) dX12_wrong_19 fl_X12_117 sh_122 (Nat.le_of_ble_eq_true rfl) rfl rfl ?_
    refine ok_iload_n 1 (pc := 22) dX12_wrong_22 rfl rfl ?_
    obtain ⟨h7, h⟩ := h
    obtain ⟨h8, h⟩ := h
    refine ok_wf (fun hw9 => ?_)
    refine ok_iald (pc := 23) dX12_wrong_23 sh_157 (Nat.le_of_ble_eq_true rfl) rfl h7 h8 ?_
    refine ok_iconst (pc := 24) dX12_wrong_24 ?_
    refine ok_icmp_ne (tgt := 31) (pc := 25) dX12_wrong_25 rfl (hw9 _ _) (r_lit rfl) (fun q10 => ?_) (fun q10 => ?_)
    · have h := iteF h q10
      refine ok_aload_n 0 (pc := 31) dX12_wrong_31 rfl rfl ?_
      refine ok_getR (pc := 32) dX12_wrong_32 fl_X12_117 sh_122 (Nat.le_of_ble_eq_true rfl) rfl rfl ?_
      refine ok_iload_n 1 (pc := 35) dX12_wrong_35 rfl rfl ?_
      refine ok_iconst (pc := 36) dX12_wrong_36 ?_
      refine ok_iast (pc := 37) dX12_wrong_37 sh_157 (Nat.le_of_ble_eq_true rfl) rfl h7 h8 (r_lit rfl) ?_
      refine ok_aload_n 0 (pc := 38) dX12_wrong_38 rfl rfl ?_
      refine ok_iload_n 1 (pc := 39) dX12_wrong_39 rfl rfl ?_
      refine ok_callVi (As := [vI p1]) (rest := []) (rm := rm_X12_leaned) (pc := 40) dX12_wrong_40 me_X12_leaned ml_X12_366 (ci := 12) rfl sh_122 (Nat.le_of_ble_eq_true rfl) rfl des_X12_leaned rfl ⟨rfl, rfl, rfl, rfl⟩ rfl rfl (c_X12_leaned X p1 hp1 h) (fun r12 σ13 h11 h => ?_)
      refine ok_callSi (As := [vI r12]) (rest := []) (rm := rm_X12_sizeOf) (pc := 43) dX12_wrong_43 me_X12_sizeOf ml_X12_327 des_X12_sizeOf rfl ⟨rfl, rfl, rfl, rfl⟩ rfl rfl (c_X12_sizeOf X r12 h11 h) (fun r15 σ16 h14 h => ?_)
      exact ok_iret (pc := 46) dX12_wrong_46 rfl rfl rfl h14 h
    · have h := iteT h q10
      refine ok_bipush (pc := 28) dX12_wrong_28 rfl ?_
      exact ok_iret (pc := 30) dX12_wrong_30 rfl rfl rfl (r_lit rfl) h
  · have h := iteT h q6
    refine ok_iconst (pc := 16) dX12_wrong_16 ?_
    exact ok_iret (pc := 17) dX12_wrong_17 rfl rfl rfl (r_lit rfl) h
theorem dX12_sheet_0 : decode cX12_sheet 0 = .ok (.iload_n 1, 1) := by decide +kernel
theorem dX12_sheet_1 : decode cX12_sheet 1 = .ok (.i2l, 1) := by decide +kernel
theorem dX12_sheet_2 : decode cX12_sheet 2 = .ok (.lconst 0, 1) := by decide +kernel
theorem dX12_sheet_3 : decode cX12_sheet 3 = .ok (.ldc2_w 269, 3) := by decide +kernel
theorem dX12_sheet_6 : decode cX12_sheet 6 = .ok (.invokestatic 137, 3) := by decide +kernel
theorem dX12_sheet_9 : decode cX12_sheet 9 = .ok (.ifCond .eq 21, 3) := by decide +kernel
theorem dX12_sheet_12 : decode cX12_sheet 12 = .ok (.iload_n 2, 1) := by decide +kernel
theorem dX12_sheet_13 : decode cX12_sheet 13 = .ok (.i2l, 1) := by decide +kernel
theorem dX12_sheet_14 : decode cX12_sheet 14 = .ok (.lconst 0, 1) := by decide +kernel
theorem dX12_sheet_15 : decode cX12_sheet 15 = .ok (.ldc2_w 245, 3) := by decide +kernel
theorem dX12_sheet_18 : decode cX12_sheet 18 = .ok (.invokestatic 137, 3) := by decide +kernel
theorem dX12_sheet_21 : decode cX12_sheet 21 = .ok (.ifCond .eq 9, 3) := by decide +kernel
theorem dX12_sheet_24 : decode cX12_sheet 24 = .ok (.iload_n 3, 1) := by decide +kernel
theorem dX12_sheet_25 : decode cX12_sheet 25 = .ok (.bipush 96, 2) := by decide +kernel
theorem dX12_sheet_27 : decode cX12_sheet 27 = .ok (.if_icmp .le 5, 3) := by decide +kernel
theorem dX12_sheet_30 : decode cX12_sheet 30 = .ok (.iconst (-1), 1) := by decide +kernel
theorem dX12_sheet_31 : decode cX12_sheet 31 = .ok (.ireturn, 1) := by decide +kernel
theorem dX12_sheet_32 : decode cX12_sheet 32 = .ok (.iload_n 3, 1) := by decide +kernel
theorem dX12_sheet_33 : decode cX12_sheet 33 = .ok (.ifCond .ge 6, 3) := by decide +kernel
theorem dX12_sheet_36 : decode cX12_sheet 36 = .ok (.bipush (-14), 2) := by decide +kernel
theorem dX12_sheet_38 : decode cX12_sheet 38 = .ok (.ireturn, 1) := by decide +kernel
theorem dX12_sheet_39 : decode cX12_sheet 39 = .ok (.aload_n 0, 1) := by decide +kernel
theorem dX12_sheet_40 : decode cX12_sheet 40 = .ok (.getfield 120, 3) := by decide +kernel
theorem dX12_sheet_43 : decode cX12_sheet 43 = .ok (.iload_n 1, 1) := by decide +kernel
theorem dX12_sheet_44 : decode cX12_sheet 44 = .ok (.iload_n 2, 1) := by decide +kernel
theorem dX12_sheet_45 : decode cX12_sheet 45 = .ok (.iastore, 1) := by decide +kernel
theorem dX12_sheet_46 : decode cX12_sheet 46 = .ok (.aload_n 0, 1) := by decide +kernel
theorem dX12_sheet_47 : decode cX12_sheet 47 = .ok (.getfield 123, 3) := by decide +kernel
theorem dX12_sheet_50 : decode cX12_sheet 50 = .ok (.iload_n 1, 1) := by decide +kernel
theorem dX12_sheet_51 : decode cX12_sheet 51 = .ok (.iload_n 3, 1) := by decide +kernel
theorem dX12_sheet_52 : decode cX12_sheet 52 = .ok (.iastore, 1) := by decide +kernel
theorem dX12_sheet_53 : decode cX12_sheet 53 = .ok (.iconst 0, 1) := by decide +kernel
theorem dX12_sheet_54 : decode cX12_sheet 54 = .ok (.istore 4, 2) := by decide +kernel
theorem dX12_sheet_56 : decode cX12_sheet 56 = .ok (.iload 4, 2) := by decide +kernel
theorem dX12_sheet_58 : decode cX12_sheet 58 = .ok (.bipush 96, 2) := by decide +kernel
theorem dX12_sheet_60 : decode cX12_sheet 60 = .ok (.if_icmp .ge 22, 3) := by decide +kernel
theorem dX12_sheet_63 : decode cX12_sheet 63 = .ok (.aload_n 0, 1) := by decide +kernel
theorem dX12_sheet_64 : decode cX12_sheet 64 = .ok (.getfield 126, 3) := by decide +kernel
theorem dX12_sheet_67 : decode cX12_sheet 67 = .ok (.bipush 96, 2) := by decide +kernel
theorem dX12_sheet_69 : decode cX12_sheet 69 = .ok (.iload_n 1, 1) := by decide +kernel
theorem dX12_sheet_70 : decode cX12_sheet 70 = .ok (.imul, 1) := by decide +kernel
theorem dX12_sheet_71 : decode cX12_sheet 71 = .ok (.iload 4, 2) := by decide +kernel
theorem dX12_sheet_73 : decode cX12_sheet 73 = .ok (.iadd, 1) := by decide +kernel
theorem dX12_sheet_74 : decode cX12_sheet 74 = .ok (.iconst 0, 1) := by decide +kernel
theorem dX12_sheet_75 : decode cX12_sheet 75 = .ok (.iastore, 1) := by decide +kernel
theorem dX12_sheet_76 : decode cX12_sheet 76 = .ok (.iinc 4 1, 3) := by decide +kernel
theorem dX12_sheet_79 : decode cX12_sheet 79 = .ok (.goto (-23), 3) := by decide +kernel
theorem dX12_sheet_82 : decode cX12_sheet 82 = .ok (.iconst 1, 1) := by decide +kernel
theorem dX12_sheet_83 : decode cX12_sheet 83 = .ok (.ireturn, 1) := by decide +kernel
set_option maxRecDepth 100000 in
set_option maxHeartbeats 4000000 in
theorem w_X12_sheet_56 (X : XE) (p1 : Int) (p2 : Int) (p3 : Int) (hp1 : inR p1) (hp2 : inR p2) (hp3 : inR p3) {Q : Int → Mem → Prop} : ∀ (n : Nat) (x4 : Int) (σ : Mem), inR x4 → l_X12_sheet_56 p1 p2 p3 Q n x4 σ → ok X rm_X12_sheet RX12 cX12_sheet 5 (some .int) 1 Q 56 [(0, .ref (xad X 122)), (1, vI p1), (4, vI x4)] [] σ := by
  intro n
  induction n with
  | zero => intro x4 σ hx4 h; exact False.elim h
  | succ n ih =>
    intro x4 σ hx4 h
    refine ok_iload 2 (pc := 56) dX12_sheet_56 rfl ?_
    refine ok_bipush (pc := 58) dX12_sheet_58 rfl ?_
    refine ok_icmp_ge (tgt := 82) (pc := 60) dX12_sheet_60 rfl hx4 (r_lit rfl) (fun q1 => ?_) (fun q1 => ?_)
    · have h := iteF h q1
      refine ok_iconst (pc := 82) dX12_sheet_82 ?_
      exact ok_iret (pc := 83) dX12_sheet_83 rfl rfl rfl (r_lit rfl) h
    · have h := iteT h q1
      refine ok_aload_n 0 (pc := 63) dX12_sheet_63 rfl rfl ?_
      refine ok_getR (pc := 64) dX12_sheet_64 fl_X12_126 sh_122 (Nat.le_of_ble_eq_true rfl) rfl rfl ?_
      refine ok_bipush (pc := 67) dX12_sheet_67 rfl ?_
      refine ok_iload_n 1 (pc := 69) dX12_sheet_69 rfl rfl ?_
      refine ok_imul (pc := 70) dX12_sheet_70 ?_
      refine ok_iload 2 (pc := 71) dX12_sheet_71 rfl ?_
      refine ok_iadd (pc := 73) dX12_sheet_73 ?_
      refine ok_iconst (pc := 74) dX12_sheet_74 ?_
      obtain ⟨h2, h⟩ := h
      obtain ⟨h3, h⟩ := h
      refine ok_iast (pc := 75) dX12_sheet_75 sh_160 (Nat.le_of_ble_eq_true rfl) rfl h2 h3 (r_lit rfl) ?_
      refine ok_iinc (L' := [(4, vI (x4 + 1)), (0, .ref (xad X 122)), (1, vI p1)]) 2 (pc := 76) dX12_sheet_76 rfl rfl rfl ?_
      refine ok_goto (tgt := 56) (pc := 79) dX12_sheet_79 rfl ?_
      obtain ⟨h4, h⟩ := h
      refine ok_sub (L' := [(0, .ref (xad X 122)), (1, vI p1), (4, vI (x4 + 1))]) [1,2,0] rfl ?_
      exact ih (x4 + 1) (mset σ 160 (((96 * p1) + x4).toNat) 0) h4 h
set_option maxRecDepth 100000 in
set_option maxHeartbeats 4000000 in
theorem c_X12_sheet (X : XE) (p1 : Int) (p2 : Int) (p3 : Int) (hp1 : inR p1) (hp2 : inR p2) (hp3 : inR p3) {σ : Mem} {Q : Int → Mem → Prop} (h : v_X12_sheet p1 p2 p3 σ Q) : CT X yX12_sheet cX12_sheet 5 (some .int) rm_X12_sheet 1 [.ref (xad X 122), vI p1, vI p2, vI p3] σ Q := by
  refine ct_of (own := RX12) (L := [(0, .ref (xad X 122)), (1, vI p1), (2, vI p2), (3, vI p3)]) rfl rfl (Nat.le_of_ble_eq_true rfl) rfl ?_
  refine ok_iload_n 1 (pc := 0) dX12_sheet_0 rfl rfl ?_
  refine ok_i2l (pc := 1) dX12_sheet_1 hp1 ?_
  refine ok_lconst (v := 0) (pc := 2) dX12_sheet_2 rfl ?_
  refine ok_ldc2 (pc := 3) dX12_sheet_3 cn_X12_269 ?_
  refine ok_callSi (As := [vL p1, vL 0, vL 3]) (rest := []) (rm := rm_X12_in) (pc := 6) dX12_sheet_6 me_X12_in ml_X12_137 des_X12_in rfl ⟨rfl, rfl, rfl, rfl⟩ rfl rfl (c_X12_in X p1 0 3 (l_of_r hp1) (l_of_r (r_lit rfl)) (l_of_r (r_lit rfl)) h) (fun r2 σ3 h1 h => ?_)
  refine ok_if_eq (tgt := 30) (pc := 9) dX12_sheet_9 rfl h1 (fun q4 => ?_) (fun q4 => ?_)
  · have h := iteT h q4
    refine ok_iconst (pc := 30) dX12_sheet_30 ?_
    exact ok_iret (pc := 31) dX12_sheet_31 rfl rfl rfl (r_lit rfl) h
  · have h := iteF h q4
    refine ok_iload_n 2 (pc := 12) dX12_sheet_12 rfl rfl ?_
    refine ok_i2l (pc := 13) dX12_sheet_13 hp2 ?_
    refine ok_lconst (v := 0) (pc := 14) dX12_sheet_14 rfl ?_
    refine ok_ldc2 (pc := 15) dX12_sheet_15 cn_X12_245 ?_
    refine ok_callSi (As := [vL p2, vL 0, vL 2]) (rest := []) (rm := rm_X12_in) (pc := 18) dX12_sheet_18 me_X12_in ml_X12_137 des_X12_in rfl ⟨rfl, rfl, rfl, rfl⟩ rfl rfl (c_X12_in X p2 0 2 (l_of_r hp2) (l_of_r (r_lit rfl)) (l_of_r (r_lit rfl)) h) (fun r6 σ7 h5 h => ?_)
    refine ok_if_eq (tgt := 30) (pc := 21) dX12_sheet_21 rfl h5 (fun q8 => ?_) (fun q8 => ?_)
    · have h := iteT h q8
      refine ok_iconst (pc := 30) dX12_sheet_30 ?_
      exact ok_iret (pc := 31) dX12_sheet_31 rfl rfl rfl (r_lit rfl) h
    · have h := iteF h q8
      refine ok_iload_n 3 (pc := 24) dX12_sheet_24 rfl rfl ?_
      refine ok_bipush (pc := 25) dX12_sheet_25 rfl ?_
      refine ok_icmp_le (tgt := 32) (pc := 27) dX12_sheet_27 rfl hp3 (r_lit rfl) (fun q9 => ?_) (fun q9 => ?_)
      · have h := iteF h q9
        refine ok_iload_n 3 (pc := 32) dX12_sheet_32 rfl rfl ?_
        refine ok_if_ge (tgt := 39) (pc := 33) dX12_sheet_33 rfl hp3 (fun q10 => ?_) (fun q10 => ?_)
        · have h := iteF h q10
          refine ok_aload_n 0 (pc := 39) dX12_sheet_39 rfl rfl ?_
          refine ok_getR (pc := 40) dX12_sheet_40 fl_X12_120 sh_122 (Nat.le_of_ble_eq_true rfl) rfl rfl ?_
          refine ok_iload_n 1 (pc := 43) dX12_sheet_43 rfl rfl ?_
          refine ok_iload_n 2 (pc := 44) dX12_sheet_44 rfl rfl ?_
          obtain ⟨h11, h⟩ := h
          obtain ⟨h12, h⟩ := h
          refine ok_iast (pc := 45) dX12_sheet_45 sh_158 (Nat.le_of_ble_eq_true rfl) rfl h11 h12 hp2 ?_
          refine ok_aload_n 0 (pc := 46) dX12_sheet_46 rfl rfl ?_
          refine ok_getR (pc := 47) dX12_sheet_47 fl_X12_123 sh_122 (Nat.le_of_ble_eq_true rfl) rfl rfl ?_
          refine ok_iload_n 1 (pc := 50) dX12_sheet_50 rfl rfl ?_
          refine ok_iload_n 3 (pc := 51) dX12_sheet_51 rfl rfl ?_
          refine ok_iast (pc := 52) dX12_sheet_52 sh_159 (Nat.le_of_ble_eq_true rfl) rfl h11 h12 hp3 ?_
          refine ok_iconst (pc := 53) dX12_sheet_53 ?_
          refine ok_istore (L' := [(4, vI 0), (0, .ref (xad X 122)), (1, vI p1), (2, vI p2), (3, vI p3)]) (pc := 54) dX12_sheet_54 rfl rfl ?_
          refine ok_sub (L' := [(0, .ref (xad X 122)), (1, vI p1), (4, vI 0)]) [1,2,0] rfl ?_
          obtain ⟨n13, h⟩ := h
          exact w_X12_sheet_56 X p1 p2 p3 hp1 hp2 hp3 n13 0 (mset (mset σ7 158 (p1.toNat) p2) 159 (p1.toNat) p3) (r_lit rfl) h
        · have h := iteT h q10
          refine ok_bipush (pc := 36) dX12_sheet_36 rfl ?_
          exact ok_iret (pc := 38) dX12_sheet_38 rfl rfl rfl (r_lit rfl) h
      · have h := iteT h q9
        refine ok_iconst (pc := 30) dX12_sheet_30 ?_
        exact ok_iret (pc := 31) dX12_sheet_31 rfl rfl rfl (r_lit rfl) h
theorem dX12_lay_0 : decode cX12_lay 0 = .ok (.iload_n 1, 1) := by decide +kernel
theorem dX12_lay_1 : decode cX12_lay 1 = .ok (.i2l, 1) := by decide +kernel
theorem dX12_lay_2 : decode cX12_lay 2 = .ok (.lconst 0, 1) := by decide +kernel
theorem dX12_lay_3 : decode cX12_lay 3 = .ok (.ldc2_w 269, 3) := by decide +kernel
theorem dX12_lay_6 : decode cX12_lay 6 = .ok (.invokestatic 137, 3) := by decide +kernel
theorem dX12_lay_9 : decode cX12_lay 9 = .ok (.ifCond .ne 5, 3) := by decide +kernel
theorem dX12_lay_12 : decode cX12_lay 12 = .ok (.iconst (-1), 1) := by decide +kernel
theorem dX12_lay_13 : decode cX12_lay 13 = .ok (.ireturn, 1) := by decide +kernel
theorem dX12_lay_14 : decode cX12_lay 14 = .ok (.aload_n 0, 1) := by decide +kernel
theorem dX12_lay_15 : decode cX12_lay 15 = .ok (.getfield 120, 3) := by decide +kernel
theorem dX12_lay_18 : decode cX12_lay 18 = .ok (.iload_n 1, 1) := by decide +kernel
theorem dX12_lay_19 : decode cX12_lay 19 = .ok (.iaload, 1) := by decide +kernel
theorem dX12_lay_20 : decode cX12_lay 20 = .ok (.bipush (-4), 2) := by decide +kernel
theorem dX12_lay_22 : decode cX12_lay 22 = .ok (.if_icmp .ne 6, 3) := by decide +kernel
theorem dX12_lay_25 : decode cX12_lay 25 = .ok (.bipush (-11), 2) := by decide +kernel
theorem dX12_lay_27 : decode cX12_lay 27 = .ok (.ireturn, 1) := by decide +kernel
theorem dX12_lay_28 : decode cX12_lay 28 = .ok (.iload_n 2, 1) := by decide +kernel
theorem dX12_lay_29 : decode cX12_lay 29 = .ok (.i2l, 1) := by decide +kernel
theorem dX12_lay_30 : decode cX12_lay 30 = .ok (.lconst 0, 1) := by decide +kernel
theorem dX12_lay_31 : decode cX12_lay 31 = .ok (.aload_n 0, 1) := by decide +kernel
theorem dX12_lay_32 : decode cX12_lay 32 = .ok (.getfield 123, 3) := by decide +kernel
theorem dX12_lay_35 : decode cX12_lay 35 = .ok (.iload_n 1, 1) := by decide +kernel
theorem dX12_lay_36 : decode cX12_lay 36 = .ok (.iaload, 1) := by decide +kernel
theorem dX12_lay_37 : decode cX12_lay 37 = .ok (.iconst 1, 1) := by decide +kernel
theorem dX12_lay_38 : decode cX12_lay 38 = .ok (.isub, 1) := by decide +kernel
theorem dX12_lay_39 : decode cX12_lay 39 = .ok (.i2l, 1) := by decide +kernel
theorem dX12_lay_40 : decode cX12_lay 40 = .ok (.invokestatic 137, 3) := by decide +kernel
theorem dX12_lay_43 : decode cX12_lay 43 = .ok (.ifCond .ne 6, 3) := by decide +kernel
theorem dX12_lay_46 : decode cX12_lay 46 = .ok (.bipush (-12), 2) := by decide +kernel
theorem dX12_lay_48 : decode cX12_lay 48 = .ok (.ireturn, 1) := by decide +kernel
theorem dX12_lay_49 : decode cX12_lay 49 = .ok (.aload_n 0, 1) := by decide +kernel
theorem dX12_lay_50 : decode cX12_lay 50 = .ok (.getfield 126, 3) := by decide +kernel
theorem dX12_lay_53 : decode cX12_lay 53 = .ok (.bipush 96, 2) := by decide +kernel
theorem dX12_lay_55 : decode cX12_lay 55 = .ok (.iload_n 1, 1) := by decide +kernel
theorem dX12_lay_56 : decode cX12_lay 56 = .ok (.imul, 1) := by decide +kernel
theorem dX12_lay_57 : decode cX12_lay 57 = .ok (.iload_n 2, 1) := by decide +kernel
theorem dX12_lay_58 : decode cX12_lay 58 = .ok (.iadd, 1) := by decide +kernel
theorem dX12_lay_59 : decode cX12_lay 59 = .ok (.aload_n 0, 1) := by decide +kernel
theorem dX12_lay_60 : decode cX12_lay 60 = .ok (.getfield 120, 3) := by decide +kernel
theorem dX12_lay_63 : decode cX12_lay 63 = .ok (.iload_n 1, 1) := by decide +kernel
theorem dX12_lay_64 : decode cX12_lay 64 = .ok (.iaload, 1) := by decide +kernel
theorem dX12_lay_65 : decode cX12_lay 65 = .ok (.ifCond .ne 13, 3) := by decide +kernel
theorem dX12_lay_68 : decode cX12_lay 68 = .ok (.iload_n 3, 1) := by decide +kernel
theorem dX12_lay_69 : decode cX12_lay 69 = .ok (.bipush 24, 2) := by decide +kernel
theorem dX12_lay_71 : decode cX12_lay 71 = .ok (.ishl, 1) := by decide +kernel
theorem dX12_lay_72 : decode cX12_lay 72 = .ok (.bipush 24, 2) := by decide +kernel
theorem dX12_lay_74 : decode cX12_lay 74 = .ok (.ishr, 1) := by decide +kernel
theorem dX12_lay_75 : decode cX12_lay 75 = .ok (.goto 24, 3) := by decide +kernel
theorem dX12_lay_78 : decode cX12_lay 78 = .ok (.aload_n 0, 1) := by decide +kernel
theorem dX12_lay_79 : decode cX12_lay 79 = .ok (.getfield 120, 3) := by decide +kernel
theorem dX12_lay_82 : decode cX12_lay 82 = .ok (.iload_n 1, 1) := by decide +kernel
theorem dX12_lay_83 : decode cX12_lay 83 = .ok (.iaload, 1) := by decide +kernel
theorem dX12_lay_84 : decode cX12_lay 84 = .ok (.iconst 1, 1) := by decide +kernel
theorem dX12_lay_85 : decode cX12_lay 85 = .ok (.if_icmp .ne 13, 3) := by decide +kernel
theorem dX12_lay_88 : decode cX12_lay 88 = .ok (.iload_n 3, 1) := by decide +kernel
theorem dX12_lay_89 : decode cX12_lay 89 = .ok (.bipush 16, 2) := by decide +kernel
theorem dX12_lay_91 : decode cX12_lay 91 = .ok (.ishl, 1) := by decide +kernel
theorem dX12_lay_92 : decode cX12_lay 92 = .ok (.bipush 16, 2) := by decide +kernel
theorem dX12_lay_94 : decode cX12_lay 94 = .ok (.ishr, 1) := by decide +kernel
theorem dX12_lay_95 : decode cX12_lay 95 = .ok (.goto 4, 3) := by decide +kernel
theorem dX12_lay_98 : decode cX12_lay 98 = .ok (.iload_n 3, 1) := by decide +kernel
theorem dX12_lay_99 : decode cX12_lay 99 = .ok (.iastore, 1) := by decide +kernel
theorem dX12_lay_100 : decode cX12_lay 100 = .ok (.iconst 1, 1) := by decide +kernel
theorem dX12_lay_101 : decode cX12_lay 101 = .ok (.ireturn, 1) := by decide +kernel
set_option maxRecDepth 100000 in
set_option maxHeartbeats 4000000 in
theorem c_X12_lay (X : XE) (p1 : Int) (p2 : Int) (p3 : Int) (hp1 : inR p1) (hp2 : inR p2) (hp3 : inR p3) {σ : Mem} {Q : Int → Mem → Prop} (h : v_X12_lay p1 p2 p3 σ Q) : CT X yX12_lay cX12_lay 4 (some .int) rm_X12_lay 1 [.ref (xad X 122), vI p1, vI p2, vI p3] σ Q := by
  refine ct_of (own := RX12) (L := [(0, .ref (xad X 122)), (1, vI p1), (2, vI p2), (3, vI p3)]) rfl rfl (Nat.le_of_ble_eq_true rfl) rfl ?_
  refine ok_iload_n 1 (pc := 0) dX12_lay_0 rfl rfl ?_
  refine ok_i2l (pc := 1) dX12_lay_1 hp1 ?_
  refine ok_lconst (v := 0) (pc := 2) dX12_lay_2 rfl ?_
  refine ok_ldc2 (pc := 3) dX12_lay_3 cn_X12_269 ?_
  refine ok_callSi (As := [vL p1, vL 0, vL 3]) (rest := []) (rm := rm_X12_in) (pc := 6) dX12_lay_6 me_X12_in ml_X12_137 des_X12_in rfl ⟨rfl, rfl, rfl, rfl⟩ rfl rfl (c_X12_in X p1 0 3 (l_of_r hp1) (l_of_r (r_lit rfl)) (l_of_r (r_lit rfl)) h) (fun r2 σ3 h1 h => ?_)
  refine ok_if_ne (tgt := 14) (pc := 9) dX12_lay_9 rfl h1 (fun q4 => ?_) (fun q4 => ?_)
  · have h := iteF h q4
    refine ok_aload_n 0 (pc := 14) dX12_lay_14 rfl rfl ?_
    refine ok_getR (pc := 15) dX12_lay_15 fl_X12_120 sh_122 (Nat.le_of_ble_eq_true rfl) rfl rfl ?_
    refine ok_iload_n 1 (pc := 18) dX12_lay_18 rfl rfl ?_
    obtain ⟨h5, h⟩ := h
    obtain ⟨h6, h⟩ := h
    refine ok_wf (fun hw7 => ?_)
    refine ok_iald (pc := 19) dX12_lay_19 sh_158 (Nat.le_of_ble_eq_true rfl) rfl h5 h6 ?_
    refine ok_bipush (pc := 20) dX12_lay_20 rfl ?_
    refine ok_icmp_ne (tgt := 28) (pc := 22) dX12_lay_22 rfl (hw7 _ _) (r_lit rfl) (fun q8 => ?_) (fun q8 => ?_)
    · have h := iteF h q8
      refine ok_iload_n 2 (pc := 28) dX12_lay_28 rfl rfl ?_
      refine ok_i2l (pc := 29) dX12_lay_29 hp2 ?_
      refine ok_lconst (v := 0) (pc := 30) dX12_lay_30 rfl ?_
      refine ok_aload_n 0 (pc := 31) dX12_lay_31 rfl rfl ?_
      refine ok_getR (pc := 32) dX12_lay_32 fl_X12_123 sh_122 (Nat.le_of_ble_eq_true rfl) rfl rfl ?_
      refine ok_iload_n 1 (pc := 35) dX12_lay_35 rfl rfl ?_
      refine ok_iald (pc := 36) dX12_lay_36 sh_159 (Nat.le_of_ble_eq_true rfl) rfl h5 h6 ?_
      refine ok_iconst (pc := 37) dX12_lay_37 ?_
      refine ok_isub (pc := 38) dX12_lay_38 ?_
      obtain ⟨h9, h⟩ := h
      refine ok_i2l (pc := 39) dX12_lay_39 h9 ?_
      refine ok_callSi (As := [vL p2, vL 0, vL ((σ3 159 p1.toNat) - 1)]) (rest := []) (rm := rm_X12_in) (pc := 40) dX12_lay_40 me_X12_in ml_X12_137 des_X12_in rfl ⟨rfl, rfl, rfl, rfl⟩ rfl rfl (c_X12_in X p2 0 ((σ3 159 p1.toNat) - 1) (l_of_r hp2) (l_of_r (r_lit rfl)) (l_of_r h9) h) (fun r11 σ12 h10 h => ?_)
      refine ok_if_ne (tgt := 49) (pc := 43) dX12_lay_43 rfl h10 (fun q13 => ?_) (fun q13 => ?_)
      · have h := iteF h q13
        refine ok_aload_n 0 (pc := 49) dX12_lay_49 rfl rfl ?_
        refine ok_getR (pc := 50) dX12_lay_50 fl_X12_126 sh_122 (Nat.le_of_ble_eq_true rfl) rfl rfl ?_
        refine ok_bipush (pc := 53) dX12_lay_53 rfl ?_
        refine ok_iload_n 1 (pc := 55) dX12_lay_55 rfl rfl ?_
        refine ok_imul (pc := 56) dX12_lay_56 ?_
        refine ok_iload_n 2 (pc := 57) dX12_lay_57 rfl rfl ?_
        refine ok_iadd (pc := 58) dX12_lay_58 ?_
        refine ok_aload_n 0 (pc := 59) dX12_lay_59 rfl rfl ?_
        refine ok_getR (pc := 60) dX12_lay_60 fl_X12_120 sh_122 (Nat.le_of_ble_eq_true rfl) rfl rfl ?_
        refine ok_iload_n 1 (pc := 63) dX12_lay_63 rfl rfl ?_
        refine ok_wf (fun hw14 => ?_)
        refine ok_iald (pc := 64) dX12_lay_64 sh_158 (Nat.le_of_ble_eq_true rfl) rfl h5 h6 ?_
        refine ok_if_ne (tgt := 78) (pc := 65) dX12_lay_65 rfl (hw14 _ _) (fun q15 => ?_) (fun q15 => ?_)
        · have h := iteF h q15
          refine ok_aload_n 0 (pc := 78) dX12_lay_78 rfl rfl ?_
          refine ok_getR (pc := 79) dX12_lay_79 fl_X12_120 sh_122 (Nat.le_of_ble_eq_true rfl) rfl rfl ?_
          refine ok_iload_n 1 (pc := 82) dX12_lay_82 rfl rfl ?_
          refine ok_iald (pc := 83) dX12_lay_83 sh_158 (Nat.le_of_ble_eq_true rfl) rfl h5 h6 ?_
          refine ok_iconst (pc := 84) dX12_lay_84 ?_
          refine ok_icmp_ne (tgt := 98) (pc := 85) dX12_lay_85 rfl (hw14 _ _) (r_lit rfl) (fun q16 => ?_) (fun q16 => ?_)
          · have h := iteF h q16
            refine ok_iload_n 3 (pc := 98) dX12_lay_98 rfl rfl ?_
            obtain ⟨h17, h⟩ := h
            obtain ⟨h18, h⟩ := h
            refine ok_iast (pc := 99) dX12_lay_99 sh_160 (Nat.le_of_ble_eq_true rfl) rfl h17 h18 hp3 ?_
            refine ok_iconst (pc := 100) dX12_lay_100 ?_
            exact ok_iret (pc := 101) dX12_lay_101 rfl rfl rfl (r_lit rfl) h
          · have h := iteT h q16
            refine ok_iload_n 3 (pc := 88) dX12_lay_88 rfl rfl ?_
            refine ok_bipush (pc := 89) dX12_lay_89 rfl ?_
            refine ok_ishl (pc := 91) dX12_lay_91 ?_
            refine ok_bipush (pc := 92) dX12_lay_92 rfl ?_
            refine ok_ishr (pc := 94) dX12_lay_94 ?_
            refine ok_goto (tgt := 99) (pc := 95) dX12_lay_95 rfl ?_
            obtain ⟨h19, h⟩ := h
            obtain ⟨h20, h⟩ := h
            refine ok_iast (pc := 99) dX12_lay_99 sh_160 (Nat.le_of_ble_eq_true rfl) rfl h19 h20 (q_rng _) ?_
            refine ok_iconst (pc := 100) dX12_lay_100 ?_
            exact ok_iret (pc := 101) dX12_lay_101 rfl rfl rfl (r_lit rfl) h
        · have h := iteT h q15
          refine ok_iload_n 3 (pc := 68) dX12_lay_68 rfl rfl ?_
          refine ok_bipush (pc := 69) dX12_lay_69 rfl ?_
          refine ok_ishl (pc := 71) dX12_lay_71 ?_
          refine ok_bipush (pc := 72) dX12_lay_72 rfl ?_
          refine ok_ishr (pc := 74) dX12_lay_74 ?_
          refine ok_goto (tgt := 99) (pc := 75) dX12_lay_75 rfl ?_
          obtain ⟨h21, h⟩ := h
          obtain ⟨h22, h⟩ := h
          refine ok_iast (pc := 99) dX12_lay_99 sh_160 (Nat.le_of_ble_eq_true rfl) rfl h21 h22 (q_rng _) ?_
          refine ok_iconst (pc := 100) dX12_lay_100 ?_
          exact ok_iret (pc := 101) dX12_lay_101 rfl rfl rfl (r_lit rfl) h
      · have h := iteT h q13
        refine ok_bipush (pc := 46) dX12_lay_46 rfl ?_
        exact ok_iret (pc := 48) dX12_lay_48 rfl rfl rfl (r_lit rfl) h
    · have h := iteT h q8
      refine ok_bipush (pc := 25) dX12_lay_25 rfl ?_
      exact ok_iret (pc := 27) dX12_lay_27 rfl rfl rfl (r_lit rfl) h
  · have h := iteT h q4
    refine ok_iconst (pc := 12) dX12_lay_12 ?_
    exact ok_iret (pc := 13) dX12_lay_13 rfl rfl rfl (r_lit rfl) h
theorem dX12_read_0 : decode cX12_read 0 = .ok (.iload_n 1, 1) := by decide +kernel
theorem dX12_read_1 : decode cX12_read 1 = .ok (.i2l, 1) := by decide +kernel
theorem dX12_read_2 : decode cX12_read 2 = .ok (.lconst 0, 1) := by decide +kernel
theorem dX12_read_3 : decode cX12_read 3 = .ok (.ldc2_w 243, 3) := by decide +kernel
theorem dX12_read_6 : decode cX12_read 6 = .ok (.invokestatic 137, 3) := by decide +kernel
theorem dX12_read_9 : decode cX12_read 9 = .ok (.ifCond .eq 40, 3) := by decide +kernel
theorem dX12_read_12 : decode cX12_read 12 = .ok (.iload_n 2, 1) := by decide +kernel
theorem dX12_read_13 : decode cX12_read 13 = .ok (.i2l, 1) := by decide +kernel
theorem dX12_read_14 : decode cX12_read 14 = .ok (.lconst 0, 1) := by decide +kernel
theorem dX12_read_15 : decode cX12_read 15 = .ok (.ldc2_w 269, 3) := by decide +kernel
theorem dX12_read_18 : decode cX12_read 18 = .ok (.invokestatic 137, 3) := by decide +kernel
theorem dX12_read_21 : decode cX12_read 21 = .ok (.ifCond .eq 28, 3) := by decide +kernel
theorem dX12_read_24 : decode cX12_read 24 = .ok (.iload_n 3, 1) := by decide +kernel
theorem dX12_read_25 : decode cX12_read 25 = .ok (.i2l, 1) := by decide +kernel
theorem dX12_read_26 : decode cX12_read 26 = .ok (.lconst 0, 1) := by decide +kernel
theorem dX12_read_27 : decode cX12_read 27 = .ok (.ldc2_w 245, 3) := by decide +kernel
theorem dX12_read_30 : decode cX12_read 30 = .ok (.invokestatic 137, 3) := by decide +kernel
theorem dX12_read_33 : decode cX12_read 33 = .ok (.ifCond .eq 16, 3) := by decide +kernel
theorem dX12_read_36 : decode cX12_read 36 = .ok (.iload 5, 2) := by decide +kernel
theorem dX12_read_38 : decode cX12_read 38 = .ok (.i2l, 1) := by decide +kernel
theorem dX12_read_39 : decode cX12_read 39 = .ok (.lconst 0, 1) := by decide +kernel
theorem dX12_read_40 : decode cX12_read 40 = .ok (.ldc2_w 369, 3) := by decide +kernel
theorem dX12_read_43 : decode cX12_read 43 = .ok (.invokestatic 137, 3) := by decide +kernel
theorem dX12_read_46 : decode cX12_read 46 = .ok (.ifCond .ne 5, 3) := by decide +kernel
theorem dX12_read_49 : decode cX12_read 49 = .ok (.iconst (-1), 1) := by decide +kernel
theorem dX12_read_50 : decode cX12_read 50 = .ok (.ireturn, 1) := by decide +kernel
theorem dX12_read_51 : decode cX12_read 51 = .ok (.iconst 0, 1) := by decide +kernel
theorem dX12_read_52 : decode cX12_read 52 = .ok (.istore 6, 2) := by decide +kernel
theorem dX12_read_54 : decode cX12_read 54 = .ok (.iconst 0, 1) := by decide +kernel
theorem dX12_read_55 : decode cX12_read 55 = .ok (.istore 7, 2) := by decide +kernel
theorem dX12_read_57 : decode cX12_read 57 = .ok (.iconst 0, 1) := by decide +kernel
theorem dX12_read_58 : decode cX12_read 58 = .ok (.istore 8, 2) := by decide +kernel
theorem dX12_read_60 : decode cX12_read 60 = .ok (.iload 8, 2) := by decide +kernel
theorem dX12_read_62 : decode cX12_read 62 = .ok (.iconst 4, 1) := by decide +kernel
theorem dX12_read_63 : decode cX12_read 63 = .ok (.iload 5, 2) := by decide +kernel
theorem dX12_read_65 : decode cX12_read 65 = .ok (.imul, 1) := by decide +kernel
theorem dX12_read_66 : decode cX12_read 66 = .ok (.if_icmp .ge 153, 3) := by decide +kernel
theorem dX12_read_69 : decode cX12_read 69 = .ok (.iload 6, 2) := by decide +kernel
theorem dX12_read_71 : decode cX12_read 71 = .ok (.ifCond .ne 148, 3) := by decide +kernel
theorem dX12_read_74 : decode cX12_read 74 = .ok (.aload_n 0, 1) := by decide +kernel
theorem dX12_read_75 : decode cX12_read 75 = .ok (.getfield 120, 3) := by decide +kernel
theorem dX12_read_78 : decode cX12_read 78 = .ok (.iload_n 2, 1) := by decide +kernel
theorem dX12_read_79 : decode cX12_read 79 = .ok (.iaload, 1) := by decide +kernel
theorem dX12_read_80 : decode cX12_read 80 = .ok (.bipush (-4), 2) := by decide +kernel
theorem dX12_read_82 : decode cX12_read 82 = .ok (.if_icmp .ne 7, 3) := by decide +kernel
theorem dX12_read_85 : decode cX12_read 85 = .ok (.iconst 1, 1) := by decide +kernel
theorem dX12_read_86 : decode cX12_read 86 = .ok (.goto 45, 3) := by decide +kernel
theorem dX12_read_89 : decode cX12_read 89 = .ok (.aload_n 0, 1) := by decide +kernel
theorem dX12_read_90 : decode cX12_read 90 = .ok (.getfield 120, 3) := by decide +kernel
theorem dX12_read_93 : decode cX12_read 93 = .ok (.iload_n 2, 1) := by decide +kernel
theorem dX12_read_94 : decode cX12_read 94 = .ok (.iaload, 1) := by decide +kernel
theorem dX12_read_95 : decode cX12_read 95 = .ok (.iload_n 3, 1) := by decide +kernel
theorem dX12_read_96 : decode cX12_read 96 = .ok (.if_icmp .eq 7, 3) := by decide +kernel
theorem dX12_read_99 : decode cX12_read 99 = .ok (.iconst 3, 1) := by decide +kernel
theorem dX12_read_100 : decode cX12_read 100 = .ok (.goto 31, 3) := by decide +kernel
theorem dX12_read_103 : decode cX12_read 103 = .ok (.iload 4, 2) := by decide +kernel
theorem dX12_read_105 : decode cX12_read 105 = .ok (.i2l, 1) := by decide +kernel
theorem dX12_read_106 : decode cX12_read 106 = .ok (.iload 8, 2) := by decide +kernel
theorem dX12_read_108 : decode cX12_read 108 = .ok (.i2l, 1) := by decide +kernel
theorem dX12_read_109 : decode cX12_read 109 = .ok (.ladd, 1) := by decide +kernel
theorem dX12_read_110 : decode cX12_read 110 = .ok (.lconst 0, 1) := by decide +kernel
theorem dX12_read_111 : decode cX12_read 111 = .ok (.aload_n 0, 1) := by decide +kernel
theorem dX12_read_112 : decode cX12_read 112 = .ok (.getfield 123, 3) := by decide +kernel
theorem dX12_read_115 : decode cX12_read 115 = .ok (.iload_n 2, 1) := by decide +kernel
theorem dX12_read_116 : decode cX12_read 116 = .ok (.iaload, 1) := by decide +kernel
theorem dX12_read_117 : decode cX12_read 117 = .ok (.iconst 1, 1) := by decide +kernel
theorem dX12_read_118 : decode cX12_read 118 = .ok (.isub, 1) := by decide +kernel
theorem dX12_read_119 : decode cX12_read 119 = .ok (.i2l, 1) := by decide +kernel
theorem dX12_read_120 : decode cX12_read 120 = .ok (.invokestatic 137, 3) := by decide +kernel
theorem dX12_read_123 : decode cX12_read 123 = .ok (.ifCond .ne 7, 3) := by decide +kernel
theorem dX12_read_126 : decode cX12_read 126 = .ok (.iconst 2, 1) := by decide +kernel
theorem dX12_read_127 : decode cX12_read 127 = .ok (.goto 4, 3) := by decide +kernel
theorem dX12_read_130 : decode cX12_read 130 = .ok (.iconst 0, 1) := by decide +kernel
theorem dX12_read_131 : decode cX12_read 131 = .ok (.istore 6, 2) := by decide +kernel
theorem dX12_read_133 : decode cX12_read 133 = .ok (.iload 6, 2) := by decide +kernel
theorem dX12_read_135 : decode cX12_read 135 = .ok (.ifCond .ne 78, 3) := by decide +kernel
theorem dX12_read_138 : decode cX12_read 138 = .ok (.aload_n 0, 1) := by decide +kernel
theorem dX12_read_139 : decode cX12_read 139 = .ok (.getfield 126, 3) := by decide +kernel
theorem dX12_read_142 : decode cX12_read 142 = .ok (.bipush 96, 2) := by decide +kernel
theorem dX12_read_144 : decode cX12_read 144 = .ok (.iload_n 2, 1) := by decide +kernel
theorem dX12_read_145 : decode cX12_read 145 = .ok (.imul, 1) := by decide +kernel
theorem dX12_read_146 : decode cX12_read 146 = .ok (.iload 4, 2) := by decide +kernel
theorem dX12_read_148 : decode cX12_read 148 = .ok (.iadd, 1) := by decide +kernel
theorem dX12_read_149 : decode cX12_read 149 = .ok (.iload 8, 2) := by decide +kernel
theorem dX12_read_151 : decode cX12_read 151 = .ok (.iadd, 1) := by decide +kernel
theorem dX12_read_152 : decode cX12_read 152 = .ok (.iaload, 1) := by decide +kernel
theorem dX12_read_153 : decode cX12_read 153 = .ok (.istore 9, 2) := by decide +kernel
theorem dX12_read_155 : decode cX12_read 155 = .ok (.iload 9, 2) := by decide +kernel
theorem dX12_read_157 : decode cX12_read 157 = .ok (.sipush 999, 3) := by decide +kernel
theorem dX12_read_160 : decode cX12_read 160 = .ok (.if_icmp .le 9, 3) := by decide +kernel
theorem dX12_read_163 : decode cX12_read 163 = .ok (.bipush (-20), 2) := by decide +kernel
theorem dX12_read_165 : decode cX12_read 165 = .ok (.iload 8, 2) := by decide +kernel
theorem dX12_read_167 : decode cX12_read 167 = .ok (.isub, 1) := by decide +kernel
theorem dX12_read_168 : decode cX12_read 168 = .ok (.ireturn, 1) := by decide +kernel
theorem dX12_read_169 : decode cX12_read 169 = .ok (.aload_n 0, 1) := by decide +kernel
theorem dX12_read_170 : decode cX12_read 170 = .ok (.getfield 129, 3) := by decide +kernel
theorem dX12_read_173 : decode cX12_read 173 = .ok (.iload 8, 2) := by decide +kernel
theorem dX12_read_175 : decode cX12_read 175 = .ok (.iload 9, 2) := by decide +kernel
theorem dX12_read_177 : decode cX12_read 177 = .ok (.ifCond .ge 7, 3) := by decide +kernel
theorem dX12_read_180 : decode cX12_read 180 = .ok (.iconst 0, 1) := by decide +kernel
theorem dX12_read_181 : decode cX12_read 181 = .ok (.goto 5, 3) := by decide +kernel
theorem dX12_read_184 : decode cX12_read 184 = .ok (.iload 9, 2) := by decide +kernel
theorem dX12_read_186 : decode cX12_read 186 = .ok (.iastore, 1) := by decide +kernel
theorem dX12_read_187 : decode cX12_read 187 = .ok (.iload 8, 2) := by decide +kernel
theorem dX12_read_189 : decode cX12_read 189 = .ok (.iconst 4, 1) := by decide +kernel
theorem dX12_read_190 : decode cX12_read 190 = .ok (.irem, 1) := by decide +kernel
theorem dX12_read_191 : decode cX12_read 191 = .ok (.iconst 3, 1) := by decide +kernel
theorem dX12_read_192 : decode cX12_read 192 = .ok (.if_icmp .ne 21, 3) := by decide +kernel
theorem dX12_read_195 : decode cX12_read 195 = .ok (.iinc 7 1, 3) := by decide +kernel
theorem dX12_read_198 : decode cX12_read 198 = .ok (.aload_n 0, 1) := by decide +kernel
theorem dX12_read_199 : decode cX12_read 199 = .ok (.getfield 232, 3) := by decide +kernel
theorem dX12_read_202 : decode cX12_read 202 = .ok (.iload 7, 2) := by decide +kernel
theorem dX12_read_204 : decode cX12_read 204 = .ok (.iadd, 1) := by decide +kernel
theorem dX12_read_205 : decode cX12_read 205 = .ok (.bipush 24, 2) := by decide +kernel
theorem dX12_read_207 : decode cX12_read 207 = .ok (.if_icmp .le 6, 3) := by decide +kernel
theorem dX12_read_210 : decode cX12_read 210 = .ok (.bipush (-3), 2) := by decide +kernel
theorem dX12_read_212 : decode cX12_read 212 = .ok (.ireturn, 1) := by decide +kernel
theorem dX12_read_213 : decode cX12_read 213 = .ok (.iinc 8 1, 3) := by decide +kernel
theorem dX12_read_216 : decode cX12_read 216 = .ok (.goto (-156), 3) := by decide +kernel
theorem dX12_read_219 : decode cX12_read 219 = .ok (.iconst 0, 1) := by decide +kernel
theorem dX12_read_220 : decode cX12_read 220 = .ok (.istore 8, 2) := by decide +kernel
theorem dX12_read_222 : decode cX12_read 222 = .ok (.iload 8, 2) := by decide +kernel
theorem dX12_read_224 : decode cX12_read 224 = .ok (.iload 7, 2) := by decide +kernel
theorem dX12_read_226 : decode cX12_read 226 = .ok (.if_icmp .ge 58, 3) := by decide +kernel
theorem dX12_read_229 : decode cX12_read 229 = .ok (.aload_n 0, 1) := by decide +kernel
theorem dX12_read_230 : decode cX12_read 230 = .ok (.iload_n 1, 1) := by decide +kernel
theorem dX12_read_231 : decode cX12_read 231 = .ok (.iconst 0, 1) := by decide +kernel
theorem dX12_read_232 : decode cX12_read 232 = .ok (.aload_n 0, 1) := by decide +kernel
theorem dX12_read_233 : decode cX12_read 233 = .ok (.getfield 129, 3) := by decide +kernel
theorem dX12_read_236 : decode cX12_read 236 = .ok (.iconst 4, 1) := by decide +kernel
theorem dX12_read_237 : decode cX12_read 237 = .ok (.iload 8, 2) := by decide +kernel
theorem dX12_read_239 : decode cX12_read 239 = .ok (.imul, 1) := by decide +kernel
theorem dX12_read_240 : decode cX12_read 240 = .ok (.iaload, 1) := by decide +kernel
theorem dX12_read_241 : decode cX12_read 241 = .ok (.aload_n 0, 1) := by decide +kernel
theorem dX12_read_242 : decode cX12_read 242 = .ok (.getfield 129, 3) := by decide +kernel
theorem dX12_read_245 : decode cX12_read 245 = .ok (.iconst 4, 1) := by decide +kernel
theorem dX12_read_246 : decode cX12_read 246 = .ok (.iload 8, 2) := by decide +kernel
theorem dX12_read_248 : decode cX12_read 248 = .ok (.imul, 1) := by decide +kernel
theorem dX12_read_249 : decode cX12_read 249 = .ok (.iconst 1, 1) := by decide +kernel
theorem dX12_read_250 : decode cX12_read 250 = .ok (.iadd, 1) := by decide +kernel
theorem dX12_read_251 : decode cX12_read 251 = .ok (.iaload, 1) := by decide +kernel
theorem dX12_read_252 : decode cX12_read 252 = .ok (.aload_n 0, 1) := by decide +kernel
theorem dX12_read_253 : decode cX12_read 253 = .ok (.getfield 129, 3) := by decide +kernel
theorem dX12_read_256 : decode cX12_read 256 = .ok (.iconst 4, 1) := by decide +kernel
theorem dX12_read_257 : decode cX12_read 257 = .ok (.iload 8, 2) := by decide +kernel
theorem dX12_read_259 : decode cX12_read 259 = .ok (.imul, 1) := by decide +kernel
theorem dX12_read_260 : decode cX12_read 260 = .ok (.iconst 2, 1) := by decide +kernel
theorem dX12_read_261 : decode cX12_read 261 = .ok (.iadd, 1) := by decide +kernel
theorem dX12_read_262 : decode cX12_read 262 = .ok (.iaload, 1) := by decide +kernel
theorem dX12_read_263 : decode cX12_read 263 = .ok (.aload_n 0, 1) := by decide +kernel
theorem dX12_read_264 : decode cX12_read 264 = .ok (.getfield 129, 3) := by decide +kernel
theorem dX12_read_267 : decode cX12_read 267 = .ok (.iconst 4, 1) := by decide +kernel
theorem dX12_read_268 : decode cX12_read 268 = .ok (.iload 8, 2) := by decide +kernel
theorem dX12_read_270 : decode cX12_read 270 = .ok (.imul, 1) := by decide +kernel
theorem dX12_read_271 : decode cX12_read 271 = .ok (.iconst 3, 1) := by decide +kernel
theorem dX12_read_272 : decode cX12_read 272 = .ok (.iadd, 1) := by decide +kernel
theorem dX12_read_273 : decode cX12_read 273 = .ok (.iaload, 1) := by decide +kernel
theorem dX12_read_274 : decode cX12_read 274 = .ok (.iconst 0, 1) := by decide +kernel
theorem dX12_read_275 : decode cX12_read 275 = .ok (.invokevirtual 253, 3) := by decide +kernel
theorem dX12_read_278 : decode cX12_read 278 = .ok (.iinc 8 1, 3) := by decide +kernel
theorem dX12_read_281 : decode cX12_read 281 = .ok (.goto (-59), 3) := by decide +kernel
theorem dX12_read_284 : decode cX12_read 284 = .ok (.aload_n 0, 1) := by decide +kernel
theorem dX12_read_285 : decode cX12_read 285 = .ok (.iload 6, 2) := by decide +kernel
theorem dX12_read_287 : decode cX12_read 287 = .ok (.putfield 371, 3) := by decide +kernel
theorem dX12_read_290 : decode cX12_read 290 = .ok (.iload 7, 2) := by decide +kernel
theorem dX12_read_292 : decode cX12_read 292 = .ok (.ireturn, 1) := by decide +kernel
set_option maxRecDepth 100000 in
set_option maxHeartbeats 4000000 in
theorem w_X12_read_222 (X : XE) (p1 : Int) (p2 : Int) (p3 : Int) (p4 : Int) (p5 : Int) (hp1 : inR p1) (hp2 : inR p2) (hp3 : inR p3) (hp4 : inR p4) (hp5 : inR p5) (x6 : Int) (x7 : Int) (hx6 : inR x6) (hx7 : inR x7) {Q : Int → Mem → Prop} : ∀ (n : Nat) (x8 : Int) (σ : Mem), inR x8 → l_X12_read_222 p1 p2 p3 p4 p5 x6 x7 Q n x8 σ → ok X rm_X12_read RX12 cX12_read 10 (some .int) 1 Q 222 [(0, .ref (xad X 122)), (1, vI p1), (6, vI x6), (7, vI x7), (8, vI x8)] [] σ := by
  intro n
  induction n with
  | zero => intro x8 σ hx8 h; exact False.elim h
  | succ n ih =>
    intro x8 σ hx8 h
    refine ok_iload 4 (pc := 222) dX12_read_222 rfl ?_
    refine ok_iload 3 (pc := 224) dX12_read_224 rfl ?_
    refine ok_icmp_ge (tgt := 284) (pc := 226) dX12_read_226 rfl hx8 hx7 (fun q1 => ?_) (fun q1 => ?_)
    · have h := iteF h q1
      refine ok_aload_n 0 (pc := 284) dX12_read_284 rfl rfl ?_
      refine ok_iload 2 (pc := 285) dX12_read_285 rfl ?_
      refine ok_putI (pc := 287) dX12_read_287 fl_X12_371 fp_X12_60 sh_122 (Nat.le_of_ble_eq_true rfl) rfl rfl hx6 rfl rfl ?_
      refine ok_iload 3 (pc := 290) dX12_read_290 rfl ?_
      exact ok_iret (pc := 292) dX12_read_292 rfl rfl rfl hx7 h
    · have h := iteT h q1
      refine ok_aload_n 0 (pc := 229) dX12_read_229 rfl rfl ?_
      refine ok_iload_n 1 (pc := 230) dX12_read_230 rfl rfl ?_
      refine ok_iconst (pc := 231) dX12_read_231 ?_
      refine ok_aload_n 0 (pc := 232) dX12_read_232 rfl rfl ?_
      refine ok_getR (pc := 233) dX12_read_233 fl_X12_129 sh_122 (Nat.le_of_ble_eq_true rfl) rfl rfl ?_
      refine ok_iconst (pc := 236) dX12_read_236 ?_
      refine ok_iload 4 (pc := 237) dX12_read_237 rfl ?_
      refine ok_imul (pc := 239) dX12_read_239 ?_
      obtain ⟨h2, h⟩ := h
      obtain ⟨h3, h⟩ := h
      refine ok_wf (fun hw4 => ?_)
      refine ok_iald (pc := 240) dX12_read_240 sh_161 (Nat.le_of_ble_eq_true rfl) rfl h2 h3 ?_
      refine ok_aload_n 0 (pc := 241) dX12_read_241 rfl rfl ?_
      refine ok_getR (pc := 242) dX12_read_242 fl_X12_129 sh_122 (Nat.le_of_ble_eq_true rfl) rfl rfl ?_
      refine ok_iconst (pc := 245) dX12_read_245 ?_
      refine ok_iload 4 (pc := 246) dX12_read_246 rfl ?_
      refine ok_imul (pc := 248) dX12_read_248 ?_
      refine ok_iconst (pc := 249) dX12_read_249 ?_
      refine ok_iadd (pc := 250) dX12_read_250 ?_
      obtain ⟨h5, h⟩ := h
      obtain ⟨h6, h⟩ := h
      refine ok_iald (pc := 251) dX12_read_251 sh_161 (Nat.le_of_ble_eq_true rfl) rfl h5 h6 ?_
      refine ok_aload_n 0 (pc := 252) dX12_read_252 rfl rfl ?_
      refine ok_getR (pc := 253) dX12_read_253 fl_X12_129 sh_122 (Nat.le_of_ble_eq_true rfl) rfl rfl ?_
      refine ok_iconst (pc := 256) dX12_read_256 ?_
      refine ok_iload 4 (pc := 257) dX12_read_257 rfl ?_
      refine ok_imul (pc := 259) dX12_read_259 ?_
      refine ok_iconst (pc := 260) dX12_read_260 ?_
      refine ok_iadd (pc := 261) dX12_read_261 ?_
      obtain ⟨h7, h⟩ := h
      obtain ⟨h8, h⟩ := h
      refine ok_iald (pc := 262) dX12_read_262 sh_161 (Nat.le_of_ble_eq_true rfl) rfl h7 h8 ?_
      refine ok_aload_n 0 (pc := 263) dX12_read_263 rfl rfl ?_
      refine ok_getR (pc := 264) dX12_read_264 fl_X12_129 sh_122 (Nat.le_of_ble_eq_true rfl) rfl rfl ?_
      refine ok_iconst (pc := 267) dX12_read_267 ?_
      refine ok_iload 4 (pc := 268) dX12_read_268 rfl ?_
      refine ok_imul (pc := 270) dX12_read_270 ?_
      refine ok_iconst (pc := 271) dX12_read_271 ?_
      refine ok_iadd (pc := 272) dX12_read_272 ?_
      obtain ⟨h9, h⟩ := h
      obtain ⟨h10, h⟩ := h
      refine ok_iald (pc := 273) dX12_read_273 sh_161 (Nat.le_of_ble_eq_true rfl) rfl h9 h10 ?_
      refine ok_iconst (pc := 274) dX12_read_274 ?_
      refine ok_callVv (As := [vI p1, vI 0, vI (σ 161 (4 * x8).toNat), vI (σ 161 ((4 * x8) + 1).toNat), vI (σ 161 ((4 * x8) + 2).toNat), vI (σ 161 ((4 * x8) + 3).toNat), vI 0]) (rest := []) (rm := rm_X12_addCard) (pc := 275) dX12_read_275 me_X12_addCard ml_X12_253 (ci := 12) rfl sh_122 (Nat.le_of_ble_eq_true rfl) rfl des_X12_addCard rfl ⟨rfl, rfl, rfl, rfl⟩ rfl rfl (c_X12_addCard X p1 0 (σ 161 (4 * x8).toNat) (σ 161 ((4 * x8) + 1).toNat) (σ 161 ((4 * x8) + 2).toNat) (σ 161 ((4 * x8) + 3).toNat) 0 hp1 (r_lit rfl) (hw4 _ _) (hw4 _ _) (hw4 _ _) (hw4 _ _) (r_lit rfl) h) (fun σ13 h => ?_)
      refine ok_iinc (L' := [(8, vI (x8 + 1)), (0, .ref (xad X 122)), (1, vI p1), (6, vI x6), (7, vI x7)]) 4 (pc := 278) dX12_read_278 rfl rfl rfl ?_
      refine ok_goto (tgt := 222) (pc := 281) dX12_read_281 rfl ?_
      obtain ⟨h14, h⟩ := h
      refine ok_sub (L' := [(0, .ref (xad X 122)), (1, vI p1), (6, vI x6), (7, vI x7), (8, vI (x8 + 1))]) [1,2,3,4,0] rfl ?_
      exact ih (x8 + 1) σ13 h14 h
set_option maxRecDepth 100000 in
set_option maxHeartbeats 4000000 in
theorem w_X12_read_186 (X : XE) (p1 : Int) (p2 : Int) (p3 : Int) (p4 : Int) (p5 : Int) (hp1 : inR p1) (hp2 : inR p2) (hp3 : inR p3) (hp4 : inR p4) (hp5 : inR p5) (x6 : Int) (x7 : Int) (x8 : Int) (s0 : Int) (s1 : Int) (hx6 : inR x6) (hx7 : inR x7) (hx8 : inR x8) (hs0 : inR s0) (hs1 : inR s1) {K60 : Int → Int → Int → Mem → Prop} {Q : Int → Mem → Prop} (hK60 : ∀ (x6 : Int) (x7 : Int) (x8 : Int) (σ : Mem), inR x6 → inR x7 → inR x8 → K60 x6 x7 x8 σ → ok X rm_X12_read RX12 cX12_read 10 (some .int) 1 Q 60 [(0, .ref (xad X 122)), (1, vI p1), (2, vI p2), (3, vI p3), (4, vI p4), (5, vI p5), (6, vI x6), (7, vI x7), (8, vI x8)] [] σ) {σ : Mem} (h : j_X12_read_186 p1 p2 p3 p4 p5 K60 Q x6 x7 x8 s0 s1 σ) : ok X rm_X12_read RX12 cX12_read 10 (some .int) 1 Q 186 [(0, .ref (xad X 122)), (1, vI p1), (2, vI p2), (3, vI p3), (4, vI p4), (5, vI p5), (6, vI x6), (7, vI x7), (8, vI x8)] [vI s0, vI s1, .ref (xad X 161)] σ := by
  obtain ⟨h1, h⟩ := h
  obtain ⟨h2, h⟩ := h
  refine ok_iast (pc := 186) dX12_read_186 sh_161 (Nat.le_of_ble_eq_true rfl) rfl h1 h2 hs0 ?_
  refine ok_iload 8 (pc := 187) dX12_read_187 rfl ?_
  refine ok_iconst (pc := 189) dX12_read_189 ?_
  refine ok_irem (pc := 190) dX12_read_190 hx8 (r_lit rfl) (by decide) ?_
  refine ok_iconst (pc := 191) dX12_read_191 ?_
  obtain ⟨h3, h⟩ := h
  refine ok_icmp_ne (tgt := 213) (pc := 192) dX12_read_192 rfl h3 (r_lit rfl) (fun q4 => ?_) (fun q4 => ?_)
  · have h := iteF h q4
    refine ok_iinc (L' := [(8, vI (x8 + 1)), (0, .ref (xad X 122)), (1, vI p1), (2, vI p2), (3, vI p3), (4, vI p4), (5, vI p5), (6, vI x6), (7, vI x7)]) 8 (pc := 213) dX12_read_213 rfl rfl rfl ?_
    refine ok_goto (tgt := 60) (pc := 216) dX12_read_216 rfl ?_
    obtain ⟨h5, h⟩ := h
    refine ok_sub (L' := [(0, .ref (xad X 122)), (1, vI p1), (2, vI p2), (3, vI p3), (4, vI p4), (5, vI p5), (6, vI x6), (7, vI x7), (8, vI (x8 + 1))]) [1,2,3,4,5,6,7,8,0] rfl ?_
    exact hK60 x6 x7 (x8 + 1) (mset σ 161 (s1.toNat) s0) hx6 hx7 h5 h
  · have h := iteT h q4
    refine ok_iinc (L' := [(7, vI (x7 + 1)), (0, .ref (xad X 122)), (1, vI p1), (2, vI p2), (3, vI p3), (4, vI p4), (5, vI p5), (6, vI x6), (8, vI x8)]) 7 (pc := 195) dX12_read_195 rfl rfl rfl ?_
    refine ok_aload_n 1 (pc := 198) dX12_read_198 rfl rfl ?_
    refine ok_wf (fun hw6 => ?_)
    refine ok_getI (pc := 199) dX12_read_199 fl_X12_232 sh_122 (Nat.le_of_ble_eq_true rfl) rfl rfl ?_
    have e7 : ((mset σ 161 (s1.toNat) s0) 122 24) = (σ 122 24) := (mset_ne (by omega))
    refine ok_top e7 ?_
    refine ok_iload 0 (pc := 202) dX12_read_202 rfl ?_
    refine ok_iadd (pc := 204) dX12_read_204 ?_
    refine ok_bipush (pc := 205) dX12_read_205 rfl ?_
    obtain ⟨h9, h⟩ := h
    refine ok_icmp_le (tgt := 213) (pc := 207) dX12_read_207 rfl h9 (r_lit rfl) (fun q10 => ?_) (fun q10 => ?_)
    · have h := iteF h q10
      refine ok_iinc (L' := [(8, vI (x8 + 1)), (7, vI (x7 + 1)), (0, .ref (xad X 122)), (1, vI p1), (2, vI p2), (3, vI p3), (4, vI p4), (5, vI p5), (6, vI x6)]) 8 (pc := 213) dX12_read_213 rfl rfl rfl ?_
      refine ok_goto (tgt := 60) (pc := 216) dX12_read_216 rfl ?_
      obtain ⟨h11, h⟩ := h
      obtain ⟨h12, h⟩ := h
      refine ok_sub (L' := [(0, .ref (xad X 122)), (1, vI p1), (2, vI p2), (3, vI p3), (4, vI p4), (5, vI p5), (6, vI x6), (7, vI (x7 + 1)), (8, vI (x8 + 1))]) [2,3,4,5,6,7,8,1,0] rfl ?_
      exact hK60 x6 (x7 + 1) (x8 + 1) (mset σ 161 (s1.toNat) s0) hx6 h11 h12 h
    · have h := iteT h q10
      refine ok_bipush (pc := 210) dX12_read_210 rfl ?_
      exact ok_iret (pc := 212) dX12_read_212 rfl rfl rfl (r_lit rfl) h
set_option maxRecDepth 100000 in
set_option maxHeartbeats 4000000 in
theorem w_X12_read_131 (X : XE) (p1 : Int) (p2 : Int) (p3 : Int) (p4 : Int) (p5 : Int) (hp1 : inR p1) (hp2 : inR p2) (hp3 : inR p3) (hp4 : inR p4) (hp5 : inR p5) (x7 : Int) (x8 : Int) (s0 : Int) (hx7 : inR x7) (hx8 : inR x8) (hs0 : inR s0) {K60 : Int → Int → Int → Mem → Prop} {Q : Int → Mem → Prop} (hK60 : ∀ (x6 : Int) (x7 : Int) (x8 : Int) (σ : Mem), inR x6 → inR x7 → inR x8 → K60 x6 x7 x8 σ → ok X rm_X12_read RX12 cX12_read 10 (some .int) 1 Q 60 [(0, .ref (xad X 122)), (1, vI p1), (2, vI p2), (3, vI p3), (4, vI p4), (5, vI p5), (6, vI x6), (7, vI x7), (8, vI x8)] [] σ) {σ : Mem} (h : j_X12_read_131 p1 p2 p3 p4 p5 K60 Q x7 x8 s0 σ) : ok X rm_X12_read RX12 cX12_read 10 (some .int) 1 Q 131 [(0, .ref (xad X 122)), (1, vI p1), (2, vI p2), (3, vI p3), (4, vI p4), (5, vI p5), (7, vI x7), (8, vI x8)] [vI s0] σ := by
  refine ok_istore (L' := [(6, vI s0), (0, .ref (xad X 122)), (1, vI p1), (2, vI p2), (3, vI p3), (4, vI p4), (5, vI p5), (7, vI x7), (8, vI x8)]) (pc := 131) dX12_read_131 rfl rfl ?_
  refine ok_iload 0 (pc := 133) dX12_read_133 rfl ?_
  refine ok_if_ne (tgt := 213) (pc := 135) dX12_read_135 rfl hs0 (fun q1 => ?_) (fun q1 => ?_)
  · have h := iteF h q1
    refine ok_iinc (L' := [(8, vI (x8 + 1)), (6, vI s0), (0, .ref (xad X 122)), (1, vI p1), (2, vI p2), (3, vI p3), (4, vI p4), (5, vI p5), (7, vI x7)]) 8 (pc := 213) dX12_read_213 rfl rfl rfl ?_
    refine ok_goto (tgt := 60) (pc := 216) dX12_read_216 rfl ?_
    obtain ⟨h2, h⟩ := h
    refine ok_sub (L' := [(0, .ref (xad X 122)), (1, vI p1), (2, vI p2), (3, vI p3), (4, vI p4), (5, vI p5), (6, vI s0), (7, vI x7), (8, vI (x8 + 1))]) [2,3,4,5,6,7,1,8,0] rfl ?_
    exact hK60 s0 x7 (x8 + 1) σ hs0 hx7 h2 h
  · have h := iteT h q1
    refine ok_aload_n 1 (pc := 138) dX12_read_138 rfl rfl ?_
    refine ok_getR (pc := 139) dX12_read_139 fl_X12_126 sh_122 (Nat.le_of_ble_eq_true rfl) rfl rfl ?_
    refine ok_bipush (pc := 142) dX12_read_142 rfl ?_
    refine ok_iload_n 3 (pc := 144) dX12_read_144 rfl rfl ?_
    refine ok_imul (pc := 145) dX12_read_145 ?_
    refine ok_iload 5 (pc := 146) dX12_read_146 rfl ?_
    refine ok_iadd (pc := 148) dX12_read_148 ?_
    refine ok_iload 8 (pc := 149) dX12_read_149 rfl ?_
    refine ok_iadd (pc := 151) dX12_read_151 ?_
    obtain ⟨h3, h⟩ := h
    obtain ⟨h4, h⟩ := h
    refine ok_wf (fun hw5 => ?_)
    refine ok_iald (pc := 152) dX12_read_152 sh_160 (Nat.le_of_ble_eq_true rfl) rfl h3 h4 ?_
    refine ok_istore (L' := [(9, vI (σ 160 (((96 * p2) + p4) + x8).toNat)), (6, vI s0), (0, .ref (xad X 122)), (1, vI p1), (2, vI p2), (3, vI p3), (4, vI p4), (5, vI p5), (7, vI x7), (8, vI x8)]) (pc := 153) dX12_read_153 rfl rfl ?_
    refine ok_iload 0 (pc := 155) dX12_read_155 rfl ?_
    refine ok_sipush (pc := 157) dX12_read_157 rfl ?_
    refine ok_icmp_le (tgt := 169) (pc := 160) dX12_read_160 rfl (hw5 _ _) (r_lit rfl) (fun q6 => ?_) (fun q6 => ?_)
    · have h := iteF h q6
      refine ok_aload_n 2 (pc := 169) dX12_read_169 rfl rfl ?_
      refine ok_getR (pc := 170) dX12_read_170 fl_X12_129 sh_122 (Nat.le_of_ble_eq_true rfl) rfl rfl ?_
      refine ok_iload 9 (pc := 173) dX12_read_173 rfl ?_
      refine ok_iload 0 (pc := 175) dX12_read_175 rfl ?_
      refine ok_if_ge (tgt := 184) (pc := 177) dX12_read_177 rfl (hw5 _ _) (fun q7 => ?_) (fun q7 => ?_)
      · simp only [if_neg q7] at h
        refine ok_iload 0 (pc := 184) dX12_read_184 rfl ?_
        refine ok_sub (L' := [(0, .ref (xad X 122)), (1, vI p1), (2, vI p2), (3, vI p3), (4, vI p4), (5, vI p5), (6, vI s0), (7, vI x7), (8, vI x8)]) [2,3,4,5,6,7,1,8,9] rfl ?_
        exact w_X12_read_186 X p1 p2 p3 p4 p5 hp1 hp2 hp3 hp4 hp5 s0 x7 x8 (σ 160 (((96 * p2) + p4) + x8).toNat) x8 hs0 hx7 hx8 (hw5 _ _) hx8 hK60 h
      · simp only [if_pos q7] at h
        refine ok_iconst (pc := 180) dX12_read_180 ?_
        refine ok_goto (tgt := 186) (pc := 181) dX12_read_181 rfl ?_
        refine ok_sub (L' := [(0, .ref (xad X 122)), (1, vI p1), (2, vI p2), (3, vI p3), (4, vI p4), (5, vI p5), (6, vI s0), (7, vI x7), (8, vI x8)]) [2,3,4,5,6,7,1,8,9] rfl ?_
        exact w_X12_read_186 X p1 p2 p3 p4 p5 hp1 hp2 hp3 hp4 hp5 s0 x7 x8 0 x8 hs0 hx7 hx8 (r_lit rfl) hx8 hK60 h
    · have h := iteT h q6
      refine ok_bipush (pc := 163) dX12_read_163 rfl ?_
      refine ok_iload 9 (pc := 165) dX12_read_165 rfl ?_
      refine ok_isub (pc := 167) dX12_read_167 ?_
      obtain ⟨h8, h⟩ := h
      exact ok_iret (pc := 168) dX12_read_168 rfl rfl rfl h8 h
set_option maxRecDepth 100000 in
set_option maxHeartbeats 4000000 in
theorem w_X12_read_60 (X : XE) (p1 : Int) (p2 : Int) (p3 : Int) (p4 : Int) (p5 : Int) (hp1 : inR p1) (hp2 : inR p2) (hp3 : inR p3) (hp4 : inR p4) (hp5 : inR p5) {Q : Int → Mem → Prop} : ∀ (n : Nat) (x6 : Int) (x7 : Int) (x8 : Int) (σ : Mem), inR x6 → inR x7 → inR x8 → l_X12_read_60 p1 p2 p3 p4 p5 Q n x6 x7 x8 σ → ok X rm_X12_read RX12 cX12_read 10 (some .int) 1 Q 60 [(0, .ref (xad X 122)), (1, vI p1), (2, vI p2), (3, vI p3), (4, vI p4), (5, vI p5), (6, vI x6), (7, vI x7), (8, vI x8)] [] σ := by
  intro n
  induction n with
  | zero => intro x6 x7 x8 σ hx6 hx7 hx8 h; exact False.elim h
  | succ n ih =>
    intro x6 x7 x8 σ hx6 hx7 hx8 h
    refine ok_iload 8 (pc := 60) dX12_read_60 rfl ?_
    refine ok_iconst (pc := 62) dX12_read_62 ?_
    refine ok_iload 5 (pc := 63) dX12_read_63 rfl ?_
    refine ok_imul (pc := 65) dX12_read_65 ?_
    obtain ⟨h1, h⟩ := h
    refine ok_icmp_ge (tgt := 219) (pc := 66) dX12_read_66 rfl hx8 h1 (fun q2 => ?_) (fun q2 => ?_)
    · have h := iteF h q2
      refine ok_iconst (pc := 219) dX12_read_219 ?_
      refine ok_istore (L' := [(8, vI 0), (0, .ref (xad X 122)), (1, vI p1), (2, vI p2), (3, vI p3), (4, vI p4), (5, vI p5), (6, vI x6), (7, vI x7)]) (pc := 220) dX12_read_220 rfl rfl ?_
      refine ok_sub (L' := [(0, .ref (xad X 122)), (1, vI p1), (6, vI x6), (7, vI x7), (8, vI 0)]) [1,2,7,8,0] rfl ?_
      obtain ⟨n3, h⟩ := h
      exact w_X12_read_222 X p1 p2 p3 p4 p5 hp1 hp2 hp3 hp4 hp5 x6 x7 hx6 hx7 n3 0 σ (r_lit rfl) h
    · have h := iteT h q2
      refine ok_iload 6 (pc := 69) dX12_read_69 rfl ?_
      refine ok_if_ne (tgt := 219) (pc := 71) dX12_read_71 rfl hx6 (fun q4 => ?_) (fun q4 => ?_)
      · have h := iteF h q4
        refine ok_iconst (pc := 219) dX12_read_219 ?_
        refine ok_istore (L' := [(8, vI 0), (0, .ref (xad X 122)), (1, vI p1), (2, vI p2), (3, vI p3), (4, vI p4), (5, vI p5), (6, vI x6), (7, vI x7)]) (pc := 220) dX12_read_220 rfl rfl ?_
        refine ok_sub (L' := [(0, .ref (xad X 122)), (1, vI p1), (6, vI x6), (7, vI x7), (8, vI 0)]) [1,2,7,8,0] rfl ?_
        obtain ⟨n5, h⟩ := h
        exact w_X12_read_222 X p1 p2 p3 p4 p5 hp1 hp2 hp3 hp4 hp5 x6 x7 hx6 hx7 n5 0 σ (r_lit rfl) h
      · have h := iteT h q4
        refine ok_aload_n 0 (pc := 74) dX12_read_74 rfl rfl ?_
        refine ok_getR (pc := 75) dX12_read_75 fl_X12_120 sh_122 (Nat.le_of_ble_eq_true rfl) rfl rfl ?_
        refine ok_iload_n 2 (pc := 78) dX12_read_78 rfl rfl ?_
        obtain ⟨h6, h⟩ := h
        obtain ⟨h7, h⟩ := h
        refine ok_wf (fun hw8 => ?_)
        refine ok_iald (pc := 79) dX12_read_79 sh_158 (Nat.le_of_ble_eq_true rfl) rfl h6 h7 ?_
        refine ok_bipush (pc := 80) dX12_read_80 rfl ?_
        refine ok_icmp_ne (tgt := 89) (pc := 82) dX12_read_82 rfl (hw8 _ _) (r_lit rfl) (fun q9 => ?_) (fun q9 => ?_)
        · have h := iteF h q9
          refine ok_aload_n 0 (pc := 89) dX12_read_89 rfl rfl ?_
          refine ok_getR (pc := 90) dX12_read_90 fl_X12_120 sh_122 (Nat.le_of_ble_eq_true rfl) rfl rfl ?_
          refine ok_iload_n 2 (pc := 93) dX12_read_93 rfl rfl ?_
          refine ok_iald (pc := 94) dX12_read_94 sh_158 (Nat.le_of_ble_eq_true rfl) rfl h6 h7 ?_
          refine ok_iload_n 3 (pc := 95) dX12_read_95 rfl rfl ?_
          refine ok_icmp_eq (tgt := 103) (pc := 96) dX12_read_96 rfl (hw8 _ _) hp3 (fun q10 => ?_) (fun q10 => ?_)
          · have h := iteT h q10
            refine ok_iload 4 (pc := 103) dX12_read_103 rfl ?_
            refine ok_i2l (pc := 105) dX12_read_105 hp4 ?_
            refine ok_iload 8 (pc := 106) dX12_read_106 rfl ?_
            refine ok_i2l (pc := 108) dX12_read_108 hx8 ?_
            refine ok_ladd (pc := 109) dX12_read_109 ?_
            refine ok_lconst (v := 0) (pc := 110) dX12_read_110 rfl ?_
            refine ok_aload_n 0 (pc := 111) dX12_read_111 rfl rfl ?_
            refine ok_getR (pc := 112) dX12_read_112 fl_X12_123 sh_122 (Nat.le_of_ble_eq_true rfl) rfl rfl ?_
            refine ok_iload_n 2 (pc := 115) dX12_read_115 rfl rfl ?_
            refine ok_iald (pc := 116) dX12_read_116 sh_159 (Nat.le_of_ble_eq_true rfl) rfl h6 h7 ?_
            refine ok_iconst (pc := 117) dX12_read_117 ?_
            refine ok_isub (pc := 118) dX12_read_118 ?_
            obtain ⟨h11, h⟩ := h
            refine ok_i2l (pc := 119) dX12_read_119 h11 ?_
            obtain ⟨h12, h⟩ := h
            refine ok_callSi (As := [vL (p4 + x8), vL 0, vL ((σ 159 p2.toNat) - 1)]) (rest := []) (rm := rm_X12_in) (pc := 120) dX12_read_120 me_X12_in ml_X12_137 des_X12_in rfl ⟨rfl, rfl, rfl, rfl⟩ rfl rfl (c_X12_in X (p4 + x8) 0 ((σ 159 p2.toNat) - 1) h12 (l_of_r (r_lit rfl)) (l_of_r h11) h) (fun r14 σ15 h13 h => ?_)
            refine ok_if_ne (tgt := 130) (pc := 123) dX12_read_123 rfl h13 (fun q16 => ?_) (fun q16 => ?_)
            · simp only [if_neg q16] at h
              refine ok_iconst (pc := 130) dX12_read_130 ?_
              refine ok_sub (L' := [(0, .ref (xad X 122)), (1, vI p1), (2, vI p2), (3, vI p3), (4, vI p4), (5, vI p5), (7, vI x7), (8, vI x8)]) [0,1,2,3,4,5,7,8] rfl ?_
              exact w_X12_read_131 X p1 p2 p3 p4 p5 hp1 hp2 hp3 hp4 hp5 x7 x8 0 hx7 hx8 (r_lit rfl) (fun x6_ x7_ x8_ σ_ hx6_ hx7_ hx8_ h_ => ih x6_ x7_ x8_ σ_ hx6_ hx7_ hx8_ h_) h
            · simp only [if_pos q16] at h
              refine ok_iconst (pc := 126) dX12_read_126 ?_
              refine ok_goto (tgt := 131) (pc := 127) dX12_read_127 rfl ?_
              refine ok_sub (L' := [(0, .ref (xad X 122)), (1, vI p1), (2, vI p2), (3, vI p3), (4, vI p4), (5, vI p5), (7, vI x7), (8, vI x8)]) [0,1,2,3,4,5,7,8] rfl ?_
              exact w_X12_read_131 X p1 p2 p3 p4 p5 hp1 hp2 hp3 hp4 hp5 x7 x8 2 hx7 hx8 (r_lit rfl) (fun x6_ x7_ x8_ σ_ hx6_ hx7_ hx8_ h_ => ih x6_ x7_ x8_ σ_ hx6_ hx7_ hx8_ h_) h
          · have h := iteF h q10
            refine ok_iconst (pc := 99) dX12_read_99 ?_
            refine ok_goto (tgt := 131) (pc := 100) dX12_read_100 rfl ?_
            refine ok_sub (L' := [(0, .ref (xad X 122)), (1, vI p1), (2, vI p2), (3, vI p3), (4, vI p4), (5, vI p5), (7, vI x7), (8, vI x8)]) [0,1,2,3,4,5,7,8] rfl ?_
            exact w_X12_read_131 X p1 p2 p3 p4 p5 hp1 hp2 hp3 hp4 hp5 x7 x8 3 hx7 hx8 (r_lit rfl) (fun x6_ x7_ x8_ σ_ hx6_ hx7_ hx8_ h_ => ih x6_ x7_ x8_ σ_ hx6_ hx7_ hx8_ h_) h
        · have h := iteT h q9
          refine ok_iconst (pc := 85) dX12_read_85 ?_
          refine ok_goto (tgt := 131) (pc := 86) dX12_read_86 rfl ?_
          refine ok_sub (L' := [(0, .ref (xad X 122)), (1, vI p1), (2, vI p2), (3, vI p3), (4, vI p4), (5, vI p5), (7, vI x7), (8, vI x8)]) [0,1,2,3,4,5,7,8] rfl ?_
          exact w_X12_read_131 X p1 p2 p3 p4 p5 hp1 hp2 hp3 hp4 hp5 x7 x8 1 hx7 hx8 (r_lit rfl) (fun x6_ x7_ x8_ σ_ hx6_ hx7_ hx8_ h_ => ih x6_ x7_ x8_ σ_ hx6_ hx7_ hx8_ h_) h
set_option maxRecDepth 100000 in
set_option maxHeartbeats 4000000 in
theorem c_X12_read (X : XE) (p1 : Int) (p2 : Int) (p3 : Int) (p4 : Int) (p5 : Int) (hp1 : inR p1) (hp2 : inR p2) (hp3 : inR p3) (hp4 : inR p4) (hp5 : inR p5) {σ : Mem} {Q : Int → Mem → Prop} (h : v_X12_read p1 p2 p3 p4 p5 σ Q) : CT X yX12_read cX12_read 10 (some .int) rm_X12_read 1 [.ref (xad X 122), vI p1, vI p2, vI p3, vI p4, vI p5] σ Q := by
  refine ct_of (own := RX12) (L := [(0, .ref (xad X 122)), (1, vI p1), (2, vI p2), (3, vI p3), (4, vI p4), (5, vI p5)]) rfl rfl (Nat.le_of_ble_eq_true rfl) rfl ?_
  refine ok_iload_n 1 (pc := 0) dX12_read_0 rfl rfl ?_
  refine ok_i2l (pc := 1) dX12_read_1 hp1 ?_
  refine ok_lconst (v := 0) (pc := 2) dX12_read_2 rfl ?_
  refine ok_ldc2 (pc := 3) dX12_read_3 cn_X12_243 ?_
  refine ok_callSi (As := [vL p1, vL 0, vL 5]) (rest := []) (rm := rm_X12_in) (pc := 6) dX12_read_6 me_X12_in ml_X12_137 des_X12_in rfl ⟨rfl, rfl, rfl, rfl⟩ rfl rfl (c_X12_in X p1 0 5 (l_of_r hp1) (l_of_r (r_lit rfl)) (l_of_r (r_lit rfl)) h) (fun r2 σ3 h1 h => ?_)
  refine ok_if_eq (tgt := 49) (pc := 9) dX12_read_9 rfl h1 (fun q4 => ?_) (fun q4 => ?_)
  · have h := iteT h q4
    refine ok_iconst (pc := 49) dX12_read_49 ?_
    exact ok_iret (pc := 50) dX12_read_50 rfl rfl rfl (r_lit rfl) h
  · have h := iteF h q4
    refine ok_iload_n 2 (pc := 12) dX12_read_12 rfl rfl ?_
    refine ok_i2l (pc := 13) dX12_read_13 hp2 ?_
    refine ok_lconst (v := 0) (pc := 14) dX12_read_14 rfl ?_
    refine ok_ldc2 (pc := 15) dX12_read_15 cn_X12_269 ?_
    refine ok_callSi (As := [vL p2, vL 0, vL 3]) (rest := []) (rm := rm_X12_in) (pc := 18) dX12_read_18 me_X12_in ml_X12_137 des_X12_in rfl ⟨rfl, rfl, rfl, rfl⟩ rfl rfl (c_X12_in X p2 0 3 (l_of_r hp2) (l_of_r (r_lit rfl)) (l_of_r (r_lit rfl)) h) (fun r6 σ7 h5 h => ?_)
    refine ok_if_eq (tgt := 49) (pc := 21) dX12_read_21 rfl h5 (fun q8 => ?_) (fun q8 => ?_)
    · have h := iteT h q8
      refine ok_iconst (pc := 49) dX12_read_49 ?_
      exact ok_iret (pc := 50) dX12_read_50 rfl rfl rfl (r_lit rfl) h
    · have h := iteF h q8
      refine ok_iload_n 3 (pc := 24) dX12_read_24 rfl rfl ?_
      refine ok_i2l (pc := 25) dX12_read_25 hp3 ?_
      refine ok_lconst (v := 0) (pc := 26) dX12_read_26 rfl ?_
      refine ok_ldc2 (pc := 27) dX12_read_27 cn_X12_245 ?_
      refine ok_callSi (As := [vL p3, vL 0, vL 2]) (rest := []) (rm := rm_X12_in) (pc := 30) dX12_read_30 me_X12_in ml_X12_137 des_X12_in rfl ⟨rfl, rfl, rfl, rfl⟩ rfl rfl (c_X12_in X p3 0 2 (l_of_r hp3) (l_of_r (r_lit rfl)) (l_of_r (r_lit rfl)) h) (fun r10 σ11 h9 h => ?_)
      refine ok_if_eq (tgt := 49) (pc := 33) dX12_read_33 rfl h9 (fun q12 => ?_) (fun q12 => ?_)
      · have h := iteT h q12
        refine ok_iconst (pc := 49) dX12_read_49 ?_
        exact ok_iret (pc := 50) dX12_read_50 rfl rfl rfl (r_lit rfl) h
      · have h := iteF h q12
        refine ok_iload 5 (pc := 36) dX12_read_36 rfl ?_
        refine ok_i2l (pc := 38) dX12_read_38 hp5 ?_
        refine ok_lconst (v := 0) (pc := 39) dX12_read_39 rfl ?_
        refine ok_ldc2 (pc := 40) dX12_read_40 cn_X12_369 ?_
        refine ok_callSi (As := [vL p5, vL 0, vL 24]) (rest := []) (rm := rm_X12_in) (pc := 43) dX12_read_43 me_X12_in ml_X12_137 des_X12_in rfl ⟨rfl, rfl, rfl, rfl⟩ rfl rfl (c_X12_in X p5 0 24 (l_of_r hp5) (l_of_r (r_lit rfl)) (l_of_r (r_lit rfl)) h) (fun r14 σ15 h13 h => ?_)
        refine ok_if_ne (tgt := 51) (pc := 46) dX12_read_46 rfl h13 (fun q16 => ?_) (fun q16 => ?_)
        · have h := iteF h q16
          refine ok_iconst (pc := 51) dX12_read_51 ?_
          refine ok_istore (L' := [(6, vI 0), (0, .ref (xad X 122)), (1, vI p1), (2, vI p2), (3, vI p3), (4, vI p4), (5, vI p5)]) (pc := 52) dX12_read_52 rfl rfl ?_
          refine ok_iconst (pc := 54) dX12_read_54 ?_
          refine ok_istore (L' := [(7, vI 0), (6, vI 0), (0, .ref (xad X 122)), (1, vI p1), (2, vI p2), (3, vI p3), (4, vI p4), (5, vI p5)]) (pc := 55) dX12_read_55 rfl rfl ?_
          refine ok_iconst (pc := 57) dX12_read_57 ?_
          refine ok_istore (L' := [(8, vI 0), (7, vI 0), (6, vI 0), (0, .ref (xad X 122)), (1, vI p1), (2, vI p2), (3, vI p3), (4, vI p4), (5, vI p5)]) (pc := 58) dX12_read_58 rfl rfl ?_
          refine ok_sub (L' := [(0, .ref (xad X 122)), (1, vI p1), (2, vI p2), (3, vI p3), (4, vI p4), (5, vI p5), (6, vI 0), (7, vI 0), (8, vI 0)]) [3,4,5,6,7,8,2,1,0] rfl ?_
          obtain ⟨n17, h⟩ := h
          exact w_X12_read_60 X p1 p2 p3 p4 p5 hp1 hp2 hp3 hp4 hp5 n17 0 0 0 σ15 (r_lit rfl) (r_lit rfl) (r_lit rfl) h
        · have h := iteT h q16
          refine ok_iconst (pc := 49) dX12_read_49 ?_
          exact ok_iret (pc := 50) dX12_read_50 rfl rfl rfl (r_lit rfl) h
theorem dX12_torn_0 : decode cX12_torn 0 = .ok (.aload_n 0, 1) := by decide +kernel
theorem dX12_torn_1 : decode cX12_torn 1 = .ok (.getfield 371, 3) := by decide +kernel
theorem dX12_torn_4 : decode cX12_torn 4 = .ok (.ireturn, 1) := by decide +kernel
set_option maxRecDepth 100000 in
set_option maxHeartbeats 4000000 in
theorem c_X12_torn (X : XE) {σ : Mem} {Q : Int → Mem → Prop} (h : v_X12_torn σ Q) : CT X yX12_torn cX12_torn 1 (some .int) rm_X12_torn 1 [.ref (xad X 122)] σ Q := by
  refine ct_of (own := RX12) (L := [(0, .ref (xad X 122))]) rfl rfl (Nat.le_of_ble_eq_true rfl) rfl ?_
  refine ok_aload_n 0 (pc := 0) dX12_torn_0 rfl rfl ?_
  refine ok_wf (fun hw1 => ?_)
  refine ok_getI (pc := 1) dX12_torn_1 fl_X12_371 sh_122 (Nat.le_of_ble_eq_true rfl) rfl rfl ?_
  exact ok_iret (pc := 4) dX12_torn_4 rfl rfl rfl (hw1 _ _) h
theorem dX12_count_0 : decode cX12_count 0 = .ok (.iconst 0, 1) := by decide +kernel
theorem dX12_count_1 : decode cX12_count 1 = .ok (.istore_n 2, 1) := by decide +kernel
theorem dX12_count_2 : decode cX12_count 2 = .ok (.iconst 0, 1) := by decide +kernel
theorem dX12_count_3 : decode cX12_count 3 = .ok (.istore_n 3, 1) := by decide +kernel
theorem dX12_count_4 : decode cX12_count 4 = .ok (.iconst 0, 1) := by decide +kernel
theorem dX12_count_5 : decode cX12_count 5 = .ok (.istore 4, 2) := by decide +kernel
theorem dX12_count_7 : decode cX12_count 7 = .ok (.iconst 0, 1) := by decide +kernel
theorem dX12_count_8 : decode cX12_count 8 = .ok (.istore 5, 2) := by decide +kernel
theorem dX12_count_10 : decode cX12_count 10 = .ok (.iconst 0, 1) := by decide +kernel
theorem dX12_count_11 : decode cX12_count 11 = .ok (.istore 6, 2) := by decide +kernel
theorem dX12_count_13 : decode cX12_count 13 = .ok (.iload 6, 2) := by decide +kernel
theorem dX12_count_15 : decode cX12_count 15 = .ok (.aload_n 0, 1) := by decide +kernel
theorem dX12_count_16 : decode cX12_count 16 = .ok (.getfield 232, 3) := by decide +kernel
theorem dX12_count_19 : decode cX12_count 19 = .ok (.if_icmp .ge 87, 3) := by decide +kernel
theorem dX12_count_22 : decode cX12_count 22 = .ok (.iload_n 2, 1) := by decide +kernel
theorem dX12_count_23 : decode cX12_count 23 = .ok (.aload_n 0, 1) := by decide +kernel
theorem dX12_count_24 : decode cX12_count 24 = .ok (.iload 6, 2) := by decide +kernel
theorem dX12_count_26 : decode cX12_count 26 = .ok (.invokevirtual 260, 3) := by decide +kernel
theorem dX12_count_29 : decode cX12_count 29 = .ok (.ifCond .eq 7, 3) := by decide +kernel
theorem dX12_count_32 : decode cX12_count 32 = .ok (.iconst 1, 1) := by decide +kernel
theorem dX12_count_33 : decode cX12_count 33 = .ok (.goto 4, 3) := by decide +kernel
theorem dX12_count_36 : decode cX12_count 36 = .ok (.iconst 0, 1) := by decide +kernel
theorem dX12_count_37 : decode cX12_count 37 = .ok (.iadd, 1) := by decide +kernel
theorem dX12_count_38 : decode cX12_count 38 = .ok (.istore_n 2, 1) := by decide +kernel
theorem dX12_count_39 : decode cX12_count 39 = .ok (.iload_n 3, 1) := by decide +kernel
theorem dX12_count_40 : decode cX12_count 40 = .ok (.aload_n 0, 1) := by decide +kernel
theorem dX12_count_41 : decode cX12_count 41 = .ok (.iload 6, 2) := by decide +kernel
theorem dX12_count_43 : decode cX12_count 43 = .ok (.invokevirtual 260, 3) := by decide +kernel
theorem dX12_count_46 : decode cX12_count 46 = .ok (.ifCond .ne 16, 3) := by decide +kernel
theorem dX12_count_49 : decode cX12_count 49 = .ok (.aload_n 0, 1) := by decide +kernel
theorem dX12_count_50 : decode cX12_count 50 = .ok (.iload 6, 2) := by decide +kernel
theorem dX12_count_52 : decode cX12_count 52 = .ok (.invokevirtual 263, 3) := by decide +kernel
theorem dX12_count_55 : decode cX12_count 55 = .ok (.ifCond .eq 7, 3) := by decide +kernel
theorem dX12_count_58 : decode cX12_count 58 = .ok (.iconst 1, 1) := by decide +kernel
theorem dX12_count_59 : decode cX12_count 59 = .ok (.goto 4, 3) := by decide +kernel
theorem dX12_count_62 : decode cX12_count 62 = .ok (.iconst 0, 1) := by decide +kernel
theorem dX12_count_63 : decode cX12_count 63 = .ok (.iadd, 1) := by decide +kernel
theorem dX12_count_64 : decode cX12_count 64 = .ok (.istore_n 3, 1) := by decide +kernel
theorem dX12_count_65 : decode cX12_count 65 = .ok (.iload 4, 2) := by decide +kernel
theorem dX12_count_67 : decode cX12_count 67 = .ok (.aload_n 0, 1) := by decide +kernel
theorem dX12_count_68 : decode cX12_count 68 = .ok (.iload 6, 2) := by decide +kernel
theorem dX12_count_70 : decode cX12_count 70 = .ok (.invokevirtual 260, 3) := by decide +kernel
theorem dX12_count_73 : decode cX12_count 73 = .ok (.ifCond .ne 23, 3) := by decide +kernel
theorem dX12_count_76 : decode cX12_count 76 = .ok (.aload_n 0, 1) := by decide +kernel
theorem dX12_count_77 : decode cX12_count 77 = .ok (.getfield 67, 3) := by decide +kernel
theorem dX12_count_80 : decode cX12_count 80 = .ok (.iload 6, 2) := by decide +kernel
theorem dX12_count_82 : decode cX12_count 82 = .ok (.iaload, 1) := by decide +kernel
theorem dX12_count_83 : decode cX12_count 83 = .ok (.aload_n 0, 1) := by decide +kernel
theorem dX12_count_84 : decode cX12_count 84 = .ok (.iload 6, 2) := by decide +kernel
theorem dX12_count_86 : decode cX12_count 86 = .ok (.invokevirtual 240, 3) := by decide +kernel
theorem dX12_count_89 : decode cX12_count 89 = .ok (.if_icmp .eq 7, 3) := by decide +kernel
theorem dX12_count_92 : decode cX12_count 92 = .ok (.iconst 1, 1) := by decide +kernel
theorem dX12_count_93 : decode cX12_count 93 = .ok (.goto 4, 3) := by decide +kernel
theorem dX12_count_96 : decode cX12_count 96 = .ok (.iconst 0, 1) := by decide +kernel
theorem dX12_count_97 : decode cX12_count 97 = .ok (.iadd, 1) := by decide +kernel
theorem dX12_count_98 : decode cX12_count 98 = .ok (.istore 4, 2) := by decide +kernel
theorem dX12_count_100 : decode cX12_count 100 = .ok (.iinc 6 1, 3) := by decide +kernel
theorem dX12_count_103 : decode cX12_count 103 = .ok (.goto (-90), 3) := by decide +kernel
theorem dX12_count_106 : decode cX12_count 106 = .ok (.iconst 0, 1) := by decide +kernel
theorem dX12_count_107 : decode cX12_count 107 = .ok (.istore 6, 2) := by decide +kernel
theorem dX12_count_109 : decode cX12_count 109 = .ok (.iload 6, 2) := by decide +kernel
theorem dX12_count_111 : decode cX12_count 111 = .ok (.aload_n 0, 1) := by decide +kernel
theorem dX12_count_112 : decode cX12_count 112 = .ok (.getfield 363, 3) := by decide +kernel
theorem dX12_count_115 : decode cX12_count 115 = .ok (.if_icmp .ge 21, 3) := by decide +kernel
theorem dX12_count_118 : decode cX12_count 118 = .ok (.iload 5, 2) := by decide +kernel
theorem dX12_count_120 : decode cX12_count 120 = .ok (.aload_n 0, 1) := by decide +kernel
theorem dX12_count_121 : decode cX12_count 121 = .ok (.getfield 117, 3) := by decide +kernel
theorem dX12_count_124 : decode cX12_count 124 = .ok (.iload 6, 2) := by decide +kernel
theorem dX12_count_126 : decode cX12_count 126 = .ok (.iaload, 1) := by decide +kernel
theorem dX12_count_127 : decode cX12_count 127 = .ok (.iadd, 1) := by decide +kernel
theorem dX12_count_128 : decode cX12_count 128 = .ok (.istore 5, 2) := by decide +kernel
theorem dX12_count_130 : decode cX12_count 130 = .ok (.iinc 6 1, 3) := by decide +kernel
theorem dX12_count_133 : decode cX12_count 133 = .ok (.goto (-24), 3) := by decide +kernel
theorem dX12_count_136 : decode cX12_count 136 = .ok (.iload_n 1, 1) := by decide +kernel
theorem dX12_count_137 : decode cX12_count 137 = .ok (.tableswitch 131 0 11 #[63, 68, 70, 72, 75, 80, 85, 90, 93, 98, 103, 108], 63) := by decide +kernel
theorem dX12_count_200 : decode cX12_count 200 = .ok (.aload_n 0, 1) := by decide +kernel
theorem dX12_count_201 : decode cX12_count 201 = .ok (.getfield 232, 3) := by decide +kernel
theorem dX12_count_204 : decode cX12_count 204 = .ok (.ireturn, 1) := by decide +kernel
theorem dX12_count_205 : decode cX12_count 205 = .ok (.iload_n 2, 1) := by decide +kernel
theorem dX12_count_206 : decode cX12_count 206 = .ok (.ireturn, 1) := by decide +kernel
theorem dX12_count_207 : decode cX12_count 207 = .ok (.iload_n 3, 1) := by decide +kernel
theorem dX12_count_208 : decode cX12_count 208 = .ok (.ireturn, 1) := by decide +kernel
theorem dX12_count_209 : decode cX12_count 209 = .ok (.iload 4, 2) := by decide +kernel
theorem dX12_count_211 : decode cX12_count 211 = .ok (.ireturn, 1) := by decide +kernel
theorem dX12_count_212 : decode cX12_count 212 = .ok (.aload_n 0, 1) := by decide +kernel
theorem dX12_count_213 : decode cX12_count 213 = .ok (.getfield 207, 3) := by decide +kernel
theorem dX12_count_216 : decode cX12_count 216 = .ok (.ireturn, 1) := by decide +kernel
theorem dX12_count_217 : decode cX12_count 217 = .ok (.aload_n 0, 1) := by decide +kernel
theorem dX12_count_218 : decode cX12_count 218 = .ok (.getfield 271, 3) := by decide +kernel
theorem dX12_count_221 : decode cX12_count 221 = .ok (.ireturn, 1) := by decide +kernel
theorem dX12_count_222 : decode cX12_count 222 = .ok (.aload_n 0, 1) := by decide +kernel
theorem dX12_count_223 : decode cX12_count 223 = .ok (.getfield 363, 3) := by decide +kernel
theorem dX12_count_226 : decode cX12_count 226 = .ok (.ireturn, 1) := by decide +kernel
theorem dX12_count_227 : decode cX12_count 227 = .ok (.iload 5, 2) := by decide +kernel
theorem dX12_count_229 : decode cX12_count 229 = .ok (.ireturn, 1) := by decide +kernel
theorem dX12_count_230 : decode cX12_count 230 = .ok (.aload_n 0, 1) := by decide +kernel
theorem dX12_count_231 : decode cX12_count 231 = .ok (.getfield 338, 3) := by decide +kernel
theorem dX12_count_234 : decode cX12_count 234 = .ok (.ireturn, 1) := by decide +kernel
theorem dX12_count_235 : decode cX12_count 235 = .ok (.aload_n 0, 1) := by decide +kernel
theorem dX12_count_236 : decode cX12_count 236 = .ok (.getfield 132, 3) := by decide +kernel
theorem dX12_count_239 : decode cX12_count 239 = .ok (.ireturn, 1) := by decide +kernel
theorem dX12_count_240 : decode cX12_count 240 = .ok (.aload_n 0, 1) := by decide +kernel
theorem dX12_count_241 : decode cX12_count 241 = .ok (.getfield 141, 3) := by decide +kernel
theorem dX12_count_244 : decode cX12_count 244 = .ok (.ireturn, 1) := by decide +kernel
theorem dX12_count_245 : decode cX12_count 245 = .ok (.aload_n 0, 1) := by decide +kernel
theorem dX12_count_246 : decode cX12_count 246 = .ok (.getfield 120, 3) := by decide +kernel
theorem dX12_count_249 : decode cX12_count 249 = .ok (.iconst 0, 1) := by decide +kernel
theorem dX12_count_250 : decode cX12_count 250 = .ok (.iaload, 1) := by decide +kernel
theorem dX12_count_251 : decode cX12_count 251 = .ok (.bipush (-4), 2) := by decide +kernel
theorem dX12_count_253 : decode cX12_count 253 = .ok (.if_icmp .ne 8, 3) := by decide +kernel
theorem dX12_count_256 : decode cX12_count 256 = .ok (.bipush (-4), 2) := by decide +kernel
theorem dX12_count_258 : decode cX12_count 258 = .ok (.goto 9, 3) := by decide +kernel
theorem dX12_count_261 : decode cX12_count 261 = .ok (.aload_n 0, 1) := by decide +kernel
theorem dX12_count_262 : decode cX12_count 262 = .ok (.getfield 123, 3) := by decide +kernel
theorem dX12_count_265 : decode cX12_count 265 = .ok (.iconst 0, 1) := by decide +kernel
theorem dX12_count_266 : decode cX12_count 266 = .ok (.iaload, 1) := by decide +kernel
theorem dX12_count_267 : decode cX12_count 267 = .ok (.ireturn, 1) := by decide +kernel
theorem dX12_count_268 : decode cX12_count 268 = .ok (.iconst (-1), 1) := by decide +kernel
theorem dX12_count_269 : decode cX12_count 269 = .ok (.ireturn, 1) := by decide +kernel
set_option maxRecDepth 100000 in
set_option maxHeartbeats 4000000 in
theorem w_X12_count_109 (X : XE) (p1 : Int) (hp1 : inR p1) (x2 : Int) (x3 : Int) (x4 : Int) (hx2 : inR x2) (hx3 : inR x3) (hx4 : inR x4) {Q : Int → Mem → Prop} : ∀ (n : Nat) (x5 : Int) (x6 : Int) (σ : Mem), inR x5 → inR x6 → l_X12_count_109 p1 x2 x3 x4 Q n x5 x6 σ → ok X rm_X12_count RX12 cX12_count 7 (some .int) 1 Q 109 [(0, .ref (xad X 122)), (1, vI p1), (2, vI x2), (3, vI x3), (4, vI x4), (5, vI x5), (6, vI x6)] [] σ := by
  intro n
  induction n with
  | zero => intro x5 x6 σ hx5 hx6 h; exact False.elim h
  | succ n ih =>
    intro x5 x6 σ hx5 hx6 h
    refine ok_iload 6 (pc := 109) dX12_count_109 rfl ?_
    refine ok_aload_n 0 (pc := 111) dX12_count_111 rfl rfl ?_
    refine ok_wf (fun hw1 => ?_)
    refine ok_getI (pc := 112) dX12_count_112 fl_X12_363 sh_122 (Nat.le_of_ble_eq_true rfl) rfl rfl ?_
    refine ok_icmp_ge (tgt := 136) (pc := 115) dX12_count_115 rfl hx6 (hw1 _ _) (fun q2 => ?_) (fun q2 => ?_)
    · have h := iteF h q2
      refine ok_iload_n 1 (pc := 136) dX12_count_136 rfl rfl ?_
      by_cases q3 : p1 = 0
      · have h := iteT h q3
        refine ok_tin (tgt := 200) (pc := 137) dX12_count_137 hp1 (by omega) (by omega) (by first | (rw [q3]; done) | (rw [q3]; rfl)) rfl ?_
        refine ok_aload_n 0 (pc := 200) dX12_count_200 rfl rfl ?_
        refine ok_getI (pc := 201) dX12_count_201 fl_X12_232 sh_122 (Nat.le_of_ble_eq_true rfl) rfl rfl ?_
        exact ok_iret (pc := 204) dX12_count_204 rfl rfl rfl (hw1 _ _) h
      · have h := iteF h q3
        by_cases q4 : p1 = 1
        · have h := iteT h q4
          refine ok_tin (tgt := 205) (pc := 137) dX12_count_137 hp1 (by omega) (by omega) (by first | (rw [q4]; done) | (rw [q4]; rfl)) rfl ?_
          refine ok_iload_n 2 (pc := 205) dX12_count_205 rfl rfl ?_
          exact ok_iret (pc := 206) dX12_count_206 rfl rfl rfl hx2 h
        · have h := iteF h q4
          by_cases q5 : p1 = 2
          · have h := iteT h q5
            refine ok_tin (tgt := 207) (pc := 137) dX12_count_137 hp1 (by omega) (by omega) (by first | (rw [q5]; done) | (rw [q5]; rfl)) rfl ?_
            refine ok_iload_n 3 (pc := 207) dX12_count_207 rfl rfl ?_
            exact ok_iret (pc := 208) dX12_count_208 rfl rfl rfl hx3 h
          · have h := iteF h q5
            by_cases q6 : p1 = 3
            · have h := iteT h q6
              refine ok_tin (tgt := 209) (pc := 137) dX12_count_137 hp1 (by omega) (by omega) (by first | (rw [q6]; done) | (rw [q6]; rfl)) rfl ?_
              refine ok_iload 4 (pc := 209) dX12_count_209 rfl ?_
              exact ok_iret (pc := 211) dX12_count_211 rfl rfl rfl hx4 h
            · have h := iteF h q6
              by_cases q7 : p1 = 4
              · have h := iteT h q7
                refine ok_tin (tgt := 212) (pc := 137) dX12_count_137 hp1 (by omega) (by omega) (by first | (rw [q7]; done) | (rw [q7]; rfl)) rfl ?_
                refine ok_aload_n 0 (pc := 212) dX12_count_212 rfl rfl ?_
                refine ok_getI (pc := 213) dX12_count_213 fl_X12_207 sh_122 (Nat.le_of_ble_eq_true rfl) rfl rfl ?_
                exact ok_iret (pc := 216) dX12_count_216 rfl rfl rfl (hw1 _ _) h
              · have h := iteF h q7
                by_cases q8 : p1 = 5
                · have h := iteT h q8
                  refine ok_tin (tgt := 217) (pc := 137) dX12_count_137 hp1 (by omega) (by omega) (by first | (rw [q8]; done) | (rw [q8]; rfl)) rfl ?_
                  refine ok_aload_n 0 (pc := 217) dX12_count_217 rfl rfl ?_
                  refine ok_getI (pc := 218) dX12_count_218 fl_X12_271 sh_122 (Nat.le_of_ble_eq_true rfl) rfl rfl ?_
                  exact ok_iret (pc := 221) dX12_count_221 rfl rfl rfl (hw1 _ _) h
                · have h := iteF h q8
                  by_cases q9 : p1 = 6
                  · have h := iteT h q9
                    refine ok_tin (tgt := 222) (pc := 137) dX12_count_137 hp1 (by omega) (by omega) (by first | (rw [q9]; done) | (rw [q9]; rfl)) rfl ?_
                    refine ok_aload_n 0 (pc := 222) dX12_count_222 rfl rfl ?_
                    refine ok_getI (pc := 223) dX12_count_223 fl_X12_363 sh_122 (Nat.le_of_ble_eq_true rfl) rfl rfl ?_
                    exact ok_iret (pc := 226) dX12_count_226 rfl rfl rfl (hw1 _ _) h
                  · have h := iteF h q9
                    by_cases q10 : p1 = 7
                    · have h := iteT h q10
                      refine ok_tin (tgt := 227) (pc := 137) dX12_count_137 hp1 (by omega) (by omega) (by first | (rw [q10]; done) | (rw [q10]; rfl)) rfl ?_
                      refine ok_iload 5 (pc := 227) dX12_count_227 rfl ?_
                      exact ok_iret (pc := 229) dX12_count_229 rfl rfl rfl hx5 h
                    · have h := iteF h q10
                      by_cases q11 : p1 = 8
                      · have h := iteT h q11
                        refine ok_tin (tgt := 230) (pc := 137) dX12_count_137 hp1 (by omega) (by omega) (by first | (rw [q11]; done) | (rw [q11]; rfl)) rfl ?_
                        refine ok_aload_n 0 (pc := 230) dX12_count_230 rfl rfl ?_
                        refine ok_getI (pc := 231) dX12_count_231 fl_X12_338 sh_122 (Nat.le_of_ble_eq_true rfl) rfl rfl ?_
                        exact ok_iret (pc := 234) dX12_count_234 rfl rfl rfl (hw1 _ _) h
                      · have h := iteF h q11
                        by_cases q12 : p1 = 9
                        · have h := iteT h q12
                          refine ok_tin (tgt := 235) (pc := 137) dX12_count_137 hp1 (by omega) (by omega) (by first | (rw [q12]; done) | (rw [q12]; rfl)) rfl ?_
                          refine ok_aload_n 0 (pc := 235) dX12_count_235 rfl rfl ?_
                          refine ok_getI (pc := 236) dX12_count_236 fl_X12_132 sh_122 (Nat.le_of_ble_eq_true rfl) rfl rfl ?_
                          exact ok_iret (pc := 239) dX12_count_239 rfl rfl rfl (hw1 _ _) h
                        · have h := iteF h q12
                          by_cases q13 : p1 = 10
                          · have h := iteT h q13
                            refine ok_tin (tgt := 240) (pc := 137) dX12_count_137 hp1 (by omega) (by omega) (by first | (rw [q13]; done) | (rw [q13]; rfl)) rfl ?_
                            refine ok_aload_n 0 (pc := 240) dX12_count_240 rfl rfl ?_
                            refine ok_getI (pc := 241) dX12_count_241 fl_X12_141 sh_122 (Nat.le_of_ble_eq_true rfl) rfl rfl ?_
                            exact ok_iret (pc := 244) dX12_count_244 rfl rfl rfl (hw1 _ _) h
                          · have h := iteF h q13
                            by_cases q14 : p1 = 11
                            · have h := iteT h q14
                              refine ok_tin (tgt := 245) (pc := 137) dX12_count_137 hp1 (by omega) (by omega) (by first | (rw [q14]; done) | (rw [q14]; rfl)) rfl ?_
                              refine ok_aload_n 0 (pc := 245) dX12_count_245 rfl rfl ?_
                              refine ok_getR (pc := 246) dX12_count_246 fl_X12_120 sh_122 (Nat.le_of_ble_eq_true rfl) rfl rfl ?_
                              refine ok_iconst (pc := 249) dX12_count_249 ?_
                              refine ok_iald (pc := 250) dX12_count_250 sh_158 (Nat.le_of_ble_eq_true rfl) rfl (by decide) (by decide) ?_
                              refine ok_bipush (pc := 251) dX12_count_251 rfl ?_
                              refine ok_icmp_ne (tgt := 261) (pc := 253) dX12_count_253 rfl (hw1 _ _) (r_lit rfl) (fun q15 => ?_) (fun q15 => ?_)
                              · have h := iteF h q15
                                refine ok_aload_n 0 (pc := 261) dX12_count_261 rfl rfl ?_
                                refine ok_getR (pc := 262) dX12_count_262 fl_X12_123 sh_122 (Nat.le_of_ble_eq_true rfl) rfl rfl ?_
                                refine ok_iconst (pc := 265) dX12_count_265 ?_
                                refine ok_iald (pc := 266) dX12_count_266 sh_159 (Nat.le_of_ble_eq_true rfl) rfl (by decide) (by decide) ?_
                                exact ok_iret (pc := 267) dX12_count_267 rfl rfl rfl (hw1 _ _) h
                              · have h := iteT h q15
                                refine ok_bipush (pc := 256) dX12_count_256 rfl ?_
                                refine ok_goto (tgt := 267) (pc := 258) dX12_count_258 rfl ?_
                                exact ok_iret (pc := 267) dX12_count_267 rfl rfl rfl (r_lit rfl) h
                            · have h := iteF h q14
                              refine ok_tout (tgt := 268) (pc := 137) dX12_count_137 hp1 (by omega) rfl ?_
                              refine ok_iconst (pc := 268) dX12_count_268 ?_
                              exact ok_iret (pc := 269) dX12_count_269 rfl rfl rfl (r_lit rfl) h
    · have h := iteT h q2
      refine ok_iload 5 (pc := 118) dX12_count_118 rfl ?_
      refine ok_aload_n 0 (pc := 120) dX12_count_120 rfl rfl ?_
      refine ok_getR (pc := 121) dX12_count_121 fl_X12_117 sh_122 (Nat.le_of_ble_eq_true rfl) rfl rfl ?_
      refine ok_iload 6 (pc := 124) dX12_count_124 rfl ?_
      obtain ⟨h16, h⟩ := h
      obtain ⟨h17, h⟩ := h
      refine ok_iald (pc := 126) dX12_count_126 sh_157 (Nat.le_of_ble_eq_true rfl) rfl h16 h17 ?_
      refine ok_iadd (pc := 127) dX12_count_127 ?_
      refine ok_istore (L' := [(5, vI (x5 + (σ 157 x6.toNat))), (0, .ref (xad X 122)), (1, vI p1), (2, vI x2), (3, vI x3), (4, vI x4), (6, vI x6)]) (pc := 128) dX12_count_128 rfl rfl ?_
      refine ok_iinc (L' := [(6, vI (x6 + 1)), (5, vI (x5 + (σ 157 x6.toNat))), (0, .ref (xad X 122)), (1, vI p1), (2, vI x2), (3, vI x3), (4, vI x4)]) 6 (pc := 130) dX12_count_130 rfl rfl rfl ?_
      refine ok_goto (tgt := 109) (pc := 133) dX12_count_133 rfl ?_
      obtain ⟨h18, h⟩ := h
      obtain ⟨h19, h⟩ := h
      refine ok_sub (L' := [(0, .ref (xad X 122)), (1, vI p1), (2, vI x2), (3, vI x3), (4, vI x4), (5, vI (x5 + (σ 157 x6.toNat))), (6, vI (x6 + 1))]) [2,3,4,5,6,1,0] rfl ?_
      exact ih (x5 + (σ 157 x6.toNat)) (x6 + 1) σ h18 h19 h
set_option maxRecDepth 100000 in
set_option maxHeartbeats 4000000 in
theorem w_X12_count_96 (X : XE) (p1 : Int) (hp1 : inR p1) (x2 : Int) (x3 : Int) (x5 : Int) (x6 : Int) (s0 : Int) (hx2 : inR x2) (hx3 : inR x3) (hx5 : inR x5) (hx6 : inR x6) (hs0 : inR s0) {K13 : Int → Int → Int → Int → Mem → Prop} {Q : Int → Mem → Prop} (hK13 : ∀ (x2 : Int) (x3 : Int) (x4 : Int) (x6 : Int) (σ : Mem), inR x2 → inR x3 → inR x4 → inR x6 → K13 x2 x3 x4 x6 σ → ok X rm_X12_count RX12 cX12_count 7 (some .int) 1 Q 13 [(0, .ref (xad X 122)), (1, vI p1), (2, vI x2), (3, vI x3), (4, vI x4), (5, vI x5), (6, vI x6)] [] σ) {σ : Mem} (h : j_X12_count_96 p1 K13 Q x2 x3 x5 x6 s0 σ) : ok X rm_X12_count RX12 cX12_count 7 (some .int) 1 Q 96 [(0, .ref (xad X 122)), (1, vI p1), (2, vI x2), (3, vI x3), (5, vI x5), (6, vI x6)] [vI s0] σ := by
  refine ok_iconst (pc := 96) dX12_count_96 ?_
  refine ok_iadd (pc := 97) dX12_count_97 ?_
  refine ok_istore (L' := [(4, vI (s0 + 0)), (0, .ref (xad X 122)), (1, vI p1), (2, vI x2), (3, vI x3), (5, vI x5), (6, vI x6)]) (pc := 98) dX12_count_98 rfl rfl ?_
  refine ok_iinc (L' := [(6, vI (x6 + 1)), (4, vI (s0 + 0)), (0, .ref (xad X 122)), (1, vI p1), (2, vI x2), (3, vI x3), (5, vI x5)]) 6 (pc := 100) dX12_count_100 rfl rfl rfl ?_
  refine ok_goto (tgt := 13) (pc := 103) dX12_count_103 rfl ?_
  obtain ⟨h1, h⟩ := h
  obtain ⟨h2, h⟩ := h
  refine ok_sub (L' := [(0, .ref (xad X 122)), (1, vI p1), (2, vI x2), (3, vI x3), (4, vI (s0 + 0)), (5, vI x5), (6, vI (x6 + 1))]) [2,3,4,5,1,6,0] rfl ?_
  exact hK13 x2 x3 (s0 + 0) (x6 + 1) σ hx2 hx3 h1 h2 h
set_option maxRecDepth 100000 in
set_option maxHeartbeats 4000000 in
theorem w_X12_count_63 (X : XE) (p1 : Int) (hp1 : inR p1) (x2 : Int) (x4 : Int) (x5 : Int) (x6 : Int) (s0 : Int) (s1 : Int) (hx2 : inR x2) (hx4 : inR x4) (hx5 : inR x5) (hx6 : inR x6) (hs0 : inR s0) (hs1 : inR s1) {K13 : Int → Int → Int → Int → Mem → Prop} {Q : Int → Mem → Prop} (hK13 : ∀ (x2 : Int) (x3 : Int) (x4 : Int) (x6 : Int) (σ : Mem), inR x2 → inR x3 → inR x4 → inR x6 → K13 x2 x3 x4 x6 σ → ok X rm_X12_count RX12 cX12_count 7 (some .int) 1 Q 13 [(0, .ref (xad X 122)), (1, vI p1), (2, vI x2), (3, vI x3), (4, vI x4), (5, vI x5), (6, vI x6)] [] σ) {σ : Mem} (h : j_X12_count_63 p1 K13 Q x2 x4 x5 x6 s0 s1 σ) : ok X rm_X12_count RX12 cX12_count 7 (some .int) 1 Q 63 [(0, .ref (xad X 122)), (1, vI p1), (2, vI x2), (4, vI x4), (5, vI x5), (6, vI x6)] [vI s0, vI s1] σ := by
  refine ok_iadd (pc := 63) dX12_count_63 ?_
  refine ok_istore_n (L' := [(3, vI (s1 + s0)), (0, .ref (xad X 122)), (1, vI p1), (2, vI x2), (4, vI x4), (5, vI x5), (6, vI x6)]) (pc := 64) dX12_count_64 rfl rfl rfl ?_
  refine ok_iload 4 (pc := 65) dX12_count_65 rfl ?_
  refine ok_aload_n 1 (pc := 67) dX12_count_67 rfl rfl ?_
  refine ok_iload 6 (pc := 68) dX12_count_68 rfl ?_
  refine ok_callVi (As := [vI x6]) (rest := [vI x4]) (rm := rm_X12_isOut) (pc := 70) dX12_count_70 me_X12_isOut ml_X12_260 (ci := 12) rfl sh_122 (Nat.le_of_ble_eq_true rfl) rfl des_X12_isOut rfl ⟨rfl, rfl, rfl, rfl⟩ rfl rfl (c_X12_isOut X x6 hx6 h) (fun r2 σ3 h1 h => ?_)
  refine ok_if_ne (tgt := 96) (pc := 73) dX12_count_73 rfl h1 (fun q4 => ?_) (fun q4 => ?_)
  · have h := iteF h q4
    obtain ⟨h5, h⟩ := h
    refine ok_sub (L' := [(0, .ref (xad X 122)), (1, vI p1), (2, vI x2), (3, vI (s1 + s0)), (5, vI x5), (6, vI x6)]) [1,2,3,0,5,6] rfl ?_
    exact w_X12_count_96 X p1 hp1 x2 (s1 + s0) x5 x6 x4 hx2 h5 hx5 hx6 hx4 hK13 h
  · have h := iteT h q4
    refine ok_aload_n 1 (pc := 76) dX12_count_76 rfl rfl ?_
    refine ok_getR (pc := 77) dX12_count_77 fl_X12_67 sh_122 (Nat.le_of_ble_eq_true rfl) rfl rfl ?_
    refine ok_iload 6 (pc := 80) dX12_count_80 rfl ?_
    obtain ⟨h6, h⟩ := h
    obtain ⟨h7, h⟩ := h
    refine ok_wf (fun hw8 => ?_)
    refine ok_iald (pc := 82) dX12_count_82 sh_142 (Nat.le_of_ble_eq_true rfl) rfl h6 h7 ?_
    refine ok_aload_n 1 (pc := 83) dX12_count_83 rfl rfl ?_
    refine ok_iload 6 (pc := 84) dX12_count_84 rfl ?_
    refine ok_callVi (As := [vI x6]) (rest := [vI (σ3 142 x6.toNat), vI x4]) (rm := rm_X12_drawerOf) (pc := 86) dX12_count_86 me_X12_drawerOf ml_X12_240 (ci := 12) rfl sh_122 (Nat.le_of_ble_eq_true rfl) rfl des_X12_drawerOf rfl ⟨rfl, rfl, rfl, rfl⟩ rfl rfl (c_X12_drawerOf X x6 hx6 h) (fun r10 σ11 h9 h => ?_)
    refine ok_icmp_eq (tgt := 96) (pc := 89) dX12_count_89 rfl (hw8 _ _) h9 (fun q12 => ?_) (fun q12 => ?_)
    · have h := iteT h q12
      obtain ⟨h13, h⟩ := h
      refine ok_sub (L' := [(0, .ref (xad X 122)), (1, vI p1), (2, vI x2), (3, vI (s1 + s0)), (5, vI x5), (6, vI x6)]) [1,2,3,0,5,6] rfl ?_
      exact w_X12_count_96 X p1 hp1 x2 (s1 + s0) x5 x6 x4 hx2 h13 hx5 hx6 hx4 hK13 h
    · have h := iteF h q12
      refine ok_iconst (pc := 92) dX12_count_92 ?_
      refine ok_goto (tgt := 97) (pc := 93) dX12_count_93 rfl ?_
      refine ok_iadd (pc := 97) dX12_count_97 ?_
      refine ok_istore (L' := [(4, vI (x4 + 1)), (3, vI (s1 + s0)), (0, .ref (xad X 122)), (1, vI p1), (2, vI x2), (5, vI x5), (6, vI x6)]) (pc := 98) dX12_count_98 rfl rfl ?_
      refine ok_iinc (L' := [(6, vI (x6 + 1)), (4, vI (x4 + 1)), (3, vI (s1 + s0)), (0, .ref (xad X 122)), (1, vI p1), (2, vI x2), (5, vI x5)]) 6 (pc := 100) dX12_count_100 rfl rfl rfl ?_
      refine ok_goto (tgt := 13) (pc := 103) dX12_count_103 rfl ?_
      obtain ⟨h14, h⟩ := h
      obtain ⟨h15, h⟩ := h
      obtain ⟨h16, h⟩ := h
      refine ok_sub (L' := [(0, .ref (xad X 122)), (1, vI p1), (2, vI x2), (3, vI (s1 + s0)), (4, vI (x4 + 1)), (5, vI x5), (6, vI (x6 + 1))]) [3,4,5,2,1,6,0] rfl ?_
      exact hK13 x2 (s1 + s0) (x4 + 1) (x6 + 1) σ11 hx2 h14 h15 h16 h
set_option maxRecDepth 100000 in
set_option maxHeartbeats 4000000 in
theorem w_X12_count_37 (X : XE) (p1 : Int) (hp1 : inR p1) (x3 : Int) (x4 : Int) (x5 : Int) (x6 : Int) (s0 : Int) (s1 : Int) (hx3 : inR x3) (hx4 : inR x4) (hx5 : inR x5) (hx6 : inR x6) (hs0 : inR s0) (hs1 : inR s1) {K13 : Int → Int → Int → Int → Mem → Prop} {Q : Int → Mem → Prop} (hK13 : ∀ (x2 : Int) (x3 : Int) (x4 : Int) (x6 : Int) (σ : Mem), inR x2 → inR x3 → inR x4 → inR x6 → K13 x2 x3 x4 x6 σ → ok X rm_X12_count RX12 cX12_count 7 (some .int) 1 Q 13 [(0, .ref (xad X 122)), (1, vI p1), (2, vI x2), (3, vI x3), (4, vI x4), (5, vI x5), (6, vI x6)] [] σ) {σ : Mem} (h : j_X12_count_37 p1 K13 Q x3 x4 x5 x6 s0 s1 σ) : ok X rm_X12_count RX12 cX12_count 7 (some .int) 1 Q 37 [(0, .ref (xad X 122)), (1, vI p1), (3, vI x3), (4, vI x4), (5, vI x5), (6, vI x6)] [vI s0, vI s1] σ := by
  refine ok_iadd (pc := 37) dX12_count_37 ?_
  refine ok_istore_n (L' := [(2, vI (s1 + s0)), (0, .ref (xad X 122)), (1, vI p1), (3, vI x3), (4, vI x4), (5, vI x5), (6, vI x6)]) (pc := 38) dX12_count_38 rfl rfl rfl ?_
  refine ok_iload_n 3 (pc := 39) dX12_count_39 rfl rfl ?_
  refine ok_aload_n 1 (pc := 40) dX12_count_40 rfl rfl ?_
  refine ok_iload 6 (pc := 41) dX12_count_41 rfl ?_
  refine ok_callVi (As := [vI x6]) (rest := [vI x3]) (rm := rm_X12_isOut) (pc := 43) dX12_count_43 me_X12_isOut ml_X12_260 (ci := 12) rfl sh_122 (Nat.le_of_ble_eq_true rfl) rfl des_X12_isOut rfl ⟨rfl, rfl, rfl, rfl⟩ rfl rfl (c_X12_isOut X x6 hx6 h) (fun r2 σ3 h1 h => ?_)
  refine ok_if_ne (tgt := 62) (pc := 46) dX12_count_46 rfl h1 (fun q4 => ?_) (fun q4 => ?_)
  · have h := iteF h q4
    refine ok_iconst (pc := 62) dX12_count_62 ?_
    obtain ⟨h5, h⟩ := h
    refine ok_sub (L' := [(0, .ref (xad X 122)), (1, vI p1), (2, vI (s1 + s0)), (4, vI x4), (5, vI x5), (6, vI x6)]) [1,2,0,4,5,6] rfl ?_
    exact w_X12_count_63 X p1 hp1 (s1 + s0) x4 x5 x6 0 x3 h5 hx4 hx5 hx6 (r_lit rfl) hx3 hK13 h
  · have h := iteT h q4
    refine ok_aload_n 1 (pc := 49) dX12_count_49 rfl rfl ?_
    refine ok_iload 6 (pc := 50) dX12_count_50 rfl ?_
    refine ok_callVi (As := [vI x6]) (rest := [vI x3]) (rm := rm_X12_isDue) (pc := 52) dX12_count_52 me_X12_isDue ml_X12_263 (ci := 12) rfl sh_122 (Nat.le_of_ble_eq_true rfl) rfl des_X12_isDue rfl ⟨rfl, rfl, rfl, rfl⟩ rfl rfl (c_X12_isDue X x6 hx6 h) (fun r7 σ8 h6 h => ?_)
    refine ok_if_eq (tgt := 62) (pc := 55) dX12_count_55 rfl h6 (fun q9 => ?_) (fun q9 => ?_)
    · have h := iteT h q9
      refine ok_iconst (pc := 62) dX12_count_62 ?_
      obtain ⟨h10, h⟩ := h
      refine ok_sub (L' := [(0, .ref (xad X 122)), (1, vI p1), (2, vI (s1 + s0)), (4, vI x4), (5, vI x5), (6, vI x6)]) [1,2,0,4,5,6] rfl ?_
      exact w_X12_count_63 X p1 hp1 (s1 + s0) x4 x5 x6 0 x3 h10 hx4 hx5 hx6 (r_lit rfl) hx3 hK13 h
    · have h := iteF h q9
      refine ok_iconst (pc := 58) dX12_count_58 ?_
      refine ok_goto (tgt := 63) (pc := 59) dX12_count_59 rfl ?_
      obtain ⟨h11, h⟩ := h
      refine ok_sub (L' := [(0, .ref (xad X 122)), (1, vI p1), (2, vI (s1 + s0)), (4, vI x4), (5, vI x5), (6, vI x6)]) [1,2,0,4,5,6] rfl ?_
      exact w_X12_count_63 X p1 hp1 (s1 + s0) x4 x5 x6 1 x3 h11 hx4 hx5 hx6 (r_lit rfl) hx3 hK13 h
set_option maxRecDepth 100000 in
set_option maxHeartbeats 4000000 in
theorem w_X12_count_13 (X : XE) (p1 : Int) (hp1 : inR p1) (x5 : Int) (hx5 : inR x5) {Q : Int → Mem → Prop} : ∀ (n : Nat) (x2 : Int) (x3 : Int) (x4 : Int) (x6 : Int) (σ : Mem), inR x2 → inR x3 → inR x4 → inR x6 → l_X12_count_13 p1 x5 Q n x2 x3 x4 x6 σ → ok X rm_X12_count RX12 cX12_count 7 (some .int) 1 Q 13 [(0, .ref (xad X 122)), (1, vI p1), (2, vI x2), (3, vI x3), (4, vI x4), (5, vI x5), (6, vI x6)] [] σ := by
  intro n
  induction n with
  | zero => intro x2 x3 x4 x6 σ hx2 hx3 hx4 hx6 h; exact False.elim h
  | succ n ih =>
    intro x2 x3 x4 x6 σ hx2 hx3 hx4 hx6 h
    refine ok_iload 6 (pc := 13) dX12_count_13 rfl ?_
    refine ok_aload_n 0 (pc := 15) dX12_count_15 rfl rfl ?_
    refine ok_wf (fun hw1 => ?_)
    refine ok_getI (pc := 16) dX12_count_16 fl_X12_232 sh_122 (Nat.le_of_ble_eq_true rfl) rfl rfl ?_
    refine ok_icmp_ge (tgt := 106) (pc := 19) dX12_count_19 rfl hx6 (hw1 _ _) (fun q2 => ?_) (fun q2 => ?_)
    · have h := iteF h q2
      refine ok_iconst (pc := 106) dX12_count_106 ?_
      refine ok_istore (L' := [(6, vI 0), (0, .ref (xad X 122)), (1, vI p1), (2, vI x2), (3, vI x3), (4, vI x4), (5, vI x5)]) (pc := 107) dX12_count_107 rfl rfl ?_
      refine ok_sub (L' := [(0, .ref (xad X 122)), (1, vI p1), (2, vI x2), (3, vI x3), (4, vI x4), (5, vI x5), (6, vI 0)]) [1,2,3,4,5,6,0] rfl ?_
      obtain ⟨n3, h⟩ := h
      exact w_X12_count_109 X p1 hp1 x2 x3 x4 hx2 hx3 hx4 n3 x5 0 σ hx5 (r_lit rfl) h
    · have h := iteT h q2
      refine ok_iload_n 2 (pc := 22) dX12_count_22 rfl rfl ?_
      refine ok_aload_n 0 (pc := 23) dX12_count_23 rfl rfl ?_
      refine ok_iload 6 (pc := 24) dX12_count_24 rfl ?_
      refine ok_callVi (As := [vI x6]) (rest := [vI x2]) (rm := rm_X12_isOut) (pc := 26) dX12_count_26 me_X12_isOut ml_X12_260 (ci := 12) rfl sh_122 (Nat.le_of_ble_eq_true rfl) rfl des_X12_isOut rfl ⟨rfl, rfl, rfl, rfl⟩ rfl rfl (c_X12_isOut X x6 hx6 h) (fun r5 σ6 h4 h => ?_)
      refine ok_if_eq (tgt := 36) (pc := 29) dX12_count_29 rfl h4 (fun q7 => ?_) (fun q7 => ?_)
      · simp only [if_pos q7] at h
        refine ok_iconst (pc := 36) dX12_count_36 ?_
        refine ok_sub (L' := [(0, .ref (xad X 122)), (1, vI p1), (3, vI x3), (4, vI x4), (5, vI x5), (6, vI x6)]) [0,1,3,4,5,6] rfl ?_
        exact w_X12_count_37 X p1 hp1 x3 x4 x5 x6 0 x2 hx3 hx4 hx5 hx6 (r_lit rfl) hx2 (fun x2_ x3_ x4_ x6_ σ_ hx2_ hx3_ hx4_ hx6_ h_ => ih x2_ x3_ x4_ x6_ σ_ hx2_ hx3_ hx4_ hx6_ h_) h
      · simp only [if_neg q7] at h
        refine ok_iconst (pc := 32) dX12_count_32 ?_
        refine ok_goto (tgt := 37) (pc := 33) dX12_count_33 rfl ?_
        refine ok_sub (L' := [(0, .ref (xad X 122)), (1, vI p1), (3, vI x3), (4, vI x4), (5, vI x5), (6, vI x6)]) [0,1,3,4,5,6] rfl ?_
        exact w_X12_count_37 X p1 hp1 x3 x4 x5 x6 1 x2 hx3 hx4 hx5 hx6 (r_lit rfl) hx2 (fun x2_ x3_ x4_ x6_ σ_ hx2_ hx3_ hx4_ hx6_ h_ => ih x2_ x3_ x4_ x6_ σ_ hx2_ hx3_ hx4_ hx6_ h_) h
set_option maxRecDepth 100000 in
set_option maxHeartbeats 4000000 in
theorem c_X12_count (X : XE) (p1 : Int) (hp1 : inR p1) {σ : Mem} {Q : Int → Mem → Prop} (h : v_X12_count p1 σ Q) : CT X yX12_count cX12_count 7 (some .int) rm_X12_count 1 [.ref (xad X 122), vI p1] σ Q := by
  refine ct_of (own := RX12) (L := [(0, .ref (xad X 122)), (1, vI p1)]) rfl rfl (Nat.le_of_ble_eq_true rfl) rfl ?_
  refine ok_iconst (pc := 0) dX12_count_0 ?_
  refine ok_istore_n (L' := [(2, vI 0), (0, .ref (xad X 122)), (1, vI p1)]) (pc := 1) dX12_count_1 rfl rfl rfl ?_
  refine ok_iconst (pc := 2) dX12_count_2 ?_
  refine ok_istore_n (L' := [(3, vI 0), (2, vI 0), (0, .ref (xad X 122)), (1, vI p1)]) (pc := 3) dX12_count_3 rfl rfl rfl ?_
  refine ok_iconst (pc := 4) dX12_count_4 ?_
  refine ok_istore (L' := [(4, vI 0), (3, vI 0), (2, vI 0), (0, .ref (xad X 122)), (1, vI p1)]) (pc := 5) dX12_count_5 rfl rfl ?_
  refine ok_iconst (pc := 7) dX12_count_7 ?_
  refine ok_istore (L' := [(5, vI 0), (4, vI 0), (3, vI 0), (2, vI 0), (0, .ref (xad X 122)), (1, vI p1)]) (pc := 8) dX12_count_8 rfl rfl ?_
  refine ok_iconst (pc := 10) dX12_count_10 ?_
  refine ok_istore (L' := [(6, vI 0), (5, vI 0), (4, vI 0), (3, vI 0), (2, vI 0), (0, .ref (xad X 122)), (1, vI p1)]) (pc := 11) dX12_count_11 rfl rfl ?_
  refine ok_sub (L' := [(0, .ref (xad X 122)), (1, vI p1), (2, vI 0), (3, vI 0), (4, vI 0), (5, vI 0), (6, vI 0)]) [5,6,4,3,2,1,0] rfl ?_
  obtain ⟨n1, h⟩ := h
  exact w_X12_count_13 X p1 hp1 0 (r_lit rfl) n1 0 0 0 0 σ (r_lit rfl) (r_lit rfl) (r_lit rfl) (r_lit rfl) h
