theorem dX12_isDue_0 : decode cX12_isDue 0 = .ok (.aload_n 0, 1) := by decide +kernel
theorem dX12_isDue_1 : decode cX12_isDue 1 = .ok (.getfield 132, 3) := by decide +kernel
theorem dX12_isDue_4 : decode cX12_isDue 4 = .ok (.aload_n 0, 1) := by decide +kernel
theorem dX12_isDue_5 : decode cX12_isDue 5 = .ok (.getfield 64, 3) := by decide +kernel
theorem dX12_isDue_8 : decode cX12_isDue 8 = .ok (.iload_n 1, 1) := by decide +kernel
theorem dX12_isDue_9 : decode cX12_isDue 9 = .ok (.iaload, 1) := by decide +kernel
theorem dX12_isDue_10 : decode cX12_isDue 10 = .ok (.isub, 1) := by decide +kernel
theorem dX12_isDue_11 : decode cX12_isDue 11 = .ok (.aload_n 0, 1) := by decide +kernel
theorem dX12_isDue_12 : decode cX12_isDue 12 = .ok (.iconst 3, 1) := by decide +kernel
theorem dX12_isDue_13 : decode cX12_isDue 13 = .ok (.iconst 0, 1) := by decide +kernel
theorem dX12_isDue_14 : decode cX12_isDue 14 = .ok (.aload_n 0, 1) := by decide +kernel
theorem dX12_isDue_15 : decode cX12_isDue 15 = .ok (.getfield 132, 3) := by decide +kernel
theorem dX12_isDue_18 : decode cX12_isDue 18 = .ok (.sipush 9999, 3) := by decide +kernel
theorem dX12_isDue_21 : decode cX12_isDue 21 = .ok (.invokevirtual 214, 3) := by decide +kernel
theorem dX12_isDue_24 : decode cX12_isDue 24 = .ok (.if_icmp .lt 7, 3) := by decide +kernel
theorem dX12_isDue_27 : decode cX12_isDue 27 = .ok (.iconst 1, 1) := by decide +kernel
theorem dX12_isDue_28 : decode cX12_isDue 28 = .ok (.goto 4, 3) := by decide +kernel
theorem dX12_isDue_31 : decode cX12_isDue 31 = .ok (.iconst 0, 1) := by decide +kernel
theorem dX12_isDue_32 : decode cX12_isDue 32 = .ok (.ireturn, 1) := by decide +kernel
set_option maxRecDepth 100000 in
set_option maxHeartbeats 4000000 in
theorem c_X12_isDue (X : XE) (p1 : Int) (hp1 : inR p1) {σ : Mem} {Q : Int → Mem → Prop} (h : v_X12_isDue p1 σ Q) : CT X yX12_isDue cX12_isDue 2 (some .boolean) rm_X12_isDue 1 [.ref (xad X 122), vI p1] σ Q := by
  refine ct_of (own := RX12) (L := [(0, .ref (xad X 122)), (1, vI p1)]) rfl rfl (Nat.le_of_ble_eq_true rfl) rfl ?_
  refine ok_aload_n 0 (pc := 0) dX12_isDue_0 rfl rfl ?_
  refine ok_wf (fun hw1 => ?_)
  refine ok_getI (pc := 1) dX12_isDue_1 fl_X12_132 sh_122 (Nat.le_of_ble_eq_true rfl) rfl rfl ?_
  refine ok_aload_n 0 (pc := 4) dX12_isDue_4 rfl rfl ?_
  refine ok_getR (pc := 5) dX12_isDue_5 fl_X12_64 sh_122 (Nat.le_of_ble_eq_true rfl) rfl rfl ?_
  refine ok_iload_n 1 (pc := 8) dX12_isDue_8 rfl rfl ?_
  obtain ⟨h2, h⟩ := h
  obtain ⟨h3, h⟩ := h
  refine ok_iald (pc := 9) dX12_isDue_9 sh_141 (Nat.le_of_ble_eq_true rfl) rfl h2 h3 ?_
  refine ok_isub (pc := 10) dX12_isDue_10 ?_
  refine ok_aload_n 0 (pc := 11) dX12_isDue_11 rfl rfl ?_
  refine ok_iconst (pc := 12) dX12_isDue_12 ?_
  refine ok_iconst (pc := 13) dX12_isDue_13 ?_
  refine ok_aload_n 0 (pc := 14) dX12_isDue_14 rfl rfl ?_
  refine ok_getI (pc := 15) dX12_isDue_15 fl_X12_132 sh_122 (Nat.le_of_ble_eq_true rfl) rfl rfl ?_
  refine ok_sipush (pc := 18) dX12_isDue_18 rfl ?_
  refine ok_callVi (As := [vI 3, vI 0, vI (σ 122 0), vI 9999]) (rest := [vI ((σ 122 0) - (σ 141 p1.toNat))]) (rm := rm_X12_holdsThen) (pc := 21) dX12_isDue_21 me_X12_holdsThen ml_X12_214 (ci := 12) rfl sh_122 (Nat.le_of_ble_eq_true rfl) rfl des_X12_holdsThen rfl ⟨rfl, rfl, rfl, rfl⟩ rfl rfl (c_X12_holdsThen X 3 0 (σ 122 0) 9999 (r_lit rfl) (r_lit rfl) (hw1 _ _) (r_lit rfl) h) (fun r5 σ6 h4 h => ?_)
  obtain ⟨h7, h⟩ := h
  refine ok_icmp_lt (tgt := 31) (pc := 24) dX12_isDue_24 rfl h7 h4 (fun q8 => ?_) (fun q8 => ?_)
  · have h := iteT h q8
    refine ok_iconst (pc := 31) dX12_isDue_31 ?_
    exact ok_iret (pc := 32) dX12_isDue_32 rfl rfl (nr_z (Or.inl rfl)) (r_lit rfl) h
  · have h := iteF h q8
    refine ok_iconst (pc := 27) dX12_isDue_27 ?_
    refine ok_goto (tgt := 32) (pc := 28) dX12_isDue_28 rfl ?_
    exact ok_iret (pc := 32) dX12_isDue_32 rfl rfl (nr_z (Or.inr rfl)) (r_lit rfl) h
theorem dX12_spreadAt_0 : decode cX12_spreadAt 0 = .ok (.aload_n 0, 1) := by decide +kernel
theorem dX12_spreadAt_1 : decode cX12_spreadAt 1 = .ok (.aload_n 0, 1) := by decide +kernel
theorem dX12_spreadAt_2 : decode cX12_spreadAt 2 = .ok (.getfield 49, 3) := by decide +kernel
theorem dX12_spreadAt_5 : decode cX12_spreadAt 5 = .ok (.iload_n 1, 1) := by decide +kernel
theorem dX12_spreadAt_6 : decode cX12_spreadAt 6 = .ok (.iaload, 1) := by decide +kernel
theorem dX12_spreadAt_7 : decode cX12_spreadAt 7 = .ok (.aload_n 0, 1) := by decide +kernel
theorem dX12_spreadAt_8 : decode cX12_spreadAt 8 = .ok (.getfield 132, 3) := by decide +kernel
theorem dX12_spreadAt_11 : decode cX12_spreadAt 11 = .ok (.invokevirtual 226, 3) := by decide +kernel
theorem dX12_spreadAt_14 : decode cX12_spreadAt 14 = .ok (.aload_n 0, 1) := by decide +kernel
theorem dX12_spreadAt_15 : decode cX12_spreadAt 15 = .ok (.getfield 52, 3) := by decide +kernel
theorem dX12_spreadAt_18 : decode cX12_spreadAt 18 = .ok (.iload_n 1, 1) := by decide +kernel
theorem dX12_spreadAt_19 : decode cX12_spreadAt 19 = .ok (.iaload, 1) := by decide +kernel
theorem dX12_spreadAt_20 : decode cX12_spreadAt 20 = .ok (.iconst 2, 1) := by decide +kernel
theorem dX12_spreadAt_21 : decode cX12_spreadAt 21 = .ok (.if_icmp .ne 17, 3) := by decide +kernel
theorem dX12_spreadAt_24 : decode cX12_spreadAt 24 = .ok (.aload_n 0, 1) := by decide +kernel
theorem dX12_spreadAt_25 : decode cX12_spreadAt 25 = .ok (.iconst 4, 1) := by decide +kernel
theorem dX12_spreadAt_26 : decode cX12_spreadAt 26 = .ok (.iconst 0, 1) := by decide +kernel
theorem dX12_spreadAt_27 : decode cX12_spreadAt 27 = .ok (.aload_n 0, 1) := by decide +kernel
theorem dX12_spreadAt_28 : decode cX12_spreadAt 28 = .ok (.getfield 132, 3) := by decide +kernel
theorem dX12_spreadAt_31 : decode cX12_spreadAt 31 = .ok (.iconst 2, 1) := by decide +kernel
theorem dX12_spreadAt_32 : decode cX12_spreadAt 32 = .ok (.invokevirtual 214, 3) := by decide +kernel
theorem dX12_spreadAt_35 : decode cX12_spreadAt 35 = .ok (.goto 4, 3) := by decide +kernel
theorem dX12_spreadAt_38 : decode cX12_spreadAt 38 = .ok (.iconst 0, 1) := by decide +kernel
theorem dX12_spreadAt_39 : decode cX12_spreadAt 39 = .ok (.iadd, 1) := by decide +kernel
theorem dX12_spreadAt_40 : decode cX12_spreadAt 40 = .ok (.ireturn, 1) := by decide +kernel
set_option maxRecDepth 100000 in
set_option maxHeartbeats 4000000 in
theorem c_X12_spreadAt (X : XE) (p1 : Int) (hp1 : inR p1) {σ : Mem} {Q : Int → Mem → Prop} (h : v_X12_spreadAt p1 σ Q) : CT X yX12_spreadAt cX12_spreadAt 2 (some .int) rm_X12_spreadAt 1 [.ref (xad X 122), vI p1] σ Q := by
  refine ct_of (own := RX12) (L := [(0, .ref (xad X 122)), (1, vI p1)]) rfl rfl (Nat.le_of_ble_eq_true rfl) rfl ?_
  refine ok_aload_n 0 (pc := 0) dX12_spreadAt_0 rfl rfl ?_
  refine ok_aload_n 0 (pc := 1) dX12_spreadAt_1 rfl rfl ?_
  refine ok_getR (pc := 2) dX12_spreadAt_2 fl_X12_49 sh_122 (Nat.le_of_ble_eq_true rfl) rfl rfl ?_
  refine ok_iload_n 1 (pc := 5) dX12_spreadAt_5 rfl rfl ?_
  obtain ⟨h1, h⟩ := h
  obtain ⟨h2, h⟩ := h
  refine ok_wf (fun hw3 => ?_)
  refine ok_iald (pc := 6) dX12_spreadAt_6 sh_136 (Nat.le_of_ble_eq_true rfl) rfl h1 h2 ?_
  refine ok_aload_n 0 (pc := 7) dX12_spreadAt_7 rfl rfl ?_
  refine ok_getI (pc := 8) dX12_spreadAt_8 fl_X12_132 sh_122 (Nat.le_of_ble_eq_true rfl) rfl rfl ?_
  refine ok_callVi (As := [vI (σ 136 p1.toNat), vI (σ 122 0)]) (rest := []) (rm := rm_X12_spreadOf) (pc := 11) dX12_spreadAt_11 me_X12_spreadOf ml_X12_226 (ci := 12) rfl sh_122 (Nat.le_of_ble_eq_true rfl) rfl des_X12_spreadOf rfl ⟨rfl, rfl, rfl, rfl⟩ rfl rfl (c_X12_spreadOf X (σ 136 p1.toNat) (σ 122 0) (hw3 _ _) (hw3 _ _) h) (fun r5 σ6 h4 h => ?_)
  refine ok_aload_n 0 (pc := 14) dX12_spreadAt_14 rfl rfl ?_
  refine ok_getR (pc := 15) dX12_spreadAt_15 fl_X12_52 sh_122 (Nat.le_of_ble_eq_true rfl) rfl rfl ?_
  refine ok_iload_n 1 (pc := 18) dX12_spreadAt_18 rfl rfl ?_
  refine ok_wf (fun hw7 => ?_)
  refine ok_iald (pc := 19) dX12_spreadAt_19 sh_137 (Nat.le_of_ble_eq_true rfl) rfl h1 h2 ?_
  refine ok_iconst (pc := 20) dX12_spreadAt_20 ?_
  refine ok_icmp_ne (tgt := 38) (pc := 21) dX12_spreadAt_21 rfl (hw7 _ _) (r_lit rfl) (fun q8 => ?_) (fun q8 => ?_)
  · have h := iteF h q8
    refine ok_iconst (pc := 38) dX12_spreadAt_38 ?_
    refine ok_iadd (pc := 39) dX12_spreadAt_39 ?_
    obtain ⟨h9, h⟩ := h
    exact ok_iret (pc := 40) dX12_spreadAt_40 rfl rfl rfl h9 h
  · have h := iteT h q8
    refine ok_aload_n 0 (pc := 24) dX12_spreadAt_24 rfl rfl ?_
    refine ok_iconst (pc := 25) dX12_spreadAt_25 ?_
    refine ok_iconst (pc := 26) dX12_spreadAt_26 ?_
    refine ok_aload_n 0 (pc := 27) dX12_spreadAt_27 rfl rfl ?_
    refine ok_getI (pc := 28) dX12_spreadAt_28 fl_X12_132 sh_122 (Nat.le_of_ble_eq_true rfl) rfl rfl ?_
    refine ok_iconst (pc := 31) dX12_spreadAt_31 ?_
    refine ok_callVi (As := [vI 4, vI 0, vI (σ6 122 0), vI 2]) (rest := [vI r5]) (rm := rm_X12_holdsThen) (pc := 32) dX12_spreadAt_32 me_X12_holdsThen ml_X12_214 (ci := 12) rfl sh_122 (Nat.le_of_ble_eq_true rfl) rfl des_X12_holdsThen rfl ⟨rfl, rfl, rfl, rfl⟩ rfl rfl (c_X12_holdsThen X 4 0 (σ6 122 0) 2 (r_lit rfl) (r_lit rfl) (hw7 _ _) (r_lit rfl) h) (fun r11 σ12 h10 h => ?_)
    refine ok_goto (tgt := 39) (pc := 35) dX12_spreadAt_35 rfl ?_
    refine ok_iadd (pc := 39) dX12_spreadAt_39 ?_
    obtain ⟨h13, h⟩ := h
    exact ok_iret (pc := 40) dX12_spreadAt_40 rfl rfl rfl h13 h
theorem dX12_of_0 : decode cX12_of 0 = .ok (.aload_n 0, 1) := by decide +kernel
theorem dX12_of_1 : decode cX12_of 1 = .ok (.iload_n 1, 1) := by decide +kernel
theorem dX12_of_2 : decode cX12_of 2 = .ok (.invokevirtual 257, 3) := by decide +kernel
theorem dX12_of_5 : decode cX12_of 5 = .ok (.ifCond .ne 5, 3) := by decide +kernel
theorem dX12_of_8 : decode cX12_of 8 = .ok (.iconst (-1), 1) := by decide +kernel
theorem dX12_of_9 : decode cX12_of 9 = .ok (.ireturn, 1) := by decide +kernel
theorem dX12_of_10 : decode cX12_of 10 = .ok (.iload_n 2, 1) := by decide +kernel
theorem dX12_of_11 : decode cX12_of 11 = .ok (.i2l, 1) := by decide +kernel
theorem dX12_of_12 : decode cX12_of 12 = .ok (.ldc2_w 245, 3) := by decide +kernel
theorem dX12_of_15 : decode cX12_of 15 = .ok (.ldc2_w 243, 3) := by decide +kernel
theorem dX12_of_18 : decode cX12_of 18 = .ok (.invokestatic 137, 3) := by decide +kernel
theorem dX12_of_21 : decode cX12_of 21 = .ok (.ifCond .eq 16, 3) := by decide +kernel
theorem dX12_of_24 : decode cX12_of 24 = .ok (.aload_n 0, 1) := by decide +kernel
theorem dX12_of_25 : decode cX12_of 25 = .ok (.getfield 55, 3) := by decide +kernel
theorem dX12_of_28 : decode cX12_of 28 = .ok (.iconst 4, 1) := by decide +kernel
theorem dX12_of_29 : decode cX12_of 29 = .ok (.iload_n 1, 1) := by decide +kernel
theorem dX12_of_30 : decode cX12_of 30 = .ok (.imul, 1) := by decide +kernel
theorem dX12_of_31 : decode cX12_of 31 = .ok (.iload_n 2, 1) := by decide +kernel
theorem dX12_of_32 : decode cX12_of 32 = .ok (.iadd, 1) := by decide +kernel
theorem dX12_of_33 : decode cX12_of 33 = .ok (.iconst 2, 1) := by decide +kernel
theorem dX12_of_34 : decode cX12_of 34 = .ok (.isub, 1) := by decide +kernel
theorem dX12_of_35 : decode cX12_of 35 = .ok (.iaload, 1) := by decide +kernel
theorem dX12_of_36 : decode cX12_of 36 = .ok (.ireturn, 1) := by decide +kernel
theorem dX12_of_37 : decode cX12_of 37 = .ok (.iload_n 2, 1) := by decide +kernel
theorem dX12_of_38 : decode cX12_of 38 = .ok (.tableswitch 152 0 13 #[70, 77, 152, 152, 152, 152, 84, 91, 98, 105, 111, 125, 139, 145], 70) := by decide +kernel
theorem dX12_of_108 : decode cX12_of 108 = .ok (.aload_n 0, 1) := by decide +kernel
theorem dX12_of_109 : decode cX12_of 109 = .ok (.getfield 49, 3) := by decide +kernel
theorem dX12_of_112 : decode cX12_of 112 = .ok (.iload_n 1, 1) := by decide +kernel
theorem dX12_of_113 : decode cX12_of 113 = .ok (.iaload, 1) := by decide +kernel
theorem dX12_of_114 : decode cX12_of 114 = .ok (.ireturn, 1) := by decide +kernel
theorem dX12_of_115 : decode cX12_of 115 = .ok (.aload_n 0, 1) := by decide +kernel
theorem dX12_of_116 : decode cX12_of 116 = .ok (.getfield 52, 3) := by decide +kernel
theorem dX12_of_119 : decode cX12_of 119 = .ok (.iload_n 1, 1) := by decide +kernel
theorem dX12_of_120 : decode cX12_of 120 = .ok (.iaload, 1) := by decide +kernel
theorem dX12_of_121 : decode cX12_of 121 = .ok (.ireturn, 1) := by decide +kernel
theorem dX12_of_122 : decode cX12_of 122 = .ok (.aload_n 0, 1) := by decide +kernel
theorem dX12_of_123 : decode cX12_of 123 = .ok (.getfield 61, 3) := by decide +kernel
theorem dX12_of_126 : decode cX12_of 126 = .ok (.iload_n 1, 1) := by decide +kernel
theorem dX12_of_127 : decode cX12_of 127 = .ok (.iaload, 1) := by decide +kernel
theorem dX12_of_128 : decode cX12_of 128 = .ok (.ireturn, 1) := by decide +kernel
theorem dX12_of_129 : decode cX12_of 129 = .ok (.aload_n 0, 1) := by decide +kernel
theorem dX12_of_130 : decode cX12_of 130 = .ok (.getfield 64, 3) := by decide +kernel
theorem dX12_of_133 : decode cX12_of 133 = .ok (.iload_n 1, 1) := by decide +kernel
theorem dX12_of_134 : decode cX12_of 134 = .ok (.iaload, 1) := by decide +kernel
theorem dX12_of_135 : decode cX12_of 135 = .ok (.ireturn, 1) := by decide +kernel
theorem dX12_of_136 : decode cX12_of 136 = .ok (.aload_n 0, 1) := by decide +kernel
theorem dX12_of_137 : decode cX12_of 137 = .ok (.getfield 67, 3) := by decide +kernel
theorem dX12_of_140 : decode cX12_of 140 = .ok (.iload_n 1, 1) := by decide +kernel
theorem dX12_of_141 : decode cX12_of 141 = .ok (.iaload, 1) := by decide +kernel
theorem dX12_of_142 : decode cX12_of 142 = .ok (.ireturn, 1) := by decide +kernel
theorem dX12_of_143 : decode cX12_of 143 = .ok (.aload_n 0, 1) := by decide +kernel
theorem dX12_of_144 : decode cX12_of 144 = .ok (.iload_n 1, 1) := by decide +kernel
theorem dX12_of_145 : decode cX12_of 145 = .ok (.invokevirtual 240, 3) := by decide +kernel
theorem dX12_of_148 : decode cX12_of 148 = .ok (.ireturn, 1) := by decide +kernel
theorem dX12_of_149 : decode cX12_of 149 = .ok (.aload_n 0, 1) := by decide +kernel
theorem dX12_of_150 : decode cX12_of 150 = .ok (.iload_n 1, 1) := by decide +kernel
theorem dX12_of_151 : decode cX12_of 151 = .ok (.invokevirtual 260, 3) := by decide +kernel
theorem dX12_of_154 : decode cX12_of 154 = .ok (.ifCond .eq 7, 3) := by decide +kernel
theorem dX12_of_157 : decode cX12_of 157 = .ok (.iconst 1, 1) := by decide +kernel
theorem dX12_of_158 : decode cX12_of 158 = .ok (.goto 4, 3) := by decide +kernel
theorem dX12_of_161 : decode cX12_of 161 = .ok (.iconst 0, 1) := by decide +kernel
theorem dX12_of_162 : decode cX12_of 162 = .ok (.ireturn, 1) := by decide +kernel
theorem dX12_of_163 : decode cX12_of 163 = .ok (.aload_n 0, 1) := by decide +kernel
theorem dX12_of_164 : decode cX12_of 164 = .ok (.iload_n 1, 1) := by decide +kernel
theorem dX12_of_165 : decode cX12_of 165 = .ok (.invokevirtual 263, 3) := by decide +kernel
theorem dX12_of_168 : decode cX12_of 168 = .ok (.ifCond .eq 7, 3) := by decide +kernel
theorem dX12_of_171 : decode cX12_of 171 = .ok (.iconst 1, 1) := by decide +kernel
theorem dX12_of_172 : decode cX12_of 172 = .ok (.goto 4, 3) := by decide +kernel
theorem dX12_of_175 : decode cX12_of 175 = .ok (.iconst 0, 1) := by decide +kernel
theorem dX12_of_176 : decode cX12_of 176 = .ok (.ireturn, 1) := by decide +kernel
theorem dX12_of_177 : decode cX12_of 177 = .ok (.aload_n 0, 1) := by decide +kernel
theorem dX12_of_178 : decode cX12_of 178 = .ok (.iload_n 1, 1) := by decide +kernel
theorem dX12_of_179 : decode cX12_of 179 = .ok (.invokevirtual 266, 3) := by decide +kernel
theorem dX12_of_182 : decode cX12_of 182 = .ok (.ireturn, 1) := by decide +kernel
theorem dX12_of_183 : decode cX12_of 183 = .ok (.aload_n 0, 1) := by decide +kernel
theorem dX12_of_184 : decode cX12_of 184 = .ok (.getfield 70, 3) := by decide +kernel
theorem dX12_of_187 : decode cX12_of 187 = .ok (.iload_n 1, 1) := by decide +kernel
theorem dX12_of_188 : decode cX12_of 188 = .ok (.iaload, 1) := by decide +kernel
theorem dX12_of_189 : decode cX12_of 189 = .ok (.ireturn, 1) := by decide +kernel
theorem dX12_of_190 : decode cX12_of 190 = .ok (.iconst (-1), 1) := by decide +kernel
theorem dX12_of_191 : decode cX12_of 191 = .ok (.ireturn, 1) := by decide +kernel
set_option maxRecDepth 100000 in
set_option maxHeartbeats 4000000 in
theorem c_X12_of (X : XE) (p1 : Int) (p2 : Int) (hp1 : inR p1) (hp2 : inR p2) {σ : Mem} {Q : Int → Mem → Prop} (h : v_X12_of p1 p2 σ Q) : CT X yX12_of cX12_of 3 (some .int) rm_X12_of 1 [.ref (xad X 122), vI p1, vI p2] σ Q := by
  refine ct_of (own := RX12) (L := [(0, .ref (xad X 122)), (1, vI p1), (2, vI p2)]) rfl rfl (Nat.le_of_ble_eq_true rfl) rfl ?_
  refine ok_aload_n 0 (pc := 0) dX12_of_0 rfl rfl ?_
  refine ok_iload_n 1 (pc := 1) dX12_of_1 rfl rfl ?_
  refine ok_callVi (As := [vI p1]) (rest := []) (rm := rm_X12_isCard) (pc := 2) dX12_of_2 me_X12_isCard ml_X12_257 (ci := 12) rfl sh_122 (Nat.le_of_ble_eq_true rfl) rfl des_X12_isCard rfl ⟨rfl, rfl, rfl, rfl⟩ rfl rfl (c_X12_isCard X p1 hp1 h) (fun r2 σ3 h1 h => ?_)
  refine ok_if_ne (tgt := 10) (pc := 5) dX12_of_5 rfl h1 (fun q4 => ?_) (fun q4 => ?_)
  · have h := iteF h q4
    refine ok_iload_n 2 (pc := 10) dX12_of_10 rfl rfl ?_
    refine ok_i2l (pc := 11) dX12_of_11 hp2 ?_
    refine ok_ldc2 (pc := 12) dX12_of_12 cn_X12_245 ?_
    refine ok_ldc2 (pc := 15) dX12_of_15 cn_X12_243 ?_
    refine ok_callSi (As := [vL p2, vL 2, vL 5]) (rest := []) (rm := rm_X12_in) (pc := 18) dX12_of_18 me_X12_in ml_X12_137 des_X12_in rfl ⟨rfl, rfl, rfl, rfl⟩ rfl rfl (c_X12_in X p2 2 5 (l_of_r hp2) (l_of_r (r_lit rfl)) (l_of_r (r_lit rfl)) h) (fun r6 σ7 h5 h => ?_)
    refine ok_if_eq (tgt := 37) (pc := 21) dX12_of_21 rfl h5 (fun q8 => ?_) (fun q8 => ?_)
    · have h := iteT h q8
      refine ok_iload_n 2 (pc := 37) dX12_of_37 rfl rfl ?_
      by_cases q9 : p2 = 0
      · have h := iteT h q9
        refine ok_tin (tgt := 108) (pc := 38) dX12_of_38 hp2 (by omega) (by omega) (by first | (rw [q9]; done) | (rw [q9]; rfl)) rfl ?_
        refine ok_aload_n 0 (pc := 108) dX12_of_108 rfl rfl ?_
        refine ok_getR (pc := 109) dX12_of_109 fl_X12_49 sh_122 (Nat.le_of_ble_eq_true rfl) rfl rfl ?_
        refine ok_iload_n 1 (pc := 112) dX12_of_112 rfl rfl ?_
        obtain ⟨h10, h⟩ := h
        obtain ⟨h11, h⟩ := h
        refine ok_wf (fun hw12 => ?_)
        refine ok_iald (pc := 113) dX12_of_113 sh_136 (Nat.le_of_ble_eq_true rfl) rfl h10 h11 ?_
        exact ok_iret (pc := 114) dX12_of_114 rfl rfl rfl (hw12 _ _) h
      · have h := iteF h q9
        by_cases q13 : p2 = 1
        · have h := iteT h q13
          refine ok_tin (tgt := 115) (pc := 38) dX12_of_38 hp2 (by omega) (by omega) (by first | (rw [q13]; done) | (rw [q13]; rfl)) rfl ?_
          refine ok_aload_n 0 (pc := 115) dX12_of_115 rfl rfl ?_
          refine ok_getR (pc := 116) dX12_of_116 fl_X12_52 sh_122 (Nat.le_of_ble_eq_true rfl) rfl rfl ?_
          refine ok_iload_n 1 (pc := 119) dX12_of_119 rfl rfl ?_
          obtain ⟨h14, h⟩ := h
          obtain ⟨h15, h⟩ := h
          refine ok_wf (fun hw16 => ?_)
          refine ok_iald (pc := 120) dX12_of_120 sh_137 (Nat.le_of_ble_eq_true rfl) rfl h14 h15 ?_
          exact ok_iret (pc := 121) dX12_of_121 rfl rfl rfl (hw16 _ _) h
        · have h := iteF h q13
          by_cases q17 : p2 = 2
          · have h := iteT h q17
            refine ok_tin (tgt := 190) (pc := 38) dX12_of_38 hp2 (by omega) (by omega) (by first | (rw [q17]; done) | (rw [q17]; rfl)) rfl ?_
            refine ok_iconst (pc := 190) dX12_of_190 ?_
            exact ok_iret (pc := 191) dX12_of_191 rfl rfl rfl (r_lit rfl) h
          · have h := iteF h q17
            by_cases q18 : p2 = 3
            · have h := iteT h q18
              refine ok_tin (tgt := 190) (pc := 38) dX12_of_38 hp2 (by omega) (by omega) (by first | (rw [q18]; done) | (rw [q18]; rfl)) rfl ?_
              refine ok_iconst (pc := 190) dX12_of_190 ?_
              exact ok_iret (pc := 191) dX12_of_191 rfl rfl rfl (r_lit rfl) h
            · have h := iteF h q18
              by_cases q19 : p2 = 4
              · have h := iteT h q19
                refine ok_tin (tgt := 190) (pc := 38) dX12_of_38 hp2 (by omega) (by omega) (by first | (rw [q19]; done) | (rw [q19]; rfl)) rfl ?_
                refine ok_iconst (pc := 190) dX12_of_190 ?_
                exact ok_iret (pc := 191) dX12_of_191 rfl rfl rfl (r_lit rfl) h
              · have h := iteF h q19
                by_cases q20 : p2 = 5
                · have h := iteT h q20
                  refine ok_tin (tgt := 190) (pc := 38) dX12_of_38 hp2 (by omega) (by omega) (by first | (rw [q20]; done) | (rw [q20]; rfl)) rfl ?_
                  refine ok_iconst (pc := 190) dX12_of_190 ?_
                  exact ok_iret (pc := 191) dX12_of_191 rfl rfl rfl (r_lit rfl) h
                · have h := iteF h q20
                  by_cases q21 : p2 = 6
                  · have h := iteT h q21
                    refine ok_tin (tgt := 122) (pc := 38) dX12_of_38 hp2 (by omega) (by omega) (by first | (rw [q21]; done) | (rw [q21]; rfl)) rfl ?_
                    refine ok_aload_n 0 (pc := 122) dX12_of_122 rfl rfl ?_
                    refine ok_getR (pc := 123) dX12_of_123 fl_X12_61 sh_122 (Nat.le_of_ble_eq_true rfl) rfl rfl ?_
                    refine ok_iload_n 1 (pc := 126) dX12_of_126 rfl rfl ?_
                    obtain ⟨h22, h⟩ := h
                    obtain ⟨h23, h⟩ := h
                    refine ok_wf (fun hw24 => ?_)
                    refine ok_iald (pc := 127) dX12_of_127 sh_140 (Nat.le_of_ble_eq_true rfl) rfl h22 h23 ?_
                    exact ok_iret (pc := 128) dX12_of_128 rfl rfl rfl (hw24 _ _) h
                  · have h := iteF h q21
                    by_cases q25 : p2 = 7
                    · have h := iteT h q25
                      refine ok_tin (tgt := 129) (pc := 38) dX12_of_38 hp2 (by omega) (by omega) (by first | (rw [q25]; done) | (rw [q25]; rfl)) rfl ?_
                      refine ok_aload_n 0 (pc := 129) dX12_of_129 rfl rfl ?_
                      refine ok_getR (pc := 130) dX12_of_130 fl_X12_64 sh_122 (Nat.le_of_ble_eq_true rfl) rfl rfl ?_
                      refine ok_iload_n 1 (pc := 133) dX12_of_133 rfl rfl ?_
                      obtain ⟨h26, h⟩ := h
                      obtain ⟨h27, h⟩ := h
                      refine ok_wf (fun hw28 => ?_)
                      refine ok_iald (pc := 134) dX12_of_134 sh_141 (Nat.le_of_ble_eq_true rfl) rfl h26 h27 ?_
                      exact ok_iret (pc := 135) dX12_of_135 rfl rfl rfl (hw28 _ _) h
                    · have h := iteF h q25
                      by_cases q29 : p2 = 8
                      · have h := iteT h q29
                        refine ok_tin (tgt := 136) (pc := 38) dX12_of_38 hp2 (by omega) (by omega) (by first | (rw [q29]; done) | (rw [q29]; rfl)) rfl ?_
                        refine ok_aload_n 0 (pc := 136) dX12_of_136 rfl rfl ?_
                        refine ok_getR (pc := 137) dX12_of_137 fl_X12_67 sh_122 (Nat.le_of_ble_eq_true rfl) rfl rfl ?_
                        refine ok_iload_n 1 (pc := 140) dX12_of_140 rfl rfl ?_
                        obtain ⟨h30, h⟩ := h
                        obtain ⟨h31, h⟩ := h
                        refine ok_wf (fun hw32 => ?_)
                        refine ok_iald (pc := 141) dX12_of_141 sh_142 (Nat.le_of_ble_eq_true rfl) rfl h30 h31 ?_
                        exact ok_iret (pc := 142) dX12_of_142 rfl rfl rfl (hw32 _ _) h
                      · have h := iteF h q29
                        by_cases q33 : p2 = 9
                        · have h := iteT h q33
                          refine ok_tin (tgt := 143) (pc := 38) dX12_of_38 hp2 (by omega) (by omega) (by first | (rw [q33]; done) | (rw [q33]; rfl)) rfl ?_
                          refine ok_aload_n 0 (pc := 143) dX12_of_143 rfl rfl ?_
                          refine ok_iload_n 1 (pc := 144) dX12_of_144 rfl rfl ?_
                          refine ok_callVi (As := [vI p1]) (rest := []) (rm := rm_X12_drawerOf) (pc := 145) dX12_of_145 me_X12_drawerOf ml_X12_240 (ci := 12) rfl sh_122 (Nat.le_of_ble_eq_true rfl) rfl des_X12_drawerOf rfl ⟨rfl, rfl, rfl, rfl⟩ rfl rfl (c_X12_drawerOf X p1 hp1 h) (fun r35 σ36 h34 h => ?_)
                          exact ok_iret (pc := 148) dX12_of_148 rfl rfl rfl h34 h
                        · have h := iteF h q33
                          by_cases q37 : p2 = 10
                          · have h := iteT h q37
                            refine ok_tin (tgt := 149) (pc := 38) dX12_of_38 hp2 (by omega) (by omega) (by first | (rw [q37]; done) | (rw [q37]; rfl)) rfl ?_
                            refine ok_aload_n 0 (pc := 149) dX12_of_149 rfl rfl ?_
                            refine ok_iload_n 1 (pc := 150) dX12_of_150 rfl rfl ?_
                            refine ok_callVi (As := [vI p1]) (rest := []) (rm := rm_X12_isOut) (pc := 151) dX12_of_151 me_X12_isOut ml_X12_260 (ci := 12) rfl sh_122 (Nat.le_of_ble_eq_true rfl) rfl des_X12_isOut rfl ⟨rfl, rfl, rfl, rfl⟩ rfl rfl (c_X12_isOut X p1 hp1 h) (fun r39 σ40 h38 h => ?_)
                            refine ok_if_eq (tgt := 161) (pc := 154) dX12_of_154 rfl h38 (fun q41 => ?_) (fun q41 => ?_)
                            · have h := iteT h q41
                              refine ok_iconst (pc := 161) dX12_of_161 ?_
                              exact ok_iret (pc := 162) dX12_of_162 rfl rfl rfl (r_lit rfl) h
                            · have h := iteF h q41
                              refine ok_iconst (pc := 157) dX12_of_157 ?_
                              refine ok_goto (tgt := 162) (pc := 158) dX12_of_158 rfl ?_
                              exact ok_iret (pc := 162) dX12_of_162 rfl rfl rfl (r_lit rfl) h
                          · have h := iteF h q37
                            by_cases q42 : p2 = 11
                            · have h := iteT h q42
                              refine ok_tin (tgt := 163) (pc := 38) dX12_of_38 hp2 (by omega) (by omega) (by first | (rw [q42]; done) | (rw [q42]; rfl)) rfl ?_
                              refine ok_aload_n 0 (pc := 163) dX12_of_163 rfl rfl ?_
                              refine ok_iload_n 1 (pc := 164) dX12_of_164 rfl rfl ?_
                              refine ok_callVi (As := [vI p1]) (rest := []) (rm := rm_X12_isDue) (pc := 165) dX12_of_165 me_X12_isDue ml_X12_263 (ci := 12) rfl sh_122 (Nat.le_of_ble_eq_true rfl) rfl des_X12_isDue rfl ⟨rfl, rfl, rfl, rfl⟩ rfl rfl (c_X12_isDue X p1 hp1 h) (fun r44 σ45 h43 h => ?_)
                              refine ok_if_eq (tgt := 175) (pc := 168) dX12_of_168 rfl h43 (fun q46 => ?_) (fun q46 => ?_)
                              · have h := iteT h q46
                                refine ok_iconst (pc := 175) dX12_of_175 ?_
                                exact ok_iret (pc := 176) dX12_of_176 rfl rfl rfl (r_lit rfl) h
                              · have h := iteF h q46
                                refine ok_iconst (pc := 171) dX12_of_171 ?_
                                refine ok_goto (tgt := 176) (pc := 172) dX12_of_172 rfl ?_
                                exact ok_iret (pc := 176) dX12_of_176 rfl rfl rfl (r_lit rfl) h
                            · have h := iteF h q42
                              by_cases q47 : p2 = 12
                              · have h := iteT h q47
                                refine ok_tin (tgt := 177) (pc := 38) dX12_of_38 hp2 (by omega) (by omega) (by first | (rw [q47]; done) | (rw [q47]; rfl)) rfl ?_
                                refine ok_aload_n 0 (pc := 177) dX12_of_177 rfl rfl ?_
                                refine ok_iload_n 1 (pc := 178) dX12_of_178 rfl rfl ?_
                                refine ok_callVi (As := [vI p1]) (rest := []) (rm := rm_X12_spreadAt) (pc := 179) dX12_of_179 me_X12_spreadAt ml_X12_266 (ci := 12) rfl sh_122 (Nat.le_of_ble_eq_true rfl) rfl des_X12_spreadAt rfl ⟨rfl, rfl, rfl, rfl⟩ rfl rfl (c_X12_spreadAt X p1 hp1 h) (fun r49 σ50 h48 h => ?_)
                                exact ok_iret (pc := 182) dX12_of_182 rfl rfl rfl h48 h
                              · have h := iteF h q47
                                by_cases q51 : p2 = 13
                                · have h := iteT h q51
                                  refine ok_tin (tgt := 183) (pc := 38) dX12_of_38 hp2 (by omega) (by omega) (by first | (rw [q51]; done) | (rw [q51]; rfl)) rfl ?_
                                  refine ok_aload_n 0 (pc := 183) dX12_of_183 rfl rfl ?_
                                  refine ok_getR (pc := 184) dX12_of_184 fl_X12_70 sh_122 (Nat.le_of_ble_eq_true rfl) rfl rfl ?_
                                  refine ok_iload_n 1 (pc := 187) dX12_of_187 rfl rfl ?_
                                  obtain ⟨h52, h⟩ := h
                                  obtain ⟨h53, h⟩ := h
                                  refine ok_wf (fun hw54 => ?_)
                                  refine ok_iald (pc := 188) dX12_of_188 sh_143 (Nat.le_of_ble_eq_true rfl) rfl h52 h53 ?_
                                  exact ok_iret (pc := 189) dX12_of_189 rfl rfl rfl (hw54 _ _) h
                                · have h := iteF h q51
                                  refine ok_tout (tgt := 190) (pc := 38) dX12_of_38 hp2 (by omega) rfl ?_
                                  refine ok_iconst (pc := 190) dX12_of_190 ?_
                                  exact ok_iret (pc := 191) dX12_of_191 rfl rfl rfl (r_lit rfl) h
    · have h := iteF h q8
      refine ok_aload_n 0 (pc := 24) dX12_of_24 rfl rfl ?_
      refine ok_getR (pc := 25) dX12_of_25 fl_X12_55 sh_122 (Nat.le_of_ble_eq_true rfl) rfl rfl ?_
      refine ok_iconst (pc := 28) dX12_of_28 ?_
      refine ok_iload_n 1 (pc := 29) dX12_of_29 rfl rfl ?_
      refine ok_imul (pc := 30) dX12_of_30 ?_
      refine ok_iload_n 2 (pc := 31) dX12_of_31 rfl rfl ?_
      refine ok_iadd (pc := 32) dX12_of_32 ?_
      refine ok_iconst (pc := 33) dX12_of_33 ?_
      refine ok_isub (pc := 34) dX12_of_34 ?_
      obtain ⟨h55, h⟩ := h
      obtain ⟨h56, h⟩ := h
      refine ok_wf (fun hw57 => ?_)
      refine ok_iald (pc := 35) dX12_of_35 sh_138 (Nat.le_of_ble_eq_true rfl) rfl h55 h56 ?_
      exact ok_iret (pc := 36) dX12_of_36 rfl rfl rfl (hw57 _ _) h
  · have h := iteT h q4
    refine ok_iconst (pc := 8) dX12_of_8 ?_
    exact ok_iret (pc := 9) dX12_of_9 rfl rfl rfl (r_lit rfl) h
theorem dX12_anew_0 : decode cX12_anew 0 = .ok (.aload_n 0, 1) := by decide +kernel
theorem dX12_anew_1 : decode cX12_anew 1 = .ok (.iload_n 1, 1) := by decide +kernel
theorem dX12_anew_2 : decode cX12_anew 2 = .ok (.invokevirtual 257, 3) := by decide +kernel
theorem dX12_anew_5 : decode cX12_anew 5 = .ok (.ifCond .eq 22, 3) := by decide +kernel
theorem dX12_anew_8 : decode cX12_anew 8 = .ok (.iload_n 2, 1) := by decide +kernel
theorem dX12_anew_9 : decode cX12_anew 9 = .ok (.i2l, 1) := by decide +kernel
theorem dX12_anew_10 : decode cX12_anew 10 = .ok (.lconst 0, 1) := by decide +kernel
theorem dX12_anew_11 : decode cX12_anew 11 = .ok (.ldc2_w 269, 3) := by decide +kernel
theorem dX12_anew_14 : decode cX12_anew 14 = .ok (.invokestatic 137, 3) := by decide +kernel
theorem dX12_anew_17 : decode cX12_anew 17 = .ok (.ifCond .eq 10, 3) := by decide +kernel
theorem dX12_anew_20 : decode cX12_anew 20 = .ok (.iload_n 3, 1) := by decide +kernel
theorem dX12_anew_21 : decode cX12_anew 21 = .ok (.invokestatic 247, 3) := by decide +kernel
theorem dX12_anew_24 : decode cX12_anew 24 = .ok (.ifCond .ne 5, 3) := by decide +kernel
theorem dX12_anew_27 : decode cX12_anew 27 = .ok (.iconst (-1), 1) := by decide +kernel
theorem dX12_anew_28 : decode cX12_anew 28 = .ok (.ireturn, 1) := by decide +kernel
theorem dX12_anew_29 : decode cX12_anew 29 = .ok (.aload_n 0, 1) := by decide +kernel
theorem dX12_anew_30 : decode cX12_anew 30 = .ok (.getfield 271, 3) := by decide +kernel
theorem dX12_anew_33 : decode cX12_anew 33 = .ok (.bipush 40, 2) := by decide +kernel
theorem dX12_anew_35 : decode cX12_anew 35 = .ok (.if_icmp .ne 6, 3) := by decide +kernel
theorem dX12_anew_38 : decode cX12_anew 38 = .ok (.bipush (-3), 2) := by decide +kernel
theorem dX12_anew_40 : decode cX12_anew 40 = .ok (.ireturn, 1) := by decide +kernel
theorem dX12_anew_41 : decode cX12_anew 41 = .ok (.aload_n 0, 1) := by decide +kernel
theorem dX12_anew_42 : decode cX12_anew 42 = .ok (.getfield 55, 3) := by decide +kernel
theorem dX12_anew_45 : decode cX12_anew 45 = .ok (.iconst 4, 1) := by decide +kernel
theorem dX12_anew_46 : decode cX12_anew 46 = .ok (.iload_n 1, 1) := by decide +kernel
theorem dX12_anew_47 : decode cX12_anew 47 = .ok (.imul, 1) := by decide +kernel
theorem dX12_anew_48 : decode cX12_anew 48 = .ok (.iload_n 2, 1) := by decide +kernel
theorem dX12_anew_49 : decode cX12_anew 49 = .ok (.iadd, 1) := by decide +kernel
theorem dX12_anew_50 : decode cX12_anew 50 = .ok (.iaload, 1) := by decide +kernel
theorem dX12_anew_51 : decode cX12_anew 51 = .ok (.istore 4, 2) := by decide +kernel
theorem dX12_anew_53 : decode cX12_anew 53 = .ok (.aload_n 0, 1) := by decide +kernel
theorem dX12_anew_54 : decode cX12_anew 54 = .ok (.getfield 55, 3) := by decide +kernel
theorem dX12_anew_57 : decode cX12_anew 57 = .ok (.iconst 4, 1) := by decide +kernel
theorem dX12_anew_58 : decode cX12_anew 58 = .ok (.iload_n 1, 1) := by decide +kernel
theorem dX12_anew_59 : decode cX12_anew 59 = .ok (.imul, 1) := by decide +kernel
theorem dX12_anew_60 : decode cX12_anew 60 = .ok (.iload_n 2, 1) := by decide +kernel
theorem dX12_anew_61 : decode cX12_anew 61 = .ok (.iadd, 1) := by decide +kernel
theorem dX12_anew_62 : decode cX12_anew 62 = .ok (.iload_n 3, 1) := by decide +kernel
theorem dX12_anew_63 : decode cX12_anew 63 = .ok (.iastore, 1) := by decide +kernel
theorem dX12_anew_64 : decode cX12_anew 64 = .ok (.aload_n 0, 1) := by decide +kernel
theorem dX12_anew_65 : decode cX12_anew 65 = .ok (.getfield 73, 3) := by decide +kernel
theorem dX12_anew_68 : decode cX12_anew 68 = .ok (.aload_n 0, 1) := by decide +kernel
theorem dX12_anew_69 : decode cX12_anew 69 = .ok (.getfield 271, 3) := by decide +kernel
theorem dX12_anew_72 : decode cX12_anew 72 = .ok (.iconst 4, 1) := by decide +kernel
theorem dX12_anew_73 : decode cX12_anew 73 = .ok (.iload_n 1, 1) := by decide +kernel
theorem dX12_anew_74 : decode cX12_anew 74 = .ok (.imul, 1) := by decide +kernel
theorem dX12_anew_75 : decode cX12_anew 75 = .ok (.iload_n 2, 1) := by decide +kernel
theorem dX12_anew_76 : decode cX12_anew 76 = .ok (.iadd, 1) := by decide +kernel
theorem dX12_anew_77 : decode cX12_anew 77 = .ok (.iastore, 1) := by decide +kernel
theorem dX12_anew_78 : decode cX12_anew 78 = .ok (.aload_n 0, 1) := by decide +kernel
theorem dX12_anew_79 : decode cX12_anew 79 = .ok (.getfield 76, 3) := by decide +kernel
theorem dX12_anew_82 : decode cX12_anew 82 = .ok (.aload_n 0, 1) := by decide +kernel
theorem dX12_anew_83 : decode cX12_anew 83 = .ok (.getfield 271, 3) := by decide +kernel
theorem dX12_anew_86 : decode cX12_anew 86 = .ok (.iload_n 3, 1) := by decide +kernel
theorem dX12_anew_87 : decode cX12_anew 87 = .ok (.iastore, 1) := by decide +kernel
theorem dX12_anew_88 : decode cX12_anew 88 = .ok (.aload_n 0, 1) := by decide +kernel
theorem dX12_anew_89 : decode cX12_anew 89 = .ok (.getfield 79, 3) := by decide +kernel
theorem dX12_anew_92 : decode cX12_anew 92 = .ok (.aload_n 0, 1) := by decide +kernel
theorem dX12_anew_93 : decode cX12_anew 93 = .ok (.getfield 271, 3) := by decide +kernel
theorem dX12_anew_96 : decode cX12_anew 96 = .ok (.aload_n 0, 1) := by decide +kernel
theorem dX12_anew_97 : decode cX12_anew 97 = .ok (.getfield 132, 3) := by decide +kernel
theorem dX12_anew_100 : decode cX12_anew 100 = .ok (.iastore, 1) := by decide +kernel
theorem dX12_anew_101 : decode cX12_anew 101 = .ok (.aload_n 0, 1) := by decide +kernel
theorem dX12_anew_102 : decode cX12_anew 102 = .ok (.dup, 1) := by decide +kernel
theorem dX12_anew_103 : decode cX12_anew 103 = .ok (.getfield 271, 3) := by decide +kernel
theorem dX12_anew_106 : decode cX12_anew 106 = .ok (.iconst 1, 1) := by decide +kernel
theorem dX12_anew_107 : decode cX12_anew 107 = .ok (.iadd, 1) := by decide +kernel
theorem dX12_anew_108 : decode cX12_anew 108 = .ok (.putfield 271, 3) := by decide +kernel
theorem dX12_anew_111 : decode cX12_anew 111 = .ok (.aload_n 0, 1) := by decide +kernel
theorem dX12_anew_112 : decode cX12_anew 112 = .ok (.getfield 70, 3) := by decide +kernel
theorem dX12_anew_115 : decode cX12_anew 115 = .ok (.iload_n 1, 1) := by decide +kernel
theorem dX12_anew_116 : decode cX12_anew 116 = .ok (.dup2, 1) := by decide +kernel
theorem dX12_anew_117 : decode cX12_anew 117 = .ok (.iaload, 1) := by decide +kernel
theorem dX12_anew_118 : decode cX12_anew 118 = .ok (.iconst 1, 1) := by decide +kernel
theorem dX12_anew_119 : decode cX12_anew 119 = .ok (.iadd, 1) := by decide +kernel
theorem dX12_anew_120 : decode cX12_anew 120 = .ok (.iastore, 1) := by decide +kernel
theorem dX12_anew_121 : decode cX12_anew 121 = .ok (.iload 4, 2) := by decide +kernel
theorem dX12_anew_123 : decode cX12_anew 123 = .ok (.ireturn, 1) := by decide +kernel
set_option maxRecDepth 100000 in
set_option maxHeartbeats 4000000 in
theorem c_X12_anew (X : XE) (p1 : Int) (p2 : Int) (p3 : Int) (hp1 : inR p1) (hp2 : inR p2) (hp3 : inR p3) {σ : Mem} {Q : Int → Mem → Prop} (h : v_X12_anew p1 p2 p3 σ Q) : CT X yX12_anew cX12_anew 5 (some .int) rm_X12_anew 1 [.ref (xad X 122), vI p1, vI p2, vI p3] σ Q := by
  refine ct_of (own := RX12) (L := [(0, .ref (xad X 122)), (1, vI p1), (2, vI p2), (3, vI p3)]) rfl rfl (Nat.le_of_ble_eq_true rfl) rfl ?_
  refine ok_aload_n 0 (pc := 0) dX12_anew_0 rfl rfl ?_
  refine ok_iload_n 1 (pc := 1) dX12_anew_1 rfl rfl ?_
  refine ok_callVi (As := [vI p1]) (rest := []) (rm := rm_X12_isCard) (pc := 2) dX12_anew_2 me_X12_isCard ml_X12_257 (ci := 12) rfl sh_122 (Nat.le_of_ble_eq_true rfl) rfl des_X12_isCard rfl ⟨rfl, rfl, rfl, rfl⟩ rfl rfl (c_X12_isCard X p1 hp1 h) (fun r2 σ3 h1 h => ?_)
  refine ok_if_eq (tgt := 27) (pc := 5) dX12_anew_5 rfl h1 (fun q4 => ?_) (fun q4 => ?_)
  · have h := iteT h q4
    refine ok_iconst (pc := 27) dX12_anew_27 ?_
    exact ok_iret (pc := 28) dX12_anew_28 rfl rfl rfl (r_lit rfl) h
  · have h := iteF h q4
    refine ok_iload_n 2 (pc := 8) dX12_anew_8 rfl rfl ?_
    refine ok_i2l (pc := 9) dX12_anew_9 hp2 ?_
    refine ok_lconst (v := 0) (pc := 10) dX12_anew_10 rfl ?_
    refine ok_ldc2 (pc := 11) dX12_anew_11 cn_X12_269 ?_
    refine ok_callSi (As := [vL p2, vL 0, vL 3]) (rest := []) (rm := rm_X12_in) (pc := 14) dX12_anew_14 me_X12_in ml_X12_137 des_X12_in rfl ⟨rfl, rfl, rfl, rfl⟩ rfl rfl (c_X12_in X p2 0 3 (l_of_r hp2) (l_of_r (r_lit rfl)) (l_of_r (r_lit rfl)) h) (fun r6 σ7 h5 h => ?_)
    refine ok_if_eq (tgt := 27) (pc := 17) dX12_anew_17 rfl h5 (fun q8 => ?_) (fun q8 => ?_)
    · have h := iteT h q8
      refine ok_iconst (pc := 27) dX12_anew_27 ?_
      exact ok_iret (pc := 28) dX12_anew_28 rfl rfl rfl (r_lit rfl) h
    · have h := iteF h q8
      refine ok_iload_n 3 (pc := 20) dX12_anew_20 rfl rfl ?_
      refine ok_callSi (As := [vI p3]) (rest := []) (rm := rm_X12_isMeasure) (pc := 21) dX12_anew_21 me_X12_isMeasure ml_X12_247 des_X12_isMeasure rfl ⟨rfl, rfl, rfl, rfl⟩ rfl rfl (c_X12_isMeasure X p3 hp3 h) (fun r10 σ11 h9 h => ?_)
      refine ok_if_ne (tgt := 29) (pc := 24) dX12_anew_24 rfl h9 (fun q12 => ?_) (fun q12 => ?_)
      · have h := iteF h q12
        refine ok_aload_n 0 (pc := 29) dX12_anew_29 rfl rfl ?_
        refine ok_wf (fun hw13 => ?_)
        refine ok_getI (pc := 30) dX12_anew_30 fl_X12_271 sh_122 (Nat.le_of_ble_eq_true rfl) rfl rfl ?_
        refine ok_bipush (pc := 33) dX12_anew_33 rfl ?_
        refine ok_icmp_ne (tgt := 41) (pc := 35) dX12_anew_35 rfl (hw13 _ _) (r_lit rfl) (fun q14 => ?_) (fun q14 => ?_)
        · have h := iteF h q14
          refine ok_aload_n 0 (pc := 41) dX12_anew_41 rfl rfl ?_
          refine ok_getR (pc := 42) dX12_anew_42 fl_X12_55 sh_122 (Nat.le_of_ble_eq_true rfl) rfl rfl ?_
          refine ok_iconst (pc := 45) dX12_anew_45 ?_
          refine ok_iload_n 1 (pc := 46) dX12_anew_46 rfl rfl ?_
          refine ok_imul (pc := 47) dX12_anew_47 ?_
          refine ok_iload_n 2 (pc := 48) dX12_anew_48 rfl rfl ?_
          refine ok_iadd (pc := 49) dX12_anew_49 ?_
          obtain ⟨h15, h⟩ := h
          obtain ⟨h16, h⟩ := h
          refine ok_iald (pc := 50) dX12_anew_50 sh_138 (Nat.le_of_ble_eq_true rfl) rfl h15 h16 ?_
          refine ok_istore (L' := [(4, vI (σ11 138 ((4 * p1) + p2).toNat)), (0, .ref (xad X 122)), (1, vI p1), (2, vI p2), (3, vI p3)]) (pc := 51) dX12_anew_51 rfl rfl ?_
          refine ok_aload_n 1 (pc := 53) dX12_anew_53 rfl rfl ?_
          refine ok_getR (pc := 54) dX12_anew_54 fl_X12_55 sh_122 (Nat.le_of_ble_eq_true rfl) rfl rfl ?_
          refine ok_iconst (pc := 57) dX12_anew_57 ?_
          refine ok_iload_n 2 (pc := 58) dX12_anew_58 rfl rfl ?_
          refine ok_imul (pc := 59) dX12_anew_59 ?_
          refine ok_iload_n 3 (pc := 60) dX12_anew_60 rfl rfl ?_
          refine ok_iadd (pc := 61) dX12_anew_61 ?_
          refine ok_iload_n 4 (pc := 62) dX12_anew_62 rfl rfl ?_
          refine ok_iast (pc := 63) dX12_anew_63 sh_138 (Nat.le_of_ble_eq_true rfl) rfl h15 h16 hp3 ?_
          refine ok_aload_n 1 (pc := 64) dX12_anew_64 rfl rfl ?_
          refine ok_getR (pc := 65) dX12_anew_65 fl_X12_73 sh_122 (Nat.le_of_ble_eq_true rfl) rfl rfl ?_
          refine ok_aload_n 1 (pc := 68) dX12_anew_68 rfl rfl ?_
          refine ok_wf (fun hw17 => ?_)
          refine ok_getI (pc := 69) dX12_anew_69 fl_X12_271 sh_122 (Nat.le_of_ble_eq_true rfl) rfl rfl ?_
          have e18 : ((mset σ11 138 (((4 * p1) + p2).toNat) p3) 122 33) = (σ11 122 33) := (mset_ne (by omega))
          refine ok_top e18 ?_
          refine ok_iconst (pc := 72) dX12_anew_72 ?_
          refine ok_iload_n 2 (pc := 73) dX12_anew_73 rfl rfl ?_
          refine ok_imul (pc := 74) dX12_anew_74 ?_
          refine ok_iload_n 3 (pc := 75) dX12_anew_75 rfl rfl ?_
          refine ok_iadd (pc := 76) dX12_anew_76 ?_
          obtain ⟨h20, h⟩ := h
          obtain ⟨h21, h⟩ := h
          obtain ⟨h22, h⟩ := h
          refine ok_iast (pc := 77) dX12_anew_77 sh_144 (Nat.le_of_ble_eq_true rfl) rfl h20 h21 h22 ?_
          refine ok_aload_n 1 (pc := 78) dX12_anew_78 rfl rfl ?_
          refine ok_getR (pc := 79) dX12_anew_79 fl_X12_76 sh_122 (Nat.le_of_ble_eq_true rfl) rfl rfl ?_
          refine ok_aload_n 1 (pc := 82) dX12_anew_82 rfl rfl ?_
          refine ok_wf (fun hw23 => ?_)
          refine ok_getI (pc := 83) dX12_anew_83 fl_X12_271 sh_122 (Nat.le_of_ble_eq_true rfl) rfl rfl ?_
          have e24 : ((mset (mset σ11 138 (((4 * p1) + p2).toNat) p3) 144 ((σ11 122 33).toNat) ((4 * p1) + p2)) 122 33) = (σ11 122 33) := (mset_ne (by omega)).trans (mset_ne (by omega))
          refine ok_top e24 ?_
          refine ok_iload_n 4 (pc := 86) dX12_anew_86 rfl rfl ?_
          refine ok_iast (pc := 87) dX12_anew_87 sh_145 (Nat.le_of_ble_eq_true rfl) rfl h20 h21 hp3 ?_
          refine ok_aload_n 1 (pc := 88) dX12_anew_88 rfl rfl ?_
          refine ok_getR (pc := 89) dX12_anew_89 fl_X12_79 sh_122 (Nat.le_of_ble_eq_true rfl) rfl rfl ?_
          refine ok_aload_n 1 (pc := 92) dX12_anew_92 rfl rfl ?_
          refine ok_wf (fun hw26 => ?_)
          refine ok_getI (pc := 93) dX12_anew_93 fl_X12_271 sh_122 (Nat.le_of_ble_eq_true rfl) rfl rfl ?_
          have e27 : ((mset (mset (mset σ11 138 (((4 * p1) + p2).toNat) p3) 144 ((σ11 122 33).toNat) ((4 * p1) + p2)) 145 ((σ11 122 33).toNat) p3) 122 33) = (σ11 122 33) := (mset_ne (by omega)).trans ((mset_ne (by omega)).trans (mset_ne (by omega)))
          refine ok_top e27 ?_
          refine ok_aload_n 1 (pc := 96) dX12_anew_96 rfl rfl ?_
          refine ok_getI (pc := 97) dX12_anew_97 fl_X12_132 sh_122 (Nat.le_of_ble_eq_true rfl) rfl rfl ?_
          have e29 : ((mset (mset (mset σ11 138 (((4 * p1) + p2).toNat) p3) 144 ((σ11 122 33).toNat) ((4 * p1) + p2)) 145 ((σ11 122 33).toNat) p3) 122 0) = (σ11 122 0) := (mset_ne (by omega)).trans ((mset_ne (by omega)).trans (mset_ne (by omega)))
          refine ok_top e29 ?_
          refine ok_iast (pc := 100) dX12_anew_100 sh_146 (Nat.le_of_ble_eq_true rfl) rfl h20 h21 (e29 ▸ hw26 _ _) ?_
          refine ok_aload_n 1 (pc := 101) dX12_anew_101 rfl rfl ?_
          refine ok_dup (pc := 102) dX12_anew_102 rfl ?_
          refine ok_wf (fun hw31 => ?_)
          refine ok_getI (pc := 103) dX12_anew_103 fl_X12_271 sh_122 (Nat.le_of_ble_eq_true rfl) rfl rfl ?_
          have e32 : ((mset (mset (mset (mset σ11 138 (((4 * p1) + p2).toNat) p3) 144 ((σ11 122 33).toNat) ((4 * p1) + p2)) 145 ((σ11 122 33).toNat) p3) 146 ((σ11 122 33).toNat) (σ11 122 0)) 122 33) = (σ11 122 33) := (mset_ne (by omega)).trans ((mset_ne (by omega)).trans ((mset_ne (by omega)).trans (mset_ne (by omega))))
          refine ok_top e32 ?_
          refine ok_iconst (pc := 106) dX12_anew_106 ?_
          refine ok_iadd (pc := 107) dX12_anew_107 ?_
          obtain ⟨h34, h⟩ := h
          refine ok_putI (pc := 108) dX12_anew_108 fl_X12_271 fp_X12_33 sh_122 (Nat.le_of_ble_eq_true rfl) rfl rfl h34 rfl rfl ?_
          refine ok_aload_n 1 (pc := 111) dX12_anew_111 rfl rfl ?_
          refine ok_getR (pc := 112) dX12_anew_112 fl_X12_70 sh_122 (Nat.le_of_ble_eq_true rfl) rfl rfl ?_
          refine ok_iload_n 2 (pc := 115) dX12_anew_115 rfl rfl ?_
          refine ok_dup2 (pc := 116) dX12_anew_116 rfl rfl ?_
          obtain ⟨h35, h⟩ := h
          obtain ⟨h36, h⟩ := h
          refine ok_wf (fun hw37 => ?_)
          refine ok_iald (pc := 117) dX12_anew_117 sh_143 (Nat.le_of_ble_eq_true rfl) rfl h35 h36 ?_
          have e38 : ((mset (mset (mset (mset (mset σ11 138 (((4 * p1) + p2).toNat) p3) 144 ((σ11 122 33).toNat) ((4 * p1) + p2)) 145 ((σ11 122 33).toNat) p3) 146 ((σ11 122 33).toNat) (σ11 122 0)) 122 33 ((σ11 122 33) + 1)) 143 p1.toNat) = (σ11 143 p1.toNat) := (mset_ne (by omega)).trans ((mset_ne (by omega)).trans ((mset_ne (by omega)).trans ((mset_ne (by omega)).trans (mset_ne (by omega)))))
          refine ok_top e38 ?_
          refine ok_iconst (pc := 118) dX12_anew_118 ?_
          refine ok_iadd (pc := 119) dX12_anew_119 ?_
          obtain ⟨h40, h⟩ := h
          refine ok_iast (pc := 120) dX12_anew_120 sh_143 (Nat.le_of_ble_eq_true rfl) rfl h35 h36 h40 ?_
          refine ok_iload 0 (pc := 121) dX12_anew_121 rfl ?_
          exact ok_iret (pc := 123) dX12_anew_123 rfl rfl rfl (hw13 _ _) h
        · have h := iteT h q14
          refine ok_bipush (pc := 38) dX12_anew_38 rfl ?_
          exact ok_iret (pc := 40) dX12_anew_40 rfl rfl rfl (r_lit rfl) h
      · have h := iteT h q12
        refine ok_iconst (pc := 27) dX12_anew_27 ?_
        exact ok_iret (pc := 28) dX12_anew_28 rfl rfl rfl (r_lit rfl) h
theorem dX12_known_0 : decode cX12_known 0 = .ok (.aload_n 0, 1) := by decide +kernel
theorem dX12_known_1 : decode cX12_known 1 = .ok (.iload_n 1, 1) := by decide +kernel
theorem dX12_known_2 : decode cX12_known 2 = .ok (.invokevirtual 257, 3) := by decide +kernel
theorem dX12_known_5 : decode cX12_known 5 = .ok (.ifCond .eq 27, 3) := by decide +kernel
theorem dX12_known_8 : decode cX12_known 8 = .ok (.iload_n 2, 1) := by decide +kernel
theorem dX12_known_9 : decode cX12_known 9 = .ok (.i2l, 1) := by decide +kernel
theorem dX12_known_10 : decode cX12_known 10 = .ok (.lconst 0, 1) := by decide +kernel
theorem dX12_known_11 : decode cX12_known 11 = .ok (.ldc2_w 269, 3) := by decide +kernel
theorem dX12_known_14 : decode cX12_known 14 = .ok (.invokestatic 137, 3) := by decide +kernel
theorem dX12_known_17 : decode cX12_known 17 = .ok (.ifCond .eq 15, 3) := by decide +kernel
theorem dX12_known_20 : decode cX12_known 20 = .ok (.iload_n 3, 1) := by decide +kernel
theorem dX12_known_21 : decode cX12_known 21 = .ok (.i2l, 1) := by decide +kernel
theorem dX12_known_22 : decode cX12_known 22 = .ok (.lconst 0, 1) := by decide +kernel
theorem dX12_known_23 : decode cX12_known 23 = .ok (.ldc2_w 135, 3) := by decide +kernel
theorem dX12_known_26 : decode cX12_known 26 = .ok (.invokestatic 137, 3) := by decide +kernel
theorem dX12_known_29 : decode cX12_known 29 = .ok (.ifCond .ne 5, 3) := by decide +kernel
theorem dX12_known_32 : decode cX12_known 32 = .ok (.iconst (-1), 1) := by decide +kernel
theorem dX12_known_33 : decode cX12_known 33 = .ok (.ireturn, 1) := by decide +kernel
theorem dX12_known_34 : decode cX12_known 34 = .ok (.iload_n 3, 1) := by decide +kernel
theorem dX12_known_35 : decode cX12_known 35 = .ok (.aload_n 0, 1) := by decide +kernel
theorem dX12_known_36 : decode cX12_known 36 = .ok (.getfield 64, 3) := by decide +kernel
theorem dX12_known_39 : decode cX12_known 39 = .ok (.iload_n 1, 1) := by decide +kernel
theorem dX12_known_40 : decode cX12_known 40 = .ok (.iaload, 1) := by decide +kernel
theorem dX12_known_41 : decode cX12_known 41 = .ok (.if_icmp .ge 7, 3) := by decide +kernel
theorem dX12_known_44 : decode cX12_known 44 = .ok (.iconst 0, 1) := by decide +kernel
theorem dX12_known_45 : decode cX12_known 45 = .ok (.goto 13, 3) := by decide +kernel
theorem dX12_known_48 : decode cX12_known 48 = .ok (.aload_n 0, 1) := by decide +kernel
theorem dX12_known_49 : decode cX12_known 49 = .ok (.getfield 58, 3) := by decide +kernel
theorem dX12_known_52 : decode cX12_known 52 = .ok (.iconst 4, 1) := by decide +kernel
theorem dX12_known_53 : decode cX12_known 53 = .ok (.iload_n 1, 1) := by decide +kernel
theorem dX12_known_54 : decode cX12_known 54 = .ok (.imul, 1) := by decide +kernel
theorem dX12_known_55 : decode cX12_known 55 = .ok (.iload_n 2, 1) := by decide +kernel
theorem dX12_known_56 : decode cX12_known 56 = .ok (.iadd, 1) := by decide +kernel
theorem dX12_known_57 : decode cX12_known 57 = .ok (.iaload, 1) := by decide +kernel
theorem dX12_known_58 : decode cX12_known 58 = .ok (.istore 4, 2) := by decide +kernel
theorem dX12_known_60 : decode cX12_known 60 = .ok (.iconst 0, 1) := by decide +kernel
theorem dX12_known_61 : decode cX12_known 61 = .ok (.istore 5, 2) := by decide +kernel
theorem dX12_known_63 : decode cX12_known 63 = .ok (.iload 5, 2) := by decide +kernel
theorem dX12_known_65 : decode cX12_known 65 = .ok (.aload_n 0, 1) := by decide +kernel
theorem dX12_known_66 : decode cX12_known 66 = .ok (.getfield 271, 3) := by decide +kernel
theorem dX12_known_69 : decode cX12_known 69 = .ok (.if_icmp .ge 49, 3) := by decide +kernel
theorem dX12_known_72 : decode cX12_known 72 = .ok (.aload_n 0, 1) := by decide +kernel
theorem dX12_known_73 : decode cX12_known 73 = .ok (.getfield 73, 3) := by decide +kernel
theorem dX12_known_76 : decode cX12_known 76 = .ok (.iload 5, 2) := by decide +kernel
theorem dX12_known_78 : decode cX12_known 78 = .ok (.iaload, 1) := by decide +kernel
theorem dX12_known_79 : decode cX12_known 79 = .ok (.iconst 4, 1) := by decide +kernel
theorem dX12_known_80 : decode cX12_known 80 = .ok (.iload_n 1, 1) := by decide +kernel
theorem dX12_known_81 : decode cX12_known 81 = .ok (.imul, 1) := by decide +kernel
theorem dX12_known_82 : decode cX12_known 82 = .ok (.iload_n 2, 1) := by decide +kernel
theorem dX12_known_83 : decode cX12_known 83 = .ok (.iadd, 1) := by decide +kernel
theorem dX12_known_84 : decode cX12_known 84 = .ok (.if_icmp .ne 24, 3) := by decide +kernel
theorem dX12_known_87 : decode cX12_known 87 = .ok (.aload_n 0, 1) := by decide +kernel
theorem dX12_known_88 : decode cX12_known 88 = .ok (.getfield 79, 3) := by decide +kernel
theorem dX12_known_91 : decode cX12_known 91 = .ok (.iload 5, 2) := by decide +kernel
theorem dX12_known_93 : decode cX12_known 93 = .ok (.iaload, 1) := by decide +kernel
theorem dX12_known_94 : decode cX12_known 94 = .ok (.iload_n 3, 1) := by decide +kernel
theorem dX12_known_95 : decode cX12_known 95 = .ok (.if_icmp .gt 13, 3) := by decide +kernel
theorem dX12_known_98 : decode cX12_known 98 = .ok (.aload_n 0, 1) := by decide +kernel
theorem dX12_known_99 : decode cX12_known 99 = .ok (.getfield 76, 3) := by decide +kernel
theorem dX12_known_102 : decode cX12_known 102 = .ok (.iload 5, 2) := by decide +kernel
theorem dX12_known_104 : decode cX12_known 104 = .ok (.iaload, 1) := by decide +kernel
theorem dX12_known_105 : decode cX12_known 105 = .ok (.goto 5, 3) := by decide +kernel
theorem dX12_known_108 : decode cX12_known 108 = .ok (.iload 4, 2) := by decide +kernel
theorem dX12_known_110 : decode cX12_known 110 = .ok (.istore 4, 2) := by decide +kernel
theorem dX12_known_112 : decode cX12_known 112 = .ok (.iinc 5 1, 3) := by decide +kernel
theorem dX12_known_115 : decode cX12_known 115 = .ok (.goto (-52), 3) := by decide +kernel
theorem dX12_known_118 : decode cX12_known 118 = .ok (.iload 4, 2) := by decide +kernel
theorem dX12_known_120 : decode cX12_known 120 = .ok (.ireturn, 1) := by decide +kernel
set_option maxRecDepth 100000 in
set_option maxHeartbeats 4000000 in
theorem w_X12_known_63 (X : XE) (p1 : Int) (p2 : Int) (p3 : Int) (hp1 : inR p1) (hp2 : inR p2) (hp3 : inR p3) {Q : Int → Mem → Prop} : ∀ (n : Nat) (x4 : Int) (x5 : Int) (σ : Mem), inR x4 → inR x5 → l_X12_known_63 p1 p2 p3 Q n x4 x5 σ → ok X rm_X12_known RX12 cX12_known 6 (some .int) 1 Q 63 [(0, .ref (xad X 122)), (1, vI p1), (2, vI p2), (3, vI p3), (4, vI x4), (5, vI x5)] [] σ := by
  intro n
  induction n with
  | zero => intro x4 x5 σ hx4 hx5 h; exact False.elim h
  | succ n ih =>
    intro x4 x5 σ hx4 hx5 h
    refine ok_iload 5 (pc := 63) dX12_known_63 rfl ?_
    refine ok_aload_n 0 (pc := 65) dX12_known_65 rfl rfl ?_
    refine ok_wf (fun hw1 => ?_)
    refine ok_getI (pc := 66) dX12_known_66 fl_X12_271 sh_122 (Nat.le_of_ble_eq_true rfl) rfl rfl ?_
    refine ok_icmp_ge (tgt := 118) (pc := 69) dX12_known_69 rfl hx5 (hw1 _ _) (fun q2 => ?_) (fun q2 => ?_)
    · have h := iteF h q2
      refine ok_iload 4 (pc := 118) dX12_known_118 rfl ?_
      exact ok_iret (pc := 120) dX12_known_120 rfl rfl rfl hx4 h
    · have h := iteT h q2
      refine ok_aload_n 0 (pc := 72) dX12_known_72 rfl rfl ?_
      refine ok_getR (pc := 73) dX12_known_73 fl_X12_73 sh_122 (Nat.le_of_ble_eq_true rfl) rfl rfl ?_
      refine ok_iload 5 (pc := 76) dX12_known_76 rfl ?_
      obtain ⟨h3, h⟩ := h
      obtain ⟨h4, h⟩ := h
      refine ok_iald (pc := 78) dX12_known_78 sh_144 (Nat.le_of_ble_eq_true rfl) rfl h3 h4 ?_
      refine ok_iconst (pc := 79) dX12_known_79 ?_
      refine ok_iload_n 1 (pc := 80) dX12_known_80 rfl rfl ?_
      refine ok_imul (pc := 81) dX12_known_81 ?_
      refine ok_iload_n 2 (pc := 82) dX12_known_82 rfl rfl ?_
      refine ok_iadd (pc := 83) dX12_known_83 ?_
      obtain ⟨h5, h⟩ := h
      refine ok_icmp_ne (tgt := 108) (pc := 84) dX12_known_84 rfl (hw1 _ _) h5 (fun q6 => ?_) (fun q6 => ?_)
      · have h := iteF h q6
        refine ok_iload 4 (pc := 108) dX12_known_108 rfl ?_
        refine ok_istore (L' := [(4, vI x4), (0, .ref (xad X 122)), (1, vI p1), (2, vI p2), (3, vI p3), (5, vI x5)]) (pc := 110) dX12_known_110 rfl rfl ?_
        refine ok_iinc (L' := [(5, vI (x5 + 1)), (4, vI x4), (0, .ref (xad X 122)), (1, vI p1), (2, vI p2), (3, vI p3)]) 5 (pc := 112) dX12_known_112 rfl rfl rfl ?_
        refine ok_goto (tgt := 63) (pc := 115) dX12_known_115 rfl ?_
        obtain ⟨h7, h⟩ := h
        refine ok_sub (L' := [(0, .ref (xad X 122)), (1, vI p1), (2, vI p2), (3, vI p3), (4, vI x4), (5, vI (x5 + 1))]) [2,3,4,5,1,0] rfl ?_
        exact ih x4 (x5 + 1) σ hx4 h7 h
      · have h := iteT h q6
        refine ok_aload_n 0 (pc := 87) dX12_known_87 rfl rfl ?_
        refine ok_getR (pc := 88) dX12_known_88 fl_X12_79 sh_122 (Nat.le_of_ble_eq_true rfl) rfl rfl ?_
        refine ok_iload 5 (pc := 91) dX12_known_91 rfl ?_
        refine ok_iald (pc := 93) dX12_known_93 sh_146 (Nat.le_of_ble_eq_true rfl) rfl h3 h4 ?_
        refine ok_iload_n 3 (pc := 94) dX12_known_94 rfl rfl ?_
        refine ok_icmp_gt (tgt := 108) (pc := 95) dX12_known_95 rfl (hw1 _ _) hp3 (fun q8 => ?_) (fun q8 => ?_)
        · have h := iteT h q8
          refine ok_iload 4 (pc := 108) dX12_known_108 rfl ?_
          refine ok_istore (L' := [(4, vI x4), (0, .ref (xad X 122)), (1, vI p1), (2, vI p2), (3, vI p3), (5, vI x5)]) (pc := 110) dX12_known_110 rfl rfl ?_
          refine ok_iinc (L' := [(5, vI (x5 + 1)), (4, vI x4), (0, .ref (xad X 122)), (1, vI p1), (2, vI p2), (3, vI p3)]) 5 (pc := 112) dX12_known_112 rfl rfl rfl ?_
          refine ok_goto (tgt := 63) (pc := 115) dX12_known_115 rfl ?_
          obtain ⟨h9, h⟩ := h
          refine ok_sub (L' := [(0, .ref (xad X 122)), (1, vI p1), (2, vI p2), (3, vI p3), (4, vI x4), (5, vI (x5 + 1))]) [2,3,4,5,1,0] rfl ?_
          exact ih x4 (x5 + 1) σ hx4 h9 h
        · have h := iteF h q8
          refine ok_aload_n 0 (pc := 98) dX12_known_98 rfl rfl ?_
          refine ok_getR (pc := 99) dX12_known_99 fl_X12_76 sh_122 (Nat.le_of_ble_eq_true rfl) rfl rfl ?_
          refine ok_iload 5 (pc := 102) dX12_known_102 rfl ?_
          refine ok_iald (pc := 104) dX12_known_104 sh_145 (Nat.le_of_ble_eq_true rfl) rfl h3 h4 ?_
          refine ok_goto (tgt := 110) (pc := 105) dX12_known_105 rfl ?_
          refine ok_istore (L' := [(4, vI (σ 145 x5.toNat)), (0, .ref (xad X 122)), (1, vI p1), (2, vI p2), (3, vI p3), (5, vI x5)]) (pc := 110) dX12_known_110 rfl rfl ?_
          refine ok_iinc (L' := [(5, vI (x5 + 1)), (4, vI (σ 145 x5.toNat)), (0, .ref (xad X 122)), (1, vI p1), (2, vI p2), (3, vI p3)]) 5 (pc := 112) dX12_known_112 rfl rfl rfl ?_
          refine ok_goto (tgt := 63) (pc := 115) dX12_known_115 rfl ?_
          obtain ⟨h10, h⟩ := h
          refine ok_sub (L' := [(0, .ref (xad X 122)), (1, vI p1), (2, vI p2), (3, vI p3), (4, vI (σ 145 x5.toNat)), (5, vI (x5 + 1))]) [2,3,4,5,1,0] rfl ?_
          exact ih (σ 145 x5.toNat) (x5 + 1) σ (hw1 _ _) h10 h
set_option maxRecDepth 100000 in
set_option maxHeartbeats 4000000 in
theorem c_X12_known (X : XE) (p1 : Int) (p2 : Int) (p3 : Int) (hp1 : inR p1) (hp2 : inR p2) (hp3 : inR p3) {σ : Mem} {Q : Int → Mem → Prop} (h : v_X12_known p1 p2 p3 σ Q) : CT X yX12_known cX12_known 6 (some .int) rm_X12_known 1 [.ref (xad X 122), vI p1, vI p2, vI p3] σ Q := by
  refine ct_of (own := RX12) (L := [(0, .ref (xad X 122)), (1, vI p1), (2, vI p2), (3, vI p3)]) rfl rfl (Nat.le_of_ble_eq_true rfl) rfl ?_
  refine ok_aload_n 0 (pc := 0) dX12_known_0 rfl rfl ?_
  refine ok_iload_n 1 (pc := 1) dX12_known_1 rfl rfl ?_
  refine ok_callVi (As := [vI p1]) (rest := []) (rm := rm_X12_isCard) (pc := 2) dX12_known_2 me_X12_isCard ml_X12_257 (ci := 12) rfl sh_122 (Nat.le_of_ble_eq_true rfl) rfl des_X12_isCard rfl ⟨rfl, rfl, rfl, rfl⟩ rfl rfl (c_X12_isCard X p1 hp1 h) (fun r2 σ3 h1 h => ?_)
  refine ok_if_eq (tgt := 32) (pc := 5) dX12_known_5 rfl h1 (fun q4 => ?_) (fun q4 => ?_)
  · have h := iteT h q4
    refine ok_iconst (pc := 32) dX12_known_32 ?_
    exact ok_iret (pc := 33) dX12_known_33 rfl rfl rfl (r_lit rfl) h
  · have h := iteF h q4
    refine ok_iload_n 2 (pc := 8) dX12_known_8 rfl rfl ?_
    refine ok_i2l (pc := 9) dX12_known_9 hp2 ?_
    refine ok_lconst (v := 0) (pc := 10) dX12_known_10 rfl ?_
    refine ok_ldc2 (pc := 11) dX12_known_11 cn_X12_269 ?_
    refine ok_callSi (As := [vL p2, vL 0, vL 3]) (rest := []) (rm := rm_X12_in) (pc := 14) dX12_known_14 me_X12_in ml_X12_137 des_X12_in rfl ⟨rfl, rfl, rfl, rfl⟩ rfl rfl (c_X12_in X p2 0 3 (l_of_r hp2) (l_of_r (r_lit rfl)) (l_of_r (r_lit rfl)) h) (fun r6 σ7 h5 h => ?_)
    refine ok_if_eq (tgt := 32) (pc := 17) dX12_known_17 rfl h5 (fun q8 => ?_) (fun q8 => ?_)
    · have h := iteT h q8
      refine ok_iconst (pc := 32) dX12_known_32 ?_
      exact ok_iret (pc := 33) dX12_known_33 rfl rfl rfl (r_lit rfl) h
    · have h := iteF h q8
      refine ok_iload_n 3 (pc := 20) dX12_known_20 rfl rfl ?_
      refine ok_i2l (pc := 21) dX12_known_21 hp3 ?_
      refine ok_lconst (v := 0) (pc := 22) dX12_known_22 rfl ?_
      refine ok_ldc2 (pc := 23) dX12_known_23 cn_X12_135 ?_
      refine ok_callSi (As := [vL p3, vL 0, vL 9999]) (rest := []) (rm := rm_X12_in) (pc := 26) dX12_known_26 me_X12_in ml_X12_137 des_X12_in rfl ⟨rfl, rfl, rfl, rfl⟩ rfl rfl (c_X12_in X p3 0 9999 (l_of_r hp3) (l_of_r (r_lit rfl)) (l_of_r (r_lit rfl)) h) (fun r10 σ11 h9 h => ?_)
      refine ok_if_ne (tgt := 34) (pc := 29) dX12_known_29 rfl h9 (fun q12 => ?_) (fun q12 => ?_)
      · have h := iteF h q12
        refine ok_iload_n 3 (pc := 34) dX12_known_34 rfl rfl ?_
        refine ok_aload_n 0 (pc := 35) dX12_known_35 rfl rfl ?_
        refine ok_getR (pc := 36) dX12_known_36 fl_X12_64 sh_122 (Nat.le_of_ble_eq_true rfl) rfl rfl ?_
        refine ok_iload_n 1 (pc := 39) dX12_known_39 rfl rfl ?_
        obtain ⟨h13, h⟩ := h
        obtain ⟨h14, h⟩ := h
        refine ok_wf (fun hw15 => ?_)
        refine ok_iald (pc := 40) dX12_known_40 sh_141 (Nat.le_of_ble_eq_true rfl) rfl h13 h14 ?_
        refine ok_icmp_ge (tgt := 48) (pc := 41) dX12_known_41 rfl hp3 (hw15 _ _) (fun q16 => ?_) (fun q16 => ?_)
        · have h := iteF h q16
          refine ok_aload_n 0 (pc := 48) dX12_known_48 rfl rfl ?_
          refine ok_getR (pc := 49) dX12_known_49 fl_X12_58 sh_122 (Nat.le_of_ble_eq_true rfl) rfl rfl ?_
          refine ok_iconst (pc := 52) dX12_known_52 ?_
          refine ok_iload_n 1 (pc := 53) dX12_known_53 rfl rfl ?_
          refine ok_imul (pc := 54) dX12_known_54 ?_
          refine ok_iload_n 2 (pc := 55) dX12_known_55 rfl rfl ?_
          refine ok_iadd (pc := 56) dX12_known_56 ?_
          obtain ⟨h17, h⟩ := h
          obtain ⟨h18, h⟩ := h
          refine ok_iald (pc := 57) dX12_known_57 sh_139 (Nat.le_of_ble_eq_true rfl) rfl h17 h18 ?_
          refine ok_istore (L' := [(4, vI (σ11 139 ((4 * p1) + p2).toNat)), (0, .ref (xad X 122)), (1, vI p1), (2, vI p2), (3, vI p3)]) (pc := 58) dX12_known_58 rfl rfl ?_
          refine ok_iconst (pc := 60) dX12_known_60 ?_
          refine ok_istore (L' := [(5, vI 0), (4, vI (σ11 139 ((4 * p1) + p2).toNat)), (0, .ref (xad X 122)), (1, vI p1), (2, vI p2), (3, vI p3)]) (pc := 61) dX12_known_61 rfl rfl ?_
          refine ok_sub (L' := [(0, .ref (xad X 122)), (1, vI p1), (2, vI p2), (3, vI p3), (4, vI (σ11 139 ((4 * p1) + p2).toNat)), (5, vI 0)]) [2,3,4,5,1,0] rfl ?_
          obtain ⟨n19, h⟩ := h
          exact w_X12_known_63 X p1 p2 p3 hp1 hp2 hp3 n19 (σ11 139 ((4 * p1) + p2).toNat) 0 σ11 (hw15 _ _) (r_lit rfl) h
        · have h := iteT h q16
          refine ok_iconst (pc := 44) dX12_known_44 ?_
          refine ok_goto (tgt := 58) (pc := 45) dX12_known_45 rfl ?_
          refine ok_istore (L' := [(4, vI 0), (0, .ref (xad X 122)), (1, vI p1), (2, vI p2), (3, vI p3)]) (pc := 58) dX12_known_58 rfl rfl ?_
          refine ok_iconst (pc := 60) dX12_known_60 ?_
          refine ok_istore (L' := [(5, vI 0), (4, vI 0), (0, .ref (xad X 122)), (1, vI p1), (2, vI p2), (3, vI p3)]) (pc := 61) dX12_known_61 rfl rfl ?_
          refine ok_sub (L' := [(0, .ref (xad X 122)), (1, vI p1), (2, vI p2), (3, vI p3), (4, vI 0), (5, vI 0)]) [2,3,4,5,1,0] rfl ?_
          obtain ⟨n20, h⟩ := h
          exact w_X12_known_63 X p1 p2 p3 hp1 hp2 hp3 n20 0 0 σ11 (r_lit rfl) (r_lit rfl) h
      · have h := iteT h q12
        refine ok_iconst (pc := 32) dX12_known_32 ?_
        exact ok_iret (pc := 33) dX12_known_33 rfl rfl rfl (r_lit rfl) h
theorem dX12_file_0 : decode cX12_file 0 = .ok (.aload_n 0, 1) := by decide +kernel
theorem dX12_file_1 : decode cX12_file 1 = .ok (.iload_n 1, 1) := by decide +kernel
theorem dX12_file_2 : decode cX12_file 2 = .ok (.invokevirtual 257, 3) := by decide +kernel
theorem dX12_file_5 : decode cX12_file 5 = .ok (.ifCond .ne 5, 3) := by decide +kernel
theorem dX12_file_8 : decode cX12_file 8 = .ok (.iconst (-1), 1) := by decide +kernel
theorem dX12_file_9 : decode cX12_file 9 = .ok (.ireturn, 1) := by decide +kernel
theorem dX12_file_10 : decode cX12_file 10 = .ok (.aload_n 0, 1) := by decide +kernel
theorem dX12_file_11 : decode cX12_file 11 = .ok (.iload_n 1, 1) := by decide +kernel
theorem dX12_file_12 : decode cX12_file 12 = .ok (.invokevirtual 260, 3) := by decide +kernel
theorem dX12_file_15 : decode cX12_file 15 = .ok (.ifCond .eq 6, 3) := by decide +kernel
theorem dX12_file_18 : decode cX12_file 18 = .ok (.bipush (-2), 2) := by decide +kernel
theorem dX12_file_20 : decode cX12_file 20 = .ok (.ireturn, 1) := by decide +kernel
theorem dX12_file_21 : decode cX12_file 21 = .ok (.aload_n 0, 1) := by decide +kernel
theorem dX12_file_22 : decode cX12_file 22 = .ok (.getfield 67, 3) := by decide +kernel
theorem dX12_file_25 : decode cX12_file 25 = .ok (.iload_n 1, 1) := by decide +kernel
theorem dX12_file_26 : decode cX12_file 26 = .ok (.iaload, 1) := by decide +kernel
theorem dX12_file_27 : decode cX12_file 27 = .ok (.istore_n 2, 1) := by decide +kernel
theorem dX12_file_28 : decode cX12_file 28 = .ok (.aload_n 0, 1) := by decide +kernel
theorem dX12_file_29 : decode cX12_file 29 = .ok (.getfield 67, 3) := by decide +kernel
theorem dX12_file_32 : decode cX12_file 32 = .ok (.iload_n 1, 1) := by decide +kernel
theorem dX12_file_33 : decode cX12_file 33 = .ok (.aload_n 0, 1) := by decide +kernel
theorem dX12_file_34 : decode cX12_file 34 = .ok (.iload_n 1, 1) := by decide +kernel
theorem dX12_file_35 : decode cX12_file 35 = .ok (.invokevirtual 240, 3) := by decide +kernel
theorem dX12_file_38 : decode cX12_file 38 = .ok (.iastore, 1) := by decide +kernel
theorem dX12_file_39 : decode cX12_file 39 = .ok (.iload_n 2, 1) := by decide +kernel
theorem dX12_file_40 : decode cX12_file 40 = .ok (.ireturn, 1) := by decide +kernel
set_option maxRecDepth 100000 in
set_option maxHeartbeats 4000000 in
theorem c_X12_file (X : XE) (p1 : Int) (hp1 : inR p1) {σ : Mem} {Q : Int → Mem → Prop} (h : v_X12_file p1 σ Q) : CT X yX12_file cX12_file 3 (some .int) rm_X12_file 1 [.ref (xad X 122), vI p1] σ Q := by
  refine ct_of (own := RX12) (L := [(0, .ref (xad X 122)), (1, vI p1)]) rfl rfl (Nat.le_of_ble_eq_true rfl) rfl ?_
  refine ok_aload_n 0 (pc := 0) dX12_file_0 rfl rfl ?_
  refine ok_iload_n 1 (pc := 1) dX12_file_1 rfl rfl ?_
  refine ok_callVi (As := [vI p1]) (rest := []) (rm := rm_X12_isCard) (pc := 2) dX12_file_2 me_X12_isCard ml_X12_257 (ci := 12) rfl sh_122 (Nat.le_of_ble_eq_true rfl) rfl des_X12_isCard rfl ⟨rfl, rfl, rfl, rfl⟩ rfl rfl (c_X12_isCard X p1 hp1 h) (fun r2 σ3 h1 h => ?_)
  refine ok_if_ne (tgt := 10) (pc := 5) dX12_file_5 rfl h1 (fun q4 => ?_) (fun q4 => ?_)
  · have h := iteF h q4
    refine ok_aload_n 0 (pc := 10) dX12_file_10 rfl rfl ?_
    refine ok_iload_n 1 (pc := 11) dX12_file_11 rfl rfl ?_
    refine ok_callVi (As := [vI p1]) (rest := []) (rm := rm_X12_isOut) (pc := 12) dX12_file_12 me_X12_isOut ml_X12_260 (ci := 12) rfl sh_122 (Nat.le_of_ble_eq_true rfl) rfl des_X12_isOut rfl ⟨rfl, rfl, rfl, rfl⟩ rfl rfl (c_X12_isOut X p1 hp1 h) (fun r6 σ7 h5 h => ?_)
    refine ok_if_eq (tgt := 21) (pc := 15) dX12_file_15 rfl h5 (fun q8 => ?_) (fun q8 => ?_)
    · have h := iteT h q8
      refine ok_aload_n 0 (pc := 21) dX12_file_21 rfl rfl ?_
      refine ok_getR (pc := 22) dX12_file_22 fl_X12_67 sh_122 (Nat.le_of_ble_eq_true rfl) rfl rfl ?_
      refine ok_iload_n 1 (pc := 25) dX12_file_25 rfl rfl ?_
      obtain ⟨h9, h⟩ := h
      obtain ⟨h10, h⟩ := h
      refine ok_wf (fun hw11 => ?_)
      refine ok_iald (pc := 26) dX12_file_26 sh_142 (Nat.le_of_ble_eq_true rfl) rfl h9 h10 ?_
      refine ok_istore_n (L' := [(2, vI (σ7 142 p1.toNat)), (0, .ref (xad X 122)), (1, vI p1)]) (pc := 27) dX12_file_27 rfl rfl rfl ?_
      refine ok_aload_n 1 (pc := 28) dX12_file_28 rfl rfl ?_
      refine ok_getR (pc := 29) dX12_file_29 fl_X12_67 sh_122 (Nat.le_of_ble_eq_true rfl) rfl rfl ?_
      refine ok_iload_n 2 (pc := 32) dX12_file_32 rfl rfl ?_
      refine ok_aload_n 1 (pc := 33) dX12_file_33 rfl rfl ?_
      refine ok_iload_n 2 (pc := 34) dX12_file_34 rfl rfl ?_
      refine ok_callVi (As := [vI p1]) (rest := [vI p1, .ref (xad X 142)]) (rm := rm_X12_drawerOf) (pc := 35) dX12_file_35 me_X12_drawerOf ml_X12_240 (ci := 12) rfl sh_122 (Nat.le_of_ble_eq_true rfl) rfl des_X12_drawerOf rfl ⟨rfl, rfl, rfl, rfl⟩ rfl rfl (c_X12_drawerOf X p1 hp1 h) (fun r13 σ14 h12 h => ?_)
      refine ok_iast (pc := 38) dX12_file_38 sh_142 (Nat.le_of_ble_eq_true rfl) rfl h9 h10 h12 ?_
      refine ok_iload_n 0 (pc := 39) dX12_file_39 rfl rfl ?_
      exact ok_iret (pc := 40) dX12_file_40 rfl rfl rfl (hw11 _ _) h
    · have h := iteF h q8
      refine ok_bipush (pc := 18) dX12_file_18 rfl ?_
      exact ok_iret (pc := 20) dX12_file_20 rfl rfl rfl (r_lit rfl) h
  · have h := iteT h q4
    refine ok_iconst (pc := 8) dX12_file_8 ?_
    exact ok_iret (pc := 9) dX12_file_9 rfl rfl rfl (r_lit rfl) h
theorem dX12_out_0 : decode cX12_out 0 = .ok (.aload_n 0, 1) := by decide +kernel
theorem dX12_out_1 : decode cX12_out 1 = .ok (.iload_n 1, 1) := by decide +kernel
theorem dX12_out_2 : decode cX12_out 2 = .ok (.invokevirtual 257, 3) := by decide +kernel
theorem dX12_out_5 : decode cX12_out 5 = .ok (.ifCond .ne 5, 3) := by decide +kernel
theorem dX12_out_8 : decode cX12_out 8 = .ok (.iconst (-1), 1) := by decide +kernel
theorem dX12_out_9 : decode cX12_out 9 = .ok (.ireturn, 1) := by decide +kernel
theorem dX12_out_10 : decode cX12_out 10 = .ok (.aload_n 0, 1) := by decide +kernel
theorem dX12_out_11 : decode cX12_out 11 = .ok (.iload_n 1, 1) := by decide +kernel
theorem dX12_out_12 : decode cX12_out 12 = .ok (.invokevirtual 260, 3) := by decide +kernel
theorem dX12_out_15 : decode cX12_out 15 = .ok (.ifCond .ne 11, 3) := by decide +kernel
theorem dX12_out_18 : decode cX12_out 18 = .ok (.aload_n 0, 1) := by decide +kernel
theorem dX12_out_19 : decode cX12_out 19 = .ok (.iload_n 1, 1) := by decide +kernel
theorem dX12_out_20 : decode cX12_out 20 = .ok (.invokevirtual 263, 3) := by decide +kernel
theorem dX12_out_23 : decode cX12_out 23 = .ok (.ifCond .ne 6, 3) := by decide +kernel
theorem dX12_out_26 : decode cX12_out 26 = .ok (.bipush (-2), 2) := by decide +kernel
theorem dX12_out_28 : decode cX12_out 28 = .ok (.ireturn, 1) := by decide +kernel
theorem dX12_out_29 : decode cX12_out 29 = .ok (.aload_n 0, 1) := by decide +kernel
theorem dX12_out_30 : decode cX12_out 30 = .ok (.getfield 67, 3) := by decide +kernel
theorem dX12_out_33 : decode cX12_out 33 = .ok (.iload_n 1, 1) := by decide +kernel
theorem dX12_out_34 : decode cX12_out 34 = .ok (.bipush (-4), 2) := by decide +kernel
theorem dX12_out_36 : decode cX12_out 36 = .ok (.iastore, 1) := by decide +kernel
theorem dX12_out_37 : decode cX12_out 37 = .ok (.iconst 1, 1) := by decide +kernel
theorem dX12_out_38 : decode cX12_out 38 = .ok (.ireturn, 1) := by decide +kernel
set_option maxRecDepth 100000 in
set_option maxHeartbeats 4000000 in
theorem c_X12_out (X : XE) (p1 : Int) (hp1 : inR p1) {σ : Mem} {Q : Int → Mem → Prop} (h : v_X12_out p1 σ Q) : CT X yX12_out cX12_out 2 (some .int) rm_X12_out 1 [.ref (xad X 122), vI p1] σ Q := by
  refine ct_of (own := RX12) (L := [(0, .ref (xad X 122)), (1, vI p1)]) rfl rfl (Nat.le_of_ble_eq_true rfl) rfl ?_
  refine ok_aload_n 0 (pc := 0) dX12_out_0 rfl rfl ?_
  refine ok_iload_n 1 (pc := 1) dX12_out_1 rfl rfl ?_
  refine ok_callVi (As := [vI p1]) (rest := []) (rm := rm_X12_isCard) (pc := 2) dX12_out_2 me_X12_isCard ml_X12_257 (ci := 12) rfl sh_122 (Nat.le_of_ble_eq_true rfl) rfl des_X12_isCard rfl ⟨rfl, rfl, rfl, rfl⟩ rfl rfl (c_X12_isCard X p1 hp1 h) (fun r2 σ3 h1 h => ?_)
  refine ok_if_ne (tgt := 10) (pc := 5) dX12_out_5 rfl h1 (fun q4 => ?_) (fun q4 => ?_)
  · have h := iteF h q4
    refine ok_aload_n 0 (pc := 10) dX12_out_10 rfl rfl ?_
    refine ok_iload_n 1 (pc := 11) dX12_out_11 rfl rfl ?_
    refine ok_callVi (As := [vI p1]) (rest := []) (rm := rm_X12_isOut) (pc := 12) dX12_out_12 me_X12_isOut ml_X12_260 (ci := 12) rfl sh_122 (Nat.le_of_ble_eq_true rfl) rfl des_X12_isOut rfl ⟨rfl, rfl, rfl, rfl⟩ rfl rfl (c_X12_isOut X p1 hp1 h) (fun r6 σ7 h5 h => ?_)
    refine ok_if_ne (tgt := 26) (pc := 15) dX12_out_15 rfl h5 (fun q8 => ?_) (fun q8 => ?_)
    · have h := iteF h q8
      refine ok_bipush (pc := 26) dX12_out_26 rfl ?_
      exact ok_iret (pc := 28) dX12_out_28 rfl rfl rfl (r_lit rfl) h
    · have h := iteT h q8
      refine ok_aload_n 0 (pc := 18) dX12_out_18 rfl rfl ?_
      refine ok_iload_n 1 (pc := 19) dX12_out_19 rfl rfl ?_
      refine ok_callVi (As := [vI p1]) (rest := []) (rm := rm_X12_isDue) (pc := 20) dX12_out_20 me_X12_isDue ml_X12_263 (ci := 12) rfl sh_122 (Nat.le_of_ble_eq_true rfl) rfl des_X12_isDue rfl ⟨rfl, rfl, rfl, rfl⟩ rfl rfl (c_X12_isDue X p1 hp1 h) (fun r10 σ11 h9 h => ?_)
      refine ok_if_ne (tgt := 29) (pc := 23) dX12_out_23 rfl h9 (fun q12 => ?_) (fun q12 => ?_)
      · have h := iteF h q12
        refine ok_aload_n 0 (pc := 29) dX12_out_29 rfl rfl ?_
        refine ok_getR (pc := 30) dX12_out_30 fl_X12_67 sh_122 (Nat.le_of_ble_eq_true rfl) rfl rfl ?_
        refine ok_iload_n 1 (pc := 33) dX12_out_33 rfl rfl ?_
        refine ok_bipush (pc := 34) dX12_out_34 rfl ?_
        obtain ⟨h13, h⟩ := h
        obtain ⟨h14, h⟩ := h
        refine ok_iast (pc := 36) dX12_out_36 sh_142 (Nat.le_of_ble_eq_true rfl) rfl h13 h14 (r_lit rfl) ?_
        refine ok_iconst (pc := 37) dX12_out_37 ?_
        exact ok_iret (pc := 38) dX12_out_38 rfl rfl rfl (r_lit rfl) h
      · have h := iteT h q12
        refine ok_bipush (pc := 26) dX12_out_26 rfl ?_
        exact ok_iret (pc := 28) dX12_out_28 rfl rfl rfl (r_lit rfl) h
  · have h := iteT h q4
    refine ok_iconst (pc := 8) dX12_out_8 ?_
    exact ok_iret (pc := 9) dX12_out_9 rfl rfl rfl (r_lit rfl) h
theorem dX12_drawer_0 : decode cX12_drawer 0 = .ok (.iload_n 1, 1) := by decide +kernel
theorem dX12_drawer_1 : decode cX12_drawer 1 = .ok (.i2l, 1) := by decide +kernel
theorem dX12_drawer_2 : decode cX12_drawer 2 = .ok (.lconst 0, 1) := by decide +kernel
theorem dX12_drawer_3 : decode cX12_drawer 3 = .ok (.ldc2_w 274, 3) := by decide +kernel
theorem dX12_drawer_6 : decode cX12_drawer 6 = .ok (.invokestatic 137, 3) := by decide +kernel
theorem dX12_drawer_9 : decode cX12_drawer 9 = .ok (.ifCond .eq 15, 3) := by decide +kernel
theorem dX12_drawer_12 : decode cX12_drawer 12 = .ok (.iload_n 2, 1) := by decide +kernel
theorem dX12_drawer_13 : decode cX12_drawer 13 = .ok (.i2l, 1) := by decide +kernel
theorem dX12_drawer_14 : decode cX12_drawer 14 = .ok (.lconst 0, 1) := by decide +kernel
theorem dX12_drawer_15 : decode cX12_drawer 15 = .ok (.ldc2_w 245, 3) := by decide +kernel
theorem dX12_drawer_18 : decode cX12_drawer 18 = .ok (.invokestatic 137, 3) := by decide +kernel
theorem dX12_drawer_21 : decode cX12_drawer 21 = .ok (.ifCond .ne 5, 3) := by decide +kernel
theorem dX12_drawer_24 : decode cX12_drawer 24 = .ok (.iconst (-1), 1) := by decide +kernel
theorem dX12_drawer_25 : decode cX12_drawer 25 = .ok (.ireturn, 1) := by decide +kernel
theorem dX12_drawer_26 : decode cX12_drawer 26 = .ok (.iconst 0, 1) := by decide +kernel
theorem dX12_drawer_27 : decode cX12_drawer 27 = .ok (.istore_n 3, 1) := by decide +kernel
theorem dX12_drawer_28 : decode cX12_drawer 28 = .ok (.iconst 0, 1) := by decide +kernel
theorem dX12_drawer_29 : decode cX12_drawer 29 = .ok (.istore 4, 2) := by decide +kernel
theorem dX12_drawer_31 : decode cX12_drawer 31 = .ok (.iconst 0, 1) := by decide +kernel
theorem dX12_drawer_32 : decode cX12_drawer 32 = .ok (.istore 5, 2) := by decide +kernel
theorem dX12_drawer_34 : decode cX12_drawer 34 = .ok (.iconst 0, 1) := by decide +kernel
theorem dX12_drawer_35 : decode cX12_drawer 35 = .ok (.istore 6, 2) := by decide +kernel
theorem dX12_drawer_37 : decode cX12_drawer 37 = .ok (.iload 6, 2) := by decide +kernel
theorem dX12_drawer_39 : decode cX12_drawer 39 = .ok (.aload_n 0, 1) := by decide +kernel
theorem dX12_drawer_40 : decode cX12_drawer 40 = .ok (.getfield 232, 3) := by decide +kernel
theorem dX12_drawer_43 : decode cX12_drawer 43 = .ok (.if_icmp .ge 52, 3) := by decide +kernel
theorem dX12_drawer_46 : decode cX12_drawer 46 = .ok (.aload_n 0, 1) := by decide +kernel
theorem dX12_drawer_47 : decode cX12_drawer 47 = .ok (.getfield 67, 3) := by decide +kernel
theorem dX12_drawer_50 : decode cX12_drawer 50 = .ok (.iload 6, 2) := by decide +kernel
theorem dX12_drawer_52 : decode cX12_drawer 52 = .ok (.iaload, 1) := by decide +kernel
theorem dX12_drawer_53 : decode cX12_drawer 53 = .ok (.iload_n 1, 1) := by decide +kernel
theorem dX12_drawer_54 : decode cX12_drawer 54 = .ok (.if_icmp .ne 35, 3) := by decide +kernel
theorem dX12_drawer_57 : decode cX12_drawer 57 = .ok (.iinc 3 1, 3) := by decide +kernel
theorem dX12_drawer_60 : decode cX12_drawer 60 = .ok (.iload 4, 2) := by decide +kernel
theorem dX12_drawer_62 : decode cX12_drawer 62 = .ok (.iconst 1, 1) := by decide +kernel
theorem dX12_drawer_63 : decode cX12_drawer 63 = .ok (.iload 6, 2) := by decide +kernel
theorem dX12_drawer_65 : decode cX12_drawer 65 = .ok (.ishl, 1) := by decide +kernel
theorem dX12_drawer_66 : decode cX12_drawer 66 = .ok (.ior, 1) := by decide +kernel
theorem dX12_drawer_67 : decode cX12_drawer 67 = .ok (.istore 4, 2) := by decide +kernel
theorem dX12_drawer_69 : decode cX12_drawer 69 = .ok (.iload 5, 2) := by decide +kernel
theorem dX12_drawer_71 : decode cX12_drawer 71 = .ok (.aload_n 0, 1) := by decide +kernel
theorem dX12_drawer_72 : decode cX12_drawer 72 = .ok (.iload 6, 2) := by decide +kernel
theorem dX12_drawer_74 : decode cX12_drawer 74 = .ok (.invokevirtual 240, 3) := by decide +kernel
theorem dX12_drawer_77 : decode cX12_drawer 77 = .ok (.iload_n 1, 1) := by decide +kernel
theorem dX12_drawer_78 : decode cX12_drawer 78 = .ok (.if_icmp .eq 7, 3) := by decide +kernel
theorem dX12_drawer_81 : decode cX12_drawer 81 = .ok (.iconst 1, 1) := by decide +kernel
theorem dX12_drawer_82 : decode cX12_drawer 82 = .ok (.goto 4, 3) := by decide +kernel
theorem dX12_drawer_85 : decode cX12_drawer 85 = .ok (.iconst 0, 1) := by decide +kernel
theorem dX12_drawer_86 : decode cX12_drawer 86 = .ok (.iadd, 1) := by decide +kernel
theorem dX12_drawer_87 : decode cX12_drawer 87 = .ok (.istore 5, 2) := by decide +kernel
theorem dX12_drawer_89 : decode cX12_drawer 89 = .ok (.iinc 6 1, 3) := by decide +kernel
theorem dX12_drawer_92 : decode cX12_drawer 92 = .ok (.goto (-55), 3) := by decide +kernel
theorem dX12_drawer_95 : decode cX12_drawer 95 = .ok (.iload_n 2, 1) := by decide +kernel
theorem dX12_drawer_96 : decode cX12_drawer 96 = .ok (.ifCond .ne 7, 3) := by decide +kernel
theorem dX12_drawer_99 : decode cX12_drawer 99 = .ok (.iload_n 3, 1) := by decide +kernel
theorem dX12_drawer_100 : decode cX12_drawer 100 = .ok (.goto 15, 3) := by decide +kernel
theorem dX12_drawer_103 : decode cX12_drawer 103 = .ok (.iload_n 2, 1) := by decide +kernel
theorem dX12_drawer_104 : decode cX12_drawer 104 = .ok (.iconst 1, 1) := by decide +kernel
theorem dX12_drawer_105 : decode cX12_drawer 105 = .ok (.if_icmp .ne 8, 3) := by decide +kernel
theorem dX12_drawer_108 : decode cX12_drawer 108 = .ok (.iload 4, 2) := by decide +kernel
theorem dX12_drawer_110 : decode cX12_drawer 110 = .ok (.goto 5, 3) := by decide +kernel
theorem dX12_drawer_113 : decode cX12_drawer 113 = .ok (.iload 5, 2) := by decide +kernel
theorem dX12_drawer_115 : decode cX12_drawer 115 = .ok (.ireturn, 1) := by decide +kernel
set_option maxRecDepth 100000 in
set_option maxHeartbeats 4000000 in
theorem w_X12_drawer_37 (X : XE) (p1 : Int) (p2 : Int) (hp1 : inR p1) (hp2 : inR p2) {Q : Int → Mem → Prop} : ∀ (n : Nat) (x3 : Int) (x4 : Int) (x5 : Int) (x6 : Int) (σ : Mem), inR x3 → inR x4 → inR x5 → inR x6 → l_X12_drawer_37 p1 p2 Q n x3 x4 x5 x6 σ → ok X rm_X12_drawer RX12 cX12_drawer 7 (some .int) 1 Q 37 [(0, .ref (xad X 122)), (1, vI p1), (2, vI p2), (3, vI x3), (4, vI x4), (5, vI x5), (6, vI x6)] [] σ := by
  intro n
  induction n with
  | zero => intro x3 x4 x5 x6 σ hx3 hx4 hx5 hx6 h; exact False.elim h
  | succ n ih =>
    intro x3 x4 x5 x6 σ hx3 hx4 hx5 hx6 h
    refine ok_iload 6 (pc := 37) dX12_drawer_37 rfl ?_
    refine ok_aload_n 0 (pc := 39) dX12_drawer_39 rfl rfl ?_
    refine ok_wf (fun hw1 => ?_)
    refine ok_getI (pc := 40) dX12_drawer_40 fl_X12_232 sh_122 (Nat.le_of_ble_eq_true rfl) rfl rfl ?_
    refine ok_icmp_ge (tgt := 95) (pc := 43) dX12_drawer_43 rfl hx6 (hw1 _ _) (fun q2 => ?_) (fun q2 => ?_)
    · have h := iteF h q2
      refine ok_iload_n 2 (pc := 95) dX12_drawer_95 rfl rfl ?_
      refine ok_if_ne (tgt := 103) (pc := 96) dX12_drawer_96 rfl hp2 (fun q3 => ?_) (fun q3 => ?_)
      · have h := iteF h q3
        refine ok_iload_n 2 (pc := 103) dX12_drawer_103 rfl rfl ?_
        refine ok_iconst (pc := 104) dX12_drawer_104 ?_
        refine ok_icmp_ne (tgt := 113) (pc := 105) dX12_drawer_105 rfl hp2 (r_lit rfl) (fun q4 => ?_) (fun q4 => ?_)
        · have h := iteF h q4
          refine ok_iload 5 (pc := 113) dX12_drawer_113 rfl ?_
          exact ok_iret (pc := 115) dX12_drawer_115 rfl rfl rfl hx5 h
        · have h := iteT h q4
          refine ok_iload 4 (pc := 108) dX12_drawer_108 rfl ?_
          refine ok_goto (tgt := 115) (pc := 110) dX12_drawer_110 rfl ?_
          exact ok_iret (pc := 115) dX12_drawer_115 rfl rfl rfl hx4 h
      · have h := iteT h q3
        refine ok_iload_n 3 (pc := 99) dX12_drawer_99 rfl rfl ?_
        refine ok_goto (tgt := 115) (pc := 100) dX12_drawer_100 rfl ?_
        exact ok_iret (pc := 115) dX12_drawer_115 rfl rfl rfl hx3 h
    · have h := iteT h q2
      refine ok_aload_n 0 (pc := 46) dX12_drawer_46 rfl rfl ?_
      refine ok_getR (pc := 47) dX12_drawer_47 fl_X12_67 sh_122 (Nat.le_of_ble_eq_true rfl) rfl rfl ?_
      refine ok_iload 6 (pc := 50) dX12_drawer_50 rfl ?_
      obtain ⟨h5, h⟩ := h
      obtain ⟨h6, h⟩ := h
      refine ok_iald (pc := 52) dX12_drawer_52 sh_142 (Nat.le_of_ble_eq_true rfl) rfl h5 h6 ?_
      refine ok_iload_n 1 (pc := 53) dX12_drawer_53 rfl rfl ?_
      refine ok_icmp_ne (tgt := 89) (pc := 54) dX12_drawer_54 rfl (hw1 _ _) hp1 (fun q7 => ?_) (fun q7 => ?_)
      · have h := iteF h q7
        refine ok_iinc (L' := [(6, vI (x6 + 1)), (0, .ref (xad X 122)), (1, vI p1), (2, vI p2), (3, vI x3), (4, vI x4), (5, vI x5)]) 6 (pc := 89) dX12_drawer_89 rfl rfl rfl ?_
        refine ok_goto (tgt := 37) (pc := 92) dX12_drawer_92 rfl ?_
        obtain ⟨h8, h⟩ := h
        refine ok_sub (L' := [(0, .ref (xad X 122)), (1, vI p1), (2, vI p2), (3, vI x3), (4, vI x4), (5, vI x5), (6, vI (x6 + 1))]) [1,2,3,4,5,6,0] rfl ?_
        exact ih x3 x4 x5 (x6 + 1) σ hx3 hx4 hx5 h8 h
      · have h := iteT h q7
        refine ok_iinc (L' := [(3, vI (x3 + 1)), (0, .ref (xad X 122)), (1, vI p1), (2, vI p2), (4, vI x4), (5, vI x5), (6, vI x6)]) 3 (pc := 57) dX12_drawer_57 rfl rfl rfl ?_
        refine ok_iload 4 (pc := 60) dX12_drawer_60 rfl ?_
        refine ok_iconst (pc := 62) dX12_drawer_62 ?_
        refine ok_iload 6 (pc := 63) dX12_drawer_63 rfl ?_
        refine ok_ishl (pc := 65) dX12_drawer_65 ?_
        refine ok_ior (pc := 66) dX12_drawer_66 ?_
        refine ok_istore (L' := [(4, vI (ior x4 (ishl 1 x6))), (3, vI (x3 + 1)), (0, .ref (xad X 122)), (1, vI p1), (2, vI p2), (5, vI x5), (6, vI x6)]) (pc := 67) dX12_drawer_67 rfl rfl ?_
        refine ok_iload 5 (pc := 69) dX12_drawer_69 rfl ?_
        refine ok_aload_n 2 (pc := 71) dX12_drawer_71 rfl rfl ?_
        refine ok_iload 6 (pc := 72) dX12_drawer_72 rfl ?_
        refine ok_callVi (As := [vI x6]) (rest := [vI x5]) (rm := rm_X12_drawerOf) (pc := 74) dX12_drawer_74 me_X12_drawerOf ml_X12_240 (ci := 12) rfl sh_122 (Nat.le_of_ble_eq_true rfl) rfl des_X12_drawerOf rfl ⟨rfl, rfl, rfl, rfl⟩ rfl rfl (c_X12_drawerOf X x6 hx6 h) (fun r10 σ11 h9 h => ?_)
        refine ok_iload_n 3 (pc := 77) dX12_drawer_77 rfl rfl ?_
        refine ok_icmp_eq (tgt := 85) (pc := 78) dX12_drawer_78 rfl h9 hp1 (fun q12 => ?_) (fun q12 => ?_)
        · have h := iteT h q12
          refine ok_iconst (pc := 85) dX12_drawer_85 ?_
          refine ok_iadd (pc := 86) dX12_drawer_86 ?_
          refine ok_istore (L' := [(5, vI (x5 + 0)), (4, vI (ior x4 (ishl 1 x6))), (3, vI (x3 + 1)), (0, .ref (xad X 122)), (1, vI p1), (2, vI p2), (6, vI x6)]) (pc := 87) dX12_drawer_87 rfl rfl ?_
          refine ok_iinc (L' := [(6, vI (x6 + 1)), (5, vI (x5 + 0)), (4, vI (ior x4 (ishl 1 x6))), (3, vI (x3 + 1)), (0, .ref (xad X 122)), (1, vI p1), (2, vI p2)]) 6 (pc := 89) dX12_drawer_89 rfl rfl rfl ?_
          refine ok_goto (tgt := 37) (pc := 92) dX12_drawer_92 rfl ?_
          obtain ⟨h13, h⟩ := h
          obtain ⟨h14, h⟩ := h
          obtain ⟨h15, h⟩ := h
          refine ok_sub (L' := [(0, .ref (xad X 122)), (1, vI p1), (2, vI p2), (3, vI (x3 + 1)), (4, vI (ior x4 (ishl 1 x6))), (5, vI (x5 + 0)), (6, vI (x6 + 1))]) [4,5,6,3,2,1,0] rfl ?_
          exact ih (x3 + 1) (ior x4 (ishl 1 x6)) (x5 + 0) (x6 + 1) σ11 h13 (q_rng _) h14 h15 h
        · have h := iteF h q12
          refine ok_iconst (pc := 81) dX12_drawer_81 ?_
          refine ok_goto (tgt := 86) (pc := 82) dX12_drawer_82 rfl ?_
          refine ok_iadd (pc := 86) dX12_drawer_86 ?_
          refine ok_istore (L' := [(5, vI (x5 + 1)), (4, vI (ior x4 (ishl 1 x6))), (3, vI (x3 + 1)), (0, .ref (xad X 122)), (1, vI p1), (2, vI p2), (6, vI x6)]) (pc := 87) dX12_drawer_87 rfl rfl ?_
          refine ok_iinc (L' := [(6, vI (x6 + 1)), (5, vI (x5 + 1)), (4, vI (ior x4 (ishl 1 x6))), (3, vI (x3 + 1)), (0, .ref (xad X 122)), (1, vI p1), (2, vI p2)]) 6 (pc := 89) dX12_drawer_89 rfl rfl rfl ?_
          refine ok_goto (tgt := 37) (pc := 92) dX12_drawer_92 rfl ?_
          obtain ⟨h16, h⟩ := h
          obtain ⟨h17, h⟩ := h
          obtain ⟨h18, h⟩ := h
          refine ok_sub (L' := [(0, .ref (xad X 122)), (1, vI p1), (2, vI p2), (3, vI (x3 + 1)), (4, vI (ior x4 (ishl 1 x6))), (5, vI (x5 + 1)), (6, vI (x6 + 1))]) [4,5,6,3,2,1,0] rfl ?_
          exact ih (x3 + 1) (ior x4 (ishl 1 x6)) (x5 + 1) (x6 + 1) σ11 h16 (q_rng _) h17 h18 h
set_option maxRecDepth 100000 in
set_option maxHeartbeats 4000000 in
theorem c_X12_drawer (X : XE) (p1 : Int) (p2 : Int) (hp1 : inR p1) (hp2 : inR p2) {σ : Mem} {Q : Int → Mem → Prop} (h : v_X12_drawer p1 p2 σ Q) : CT X yX12_drawer cX12_drawer 7 (some .int) rm_X12_drawer 1 [.ref (xad X 122), vI p1, vI p2] σ Q := by
  refine ct_of (own := RX12) (L := [(0, .ref (xad X 122)), (1, vI p1), (2, vI p2)]) rfl rfl (Nat.le_of_ble_eq_true rfl) rfl ?_
  refine ok_iload_n 1 (pc := 0) dX12_drawer_0 rfl rfl ?_
  refine ok_i2l (pc := 1) dX12_drawer_1 hp1 ?_
  refine ok_lconst (v := 0) (pc := 2) dX12_drawer_2 rfl ?_
  refine ok_ldc2 (pc := 3) dX12_drawer_3 cn_X12_274 ?_
  refine ok_callSi (As := [vL p1, vL 0, vL 26]) (rest := []) (rm := rm_X12_in) (pc := 6) dX12_drawer_6 me_X12_in ml_X12_137 des_X12_in rfl ⟨rfl, rfl, rfl, rfl⟩ rfl rfl (c_X12_in X p1 0 26 (l_of_r hp1) (l_of_r (r_lit rfl)) (l_of_r (r_lit rfl)) h) (fun r2 σ3 h1 h => ?_)
  refine ok_if_eq (tgt := 24) (pc := 9) dX12_drawer_9 rfl h1 (fun q4 => ?_) (fun q4 => ?_)
  · have h := iteT h q4
    refine ok_iconst (pc := 24) dX12_drawer_24 ?_
    exact ok_iret (pc := 25) dX12_drawer_25 rfl rfl rfl (r_lit rfl) h
  · have h := iteF h q4
    refine ok_iload_n 2 (pc := 12) dX12_drawer_12 rfl rfl ?_
    refine ok_i2l (pc := 13) dX12_drawer_13 hp2 ?_
    refine ok_lconst (v := 0) (pc := 14) dX12_drawer_14 rfl ?_
    refine ok_ldc2 (pc := 15) dX12_drawer_15 cn_X12_245 ?_
    refine ok_callSi (As := [vL p2, vL 0, vL 2]) (rest := []) (rm := rm_X12_in) (pc := 18) dX12_drawer_18 me_X12_in ml_X12_137 des_X12_in rfl ⟨rfl, rfl, rfl, rfl⟩ rfl rfl (c_X12_in X p2 0 2 (l_of_r hp2) (l_of_r (r_lit rfl)) (l_of_r (r_lit rfl)) h) (fun r6 σ7 h5 h => ?_)
    refine ok_if_ne (tgt := 26) (pc := 21) dX12_drawer_21 rfl h5 (fun q8 => ?_) (fun q8 => ?_)
    · have h := iteF h q8
      refine ok_iconst (pc := 26) dX12_drawer_26 ?_
      refine ok_istore_n (L' := [(3, vI 0), (0, .ref (xad X 122)), (1, vI p1), (2, vI p2)]) (pc := 27) dX12_drawer_27 rfl rfl rfl ?_
      refine ok_iconst (pc := 28) dX12_drawer_28 ?_
      refine ok_istore (L' := [(4, vI 0), (3, vI 0), (0, .ref (xad X 122)), (1, vI p1), (2, vI p2)]) (pc := 29) dX12_drawer_29 rfl rfl ?_
      refine ok_iconst (pc := 31) dX12_drawer_31 ?_
      refine ok_istore (L' := [(5, vI 0), (4, vI 0), (3, vI 0), (0, .ref (xad X 122)), (1, vI p1), (2, vI p2)]) (pc := 32) dX12_drawer_32 rfl rfl ?_
      refine ok_iconst (pc := 34) dX12_drawer_34 ?_
      refine ok_istore (L' := [(6, vI 0), (5, vI 0), (4, vI 0), (3, vI 0), (0, .ref (xad X 122)), (1, vI p1), (2, vI p2)]) (pc := 35) dX12_drawer_35 rfl rfl ?_
      refine ok_sub (L' := [(0, .ref (xad X 122)), (1, vI p1), (2, vI p2), (3, vI 0), (4, vI 0), (5, vI 0), (6, vI 0)]) [4,5,6,3,2,1,0] rfl ?_
      obtain ⟨n9, h⟩ := h
      exact w_X12_drawer_37 X p1 p2 hp1 hp2 n9 0 0 0 0 σ7 (r_lit rfl) (r_lit rfl) (r_lit rfl) (r_lit rfl) h
    · have h := iteT h q8
      refine ok_iconst (pc := 24) dX12_drawer_24 ?_
      exact ok_iret (pc := 25) dX12_drawer_25 rfl rfl rfl (r_lit rfl) h
theorem dX12_tell_0 : decode cX12_tell 0 = .ok (.iload_n 1, 1) := by decide +kernel
theorem dX12_tell_1 : decode cX12_tell 1 = .ok (.i2l, 1) := by decide +kernel
theorem dX12_tell_2 : decode cX12_tell 2 = .ok (.lconst 0, 1) := by decide +kernel
theorem dX12_tell_3 : decode cX12_tell 3 = .ok (.ldc2_w 243, 3) := by decide +kernel
theorem dX12_tell_6 : decode cX12_tell 6 = .ok (.invokestatic 137, 3) := by decide +kernel
theorem dX12_tell_9 : decode cX12_tell 9 = .ok (.ifCond .eq 33, 3) := by decide +kernel
theorem dX12_tell_12 : decode cX12_tell 12 = .ok (.iload_n 2, 1) := by decide +kernel
theorem dX12_tell_13 : decode cX12_tell 13 = .ok (.invokestatic 247, 3) := by decide +kernel
theorem dX12_tell_16 : decode cX12_tell 16 = .ok (.ifCond .eq 26, 3) := by decide +kernel
theorem dX12_tell_19 : decode cX12_tell 19 = .ok (.iload_n 3, 1) := by decide +kernel
theorem dX12_tell_20 : decode cX12_tell 20 = .ok (.invokestatic 247, 3) := by decide +kernel
theorem dX12_tell_23 : decode cX12_tell 23 = .ok (.ifCond .eq 19, 3) := by decide +kernel
theorem dX12_tell_26 : decode cX12_tell 26 = .ok (.iload 4, 2) := by decide +kernel
theorem dX12_tell_28 : decode cX12_tell 28 = .ok (.invokestatic 247, 3) := by decide +kernel
theorem dX12_tell_31 : decode cX12_tell 31 = .ok (.ifCond .eq 11, 3) := by decide +kernel
theorem dX12_tell_34 : decode cX12_tell 34 = .ok (.iload 5, 2) := by decide +kernel
theorem dX12_tell_36 : decode cX12_tell 36 = .ok (.invokestatic 247, 3) := by decide +kernel
theorem dX12_tell_39 : decode cX12_tell 39 = .ok (.ifCond .ne 5, 3) := by decide +kernel
theorem dX12_tell_42 : decode cX12_tell 42 = .ok (.iconst (-1), 1) := by decide +kernel
theorem dX12_tell_43 : decode cX12_tell 43 = .ok (.ireturn, 1) := by decide +kernel
theorem dX12_tell_44 : decode cX12_tell 44 = .ok (.aload_n 0, 1) := by decide +kernel
theorem dX12_tell_45 : decode cX12_tell 45 = .ok (.iload_n 1, 1) := by decide +kernel
theorem dX12_tell_46 : decode cX12_tell 46 = .ok (.putfield 86, 3) := by decide +kernel
theorem dX12_tell_49 : decode cX12_tell 49 = .ok (.aload_n 0, 1) := by decide +kernel
theorem dX12_tell_50 : decode cX12_tell 50 = .ok (.getfield 90, 3) := by decide +kernel
theorem dX12_tell_53 : decode cX12_tell 53 = .ok (.iconst 0, 1) := by decide +kernel
theorem dX12_tell_54 : decode cX12_tell 54 = .ok (.iload_n 2, 1) := by decide +kernel
theorem dX12_tell_55 : decode cX12_tell 55 = .ok (.iastore, 1) := by decide +kernel
theorem dX12_tell_56 : decode cX12_tell 56 = .ok (.aload_n 0, 1) := by decide +kernel
theorem dX12_tell_57 : decode cX12_tell 57 = .ok (.getfield 90, 3) := by decide +kernel
theorem dX12_tell_60 : decode cX12_tell 60 = .ok (.iconst 1, 1) := by decide +kernel
theorem dX12_tell_61 : decode cX12_tell 61 = .ok (.iload_n 3, 1) := by decide +kernel
theorem dX12_tell_62 : decode cX12_tell 62 = .ok (.iastore, 1) := by decide +kernel
theorem dX12_tell_63 : decode cX12_tell 63 = .ok (.aload_n 0, 1) := by decide +kernel
theorem dX12_tell_64 : decode cX12_tell 64 = .ok (.getfield 90, 3) := by decide +kernel
theorem dX12_tell_67 : decode cX12_tell 67 = .ok (.iconst 2, 1) := by decide +kernel
theorem dX12_tell_68 : decode cX12_tell 68 = .ok (.iload 4, 2) := by decide +kernel
theorem dX12_tell_70 : decode cX12_tell 70 = .ok (.iastore, 1) := by decide +kernel
theorem dX12_tell_71 : decode cX12_tell 71 = .ok (.aload_n 0, 1) := by decide +kernel
theorem dX12_tell_72 : decode cX12_tell 72 = .ok (.getfield 90, 3) := by decide +kernel
theorem dX12_tell_75 : decode cX12_tell 75 = .ok (.iconst 3, 1) := by decide +kernel
theorem dX12_tell_76 : decode cX12_tell 76 = .ok (.iload 5, 2) := by decide +kernel
theorem dX12_tell_78 : decode cX12_tell 78 = .ok (.iastore, 1) := by decide +kernel
theorem dX12_tell_79 : decode cX12_tell 79 = .ok (.bipush 9, 2) := by decide +kernel
theorem dX12_tell_81 : decode cX12_tell 81 = .ok (.aload_n 0, 1) := by decide +kernel
theorem dX12_tell_82 : decode cX12_tell 82 = .ok (.iconst 0, 1) := by decide +kernel
theorem dX12_tell_83 : decode cX12_tell 83 = .ok (.iload_n 2, 1) := by decide +kernel
theorem dX12_tell_84 : decode cX12_tell 84 = .ok (.aload_n 0, 1) := by decide +kernel
theorem dX12_tell_85 : decode cX12_tell 85 = .ok (.getfield 132, 3) := by decide +kernel
theorem dX12_tell_88 : decode cX12_tell 88 = .ok (.invokevirtual 237, 3) := by decide +kernel
theorem dX12_tell_91 : decode cX12_tell 91 = .ok (.imul, 1) := by decide +kernel
theorem dX12_tell_92 : decode cX12_tell 92 = .ok (.iconst 3, 1) := by decide +kernel
theorem dX12_tell_93 : decode cX12_tell 93 = .ok (.aload_n 0, 1) := by decide +kernel
theorem dX12_tell_94 : decode cX12_tell 94 = .ok (.iconst 1, 1) := by decide +kernel
theorem dX12_tell_95 : decode cX12_tell 95 = .ok (.iload_n 3, 1) := by decide +kernel
theorem dX12_tell_96 : decode cX12_tell 96 = .ok (.aload_n 0, 1) := by decide +kernel
theorem dX12_tell_97 : decode cX12_tell 97 = .ok (.getfield 132, 3) := by decide +kernel
theorem dX12_tell_100 : decode cX12_tell 100 = .ok (.invokevirtual 237, 3) := by decide +kernel
theorem dX12_tell_103 : decode cX12_tell 103 = .ok (.imul, 1) := by decide +kernel
theorem dX12_tell_104 : decode cX12_tell 104 = .ok (.iadd, 1) := by decide +kernel
theorem dX12_tell_105 : decode cX12_tell 105 = .ok (.aload_n 0, 1) := by decide +kernel
theorem dX12_tell_106 : decode cX12_tell 106 = .ok (.iconst 2, 1) := by decide +kernel
theorem dX12_tell_107 : decode cX12_tell 107 = .ok (.iload 4, 2) := by decide +kernel
theorem dX12_tell_109 : decode cX12_tell 109 = .ok (.aload_n 0, 1) := by decide +kernel
theorem dX12_tell_110 : decode cX12_tell 110 = .ok (.getfield 132, 3) := by decide +kernel
theorem dX12_tell_113 : decode cX12_tell 113 = .ok (.invokevirtual 237, 3) := by decide +kernel
theorem dX12_tell_116 : decode cX12_tell 116 = .ok (.iadd, 1) := by decide +kernel
theorem dX12_tell_117 : decode cX12_tell 117 = .ok (.ireturn, 1) := by decide +kernel
set_option maxRecDepth 100000 in
set_option maxHeartbeats 4000000 in
theorem c_X12_tell (X : XE) (p1 : Int) (p2 : Int) (p3 : Int) (p4 : Int) (p5 : Int) (hp1 : inR p1) (hp2 : inR p2) (hp3 : inR p3) (hp4 : inR p4) (hp5 : inR p5) {σ : Mem} {Q : Int → Mem → Prop} (h : v_X12_tell p1 p2 p3 p4 p5 σ Q) : CT X yX12_tell cX12_tell 6 (some .int) rm_X12_tell 1 [.ref (xad X 122), vI p1, vI p2, vI p3, vI p4, vI p5] σ Q := by
  refine ct_of (own := RX12) (L := [(0, .ref (xad X 122)), (1, vI p1), (2, vI p2), (3, vI p3), (4, vI p4), (5, vI p5)]) rfl rfl (Nat.le_of_ble_eq_true rfl) rfl ?_
  refine ok_iload_n 1 (pc := 0) dX12_tell_0 rfl rfl ?_
  refine ok_i2l (pc := 1) dX12_tell_1 hp1 ?_
  refine ok_lconst (v := 0) (pc := 2) dX12_tell_2 rfl ?_
  refine ok_ldc2 (pc := 3) dX12_tell_3 cn_X12_243 ?_
  refine ok_callSi (As := [vL p1, vL 0, vL 5]) (rest := []) (rm := rm_X12_in) (pc := 6) dX12_tell_6 me_X12_in ml_X12_137 des_X12_in rfl ⟨rfl, rfl, rfl, rfl⟩ rfl rfl (c_X12_in X p1 0 5 (l_of_r hp1) (l_of_r (r_lit rfl)) (l_of_r (r_lit rfl)) h) (fun r2 σ3 h1 h => ?_)
  refine ok_if_eq (tgt := 42) (pc := 9) dX12_tell_9 rfl h1 (fun q4 => ?_) (fun q4 => ?_)
  · have h := iteT h q4
    refine ok_iconst (pc := 42) dX12_tell_42 ?_
    exact ok_iret (pc := 43) dX12_tell_43 rfl rfl rfl (r_lit rfl) h
  · have h := iteF h q4
    refine ok_iload_n 2 (pc := 12) dX12_tell_12 rfl rfl ?_
    refine ok_callSi (As := [vI p2]) (rest := []) (rm := rm_X12_isMeasure) (pc := 13) dX12_tell_13 me_X12_isMeasure ml_X12_247 des_X12_isMeasure rfl ⟨rfl, rfl, rfl, rfl⟩ rfl rfl (c_X12_isMeasure X p2 hp2 h) (fun r6 σ7 h5 h => ?_)
    refine ok_if_eq (tgt := 42) (pc := 16) dX12_tell_16 rfl h5 (fun q8 => ?_) (fun q8 => ?_)
    · have h := iteT h q8
      refine ok_iconst (pc := 42) dX12_tell_42 ?_
      exact ok_iret (pc := 43) dX12_tell_43 rfl rfl rfl (r_lit rfl) h
    · have h := iteF h q8
      refine ok_iload_n 3 (pc := 19) dX12_tell_19 rfl rfl ?_
      refine ok_callSi (As := [vI p3]) (rest := []) (rm := rm_X12_isMeasure) (pc := 20) dX12_tell_20 me_X12_isMeasure ml_X12_247 des_X12_isMeasure rfl ⟨rfl, rfl, rfl, rfl⟩ rfl rfl (c_X12_isMeasure X p3 hp3 h) (fun r10 σ11 h9 h => ?_)
      refine ok_if_eq (tgt := 42) (pc := 23) dX12_tell_23 rfl h9 (fun q12 => ?_) (fun q12 => ?_)
      · have h := iteT h q12
        refine ok_iconst (pc := 42) dX12_tell_42 ?_
        exact ok_iret (pc := 43) dX12_tell_43 rfl rfl rfl (r_lit rfl) h
      · have h := iteF h q12
        refine ok_iload 4 (pc := 26) dX12_tell_26 rfl ?_
        refine ok_callSi (As := [vI p4]) (rest := []) (rm := rm_X12_isMeasure) (pc := 28) dX12_tell_28 me_X12_isMeasure ml_X12_247 des_X12_isMeasure rfl ⟨rfl, rfl, rfl, rfl⟩ rfl rfl (c_X12_isMeasure X p4 hp4 h) (fun r14 σ15 h13 h => ?_)
        refine ok_if_eq (tgt := 42) (pc := 31) dX12_tell_31 rfl h13 (fun q16 => ?_) (fun q16 => ?_)
        · have h := iteT h q16
          refine ok_iconst (pc := 42) dX12_tell_42 ?_
          exact ok_iret (pc := 43) dX12_tell_43 rfl rfl rfl (r_lit rfl) h
        · have h := iteF h q16
          refine ok_iload 5 (pc := 34) dX12_tell_34 rfl ?_
          refine ok_callSi (As := [vI p5]) (rest := []) (rm := rm_X12_isMeasure) (pc := 36) dX12_tell_36 me_X12_isMeasure ml_X12_247 des_X12_isMeasure rfl ⟨rfl, rfl, rfl, rfl⟩ rfl rfl (c_X12_isMeasure X p5 hp5 h) (fun r18 σ19 h17 h => ?_)
          refine ok_if_ne (tgt := 44) (pc := 39) dX12_tell_39 rfl h17 (fun q20 => ?_) (fun q20 => ?_)
          · have h := iteF h q20
            refine ok_aload_n 0 (pc := 44) dX12_tell_44 rfl rfl ?_
            refine ok_iload_n 1 (pc := 45) dX12_tell_45 rfl rfl ?_
            refine ok_putI (pc := 46) dX12_tell_46 fl_X12_86 fp_X12_39 sh_122 (Nat.le_of_ble_eq_true rfl) rfl rfl hp1 rfl rfl ?_
            refine ok_aload_n 0 (pc := 49) dX12_tell_49 rfl rfl ?_
            refine ok_getR (pc := 50) dX12_tell_50 fl_X12_90 sh_122 (Nat.le_of_ble_eq_true rfl) rfl rfl ?_
            refine ok_iconst (pc := 53) dX12_tell_53 ?_
            refine ok_iload_n 2 (pc := 54) dX12_tell_54 rfl rfl ?_
            refine ok_iast (pc := 55) dX12_tell_55 sh_148 (Nat.le_of_ble_eq_true rfl) rfl (by decide) (by decide) hp2 ?_
            refine ok_aload_n 0 (pc := 56) dX12_tell_56 rfl rfl ?_
            refine ok_getR (pc := 57) dX12_tell_57 fl_X12_90 sh_122 (Nat.le_of_ble_eq_true rfl) rfl rfl ?_
            refine ok_iconst (pc := 60) dX12_tell_60 ?_
            refine ok_iload_n 3 (pc := 61) dX12_tell_61 rfl rfl ?_
            refine ok_iast (pc := 62) dX12_tell_62 sh_148 (Nat.le_of_ble_eq_true rfl) rfl (by decide) (by decide) hp3 ?_
            refine ok_aload_n 0 (pc := 63) dX12_tell_63 rfl rfl ?_
            refine ok_getR (pc := 64) dX12_tell_64 fl_X12_90 sh_122 (Nat.le_of_ble_eq_true rfl) rfl rfl ?_
            refine ok_iconst (pc := 67) dX12_tell_67 ?_
            refine ok_iload 4 (pc := 68) dX12_tell_68 rfl ?_
            refine ok_iast (pc := 70) dX12_tell_70 sh_148 (Nat.le_of_ble_eq_true rfl) rfl (by decide) (by decide) hp4 ?_
            refine ok_aload_n 0 (pc := 71) dX12_tell_71 rfl rfl ?_
            refine ok_getR (pc := 72) dX12_tell_72 fl_X12_90 sh_122 (Nat.le_of_ble_eq_true rfl) rfl rfl ?_
            refine ok_iconst (pc := 75) dX12_tell_75 ?_
            refine ok_iload 5 (pc := 76) dX12_tell_76 rfl ?_
            refine ok_iast (pc := 78) dX12_tell_78 sh_148 (Nat.le_of_ble_eq_true rfl) rfl (by decide) (by decide) hp5 ?_
            refine ok_bipush (pc := 79) dX12_tell_79 rfl ?_
            refine ok_aload_n 0 (pc := 81) dX12_tell_81 rfl rfl ?_
            refine ok_iconst (pc := 82) dX12_tell_82 ?_
            refine ok_iload_n 2 (pc := 83) dX12_tell_83 rfl rfl ?_
            refine ok_aload_n 0 (pc := 84) dX12_tell_84 rfl rfl ?_
            refine ok_wf (fun hw21 => ?_)
            refine ok_getI (pc := 85) dX12_tell_85 fl_X12_132 sh_122 (Nat.le_of_ble_eq_true rfl) rfl rfl ?_
            have e22 : ((mset (mset (mset (mset (mset σ19 122 39 p1) 148 0 p2) 148 1 p3) 148 2 p4) 148 3 p5) 122 0) = (σ19 122 0) := (mset_ne (by omega)).trans ((mset_ne (by omega)).trans ((mset_ne (by omega)).trans ((mset_ne (by omega)).trans (mset_nei (by omega)))))
            refine ok_top e22 ?_
            refine ok_callVi (As := [vI 0, vI p2, vI (σ19 122 0)]) (rest := [vI 9]) (rm := rm_X12_thirdOf) (pc := 88) dX12_tell_88 me_X12_thirdOf ml_X12_237 (ci := 12) rfl sh_122 (Nat.le_of_ble_eq_true rfl) rfl des_X12_thirdOf rfl ⟨rfl, rfl, rfl, rfl⟩ rfl rfl (c_X12_thirdOf X 0 p2 (σ19 122 0) (r_lit rfl) hp2 (e22 ▸ hw21 _ _) h) (fun r25 σ26 h24 h => ?_)
            refine ok_imul (pc := 91) dX12_tell_91 ?_
            refine ok_iconst (pc := 92) dX12_tell_92 ?_
            refine ok_aload_n 0 (pc := 93) dX12_tell_93 rfl rfl ?_
            refine ok_iconst (pc := 94) dX12_tell_94 ?_
            refine ok_iload_n 3 (pc := 95) dX12_tell_95 rfl rfl ?_
            refine ok_aload_n 0 (pc := 96) dX12_tell_96 rfl rfl ?_
            refine ok_wf (fun hw27 => ?_)
            refine ok_getI (pc := 97) dX12_tell_97 fl_X12_132 sh_122 (Nat.le_of_ble_eq_true rfl) rfl rfl ?_
            refine ok_callVi (As := [vI 1, vI p3, vI (σ26 122 0)]) (rest := [vI 3, vI (9 * r25)]) (rm := rm_X12_thirdOf) (pc := 100) dX12_tell_100 me_X12_thirdOf ml_X12_237 (ci := 12) rfl sh_122 (Nat.le_of_ble_eq_true rfl) rfl des_X12_thirdOf rfl ⟨rfl, rfl, rfl, rfl⟩ rfl rfl (c_X12_thirdOf X 1 p3 (σ26 122 0) (r_lit rfl) hp3 (hw27 _ _) h) (fun r29 σ30 h28 h => ?_)
            refine ok_imul (pc := 103) dX12_tell_103 ?_
            refine ok_iadd (pc := 104) dX12_tell_104 ?_
            refine ok_aload_n 0 (pc := 105) dX12_tell_105 rfl rfl ?_
            refine ok_iconst (pc := 106) dX12_tell_106 ?_
            refine ok_iload 4 (pc := 107) dX12_tell_107 rfl ?_
            refine ok_aload_n 0 (pc := 109) dX12_tell_109 rfl rfl ?_
            refine ok_wf (fun hw31 => ?_)
            refine ok_getI (pc := 110) dX12_tell_110 fl_X12_132 sh_122 (Nat.le_of_ble_eq_true rfl) rfl rfl ?_
            refine ok_callVi (As := [vI 2, vI p4, vI (σ30 122 0)]) (rest := [vI ((9 * r25) + (3 * r29))]) (rm := rm_X12_thirdOf) (pc := 113) dX12_tell_113 me_X12_thirdOf ml_X12_237 (ci := 12) rfl sh_122 (Nat.le_of_ble_eq_true rfl) rfl des_X12_thirdOf rfl ⟨rfl, rfl, rfl, rfl⟩ rfl rfl (c_X12_thirdOf X 2 p4 (σ30 122 0) (r_lit rfl) hp4 (hw31 _ _) h) (fun r33 σ34 h32 h => ?_)
            refine ok_iadd (pc := 116) dX12_tell_116 ?_
            obtain ⟨h35, h⟩ := h
            exact ok_iret (pc := 117) dX12_tell_117 rfl rfl rfl h35 h
          · have h := iteT h q20
            refine ok_iconst (pc := 42) dX12_tell_42 ?_
            exact ok_iret (pc := 43) dX12_tell_43 rfl rfl rfl (r_lit rfl) h
theorem dX12_layThirds_0 : decode cX12_layThirds 0 = .ok (.aload_n 0, 1) := by decide +kernel
theorem dX12_layThirds_1 : decode cX12_layThirds 1 = .ok (.aload_n 0, 1) := by decide +kernel
theorem dX12_layThirds_2 : decode cX12_layThirds 2 = .ok (.getfield 86, 3) := by decide +kernel
theorem dX12_layThirds_5 : decode cX12_layThirds 5 = .ok (.aload_n 0, 1) := by decide +kernel
theorem dX12_layThirds_6 : decode cX12_layThirds 6 = .ok (.getfield 132, 3) := by decide +kernel
theorem dX12_layThirds_9 : decode cX12_layThirds 9 = .ok (.invokevirtual 226, 3) := by decide +kernel
theorem dX12_layThirds_12 : decode cX12_layThirds 12 = .ok (.istore_n 1, 1) := by decide +kernel
theorem dX12_layThirds_13 : decode cX12_layThirds 13 = .ok (.iconst 0, 1) := by decide +kernel
theorem dX12_layThirds_14 : decode cX12_layThirds 14 = .ok (.istore_n 2, 1) := by decide +kernel
theorem dX12_layThirds_15 : decode cX12_layThirds 15 = .ok (.iload_n 2, 1) := by decide +kernel
theorem dX12_layThirds_16 : decode cX12_layThirds 16 = .ok (.iconst 3, 1) := by decide +kernel
theorem dX12_layThirds_17 : decode cX12_layThirds 17 = .ok (.if_icmp .ge 139, 3) := by decide +kernel
theorem dX12_layThirds_20 : decode cX12_layThirds 20 = .ok (.iconst 0, 1) := by decide +kernel
theorem dX12_layThirds_21 : decode cX12_layThirds 21 = .ok (.istore_n 3, 1) := by decide +kernel
theorem dX12_layThirds_22 : decode cX12_layThirds 22 = .ok (.iload_n 3, 1) := by decide +kernel
theorem dX12_layThirds_23 : decode cX12_layThirds 23 = .ok (.iconst 3, 1) := by decide +kernel
theorem dX12_layThirds_24 : decode cX12_layThirds 24 = .ok (.if_icmp .ge 33, 3) := by decide +kernel
theorem dX12_layThirds_27 : decode cX12_layThirds 27 = .ok (.aload_n 0, 1) := by decide +kernel
theorem dX12_layThirds_28 : decode cX12_layThirds 28 = .ok (.getfield 93, 3) := by decide +kernel
theorem dX12_layThirds_31 : decode cX12_layThirds 31 = .ok (.iconst 3, 1) := by decide +kernel
theorem dX12_layThirds_32 : decode cX12_layThirds 32 = .ok (.iload_n 2, 1) := by decide +kernel
theorem dX12_layThirds_33 : decode cX12_layThirds 33 = .ok (.imul, 1) := by decide +kernel
theorem dX12_layThirds_34 : decode cX12_layThirds 34 = .ok (.iload_n 3, 1) := by decide +kernel
theorem dX12_layThirds_35 : decode cX12_layThirds 35 = .ok (.iadd, 1) := by decide +kernel
theorem dX12_layThirds_36 : decode cX12_layThirds 36 = .ok (.aload_n 0, 1) := by decide +kernel
theorem dX12_layThirds_37 : decode cX12_layThirds 37 = .ok (.getfield 90, 3) := by decide +kernel
theorem dX12_layThirds_40 : decode cX12_layThirds 40 = .ok (.iload_n 2, 1) := by decide +kernel
theorem dX12_layThirds_41 : decode cX12_layThirds 41 = .ok (.iaload, 1) := by decide +kernel
theorem dX12_layThirds_42 : decode cX12_layThirds 42 = .ok (.ifCond .ne 7, 3) := by decide +kernel
theorem dX12_layThirds_45 : decode cX12_layThirds 45 = .ok (.iconst 1, 1) := by decide +kernel
theorem dX12_layThirds_46 : decode cX12_layThirds 46 = .ok (.goto 4, 3) := by decide +kernel
theorem dX12_layThirds_49 : decode cX12_layThirds 49 = .ok (.iconst 0, 1) := by decide +kernel
theorem dX12_layThirds_50 : decode cX12_layThirds 50 = .ok (.iastore, 1) := by decide +kernel
theorem dX12_layThirds_51 : decode cX12_layThirds 51 = .ok (.iinc 3 1, 3) := by decide +kernel
theorem dX12_layThirds_54 : decode cX12_layThirds 54 = .ok (.goto (-32), 3) := by decide +kernel
theorem dX12_layThirds_57 : decode cX12_layThirds 57 = .ok (.aload_n 0, 1) := by decide +kernel
theorem dX12_layThirds_58 : decode cX12_layThirds 58 = .ok (.getfield 96, 3) := by decide +kernel
theorem dX12_layThirds_61 : decode cX12_layThirds 61 = .ok (.iload_n 2, 1) := by decide +kernel
theorem dX12_layThirds_62 : decode cX12_layThirds 62 = .ok (.aload_n 0, 1) := by decide +kernel
theorem dX12_layThirds_63 : decode cX12_layThirds 63 = .ok (.getfield 90, 3) := by decide +kernel
theorem dX12_layThirds_66 : decode cX12_layThirds 66 = .ok (.iload_n 2, 1) := by decide +kernel
theorem dX12_layThirds_67 : decode cX12_layThirds 67 = .ok (.iaload, 1) := by decide +kernel
theorem dX12_layThirds_68 : decode cX12_layThirds 68 = .ok (.ifCond .ne 7, 3) := by decide +kernel
theorem dX12_layThirds_71 : decode cX12_layThirds 71 = .ok (.iconst 3, 1) := by decide +kernel
theorem dX12_layThirds_72 : decode cX12_layThirds 72 = .ok (.goto 4, 3) := by decide +kernel
theorem dX12_layThirds_75 : decode cX12_layThirds 75 = .ok (.iconst 0, 1) := by decide +kernel
theorem dX12_layThirds_76 : decode cX12_layThirds 76 = .ok (.iastore, 1) := by decide +kernel
theorem dX12_layThirds_77 : decode cX12_layThirds 77 = .ok (.aload_n 0, 1) := by decide +kernel
theorem dX12_layThirds_78 : decode cX12_layThirds 78 = .ok (.getfield 90, 3) := by decide +kernel
theorem dX12_layThirds_81 : decode cX12_layThirds 81 = .ok (.iload_n 2, 1) := by decide +kernel
theorem dX12_layThirds_82 : decode cX12_layThirds 82 = .ok (.iaload, 1) := by decide +kernel
theorem dX12_layThirds_83 : decode cX12_layThirds 83 = .ok (.iload_n 1, 1) := by decide +kernel
theorem dX12_layThirds_84 : decode cX12_layThirds 84 = .ok (.isub, 1) := by decide +kernel
theorem dX12_layThirds_85 : decode cX12_layThirds 85 = .ok (.istore_n 3, 1) := by decide +kernel
theorem dX12_layThirds_86 : decode cX12_layThirds 86 = .ok (.iload_n 3, 1) := by decide +kernel
theorem dX12_layThirds_87 : decode cX12_layThirds 87 = .ok (.aload_n 0, 1) := by decide +kernel
theorem dX12_layThirds_88 : decode cX12_layThirds 88 = .ok (.getfield 90, 3) := by decide +kernel
theorem dX12_layThirds_91 : decode cX12_layThirds 91 = .ok (.iload_n 2, 1) := by decide +kernel
theorem dX12_layThirds_92 : decode cX12_layThirds 92 = .ok (.iaload, 1) := by decide +kernel
theorem dX12_layThirds_93 : decode cX12_layThirds 93 = .ok (.iload_n 1, 1) := by decide +kernel
theorem dX12_layThirds_94 : decode cX12_layThirds 94 = .ok (.iadd, 1) := by decide +kernel
theorem dX12_layThirds_95 : decode cX12_layThirds 95 = .ok (.if_icmp .gt 55, 3) := by decide +kernel
theorem dX12_layThirds_98 : decode cX12_layThirds 98 = .ok (.aload_n 0, 1) := by decide +kernel
theorem dX12_layThirds_99 : decode cX12_layThirds 99 = .ok (.getfield 90, 3) := by decide +kernel
theorem dX12_layThirds_102 : decode cX12_layThirds 102 = .ok (.iload_n 2, 1) := by decide +kernel
theorem dX12_layThirds_103 : decode cX12_layThirds 103 = .ok (.iaload, 1) := by decide +kernel
theorem dX12_layThirds_104 : decode cX12_layThirds 104 = .ok (.ifCond .le 46, 3) := by decide +kernel
theorem dX12_layThirds_107 : decode cX12_layThirds 107 = .ok (.iload_n 3, 1) := by decide +kernel
theorem dX12_layThirds_108 : decode cX12_layThirds 108 = .ok (.ifCond .le 36, 3) := by decide +kernel
theorem dX12_layThirds_111 : decode cX12_layThirds 111 = .ok (.aload_n 0, 1) := by decide +kernel
theorem dX12_layThirds_112 : decode cX12_layThirds 112 = .ok (.getfield 93, 3) := by decide +kernel
theorem dX12_layThirds_115 : decode cX12_layThirds 115 = .ok (.iconst 3, 1) := by decide +kernel
theorem dX12_layThirds_116 : decode cX12_layThirds 116 = .ok (.iload_n 2, 1) := by decide +kernel
theorem dX12_layThirds_117 : decode cX12_layThirds 117 = .ok (.imul, 1) := by decide +kernel
theorem dX12_layThirds_118 : decode cX12_layThirds 118 = .ok (.aload_n 0, 1) := by decide +kernel
theorem dX12_layThirds_119 : decode cX12_layThirds 119 = .ok (.iload_n 2, 1) := by decide +kernel
theorem dX12_layThirds_120 : decode cX12_layThirds 120 = .ok (.iload_n 3, 1) := by decide +kernel
theorem dX12_layThirds_121 : decode cX12_layThirds 121 = .ok (.aload_n 0, 1) := by decide +kernel
theorem dX12_layThirds_122 : decode cX12_layThirds 122 = .ok (.getfield 132, 3) := by decide +kernel
theorem dX12_layThirds_125 : decode cX12_layThirds 125 = .ok (.invokevirtual 237, 3) := by decide +kernel
theorem dX12_layThirds_128 : decode cX12_layThirds 128 = .ok (.iadd, 1) := by decide +kernel
theorem dX12_layThirds_129 : decode cX12_layThirds 129 = .ok (.dup2, 1) := by decide +kernel
theorem dX12_layThirds_130 : decode cX12_layThirds 130 = .ok (.iaload, 1) := by decide +kernel
theorem dX12_layThirds_131 : decode cX12_layThirds 131 = .ok (.iconst 1, 1) := by decide +kernel
theorem dX12_layThirds_132 : decode cX12_layThirds 132 = .ok (.iadd, 1) := by decide +kernel
theorem dX12_layThirds_133 : decode cX12_layThirds 133 = .ok (.iastore, 1) := by decide +kernel
theorem dX12_layThirds_134 : decode cX12_layThirds 134 = .ok (.aload_n 0, 1) := by decide +kernel
theorem dX12_layThirds_135 : decode cX12_layThirds 135 = .ok (.getfield 96, 3) := by decide +kernel
theorem dX12_layThirds_138 : decode cX12_layThirds 138 = .ok (.iload_n 2, 1) := by decide +kernel
theorem dX12_layThirds_139 : decode cX12_layThirds 139 = .ok (.dup2, 1) := by decide +kernel
theorem dX12_layThirds_140 : decode cX12_layThirds 140 = .ok (.iaload, 1) := by decide +kernel
theorem dX12_layThirds_141 : decode cX12_layThirds 141 = .ok (.iconst 1, 1) := by decide +kernel
theorem dX12_layThirds_142 : decode cX12_layThirds 142 = .ok (.iadd, 1) := by decide +kernel
theorem dX12_layThirds_143 : decode cX12_layThirds 143 = .ok (.iastore, 1) := by decide +kernel
theorem dX12_layThirds_144 : decode cX12_layThirds 144 = .ok (.iinc 3 1, 3) := by decide +kernel
theorem dX12_layThirds_147 : decode cX12_layThirds 147 = .ok (.goto (-61), 3) := by decide +kernel
theorem dX12_layThirds_150 : decode cX12_layThirds 150 = .ok (.iinc 2 1, 3) := by decide +kernel
theorem dX12_layThirds_153 : decode cX12_layThirds 153 = .ok (.goto (-138), 3) := by decide +kernel
theorem dX12_layThirds_156 : decode cX12_layThirds 156 = .ok (.return_, 1) := by decide +kernel
set_option maxRecDepth 100000 in
set_option maxHeartbeats 4000000 in
theorem w_X12_layThirds_86 (X : XE) (x1 : Int) (x2 : Int) (hx1 : inR x1) (hx2 : inR x2) {K15 : Int → Mem → Prop} {Q : Int → Mem → Prop} (hK15 : ∀ (x2 : Int) (σ : Mem), inR x2 → K15 x2 σ → ok X rm_X12_layThirds RX12 cX12_layThirds 4 none 0 Q 15 [(0, .ref (xad X 122)), (1, vI x1), (2, vI x2)] [] σ) : ∀ (n : Nat) (x3 : Int) (σ : Mem), inR x3 → l_X12_layThirds_86 x1 x2 K15 Q n x3 σ → ok X rm_X12_layThirds RX12 cX12_layThirds 4 none 0 Q 86 [(0, .ref (xad X 122)), (1, vI x1), (2, vI x2), (3, vI x3)] [] σ := by
  intro n
  induction n with
  | zero => intro x3 σ hx3 h; exact False.elim h
  | succ n ih =>
    intro x3 σ hx3 h
    refine ok_iload_n 3 (pc := 86) dX12_layThirds_86 rfl rfl ?_
    refine ok_aload_n 0 (pc := 87) dX12_layThirds_87 rfl rfl ?_
    refine ok_getR (pc := 88) dX12_layThirds_88 fl_X12_90 sh_122 (Nat.le_of_ble_eq_true rfl) rfl rfl ?_
    refine ok_iload_n 2 (pc := 91) dX12_layThirds_91 rfl rfl ?_
    obtain ⟨h1, h⟩ := h
    obtain ⟨h2, h⟩ := h
    refine ok_wf (fun hw3 => ?_)
    refine ok_iald (pc := 92) dX12_layThirds_92 sh_148 (Nat.le_of_ble_eq_true rfl) rfl h1 h2 ?_
    refine ok_iload_n 1 (pc := 93) dX12_layThirds_93 rfl rfl ?_
    refine ok_iadd (pc := 94) dX12_layThirds_94 ?_
    obtain ⟨h4, h⟩ := h
    refine ok_icmp_gt (tgt := 150) (pc := 95) dX12_layThirds_95 rfl hx3 h4 (fun q5 => ?_) (fun q5 => ?_)
    · have h := iteT h q5
      refine ok_iinc (L' := [(2, vI (x2 + 1)), (0, .ref (xad X 122)), (1, vI x1), (3, vI x3)]) 2 (pc := 150) dX12_layThirds_150 rfl rfl rfl ?_
      refine ok_goto (tgt := 15) (pc := 153) dX12_layThirds_153 rfl ?_
      obtain ⟨h6, h⟩ := h
      refine ok_sub (L' := [(0, .ref (xad X 122)), (1, vI x1), (2, vI (x2 + 1))]) [1,2,0] rfl ?_
      exact hK15 (x2 + 1) σ h6 h
    · have h := iteF h q5
      refine ok_aload_n 0 (pc := 98) dX12_layThirds_98 rfl rfl ?_
      refine ok_getR (pc := 99) dX12_layThirds_99 fl_X12_90 sh_122 (Nat.le_of_ble_eq_true rfl) rfl rfl ?_
      refine ok_iload_n 2 (pc := 102) dX12_layThirds_102 rfl rfl ?_
      refine ok_iald (pc := 103) dX12_layThirds_103 sh_148 (Nat.le_of_ble_eq_true rfl) rfl h1 h2 ?_
      refine ok_if_le (tgt := 150) (pc := 104) dX12_layThirds_104 rfl (hw3 _ _) (fun q7 => ?_) (fun q7 => ?_)
      · have h := iteF h q7
        refine ok_iinc (L' := [(2, vI (x2 + 1)), (0, .ref (xad X 122)), (1, vI x1), (3, vI x3)]) 2 (pc := 150) dX12_layThirds_150 rfl rfl rfl ?_
        refine ok_goto (tgt := 15) (pc := 153) dX12_layThirds_153 rfl ?_
        obtain ⟨h8, h⟩ := h
        refine ok_sub (L' := [(0, .ref (xad X 122)), (1, vI x1), (2, vI (x2 + 1))]) [1,2,0] rfl ?_
        exact hK15 (x2 + 1) σ h8 h
      · have h := iteT h q7
        refine ok_iload_n 3 (pc := 107) dX12_layThirds_107 rfl rfl ?_
        refine ok_if_le (tgt := 144) (pc := 108) dX12_layThirds_108 rfl hx3 (fun q9 => ?_) (fun q9 => ?_)
        · have h := iteF h q9
          refine ok_iinc (L' := [(3, vI (x3 + 1)), (0, .ref (xad X 122)), (1, vI x1), (2, vI x2)]) 3 (pc := 144) dX12_layThirds_144 rfl rfl rfl ?_
          refine ok_goto (tgt := 86) (pc := 147) dX12_layThirds_147 rfl ?_
          obtain ⟨h10, h⟩ := h
          refine ok_sub (L' := [(0, .ref (xad X 122)), (1, vI x1), (2, vI x2), (3, vI (x3 + 1))]) [1,2,3,0] rfl ?_
          exact ih (x3 + 1) σ h10 h
        · have h := iteT h q9
          refine ok_aload_n 0 (pc := 111) dX12_layThirds_111 rfl rfl ?_
          refine ok_getR (pc := 112) dX12_layThirds_112 fl_X12_93 sh_122 (Nat.le_of_ble_eq_true rfl) rfl rfl ?_
          refine ok_iconst (pc := 115) dX12_layThirds_115 ?_
          refine ok_iload_n 2 (pc := 116) dX12_layThirds_116 rfl rfl ?_
          refine ok_imul (pc := 117) dX12_layThirds_117 ?_
          refine ok_aload_n 0 (pc := 118) dX12_layThirds_118 rfl rfl ?_
          refine ok_iload_n 2 (pc := 119) dX12_layThirds_119 rfl rfl ?_
          refine ok_iload_n 3 (pc := 120) dX12_layThirds_120 rfl rfl ?_
          refine ok_aload_n 0 (pc := 121) dX12_layThirds_121 rfl rfl ?_
          refine ok_getI (pc := 122) dX12_layThirds_122 fl_X12_132 sh_122 (Nat.le_of_ble_eq_true rfl) rfl rfl ?_
          refine ok_callVi (As := [vI x2, vI x3, vI (σ 122 0)]) (rest := [vI (3 * x2), .ref (xad X 149)]) (rm := rm_X12_thirdOf) (pc := 125) dX12_layThirds_125 me_X12_thirdOf ml_X12_237 (ci := 12) rfl sh_122 (Nat.le_of_ble_eq_true rfl) rfl des_X12_thirdOf rfl ⟨rfl, rfl, rfl, rfl⟩ rfl rfl (c_X12_thirdOf X x2 x3 (σ 122 0) hx2 hx3 (hw3 _ _) h) (fun r12 σ13 h11 h => ?_)
          refine ok_iadd (pc := 128) dX12_layThirds_128 ?_
          refine ok_dup2 (pc := 129) dX12_layThirds_129 rfl rfl ?_
          obtain ⟨h14, h⟩ := h
          obtain ⟨h15, h⟩ := h
          refine ok_wf (fun hw16 => ?_)
          refine ok_iald (pc := 130) dX12_layThirds_130 sh_149 (Nat.le_of_ble_eq_true rfl) rfl h14 h15 ?_
          refine ok_iconst (pc := 131) dX12_layThirds_131 ?_
          refine ok_iadd (pc := 132) dX12_layThirds_132 ?_
          obtain ⟨h17, h⟩ := h
          refine ok_iast (pc := 133) dX12_layThirds_133 sh_149 (Nat.le_of_ble_eq_true rfl) rfl h14 h15 h17 ?_
          refine ok_aload_n 0 (pc := 134) dX12_layThirds_134 rfl rfl ?_
          refine ok_getR (pc := 135) dX12_layThirds_135 fl_X12_96 sh_122 (Nat.le_of_ble_eq_true rfl) rfl rfl ?_
          refine ok_iload_n 2 (pc := 138) dX12_layThirds_138 rfl rfl ?_
          refine ok_dup2 (pc := 139) dX12_layThirds_139 rfl rfl ?_
          obtain ⟨h18, h⟩ := h
          obtain ⟨h19, h⟩ := h
          refine ok_wf (fun hw20 => ?_)
          refine ok_iald (pc := 140) dX12_layThirds_140 sh_150 (Nat.le_of_ble_eq_true rfl) rfl h18 h19 ?_
          have e21 : ((mset σ13 149 (((3 * x2) + r12).toNat) ((σ13 149 ((3 * x2) + r12).toNat) + 1)) 150 x2.toNat) = (σ13 150 x2.toNat) := (mset_ne (by omega))
          refine ok_top e21 ?_
          refine ok_iconst (pc := 141) dX12_layThirds_141 ?_
          refine ok_iadd (pc := 142) dX12_layThirds_142 ?_
          obtain ⟨h23, h⟩ := h
          refine ok_iast (pc := 143) dX12_layThirds_143 sh_150 (Nat.le_of_ble_eq_true rfl) rfl h18 h19 h23 ?_
          refine ok_iinc (L' := [(3, vI (x3 + 1)), (0, .ref (xad X 122)), (1, vI x1), (2, vI x2)]) 3 (pc := 144) dX12_layThirds_144 rfl rfl rfl ?_
          refine ok_goto (tgt := 86) (pc := 147) dX12_layThirds_147 rfl ?_
          obtain ⟨h24, h⟩ := h
          refine ok_sub (L' := [(0, .ref (xad X 122)), (1, vI x1), (2, vI x2), (3, vI (x3 + 1))]) [1,2,3,0] rfl ?_
          exact ih (x3 + 1) (mset (mset σ13 149 (((3 * x2) + r12).toNat) ((σ13 149 ((3 * x2) + r12).toNat) + 1)) 150 (x2.toNat) ((σ13 150 x2.toNat) + 1)) h24 h
set_option maxRecDepth 100000 in
set_option maxHeartbeats 4000000 in
theorem w_X12_layThirds_76 (X : XE) (x1 : Int) (x2 : Int) (s0 : Int) (s1 : Int) (hx1 : inR x1) (hx2 : inR x2) (hs0 : inR s0) (hs1 : inR s1) {K15 : Int → Mem → Prop} {Q : Int → Mem → Prop} (hK15 : ∀ (x2 : Int) (σ : Mem), inR x2 → K15 x2 σ → ok X rm_X12_layThirds RX12 cX12_layThirds 4 none 0 Q 15 [(0, .ref (xad X 122)), (1, vI x1), (2, vI x2)] [] σ) {σ : Mem} (h : j_X12_layThirds_76 K15 Q x1 x2 s0 s1 σ) : ok X rm_X12_layThirds RX12 cX12_layThirds 4 none 0 Q 76 [(0, .ref (xad X 122)), (1, vI x1), (2, vI x2)] [vI s0, vI s1, .ref (xad X 150)] σ := by
  obtain ⟨h1, h⟩ := h
  obtain ⟨h2, h⟩ := h
  refine ok_iast (pc := 76) dX12_layThirds_76 sh_150 (Nat.le_of_ble_eq_true rfl) rfl h1 h2 hs0 ?_
  refine ok_aload_n 0 (pc := 77) dX12_layThirds_77 rfl rfl ?_
  refine ok_getR (pc := 78) dX12_layThirds_78 fl_X12_90 sh_122 (Nat.le_of_ble_eq_true rfl) rfl rfl ?_
  refine ok_iload_n 2 (pc := 81) dX12_layThirds_81 rfl rfl ?_
  obtain ⟨h3, h⟩ := h
  obtain ⟨h4, h⟩ := h
  refine ok_wf (fun hw5 => ?_)
  refine ok_iald (pc := 82) dX12_layThirds_82 sh_148 (Nat.le_of_ble_eq_true rfl) rfl h3 h4 ?_
  have e6 : ((mset σ 150 (s1.toNat) s0) 148 x2.toNat) = (σ 148 x2.toNat) := (mset_ne (by omega))
  refine ok_top e6 ?_
  refine ok_iload_n 1 (pc := 83) dX12_layThirds_83 rfl rfl ?_
  refine ok_isub (pc := 84) dX12_layThirds_84 ?_
  refine ok_istore_n (L' := [(3, vI ((σ 148 x2.toNat) - x1)), (0, .ref (xad X 122)), (1, vI x1), (2, vI x2)]) (pc := 85) dX12_layThirds_85 rfl rfl rfl ?_
  obtain ⟨h8, h⟩ := h
  refine ok_sub (L' := [(0, .ref (xad X 122)), (1, vI x1), (2, vI x2), (3, vI ((σ 148 x2.toNat) - x1))]) [1,2,3,0] rfl ?_
  obtain ⟨n9, h⟩ := h
  exact w_X12_layThirds_86 X x1 x2 hx1 hx2 hK15 n9 ((σ 148 x2.toNat) - x1) (mset σ 150 (s1.toNat) s0) h8 h
set_option maxRecDepth 100000 in
set_option maxHeartbeats 4000000 in
theorem w_X12_layThirds_22 (X : XE) (x1 : Int) (x2 : Int) (hx1 : inR x1) (hx2 : inR x2) {K15 : Int → Mem → Prop} {Q : Int → Mem → Prop} (hK15 : ∀ (x2 : Int) (σ : Mem), inR x2 → K15 x2 σ → ok X rm_X12_layThirds RX12 cX12_layThirds 4 none 0 Q 15 [(0, .ref (xad X 122)), (1, vI x1), (2, vI x2)] [] σ) : ∀ (n : Nat) (x3 : Int) (σ : Mem), inR x3 → l_X12_layThirds_22 x1 x2 K15 Q n x3 σ → ok X rm_X12_layThirds RX12 cX12_layThirds 4 none 0 Q 22 [(0, .ref (xad X 122)), (1, vI x1), (2, vI x2), (3, vI x3)] [] σ := by
  intro n
  induction n with
  | zero => intro x3 σ hx3 h; exact False.elim h
  | succ n ih =>
    intro x3 σ hx3 h
    refine ok_iload_n 3 (pc := 22) dX12_layThirds_22 rfl rfl ?_
    refine ok_iconst (pc := 23) dX12_layThirds_23 ?_
    refine ok_icmp_ge (tgt := 57) (pc := 24) dX12_layThirds_24 rfl hx3 (r_lit rfl) (fun q1 => ?_) (fun q1 => ?_)
    · have h := iteF h q1
      refine ok_aload_n 0 (pc := 57) dX12_layThirds_57 rfl rfl ?_
      refine ok_getR (pc := 58) dX12_layThirds_58 fl_X12_96 sh_122 (Nat.le_of_ble_eq_true rfl) rfl rfl ?_
      refine ok_iload_n 2 (pc := 61) dX12_layThirds_61 rfl rfl ?_
      refine ok_aload_n 0 (pc := 62) dX12_layThirds_62 rfl rfl ?_
      refine ok_getR (pc := 63) dX12_layThirds_63 fl_X12_90 sh_122 (Nat.le_of_ble_eq_true rfl) rfl rfl ?_
      refine ok_iload_n 2 (pc := 66) dX12_layThirds_66 rfl rfl ?_
      obtain ⟨h2, h⟩ := h
      obtain ⟨h3, h⟩ := h
      refine ok_wf (fun hw4 => ?_)
      refine ok_iald (pc := 67) dX12_layThirds_67 sh_148 (Nat.le_of_ble_eq_true rfl) rfl h2 h3 ?_
      refine ok_if_ne (tgt := 75) (pc := 68) dX12_layThirds_68 rfl (hw4 _ _) (fun q5 => ?_) (fun q5 => ?_)
      · simp only [if_neg q5] at h
        refine ok_iconst (pc := 75) dX12_layThirds_75 ?_
        refine ok_sub (L' := [(0, .ref (xad X 122)), (1, vI x1), (2, vI x2)]) [0,1,2] rfl ?_
        exact w_X12_layThirds_76 X x1 x2 0 x2 hx1 hx2 (r_lit rfl) hx2 hK15 h
      · simp only [if_pos q5] at h
        refine ok_iconst (pc := 71) dX12_layThirds_71 ?_
        refine ok_goto (tgt := 76) (pc := 72) dX12_layThirds_72 rfl ?_
        refine ok_sub (L' := [(0, .ref (xad X 122)), (1, vI x1), (2, vI x2)]) [0,1,2] rfl ?_
        exact w_X12_layThirds_76 X x1 x2 3 x2 hx1 hx2 (r_lit rfl) hx2 hK15 h
    · have h := iteT h q1
      refine ok_aload_n 0 (pc := 27) dX12_layThirds_27 rfl rfl ?_
      refine ok_getR (pc := 28) dX12_layThirds_28 fl_X12_93 sh_122 (Nat.le_of_ble_eq_true rfl) rfl rfl ?_
      refine ok_iconst (pc := 31) dX12_layThirds_31 ?_
      refine ok_iload_n 2 (pc := 32) dX12_layThirds_32 rfl rfl ?_
      refine ok_imul (pc := 33) dX12_layThirds_33 ?_
      refine ok_iload_n 3 (pc := 34) dX12_layThirds_34 rfl rfl ?_
      refine ok_iadd (pc := 35) dX12_layThirds_35 ?_
      refine ok_aload_n 0 (pc := 36) dX12_layThirds_36 rfl rfl ?_
      refine ok_getR (pc := 37) dX12_layThirds_37 fl_X12_90 sh_122 (Nat.le_of_ble_eq_true rfl) rfl rfl ?_
      refine ok_iload_n 2 (pc := 40) dX12_layThirds_40 rfl rfl ?_
      obtain ⟨h6, h⟩ := h
      obtain ⟨h7, h⟩ := h
      refine ok_wf (fun hw8 => ?_)
      refine ok_iald (pc := 41) dX12_layThirds_41 sh_148 (Nat.le_of_ble_eq_true rfl) rfl h6 h7 ?_
      refine ok_if_ne (tgt := 49) (pc := 42) dX12_layThirds_42 rfl (hw8 _ _) (fun q9 => ?_) (fun q9 => ?_)
      · have h := iteF h q9
        refine ok_iconst (pc := 49) dX12_layThirds_49 ?_
        obtain ⟨h10, h⟩ := h
        obtain ⟨h11, h⟩ := h
        refine ok_iast (pc := 50) dX12_layThirds_50 sh_149 (Nat.le_of_ble_eq_true rfl) rfl h10 h11 (r_lit rfl) ?_
        refine ok_iinc (L' := [(3, vI (x3 + 1)), (0, .ref (xad X 122)), (1, vI x1), (2, vI x2)]) 3 (pc := 51) dX12_layThirds_51 rfl rfl rfl ?_
        refine ok_goto (tgt := 22) (pc := 54) dX12_layThirds_54 rfl ?_
        obtain ⟨h12, h⟩ := h
        refine ok_sub (L' := [(0, .ref (xad X 122)), (1, vI x1), (2, vI x2), (3, vI (x3 + 1))]) [1,2,3,0] rfl ?_
        exact ih (x3 + 1) (mset σ 149 (((3 * x2) + x3).toNat) 0) h12 h
      · have h := iteT h q9
        refine ok_iconst (pc := 45) dX12_layThirds_45 ?_
        refine ok_goto (tgt := 50) (pc := 46) dX12_layThirds_46 rfl ?_
        obtain ⟨h13, h⟩ := h
        obtain ⟨h14, h⟩ := h
        refine ok_iast (pc := 50) dX12_layThirds_50 sh_149 (Nat.le_of_ble_eq_true rfl) rfl h13 h14 (r_lit rfl) ?_
        refine ok_iinc (L' := [(3, vI (x3 + 1)), (0, .ref (xad X 122)), (1, vI x1), (2, vI x2)]) 3 (pc := 51) dX12_layThirds_51 rfl rfl rfl ?_
        refine ok_goto (tgt := 22) (pc := 54) dX12_layThirds_54 rfl ?_
        obtain ⟨h15, h⟩ := h
        refine ok_sub (L' := [(0, .ref (xad X 122)), (1, vI x1), (2, vI x2), (3, vI (x3 + 1))]) [1,2,3,0] rfl ?_
        exact ih (x3 + 1) (mset σ 149 (((3 * x2) + x3).toNat) 1) h15 h
set_option maxRecDepth 100000 in
set_option maxHeartbeats 4000000 in
theorem w_X12_layThirds_15 (X : XE) (x1 : Int) (hx1 : inR x1) {Q : Int → Mem → Prop} : ∀ (n : Nat) (x2 : Int) (σ : Mem), inR x2 → l_X12_layThirds_15 x1 Q n x2 σ → ok X rm_X12_layThirds RX12 cX12_layThirds 4 none 0 Q 15 [(0, .ref (xad X 122)), (1, vI x1), (2, vI x2)] [] σ := by
  intro n
  induction n with
  | zero => intro x2 σ hx2 h; exact False.elim h
  | succ n ih =>
    intro x2 σ hx2 h
    refine ok_iload_n 2 (pc := 15) dX12_layThirds_15 rfl rfl ?_
    refine ok_iconst (pc := 16) dX12_layThirds_16 ?_
    refine ok_icmp_ge (tgt := 156) (pc := 17) dX12_layThirds_17 rfl hx2 (r_lit rfl) (fun q1 => ?_) (fun q1 => ?_)
    · have h := iteF h q1
      exact ok_vret (pc := 156) dX12_layThirds_156 rfl rfl h
    · have h := iteT h q1
      refine ok_iconst (pc := 20) dX12_layThirds_20 ?_
      refine ok_istore_n (L' := [(3, vI 0), (0, .ref (xad X 122)), (1, vI x1), (2, vI x2)]) (pc := 21) dX12_layThirds_21 rfl rfl rfl ?_
      refine ok_sub (L' := [(0, .ref (xad X 122)), (1, vI x1), (2, vI x2), (3, vI 0)]) [1,2,3,0] rfl ?_
      obtain ⟨n2, h⟩ := h
      exact w_X12_layThirds_22 X x1 x2 hx1 hx2 (fun x2_ σ_ hx2_ h_ => ih x2_ σ_ hx2_ h_) n2 0 σ (r_lit rfl) h
set_option maxRecDepth 100000 in
set_option maxHeartbeats 4000000 in
theorem c_X12_layThirds (X : XE) {σ : Mem} {Q : Int → Mem → Prop} (h : v_X12_layThirds σ Q) : CT X yX12_layThirds cX12_layThirds 4 none rm_X12_layThirds 0 [.ref (xad X 122)] σ Q := by
  refine ct_of (own := RX12) (L := [(0, .ref (xad X 122))]) rfl rfl (Nat.le_of_ble_eq_true rfl) rfl ?_
  refine ok_aload_n 0 (pc := 0) dX12_layThirds_0 rfl rfl ?_
  refine ok_aload_n 0 (pc := 1) dX12_layThirds_1 rfl rfl ?_
  refine ok_wf (fun hw1 => ?_)
  refine ok_getI (pc := 2) dX12_layThirds_2 fl_X12_86 sh_122 (Nat.le_of_ble_eq_true rfl) rfl rfl ?_
  refine ok_aload_n 0 (pc := 5) dX12_layThirds_5 rfl rfl ?_
  refine ok_getI (pc := 6) dX12_layThirds_6 fl_X12_132 sh_122 (Nat.le_of_ble_eq_true rfl) rfl rfl ?_
  refine ok_callVi (As := [vI (σ 122 39), vI (σ 122 0)]) (rest := []) (rm := rm_X12_spreadOf) (pc := 9) dX12_layThirds_9 me_X12_spreadOf ml_X12_226 (ci := 12) rfl sh_122 (Nat.le_of_ble_eq_true rfl) rfl des_X12_spreadOf rfl ⟨rfl, rfl, rfl, rfl⟩ rfl rfl (c_X12_spreadOf X (σ 122 39) (σ 122 0) (hw1 _ _) (hw1 _ _) h) (fun r3 σ4 h2 h => ?_)
  refine ok_istore_n (L' := [(1, vI r3), (0, .ref (xad X 122))]) (pc := 12) dX12_layThirds_12 rfl rfl rfl ?_
  refine ok_iconst (pc := 13) dX12_layThirds_13 ?_
  refine ok_istore_n (L' := [(2, vI 0), (1, vI r3), (0, .ref (xad X 122))]) (pc := 14) dX12_layThirds_14 rfl rfl rfl ?_
  refine ok_sub (L' := [(0, .ref (xad X 122)), (1, vI r3), (2, vI 0)]) [2,1,0] rfl ?_
  obtain ⟨n5, h⟩ := h
  exact w_X12_layThirds_15 X r3 h2 n5 0 σ4 (r_lit rfl) h
theorem dX12_chanceOf_0 : decode cX12_chanceOf 0 = .ok (.aload_n 0, 1) := by decide +kernel
theorem dX12_chanceOf_1 : decode cX12_chanceOf 1 = .ok (.getfield 93, 3) := by decide +kernel
theorem dX12_chanceOf_4 : decode cX12_chanceOf 4 = .ok (.iload_n 1, 1) := by decide +kernel
theorem dX12_chanceOf_5 : decode cX12_chanceOf 5 = .ok (.bipush 9, 2) := by decide +kernel
theorem dX12_chanceOf_7 : decode cX12_chanceOf 7 = .ok (.idiv, 1) := by decide +kernel
theorem dX12_chanceOf_8 : decode cX12_chanceOf 8 = .ok (.iaload, 1) := by decide +kernel
theorem dX12_chanceOf_9 : decode cX12_chanceOf 9 = .ok (.aload_n 0, 1) := by decide +kernel
theorem dX12_chanceOf_10 : decode cX12_chanceOf 10 = .ok (.getfield 93, 3) := by decide +kernel
theorem dX12_chanceOf_13 : decode cX12_chanceOf 13 = .ok (.iconst 3, 1) := by decide +kernel
theorem dX12_chanceOf_14 : decode cX12_chanceOf 14 = .ok (.iload_n 1, 1) := by decide +kernel
theorem dX12_chanceOf_15 : decode cX12_chanceOf 15 = .ok (.iconst 3, 1) := by decide +kernel
theorem dX12_chanceOf_16 : decode cX12_chanceOf 16 = .ok (.idiv, 1) := by decide +kernel
theorem dX12_chanceOf_17 : decode cX12_chanceOf 17 = .ok (.iconst 3, 1) := by decide +kernel
theorem dX12_chanceOf_18 : decode cX12_chanceOf 18 = .ok (.irem, 1) := by decide +kernel
theorem dX12_chanceOf_19 : decode cX12_chanceOf 19 = .ok (.iadd, 1) := by decide +kernel
theorem dX12_chanceOf_20 : decode cX12_chanceOf 20 = .ok (.iaload, 1) := by decide +kernel
theorem dX12_chanceOf_21 : decode cX12_chanceOf 21 = .ok (.imul, 1) := by decide +kernel
theorem dX12_chanceOf_22 : decode cX12_chanceOf 22 = .ok (.aload_n 0, 1) := by decide +kernel
theorem dX12_chanceOf_23 : decode cX12_chanceOf 23 = .ok (.getfield 93, 3) := by decide +kernel
theorem dX12_chanceOf_26 : decode cX12_chanceOf 26 = .ok (.bipush 6, 2) := by decide +kernel
theorem dX12_chanceOf_28 : decode cX12_chanceOf 28 = .ok (.iload_n 1, 1) := by decide +kernel
theorem dX12_chanceOf_29 : decode cX12_chanceOf 29 = .ok (.iconst 3, 1) := by decide +kernel
theorem dX12_chanceOf_30 : decode cX12_chanceOf 30 = .ok (.irem, 1) := by decide +kernel
theorem dX12_chanceOf_31 : decode cX12_chanceOf 31 = .ok (.iadd, 1) := by decide +kernel
theorem dX12_chanceOf_32 : decode cX12_chanceOf 32 = .ok (.iaload, 1) := by decide +kernel
theorem dX12_chanceOf_33 : decode cX12_chanceOf 33 = .ok (.imul, 1) := by decide +kernel
theorem dX12_chanceOf_34 : decode cX12_chanceOf 34 = .ok (.ireturn, 1) := by decide +kernel
set_option maxRecDepth 100000 in
set_option maxHeartbeats 4000000 in
theorem c_X12_chanceOf (X : XE) (p1 : Int) (hp1 : inR p1) {σ : Mem} {Q : Int → Mem → Prop} (h : v_X12_chanceOf p1 σ Q) : CT X yX12_chanceOf cX12_chanceOf 2 (some .int) rm_X12_chanceOf 1 [.ref (xad X 122), vI p1] σ Q := by
  refine ct_of (own := RX12) (L := [(0, .ref (xad X 122)), (1, vI p1)]) rfl rfl (Nat.le_of_ble_eq_true rfl) rfl ?_
  refine ok_aload_n 0 (pc := 0) dX12_chanceOf_0 rfl rfl ?_
  refine ok_getR (pc := 1) dX12_chanceOf_1 fl_X12_93 sh_122 (Nat.le_of_ble_eq_true rfl) rfl rfl ?_
  refine ok_iload_n 1 (pc := 4) dX12_chanceOf_4 rfl rfl ?_
  refine ok_bipush (pc := 5) dX12_chanceOf_5 rfl ?_
  refine ok_idiv (pc := 7) dX12_chanceOf_7 hp1 (r_lit rfl) (by decide) ?_
  obtain ⟨h1, h⟩ := h
  obtain ⟨h2, h⟩ := h
  refine ok_wf (fun hw3 => ?_)
  refine ok_iald (pc := 8) dX12_chanceOf_8 sh_149 (Nat.le_of_ble_eq_true rfl) rfl h1 h2 ?_
  refine ok_aload_n 0 (pc := 9) dX12_chanceOf_9 rfl rfl ?_
  refine ok_getR (pc := 10) dX12_chanceOf_10 fl_X12_93 sh_122 (Nat.le_of_ble_eq_true rfl) rfl rfl ?_
  refine ok_iconst (pc := 13) dX12_chanceOf_13 ?_
  refine ok_iload_n 1 (pc := 14) dX12_chanceOf_14 rfl rfl ?_
  refine ok_iconst (pc := 15) dX12_chanceOf_15 ?_
  refine ok_idiv (pc := 16) dX12_chanceOf_16 hp1 (r_lit rfl) (by decide) ?_
  refine ok_iconst (pc := 17) dX12_chanceOf_17 ?_
  obtain ⟨h4, h⟩ := h
  refine ok_irem (pc := 18) dX12_chanceOf_18 h4 (r_lit rfl) (by decide) ?_
  refine ok_iadd (pc := 19) dX12_chanceOf_19 ?_
  obtain ⟨h5, h⟩ := h
  obtain ⟨h6, h⟩ := h
  refine ok_iald (pc := 20) dX12_chanceOf_20 sh_149 (Nat.le_of_ble_eq_true rfl) rfl h5 h6 ?_
  refine ok_imul (pc := 21) dX12_chanceOf_21 ?_
  refine ok_aload_n 0 (pc := 22) dX12_chanceOf_22 rfl rfl ?_
  refine ok_getR (pc := 23) dX12_chanceOf_23 fl_X12_93 sh_122 (Nat.le_of_ble_eq_true rfl) rfl rfl ?_
  refine ok_bipush (pc := 26) dX12_chanceOf_26 rfl ?_
  refine ok_iload_n 1 (pc := 28) dX12_chanceOf_28 rfl rfl ?_
  refine ok_iconst (pc := 29) dX12_chanceOf_29 ?_
  refine ok_irem (pc := 30) dX12_chanceOf_30 hp1 (r_lit rfl) (by decide) ?_
  refine ok_iadd (pc := 31) dX12_chanceOf_31 ?_
  obtain ⟨h7, h⟩ := h
  obtain ⟨h8, h⟩ := h
  refine ok_iald (pc := 32) dX12_chanceOf_32 sh_149 (Nat.le_of_ble_eq_true rfl) rfl h7 h8 ?_
  refine ok_imul (pc := 33) dX12_chanceOf_33 ?_
  obtain ⟨h9, h⟩ := h
  exact ok_iret (pc := 34) dX12_chanceOf_34 rfl rfl rfl h9 h
theorem dX12_lowest_0 : decode cX12_lowest 0 = .ok (.lload_n 0, 1) := by decide +kernel
theorem dX12_lowest_1 : decode cX12_lowest 1 = .ok (.lstore 5, 2) := by decide +kernel
theorem dX12_lowest_3 : decode cX12_lowest 3 = .ok (.lload_n 2, 1) := by decide +kernel
theorem dX12_lowest_4 : decode cX12_lowest 4 = .ok (.lstore 7, 2) := by decide +kernel
theorem dX12_lowest_6 : decode cX12_lowest 6 = .ok (.lload 7, 2) := by decide +kernel
theorem dX12_lowest_8 : decode cX12_lowest 8 = .ok (.lconst 0, 1) := by decide +kernel
theorem dX12_lowest_9 : decode cX12_lowest 9 = .ok (.lcmp, 1) := by decide +kernel
theorem dX12_lowest_10 : decode cX12_lowest 10 = .ok (.ifCond .eq 21, 3) := by decide +kernel
theorem dX12_lowest_13 : decode cX12_lowest 13 = .ok (.lload 5, 2) := by decide +kernel
theorem dX12_lowest_15 : decode cX12_lowest 15 = .ok (.lload 7, 2) := by decide +kernel
theorem dX12_lowest_17 : decode cX12_lowest 17 = .ok (.lrem, 1) := by decide +kernel
theorem dX12_lowest_18 : decode cX12_lowest 18 = .ok (.lstore 9, 2) := by decide +kernel
theorem dX12_lowest_20 : decode cX12_lowest 20 = .ok (.lload 7, 2) := by decide +kernel
theorem dX12_lowest_22 : decode cX12_lowest 22 = .ok (.lstore 5, 2) := by decide +kernel
theorem dX12_lowest_24 : decode cX12_lowest 24 = .ok (.lload 9, 2) := by decide +kernel
theorem dX12_lowest_26 : decode cX12_lowest 26 = .ok (.lstore 7, 2) := by decide +kernel
theorem dX12_lowest_28 : decode cX12_lowest 28 = .ok (.goto (-22), 3) := by decide +kernel
theorem dX12_lowest_31 : decode cX12_lowest 31 = .ok (.iload 4, 2) := by decide +kernel
theorem dX12_lowest_33 : decode cX12_lowest 33 = .ok (.ifCond .ne 7, 3) := by decide +kernel
theorem dX12_lowest_36 : decode cX12_lowest 36 = .ok (.lload_n 0, 1) := by decide +kernel
theorem dX12_lowest_37 : decode cX12_lowest 37 = .ok (.goto 4, 3) := by decide +kernel
theorem dX12_lowest_40 : decode cX12_lowest 40 = .ok (.lload_n 2, 1) := by decide +kernel
theorem dX12_lowest_41 : decode cX12_lowest 41 = .ok (.lload 5, 2) := by decide +kernel
theorem dX12_lowest_43 : decode cX12_lowest 43 = .ok (.ldiv, 1) := by decide +kernel
theorem dX12_lowest_44 : decode cX12_lowest 44 = .ok (.lreturn, 1) := by decide +kernel
set_option maxRecDepth 100000 in
set_option maxHeartbeats 4000000 in
theorem w_X12_lowest_6 (X : XE) (p0 : Int) (p2 : Int) (p4 : Int) (hp0 : inL p0) (hp2 : inL p2) (hp4 : inR p4) {Q : Int → Mem → Prop} : ∀ (n : Nat) (x5 : Int) (x7 : Int) (σ : Mem), inL x5 → inL x7 → l_X12_lowest_6 p0 p2 p4 Q n x5 x7 σ → ok X rm_X12_lowest RX12 cX12_lowest 11 (some .long) 2 Q 6 [(0, vL p0), (2, vL p2), (4, vI p4), (5, vL x5), (7, vL x7)] [] σ := by
  intro n
  induction n with
  | zero => intro x5 x7 σ hx5 hx7 h; exact False.elim h
  | succ n ih =>
    intro x5 x7 σ hx5 hx7 h
    refine ok_lload 4 (pc := 6) dX12_lowest_6 rfl ?_
    refine ok_lconst (v := 0) (pc := 8) dX12_lowest_8 rfl ?_
    refine ok_lcmp (pc := 9) dX12_lowest_9 hx7 (l_of_r (r_lit rfl)) ?_
    refine ok_if_eq (tgt := 31) (pc := 10) dX12_lowest_10 rfl r_lcmp (fun q1 => ?_) (fun q1 => ?_)
    · have h := iteT h q1
      refine ok_iload 2 (pc := 31) dX12_lowest_31 rfl ?_
      refine ok_if_ne (tgt := 40) (pc := 33) dX12_lowest_33 rfl hp4 (fun q2 => ?_) (fun q2 => ?_)
      · have h := iteF h q2
        refine ok_lload_n 1 (pc := 40) dX12_lowest_40 rfl rfl ?_
        refine ok_lload 3 (pc := 41) dX12_lowest_41 rfl ?_
        obtain ⟨h3, h⟩ := h
        refine ok_ldiv (pc := 43) dX12_lowest_43 hp2 hx5 h3 ?_
        obtain ⟨h4, h⟩ := h
        exact ok_lret (pc := 44) dX12_lowest_44 rfl rfl h4 h
      · have h := iteT h q2
        refine ok_lload_n 0 (pc := 36) dX12_lowest_36 rfl rfl ?_
        refine ok_goto (tgt := 41) (pc := 37) dX12_lowest_37 rfl ?_
        refine ok_lload 3 (pc := 41) dX12_lowest_41 rfl ?_
        obtain ⟨h5, h⟩ := h
        refine ok_ldiv (pc := 43) dX12_lowest_43 hp0 hx5 h5 ?_
        obtain ⟨h6, h⟩ := h
        exact ok_lret (pc := 44) dX12_lowest_44 rfl rfl h6 h
    · have h := iteF h q1
      refine ok_lload 3 (pc := 13) dX12_lowest_13 rfl ?_
      refine ok_lload 4 (pc := 15) dX12_lowest_15 rfl ?_
      obtain ⟨h7, h⟩ := h
      refine ok_lrem (pc := 17) dX12_lowest_17 hx5 hx7 h7 ?_
      refine ok_lstore (L' := [(9, vL (Int.tmod x5 x7)), (0, vL p0), (2, vL p2), (4, vI p4), (5, vL x5), (7, vL x7)]) (pc := 18) dX12_lowest_18 rfl rfl ?_
      refine ok_lload 5 (pc := 20) dX12_lowest_20 rfl ?_
      refine ok_lstore (L' := [(5, vL x7), (9, vL (Int.tmod x5 x7)), (0, vL p0), (2, vL p2), (4, vI p4), (7, vL x7)]) (pc := 22) dX12_lowest_22 rfl rfl ?_
      refine ok_lload 1 (pc := 24) dX12_lowest_24 rfl ?_
      refine ok_lstore (L' := [(7, vL (Int.tmod x5 x7)), (5, vL x7), (9, vL (Int.tmod x5 x7)), (0, vL p0), (2, vL p2), (4, vI p4)]) (pc := 26) dX12_lowest_26 rfl rfl ?_
      refine ok_goto (tgt := 6) (pc := 28) dX12_lowest_28 rfl ?_
      obtain ⟨h8, h⟩ := h
      refine ok_sub (L' := [(0, vL p0), (2, vL p2), (4, vI p4), (5, vL x7), (7, vL (Int.tmod x5 x7))]) [3,4,5,1,0] rfl ?_
      exact ih x7 (Int.tmod x5 x7) σ hx7 h8 h
set_option maxRecDepth 100000 in
set_option maxHeartbeats 4000000 in
theorem c_X12_lowest (X : XE) (p0 : Int) (p2 : Int) (p4 : Int) (hp0 : inL p0) (hp2 : inL p2) (hp4 : inR p4) {σ : Mem} {Q : Int → Mem → Prop} (h : v_X12_lowest p0 p2 p4 σ Q) : CT X yX12_lowest cX12_lowest 11 (some .long) rm_X12_lowest 2 [vL p0, vL p2, vI p4] σ Q := by
  refine ct_of (own := RX12) (L := [(0, vL p0), (2, vL p2), (4, vI p4)]) rfl rfl (Nat.le_of_ble_eq_true rfl) rfl ?_
  refine ok_lload_n 0 (pc := 0) dX12_lowest_0 rfl rfl ?_
  refine ok_lstore (L' := [(5, vL p0), (0, vL p0), (2, vL p2), (4, vI p4)]) (pc := 1) dX12_lowest_1 rfl rfl ?_
  refine ok_lload_n 2 (pc := 3) dX12_lowest_3 rfl rfl ?_
  refine ok_lstore (L' := [(7, vL p2), (5, vL p0), (0, vL p0), (2, vL p2), (4, vI p4)]) (pc := 4) dX12_lowest_4 rfl rfl ?_
  refine ok_sub (L' := [(0, vL p0), (2, vL p2), (4, vI p4), (5, vL p0), (7, vL p2)]) [2,3,4,1,0] rfl ?_
  obtain ⟨n1, h⟩ := h
  exact w_X12_lowest_6 X p0 p2 p4 hp0 hp2 hp4 n1 p0 p2 σ hp0 hp2 h
theorem dX12_chance_0 : decode cX12_chance 0 = .ok (.iload_n 1, 1) := by decide +kernel
theorem dX12_chance_1 : decode cX12_chance 1 = .ok (.i2l, 1) := by decide +kernel
theorem dX12_chance_2 : decode cX12_chance 2 = .ok (.lconst 0, 1) := by decide +kernel
theorem dX12_chance_3 : decode cX12_chance 3 = .ok (.ldc2_w 274, 3) := by decide +kernel
theorem dX12_chance_6 : decode cX12_chance 6 = .ok (.invokestatic 137, 3) := by decide +kernel
theorem dX12_chance_9 : decode cX12_chance 9 = .ok (.ifCond .eq 13, 3) := by decide +kernel
theorem dX12_chance_12 : decode cX12_chance 12 = .ok (.iload_n 2, 1) := by decide +kernel
theorem dX12_chance_13 : decode cX12_chance 13 = .ok (.i2l, 1) := by decide +kernel
theorem dX12_chance_14 : decode cX12_chance 14 = .ok (.lconst 0, 1) := by decide +kernel
theorem dX12_chance_15 : decode cX12_chance 15 = .ok (.lconst 1, 1) := by decide +kernel
theorem dX12_chance_16 : decode cX12_chance 16 = .ok (.invokestatic 137, 3) := by decide +kernel
theorem dX12_chance_19 : decode cX12_chance 19 = .ok (.ifCond .ne 7, 3) := by decide +kernel
theorem dX12_chance_22 : decode cX12_chance 22 = .ok (.ldc2_w 276, 3) := by decide +kernel
theorem dX12_chance_25 : decode cX12_chance 25 = .ok (.lreturn, 1) := by decide +kernel
theorem dX12_chance_26 : decode cX12_chance 26 = .ok (.aload_n 0, 1) := by decide +kernel
theorem dX12_chance_27 : decode cX12_chance 27 = .ok (.getfield 86, 3) := by decide +kernel
theorem dX12_chance_30 : decode cX12_chance 30 = .ok (.bipush (-4), 2) := by decide +kernel
theorem dX12_chance_32 : decode cX12_chance 32 = .ok (.if_icmp .ne 7, 3) := by decide +kernel
theorem dX12_chance_35 : decode cX12_chance 35 = .ok (.ldc2_w 278, 3) := by decide +kernel
theorem dX12_chance_38 : decode cX12_chance 38 = .ok (.lreturn, 1) := by decide +kernel
theorem dX12_chance_39 : decode cX12_chance 39 = .ok (.aload_n 0, 1) := by decide +kernel
theorem dX12_chance_40 : decode cX12_chance 40 = .ok (.invokevirtual 280, 3) := by decide +kernel
theorem dX12_chance_43 : decode cX12_chance 43 = .ok (.aload_n 0, 1) := by decide +kernel
theorem dX12_chance_44 : decode cX12_chance 44 = .ok (.iload_n 1, 1) := by decide +kernel
theorem dX12_chance_45 : decode cX12_chance 45 = .ok (.invokevirtual 283, 3) := by decide +kernel
theorem dX12_chance_48 : decode cX12_chance 48 = .ok (.i2l, 1) := by decide +kernel
theorem dX12_chance_49 : decode cX12_chance 49 = .ok (.aload_n 0, 1) := by decide +kernel
theorem dX12_chance_50 : decode cX12_chance 50 = .ok (.getfield 96, 3) := by decide +kernel
theorem dX12_chance_53 : decode cX12_chance 53 = .ok (.iconst 0, 1) := by decide +kernel
theorem dX12_chance_54 : decode cX12_chance 54 = .ok (.iaload, 1) := by decide +kernel
theorem dX12_chance_55 : decode cX12_chance 55 = .ok (.aload_n 0, 1) := by decide +kernel
theorem dX12_chance_56 : decode cX12_chance 56 = .ok (.getfield 96, 3) := by decide +kernel
theorem dX12_chance_59 : decode cX12_chance 59 = .ok (.iconst 1, 1) := by decide +kernel
theorem dX12_chance_60 : decode cX12_chance 60 = .ok (.iaload, 1) := by decide +kernel
theorem dX12_chance_61 : decode cX12_chance 61 = .ok (.imul, 1) := by decide +kernel
theorem dX12_chance_62 : decode cX12_chance 62 = .ok (.aload_n 0, 1) := by decide +kernel
theorem dX12_chance_63 : decode cX12_chance 63 = .ok (.getfield 96, 3) := by decide +kernel
theorem dX12_chance_66 : decode cX12_chance 66 = .ok (.iconst 2, 1) := by decide +kernel
theorem dX12_chance_67 : decode cX12_chance 67 = .ok (.iaload, 1) := by decide +kernel
theorem dX12_chance_68 : decode cX12_chance 68 = .ok (.imul, 1) := by decide +kernel
theorem dX12_chance_69 : decode cX12_chance 69 = .ok (.i2l, 1) := by decide +kernel
theorem dX12_chance_70 : decode cX12_chance 70 = .ok (.iload_n 2, 1) := by decide +kernel
theorem dX12_chance_71 : decode cX12_chance 71 = .ok (.invokestatic 286, 3) := by decide +kernel
theorem dX12_chance_74 : decode cX12_chance 74 = .ok (.lreturn, 1) := by decide +kernel
set_option maxRecDepth 100000 in
set_option maxHeartbeats 4000000 in
theorem c_X12_chance (X : XE) (p1 : Int) (p2 : Int) (hp1 : inR p1) (hp2 : inR p2) {σ : Mem} {Q : Int → Mem → Prop} (h : v_X12_chance p1 p2 σ Q) : CT X yX12_chance cX12_chance 3 (some .long) rm_X12_chance 2 [.ref (xad X 122), vI p1, vI p2] σ Q := by
  refine ct_of (own := RX12) (L := [(0, .ref (xad X 122)), (1, vI p1), (2, vI p2)]) rfl rfl (Nat.le_of_ble_eq_true rfl) rfl ?_
  refine ok_iload_n 1 (pc := 0) dX12_chance_0 rfl rfl ?_
  refine ok_i2l (pc := 1) dX12_chance_1 hp1 ?_
  refine ok_lconst (v := 0) (pc := 2) dX12_chance_2 rfl ?_
  refine ok_ldc2 (pc := 3) dX12_chance_3 cn_X12_274 ?_
  refine ok_callSi (As := [vL p1, vL 0, vL 26]) (rest := []) (rm := rm_X12_in) (pc := 6) dX12_chance_6 me_X12_in ml_X12_137 des_X12_in rfl ⟨rfl, rfl, rfl, rfl⟩ rfl rfl (c_X12_in X p1 0 26 (l_of_r hp1) (l_of_r (r_lit rfl)) (l_of_r (r_lit rfl)) h) (fun r2 σ3 h1 h => ?_)
  refine ok_if_eq (tgt := 22) (pc := 9) dX12_chance_9 rfl h1 (fun q4 => ?_) (fun q4 => ?_)
  · have h := iteT h q4
    refine ok_ldc2 (pc := 22) dX12_chance_22 cn_X12_276 ?_
    exact ok_lret (pc := 25) dX12_chance_25 rfl rfl (l_of_r (r_lit rfl)) h
  · have h := iteF h q4
    refine ok_iload_n 2 (pc := 12) dX12_chance_12 rfl rfl ?_
    refine ok_i2l (pc := 13) dX12_chance_13 hp2 ?_
    refine ok_lconst (v := 0) (pc := 14) dX12_chance_14 rfl ?_
    refine ok_lconst (v := 1) (pc := 15) dX12_chance_15 rfl ?_
    refine ok_callSi (As := [vL p2, vL 0, vL 1]) (rest := []) (rm := rm_X12_in) (pc := 16) dX12_chance_16 me_X12_in ml_X12_137 des_X12_in rfl ⟨rfl, rfl, rfl, rfl⟩ rfl rfl (c_X12_in X p2 0 1 (l_of_r hp2) (l_of_r (r_lit rfl)) (l_of_r (r_lit rfl)) h) (fun r6 σ7 h5 h => ?_)
    refine ok_if_ne (tgt := 26) (pc := 19) dX12_chance_19 rfl h5 (fun q8 => ?_) (fun q8 => ?_)
    · have h := iteF h q8
      refine ok_aload_n 0 (pc := 26) dX12_chance_26 rfl rfl ?_
      refine ok_wf (fun hw9 => ?_)
      refine ok_getI (pc := 27) dX12_chance_27 fl_X12_86 sh_122 (Nat.le_of_ble_eq_true rfl) rfl rfl ?_
      refine ok_bipush (pc := 30) dX12_chance_30 rfl ?_
      refine ok_icmp_ne (tgt := 39) (pc := 32) dX12_chance_32 rfl (hw9 _ _) (r_lit rfl) (fun q10 => ?_) (fun q10 => ?_)
      · have h := iteF h q10
        refine ok_aload_n 0 (pc := 39) dX12_chance_39 rfl rfl ?_
        refine ok_callVv (As := []) (rest := []) (rm := rm_X12_layThirds) (pc := 40) dX12_chance_40 me_X12_layThirds ml_X12_280 (ci := 12) rfl sh_122 (Nat.le_of_ble_eq_true rfl) rfl des_X12_layThirds rfl ⟨rfl, rfl, rfl, rfl⟩ rfl rfl (c_X12_layThirds X h) (fun σ13 h => ?_)
        refine ok_aload_n 0 (pc := 43) dX12_chance_43 rfl rfl ?_
        refine ok_iload_n 1 (pc := 44) dX12_chance_44 rfl rfl ?_
        refine ok_callVi (As := [vI p1]) (rest := []) (rm := rm_X12_chanceOf) (pc := 45) dX12_chance_45 me_X12_chanceOf ml_X12_283 (ci := 12) rfl sh_122 (Nat.le_of_ble_eq_true rfl) rfl des_X12_chanceOf rfl ⟨rfl, rfl, rfl, rfl⟩ rfl rfl (c_X12_chanceOf X p1 hp1 h) (fun r15 σ16 h14 h => ?_)
        refine ok_i2l (pc := 48) dX12_chance_48 h14 ?_
        refine ok_aload_n 0 (pc := 49) dX12_chance_49 rfl rfl ?_
        refine ok_getR (pc := 50) dX12_chance_50 fl_X12_96 sh_122 (Nat.le_of_ble_eq_true rfl) rfl rfl ?_
        refine ok_iconst (pc := 53) dX12_chance_53 ?_
        refine ok_wf (fun hw17 => ?_)
        refine ok_iald (pc := 54) dX12_chance_54 sh_150 (Nat.le_of_ble_eq_true rfl) rfl (by decide) (by decide) ?_
        refine ok_aload_n 0 (pc := 55) dX12_chance_55 rfl rfl ?_
        refine ok_getR (pc := 56) dX12_chance_56 fl_X12_96 sh_122 (Nat.le_of_ble_eq_true rfl) rfl rfl ?_
        refine ok_iconst (pc := 59) dX12_chance_59 ?_
        refine ok_iald (pc := 60) dX12_chance_60 sh_150 (Nat.le_of_ble_eq_true rfl) rfl (by decide) (by decide) ?_
        refine ok_imul (pc := 61) dX12_chance_61 ?_
        refine ok_aload_n 0 (pc := 62) dX12_chance_62 rfl rfl ?_
        refine ok_getR (pc := 63) dX12_chance_63 fl_X12_96 sh_122 (Nat.le_of_ble_eq_true rfl) rfl rfl ?_
        refine ok_iconst (pc := 66) dX12_chance_66 ?_
        refine ok_iald (pc := 67) dX12_chance_67 sh_150 (Nat.le_of_ble_eq_true rfl) rfl (by decide) (by decide) ?_
        refine ok_imul (pc := 68) dX12_chance_68 ?_
        obtain ⟨h18, h⟩ := h
        refine ok_i2l (pc := 69) dX12_chance_69 h18 ?_
        refine ok_iload_n 2 (pc := 70) dX12_chance_70 rfl rfl ?_
        refine ok_callSl (As := [vL r15, vL (((σ16 150 0) * (σ16 150 1)) * (σ16 150 2)), vI p2]) (rest := []) (rm := rm_X12_lowest) (pc := 71) dX12_chance_71 me_X12_lowest ml_X12_286 des_X12_lowest rfl ⟨rfl, rfl, rfl, rfl⟩ rfl rfl (c_X12_lowest X r15 (((σ16 150 0) * (σ16 150 1)) * (σ16 150 2)) p2 (l_of_r h14) (l_of_r h18) hp2 h) (fun r20 σ21 h19 h => ?_)
        exact ok_lret (pc := 74) dX12_chance_74 rfl rfl h19 h
      · have h := iteT h q10
        refine ok_ldc2 (pc := 35) dX12_chance_35 cn_X12_278 ?_
        exact ok_lret (pc := 38) dX12_chance_38 rfl rfl (l_of_r (r_lit rfl)) h
    · have h := iteT h q8
      refine ok_ldc2 (pc := 22) dX12_chance_22 cn_X12_276 ?_
      exact ok_lret (pc := 25) dX12_chance_25 rfl rfl (l_of_r (r_lit rfl)) h
theorem dX12_layLook_0 : decode cX12_layLook 0 = .ok (.aload_n 0, 1) := by decide +kernel
theorem dX12_layLook_1 : decode cX12_layLook 1 = .ok (.invokevirtual 280, 3) := by decide +kernel
theorem dX12_layLook_4 : decode cX12_layLook 4 = .ok (.aload_n 0, 1) := by decide +kernel
theorem dX12_layLook_5 : decode cX12_layLook 5 = .ok (.iconst 0, 1) := by decide +kernel
theorem dX12_layLook_6 : decode cX12_layLook 6 = .ok (.putfield 290, 3) := by decide +kernel
theorem dX12_layLook_9 : decode cX12_layLook 9 = .ok (.aload_n 0, 1) := by decide +kernel
theorem dX12_layLook_10 : decode cX12_layLook 10 = .ok (.iconst 0, 1) := by decide +kernel
theorem dX12_layLook_11 : decode cX12_layLook 11 = .ok (.putfield 293, 3) := by decide +kernel
theorem dX12_layLook_14 : decode cX12_layLook 14 = .ok (.aload_n 0, 1) := by decide +kernel
theorem dX12_layLook_15 : decode cX12_layLook 15 = .ok (.getfield 96, 3) := by decide +kernel
theorem dX12_layLook_18 : decode cX12_layLook 18 = .ok (.iconst 0, 1) := by decide +kernel
theorem dX12_layLook_19 : decode cX12_layLook 19 = .ok (.iaload, 1) := by decide +kernel
theorem dX12_layLook_20 : decode cX12_layLook 20 = .ok (.aload_n 0, 1) := by decide +kernel
theorem dX12_layLook_21 : decode cX12_layLook 21 = .ok (.getfield 96, 3) := by decide +kernel
theorem dX12_layLook_24 : decode cX12_layLook 24 = .ok (.iconst 1, 1) := by decide +kernel
theorem dX12_layLook_25 : decode cX12_layLook 25 = .ok (.iaload, 1) := by decide +kernel
theorem dX12_layLook_26 : decode cX12_layLook 26 = .ok (.imul, 1) := by decide +kernel
theorem dX12_layLook_27 : decode cX12_layLook 27 = .ok (.aload_n 0, 1) := by decide +kernel
theorem dX12_layLook_28 : decode cX12_layLook 28 = .ok (.getfield 96, 3) := by decide +kernel
theorem dX12_layLook_31 : decode cX12_layLook 31 = .ok (.iconst 2, 1) := by decide +kernel
theorem dX12_layLook_32 : decode cX12_layLook 32 = .ok (.iaload, 1) := by decide +kernel
theorem dX12_layLook_33 : decode cX12_layLook 33 = .ok (.imul, 1) := by decide +kernel
theorem dX12_layLook_34 : decode cX12_layLook 34 = .ok (.i2l, 1) := by decide +kernel
theorem dX12_layLook_35 : decode cX12_layLook 35 = .ok (.lstore_n 2, 1) := by decide +kernel
theorem dX12_layLook_36 : decode cX12_layLook 36 = .ok (.lload_n 2, 1) := by decide +kernel
theorem dX12_layLook_37 : decode cX12_layLook 37 = .ok (.lstore 4, 2) := by decide +kernel
theorem dX12_layLook_39 : decode cX12_layLook 39 = .ok (.ldc2_w 296, 3) := by decide +kernel
theorem dX12_layLook_42 : decode cX12_layLook 42 = .ok (.lload 4, 2) := by decide +kernel
theorem dX12_layLook_44 : decode cX12_layLook 44 = .ok (.lmul, 1) := by decide +kernel
theorem dX12_layLook_45 : decode cX12_layLook 45 = .ok (.iload_n 1, 1) := by decide +kernel
theorem dX12_layLook_46 : decode cX12_layLook 46 = .ok (.i2l, 1) := by decide +kernel
theorem dX12_layLook_47 : decode cX12_layLook 47 = .ok (.lload_n 2, 1) := by decide +kernel
theorem dX12_layLook_48 : decode cX12_layLook 48 = .ok (.lmul, 1) := by decide +kernel
theorem dX12_layLook_49 : decode cX12_layLook 49 = .ok (.lcmp, 1) := by decide +kernel
theorem dX12_layLook_50 : decode cX12_layLook 50 = .ok (.ifCond .le 110, 3) := by decide +kernel
theorem dX12_layLook_53 : decode cX12_layLook 53 = .ok (.bipush (-4), 2) := by decide +kernel
theorem dX12_layLook_55 : decode cX12_layLook 55 = .ok (.istore 6, 2) := by decide +kernel
theorem dX12_layLook_57 : decode cX12_layLook 57 = .ok (.iconst 0, 1) := by decide +kernel
theorem dX12_layLook_58 : decode cX12_layLook 58 = .ok (.istore 7, 2) := by decide +kernel
theorem dX12_layLook_60 : decode cX12_layLook 60 = .ok (.iload 7, 2) := by decide +kernel
theorem dX12_layLook_62 : decode cX12_layLook 62 = .ok (.bipush 27, 2) := by decide +kernel
theorem dX12_layLook_64 : decode cX12_layLook 64 = .ok (.if_icmp .ge 47, 3) := by decide +kernel
theorem dX12_layLook_67 : decode cX12_layLook 67 = .ok (.aload_n 0, 1) := by decide +kernel
theorem dX12_layLook_68 : decode cX12_layLook 68 = .ok (.getfield 293, 3) := by decide +kernel
theorem dX12_layLook_71 : decode cX12_layLook 71 = .ok (.iload 7, 2) := by decide +kernel
theorem dX12_layLook_73 : decode cX12_layLook 73 = .ok (.ishr, 1) := by decide +kernel
theorem dX12_layLook_74 : decode cX12_layLook 74 = .ok (.iconst 1, 1) := by decide +kernel
theorem dX12_layLook_75 : decode cX12_layLook 75 = .ok (.iand, 1) := by decide +kernel
theorem dX12_layLook_76 : decode cX12_layLook 76 = .ok (.ifCond .ne 29, 3) := by decide +kernel
theorem dX12_layLook_79 : decode cX12_layLook 79 = .ok (.iload 6, 2) := by decide +kernel
theorem dX12_layLook_81 : decode cX12_layLook 81 = .ok (.bipush (-4), 2) := by decide +kernel
theorem dX12_layLook_83 : decode cX12_layLook 83 = .ok (.if_icmp .eq 18, 3) := by decide +kernel
theorem dX12_layLook_86 : decode cX12_layLook 86 = .ok (.aload_n 0, 1) := by decide +kernel
theorem dX12_layLook_87 : decode cX12_layLook 87 = .ok (.iload 7, 2) := by decide +kernel
theorem dX12_layLook_89 : decode cX12_layLook 89 = .ok (.invokevirtual 283, 3) := by decide +kernel
theorem dX12_layLook_92 : decode cX12_layLook 92 = .ok (.aload_n 0, 1) := by decide +kernel
theorem dX12_layLook_93 : decode cX12_layLook 93 = .ok (.iload 6, 2) := by decide +kernel
theorem dX12_layLook_95 : decode cX12_layLook 95 = .ok (.invokevirtual 283, 3) := by decide +kernel
theorem dX12_layLook_98 : decode cX12_layLook 98 = .ok (.if_icmp .le 7, 3) := by decide +kernel
theorem dX12_layLook_101 : decode cX12_layLook 101 = .ok (.iload 7, 2) := by decide +kernel
theorem dX12_layLook_103 : decode cX12_layLook 103 = .ok (.istore 6, 2) := by decide +kernel
theorem dX12_layLook_105 : decode cX12_layLook 105 = .ok (.iinc 7 1, 3) := by decide +kernel
theorem dX12_layLook_108 : decode cX12_layLook 108 = .ok (.goto (-48), 3) := by decide +kernel
theorem dX12_layLook_111 : decode cX12_layLook 111 = .ok (.aload_n 0, 1) := by decide +kernel
theorem dX12_layLook_112 : decode cX12_layLook 112 = .ok (.getfield 99, 3) := by decide +kernel
theorem dX12_layLook_115 : decode cX12_layLook 115 = .ok (.aload_n 0, 1) := by decide +kernel
theorem dX12_layLook_116 : decode cX12_layLook 116 = .ok (.getfield 290, 3) := by decide +kernel
theorem dX12_layLook_119 : decode cX12_layLook 119 = .ok (.iload 6, 2) := by decide +kernel
theorem dX12_layLook_121 : decode cX12_layLook 121 = .ok (.iastore, 1) := by decide +kernel
theorem dX12_layLook_122 : decode cX12_layLook 122 = .ok (.aload_n 0, 1) := by decide +kernel
theorem dX12_layLook_123 : decode cX12_layLook 123 = .ok (.dup, 1) := by decide +kernel
theorem dX12_layLook_124 : decode cX12_layLook 124 = .ok (.getfield 290, 3) := by decide +kernel
theorem dX12_layLook_127 : decode cX12_layLook 127 = .ok (.iconst 1, 1) := by decide +kernel
theorem dX12_layLook_128 : decode cX12_layLook 128 = .ok (.iadd, 1) := by decide +kernel
theorem dX12_layLook_129 : decode cX12_layLook 129 = .ok (.putfield 290, 3) := by decide +kernel
theorem dX12_layLook_132 : decode cX12_layLook 132 = .ok (.aload_n 0, 1) := by decide +kernel
theorem dX12_layLook_133 : decode cX12_layLook 133 = .ok (.dup, 1) := by decide +kernel
theorem dX12_layLook_134 : decode cX12_layLook 134 = .ok (.getfield 293, 3) := by decide +kernel
theorem dX12_layLook_137 : decode cX12_layLook 137 = .ok (.iconst 1, 1) := by decide +kernel
theorem dX12_layLook_138 : decode cX12_layLook 138 = .ok (.iload 6, 2) := by decide +kernel
theorem dX12_layLook_140 : decode cX12_layLook 140 = .ok (.ishl, 1) := by decide +kernel
theorem dX12_layLook_141 : decode cX12_layLook 141 = .ok (.ior, 1) := by decide +kernel
theorem dX12_layLook_142 : decode cX12_layLook 142 = .ok (.putfield 293, 3) := by decide +kernel
theorem dX12_layLook_145 : decode cX12_layLook 145 = .ok (.lload 4, 2) := by decide +kernel
theorem dX12_layLook_147 : decode cX12_layLook 147 = .ok (.aload_n 0, 1) := by decide +kernel
theorem dX12_layLook_148 : decode cX12_layLook 148 = .ok (.iload 6, 2) := by decide +kernel
theorem dX12_layLook_150 : decode cX12_layLook 150 = .ok (.invokevirtual 283, 3) := by decide +kernel
theorem dX12_layLook_153 : decode cX12_layLook 153 = .ok (.i2l, 1) := by decide +kernel
theorem dX12_layLook_154 : decode cX12_layLook 154 = .ok (.lsub, 1) := by decide +kernel
theorem dX12_layLook_155 : decode cX12_layLook 155 = .ok (.lstore 4, 2) := by decide +kernel
theorem dX12_layLook_157 : decode cX12_layLook 157 = .ok (.goto (-118), 3) := by decide +kernel
theorem dX12_layLook_160 : decode cX12_layLook 160 = .ok (.return_, 1) := by decide +kernel
set_option maxRecDepth 100000 in
set_option maxHeartbeats 4000000 in
theorem w_X12_layLook_60 (X : XE) (p1 : Int) (hp1 : inR p1) (x2 : Int) (x4 : Int) (hx2 : inL x2) (hx4 : inL x4) {K39 : Int → Mem → Prop} {Q : Int → Mem → Prop} (hK39 : ∀ (x4 : Int) (σ : Mem), inL x4 → K39 x4 σ → ok X rm_X12_layLook RX12 cX12_layLook 8 none 0 Q 39 [(0, .ref (xad X 122)), (1, vI p1), (2, vL x2), (4, vL x4)] [] σ) : ∀ (n : Nat) (x6 : Int) (x7 : Int) (σ : Mem), inR x6 → inR x7 → l_X12_layLook_60 p1 x2 x4 K39 Q n x6 x7 σ → ok X rm_X12_layLook RX12 cX12_layLook 8 none 0 Q 60 [(0, .ref (xad X 122)), (1, vI p1), (2, vL x2), (4, vL x4), (6, vI x6), (7, vI x7)] [] σ := by
  intro n
  induction n with
  | zero => intro x6 x7 σ hx6 hx7 h; exact False.elim h
  | succ n ih =>
    intro x6 x7 σ hx6 hx7 h
    refine ok_iload 5 (pc := 60) dX12_layLook_60 rfl ?_
    refine ok_bipush (pc := 62) dX12_layLook_62 rfl ?_
    refine ok_icmp_ge (tgt := 111) (pc := 64) dX12_layLook_64 rfl hx7 (r_lit rfl) (fun q1 => ?_) (fun q1 => ?_)
    · have h := iteF h q1
      refine ok_aload_n 0 (pc := 111) dX12_layLook_111 rfl rfl ?_
      refine ok_getR (pc := 112) dX12_layLook_112 fl_X12_99 sh_122 (Nat.le_of_ble_eq_true rfl) rfl rfl ?_
      refine ok_aload_n 0 (pc := 115) dX12_layLook_115 rfl rfl ?_
      refine ok_wf (fun hw2 => ?_)
      refine ok_getI (pc := 116) dX12_layLook_116 fl_X12_290 sh_122 (Nat.le_of_ble_eq_true rfl) rfl rfl ?_
      refine ok_iload 4 (pc := 119) dX12_layLook_119 rfl ?_
      obtain ⟨h3, h⟩ := h
      obtain ⟨h4, h⟩ := h
      refine ok_iast (pc := 121) dX12_layLook_121 sh_151 (Nat.le_of_ble_eq_true rfl) rfl h3 h4 hx6 ?_
      refine ok_aload_n 0 (pc := 122) dX12_layLook_122 rfl rfl ?_
      refine ok_dup (pc := 123) dX12_layLook_123 rfl ?_
      refine ok_wf (fun hw5 => ?_)
      refine ok_getI (pc := 124) dX12_layLook_124 fl_X12_290 sh_122 (Nat.le_of_ble_eq_true rfl) rfl rfl ?_
      have e6 : ((mset σ 151 ((σ 122 43).toNat) x6) 122 43) = (σ 122 43) := (mset_ne (by omega))
      refine ok_top e6 ?_
      refine ok_iconst (pc := 127) dX12_layLook_127 ?_
      refine ok_iadd (pc := 128) dX12_layLook_128 ?_
      obtain ⟨h8, h⟩ := h
      refine ok_putI (pc := 129) dX12_layLook_129 fl_X12_290 fp_X12_43 sh_122 (Nat.le_of_ble_eq_true rfl) rfl rfl h8 rfl rfl ?_
      refine ok_aload_n 0 (pc := 132) dX12_layLook_132 rfl rfl ?_
      refine ok_dup (pc := 133) dX12_layLook_133 rfl ?_
      refine ok_wf (fun hw9 => ?_)
      refine ok_getI (pc := 134) dX12_layLook_134 fl_X12_293 sh_122 (Nat.le_of_ble_eq_true rfl) rfl rfl ?_
      have e10 : ((mset (mset σ 151 ((σ 122 43).toNat) x6) 122 43 ((σ 122 43) + 1)) 122 45) = (σ 122 45) := (mset_nei (by omega)).trans (mset_ne (by omega))
      refine ok_top e10 ?_
      refine ok_iconst (pc := 137) dX12_layLook_137 ?_
      refine ok_iload 4 (pc := 138) dX12_layLook_138 rfl ?_
      refine ok_ishl (pc := 140) dX12_layLook_140 ?_
      refine ok_ior (pc := 141) dX12_layLook_141 ?_
      refine ok_putI (pc := 142) dX12_layLook_142 fl_X12_293 fp_X12_45 sh_122 (Nat.le_of_ble_eq_true rfl) rfl rfl (q_rng _) rfl rfl ?_
      refine ok_lload 3 (pc := 145) dX12_layLook_145 rfl ?_
      refine ok_aload_n 0 (pc := 147) dX12_layLook_147 rfl rfl ?_
      refine ok_iload 4 (pc := 148) dX12_layLook_148 rfl ?_
      refine ok_callVi (As := [vI x6]) (rest := [vL x4]) (rm := rm_X12_chanceOf) (pc := 150) dX12_layLook_150 me_X12_chanceOf ml_X12_283 (ci := 12) rfl sh_122 (Nat.le_of_ble_eq_true rfl) rfl des_X12_chanceOf rfl ⟨rfl, rfl, rfl, rfl⟩ rfl rfl (c_X12_chanceOf X x6 hx6 h) (fun r13 σ14 h12 h => ?_)
      refine ok_i2l (pc := 153) dX12_layLook_153 h12 ?_
      refine ok_lsub (pc := 154) dX12_layLook_154 ?_
      refine ok_lstore (L' := [(4, vL (x4 - r13)), (0, .ref (xad X 122)), (1, vI p1), (2, vL x2), (6, vI x6), (7, vI x7)]) (pc := 155) dX12_layLook_155 rfl rfl ?_
      refine ok_goto (tgt := 39) (pc := 157) dX12_layLook_157 rfl ?_
      obtain ⟨h15, h⟩ := h
      refine ok_sub (L' := [(0, .ref (xad X 122)), (1, vI p1), (2, vL x2), (4, vL (x4 - r13))]) [1,2,3,0] rfl ?_
      exact hK39 (x4 - r13) σ14 h15 h
    · have h := iteT h q1
      refine ok_aload_n 0 (pc := 67) dX12_layLook_67 rfl rfl ?_
      refine ok_wf (fun hw16 => ?_)
      refine ok_getI (pc := 68) dX12_layLook_68 fl_X12_293 sh_122 (Nat.le_of_ble_eq_true rfl) rfl rfl ?_
      refine ok_iload 5 (pc := 71) dX12_layLook_71 rfl ?_
      refine ok_ishr (pc := 73) dX12_layLook_73 ?_
      refine ok_iconst (pc := 74) dX12_layLook_74 ?_
      refine ok_iand (pc := 75) dX12_layLook_75 ?_
      refine ok_if_ne (tgt := 105) (pc := 76) dX12_layLook_76 rfl (q_rng _) (fun q17 => ?_) (fun q17 => ?_)
      · have h := iteF h q17
        refine ok_iinc (L' := [(7, vI (x7 + 1)), (0, .ref (xad X 122)), (1, vI p1), (2, vL x2), (4, vL x4), (6, vI x6)]) 5 (pc := 105) dX12_layLook_105 rfl rfl rfl ?_
        refine ok_goto (tgt := 60) (pc := 108) dX12_layLook_108 rfl ?_
        obtain ⟨h18, h⟩ := h
        refine ok_sub (L' := [(0, .ref (xad X 122)), (1, vI p1), (2, vL x2), (4, vL x4), (6, vI x6), (7, vI (x7 + 1))]) [1,2,3,4,5,0] rfl ?_
        exact ih x6 (x7 + 1) σ hx6 h18 h
      · have h := iteT h q17
        refine ok_iload 4 (pc := 79) dX12_layLook_79 rfl ?_
        refine ok_bipush (pc := 81) dX12_layLook_81 rfl ?_
        refine ok_icmp_eq (tgt := 101) (pc := 83) dX12_layLook_83 rfl hx6 (r_lit rfl) (fun q19 => ?_) (fun q19 => ?_)
        · have h := iteT h q19
          refine ok_iload 5 (pc := 101) dX12_layLook_101 rfl ?_
          refine ok_istore (L' := [(6, vI x7), (0, .ref (xad X 122)), (1, vI p1), (2, vL x2), (4, vL x4), (7, vI x7)]) (pc := 103) dX12_layLook_103 rfl rfl ?_
          refine ok_iinc (L' := [(7, vI (x7 + 1)), (6, vI x7), (0, .ref (xad X 122)), (1, vI p1), (2, vL x2), (4, vL x4)]) 5 (pc := 105) dX12_layLook_105 rfl rfl rfl ?_
          refine ok_goto (tgt := 60) (pc := 108) dX12_layLook_108 rfl ?_
          obtain ⟨h20, h⟩ := h
          refine ok_sub (L' := [(0, .ref (xad X 122)), (1, vI p1), (2, vL x2), (4, vL x4), (6, vI x7), (7, vI (x7 + 1))]) [2,3,4,5,1,0] rfl ?_
          exact ih x7 (x7 + 1) σ hx7 h20 h
        · have h := iteF h q19
          refine ok_aload_n 0 (pc := 86) dX12_layLook_86 rfl rfl ?_
          refine ok_iload 5 (pc := 87) dX12_layLook_87 rfl ?_
          refine ok_callVi (As := [vI x7]) (rest := []) (rm := rm_X12_chanceOf) (pc := 89) dX12_layLook_89 me_X12_chanceOf ml_X12_283 (ci := 12) rfl sh_122 (Nat.le_of_ble_eq_true rfl) rfl des_X12_chanceOf rfl ⟨rfl, rfl, rfl, rfl⟩ rfl rfl (c_X12_chanceOf X x7 hx7 h) (fun r22 σ23 h21 h => ?_)
          refine ok_aload_n 0 (pc := 92) dX12_layLook_92 rfl rfl ?_
          refine ok_iload 4 (pc := 93) dX12_layLook_93 rfl ?_
          refine ok_callVi (As := [vI x6]) (rest := [vI r22]) (rm := rm_X12_chanceOf) (pc := 95) dX12_layLook_95 me_X12_chanceOf ml_X12_283 (ci := 12) rfl sh_122 (Nat.le_of_ble_eq_true rfl) rfl des_X12_chanceOf rfl ⟨rfl, rfl, rfl, rfl⟩ rfl rfl (c_X12_chanceOf X x6 hx6 h) (fun r25 σ26 h24 h => ?_)
          refine ok_icmp_le (tgt := 105) (pc := 98) dX12_layLook_98 rfl h21 h24 (fun q27 => ?_) (fun q27 => ?_)
          · have h := iteF h q27
            refine ok_iinc (L' := [(7, vI (x7 + 1)), (0, .ref (xad X 122)), (1, vI p1), (2, vL x2), (4, vL x4), (6, vI x6)]) 5 (pc := 105) dX12_layLook_105 rfl rfl rfl ?_
            refine ok_goto (tgt := 60) (pc := 108) dX12_layLook_108 rfl ?_
            obtain ⟨h28, h⟩ := h
            refine ok_sub (L' := [(0, .ref (xad X 122)), (1, vI p1), (2, vL x2), (4, vL x4), (6, vI x6), (7, vI (x7 + 1))]) [1,2,3,4,5,0] rfl ?_
            exact ih x6 (x7 + 1) σ26 hx6 h28 h
          · have h := iteT h q27
            refine ok_iload 5 (pc := 101) dX12_layLook_101 rfl ?_
            refine ok_istore (L' := [(6, vI x7), (0, .ref (xad X 122)), (1, vI p1), (2, vL x2), (4, vL x4), (7, vI x7)]) (pc := 103) dX12_layLook_103 rfl rfl ?_
            refine ok_iinc (L' := [(7, vI (x7 + 1)), (6, vI x7), (0, .ref (xad X 122)), (1, vI p1), (2, vL x2), (4, vL x4)]) 5 (pc := 105) dX12_layLook_105 rfl rfl rfl ?_
            refine ok_goto (tgt := 60) (pc := 108) dX12_layLook_108 rfl ?_
            obtain ⟨h29, h⟩ := h
            refine ok_sub (L' := [(0, .ref (xad X 122)), (1, vI p1), (2, vL x2), (4, vL x4), (6, vI x7), (7, vI (x7 + 1))]) [2,3,4,5,1,0] rfl ?_
            exact ih x7 (x7 + 1) σ26 hx7 h29 h
set_option maxRecDepth 100000 in
set_option maxHeartbeats 4000000 in
theorem w_X12_layLook_39 (X : XE) (p1 : Int) (hp1 : inR p1) (x2 : Int) (hx2 : inL x2) {Q : Int → Mem → Prop} : ∀ (n : Nat) (x4 : Int) (σ : Mem), inL x4 → l_X12_layLook_39 p1 x2 Q n x4 σ → ok X rm_X12_layLook RX12 cX12_layLook 8 none 0 Q 39 [(0, .ref (xad X 122)), (1, vI p1), (2, vL x2), (4, vL x4)] [] σ := by
  intro n
  induction n with
  | zero => intro x4 σ hx4 h; exact False.elim h
  | succ n ih =>
    intro x4 σ hx4 h
    refine ok_ldc2 (pc := 39) dX12_layLook_39 cn_X12_296 ?_
    refine ok_lload 3 (pc := 42) dX12_layLook_42 rfl ?_
    refine ok_lmul (pc := 44) dX12_layLook_44 ?_
    refine ok_iload_n 1 (pc := 45) dX12_layLook_45 rfl rfl ?_
    refine ok_i2l (pc := 46) dX12_layLook_46 hp1 ?_
    refine ok_lload_n 2 (pc := 47) dX12_layLook_47 rfl rfl ?_
    refine ok_lmul (pc := 48) dX12_layLook_48 ?_
    obtain ⟨h1, h⟩ := h
    obtain ⟨h2, h⟩ := h
    refine ok_lcmp (pc := 49) dX12_layLook_49 h1 h2 ?_
    refine ok_if_le (tgt := 160) (pc := 50) dX12_layLook_50 rfl r_lcmp (fun q3 => ?_) (fun q3 => ?_)
    · have h := iteF h q3
      exact ok_vret (pc := 160) dX12_layLook_160 rfl rfl h
    · have h := iteT h q3
      refine ok_bipush (pc := 53) dX12_layLook_53 rfl ?_
      refine ok_istore (L' := [(6, vI (-4)), (0, .ref (xad X 122)), (1, vI p1), (2, vL x2), (4, vL x4)]) (pc := 55) dX12_layLook_55 rfl rfl ?_
      refine ok_iconst (pc := 57) dX12_layLook_57 ?_
      refine ok_istore (L' := [(7, vI 0), (6, vI (-4)), (0, .ref (xad X 122)), (1, vI p1), (2, vL x2), (4, vL x4)]) (pc := 58) dX12_layLook_58 rfl rfl ?_
      refine ok_sub (L' := [(0, .ref (xad X 122)), (1, vI p1), (2, vL x2), (4, vL x4), (6, vI (-4)), (7, vI 0)]) [2,3,4,5,1,0] rfl ?_
      obtain ⟨n4, h⟩ := h
      exact w_X12_layLook_60 X p1 hp1 x2 x4 hx2 hx4 (fun x4_ σ_ hx4_ h_ => ih x4_ σ_ hx4_ h_) n4 (-4) 0 σ (r_lit rfl) (r_lit rfl) h
set_option maxRecDepth 100000 in
set_option maxHeartbeats 4000000 in
theorem c_X12_layLook (X : XE) (p1 : Int) (hp1 : inR p1) {σ : Mem} {Q : Int → Mem → Prop} (h : v_X12_layLook p1 σ Q) : CT X yX12_layLook cX12_layLook 8 none rm_X12_layLook 0 [.ref (xad X 122), vI p1] σ Q := by
  refine ct_of (own := RX12) (L := [(0, .ref (xad X 122)), (1, vI p1)]) rfl rfl (Nat.le_of_ble_eq_true rfl) rfl ?_
  refine ok_aload_n 0 (pc := 0) dX12_layLook_0 rfl rfl ?_
  refine ok_callVv (As := []) (rest := []) (rm := rm_X12_layThirds) (pc := 1) dX12_layLook_1 me_X12_layThirds ml_X12_280 (ci := 12) rfl sh_122 (Nat.le_of_ble_eq_true rfl) rfl des_X12_layThirds rfl ⟨rfl, rfl, rfl, rfl⟩ rfl rfl (c_X12_layThirds X h) (fun σ3 h => ?_)
  refine ok_aload_n 0 (pc := 4) dX12_layLook_4 rfl rfl ?_
  refine ok_iconst (pc := 5) dX12_layLook_5 ?_
  refine ok_putI (pc := 6) dX12_layLook_6 fl_X12_290 fp_X12_43 sh_122 (Nat.le_of_ble_eq_true rfl) rfl rfl (r_lit rfl) rfl rfl ?_
  refine ok_aload_n 0 (pc := 9) dX12_layLook_9 rfl rfl ?_
  refine ok_iconst (pc := 10) dX12_layLook_10 ?_
  refine ok_putI (pc := 11) dX12_layLook_11 fl_X12_293 fp_X12_45 sh_122 (Nat.le_of_ble_eq_true rfl) rfl rfl (r_lit rfl) rfl rfl ?_
  refine ok_aload_n 0 (pc := 14) dX12_layLook_14 rfl rfl ?_
  refine ok_getR (pc := 15) dX12_layLook_15 fl_X12_96 sh_122 (Nat.le_of_ble_eq_true rfl) rfl rfl ?_
  refine ok_iconst (pc := 18) dX12_layLook_18 ?_
  refine ok_wf (fun hw4 => ?_)
  refine ok_iald (pc := 19) dX12_layLook_19 sh_150 (Nat.le_of_ble_eq_true rfl) rfl (by decide) (by decide) ?_
  have e5 : ((mset (mset σ3 122 43 0) 122 45 0) 150 0) = (σ3 150 0) := (mset_ne (by omega)).trans (mset_ne (by omega))
  refine ok_top e5 ?_
  refine ok_aload_n 0 (pc := 20) dX12_layLook_20 rfl rfl ?_
  refine ok_getR (pc := 21) dX12_layLook_21 fl_X12_96 sh_122 (Nat.le_of_ble_eq_true rfl) rfl rfl ?_
  refine ok_iconst (pc := 24) dX12_layLook_24 ?_
  refine ok_iald (pc := 25) dX12_layLook_25 sh_150 (Nat.le_of_ble_eq_true rfl) rfl (by decide) (by decide) ?_
  have e7 : ((mset (mset σ3 122 43 0) 122 45 0) 150 1) = (σ3 150 1) := (mset_ne (by omega)).trans (mset_ne (by omega))
  refine ok_top e7 ?_
  refine ok_imul (pc := 26) dX12_layLook_26 ?_
  refine ok_aload_n 0 (pc := 27) dX12_layLook_27 rfl rfl ?_
  refine ok_getR (pc := 28) dX12_layLook_28 fl_X12_96 sh_122 (Nat.le_of_ble_eq_true rfl) rfl rfl ?_
  refine ok_iconst (pc := 31) dX12_layLook_31 ?_
  refine ok_iald (pc := 32) dX12_layLook_32 sh_150 (Nat.le_of_ble_eq_true rfl) rfl (by decide) (by decide) ?_
  have e9 : ((mset (mset σ3 122 43 0) 122 45 0) 150 2) = (σ3 150 2) := (mset_ne (by omega)).trans (mset_ne (by omega))
  refine ok_top e9 ?_
  refine ok_imul (pc := 33) dX12_layLook_33 ?_
  obtain ⟨h11, h⟩ := h
  refine ok_i2l (pc := 34) dX12_layLook_34 h11 ?_
  refine ok_lstore_n (L' := [(2, vL (((σ3 150 0) * (σ3 150 1)) * (σ3 150 2))), (0, .ref (xad X 122)), (1, vI p1)]) (pc := 35) dX12_layLook_35 rfl rfl rfl ?_
  refine ok_lload_n 0 (pc := 36) dX12_layLook_36 rfl rfl ?_
  refine ok_lstore (L' := [(4, vL (((σ3 150 0) * (σ3 150 1)) * (σ3 150 2))), (2, vL (((σ3 150 0) * (σ3 150 1)) * (σ3 150 2))), (0, .ref (xad X 122)), (1, vI p1)]) (pc := 37) dX12_layLook_37 rfl rfl ?_
  refine ok_sub (L' := [(0, .ref (xad X 122)), (1, vI p1), (2, vL (((σ3 150 0) * (σ3 150 1)) * (σ3 150 2))), (4, vL (((σ3 150 0) * (σ3 150 1)) * (σ3 150 2)))]) [2,3,1,0] rfl ?_
  obtain ⟨n12, h⟩ := h
  exact w_X12_layLook_39 X p1 hp1 (((σ3 150 0) * (σ3 150 1)) * (σ3 150 2)) (l_of_r h11) n12 (((σ3 150 0) * (σ3 150 1)) * (σ3 150 2)) (mset (mset σ3 122 43 0) 122 45 0) (l_of_r h11) h
theorem dX12_isLooked_0 : decode cX12_isLooked 0 = .ok (.aload_n 0, 1) := by decide +kernel
theorem dX12_isLooked_1 : decode cX12_isLooked 1 = .ok (.iload_n 1, 1) := by decide +kernel
theorem dX12_isLooked_2 : decode cX12_isLooked 2 = .ok (.invokevirtual 260, 3) := by decide +kernel
theorem dX12_isLooked_5 : decode cX12_isLooked 5 = .ok (.ifCond .ne 24, 3) := by decide +kernel
theorem dX12_isLooked_8 : decode cX12_isLooked 8 = .ok (.aload_n 0, 1) := by decide +kernel
theorem dX12_isLooked_9 : decode cX12_isLooked 9 = .ok (.getfield 293, 3) := by decide +kernel
theorem dX12_isLooked_12 : decode cX12_isLooked 12 = .ok (.aload_n 0, 1) := by decide +kernel
theorem dX12_isLooked_13 : decode cX12_isLooked 13 = .ok (.getfield 67, 3) := by decide +kernel
theorem dX12_isLooked_16 : decode cX12_isLooked 16 = .ok (.iload_n 1, 1) := by decide +kernel
theorem dX12_isLooked_17 : decode cX12_isLooked 17 = .ok (.iaload, 1) := by decide +kernel
theorem dX12_isLooked_18 : decode cX12_isLooked 18 = .ok (.ishr, 1) := by decide +kernel
theorem dX12_isLooked_19 : decode cX12_isLooked 19 = .ok (.iconst 1, 1) := by decide +kernel
theorem dX12_isLooked_20 : decode cX12_isLooked 20 = .ok (.iand, 1) := by decide +kernel
theorem dX12_isLooked_21 : decode cX12_isLooked 21 = .ok (.iconst 1, 1) := by decide +kernel
theorem dX12_isLooked_22 : decode cX12_isLooked 22 = .ok (.if_icmp .ne 7, 3) := by decide +kernel
theorem dX12_isLooked_25 : decode cX12_isLooked 25 = .ok (.iconst 1, 1) := by decide +kernel
theorem dX12_isLooked_26 : decode cX12_isLooked 26 = .ok (.goto 4, 3) := by decide +kernel
theorem dX12_isLooked_29 : decode cX12_isLooked 29 = .ok (.iconst 0, 1) := by decide +kernel
theorem dX12_isLooked_30 : decode cX12_isLooked 30 = .ok (.ireturn, 1) := by decide +kernel
set_option maxRecDepth 100000 in
set_option maxHeartbeats 4000000 in
theorem c_X12_isLooked (X : XE) (p1 : Int) (hp1 : inR p1) {σ : Mem} {Q : Int → Mem → Prop} (h : v_X12_isLooked p1 σ Q) : CT X yX12_isLooked cX12_isLooked 2 (some .boolean) rm_X12_isLooked 1 [.ref (xad X 122), vI p1] σ Q := by
  refine ct_of (own := RX12) (L := [(0, .ref (xad X 122)), (1, vI p1)]) rfl rfl (Nat.le_of_ble_eq_true rfl) rfl ?_
  refine ok_aload_n 0 (pc := 0) dX12_isLooked_0 rfl rfl ?_
  refine ok_iload_n 1 (pc := 1) dX12_isLooked_1 rfl rfl ?_
  refine ok_callVi (As := [vI p1]) (rest := []) (rm := rm_X12_isOut) (pc := 2) dX12_isLooked_2 me_X12_isOut ml_X12_260 (ci := 12) rfl sh_122 (Nat.le_of_ble_eq_true rfl) rfl des_X12_isOut rfl ⟨rfl, rfl, rfl, rfl⟩ rfl rfl (c_X12_isOut X p1 hp1 h) (fun r2 σ3 h1 h => ?_)
  refine ok_if_ne (tgt := 29) (pc := 5) dX12_isLooked_5 rfl h1 (fun q4 => ?_) (fun q4 => ?_)
  · have h := iteF h q4
    refine ok_iconst (pc := 29) dX12_isLooked_29 ?_
    exact ok_iret (pc := 30) dX12_isLooked_30 rfl rfl (nr_z (Or.inl rfl)) (r_lit rfl) h
  · have h := iteT h q4
    refine ok_aload_n 0 (pc := 8) dX12_isLooked_8 rfl rfl ?_
    refine ok_wf (fun hw5 => ?_)
    refine ok_getI (pc := 9) dX12_isLooked_9 fl_X12_293 sh_122 (Nat.le_of_ble_eq_true rfl) rfl rfl ?_
    refine ok_aload_n 0 (pc := 12) dX12_isLooked_12 rfl rfl ?_
    refine ok_getR (pc := 13) dX12_isLooked_13 fl_X12_67 sh_122 (Nat.le_of_ble_eq_true rfl) rfl rfl ?_
    refine ok_iload_n 1 (pc := 16) dX12_isLooked_16 rfl rfl ?_
    obtain ⟨h6, h⟩ := h
    obtain ⟨h7, h⟩ := h
    refine ok_iald (pc := 17) dX12_isLooked_17 sh_142 (Nat.le_of_ble_eq_true rfl) rfl h6 h7 ?_
    refine ok_ishr (pc := 18) dX12_isLooked_18 ?_
    refine ok_iconst (pc := 19) dX12_isLooked_19 ?_
    refine ok_iand (pc := 20) dX12_isLooked_20 ?_
    refine ok_iconst (pc := 21) dX12_isLooked_21 ?_
    refine ok_icmp_ne (tgt := 29) (pc := 22) dX12_isLooked_22 rfl (q_rng _) (r_lit rfl) (fun q8 => ?_) (fun q8 => ?_)
    · have h := iteF h q8
      refine ok_iconst (pc := 29) dX12_isLooked_29 ?_
      exact ok_iret (pc := 30) dX12_isLooked_30 rfl rfl (nr_z (Or.inl rfl)) (r_lit rfl) h
    · have h := iteT h q8
      refine ok_iconst (pc := 25) dX12_isLooked_25 ?_
      refine ok_goto (tgt := 30) (pc := 26) dX12_isLooked_26 rfl ?_
      exact ok_iret (pc := 30) dX12_isLooked_30 rfl rfl (nr_z (Or.inr rfl)) (r_lit rfl) h
theorem dX12_look_0 : decode cX12_look 0 = .ok (.iload_n 1, 1) := by decide +kernel
theorem dX12_look_1 : decode cX12_look 1 = .ok (.i2l, 1) := by decide +kernel
theorem dX12_look_2 : decode cX12_look 2 = .ok (.lconst 0, 1) := by decide +kernel
theorem dX12_look_3 : decode cX12_look 3 = .ok (.ldc2_w 235, 3) := by decide +kernel
theorem dX12_look_6 : decode cX12_look 6 = .ok (.invokestatic 137, 3) := by decide +kernel
theorem dX12_look_9 : decode cX12_look 9 = .ok (.ifCond .eq 29, 3) := by decide +kernel
theorem dX12_look_12 : decode cX12_look 12 = .ok (.iload_n 2, 1) := by decide +kernel
theorem dX12_look_13 : decode cX12_look 13 = .ok (.i2l, 1) := by decide +kernel
theorem dX12_look_14 : decode cX12_look 14 = .ok (.lconst 0, 1) := by decide +kernel
theorem dX12_look_15 : decode cX12_look 15 = .ok (.ldc2_w 245, 3) := by decide +kernel
theorem dX12_look_18 : decode cX12_look 18 = .ok (.invokestatic 137, 3) := by decide +kernel
theorem dX12_look_21 : decode cX12_look 21 = .ok (.ifCond .ne 19, 3) := by decide +kernel
theorem dX12_look_24 : decode cX12_look 24 = .ok (.iload_n 2, 1) := by decide +kernel
theorem dX12_look_25 : decode cX12_look 25 = .ok (.i2l, 1) := by decide +kernel
theorem dX12_look_26 : decode cX12_look 26 = .ok (.ldc2_w 298, 3) := by decide +kernel
theorem dX12_look_29 : decode cX12_look 29 = .ok (.ldc2_w 300, 3) := by decide +kernel
theorem dX12_look_32 : decode cX12_look 32 = .ok (.invokestatic 137, 3) := by decide +kernel
theorem dX12_look_35 : decode cX12_look 35 = .ok (.ifCond .ne 5, 3) := by decide +kernel
theorem dX12_look_38 : decode cX12_look 38 = .ok (.iconst (-1), 1) := by decide +kernel
theorem dX12_look_39 : decode cX12_look 39 = .ok (.ireturn, 1) := by decide +kernel
theorem dX12_look_40 : decode cX12_look 40 = .ok (.aload_n 0, 1) := by decide +kernel
theorem dX12_look_41 : decode cX12_look 41 = .ok (.getfield 86, 3) := by decide +kernel
theorem dX12_look_44 : decode cX12_look 44 = .ok (.bipush (-4), 2) := by decide +kernel
theorem dX12_look_46 : decode cX12_look 46 = .ok (.if_icmp .ne 6, 3) := by decide +kernel
theorem dX12_look_49 : decode cX12_look 49 = .ok (.bipush (-2), 2) := by decide +kernel
theorem dX12_look_51 : decode cX12_look 51 = .ok (.ireturn, 1) := by decide +kernel
theorem dX12_look_52 : decode cX12_look 52 = .ok (.aload_n 0, 1) := by decide +kernel
theorem dX12_look_53 : decode cX12_look 53 = .ok (.iload_n 1, 1) := by decide +kernel
theorem dX12_look_54 : decode cX12_look 54 = .ok (.invokevirtual 302, 3) := by decide +kernel
theorem dX12_look_57 : decode cX12_look 57 = .ok (.iconst 0, 1) := by decide +kernel
theorem dX12_look_58 : decode cX12_look 58 = .ok (.istore_n 3, 1) := by decide +kernel
theorem dX12_look_59 : decode cX12_look 59 = .ok (.iconst 0, 1) := by decide +kernel
theorem dX12_look_60 : decode cX12_look 60 = .ok (.istore 4, 2) := by decide +kernel
theorem dX12_look_62 : decode cX12_look 62 = .ok (.iload 4, 2) := by decide +kernel
theorem dX12_look_64 : decode cX12_look 64 = .ok (.aload_n 0, 1) := by decide +kernel
theorem dX12_look_65 : decode cX12_look 65 = .ok (.getfield 232, 3) := by decide +kernel
theorem dX12_look_68 : decode cX12_look 68 = .ok (.if_icmp .ge 26, 3) := by decide +kernel
theorem dX12_look_71 : decode cX12_look 71 = .ok (.iload_n 3, 1) := by decide +kernel
theorem dX12_look_72 : decode cX12_look 72 = .ok (.aload_n 0, 1) := by decide +kernel
theorem dX12_look_73 : decode cX12_look 73 = .ok (.iload 4, 2) := by decide +kernel
theorem dX12_look_75 : decode cX12_look 75 = .ok (.invokevirtual 305, 3) := by decide +kernel
theorem dX12_look_78 : decode cX12_look 78 = .ok (.ifCond .eq 7, 3) := by decide +kernel
theorem dX12_look_81 : decode cX12_look 81 = .ok (.iconst 1, 1) := by decide +kernel
theorem dX12_look_82 : decode cX12_look 82 = .ok (.goto 4, 3) := by decide +kernel
theorem dX12_look_85 : decode cX12_look 85 = .ok (.iconst 0, 1) := by decide +kernel
theorem dX12_look_86 : decode cX12_look 86 = .ok (.iadd, 1) := by decide +kernel
theorem dX12_look_87 : decode cX12_look 87 = .ok (.istore_n 3, 1) := by decide +kernel
theorem dX12_look_88 : decode cX12_look 88 = .ok (.iinc 4 1, 3) := by decide +kernel
theorem dX12_look_91 : decode cX12_look 91 = .ok (.goto (-29), 3) := by decide +kernel
theorem dX12_look_94 : decode cX12_look 94 = .ok (.iload_n 2, 1) := by decide +kernel
theorem dX12_look_95 : decode cX12_look 95 = .ok (.ifCond .ne 10, 3) := by decide +kernel
theorem dX12_look_98 : decode cX12_look 98 = .ok (.aload_n 0, 1) := by decide +kernel
theorem dX12_look_99 : decode cX12_look 99 = .ok (.getfield 290, 3) := by decide +kernel
theorem dX12_look_102 : decode cX12_look 102 = .ok (.goto 49, 3) := by decide +kernel
theorem dX12_look_105 : decode cX12_look 105 = .ok (.iload_n 2, 1) := by decide +kernel
theorem dX12_look_106 : decode cX12_look 106 = .ok (.iconst 1, 1) := by decide +kernel
theorem dX12_look_107 : decode cX12_look 107 = .ok (.if_icmp .ne 10, 3) := by decide +kernel
theorem dX12_look_110 : decode cX12_look 110 = .ok (.aload_n 0, 1) := by decide +kernel
theorem dX12_look_111 : decode cX12_look 111 = .ok (.getfield 293, 3) := by decide +kernel
theorem dX12_look_114 : decode cX12_look 114 = .ok (.goto 37, 3) := by decide +kernel
theorem dX12_look_117 : decode cX12_look 117 = .ok (.iload_n 2, 1) := by decide +kernel
theorem dX12_look_118 : decode cX12_look 118 = .ok (.iconst 2, 1) := by decide +kernel
theorem dX12_look_119 : decode cX12_look 119 = .ok (.if_icmp .ne 7, 3) := by decide +kernel
theorem dX12_look_122 : decode cX12_look 122 = .ok (.iload_n 3, 1) := by decide +kernel
theorem dX12_look_123 : decode cX12_look 123 = .ok (.goto 28, 3) := by decide +kernel
theorem dX12_look_126 : decode cX12_look 126 = .ok (.iload_n 2, 1) := by decide +kernel
theorem dX12_look_127 : decode cX12_look 127 = .ok (.bipush 10, 2) := by decide +kernel
theorem dX12_look_129 : decode cX12_look 129 = .ok (.isub, 1) := by decide +kernel
theorem dX12_look_130 : decode cX12_look 130 = .ok (.aload_n 0, 1) := by decide +kernel
theorem dX12_look_131 : decode cX12_look 131 = .ok (.getfield 290, 3) := by decide +kernel
theorem dX12_look_134 : decode cX12_look 134 = .ok (.if_icmp .ge 15, 3) := by decide +kernel
theorem dX12_look_137 : decode cX12_look 137 = .ok (.aload_n 0, 1) := by decide +kernel
theorem dX12_look_138 : decode cX12_look 138 = .ok (.getfield 99, 3) := by decide +kernel
theorem dX12_look_141 : decode cX12_look 141 = .ok (.iload_n 2, 1) := by decide +kernel
theorem dX12_look_142 : decode cX12_look 142 = .ok (.bipush 10, 2) := by decide +kernel
theorem dX12_look_144 : decode cX12_look 144 = .ok (.isub, 1) := by decide +kernel
theorem dX12_look_145 : decode cX12_look 145 = .ok (.iaload, 1) := by decide +kernel
theorem dX12_look_146 : decode cX12_look 146 = .ok (.goto 5, 3) := by decide +kernel
theorem dX12_look_149 : decode cX12_look 149 = .ok (.bipush (-4), 2) := by decide +kernel
theorem dX12_look_151 : decode cX12_look 151 = .ok (.ireturn, 1) := by decide +kernel
set_option maxRecDepth 100000 in
set_option maxHeartbeats 4000000 in
theorem w_X12_look_62 (X : XE) (p1 : Int) (p2 : Int) (hp1 : inR p1) (hp2 : inR p2) {Q : Int → Mem → Prop} : ∀ (n : Nat) (x3 : Int) (x4 : Int) (σ : Mem), inR x3 → inR x4 → l_X12_look_62 p1 p2 Q n x3 x4 σ → ok X rm_X12_look RX12 cX12_look 5 (some .int) 1 Q 62 [(0, .ref (xad X 122)), (2, vI p2), (3, vI x3), (4, vI x4)] [] σ := by
  intro n
  induction n with
  | zero => intro x3 x4 σ hx3 hx4 h; exact False.elim h
  | succ n ih =>
    intro x3 x4 σ hx3 hx4 h
    refine ok_iload 3 (pc := 62) dX12_look_62 rfl ?_
    refine ok_aload_n 0 (pc := 64) dX12_look_64 rfl rfl ?_
    refine ok_wf (fun hw1 => ?_)
    refine ok_getI (pc := 65) dX12_look_65 fl_X12_232 sh_122 (Nat.le_of_ble_eq_true rfl) rfl rfl ?_
    refine ok_icmp_ge (tgt := 94) (pc := 68) dX12_look_68 rfl hx4 (hw1 _ _) (fun q2 => ?_) (fun q2 => ?_)
    · have h := iteF h q2
      refine ok_iload_n 1 (pc := 94) dX12_look_94 rfl rfl ?_
      refine ok_if_ne (tgt := 105) (pc := 95) dX12_look_95 rfl hp2 (fun q3 => ?_) (fun q3 => ?_)
      · have h := iteF h q3
        refine ok_iload_n 1 (pc := 105) dX12_look_105 rfl rfl ?_
        refine ok_iconst (pc := 106) dX12_look_106 ?_
        refine ok_icmp_ne (tgt := 117) (pc := 107) dX12_look_107 rfl hp2 (r_lit rfl) (fun q4 => ?_) (fun q4 => ?_)
        · have h := iteF h q4
          refine ok_iload_n 1 (pc := 117) dX12_look_117 rfl rfl ?_
          refine ok_iconst (pc := 118) dX12_look_118 ?_
          refine ok_icmp_ne (tgt := 126) (pc := 119) dX12_look_119 rfl hp2 (r_lit rfl) (fun q5 => ?_) (fun q5 => ?_)
          · have h := iteF h q5
            refine ok_iload_n 1 (pc := 126) dX12_look_126 rfl rfl ?_
            refine ok_bipush (pc := 127) dX12_look_127 rfl ?_
            refine ok_isub (pc := 129) dX12_look_129 ?_
            refine ok_aload_n 0 (pc := 130) dX12_look_130 rfl rfl ?_
            refine ok_getI (pc := 131) dX12_look_131 fl_X12_290 sh_122 (Nat.le_of_ble_eq_true rfl) rfl rfl ?_
            obtain ⟨h6, h⟩ := h
            refine ok_icmp_ge (tgt := 149) (pc := 134) dX12_look_134 rfl h6 (hw1 _ _) (fun q7 => ?_) (fun q7 => ?_)
            · have h := iteF h q7
              refine ok_bipush (pc := 149) dX12_look_149 rfl ?_
              exact ok_iret (pc := 151) dX12_look_151 rfl rfl rfl (r_lit rfl) h
            · have h := iteT h q7
              refine ok_aload_n 0 (pc := 137) dX12_look_137 rfl rfl ?_
              refine ok_getR (pc := 138) dX12_look_138 fl_X12_99 sh_122 (Nat.le_of_ble_eq_true rfl) rfl rfl ?_
              refine ok_iload_n 1 (pc := 141) dX12_look_141 rfl rfl ?_
              refine ok_bipush (pc := 142) dX12_look_142 rfl ?_
              refine ok_isub (pc := 144) dX12_look_144 ?_
              obtain ⟨h8, h⟩ := h
              obtain ⟨h9, h⟩ := h
              refine ok_iald (pc := 145) dX12_look_145 sh_151 (Nat.le_of_ble_eq_true rfl) rfl h8 h9 ?_
              refine ok_goto (tgt := 151) (pc := 146) dX12_look_146 rfl ?_
              exact ok_iret (pc := 151) dX12_look_151 rfl rfl rfl (hw1 _ _) h
          · have h := iteT h q5
            refine ok_iload_n 2 (pc := 122) dX12_look_122 rfl rfl ?_
            refine ok_goto (tgt := 151) (pc := 123) dX12_look_123 rfl ?_
            exact ok_iret (pc := 151) dX12_look_151 rfl rfl rfl hx3 h
        · have h := iteT h q4
          refine ok_aload_n 0 (pc := 110) dX12_look_110 rfl rfl ?_
          refine ok_getI (pc := 111) dX12_look_111 fl_X12_293 sh_122 (Nat.le_of_ble_eq_true rfl) rfl rfl ?_
          refine ok_goto (tgt := 151) (pc := 114) dX12_look_114 rfl ?_
          exact ok_iret (pc := 151) dX12_look_151 rfl rfl rfl (hw1 _ _) h
      · have h := iteT h q3
        refine ok_aload_n 0 (pc := 98) dX12_look_98 rfl rfl ?_
        refine ok_getI (pc := 99) dX12_look_99 fl_X12_290 sh_122 (Nat.le_of_ble_eq_true rfl) rfl rfl ?_
        refine ok_goto (tgt := 151) (pc := 102) dX12_look_102 rfl ?_
        exact ok_iret (pc := 151) dX12_look_151 rfl rfl rfl (hw1 _ _) h
    · have h := iteT h q2
      refine ok_iload_n 2 (pc := 71) dX12_look_71 rfl rfl ?_
      refine ok_aload_n 0 (pc := 72) dX12_look_72 rfl rfl ?_
      refine ok_iload 3 (pc := 73) dX12_look_73 rfl ?_
      refine ok_callVi (As := [vI x4]) (rest := [vI x3]) (rm := rm_X12_isLooked) (pc := 75) dX12_look_75 me_X12_isLooked ml_X12_305 (ci := 12) rfl sh_122 (Nat.le_of_ble_eq_true rfl) rfl des_X12_isLooked rfl ⟨rfl, rfl, rfl, rfl⟩ rfl rfl (c_X12_isLooked X x4 hx4 h) (fun r11 σ12 h10 h => ?_)
      refine ok_if_eq (tgt := 85) (pc := 78) dX12_look_78 rfl h10 (fun q13 => ?_) (fun q13 => ?_)
      · have h := iteT h q13
        refine ok_iconst (pc := 85) dX12_look_85 ?_
        refine ok_iadd (pc := 86) dX12_look_86 ?_
        refine ok_istore_n (L' := [(3, vI (x3 + 0)), (0, .ref (xad X 122)), (2, vI p2), (4, vI x4)]) (pc := 87) dX12_look_87 rfl rfl rfl ?_
        refine ok_iinc (L' := [(4, vI (x4 + 1)), (3, vI (x3 + 0)), (0, .ref (xad X 122)), (2, vI p2)]) 3 (pc := 88) dX12_look_88 rfl rfl rfl ?_
        refine ok_goto (tgt := 62) (pc := 91) dX12_look_91 rfl ?_
        obtain ⟨h14, h⟩ := h
        obtain ⟨h15, h⟩ := h
        refine ok_sub (L' := [(0, .ref (xad X 122)), (2, vI p2), (3, vI (x3 + 0)), (4, vI (x4 + 1))]) [2,3,1,0] rfl ?_
        exact ih (x3 + 0) (x4 + 1) σ12 h14 h15 h
      · have h := iteF h q13
        refine ok_iconst (pc := 81) dX12_look_81 ?_
        refine ok_goto (tgt := 86) (pc := 82) dX12_look_82 rfl ?_
        refine ok_iadd (pc := 86) dX12_look_86 ?_
        refine ok_istore_n (L' := [(3, vI (x3 + 1)), (0, .ref (xad X 122)), (2, vI p2), (4, vI x4)]) (pc := 87) dX12_look_87 rfl rfl rfl ?_
        refine ok_iinc (L' := [(4, vI (x4 + 1)), (3, vI (x3 + 1)), (0, .ref (xad X 122)), (2, vI p2)]) 3 (pc := 88) dX12_look_88 rfl rfl rfl ?_
        refine ok_goto (tgt := 62) (pc := 91) dX12_look_91 rfl ?_
        obtain ⟨h16, h⟩ := h
        obtain ⟨h17, h⟩ := h
        refine ok_sub (L' := [(0, .ref (xad X 122)), (2, vI p2), (3, vI (x3 + 1)), (4, vI (x4 + 1))]) [2,3,1,0] rfl ?_
        exact ih (x3 + 1) (x4 + 1) σ12 h16 h17 h
set_option maxRecDepth 100000 in
set_option maxHeartbeats 4000000 in
theorem w_X12_look_40 (X : XE) (p1 : Int) (p2 : Int) (hp1 : inR p1) (hp2 : inR p2) {Q : Int → Mem → Prop} {σ : Mem} (h : j_X12_look_40 p1 p2 Q σ) : ok X rm_X12_look RX12 cX12_look 5 (some .int) 1 Q 40 [(0, .ref (xad X 122)), (1, vI p1), (2, vI p2)] [] σ := by
  refine ok_aload_n 0 (pc := 40) dX12_look_40 rfl rfl ?_
  refine ok_wf (fun hw1 => ?_)
  refine ok_getI (pc := 41) dX12_look_41 fl_X12_86 sh_122 (Nat.le_of_ble_eq_true rfl) rfl rfl ?_
  refine ok_bipush (pc := 44) dX12_look_44 rfl ?_
  refine ok_icmp_ne (tgt := 52) (pc := 46) dX12_look_46 rfl (hw1 _ _) (r_lit rfl) (fun q2 => ?_) (fun q2 => ?_)
  · have h := iteF h q2
    refine ok_aload_n 0 (pc := 52) dX12_look_52 rfl rfl ?_
    refine ok_iload_n 1 (pc := 53) dX12_look_53 rfl rfl ?_
    refine ok_callVv (As := [vI p1]) (rest := []) (rm := rm_X12_layLook) (pc := 54) dX12_look_54 me_X12_layLook ml_X12_302 (ci := 12) rfl sh_122 (Nat.le_of_ble_eq_true rfl) rfl des_X12_layLook rfl ⟨rfl, rfl, rfl, rfl⟩ rfl rfl (c_X12_layLook X p1 hp1 h) (fun σ5 h => ?_)
    refine ok_iconst (pc := 57) dX12_look_57 ?_
    refine ok_istore_n (L' := [(3, vI 0), (0, .ref (xad X 122)), (1, vI p1), (2, vI p2)]) (pc := 58) dX12_look_58 rfl rfl rfl ?_
    refine ok_iconst (pc := 59) dX12_look_59 ?_
    refine ok_istore (L' := [(4, vI 0), (3, vI 0), (0, .ref (xad X 122)), (1, vI p1), (2, vI p2)]) (pc := 60) dX12_look_60 rfl rfl ?_
    refine ok_sub (L' := [(0, .ref (xad X 122)), (2, vI p2), (3, vI 0), (4, vI 0)]) [2,4,1,0] rfl ?_
    obtain ⟨n6, h⟩ := h
    exact w_X12_look_62 X p1 p2 hp1 hp2 n6 0 0 σ5 (r_lit rfl) (r_lit rfl) h
  · have h := iteT h q2
    refine ok_bipush (pc := 49) dX12_look_49 rfl ?_
    exact ok_iret (pc := 51) dX12_look_51 rfl rfl rfl (r_lit rfl) h
set_option maxRecDepth 100000 in
set_option maxHeartbeats 4000000 in
theorem c_X12_look (X : XE) (p1 : Int) (p2 : Int) (hp1 : inR p1) (hp2 : inR p2) {σ : Mem} {Q : Int → Mem → Prop} (h : v_X12_look p1 p2 σ Q) : CT X yX12_look cX12_look 5 (some .int) rm_X12_look 1 [.ref (xad X 122), vI p1, vI p2] σ Q := by
  refine ct_of (own := RX12) (L := [(0, .ref (xad X 122)), (1, vI p1), (2, vI p2)]) rfl rfl (Nat.le_of_ble_eq_true rfl) rfl ?_
  refine ok_iload_n 1 (pc := 0) dX12_look_0 rfl rfl ?_
  refine ok_i2l (pc := 1) dX12_look_1 hp1 ?_
  refine ok_lconst (v := 0) (pc := 2) dX12_look_2 rfl ?_
  refine ok_ldc2 (pc := 3) dX12_look_3 cn_X12_235 ?_
  refine ok_callSi (As := [vL p1, vL 0, vL 999]) (rest := []) (rm := rm_X12_in) (pc := 6) dX12_look_6 me_X12_in ml_X12_137 des_X12_in rfl ⟨rfl, rfl, rfl, rfl⟩ rfl rfl (c_X12_in X p1 0 999 (l_of_r hp1) (l_of_r (r_lit rfl)) (l_of_r (r_lit rfl)) h) (fun r2 σ3 h1 h => ?_)
  refine ok_if_eq (tgt := 38) (pc := 9) dX12_look_9 rfl h1 (fun q4 => ?_) (fun q4 => ?_)
  · have h := iteT h q4
    refine ok_iconst (pc := 38) dX12_look_38 ?_
    exact ok_iret (pc := 39) dX12_look_39 rfl rfl rfl (r_lit rfl) h
  · have h := iteF h q4
    refine ok_iload_n 2 (pc := 12) dX12_look_12 rfl rfl ?_
    refine ok_i2l (pc := 13) dX12_look_13 hp2 ?_
    refine ok_lconst (v := 0) (pc := 14) dX12_look_14 rfl ?_
    refine ok_ldc2 (pc := 15) dX12_look_15 cn_X12_245 ?_
    refine ok_callSi (As := [vL p2, vL 0, vL 2]) (rest := []) (rm := rm_X12_in) (pc := 18) dX12_look_18 me_X12_in ml_X12_137 des_X12_in rfl ⟨rfl, rfl, rfl, rfl⟩ rfl rfl (c_X12_in X p2 0 2 (l_of_r hp2) (l_of_r (r_lit rfl)) (l_of_r (r_lit rfl)) h) (fun r6 σ7 h5 h => ?_)
    refine ok_if_ne (tgt := 40) (pc := 21) dX12_look_21 rfl h5 (fun q8 => ?_) (fun q8 => ?_)
    · have h := iteF h q8
      exact w_X12_look_40 X p1 p2 hp1 hp2   h
    · have h := iteT h q8
      refine ok_iload_n 2 (pc := 24) dX12_look_24 rfl rfl ?_
      refine ok_i2l (pc := 25) dX12_look_25 hp2 ?_
      refine ok_ldc2 (pc := 26) dX12_look_26 cn_X12_298 ?_
      refine ok_ldc2 (pc := 29) dX12_look_29 cn_X12_300 ?_
      refine ok_callSi (As := [vL p2, vL 10, vL 36]) (rest := []) (rm := rm_X12_in) (pc := 32) dX12_look_32 me_X12_in ml_X12_137 des_X12_in rfl ⟨rfl, rfl, rfl, rfl⟩ rfl rfl (c_X12_in X p2 10 36 (l_of_r hp2) (l_of_r (r_lit rfl)) (l_of_r (r_lit rfl)) h) (fun r10 σ11 h9 h => ?_)
      refine ok_if_ne (tgt := 40) (pc := 35) dX12_look_35 rfl h9 (fun q12 => ?_) (fun q12 => ?_)
      · have h := iteF h q12
        exact w_X12_look_40 X p1 p2 hp1 hp2   h
      · have h := iteT h q12
        refine ok_iconst (pc := 38) dX12_look_38 ?_
        exact ok_iret (pc := 39) dX12_look_39 rfl rfl rfl (r_lit rfl) h
theorem dX12_grownOf_0 : decode cX12_grownOf 0 = .ok (.aload_n 0, 1) := by decide +kernel
theorem dX12_grownOf_1 : decode cX12_grownOf 1 = .ok (.getfield 55, 3) := by decide +kernel
theorem dX12_grownOf_4 : decode cX12_grownOf 4 = .ok (.iconst 4, 1) := by decide +kernel
theorem dX12_grownOf_5 : decode cX12_grownOf 5 = .ok (.iload_n 1, 1) := by decide +kernel
theorem dX12_grownOf_6 : decode cX12_grownOf 6 = .ok (.imul, 1) := by decide +kernel
theorem dX12_grownOf_7 : decode cX12_grownOf 7 = .ok (.iload_n 2, 1) := by decide +kernel
theorem dX12_grownOf_8 : decode cX12_grownOf 8 = .ok (.iadd, 1) := by decide +kernel
theorem dX12_grownOf_9 : decode cX12_grownOf 9 = .ok (.iaload, 1) := by decide +kernel
theorem dX12_grownOf_10 : decode cX12_grownOf 10 = .ok (.istore 4, 2) := by decide +kernel
theorem dX12_grownOf_12 : decode cX12_grownOf 12 = .ok (.iload 4, 2) := by decide +kernel
theorem dX12_grownOf_14 : decode cX12_grownOf 14 = .ok (.ifCond .eq 13, 3) := by decide +kernel
theorem dX12_grownOf_17 : decode cX12_grownOf 17 = .ok (.aload_n 0, 1) := by decide +kernel
theorem dX12_grownOf_18 : decode cX12_grownOf 18 = .ok (.getfield 52, 3) := by decide +kernel
theorem dX12_grownOf_21 : decode cX12_grownOf 21 = .ok (.iload_n 1, 1) := by decide +kernel
theorem dX12_grownOf_22 : decode cX12_grownOf 22 = .ok (.iaload, 1) := by decide +kernel
theorem dX12_grownOf_23 : decode cX12_grownOf 23 = .ok (.iconst 1, 1) := by decide +kernel
theorem dX12_grownOf_24 : decode cX12_grownOf 24 = .ok (.if_icmp .eq 8, 3) := by decide +kernel
theorem dX12_grownOf_27 : decode cX12_grownOf 27 = .ok (.iload 4, 2) := by decide +kernel
theorem dX12_grownOf_29 : decode cX12_grownOf 29 = .ok (.goto 24, 3) := by decide +kernel
theorem dX12_grownOf_32 : decode cX12_grownOf 32 = .ok (.iload 4, 2) := by decide +kernel
theorem dX12_grownOf_34 : decode cX12_grownOf 34 = .ok (.aload_n 0, 1) := by decide +kernel
theorem dX12_grownOf_35 : decode cX12_grownOf 35 = .ok (.iload_n 2, 1) := by decide +kernel
theorem dX12_grownOf_36 : decode cX12_grownOf 36 = .ok (.iload_n 3, 1) := by decide +kernel
theorem dX12_grownOf_37 : decode cX12_grownOf 37 = .ok (.invokevirtual 229, 3) := by decide +kernel
theorem dX12_grownOf_40 : decode cX12_grownOf 40 = .ok (.iload_n 3, 1) := by decide +kernel
theorem dX12_grownOf_41 : decode cX12_grownOf 41 = .ok (.aload_n 0, 1) := by decide +kernel
theorem dX12_grownOf_42 : decode cX12_grownOf 42 = .ok (.getfield 64, 3) := by decide +kernel
theorem dX12_grownOf_45 : decode cX12_grownOf 45 = .ok (.iload_n 1, 1) := by decide +kernel
theorem dX12_grownOf_46 : decode cX12_grownOf 46 = .ok (.iaload, 1) := by decide +kernel
theorem dX12_grownOf_47 : decode cX12_grownOf 47 = .ok (.isub, 1) := by decide +kernel
theorem dX12_grownOf_48 : decode cX12_grownOf 48 = .ok (.imul, 1) := by decide +kernel
theorem dX12_grownOf_49 : decode cX12_grownOf 49 = .ok (.bipush 100, 2) := by decide +kernel
theorem dX12_grownOf_51 : decode cX12_grownOf 51 = .ok (.idiv, 1) := by decide +kernel
theorem dX12_grownOf_52 : decode cX12_grownOf 52 = .ok (.iadd, 1) := by decide +kernel
theorem dX12_grownOf_53 : decode cX12_grownOf 53 = .ok (.ireturn, 1) := by decide +kernel
set_option maxRecDepth 100000 in
set_option maxHeartbeats 4000000 in
theorem c_X12_grownOf (X : XE) (p1 : Int) (p2 : Int) (p3 : Int) (hp1 : inR p1) (hp2 : inR p2) (hp3 : inR p3) {σ : Mem} {Q : Int → Mem → Prop} (h : v_X12_grownOf p1 p2 p3 σ Q) : CT X yX12_grownOf cX12_grownOf 5 (some .int) rm_X12_grownOf 1 [.ref (xad X 122), vI p1, vI p2, vI p3] σ Q := by
  refine ct_of (own := RX12) (L := [(0, .ref (xad X 122)), (1, vI p1), (2, vI p2), (3, vI p3)]) rfl rfl (Nat.le_of_ble_eq_true rfl) rfl ?_
  refine ok_aload_n 0 (pc := 0) dX12_grownOf_0 rfl rfl ?_
  refine ok_getR (pc := 1) dX12_grownOf_1 fl_X12_55 sh_122 (Nat.le_of_ble_eq_true rfl) rfl rfl ?_
  refine ok_iconst (pc := 4) dX12_grownOf_4 ?_
  refine ok_iload_n 1 (pc := 5) dX12_grownOf_5 rfl rfl ?_
  refine ok_imul (pc := 6) dX12_grownOf_6 ?_
  refine ok_iload_n 2 (pc := 7) dX12_grownOf_7 rfl rfl ?_
  refine ok_iadd (pc := 8) dX12_grownOf_8 ?_
  obtain ⟨h1, h⟩ := h
  obtain ⟨h2, h⟩ := h
  refine ok_wf (fun hw3 => ?_)
  refine ok_iald (pc := 9) dX12_grownOf_9 sh_138 (Nat.le_of_ble_eq_true rfl) rfl h1 h2 ?_
  refine ok_istore (L' := [(4, vI (σ 138 ((4 * p1) + p2).toNat)), (0, .ref (xad X 122)), (1, vI p1), (2, vI p2), (3, vI p3)]) (pc := 10) dX12_grownOf_10 rfl rfl ?_
  refine ok_iload 0 (pc := 12) dX12_grownOf_12 rfl ?_
  refine ok_if_eq (tgt := 27) (pc := 14) dX12_grownOf_14 rfl (hw3 _ _) (fun q4 => ?_) (fun q4 => ?_)
  · have h := iteT h q4
    refine ok_iload 0 (pc := 27) dX12_grownOf_27 rfl ?_
    refine ok_goto (tgt := 53) (pc := 29) dX12_grownOf_29 rfl ?_
    exact ok_iret (pc := 53) dX12_grownOf_53 rfl rfl rfl (hw3 _ _) h
  · have h := iteF h q4
    refine ok_aload_n 1 (pc := 17) dX12_grownOf_17 rfl rfl ?_
    refine ok_getR (pc := 18) dX12_grownOf_18 fl_X12_52 sh_122 (Nat.le_of_ble_eq_true rfl) rfl rfl ?_
    refine ok_iload_n 2 (pc := 21) dX12_grownOf_21 rfl rfl ?_
    obtain ⟨h5, h⟩ := h
    obtain ⟨h6, h⟩ := h
    refine ok_iald (pc := 22) dX12_grownOf_22 sh_137 (Nat.le_of_ble_eq_true rfl) rfl h5 h6 ?_
    refine ok_iconst (pc := 23) dX12_grownOf_23 ?_
    refine ok_icmp_eq (tgt := 32) (pc := 24) dX12_grownOf_24 rfl (hw3 _ _) (r_lit rfl) (fun q7 => ?_) (fun q7 => ?_)
    · have h := iteT h q7
      refine ok_iload 0 (pc := 32) dX12_grownOf_32 rfl ?_
      refine ok_aload_n 1 (pc := 34) dX12_grownOf_34 rfl rfl ?_
      refine ok_iload_n 3 (pc := 35) dX12_grownOf_35 rfl rfl ?_
      refine ok_iload_n 4 (pc := 36) dX12_grownOf_36 rfl rfl ?_
      refine ok_callVi (As := [vI p2, vI p3]) (rest := [vI (σ 138 ((4 * p1) + p2).toNat)]) (rm := rm_X12_growOf) (pc := 37) dX12_grownOf_37 me_X12_growOf ml_X12_229 (ci := 12) rfl sh_122 (Nat.le_of_ble_eq_true rfl) rfl des_X12_growOf rfl ⟨rfl, rfl, rfl, rfl⟩ rfl rfl (c_X12_growOf X p2 p3 hp2 hp3 h) (fun r9 σ10 h8 h => ?_)
      refine ok_iload_n 4 (pc := 40) dX12_grownOf_40 rfl rfl ?_
      refine ok_aload_n 1 (pc := 41) dX12_grownOf_41 rfl rfl ?_
      refine ok_getR (pc := 42) dX12_grownOf_42 fl_X12_64 sh_122 (Nat.le_of_ble_eq_true rfl) rfl rfl ?_
      refine ok_iload_n 2 (pc := 45) dX12_grownOf_45 rfl rfl ?_
      refine ok_wf (fun hw11 => ?_)
      refine ok_iald (pc := 46) dX12_grownOf_46 sh_141 (Nat.le_of_ble_eq_true rfl) rfl h5 h6 ?_
      refine ok_isub (pc := 47) dX12_grownOf_47 ?_
      refine ok_imul (pc := 48) dX12_grownOf_48 ?_
      refine ok_bipush (pc := 49) dX12_grownOf_49 rfl ?_
      obtain ⟨h12, h⟩ := h
      refine ok_idiv (pc := 51) dX12_grownOf_51 h12 (r_lit rfl) (by decide) ?_
      refine ok_iadd (pc := 52) dX12_grownOf_52 ?_
      obtain ⟨h13, h⟩ := h
      exact ok_iret (pc := 53) dX12_grownOf_53 rfl rfl rfl h13 h
    · have h := iteF h q7
      refine ok_iload 0 (pc := 27) dX12_grownOf_27 rfl ?_
      refine ok_goto (tgt := 53) (pc := 29) dX12_grownOf_29 rfl ?_
      exact ok_iret (pc := 53) dX12_grownOf_53 rfl rfl rfl (hw3 _ _) h
theorem dX12_grown_0 : decode cX12_grown 0 = .ok (.aload_n 0, 1) := by decide +kernel
theorem dX12_grown_1 : decode cX12_grown 1 = .ok (.iload_n 1, 1) := by decide +kernel
theorem dX12_grown_2 : decode cX12_grown 2 = .ok (.invokevirtual 257, 3) := by decide +kernel
theorem dX12_grown_5 : decode cX12_grown 5 = .ok (.ifCond .eq 33, 3) := by decide +kernel
theorem dX12_grown_8 : decode cX12_grown 8 = .ok (.iload_n 2, 1) := by decide +kernel
theorem dX12_grown_9 : decode cX12_grown 9 = .ok (.i2l, 1) := by decide +kernel
theorem dX12_grown_10 : decode cX12_grown 10 = .ok (.lconst 0, 1) := by decide +kernel
theorem dX12_grown_11 : decode cX12_grown 11 = .ok (.ldc2_w 269, 3) := by decide +kernel
theorem dX12_grown_14 : decode cX12_grown 14 = .ok (.invokestatic 137, 3) := by decide +kernel
theorem dX12_grown_17 : decode cX12_grown 17 = .ok (.ifCond .eq 21, 3) := by decide +kernel
theorem dX12_grown_20 : decode cX12_grown 20 = .ok (.iload_n 3, 1) := by decide +kernel
theorem dX12_grown_21 : decode cX12_grown 21 = .ok (.i2l, 1) := by decide +kernel
theorem dX12_grown_22 : decode cX12_grown 22 = .ok (.aload_n 0, 1) := by decide +kernel
theorem dX12_grown_23 : decode cX12_grown 23 = .ok (.getfield 64, 3) := by decide +kernel
theorem dX12_grown_26 : decode cX12_grown 26 = .ok (.iload_n 1, 1) := by decide +kernel
theorem dX12_grown_27 : decode cX12_grown 27 = .ok (.iaload, 1) := by decide +kernel
theorem dX12_grown_28 : decode cX12_grown 28 = .ok (.i2l, 1) := by decide +kernel
theorem dX12_grown_29 : decode cX12_grown 29 = .ok (.ldc2_w 135, 3) := by decide +kernel
theorem dX12_grown_32 : decode cX12_grown 32 = .ok (.invokestatic 137, 3) := by decide +kernel
theorem dX12_grown_35 : decode cX12_grown 35 = .ok (.ifCond .ne 5, 3) := by decide +kernel
theorem dX12_grown_38 : decode cX12_grown 38 = .ok (.iconst (-1), 1) := by decide +kernel
theorem dX12_grown_39 : decode cX12_grown 39 = .ok (.ireturn, 1) := by decide +kernel
theorem dX12_grown_40 : decode cX12_grown 40 = .ok (.aload_n 0, 1) := by decide +kernel
theorem dX12_grown_41 : decode cX12_grown 41 = .ok (.iload_n 1, 1) := by decide +kernel
theorem dX12_grown_42 : decode cX12_grown 42 = .ok (.iload_n 2, 1) := by decide +kernel
theorem dX12_grown_43 : decode cX12_grown 43 = .ok (.iload_n 3, 1) := by decide +kernel
theorem dX12_grown_44 : decode cX12_grown 44 = .ok (.invokevirtual 308, 3) := by decide +kernel
theorem dX12_grown_47 : decode cX12_grown 47 = .ok (.ireturn, 1) := by decide +kernel
set_option maxRecDepth 100000 in
set_option maxHeartbeats 4000000 in
theorem c_X12_grown (X : XE) (p1 : Int) (p2 : Int) (p3 : Int) (hp1 : inR p1) (hp2 : inR p2) (hp3 : inR p3) {σ : Mem} {Q : Int → Mem → Prop} (h : v_X12_grown p1 p2 p3 σ Q) : CT X yX12_grown cX12_grown 4 (some .int) rm_X12_grown 1 [.ref (xad X 122), vI p1, vI p2, vI p3] σ Q := by
  refine ct_of (own := RX12) (L := [(0, .ref (xad X 122)), (1, vI p1), (2, vI p2), (3, vI p3)]) rfl rfl (Nat.le_of_ble_eq_true rfl) rfl ?_
  refine ok_aload_n 0 (pc := 0) dX12_grown_0 rfl rfl ?_
  refine ok_iload_n 1 (pc := 1) dX12_grown_1 rfl rfl ?_
  refine ok_callVi (As := [vI p1]) (rest := []) (rm := rm_X12_isCard) (pc := 2) dX12_grown_2 me_X12_isCard ml_X12_257 (ci := 12) rfl sh_122 (Nat.le_of_ble_eq_true rfl) rfl des_X12_isCard rfl ⟨rfl, rfl, rfl, rfl⟩ rfl rfl (c_X12_isCard X p1 hp1 h) (fun r2 σ3 h1 h => ?_)
  refine ok_if_eq (tgt := 38) (pc := 5) dX12_grown_5 rfl h1 (fun q4 => ?_) (fun q4 => ?_)
  · have h := iteT h q4
    refine ok_iconst (pc := 38) dX12_grown_38 ?_
    exact ok_iret (pc := 39) dX12_grown_39 rfl rfl rfl (r_lit rfl) h
  · have h := iteF h q4
    refine ok_iload_n 2 (pc := 8) dX12_grown_8 rfl rfl ?_
    refine ok_i2l (pc := 9) dX12_grown_9 hp2 ?_
    refine ok_lconst (v := 0) (pc := 10) dX12_grown_10 rfl ?_
    refine ok_ldc2 (pc := 11) dX12_grown_11 cn_X12_269 ?_
    refine ok_callSi (As := [vL p2, vL 0, vL 3]) (rest := []) (rm := rm_X12_in) (pc := 14) dX12_grown_14 me_X12_in ml_X12_137 des_X12_in rfl ⟨rfl, rfl, rfl, rfl⟩ rfl rfl (c_X12_in X p2 0 3 (l_of_r hp2) (l_of_r (r_lit rfl)) (l_of_r (r_lit rfl)) h) (fun r6 σ7 h5 h => ?_)
    refine ok_if_eq (tgt := 38) (pc := 17) dX12_grown_17 rfl h5 (fun q8 => ?_) (fun q8 => ?_)
    · have h := iteT h q8
      refine ok_iconst (pc := 38) dX12_grown_38 ?_
      exact ok_iret (pc := 39) dX12_grown_39 rfl rfl rfl (r_lit rfl) h
    · have h := iteF h q8
      refine ok_iload_n 3 (pc := 20) dX12_grown_20 rfl rfl ?_
      refine ok_i2l (pc := 21) dX12_grown_21 hp3 ?_
      refine ok_aload_n 0 (pc := 22) dX12_grown_22 rfl rfl ?_
      refine ok_getR (pc := 23) dX12_grown_23 fl_X12_64 sh_122 (Nat.le_of_ble_eq_true rfl) rfl rfl ?_
      refine ok_iload_n 1 (pc := 26) dX12_grown_26 rfl rfl ?_
      obtain ⟨h9, h⟩ := h
      obtain ⟨h10, h⟩ := h
      refine ok_wf (fun hw11 => ?_)
      refine ok_iald (pc := 27) dX12_grown_27 sh_141 (Nat.le_of_ble_eq_true rfl) rfl h9 h10 ?_
      refine ok_i2l (pc := 28) dX12_grown_28 (hw11 _ _) ?_
      refine ok_ldc2 (pc := 29) dX12_grown_29 cn_X12_135 ?_
      refine ok_callSi (As := [vL p3, vL (σ7 141 p1.toNat), vL 9999]) (rest := []) (rm := rm_X12_in) (pc := 32) dX12_grown_32 me_X12_in ml_X12_137 des_X12_in rfl ⟨rfl, rfl, rfl, rfl⟩ rfl rfl (c_X12_in X p3 (σ7 141 p1.toNat) 9999 (l_of_r hp3) (l_of_r (hw11 _ _)) (l_of_r (r_lit rfl)) h) (fun r13 σ14 h12 h => ?_)
      refine ok_if_ne (tgt := 40) (pc := 35) dX12_grown_35 rfl h12 (fun q15 => ?_) (fun q15 => ?_)
      · have h := iteF h q15
        refine ok_aload_n 0 (pc := 40) dX12_grown_40 rfl rfl ?_
        refine ok_iload_n 1 (pc := 41) dX12_grown_41 rfl rfl ?_
        refine ok_iload_n 2 (pc := 42) dX12_grown_42 rfl rfl ?_
        refine ok_iload_n 3 (pc := 43) dX12_grown_43 rfl rfl ?_
        refine ok_callVi (As := [vI p1, vI p2, vI p3]) (rest := []) (rm := rm_X12_grownOf) (pc := 44) dX12_grown_44 me_X12_grownOf ml_X12_308 (ci := 12) rfl sh_122 (Nat.le_of_ble_eq_true rfl) rfl des_X12_grownOf rfl ⟨rfl, rfl, rfl, rfl⟩ rfl rfl (c_X12_grownOf X p1 p2 p3 hp1 hp2 hp3 h) (fun r17 σ18 h16 h => ?_)
        exact ok_iret (pc := 47) dX12_grown_47 rfl rfl rfl h16 h
      · have h := iteT h q15
        refine ok_iconst (pc := 38) dX12_grown_38 ?_
        exact ok_iret (pc := 39) dX12_grown_39 rfl rfl rfl (r_lit rfl) h
theorem dX12_tryTelling_0 : decode cX12_tryTelling 0 = .ok (.iconst 0, 1) := by decide +kernel
theorem dX12_tryTelling_1 : decode cX12_tryTelling 1 = .ok (.istore_n 1, 1) := by decide +kernel
theorem dX12_tryTelling_2 : decode cX12_tryTelling 2 = .ok (.iload_n 1, 1) := by decide +kernel
theorem dX12_tryTelling_3 : decode cX12_tryTelling 3 = .ok (.iconst 4, 1) := by decide +kernel
theorem dX12_tryTelling_4 : decode cX12_tryTelling 4 = .ok (.if_icmp .ge 21, 3) := by decide +kernel
theorem dX12_tryTelling_7 : decode cX12_tryTelling 7 = .ok (.aload_n 0, 1) := by decide +kernel
theorem dX12_tryTelling_8 : decode cX12_tryTelling 8 = .ok (.getfield 102, 3) := by decide +kernel
theorem dX12_tryTelling_11 : decode cX12_tryTelling 11 = .ok (.iload_n 1, 1) := by decide +kernel
theorem dX12_tryTelling_12 : decode cX12_tryTelling 12 = .ok (.aload_n 0, 1) := by decide +kernel
theorem dX12_tryTelling_13 : decode cX12_tryTelling 13 = .ok (.getfield 90, 3) := by decide +kernel
theorem dX12_tryTelling_16 : decode cX12_tryTelling 16 = .ok (.iload_n 1, 1) := by decide +kernel
theorem dX12_tryTelling_17 : decode cX12_tryTelling 17 = .ok (.iaload, 1) := by decide +kernel
theorem dX12_tryTelling_18 : decode cX12_tryTelling 18 = .ok (.iastore, 1) := by decide +kernel
theorem dX12_tryTelling_19 : decode cX12_tryTelling 19 = .ok (.iinc 1 1, 3) := by decide +kernel
theorem dX12_tryTelling_22 : decode cX12_tryTelling 22 = .ok (.goto (-20), 3) := by decide +kernel
theorem dX12_tryTelling_25 : decode cX12_tryTelling 25 = .ok (.aload_n 0, 1) := by decide +kernel
theorem dX12_tryTelling_26 : decode cX12_tryTelling 26 = .ok (.aload_n 0, 1) := by decide +kernel
theorem dX12_tryTelling_27 : decode cX12_tryTelling 27 = .ok (.aload_n 0, 1) := by decide +kernel
theorem dX12_tryTelling_28 : decode cX12_tryTelling 28 = .ok (.getfield 86, 3) := by decide +kernel
theorem dX12_tryTelling_31 : decode cX12_tryTelling 31 = .ok (.aload_n 0, 1) := by decide +kernel
theorem dX12_tryTelling_32 : decode cX12_tryTelling 32 = .ok (.getfield 132, 3) := by decide +kernel
theorem dX12_tryTelling_35 : decode cX12_tryTelling 35 = .ok (.invokevirtual 226, 3) := by decide +kernel
theorem dX12_tryTelling_38 : decode cX12_tryTelling 38 = .ok (.putfield 311, 3) := by decide +kernel
theorem dX12_tryTelling_41 : decode cX12_tryTelling 41 = .ok (.return_, 1) := by decide +kernel
set_option maxRecDepth 100000 in
set_option maxHeartbeats 4000000 in
theorem w_X12_tryTelling_2 (X : XE) {Q : Int → Mem → Prop} : ∀ (n : Nat) (x1 : Int) (σ : Mem), inR x1 → l_X12_tryTelling_2 Q n x1 σ → ok X rm_X12_tryTelling RX12 cX12_tryTelling 2 none 0 Q 2 [(0, .ref (xad X 122)), (1, vI x1)] [] σ := by
  intro n
  induction n with
  | zero => intro x1 σ hx1 h; exact False.elim h
  | succ n ih =>
    intro x1 σ hx1 h
    refine ok_iload_n 1 (pc := 2) dX12_tryTelling_2 rfl rfl ?_
    refine ok_iconst (pc := 3) dX12_tryTelling_3 ?_
    refine ok_icmp_ge (tgt := 25) (pc := 4) dX12_tryTelling_4 rfl hx1 (r_lit rfl) (fun q1 => ?_) (fun q1 => ?_)
    · have h := iteF h q1
      refine ok_aload_n 0 (pc := 25) dX12_tryTelling_25 rfl rfl ?_
      refine ok_aload_n 0 (pc := 26) dX12_tryTelling_26 rfl rfl ?_
      refine ok_aload_n 0 (pc := 27) dX12_tryTelling_27 rfl rfl ?_
      refine ok_wf (fun hw2 => ?_)
      refine ok_getI (pc := 28) dX12_tryTelling_28 fl_X12_86 sh_122 (Nat.le_of_ble_eq_true rfl) rfl rfl ?_
      refine ok_aload_n 0 (pc := 31) dX12_tryTelling_31 rfl rfl ?_
      refine ok_getI (pc := 32) dX12_tryTelling_32 fl_X12_132 sh_122 (Nat.le_of_ble_eq_true rfl) rfl rfl ?_
      refine ok_callVi (As := [vI (σ 122 39), vI (σ 122 0)]) (rest := [.ref (xad X 122)]) (rm := rm_X12_spreadOf) (pc := 35) dX12_tryTelling_35 me_X12_spreadOf ml_X12_226 (ci := 12) rfl sh_122 (Nat.le_of_ble_eq_true rfl) rfl des_X12_spreadOf rfl ⟨rfl, rfl, rfl, rfl⟩ rfl rfl (c_X12_spreadOf X (σ 122 39) (σ 122 0) (hw2 _ _) (hw2 _ _) h) (fun r4 σ5 h3 h => ?_)
      refine ok_putI (pc := 38) dX12_tryTelling_38 fl_X12_311 fp_X12_47 sh_122 (Nat.le_of_ble_eq_true rfl) rfl rfl h3 rfl rfl ?_
      exact ok_vret (pc := 41) dX12_tryTelling_41 rfl rfl h
    · have h := iteT h q1
      refine ok_aload_n 0 (pc := 7) dX12_tryTelling_7 rfl rfl ?_
      refine ok_getR (pc := 8) dX12_tryTelling_8 fl_X12_102 sh_122 (Nat.le_of_ble_eq_true rfl) rfl rfl ?_
      refine ok_iload_n 1 (pc := 11) dX12_tryTelling_11 rfl rfl ?_
      refine ok_aload_n 0 (pc := 12) dX12_tryTelling_12 rfl rfl ?_
      refine ok_getR (pc := 13) dX12_tryTelling_13 fl_X12_90 sh_122 (Nat.le_of_ble_eq_true rfl) rfl rfl ?_
      refine ok_iload_n 1 (pc := 16) dX12_tryTelling_16 rfl rfl ?_
      obtain ⟨h6, h⟩ := h
      obtain ⟨h7, h⟩ := h
      refine ok_wf (fun hw8 => ?_)
      refine ok_iald (pc := 17) dX12_tryTelling_17 sh_148 (Nat.le_of_ble_eq_true rfl) rfl h6 h7 ?_
      refine ok_iast (pc := 18) dX12_tryTelling_18 sh_152 (Nat.le_of_ble_eq_true rfl) rfl h6 h7 (hw8 _ _) ?_
      refine ok_iinc (L' := [(1, vI (x1 + 1)), (0, .ref (xad X 122))]) 1 (pc := 19) dX12_tryTelling_19 rfl rfl rfl ?_
      refine ok_goto (tgt := 2) (pc := 22) dX12_tryTelling_22 rfl ?_
      obtain ⟨h9, h⟩ := h
      refine ok_sub (L' := [(0, .ref (xad X 122)), (1, vI (x1 + 1))]) [1,0] rfl ?_
      exact ih (x1 + 1) (mset σ 152 (x1.toNat) (σ 148 x1.toNat)) h9 h
set_option maxRecDepth 100000 in
set_option maxHeartbeats 4000000 in
theorem c_X12_tryTelling (X : XE) {σ : Mem} {Q : Int → Mem → Prop} (h : v_X12_tryTelling σ Q) : CT X yX12_tryTelling cX12_tryTelling 2 none rm_X12_tryTelling 0 [.ref (xad X 122)] σ Q := by
  refine ct_of (own := RX12) (L := [(0, .ref (xad X 122))]) rfl rfl (Nat.le_of_ble_eq_true rfl) rfl ?_
  refine ok_iconst (pc := 0) dX12_tryTelling_0 ?_
  refine ok_istore_n (L' := [(1, vI 0), (0, .ref (xad X 122))]) (pc := 1) dX12_tryTelling_1 rfl rfl rfl ?_
  refine ok_sub (L' := [(0, .ref (xad X 122)), (1, vI 0)]) [1,0] rfl ?_
  obtain ⟨n1, h⟩ := h
  exact w_X12_tryTelling_2 X n1 0 σ (r_lit rfl) h
theorem dX12_tryCard_0 : decode cX12_tryCard 0 = .ok (.iconst 0, 1) := by decide +kernel
theorem dX12_tryCard_1 : decode cX12_tryCard 1 = .ok (.istore_n 2, 1) := by decide +kernel
theorem dX12_tryCard_2 : decode cX12_tryCard 2 = .ok (.iload_n 2, 1) := by decide +kernel
theorem dX12_tryCard_3 : decode cX12_tryCard 3 = .ok (.iconst 4, 1) := by decide +kernel
theorem dX12_tryCard_4 : decode cX12_tryCard 4 = .ok (.if_icmp .ge 25, 3) := by decide +kernel
theorem dX12_tryCard_7 : decode cX12_tryCard 7 = .ok (.aload_n 0, 1) := by decide +kernel
theorem dX12_tryCard_8 : decode cX12_tryCard 8 = .ok (.getfield 102, 3) := by decide +kernel
theorem dX12_tryCard_11 : decode cX12_tryCard 11 = .ok (.iload_n 2, 1) := by decide +kernel
theorem dX12_tryCard_12 : decode cX12_tryCard 12 = .ok (.aload_n 0, 1) := by decide +kernel
theorem dX12_tryCard_13 : decode cX12_tryCard 13 = .ok (.getfield 55, 3) := by decide +kernel
theorem dX12_tryCard_16 : decode cX12_tryCard 16 = .ok (.iconst 4, 1) := by decide +kernel
theorem dX12_tryCard_17 : decode cX12_tryCard 17 = .ok (.iload_n 1, 1) := by decide +kernel
theorem dX12_tryCard_18 : decode cX12_tryCard 18 = .ok (.imul, 1) := by decide +kernel
theorem dX12_tryCard_19 : decode cX12_tryCard 19 = .ok (.iload_n 2, 1) := by decide +kernel
theorem dX12_tryCard_20 : decode cX12_tryCard 20 = .ok (.iadd, 1) := by decide +kernel
theorem dX12_tryCard_21 : decode cX12_tryCard 21 = .ok (.iaload, 1) := by decide +kernel
theorem dX12_tryCard_22 : decode cX12_tryCard 22 = .ok (.iastore, 1) := by decide +kernel
theorem dX12_tryCard_23 : decode cX12_tryCard 23 = .ok (.iinc 2 1, 3) := by decide +kernel
theorem dX12_tryCard_26 : decode cX12_tryCard 26 = .ok (.goto (-24), 3) := by decide +kernel
theorem dX12_tryCard_29 : decode cX12_tryCard 29 = .ok (.aload_n 0, 1) := by decide +kernel
theorem dX12_tryCard_30 : decode cX12_tryCard 30 = .ok (.aload_n 0, 1) := by decide +kernel
theorem dX12_tryCard_31 : decode cX12_tryCard 31 = .ok (.iload_n 1, 1) := by decide +kernel
theorem dX12_tryCard_32 : decode cX12_tryCard 32 = .ok (.invokevirtual 266, 3) := by decide +kernel
theorem dX12_tryCard_35 : decode cX12_tryCard 35 = .ok (.putfield 311, 3) := by decide +kernel
theorem dX12_tryCard_38 : decode cX12_tryCard 38 = .ok (.return_, 1) := by decide +kernel
set_option maxRecDepth 100000 in
set_option maxHeartbeats 4000000 in
theorem w_X12_tryCard_2 (X : XE) (p1 : Int) (hp1 : inR p1) {Q : Int → Mem → Prop} : ∀ (n : Nat) (x2 : Int) (σ : Mem), inR x2 → l_X12_tryCard_2 p1 Q n x2 σ → ok X rm_X12_tryCard RX12 cX12_tryCard 3 none 0 Q 2 [(0, .ref (xad X 122)), (1, vI p1), (2, vI x2)] [] σ := by
  intro n
  induction n with
  | zero => intro x2 σ hx2 h; exact False.elim h
  | succ n ih =>
    intro x2 σ hx2 h
    refine ok_iload_n 2 (pc := 2) dX12_tryCard_2 rfl rfl ?_
    refine ok_iconst (pc := 3) dX12_tryCard_3 ?_
    refine ok_icmp_ge (tgt := 29) (pc := 4) dX12_tryCard_4 rfl hx2 (r_lit rfl) (fun q1 => ?_) (fun q1 => ?_)
    · have h := iteF h q1
      refine ok_aload_n 0 (pc := 29) dX12_tryCard_29 rfl rfl ?_
      refine ok_aload_n 0 (pc := 30) dX12_tryCard_30 rfl rfl ?_
      refine ok_iload_n 1 (pc := 31) dX12_tryCard_31 rfl rfl ?_
      refine ok_callVi (As := [vI p1]) (rest := [.ref (xad X 122)]) (rm := rm_X12_spreadAt) (pc := 32) dX12_tryCard_32 me_X12_spreadAt ml_X12_266 (ci := 12) rfl sh_122 (Nat.le_of_ble_eq_true rfl) rfl des_X12_spreadAt rfl ⟨rfl, rfl, rfl, rfl⟩ rfl rfl (c_X12_spreadAt X p1 hp1 h) (fun r3 σ4 h2 h => ?_)
      refine ok_putI (pc := 35) dX12_tryCard_35 fl_X12_311 fp_X12_47 sh_122 (Nat.le_of_ble_eq_true rfl) rfl rfl h2 rfl rfl ?_
      exact ok_vret (pc := 38) dX12_tryCard_38 rfl rfl h
    · have h := iteT h q1
      refine ok_aload_n 0 (pc := 7) dX12_tryCard_7 rfl rfl ?_
      refine ok_getR (pc := 8) dX12_tryCard_8 fl_X12_102 sh_122 (Nat.le_of_ble_eq_true rfl) rfl rfl ?_
      refine ok_iload_n 2 (pc := 11) dX12_tryCard_11 rfl rfl ?_
      refine ok_aload_n 0 (pc := 12) dX12_tryCard_12 rfl rfl ?_
      refine ok_getR (pc := 13) dX12_tryCard_13 fl_X12_55 sh_122 (Nat.le_of_ble_eq_true rfl) rfl rfl ?_
      refine ok_iconst (pc := 16) dX12_tryCard_16 ?_
      refine ok_iload_n 1 (pc := 17) dX12_tryCard_17 rfl rfl ?_
      refine ok_imul (pc := 18) dX12_tryCard_18 ?_
      refine ok_iload_n 2 (pc := 19) dX12_tryCard_19 rfl rfl ?_
      refine ok_iadd (pc := 20) dX12_tryCard_20 ?_
      obtain ⟨h5, h⟩ := h
      obtain ⟨h6, h⟩ := h
      refine ok_wf (fun hw7 => ?_)
      refine ok_iald (pc := 21) dX12_tryCard_21 sh_138 (Nat.le_of_ble_eq_true rfl) rfl h5 h6 ?_
      obtain ⟨h8, h⟩ := h
      obtain ⟨h9, h⟩ := h
      refine ok_iast (pc := 22) dX12_tryCard_22 sh_152 (Nat.le_of_ble_eq_true rfl) rfl h8 h9 (hw7 _ _) ?_
      refine ok_iinc (L' := [(2, vI (x2 + 1)), (0, .ref (xad X 122)), (1, vI p1)]) 2 (pc := 23) dX12_tryCard_23 rfl rfl rfl ?_
      refine ok_goto (tgt := 2) (pc := 26) dX12_tryCard_26 rfl ?_
      obtain ⟨h10, h⟩ := h
      refine ok_sub (L' := [(0, .ref (xad X 122)), (1, vI p1), (2, vI (x2 + 1))]) [1,2,0] rfl ?_
      exact ih (x2 + 1) (mset σ 152 (x2.toNat) (σ 138 ((4 * p1) + x2).toNat)) h10 h
set_option maxRecDepth 100000 in
set_option maxHeartbeats 4000000 in
theorem c_X12_tryCard (X : XE) (p1 : Int) (hp1 : inR p1) {σ : Mem} {Q : Int → Mem → Prop} (h : v_X12_tryCard p1 σ Q) : CT X yX12_tryCard cX12_tryCard 3 none rm_X12_tryCard 0 [.ref (xad X 122), vI p1] σ Q := by
  refine ct_of (own := RX12) (L := [(0, .ref (xad X 122)), (1, vI p1)]) rfl rfl (Nat.le_of_ble_eq_true rfl) rfl ?_
  refine ok_iconst (pc := 0) dX12_tryCard_0 ?_
  refine ok_istore_n (L' := [(2, vI 0), (0, .ref (xad X 122)), (1, vI p1)]) (pc := 1) dX12_tryCard_1 rfl rfl rfl ?_
  refine ok_sub (L' := [(0, .ref (xad X 122)), (1, vI p1), (2, vI 0)]) [1,2,0] rfl ?_
  obtain ⟨n1, h⟩ := h
  exact w_X12_tryCard_2 X p1 hp1 n1 0 σ (r_lit rfl) h
theorem dX12_missOf_0 : decode cX12_missOf 0 = .ok (.aload_n 0, 1) := by decide +kernel
theorem dX12_missOf_1 : decode cX12_missOf 1 = .ok (.iload_n 1, 1) := by decide +kernel
theorem dX12_missOf_2 : decode cX12_missOf 2 = .ok (.invokevirtual 260, 3) := by decide +kernel
theorem dX12_missOf_5 : decode cX12_missOf 5 = .ok (.ifCond .eq 6, 3) := by decide +kernel
theorem dX12_missOf_8 : decode cX12_missOf 8 = .ok (.bipush (-4), 2) := by decide +kernel
theorem dX12_missOf_10 : decode cX12_missOf 10 = .ok (.ireturn, 1) := by decide +kernel
theorem dX12_missOf_11 : decode cX12_missOf 11 = .ok (.aload_n 0, 1) := by decide +kernel
theorem dX12_missOf_12 : decode cX12_missOf 12 = .ok (.iload_n 1, 1) := by decide +kernel
theorem dX12_missOf_13 : decode cX12_missOf 13 = .ok (.invokevirtual 266, 3) := by decide +kernel
theorem dX12_missOf_16 : decode cX12_missOf 16 = .ok (.aload_n 0, 1) := by decide +kernel
theorem dX12_missOf_17 : decode cX12_missOf 17 = .ok (.getfield 311, 3) := by decide +kernel
theorem dX12_missOf_20 : decode cX12_missOf 20 = .ok (.iadd, 1) := by decide +kernel
theorem dX12_missOf_21 : decode cX12_missOf 21 = .ok (.istore_n 2, 1) := by decide +kernel
theorem dX12_missOf_22 : decode cX12_missOf 22 = .ok (.iconst 0, 1) := by decide +kernel
theorem dX12_missOf_23 : decode cX12_missOf 23 = .ok (.istore_n 3, 1) := by decide +kernel
theorem dX12_missOf_24 : decode cX12_missOf 24 = .ok (.iconst 0, 1) := by decide +kernel
theorem dX12_missOf_25 : decode cX12_missOf 25 = .ok (.istore 4, 2) := by decide +kernel
theorem dX12_missOf_27 : decode cX12_missOf 27 = .ok (.iload 4, 2) := by decide +kernel
theorem dX12_missOf_29 : decode cX12_missOf 29 = .ok (.iconst 4, 1) := by decide +kernel
theorem dX12_missOf_30 : decode cX12_missOf 30 = .ok (.if_icmp .ge 107, 3) := by decide +kernel
theorem dX12_missOf_33 : decode cX12_missOf 33 = .ok (.aload_n 0, 1) := by decide +kernel
theorem dX12_missOf_34 : decode cX12_missOf 34 = .ok (.getfield 55, 3) := by decide +kernel
theorem dX12_missOf_37 : decode cX12_missOf 37 = .ok (.iconst 4, 1) := by decide +kernel
theorem dX12_missOf_38 : decode cX12_missOf 38 = .ok (.iload_n 1, 1) := by decide +kernel
theorem dX12_missOf_39 : decode cX12_missOf 39 = .ok (.imul, 1) := by decide +kernel
theorem dX12_missOf_40 : decode cX12_missOf 40 = .ok (.iload 4, 2) := by decide +kernel
theorem dX12_missOf_42 : decode cX12_missOf 42 = .ok (.iadd, 1) := by decide +kernel
theorem dX12_missOf_43 : decode cX12_missOf 43 = .ok (.iaload, 1) := by decide +kernel
theorem dX12_missOf_44 : decode cX12_missOf 44 = .ok (.istore 5, 2) := by decide +kernel
theorem dX12_missOf_46 : decode cX12_missOf 46 = .ok (.iload 5, 2) := by decide +kernel
theorem dX12_missOf_48 : decode cX12_missOf 48 = .ok (.ifCond .le 83, 3) := by decide +kernel
theorem dX12_missOf_51 : decode cX12_missOf 51 = .ok (.aload_n 0, 1) := by decide +kernel
theorem dX12_missOf_52 : decode cX12_missOf 52 = .ok (.getfield 102, 3) := by decide +kernel
theorem dX12_missOf_55 : decode cX12_missOf 55 = .ok (.iload 4, 2) := by decide +kernel
theorem dX12_missOf_57 : decode cX12_missOf 57 = .ok (.iaload, 1) := by decide +kernel
theorem dX12_missOf_58 : decode cX12_missOf 58 = .ok (.ifCond .le 73, 3) := by decide +kernel
theorem dX12_missOf_61 : decode cX12_missOf 61 = .ok (.aload_n 0, 1) := by decide +kernel
theorem dX12_missOf_62 : decode cX12_missOf 62 = .ok (.getfield 102, 3) := by decide +kernel
theorem dX12_missOf_65 : decode cX12_missOf 65 = .ok (.iload 4, 2) := by decide +kernel
theorem dX12_missOf_67 : decode cX12_missOf 67 = .ok (.iaload, 1) := by decide +kernel
theorem dX12_missOf_68 : decode cX12_missOf 68 = .ok (.aload_n 0, 1) := by decide +kernel
theorem dX12_missOf_69 : decode cX12_missOf 69 = .ok (.iload_n 1, 1) := by decide +kernel
theorem dX12_missOf_70 : decode cX12_missOf 70 = .ok (.iload 4, 2) := by decide +kernel
theorem dX12_missOf_72 : decode cX12_missOf 72 = .ok (.aload_n 0, 1) := by decide +kernel
theorem dX12_missOf_73 : decode cX12_missOf 73 = .ok (.getfield 132, 3) := by decide +kernel
theorem dX12_missOf_76 : decode cX12_missOf 76 = .ok (.invokevirtual 308, 3) := by decide +kernel
theorem dX12_missOf_79 : decode cX12_missOf 79 = .ok (.isub, 1) := by decide +kernel
theorem dX12_missOf_80 : decode cX12_missOf 80 = .ok (.istore 6, 2) := by decide +kernel
theorem dX12_missOf_82 : decode cX12_missOf 82 = .ok (.iload 5, 2) := by decide +kernel
theorem dX12_missOf_84 : decode cX12_missOf 84 = .ok (.aload_n 0, 1) := by decide +kernel
theorem dX12_missOf_85 : decode cX12_missOf 85 = .ok (.getfield 102, 3) := by decide +kernel
theorem dX12_missOf_88 : decode cX12_missOf 88 = .ok (.iload 4, 2) := by decide +kernel
theorem dX12_missOf_90 : decode cX12_missOf 90 = .ok (.iaload, 1) := by decide +kernel
theorem dX12_missOf_91 : decode cX12_missOf 91 = .ok (.isub, 1) := by decide +kernel
theorem dX12_missOf_92 : decode cX12_missOf 92 = .ok (.istore 7, 2) := by decide +kernel
theorem dX12_missOf_94 : decode cX12_missOf 94 = .ok (.iload 6, 2) := by decide +kernel
theorem dX12_missOf_96 : decode cX12_missOf 96 = .ok (.ifCond .le 8, 3) := by decide +kernel
theorem dX12_missOf_99 : decode cX12_missOf 99 = .ok (.iload 6, 2) := by decide +kernel
theorem dX12_missOf_101 : decode cX12_missOf 101 = .ok (.goto 14, 3) := by decide +kernel
theorem dX12_missOf_104 : decode cX12_missOf 104 = .ok (.iload 7, 2) := by decide +kernel
theorem dX12_missOf_106 : decode cX12_missOf 106 = .ok (.ifCond .le 8, 3) := by decide +kernel
theorem dX12_missOf_109 : decode cX12_missOf 109 = .ok (.iload 7, 2) := by decide +kernel
theorem dX12_missOf_111 : decode cX12_missOf 111 = .ok (.goto 4, 3) := by decide +kernel
theorem dX12_missOf_114 : decode cX12_missOf 114 = .ok (.iconst 0, 1) := by decide +kernel
theorem dX12_missOf_115 : decode cX12_missOf 115 = .ok (.istore 8, 2) := by decide +kernel
theorem dX12_missOf_117 : decode cX12_missOf 117 = .ok (.iload 8, 2) := by decide +kernel
theorem dX12_missOf_119 : decode cX12_missOf 119 = .ok (.iload_n 2, 1) := by decide +kernel
theorem dX12_missOf_120 : decode cX12_missOf 120 = .ok (.if_icmp .le 6, 3) := by decide +kernel
theorem dX12_missOf_123 : decode cX12_missOf 123 = .ok (.bipush (-4), 2) := by decide +kernel
theorem dX12_missOf_125 : decode cX12_missOf 125 = .ok (.ireturn, 1) := by decide +kernel
theorem dX12_missOf_126 : decode cX12_missOf 126 = .ok (.iload_n 3, 1) := by decide +kernel
theorem dX12_missOf_127 : decode cX12_missOf 127 = .ok (.iload 8, 2) := by decide +kernel
theorem dX12_missOf_129 : decode cX12_missOf 129 = .ok (.iadd, 1) := by decide +kernel
theorem dX12_missOf_130 : decode cX12_missOf 130 = .ok (.istore_n 3, 1) := by decide +kernel
theorem dX12_missOf_131 : decode cX12_missOf 131 = .ok (.iinc 4 1, 3) := by decide +kernel
theorem dX12_missOf_134 : decode cX12_missOf 134 = .ok (.goto (-107), 3) := by decide +kernel
theorem dX12_missOf_137 : decode cX12_missOf 137 = .ok (.iload_n 3, 1) := by decide +kernel
theorem dX12_missOf_138 : decode cX12_missOf 138 = .ok (.ireturn, 1) := by decide +kernel
set_option maxRecDepth 100000 in
set_option maxHeartbeats 4000000 in
theorem w_X12_missOf_115 (X : XE) (p1 : Int) (hp1 : inR p1) (x2 : Int) (x3 : Int) (x4 : Int) (s0 : Int) (hx2 : inR x2) (hx3 : inR x3) (hx4 : inR x4) (hs0 : inR s0) {K27 : Int → Int → Mem → Prop} {Q : Int → Mem → Prop} (hK27 : ∀ (x3 : Int) (x4 : Int) (σ : Mem), inR x3 → inR x4 → K27 x3 x4 σ → ok X rm_X12_missOf RX12 cX12_missOf 9 (some .int) 1 Q 27 [(0, .ref (xad X 122)), (1, vI p1), (2, vI x2), (3, vI x3), (4, vI x4)] [] σ) {σ : Mem} (h : j_X12_missOf_115 p1 K27 Q x2 x3 x4 s0 σ) : ok X rm_X12_missOf RX12 cX12_missOf 9 (some .int) 1 Q 115 [(0, .ref (xad X 122)), (1, vI p1), (2, vI x2), (3, vI x3), (4, vI x4)] [vI s0] σ := by
  refine ok_istore (L' := [(8, vI s0), (0, .ref (xad X 122)), (1, vI p1), (2, vI x2), (3, vI x3), (4, vI x4)]) (pc := 115) dX12_missOf_115 rfl rfl ?_
  refine ok_iload 0 (pc := 117) dX12_missOf_117 rfl ?_
  refine ok_iload_n 3 (pc := 119) dX12_missOf_119 rfl rfl ?_
  refine ok_icmp_le (tgt := 126) (pc := 120) dX12_missOf_120 rfl hs0 hx2 (fun q1 => ?_) (fun q1 => ?_)
  · have h := iteF h q1
    refine ok_iload_n 4 (pc := 126) dX12_missOf_126 rfl rfl ?_
    refine ok_iload 0 (pc := 127) dX12_missOf_127 rfl ?_
    refine ok_iadd (pc := 129) dX12_missOf_129 ?_
    refine ok_istore_n (L' := [(3, vI (x3 + s0)), (8, vI s0), (0, .ref (xad X 122)), (1, vI p1), (2, vI x2), (4, vI x4)]) (pc := 130) dX12_missOf_130 rfl rfl rfl ?_
    refine ok_iinc (L' := [(4, vI (x4 + 1)), (3, vI (x3 + s0)), (8, vI s0), (0, .ref (xad X 122)), (1, vI p1), (2, vI x2)]) 5 (pc := 131) dX12_missOf_131 rfl rfl rfl ?_
    refine ok_goto (tgt := 27) (pc := 134) dX12_missOf_134 rfl ?_
    obtain ⟨h2, h⟩ := h
    obtain ⟨h3, h⟩ := h
    refine ok_sub (L' := [(0, .ref (xad X 122)), (1, vI p1), (2, vI x2), (3, vI (x3 + s0)), (4, vI (x4 + 1))]) [3,4,5,1,0] rfl ?_
    exact hK27 (x3 + s0) (x4 + 1) σ h2 h3 h
  · have h := iteT h q1
    refine ok_bipush (pc := 123) dX12_missOf_123 rfl ?_
    exact ok_iret (pc := 125) dX12_missOf_125 rfl rfl rfl (r_lit rfl) h
set_option maxRecDepth 100000 in
set_option maxHeartbeats 4000000 in
theorem w_X12_missOf_27 (X : XE) (p1 : Int) (hp1 : inR p1) (x2 : Int) (hx2 : inR x2) {Q : Int → Mem → Prop} : ∀ (n : Nat) (x3 : Int) (x4 : Int) (σ : Mem), inR x3 → inR x4 → l_X12_missOf_27 p1 x2 Q n x3 x4 σ → ok X rm_X12_missOf RX12 cX12_missOf 9 (some .int) 1 Q 27 [(0, .ref (xad X 122)), (1, vI p1), (2, vI x2), (3, vI x3), (4, vI x4)] [] σ := by
  intro n
  induction n with
  | zero => intro x3 x4 σ hx3 hx4 h; exact False.elim h
  | succ n ih =>
    intro x3 x4 σ hx3 hx4 h
    refine ok_iload 4 (pc := 27) dX12_missOf_27 rfl ?_
    refine ok_iconst (pc := 29) dX12_missOf_29 ?_
    refine ok_icmp_ge (tgt := 137) (pc := 30) dX12_missOf_30 rfl hx4 (r_lit rfl) (fun q1 => ?_) (fun q1 => ?_)
    · have h := iteF h q1
      refine ok_iload_n 3 (pc := 137) dX12_missOf_137 rfl rfl ?_
      exact ok_iret (pc := 138) dX12_missOf_138 rfl rfl rfl hx3 h
    · have h := iteT h q1
      refine ok_aload_n 0 (pc := 33) dX12_missOf_33 rfl rfl ?_
      refine ok_getR (pc := 34) dX12_missOf_34 fl_X12_55 sh_122 (Nat.le_of_ble_eq_true rfl) rfl rfl ?_
      refine ok_iconst (pc := 37) dX12_missOf_37 ?_
      refine ok_iload_n 1 (pc := 38) dX12_missOf_38 rfl rfl ?_
      refine ok_imul (pc := 39) dX12_missOf_39 ?_
      refine ok_iload 4 (pc := 40) dX12_missOf_40 rfl ?_
      refine ok_iadd (pc := 42) dX12_missOf_42 ?_
      obtain ⟨h2, h⟩ := h
      obtain ⟨h3, h⟩ := h
      refine ok_wf (fun hw4 => ?_)
      refine ok_iald (pc := 43) dX12_missOf_43 sh_138 (Nat.le_of_ble_eq_true rfl) rfl h2 h3 ?_
      refine ok_istore (L' := [(5, vI (σ 138 ((4 * p1) + x4).toNat)), (0, .ref (xad X 122)), (1, vI p1), (2, vI x2), (3, vI x3), (4, vI x4)]) (pc := 44) dX12_missOf_44 rfl rfl ?_
      refine ok_iload 0 (pc := 46) dX12_missOf_46 rfl ?_
      refine ok_if_le (tgt := 131) (pc := 48) dX12_missOf_48 rfl (hw4 _ _) (fun q5 => ?_) (fun q5 => ?_)
      · have h := iteF h q5
        refine ok_iinc (L' := [(4, vI (x4 + 1)), (5, vI (σ 138 ((4 * p1) + x4).toNat)), (0, .ref (xad X 122)), (1, vI p1), (2, vI x2), (3, vI x3)]) 5 (pc := 131) dX12_missOf_131 rfl rfl rfl ?_
        refine ok_goto (tgt := 27) (pc := 134) dX12_missOf_134 rfl ?_
        obtain ⟨h6, h⟩ := h
        refine ok_sub (L' := [(0, .ref (xad X 122)), (1, vI p1), (2, vI x2), (3, vI x3), (4, vI (x4 + 1))]) [2,3,4,5,0] rfl ?_
        exact ih x3 (x4 + 1) σ hx3 h6 h
      · have h := iteT h q5
        refine ok_aload_n 1 (pc := 51) dX12_missOf_51 rfl rfl ?_
        refine ok_getR (pc := 52) dX12_missOf_52 fl_X12_102 sh_122 (Nat.le_of_ble_eq_true rfl) rfl rfl ?_
        refine ok_iload 5 (pc := 55) dX12_missOf_55 rfl ?_
        obtain ⟨h7, h⟩ := h
        obtain ⟨h8, h⟩ := h
        refine ok_iald (pc := 57) dX12_missOf_57 sh_152 (Nat.le_of_ble_eq_true rfl) rfl h7 h8 ?_
        refine ok_if_le (tgt := 131) (pc := 58) dX12_missOf_58 rfl (hw4 _ _) (fun q9 => ?_) (fun q9 => ?_)
        · have h := iteF h q9
          refine ok_iinc (L' := [(4, vI (x4 + 1)), (5, vI (σ 138 ((4 * p1) + x4).toNat)), (0, .ref (xad X 122)), (1, vI p1), (2, vI x2), (3, vI x3)]) 5 (pc := 131) dX12_missOf_131 rfl rfl rfl ?_
          refine ok_goto (tgt := 27) (pc := 134) dX12_missOf_134 rfl ?_
          obtain ⟨h10, h⟩ := h
          refine ok_sub (L' := [(0, .ref (xad X 122)), (1, vI p1), (2, vI x2), (3, vI x3), (4, vI (x4 + 1))]) [2,3,4,5,0] rfl ?_
          exact ih x3 (x4 + 1) σ hx3 h10 h
        · have h := iteT h q9
          refine ok_aload_n 1 (pc := 61) dX12_missOf_61 rfl rfl ?_
          refine ok_getR (pc := 62) dX12_missOf_62 fl_X12_102 sh_122 (Nat.le_of_ble_eq_true rfl) rfl rfl ?_
          refine ok_iload 5 (pc := 65) dX12_missOf_65 rfl ?_
          refine ok_iald (pc := 67) dX12_missOf_67 sh_152 (Nat.le_of_ble_eq_true rfl) rfl h7 h8 ?_
          refine ok_aload_n 1 (pc := 68) dX12_missOf_68 rfl rfl ?_
          refine ok_iload_n 2 (pc := 69) dX12_missOf_69 rfl rfl ?_
          refine ok_iload 5 (pc := 70) dX12_missOf_70 rfl ?_
          refine ok_aload_n 1 (pc := 72) dX12_missOf_72 rfl rfl ?_
          refine ok_getI (pc := 73) dX12_missOf_73 fl_X12_132 sh_122 (Nat.le_of_ble_eq_true rfl) rfl rfl ?_
          refine ok_callVi (As := [vI p1, vI x4, vI (σ 122 0)]) (rest := [vI (σ 152 x4.toNat)]) (rm := rm_X12_grownOf) (pc := 76) dX12_missOf_76 me_X12_grownOf ml_X12_308 (ci := 12) rfl sh_122 (Nat.le_of_ble_eq_true rfl) rfl des_X12_grownOf rfl ⟨rfl, rfl, rfl, rfl⟩ rfl rfl (c_X12_grownOf X p1 x4 (σ 122 0) hp1 hx4 (hw4 _ _) h) (fun r12 σ13 h11 h => ?_)
          refine ok_isub (pc := 79) dX12_missOf_79 ?_
          refine ok_istore (L' := [(6, vI ((σ 152 x4.toNat) - r12)), (5, vI (σ 138 ((4 * p1) + x4).toNat)), (0, .ref (xad X 122)), (1, vI p1), (2, vI x2), (3, vI x3), (4, vI x4)]) (pc := 80) dX12_missOf_80 rfl rfl ?_
          refine ok_iload 1 (pc := 82) dX12_missOf_82 rfl ?_
          refine ok_aload_n 2 (pc := 84) dX12_missOf_84 rfl rfl ?_
          refine ok_getR (pc := 85) dX12_missOf_85 fl_X12_102 sh_122 (Nat.le_of_ble_eq_true rfl) rfl rfl ?_
          refine ok_iload 6 (pc := 88) dX12_missOf_88 rfl ?_
          refine ok_wf (fun hw14 => ?_)
          refine ok_iald (pc := 90) dX12_missOf_90 sh_152 (Nat.le_of_ble_eq_true rfl) rfl h7 h8 ?_
          refine ok_isub (pc := 91) dX12_missOf_91 ?_
          refine ok_istore (L' := [(7, vI ((σ 138 ((4 * p1) + x4).toNat) - (σ13 152 x4.toNat))), (6, vI ((σ 152 x4.toNat) - r12)), (5, vI (σ 138 ((4 * p1) + x4).toNat)), (0, .ref (xad X 122)), (1, vI p1), (2, vI x2), (3, vI x3), (4, vI x4)]) (pc := 92) dX12_missOf_92 rfl rfl ?_
          refine ok_iload 1 (pc := 94) dX12_missOf_94 rfl ?_
          obtain ⟨h15, h⟩ := h
          refine ok_if_le (tgt := 104) (pc := 96) dX12_missOf_96 rfl h15 (fun q16 => ?_) (fun q16 => ?_)
          · have h := iteF h q16
            refine ok_iload 0 (pc := 104) dX12_missOf_104 rfl ?_
            obtain ⟨h17, h⟩ := h
            refine ok_if_le (tgt := 114) (pc := 106) dX12_missOf_106 rfl h17 (fun q18 => ?_) (fun q18 => ?_)
            · simp only [if_neg q18] at h
              refine ok_iconst (pc := 114) dX12_missOf_114 ?_
              refine ok_sub (L' := [(0, .ref (xad X 122)), (1, vI p1), (2, vI x2), (3, vI x3), (4, vI x4)]) [3,4,5,6,7] rfl ?_
              exact w_X12_missOf_115 X p1 hp1 x2 x3 x4 0 hx2 hx3 hx4 (r_lit rfl) (fun x3_ x4_ σ_ hx3_ hx4_ h_ => ih x3_ x4_ σ_ hx3_ hx4_ h_) h
            · simp only [if_pos q18] at h
              refine ok_iload 0 (pc := 109) dX12_missOf_109 rfl ?_
              refine ok_goto (tgt := 115) (pc := 111) dX12_missOf_111 rfl ?_
              refine ok_sub (L' := [(0, .ref (xad X 122)), (1, vI p1), (2, vI x2), (3, vI x3), (4, vI x4)]) [3,4,5,6,7] rfl ?_
              exact w_X12_missOf_115 X p1 hp1 x2 x3 x4 ((σ 138 ((4 * p1) + x4).toNat) - (σ13 152 x4.toNat)) hx2 hx3 hx4 h17 (fun x3_ x4_ σ_ hx3_ hx4_ h_ => ih x3_ x4_ σ_ hx3_ hx4_ h_) h
          · have h := iteT h q16
            refine ok_iload 1 (pc := 99) dX12_missOf_99 rfl ?_
            refine ok_goto (tgt := 115) (pc := 101) dX12_missOf_101 rfl ?_
            refine ok_sub (L' := [(0, .ref (xad X 122)), (1, vI p1), (2, vI x2), (3, vI x3), (4, vI x4)]) [3,4,5,6,7] rfl ?_
            exact w_X12_missOf_115 X p1 hp1 x2 x3 x4 ((σ 152 x4.toNat) - r12) hx2 hx3 hx4 h15 (fun x3_ x4_ σ_ hx3_ hx4_ h_ => ih x3_ x4_ σ_ hx3_ hx4_ h_) h
set_option maxRecDepth 100000 in
set_option maxHeartbeats 4000000 in
theorem c_X12_missOf (X : XE) (p1 : Int) (hp1 : inR p1) {σ : Mem} {Q : Int → Mem → Prop} (h : v_X12_missOf p1 σ Q) : CT X yX12_missOf cX12_missOf 9 (some .int) rm_X12_missOf 1 [.ref (xad X 122), vI p1] σ Q := by
  refine ct_of (own := RX12) (L := [(0, .ref (xad X 122)), (1, vI p1)]) rfl rfl (Nat.le_of_ble_eq_true rfl) rfl ?_
  refine ok_aload_n 0 (pc := 0) dX12_missOf_0 rfl rfl ?_
  refine ok_iload_n 1 (pc := 1) dX12_missOf_1 rfl rfl ?_
  refine ok_callVi (As := [vI p1]) (rest := []) (rm := rm_X12_isOut) (pc := 2) dX12_missOf_2 me_X12_isOut ml_X12_260 (ci := 12) rfl sh_122 (Nat.le_of_ble_eq_true rfl) rfl des_X12_isOut rfl ⟨rfl, rfl, rfl, rfl⟩ rfl rfl (c_X12_isOut X p1 hp1 h) (fun r2 σ3 h1 h => ?_)
  refine ok_if_eq (tgt := 11) (pc := 5) dX12_missOf_5 rfl h1 (fun q4 => ?_) (fun q4 => ?_)
  · have h := iteT h q4
    refine ok_aload_n 0 (pc := 11) dX12_missOf_11 rfl rfl ?_
    refine ok_iload_n 1 (pc := 12) dX12_missOf_12 rfl rfl ?_
    refine ok_callVi (As := [vI p1]) (rest := []) (rm := rm_X12_spreadAt) (pc := 13) dX12_missOf_13 me_X12_spreadAt ml_X12_266 (ci := 12) rfl sh_122 (Nat.le_of_ble_eq_true rfl) rfl des_X12_spreadAt rfl ⟨rfl, rfl, rfl, rfl⟩ rfl rfl (c_X12_spreadAt X p1 hp1 h) (fun r6 σ7 h5 h => ?_)
    refine ok_aload_n 0 (pc := 16) dX12_missOf_16 rfl rfl ?_
    refine ok_wf (fun hw8 => ?_)
    refine ok_getI (pc := 17) dX12_missOf_17 fl_X12_311 sh_122 (Nat.le_of_ble_eq_true rfl) rfl rfl ?_
    refine ok_iadd (pc := 20) dX12_missOf_20 ?_
    refine ok_istore_n (L' := [(2, vI (r6 + (σ7 122 47))), (0, .ref (xad X 122)), (1, vI p1)]) (pc := 21) dX12_missOf_21 rfl rfl rfl ?_
    refine ok_iconst (pc := 22) dX12_missOf_22 ?_
    refine ok_istore_n (L' := [(3, vI 0), (2, vI (r6 + (σ7 122 47))), (0, .ref (xad X 122)), (1, vI p1)]) (pc := 23) dX12_missOf_23 rfl rfl rfl ?_
    refine ok_iconst (pc := 24) dX12_missOf_24 ?_
    refine ok_istore (L' := [(4, vI 0), (3, vI 0), (2, vI (r6 + (σ7 122 47))), (0, .ref (xad X 122)), (1, vI p1)]) (pc := 25) dX12_missOf_25 rfl rfl ?_
    obtain ⟨h9, h⟩ := h
    refine ok_sub (L' := [(0, .ref (xad X 122)), (1, vI p1), (2, vI (r6 + (σ7 122 47))), (3, vI 0), (4, vI 0)]) [3,4,2,1,0] rfl ?_
    obtain ⟨n10, h⟩ := h
    exact w_X12_missOf_27 X p1 hp1 (r6 + (σ7 122 47)) h9 n10 0 0 σ7 (r_lit rfl) (r_lit rfl) h
  · have h := iteF h q4
    refine ok_bipush (pc := 8) dX12_missOf_8 rfl ?_
    exact ok_iret (pc := 10) dX12_missOf_10 rfl rfl rfl (r_lit rfl) h
theorem dX12_matches_0 : decode cX12_matches 0 = .ok (.aload_n 0, 1) := by decide +kernel
theorem dX12_matches_1 : decode cX12_matches 1 = .ok (.invokevirtual 314, 3) := by decide +kernel
theorem dX12_matches_4 : decode cX12_matches 4 = .ok (.iconst 0, 1) := by decide +kernel
theorem dX12_matches_5 : decode cX12_matches 5 = .ok (.istore_n 1, 1) := by decide +kernel
theorem dX12_matches_6 : decode cX12_matches 6 = .ok (.iconst 0, 1) := by decide +kernel
theorem dX12_matches_7 : decode cX12_matches 7 = .ok (.istore_n 2, 1) := by decide +kernel
theorem dX12_matches_8 : decode cX12_matches 8 = .ok (.iload_n 2, 1) := by decide +kernel
theorem dX12_matches_9 : decode cX12_matches 9 = .ok (.aload_n 0, 1) := by decide +kernel
theorem dX12_matches_10 : decode cX12_matches 10 = .ok (.getfield 232, 3) := by decide +kernel
theorem dX12_matches_13 : decode cX12_matches 13 = .ok (.if_icmp .ge 29, 3) := by decide +kernel
theorem dX12_matches_16 : decode cX12_matches 16 = .ok (.iload_n 1, 1) := by decide +kernel
theorem dX12_matches_17 : decode cX12_matches 17 = .ok (.aload_n 0, 1) := by decide +kernel
theorem dX12_matches_18 : decode cX12_matches 18 = .ok (.iload_n 2, 1) := by decide +kernel
theorem dX12_matches_19 : decode cX12_matches 19 = .ok (.invokevirtual 317, 3) := by decide +kernel
theorem dX12_matches_22 : decode cX12_matches 22 = .ok (.bipush (-4), 2) := by decide +kernel
theorem dX12_matches_24 : decode cX12_matches 24 = .ok (.if_icmp .ne 7, 3) := by decide +kernel
theorem dX12_matches_27 : decode cX12_matches 27 = .ok (.iconst 0, 1) := by decide +kernel
theorem dX12_matches_28 : decode cX12_matches 28 = .ok (.goto 6, 3) := by decide +kernel
theorem dX12_matches_31 : decode cX12_matches 31 = .ok (.iconst 1, 1) := by decide +kernel
theorem dX12_matches_32 : decode cX12_matches 32 = .ok (.iload_n 2, 1) := by decide +kernel
theorem dX12_matches_33 : decode cX12_matches 33 = .ok (.ishl, 1) := by decide +kernel
theorem dX12_matches_34 : decode cX12_matches 34 = .ok (.ior, 1) := by decide +kernel
theorem dX12_matches_35 : decode cX12_matches 35 = .ok (.istore_n 1, 1) := by decide +kernel
theorem dX12_matches_36 : decode cX12_matches 36 = .ok (.iinc 2 1, 3) := by decide +kernel
theorem dX12_matches_39 : decode cX12_matches 39 = .ok (.goto (-31), 3) := by decide +kernel
theorem dX12_matches_42 : decode cX12_matches 42 = .ok (.iload_n 1, 1) := by decide +kernel
theorem dX12_matches_43 : decode cX12_matches 43 = .ok (.ireturn, 1) := by decide +kernel
set_option maxRecDepth 100000 in
set_option maxHeartbeats 4000000 in
theorem w_X12_matches_8 (X : XE) {Q : Int → Mem → Prop} : ∀ (n : Nat) (x1 : Int) (x2 : Int) (σ : Mem), inR x1 → inR x2 → l_X12_matches_8 Q n x1 x2 σ → ok X rm_X12_matches RX12 cX12_matches 3 (some .int) 1 Q 8 [(0, .ref (xad X 122)), (1, vI x1), (2, vI x2)] [] σ := by
  intro n
  induction n with
  | zero => intro x1 x2 σ hx1 hx2 h; exact False.elim h
  | succ n ih =>
    intro x1 x2 σ hx1 hx2 h
    refine ok_iload_n 2 (pc := 8) dX12_matches_8 rfl rfl ?_
    refine ok_aload_n 0 (pc := 9) dX12_matches_9 rfl rfl ?_
    refine ok_wf (fun hw1 => ?_)
    refine ok_getI (pc := 10) dX12_matches_10 fl_X12_232 sh_122 (Nat.le_of_ble_eq_true rfl) rfl rfl ?_
    refine ok_icmp_ge (tgt := 42) (pc := 13) dX12_matches_13 rfl hx2 (hw1 _ _) (fun q2 => ?_) (fun q2 => ?_)
    · have h := iteF h q2
      refine ok_iload_n 1 (pc := 42) dX12_matches_42 rfl rfl ?_
      exact ok_iret (pc := 43) dX12_matches_43 rfl rfl rfl hx1 h
    · have h := iteT h q2
      refine ok_iload_n 1 (pc := 16) dX12_matches_16 rfl rfl ?_
      refine ok_aload_n 0 (pc := 17) dX12_matches_17 rfl rfl ?_
      refine ok_iload_n 2 (pc := 18) dX12_matches_18 rfl rfl ?_
      refine ok_callVi (As := [vI x2]) (rest := [vI x1]) (rm := rm_X12_missOf) (pc := 19) dX12_matches_19 me_X12_missOf ml_X12_317 (ci := 12) rfl sh_122 (Nat.le_of_ble_eq_true rfl) rfl des_X12_missOf rfl ⟨rfl, rfl, rfl, rfl⟩ rfl rfl (c_X12_missOf X x2 hx2 h) (fun r4 σ5 h3 h => ?_)
      refine ok_bipush (pc := 22) dX12_matches_22 rfl ?_
      refine ok_icmp_ne (tgt := 31) (pc := 24) dX12_matches_24 rfl h3 (r_lit rfl) (fun q6 => ?_) (fun q6 => ?_)
      · have h := iteF h q6
        refine ok_iconst (pc := 31) dX12_matches_31 ?_
        refine ok_iload_n 2 (pc := 32) dX12_matches_32 rfl rfl ?_
        refine ok_ishl (pc := 33) dX12_matches_33 ?_
        refine ok_ior (pc := 34) dX12_matches_34 ?_
        refine ok_istore_n (L' := [(1, vI (ior x1 (ishl 1 x2))), (0, .ref (xad X 122)), (2, vI x2)]) (pc := 35) dX12_matches_35 rfl rfl rfl ?_
        refine ok_iinc (L' := [(2, vI (x2 + 1)), (1, vI (ior x1 (ishl 1 x2))), (0, .ref (xad X 122))]) 2 (pc := 36) dX12_matches_36 rfl rfl rfl ?_
        refine ok_goto (tgt := 8) (pc := 39) dX12_matches_39 rfl ?_
        obtain ⟨h7, h⟩ := h
        refine ok_sub (L' := [(0, .ref (xad X 122)), (1, vI (ior x1 (ishl 1 x2))), (2, vI (x2 + 1))]) [2,1,0] rfl ?_
        exact ih (ior x1 (ishl 1 x2)) (x2 + 1) σ5 (q_rng _) h7 h
      · have h := iteT h q6
        refine ok_iconst (pc := 27) dX12_matches_27 ?_
        refine ok_goto (tgt := 34) (pc := 28) dX12_matches_28 rfl ?_
        refine ok_ior (pc := 34) dX12_matches_34 ?_
        refine ok_istore_n (L' := [(1, vI (ior x1 0)), (0, .ref (xad X 122)), (2, vI x2)]) (pc := 35) dX12_matches_35 rfl rfl rfl ?_
        refine ok_iinc (L' := [(2, vI (x2 + 1)), (1, vI (ior x1 0)), (0, .ref (xad X 122))]) 2 (pc := 36) dX12_matches_36 rfl rfl rfl ?_
        refine ok_goto (tgt := 8) (pc := 39) dX12_matches_39 rfl ?_
        obtain ⟨h8, h⟩ := h
        refine ok_sub (L' := [(0, .ref (xad X 122)), (1, vI (ior x1 0)), (2, vI (x2 + 1))]) [2,1,0] rfl ?_
        exact ih (ior x1 0) (x2 + 1) σ5 (q_rng _) h8 h
set_option maxRecDepth 100000 in
set_option maxHeartbeats 4000000 in
theorem c_X12_matches (X : XE) {σ : Mem} {Q : Int → Mem → Prop} (h : v_X12_matches σ Q) : CT X yX12_matches cX12_matches 3 (some .int) rm_X12_matches 1 [.ref (xad X 122)] σ Q := by
  refine ct_of (own := RX12) (L := [(0, .ref (xad X 122))]) rfl rfl (Nat.le_of_ble_eq_true rfl) rfl ?_
  refine ok_aload_n 0 (pc := 0) dX12_matches_0 rfl rfl ?_
  refine ok_callVv (As := []) (rest := []) (rm := rm_X12_tryTelling) (pc := 1) dX12_matches_1 me_X12_tryTelling ml_X12_314 (ci := 12) rfl sh_122 (Nat.le_of_ble_eq_true rfl) rfl des_X12_tryTelling rfl ⟨rfl, rfl, rfl, rfl⟩ rfl rfl (c_X12_tryTelling X h) (fun σ3 h => ?_)
  refine ok_iconst (pc := 4) dX12_matches_4 ?_
  refine ok_istore_n (L' := [(1, vI 0), (0, .ref (xad X 122))]) (pc := 5) dX12_matches_5 rfl rfl rfl ?_
  refine ok_iconst (pc := 6) dX12_matches_6 ?_
  refine ok_istore_n (L' := [(2, vI 0), (1, vI 0), (0, .ref (xad X 122))]) (pc := 7) dX12_matches_7 rfl rfl rfl ?_
  refine ok_sub (L' := [(0, .ref (xad X 122)), (1, vI 0), (2, vI 0)]) [2,1,0] rfl ?_
  obtain ⟨n4, h⟩ := h
  exact w_X12_matches_8 X n4 0 0 σ3 (r_lit rfl) (r_lit rfl) h
theorem dX12_sizeOf_0 : decode cX12_sizeOf 0 = .ok (.iconst 0, 1) := by decide +kernel
theorem dX12_sizeOf_1 : decode cX12_sizeOf 1 = .ok (.istore_n 1, 1) := by decide +kernel
theorem dX12_sizeOf_2 : decode cX12_sizeOf 2 = .ok (.iconst 0, 1) := by decide +kernel
theorem dX12_sizeOf_3 : decode cX12_sizeOf 3 = .ok (.istore_n 2, 1) := by decide +kernel
theorem dX12_sizeOf_4 : decode cX12_sizeOf 4 = .ok (.iload_n 2, 1) := by decide +kernel
theorem dX12_sizeOf_5 : decode cX12_sizeOf 5 = .ok (.bipush 30, 2) := by decide +kernel
theorem dX12_sizeOf_7 : decode cX12_sizeOf 7 = .ok (.if_icmp .ge 17, 3) := by decide +kernel
theorem dX12_sizeOf_10 : decode cX12_sizeOf 10 = .ok (.iload_n 1, 1) := by decide +kernel
theorem dX12_sizeOf_11 : decode cX12_sizeOf 11 = .ok (.iload_n 0, 1) := by decide +kernel
theorem dX12_sizeOf_12 : decode cX12_sizeOf 12 = .ok (.iload_n 2, 1) := by decide +kernel
theorem dX12_sizeOf_13 : decode cX12_sizeOf 13 = .ok (.ishr, 1) := by decide +kernel
theorem dX12_sizeOf_14 : decode cX12_sizeOf 14 = .ok (.iconst 1, 1) := by decide +kernel
theorem dX12_sizeOf_15 : decode cX12_sizeOf 15 = .ok (.iand, 1) := by decide +kernel
theorem dX12_sizeOf_16 : decode cX12_sizeOf 16 = .ok (.iadd, 1) := by decide +kernel
theorem dX12_sizeOf_17 : decode cX12_sizeOf 17 = .ok (.istore_n 1, 1) := by decide +kernel
theorem dX12_sizeOf_18 : decode cX12_sizeOf 18 = .ok (.iinc 2 1, 3) := by decide +kernel
theorem dX12_sizeOf_21 : decode cX12_sizeOf 21 = .ok (.goto (-17), 3) := by decide +kernel
theorem dX12_sizeOf_24 : decode cX12_sizeOf 24 = .ok (.iload_n 1, 1) := by decide +kernel
theorem dX12_sizeOf_25 : decode cX12_sizeOf 25 = .ok (.ireturn, 1) := by decide +kernel
set_option maxRecDepth 100000 in
set_option maxHeartbeats 4000000 in
theorem w_X12_sizeOf_4 (X : XE) (p0 : Int) (hp0 : inR p0) {Q : Int → Mem → Prop} : ∀ (n : Nat) (x1 : Int) (x2 : Int) (σ : Mem), inR x1 → inR x2 → l_X12_sizeOf_4 p0 Q n x1 x2 σ → ok X rm_X12_sizeOf RX12 cX12_sizeOf 3 (some .int) 1 Q 4 [(0, vI p0), (1, vI x1), (2, vI x2)] [] σ := by
  intro n
  induction n with
  | zero => intro x1 x2 σ hx1 hx2 h; exact False.elim h
  | succ n ih =>
    intro x1 x2 σ hx1 hx2 h
    refine ok_iload_n 2 (pc := 4) dX12_sizeOf_4 rfl rfl ?_
    refine ok_bipush (pc := 5) dX12_sizeOf_5 rfl ?_
    refine ok_icmp_ge (tgt := 24) (pc := 7) dX12_sizeOf_7 rfl hx2 (r_lit rfl) (fun q1 => ?_) (fun q1 => ?_)
    · have h := iteF h q1
      refine ok_iload_n 1 (pc := 24) dX12_sizeOf_24 rfl rfl ?_
      exact ok_iret (pc := 25) dX12_sizeOf_25 rfl rfl rfl hx1 h
    · have h := iteT h q1
      refine ok_iload_n 1 (pc := 10) dX12_sizeOf_10 rfl rfl ?_
      refine ok_iload_n 0 (pc := 11) dX12_sizeOf_11 rfl rfl ?_
      refine ok_iload_n 2 (pc := 12) dX12_sizeOf_12 rfl rfl ?_
      refine ok_ishr (pc := 13) dX12_sizeOf_13 ?_
      refine ok_iconst (pc := 14) dX12_sizeOf_14 ?_
      refine ok_iand (pc := 15) dX12_sizeOf_15 ?_
      refine ok_iadd (pc := 16) dX12_sizeOf_16 ?_
      refine ok_istore_n (L' := [(1, vI (x1 + (iand (ishr p0 x2) 1))), (0, vI p0), (2, vI x2)]) (pc := 17) dX12_sizeOf_17 rfl rfl rfl ?_
      refine ok_iinc (L' := [(2, vI (x2 + 1)), (1, vI (x1 + (iand (ishr p0 x2) 1))), (0, vI p0)]) 2 (pc := 18) dX12_sizeOf_18 rfl rfl rfl ?_
      refine ok_goto (tgt := 4) (pc := 21) dX12_sizeOf_21 rfl ?_
      obtain ⟨h2, h⟩ := h
      obtain ⟨h3, h⟩ := h
      refine ok_sub (L' := [(0, vI p0), (1, vI (x1 + (iand (ishr p0 x2) 1))), (2, vI (x2 + 1))]) [2,1,0] rfl ?_
      exact ih (x1 + (iand (ishr p0 x2) 1)) (x2 + 1) σ h2 h3 h
set_option maxRecDepth 100000 in
set_option maxHeartbeats 4000000 in
theorem c_X12_sizeOf (X : XE) (p0 : Int) (hp0 : inR p0) {σ : Mem} {Q : Int → Mem → Prop} (h : v_X12_sizeOf p0 σ Q) : CT X yX12_sizeOf cX12_sizeOf 3 (some .int) rm_X12_sizeOf 1 [vI p0] σ Q := by
  refine ct_of (own := RX12) (L := [(0, vI p0)]) rfl rfl (Nat.le_of_ble_eq_true rfl) rfl ?_
  refine ok_iconst (pc := 0) dX12_sizeOf_0 ?_
  refine ok_istore_n (L' := [(1, vI 0), (0, vI p0)]) (pc := 1) dX12_sizeOf_1 rfl rfl rfl ?_
  refine ok_iconst (pc := 2) dX12_sizeOf_2 ?_
  refine ok_istore_n (L' := [(2, vI 0), (1, vI 0), (0, vI p0)]) (pc := 3) dX12_sizeOf_3 rfl rfl rfl ?_
  refine ok_sub (L' := [(0, vI p0), (1, vI 0), (2, vI 0)]) [2,1,0] rfl ?_
  obtain ⟨n1, h⟩ := h
  exact w_X12_sizeOf_4 X p0 hp0 n1 0 0 σ (r_lit rfl) (r_lit rfl) h
theorem dX12_matchAt_0 : decode cX12_matchAt 0 = .ok (.iload_n 1, 1) := by decide +kernel
theorem dX12_matchAt_1 : decode cX12_matchAt 1 = .ok (.istore_n 3, 1) := by decide +kernel
theorem dX12_matchAt_2 : decode cX12_matchAt 2 = .ok (.bipush (-4), 2) := by decide +kernel
theorem dX12_matchAt_4 : decode cX12_matchAt 4 = .ok (.istore 4, 2) := by decide +kernel
theorem dX12_matchAt_6 : decode cX12_matchAt 6 = .ok (.iconst 0, 1) := by decide +kernel
theorem dX12_matchAt_7 : decode cX12_matchAt 7 = .ok (.istore 5, 2) := by decide +kernel
theorem dX12_matchAt_9 : decode cX12_matchAt 9 = .ok (.iload 5, 2) := by decide +kernel
theorem dX12_matchAt_11 : decode cX12_matchAt 11 = .ok (.iload_n 2, 1) := by decide +kernel
theorem dX12_matchAt_12 : decode cX12_matchAt 12 = .ok (.if_icmp .gt 87, 3) := by decide +kernel
theorem dX12_matchAt_15 : decode cX12_matchAt 15 = .ok (.bipush (-4), 2) := by decide +kernel
theorem dX12_matchAt_17 : decode cX12_matchAt 17 = .ok (.istore 4, 2) := by decide +kernel
theorem dX12_matchAt_19 : decode cX12_matchAt 19 = .ok (.iconst 0, 1) := by decide +kernel
theorem dX12_matchAt_20 : decode cX12_matchAt 20 = .ok (.istore 6, 2) := by decide +kernel
theorem dX12_matchAt_22 : decode cX12_matchAt 22 = .ok (.iload 6, 2) := by decide +kernel
theorem dX12_matchAt_24 : decode cX12_matchAt 24 = .ok (.aload_n 0, 1) := by decide +kernel
theorem dX12_matchAt_25 : decode cX12_matchAt 25 = .ok (.getfield 232, 3) := by decide +kernel
theorem dX12_matchAt_28 : decode cX12_matchAt 28 = .ok (.if_icmp .ge 45, 3) := by decide +kernel
theorem dX12_matchAt_31 : decode cX12_matchAt 31 = .ok (.iload_n 3, 1) := by decide +kernel
theorem dX12_matchAt_32 : decode cX12_matchAt 32 = .ok (.iload 6, 2) := by decide +kernel
theorem dX12_matchAt_34 : decode cX12_matchAt 34 = .ok (.ishr, 1) := by decide +kernel
theorem dX12_matchAt_35 : decode cX12_matchAt 35 = .ok (.iconst 1, 1) := by decide +kernel
theorem dX12_matchAt_36 : decode cX12_matchAt 36 = .ok (.iand, 1) := by decide +kernel
theorem dX12_matchAt_37 : decode cX12_matchAt 37 = .ok (.iconst 1, 1) := by decide +kernel
theorem dX12_matchAt_38 : decode cX12_matchAt 38 = .ok (.if_icmp .ne 29, 3) := by decide +kernel
theorem dX12_matchAt_41 : decode cX12_matchAt 41 = .ok (.iload 4, 2) := by decide +kernel
theorem dX12_matchAt_43 : decode cX12_matchAt 43 = .ok (.bipush (-4), 2) := by decide +kernel
theorem dX12_matchAt_45 : decode cX12_matchAt 45 = .ok (.if_icmp .eq 18, 3) := by decide +kernel
theorem dX12_matchAt_48 : decode cX12_matchAt 48 = .ok (.aload_n 0, 1) := by decide +kernel
theorem dX12_matchAt_49 : decode cX12_matchAt 49 = .ok (.iload 6, 2) := by decide +kernel
theorem dX12_matchAt_51 : decode cX12_matchAt 51 = .ok (.invokevirtual 317, 3) := by decide +kernel
theorem dX12_matchAt_54 : decode cX12_matchAt 54 = .ok (.aload_n 0, 1) := by decide +kernel
theorem dX12_matchAt_55 : decode cX12_matchAt 55 = .ok (.iload 4, 2) := by decide +kernel
theorem dX12_matchAt_57 : decode cX12_matchAt 57 = .ok (.invokevirtual 317, 3) := by decide +kernel
theorem dX12_matchAt_60 : decode cX12_matchAt 60 = .ok (.if_icmp .ge 7, 3) := by decide +kernel
theorem dX12_matchAt_63 : decode cX12_matchAt 63 = .ok (.iload 6, 2) := by decide +kernel
theorem dX12_matchAt_65 : decode cX12_matchAt 65 = .ok (.istore 4, 2) := by decide +kernel
theorem dX12_matchAt_67 : decode cX12_matchAt 67 = .ok (.iinc 6 1, 3) := by decide +kernel
theorem dX12_matchAt_70 : decode cX12_matchAt 70 = .ok (.goto (-48), 3) := by decide +kernel
theorem dX12_matchAt_73 : decode cX12_matchAt 73 = .ok (.iload_n 3, 1) := by decide +kernel
theorem dX12_matchAt_74 : decode cX12_matchAt 74 = .ok (.iload 4, 2) := by decide +kernel
theorem dX12_matchAt_76 : decode cX12_matchAt 76 = .ok (.bipush (-4), 2) := by decide +kernel
theorem dX12_matchAt_78 : decode cX12_matchAt 78 = .ok (.if_icmp .ne 7, 3) := by decide +kernel
theorem dX12_matchAt_81 : decode cX12_matchAt 81 = .ok (.iload_n 3, 1) := by decide +kernel
theorem dX12_matchAt_82 : decode cX12_matchAt 82 = .ok (.goto 9, 3) := by decide +kernel
theorem dX12_matchAt_85 : decode cX12_matchAt 85 = .ok (.iconst 1, 1) := by decide +kernel
theorem dX12_matchAt_86 : decode cX12_matchAt 86 = .ok (.iload 4, 2) := by decide +kernel
theorem dX12_matchAt_88 : decode cX12_matchAt 88 = .ok (.ishl, 1) := by decide +kernel
theorem dX12_matchAt_89 : decode cX12_matchAt 89 = .ok (.iconst (-1), 1) := by decide +kernel
theorem dX12_matchAt_90 : decode cX12_matchAt 90 = .ok (.ixor, 1) := by decide +kernel
theorem dX12_matchAt_91 : decode cX12_matchAt 91 = .ok (.iand, 1) := by decide +kernel
theorem dX12_matchAt_92 : decode cX12_matchAt 92 = .ok (.istore_n 3, 1) := by decide +kernel
theorem dX12_matchAt_93 : decode cX12_matchAt 93 = .ok (.iinc 5 1, 3) := by decide +kernel
theorem dX12_matchAt_96 : decode cX12_matchAt 96 = .ok (.goto (-87), 3) := by decide +kernel
theorem dX12_matchAt_99 : decode cX12_matchAt 99 = .ok (.iload 4, 2) := by decide +kernel
theorem dX12_matchAt_101 : decode cX12_matchAt 101 = .ok (.ireturn, 1) := by decide +kernel
set_option maxRecDepth 100000 in
set_option maxHeartbeats 4000000 in
theorem w_X12_matchAt_22 (X : XE) (p1 : Int) (p2 : Int) (hp1 : inR p1) (hp2 : inR p2) (x3 : Int) (x5 : Int) (hx3 : inR x3) (hx5 : inR x5) {K9 : Int → Int → Int → Mem → Prop} {Q : Int → Mem → Prop} (hK9 : ∀ (x3 : Int) (x4 : Int) (x5 : Int) (σ : Mem), inR x3 → inR x4 → inR x5 → K9 x3 x4 x5 σ → ok X rm_X12_matchAt RX12 cX12_matchAt 7 (some .int) 1 Q 9 [(0, .ref (xad X 122)), (2, vI p2), (3, vI x3), (4, vI x4), (5, vI x5)] [] σ) : ∀ (n : Nat) (x4 : Int) (x6 : Int) (σ : Mem), inR x4 → inR x6 → l_X12_matchAt_22 p1 p2 x3 x5 K9 Q n x4 x6 σ → ok X rm_X12_matchAt RX12 cX12_matchAt 7 (some .int) 1 Q 22 [(0, .ref (xad X 122)), (2, vI p2), (3, vI x3), (4, vI x4), (5, vI x5), (6, vI x6)] [] σ := by
  intro n
  induction n with
  | zero => intro x4 x6 σ hx4 hx6 h; exact False.elim h
  | succ n ih =>
    intro x4 x6 σ hx4 hx6 h
    refine ok_iload 5 (pc := 22) dX12_matchAt_22 rfl ?_
    refine ok_aload_n 0 (pc := 24) dX12_matchAt_24 rfl rfl ?_
    refine ok_wf (fun hw1 => ?_)
    refine ok_getI (pc := 25) dX12_matchAt_25 fl_X12_232 sh_122 (Nat.le_of_ble_eq_true rfl) rfl rfl ?_
    refine ok_icmp_ge (tgt := 73) (pc := 28) dX12_matchAt_28 rfl hx6 (hw1 _ _) (fun q2 => ?_) (fun q2 => ?_)
    · have h := iteF h q2
      refine ok_iload_n 2 (pc := 73) dX12_matchAt_73 rfl rfl ?_
      refine ok_iload 3 (pc := 74) dX12_matchAt_74 rfl ?_
      refine ok_bipush (pc := 76) dX12_matchAt_76 rfl ?_
      refine ok_icmp_ne (tgt := 85) (pc := 78) dX12_matchAt_78 rfl hx4 (r_lit rfl) (fun q3 => ?_) (fun q3 => ?_)
      · have h := iteF h q3
        refine ok_iconst (pc := 85) dX12_matchAt_85 ?_
        refine ok_iload 3 (pc := 86) dX12_matchAt_86 rfl ?_
        refine ok_ishl (pc := 88) dX12_matchAt_88 ?_
        refine ok_iconst (pc := 89) dX12_matchAt_89 ?_
        refine ok_ixor (pc := 90) dX12_matchAt_90 ?_
        refine ok_iand (pc := 91) dX12_matchAt_91 ?_
        refine ok_istore_n (L' := [(3, vI (iand x3 (ixor (ishl 1 x4) (-1)))), (0, .ref (xad X 122)), (2, vI p2), (4, vI x4), (5, vI x5), (6, vI x6)]) (pc := 92) dX12_matchAt_92 rfl rfl rfl ?_
        refine ok_iinc (L' := [(5, vI (x5 + 1)), (3, vI (iand x3 (ixor (ishl 1 x4) (-1)))), (0, .ref (xad X 122)), (2, vI p2), (4, vI x4), (6, vI x6)]) 4 (pc := 93) dX12_matchAt_93 rfl rfl rfl ?_
        refine ok_goto (tgt := 9) (pc := 96) dX12_matchAt_96 rfl ?_
        obtain ⟨h4, h⟩ := h
        refine ok_sub (L' := [(0, .ref (xad X 122)), (2, vI p2), (3, vI (iand x3 (ixor (ishl 1 x4) (-1)))), (4, vI x4), (5, vI (x5 + 1))]) [2,3,1,4,0] rfl ?_
        exact hK9 (iand x3 (ixor (ishl 1 x4) (-1))) x4 (x5 + 1) σ (q_rng _) hx4 h4 h
      · have h := iteT h q3
        refine ok_iload_n 2 (pc := 81) dX12_matchAt_81 rfl rfl ?_
        refine ok_goto (tgt := 91) (pc := 82) dX12_matchAt_82 rfl ?_
        refine ok_iand (pc := 91) dX12_matchAt_91 ?_
        refine ok_istore_n (L' := [(3, vI (iand x3 x3)), (0, .ref (xad X 122)), (2, vI p2), (4, vI x4), (5, vI x5), (6, vI x6)]) (pc := 92) dX12_matchAt_92 rfl rfl rfl ?_
        refine ok_iinc (L' := [(5, vI (x5 + 1)), (3, vI (iand x3 x3)), (0, .ref (xad X 122)), (2, vI p2), (4, vI x4), (6, vI x6)]) 4 (pc := 93) dX12_matchAt_93 rfl rfl rfl ?_
        refine ok_goto (tgt := 9) (pc := 96) dX12_matchAt_96 rfl ?_
        obtain ⟨h5, h⟩ := h
        refine ok_sub (L' := [(0, .ref (xad X 122)), (2, vI p2), (3, vI (iand x3 x3)), (4, vI x4), (5, vI (x5 + 1))]) [2,3,1,4,0] rfl ?_
        exact hK9 (iand x3 x3) x4 (x5 + 1) σ (q_rng _) hx4 h5 h
    · have h := iteT h q2
      refine ok_iload_n 2 (pc := 31) dX12_matchAt_31 rfl rfl ?_
      refine ok_iload 5 (pc := 32) dX12_matchAt_32 rfl ?_
      refine ok_ishr (pc := 34) dX12_matchAt_34 ?_
      refine ok_iconst (pc := 35) dX12_matchAt_35 ?_
      refine ok_iand (pc := 36) dX12_matchAt_36 ?_
      refine ok_iconst (pc := 37) dX12_matchAt_37 ?_
      refine ok_icmp_ne (tgt := 67) (pc := 38) dX12_matchAt_38 rfl (q_rng _) (r_lit rfl) (fun q6 => ?_) (fun q6 => ?_)
      · have h := iteF h q6
        refine ok_iinc (L' := [(6, vI (x6 + 1)), (0, .ref (xad X 122)), (2, vI p2), (3, vI x3), (4, vI x4), (5, vI x5)]) 5 (pc := 67) dX12_matchAt_67 rfl rfl rfl ?_
        refine ok_goto (tgt := 22) (pc := 70) dX12_matchAt_70 rfl ?_
        obtain ⟨h7, h⟩ := h
        refine ok_sub (L' := [(0, .ref (xad X 122)), (2, vI p2), (3, vI x3), (4, vI x4), (5, vI x5), (6, vI (x6 + 1))]) [1,2,3,4,5,0] rfl ?_
        exact ih x4 (x6 + 1) σ hx4 h7 h
      · have h := iteT h q6
        refine ok_iload 3 (pc := 41) dX12_matchAt_41 rfl ?_
        refine ok_bipush (pc := 43) dX12_matchAt_43 rfl ?_
        refine ok_icmp_eq (tgt := 63) (pc := 45) dX12_matchAt_45 rfl hx4 (r_lit rfl) (fun q8 => ?_) (fun q8 => ?_)
        · have h := iteT h q8
          refine ok_iload 5 (pc := 63) dX12_matchAt_63 rfl ?_
          refine ok_istore (L' := [(4, vI x6), (0, .ref (xad X 122)), (2, vI p2), (3, vI x3), (5, vI x5), (6, vI x6)]) (pc := 65) dX12_matchAt_65 rfl rfl ?_
          refine ok_iinc (L' := [(6, vI (x6 + 1)), (4, vI x6), (0, .ref (xad X 122)), (2, vI p2), (3, vI x3), (5, vI x5)]) 5 (pc := 67) dX12_matchAt_67 rfl rfl rfl ?_
          refine ok_goto (tgt := 22) (pc := 70) dX12_matchAt_70 rfl ?_
          obtain ⟨h9, h⟩ := h
          refine ok_sub (L' := [(0, .ref (xad X 122)), (2, vI p2), (3, vI x3), (4, vI x6), (5, vI x5), (6, vI (x6 + 1))]) [2,3,4,1,5,0] rfl ?_
          exact ih x6 (x6 + 1) σ hx6 h9 h
        · have h := iteF h q8
          refine ok_aload_n 0 (pc := 48) dX12_matchAt_48 rfl rfl ?_
          refine ok_iload 5 (pc := 49) dX12_matchAt_49 rfl ?_
          refine ok_callVi (As := [vI x6]) (rest := []) (rm := rm_X12_missOf) (pc := 51) dX12_matchAt_51 me_X12_missOf ml_X12_317 (ci := 12) rfl sh_122 (Nat.le_of_ble_eq_true rfl) rfl des_X12_missOf rfl ⟨rfl, rfl, rfl, rfl⟩ rfl rfl (c_X12_missOf X x6 hx6 h) (fun r11 σ12 h10 h => ?_)
          refine ok_aload_n 0 (pc := 54) dX12_matchAt_54 rfl rfl ?_
          refine ok_iload 3 (pc := 55) dX12_matchAt_55 rfl ?_
          refine ok_callVi (As := [vI x4]) (rest := [vI r11]) (rm := rm_X12_missOf) (pc := 57) dX12_matchAt_57 me_X12_missOf ml_X12_317 (ci := 12) rfl sh_122 (Nat.le_of_ble_eq_true rfl) rfl des_X12_missOf rfl ⟨rfl, rfl, rfl, rfl⟩ rfl rfl (c_X12_missOf X x4 hx4 h) (fun r14 σ15 h13 h => ?_)
          refine ok_icmp_ge (tgt := 67) (pc := 60) dX12_matchAt_60 rfl h10 h13 (fun q16 => ?_) (fun q16 => ?_)
          · have h := iteF h q16
            refine ok_iinc (L' := [(6, vI (x6 + 1)), (0, .ref (xad X 122)), (2, vI p2), (3, vI x3), (4, vI x4), (5, vI x5)]) 5 (pc := 67) dX12_matchAt_67 rfl rfl rfl ?_
            refine ok_goto (tgt := 22) (pc := 70) dX12_matchAt_70 rfl ?_
            obtain ⟨h17, h⟩ := h
            refine ok_sub (L' := [(0, .ref (xad X 122)), (2, vI p2), (3, vI x3), (4, vI x4), (5, vI x5), (6, vI (x6 + 1))]) [1,2,3,4,5,0] rfl ?_
            exact ih x4 (x6 + 1) σ15 hx4 h17 h
          · have h := iteT h q16
            refine ok_iload 5 (pc := 63) dX12_matchAt_63 rfl ?_
            refine ok_istore (L' := [(4, vI x6), (0, .ref (xad X 122)), (2, vI p2), (3, vI x3), (5, vI x5), (6, vI x6)]) (pc := 65) dX12_matchAt_65 rfl rfl ?_
            refine ok_iinc (L' := [(6, vI (x6 + 1)), (4, vI x6), (0, .ref (xad X 122)), (2, vI p2), (3, vI x3), (5, vI x5)]) 5 (pc := 67) dX12_matchAt_67 rfl rfl rfl ?_
            refine ok_goto (tgt := 22) (pc := 70) dX12_matchAt_70 rfl ?_
            obtain ⟨h18, h⟩ := h
            refine ok_sub (L' := [(0, .ref (xad X 122)), (2, vI p2), (3, vI x3), (4, vI x6), (5, vI x5), (6, vI (x6 + 1))]) [2,3,4,1,5,0] rfl ?_
            exact ih x6 (x6 + 1) σ15 hx6 h18 h
set_option maxRecDepth 100000 in
set_option maxHeartbeats 4000000 in
theorem w_X12_matchAt_9 (X : XE) (p1 : Int) (p2 : Int) (hp1 : inR p1) (hp2 : inR p2) {Q : Int → Mem → Prop} : ∀ (n : Nat) (x3 : Int) (x4 : Int) (x5 : Int) (σ : Mem), inR x3 → inR x4 → inR x5 → l_X12_matchAt_9 p1 p2 Q n x3 x4 x5 σ → ok X rm_X12_matchAt RX12 cX12_matchAt 7 (some .int) 1 Q 9 [(0, .ref (xad X 122)), (2, vI p2), (3, vI x3), (4, vI x4), (5, vI x5)] [] σ := by
  intro n
  induction n with
  | zero => intro x3 x4 x5 σ hx3 hx4 hx5 h; exact False.elim h
  | succ n ih =>
    intro x3 x4 x5 σ hx3 hx4 hx5 h
    refine ok_iload 4 (pc := 9) dX12_matchAt_9 rfl ?_
    refine ok_iload_n 1 (pc := 11) dX12_matchAt_11 rfl rfl ?_
    refine ok_icmp_gt (tgt := 99) (pc := 12) dX12_matchAt_12 rfl hx5 hp2 (fun q1 => ?_) (fun q1 => ?_)
    · have h := iteT h q1
      refine ok_iload 3 (pc := 99) dX12_matchAt_99 rfl ?_
      exact ok_iret (pc := 101) dX12_matchAt_101 rfl rfl rfl hx4 h
    · have h := iteF h q1
      refine ok_bipush (pc := 15) dX12_matchAt_15 rfl ?_
      refine ok_istore (L' := [(4, vI (-4)), (0, .ref (xad X 122)), (2, vI p2), (3, vI x3), (5, vI x5)]) (pc := 17) dX12_matchAt_17 rfl rfl ?_
      refine ok_iconst (pc := 19) dX12_matchAt_19 ?_
      refine ok_istore (L' := [(6, vI 0), (4, vI (-4)), (0, .ref (xad X 122)), (2, vI p2), (3, vI x3), (5, vI x5)]) (pc := 20) dX12_matchAt_20 rfl rfl ?_
      refine ok_sub (L' := [(0, .ref (xad X 122)), (2, vI p2), (3, vI x3), (4, vI (-4)), (5, vI x5), (6, vI 0)]) [2,3,4,1,5,0] rfl ?_
      obtain ⟨n2, h⟩ := h
      exact w_X12_matchAt_22 X p1 p2 hp1 hp2 x3 x5 hx3 hx5 (fun x3_ x4_ x5_ σ_ hx3_ hx4_ hx5_ h_ => ih x3_ x4_ x5_ σ_ hx3_ hx4_ hx5_ h_) n2 (-4) 0 σ (r_lit rfl) (r_lit rfl) h
set_option maxRecDepth 100000 in
set_option maxHeartbeats 4000000 in
theorem c_X12_matchAt (X : XE) (p1 : Int) (p2 : Int) (hp1 : inR p1) (hp2 : inR p2) {σ : Mem} {Q : Int → Mem → Prop} (h : v_X12_matchAt p1 p2 σ Q) : CT X yX12_matchAt cX12_matchAt 7 (some .int) rm_X12_matchAt 1 [.ref (xad X 122), vI p1, vI p2] σ Q := by
  refine ct_of (own := RX12) (L := [(0, .ref (xad X 122)), (1, vI p1), (2, vI p2)]) rfl rfl (Nat.le_of_ble_eq_true rfl) rfl ?_
  refine ok_iload_n 1 (pc := 0) dX12_matchAt_0 rfl rfl ?_
  refine ok_istore_n (L' := [(3, vI p1), (0, .ref (xad X 122)), (1, vI p1), (2, vI p2)]) (pc := 1) dX12_matchAt_1 rfl rfl rfl ?_
  refine ok_bipush (pc := 2) dX12_matchAt_2 rfl ?_
  refine ok_istore (L' := [(4, vI (-4)), (3, vI p1), (0, .ref (xad X 122)), (1, vI p1), (2, vI p2)]) (pc := 4) dX12_matchAt_4 rfl rfl ?_
  refine ok_iconst (pc := 6) dX12_matchAt_6 ?_
  refine ok_istore (L' := [(5, vI 0), (4, vI (-4)), (3, vI p1), (0, .ref (xad X 122)), (1, vI p1), (2, vI p2)]) (pc := 7) dX12_matchAt_7 rfl rfl ?_
  refine ok_sub (L' := [(0, .ref (xad X 122)), (2, vI p2), (3, vI p1), (4, vI (-4)), (5, vI 0)]) [3,5,2,1,0] rfl ?_
  obtain ⟨n1, h⟩ := h
  exact w_X12_matchAt_9 X p1 p2 hp1 hp2 n1 p1 (-4) 0 σ hp1 (r_lit rfl) (r_lit rfl) h
theorem dX12_match_0 : decode cX12_match 0 = .ok (.iload_n 1, 1) := by decide +kernel
theorem dX12_match_1 : decode cX12_match 1 = .ok (.i2l, 1) := by decide +kernel
theorem dX12_match_2 : decode cX12_match 2 = .ok (.lconst 0, 1) := by decide +kernel
theorem dX12_match_3 : decode cX12_match 3 = .ok (.lconst 1, 1) := by decide +kernel
theorem dX12_match_4 : decode cX12_match 4 = .ok (.invokestatic 137, 3) := by decide +kernel
theorem dX12_match_7 : decode cX12_match 7 = .ok (.ifCond .ne 38, 3) := by decide +kernel
theorem dX12_match_10 : decode cX12_match 10 = .ok (.iload_n 1, 1) := by decide +kernel
theorem dX12_match_11 : decode cX12_match 11 = .ok (.i2l, 1) := by decide +kernel
theorem dX12_match_12 : decode cX12_match 12 = .ok (.ldc2_w 298, 3) := by decide +kernel
theorem dX12_match_15 : decode cX12_match 15 = .ok (.ldc2_w 320, 3) := by decide +kernel
theorem dX12_match_18 : decode cX12_match 18 = .ok (.invokestatic 137, 3) := by decide +kernel
theorem dX12_match_21 : decode cX12_match 21 = .ok (.ifCond .ne 24, 3) := by decide +kernel
theorem dX12_match_24 : decode cX12_match 24 = .ok (.iload_n 1, 1) := by decide +kernel
theorem dX12_match_25 : decode cX12_match 25 = .ok (.i2l, 1) := by decide +kernel
theorem dX12_match_26 : decode cX12_match 26 = .ok (.ldc2_w 322, 3) := by decide +kernel
theorem dX12_match_29 : decode cX12_match 29 = .ok (.bipush 49, 2) := by decide +kernel
theorem dX12_match_31 : decode cX12_match 31 = .ok (.aload_n 0, 1) := by decide +kernel
theorem dX12_match_32 : decode cX12_match 32 = .ok (.getfield 232, 3) := by decide +kernel
theorem dX12_match_35 : decode cX12_match 35 = .ok (.iadd, 1) := by decide +kernel
theorem dX12_match_36 : decode cX12_match 36 = .ok (.i2l, 1) := by decide +kernel
theorem dX12_match_37 : decode cX12_match 37 = .ok (.invokestatic 137, 3) := by decide +kernel
theorem dX12_match_40 : decode cX12_match 40 = .ok (.ifCond .ne 5, 3) := by decide +kernel
theorem dX12_match_43 : decode cX12_match 43 = .ok (.iconst (-1), 1) := by decide +kernel
theorem dX12_match_44 : decode cX12_match 44 = .ok (.ireturn, 1) := by decide +kernel
theorem dX12_match_45 : decode cX12_match 45 = .ok (.aload_n 0, 1) := by decide +kernel
theorem dX12_match_46 : decode cX12_match 46 = .ok (.getfield 86, 3) := by decide +kernel
theorem dX12_match_49 : decode cX12_match 49 = .ok (.bipush (-4), 2) := by decide +kernel
theorem dX12_match_51 : decode cX12_match 51 = .ok (.if_icmp .ne 6, 3) := by decide +kernel
theorem dX12_match_54 : decode cX12_match 54 = .ok (.bipush (-2), 2) := by decide +kernel
theorem dX12_match_56 : decode cX12_match 56 = .ok (.ireturn, 1) := by decide +kernel
theorem dX12_match_57 : decode cX12_match 57 = .ok (.aload_n 0, 1) := by decide +kernel
theorem dX12_match_58 : decode cX12_match 58 = .ok (.invokevirtual 324, 3) := by decide +kernel
theorem dX12_match_61 : decode cX12_match 61 = .ok (.istore_n 2, 1) := by decide +kernel
theorem dX12_match_62 : decode cX12_match 62 = .ok (.iload_n 1, 1) := by decide +kernel
theorem dX12_match_63 : decode cX12_match 63 = .ok (.ifCond .ne 10, 3) := by decide +kernel
theorem dX12_match_66 : decode cX12_match 66 = .ok (.iload_n 2, 1) := by decide +kernel
theorem dX12_match_67 : decode cX12_match 67 = .ok (.invokestatic 327, 3) := by decide +kernel
theorem dX12_match_70 : decode cX12_match 70 = .ok (.goto 38, 3) := by decide +kernel
theorem dX12_match_73 : decode cX12_match 73 = .ok (.iload_n 1, 1) := by decide +kernel
theorem dX12_match_74 : decode cX12_match 74 = .ok (.iconst 1, 1) := by decide +kernel
theorem dX12_match_75 : decode cX12_match 75 = .ok (.if_icmp .ne 7, 3) := by decide +kernel
theorem dX12_match_78 : decode cX12_match 78 = .ok (.iload_n 2, 1) := by decide +kernel
theorem dX12_match_79 : decode cX12_match 79 = .ok (.goto 29, 3) := by decide +kernel
theorem dX12_match_82 : decode cX12_match 82 = .ok (.iload_n 1, 1) := by decide +kernel
theorem dX12_match_83 : decode cX12_match 83 = .ok (.bipush 50, 2) := by decide +kernel
theorem dX12_match_85 : decode cX12_match 85 = .ok (.if_icmp .ge 15, 3) := by decide +kernel
theorem dX12_match_88 : decode cX12_match 88 = .ok (.aload_n 0, 1) := by decide +kernel
theorem dX12_match_89 : decode cX12_match 89 = .ok (.iload_n 2, 1) := by decide +kernel
theorem dX12_match_90 : decode cX12_match 90 = .ok (.iload_n 1, 1) := by decide +kernel
theorem dX12_match_91 : decode cX12_match 91 = .ok (.bipush 10, 2) := by decide +kernel
theorem dX12_match_93 : decode cX12_match 93 = .ok (.isub, 1) := by decide +kernel
theorem dX12_match_94 : decode cX12_match 94 = .ok (.invokevirtual 330, 3) := by decide +kernel
theorem dX12_match_97 : decode cX12_match 97 = .ok (.goto 11, 3) := by decide +kernel
theorem dX12_match_100 : decode cX12_match 100 = .ok (.aload_n 0, 1) := by decide +kernel
theorem dX12_match_101 : decode cX12_match 101 = .ok (.iload_n 1, 1) := by decide +kernel
theorem dX12_match_102 : decode cX12_match 102 = .ok (.bipush 50, 2) := by decide +kernel
theorem dX12_match_104 : decode cX12_match 104 = .ok (.isub, 1) := by decide +kernel
theorem dX12_match_105 : decode cX12_match 105 = .ok (.invokevirtual 317, 3) := by decide +kernel
theorem dX12_match_108 : decode cX12_match 108 = .ok (.ireturn, 1) := by decide +kernel
set_option maxRecDepth 100000 in
set_option maxHeartbeats 4000000 in
theorem w_X12_match_45 (X : XE) (p1 : Int) (hp1 : inR p1) {Q : Int → Mem → Prop} {σ : Mem} (h : j_X12_match_45 p1 Q σ) : ok X rm_X12_match RX12 cX12_match 3 (some .int) 1 Q 45 [(0, .ref (xad X 122)), (1, vI p1)] [] σ := by
  refine ok_aload_n 0 (pc := 45) dX12_match_45 rfl rfl ?_
  refine ok_wf (fun hw1 => ?_)
  refine ok_getI (pc := 46) dX12_match_46 fl_X12_86 sh_122 (Nat.le_of_ble_eq_true rfl) rfl rfl ?_
  refine ok_bipush (pc := 49) dX12_match_49 rfl ?_
  refine ok_icmp_ne (tgt := 57) (pc := 51) dX12_match_51 rfl (hw1 _ _) (r_lit rfl) (fun q2 => ?_) (fun q2 => ?_)
  · have h := iteF h q2
    refine ok_aload_n 0 (pc := 57) dX12_match_57 rfl rfl ?_
    refine ok_callVi (As := []) (rest := []) (rm := rm_X12_matches) (pc := 58) dX12_match_58 me_X12_matches ml_X12_324 (ci := 12) rfl sh_122 (Nat.le_of_ble_eq_true rfl) rfl des_X12_matches rfl ⟨rfl, rfl, rfl, rfl⟩ rfl rfl (c_X12_matches X h) (fun r4 σ5 h3 h => ?_)
    refine ok_istore_n (L' := [(2, vI r4), (0, .ref (xad X 122)), (1, vI p1)]) (pc := 61) dX12_match_61 rfl rfl rfl ?_
    refine ok_iload_n 2 (pc := 62) dX12_match_62 rfl rfl ?_
    refine ok_if_ne (tgt := 73) (pc := 63) dX12_match_63 rfl hp1 (fun q6 => ?_) (fun q6 => ?_)
    · have h := iteF h q6
      refine ok_iload_n 2 (pc := 73) dX12_match_73 rfl rfl ?_
      refine ok_iconst (pc := 74) dX12_match_74 ?_
      refine ok_icmp_ne (tgt := 82) (pc := 75) dX12_match_75 rfl hp1 (r_lit rfl) (fun q7 => ?_) (fun q7 => ?_)
      · have h := iteF h q7
        refine ok_iload_n 2 (pc := 82) dX12_match_82 rfl rfl ?_
        refine ok_bipush (pc := 83) dX12_match_83 rfl ?_
        refine ok_icmp_ge (tgt := 100) (pc := 85) dX12_match_85 rfl hp1 (r_lit rfl) (fun q8 => ?_) (fun q8 => ?_)
        · have h := iteF h q8
          refine ok_aload_n 1 (pc := 100) dX12_match_100 rfl rfl ?_
          refine ok_iload_n 2 (pc := 101) dX12_match_101 rfl rfl ?_
          refine ok_bipush (pc := 102) dX12_match_102 rfl ?_
          refine ok_isub (pc := 104) dX12_match_104 ?_
          obtain ⟨h9, h⟩ := h
          refine ok_callVi (As := [vI (p1 - 50)]) (rest := []) (rm := rm_X12_missOf) (pc := 105) dX12_match_105 me_X12_missOf ml_X12_317 (ci := 12) rfl sh_122 (Nat.le_of_ble_eq_true rfl) rfl des_X12_missOf rfl ⟨rfl, rfl, rfl, rfl⟩ rfl rfl (c_X12_missOf X (p1 - 50) h9 h) (fun r11 σ12 h10 h => ?_)
          exact ok_iret (pc := 108) dX12_match_108 rfl rfl rfl h10 h
        · have h := iteT h q8
          refine ok_aload_n 1 (pc := 88) dX12_match_88 rfl rfl ?_
          refine ok_iload_n 0 (pc := 89) dX12_match_89 rfl rfl ?_
          refine ok_iload_n 2 (pc := 90) dX12_match_90 rfl rfl ?_
          refine ok_bipush (pc := 91) dX12_match_91 rfl ?_
          refine ok_isub (pc := 93) dX12_match_93 ?_
          obtain ⟨h13, h⟩ := h
          refine ok_callVi (As := [vI r4, vI (p1 - 10)]) (rest := []) (rm := rm_X12_matchAt) (pc := 94) dX12_match_94 me_X12_matchAt ml_X12_330 (ci := 12) rfl sh_122 (Nat.le_of_ble_eq_true rfl) rfl des_X12_matchAt rfl ⟨rfl, rfl, rfl, rfl⟩ rfl rfl (c_X12_matchAt X r4 (p1 - 10) h3 h13 h) (fun r15 σ16 h14 h => ?_)
          refine ok_goto (tgt := 108) (pc := 97) dX12_match_97 rfl ?_
          exact ok_iret (pc := 108) dX12_match_108 rfl rfl rfl h14 h
      · have h := iteT h q7
        refine ok_iload_n 0 (pc := 78) dX12_match_78 rfl rfl ?_
        refine ok_goto (tgt := 108) (pc := 79) dX12_match_79 rfl ?_
        exact ok_iret (pc := 108) dX12_match_108 rfl rfl rfl h3 h
    · have h := iteT h q6
      refine ok_iload_n 0 (pc := 66) dX12_match_66 rfl rfl ?_
      refine ok_callSi (As := [vI r4]) (rest := []) (rm := rm_X12_sizeOf) (pc := 67) dX12_match_67 me_X12_sizeOf ml_X12_327 des_X12_sizeOf rfl ⟨rfl, rfl, rfl, rfl⟩ rfl rfl (c_X12_sizeOf X r4 h3 h) (fun r18 σ19 h17 h => ?_)
      refine ok_goto (tgt := 108) (pc := 70) dX12_match_70 rfl ?_
      exact ok_iret (pc := 108) dX12_match_108 rfl rfl rfl h17 h
  · have h := iteT h q2
    refine ok_bipush (pc := 54) dX12_match_54 rfl ?_
    exact ok_iret (pc := 56) dX12_match_56 rfl rfl rfl (r_lit rfl) h
set_option maxRecDepth 100000 in
set_option maxHeartbeats 4000000 in
theorem c_X12_match (X : XE) (p1 : Int) (hp1 : inR p1) {σ : Mem} {Q : Int → Mem → Prop} (h : v_X12_match p1 σ Q) : CT X yX12_match cX12_match 3 (some .int) rm_X12_match 1 [.ref (xad X 122), vI p1] σ Q := by
  refine ct_of (own := RX12) (L := [(0, .ref (xad X 122)), (1, vI p1)]) rfl rfl (Nat.le_of_ble_eq_true rfl) rfl ?_
  refine ok_iload_n 1 (pc := 0) dX12_match_0 rfl rfl ?_
  refine ok_i2l (pc := 1) dX12_match_1 hp1 ?_
  refine ok_lconst (v := 0) (pc := 2) dX12_match_2 rfl ?_
  refine ok_lconst (v := 1) (pc := 3) dX12_match_3 rfl ?_
  refine ok_callSi (As := [vL p1, vL 0, vL 1]) (rest := []) (rm := rm_X12_in) (pc := 4) dX12_match_4 me_X12_in ml_X12_137 des_X12_in rfl ⟨rfl, rfl, rfl, rfl⟩ rfl rfl (c_X12_in X p1 0 1 (l_of_r hp1) (l_of_r (r_lit rfl)) (l_of_r (r_lit rfl)) h) (fun r2 σ3 h1 h => ?_)
  refine ok_if_ne (tgt := 45) (pc := 7) dX12_match_7 rfl h1 (fun q4 => ?_) (fun q4 => ?_)
  · have h := iteF h q4
    exact w_X12_match_45 X p1 hp1   h
  · have h := iteT h q4
    refine ok_iload_n 1 (pc := 10) dX12_match_10 rfl rfl ?_
    refine ok_i2l (pc := 11) dX12_match_11 hp1 ?_
    refine ok_ldc2 (pc := 12) dX12_match_12 cn_X12_298 ?_
    refine ok_ldc2 (pc := 15) dX12_match_15 cn_X12_320 ?_
    refine ok_callSi (As := [vL p1, vL 10, vL 33]) (rest := []) (rm := rm_X12_in) (pc := 18) dX12_match_18 me_X12_in ml_X12_137 des_X12_in rfl ⟨rfl, rfl, rfl, rfl⟩ rfl rfl (c_X12_in X p1 10 33 (l_of_r hp1) (l_of_r (r_lit rfl)) (l_of_r (r_lit rfl)) h) (fun r6 σ7 h5 h => ?_)
    refine ok_if_ne (tgt := 45) (pc := 21) dX12_match_21 rfl h5 (fun q8 => ?_) (fun q8 => ?_)
    · have h := iteF h q8
      exact w_X12_match_45 X p1 hp1   h
    · have h := iteT h q8
      refine ok_iload_n 1 (pc := 24) dX12_match_24 rfl rfl ?_
      refine ok_i2l (pc := 25) dX12_match_25 hp1 ?_
      refine ok_ldc2 (pc := 26) dX12_match_26 cn_X12_322 ?_
      refine ok_bipush (pc := 29) dX12_match_29 rfl ?_
      refine ok_aload_n 0 (pc := 31) dX12_match_31 rfl rfl ?_
      refine ok_wf (fun hw9 => ?_)
      refine ok_getI (pc := 32) dX12_match_32 fl_X12_232 sh_122 (Nat.le_of_ble_eq_true rfl) rfl rfl ?_
      refine ok_iadd (pc := 35) dX12_match_35 ?_
      obtain ⟨h10, h⟩ := h
      refine ok_i2l (pc := 36) dX12_match_36 h10 ?_
      refine ok_callSi (As := [vL p1, vL 50, vL (49 + (σ7 122 24))]) (rest := []) (rm := rm_X12_in) (pc := 37) dX12_match_37 me_X12_in ml_X12_137 des_X12_in rfl ⟨rfl, rfl, rfl, rfl⟩ rfl rfl (c_X12_in X p1 50 (49 + (σ7 122 24)) (l_of_r hp1) (l_of_r (r_lit rfl)) (l_of_r h10) h) (fun r12 σ13 h11 h => ?_)
      refine ok_if_ne (tgt := 45) (pc := 40) dX12_match_40 rfl h11 (fun q14 => ?_) (fun q14 => ?_)
      · have h := iteF h q14
        exact w_X12_match_45 X p1 hp1   h
      · have h := iteT h q14
        refine ok_iconst (pc := 43) dX12_match_43 ?_
        exact ok_iret (pc := 44) dX12_match_44 rfl rfl rfl (r_lit rfl) h
theorem dX12_byChance_0 : decode cX12_byChance 0 = .ok (.iload_n 1, 1) := by decide +kernel
theorem dX12_byChance_1 : decode cX12_byChance 1 = .ok (.i2l, 1) := by decide +kernel
theorem dX12_byChance_2 : decode cX12_byChance 2 = .ok (.lconst 0, 1) := by decide +kernel
theorem dX12_byChance_3 : decode cX12_byChance 3 = .ok (.lconst 1, 1) := by decide +kernel
theorem dX12_byChance_4 : decode cX12_byChance 4 = .ok (.invokestatic 137, 3) := by decide +kernel
theorem dX12_byChance_7 : decode cX12_byChance 7 = .ok (.ifCond .ne 7, 3) := by decide +kernel
theorem dX12_byChance_10 : decode cX12_byChance 10 = .ok (.ldc2_w 276, 3) := by decide +kernel
theorem dX12_byChance_13 : decode cX12_byChance 13 = .ok (.lreturn, 1) := by decide +kernel
theorem dX12_byChance_14 : decode cX12_byChance 14 = .ok (.aload_n 0, 1) := by decide +kernel
theorem dX12_byChance_15 : decode cX12_byChance 15 = .ok (.getfield 86, 3) := by decide +kernel
theorem dX12_byChance_18 : decode cX12_byChance 18 = .ok (.bipush (-4), 2) := by decide +kernel
theorem dX12_byChance_20 : decode cX12_byChance 20 = .ok (.if_icmp .ne 7, 3) := by decide +kernel
theorem dX12_byChance_23 : decode cX12_byChance 23 = .ok (.ldc2_w 278, 3) := by decide +kernel
theorem dX12_byChance_26 : decode cX12_byChance 26 = .ok (.lreturn, 1) := by decide +kernel
theorem dX12_byChance_27 : decode cX12_byChance 27 = .ok (.iconst 0, 1) := by decide +kernel
theorem dX12_byChance_28 : decode cX12_byChance 28 = .ok (.istore_n 2, 1) := by decide +kernel
theorem dX12_byChance_29 : decode cX12_byChance 29 = .ok (.iconst 0, 1) := by decide +kernel
theorem dX12_byChance_30 : decode cX12_byChance 30 = .ok (.istore_n 3, 1) := by decide +kernel
theorem dX12_byChance_31 : decode cX12_byChance 31 = .ok (.iload_n 3, 1) := by decide +kernel
theorem dX12_byChance_32 : decode cX12_byChance 32 = .ok (.aload_n 0, 1) := by decide +kernel
theorem dX12_byChance_33 : decode cX12_byChance 33 = .ok (.getfield 232, 3) := by decide +kernel
theorem dX12_byChance_36 : decode cX12_byChance 36 = .ok (.if_icmp .ge 25, 3) := by decide +kernel
theorem dX12_byChance_39 : decode cX12_byChance 39 = .ok (.iload_n 2, 1) := by decide +kernel
theorem dX12_byChance_40 : decode cX12_byChance 40 = .ok (.aload_n 0, 1) := by decide +kernel
theorem dX12_byChance_41 : decode cX12_byChance 41 = .ok (.iload_n 3, 1) := by decide +kernel
theorem dX12_byChance_42 : decode cX12_byChance 42 = .ok (.invokevirtual 260, 3) := by decide +kernel
theorem dX12_byChance_45 : decode cX12_byChance 45 = .ok (.ifCond .eq 7, 3) := by decide +kernel
theorem dX12_byChance_48 : decode cX12_byChance 48 = .ok (.iconst 0, 1) := by decide +kernel
theorem dX12_byChance_49 : decode cX12_byChance 49 = .ok (.goto 4, 3) := by decide +kernel
theorem dX12_byChance_52 : decode cX12_byChance 52 = .ok (.iconst 1, 1) := by decide +kernel
theorem dX12_byChance_53 : decode cX12_byChance 53 = .ok (.iadd, 1) := by decide +kernel
theorem dX12_byChance_54 : decode cX12_byChance 54 = .ok (.istore_n 2, 1) := by decide +kernel
theorem dX12_byChance_55 : decode cX12_byChance 55 = .ok (.iinc 3 1, 3) := by decide +kernel
theorem dX12_byChance_58 : decode cX12_byChance 58 = .ok (.goto (-27), 3) := by decide +kernel
theorem dX12_byChance_61 : decode cX12_byChance 61 = .ok (.iload_n 2, 1) := by decide +kernel
theorem dX12_byChance_62 : decode cX12_byChance 62 = .ok (.ifCond .ne 7, 3) := by decide +kernel
theorem dX12_byChance_65 : decode cX12_byChance 65 = .ok (.ldc2_w 333, 3) := by decide +kernel
theorem dX12_byChance_68 : decode cX12_byChance 68 = .ok (.lreturn, 1) := by decide +kernel
theorem dX12_byChance_69 : decode cX12_byChance 69 = .ok (.aload_n 0, 1) := by decide +kernel
theorem dX12_byChance_70 : decode cX12_byChance 70 = .ok (.aload_n 0, 1) := by decide +kernel
theorem dX12_byChance_71 : decode cX12_byChance 71 = .ok (.getfield 86, 3) := by decide +kernel
theorem dX12_byChance_74 : decode cX12_byChance 74 = .ok (.aload_n 0, 1) := by decide +kernel
theorem dX12_byChance_75 : decode cX12_byChance 75 = .ok (.getfield 132, 3) := by decide +kernel
theorem dX12_byChance_78 : decode cX12_byChance 78 = .ok (.invokevirtual 226, 3) := by decide +kernel
theorem dX12_byChance_81 : decode cX12_byChance 81 = .ok (.istore_n 3, 1) := by decide +kernel
theorem dX12_byChance_82 : decode cX12_byChance 82 = .ok (.iload_n 2, 1) := by decide +kernel
theorem dX12_byChance_83 : decode cX12_byChance 83 = .ok (.i2l, 1) := by decide +kernel
theorem dX12_byChance_84 : decode cX12_byChance 84 = .ok (.lstore 4, 2) := by decide +kernel
theorem dX12_byChance_86 : decode cX12_byChance 86 = .ok (.lconst 1, 1) := by decide +kernel
theorem dX12_byChance_87 : decode cX12_byChance 87 = .ok (.lstore 6, 2) := by decide +kernel
theorem dX12_byChance_89 : decode cX12_byChance 89 = .ok (.iconst 0, 1) := by decide +kernel
theorem dX12_byChance_90 : decode cX12_byChance 90 = .ok (.istore 8, 2) := by decide +kernel
theorem dX12_byChance_92 : decode cX12_byChance 92 = .ok (.iload 8, 2) := by decide +kernel
theorem dX12_byChance_94 : decode cX12_byChance 94 = .ok (.iconst 4, 1) := by decide +kernel
theorem dX12_byChance_95 : decode cX12_byChance 95 = .ok (.if_icmp .ge 122, 3) := by decide +kernel
theorem dX12_byChance_98 : decode cX12_byChance 98 = .ok (.aload_n 0, 1) := by decide +kernel
theorem dX12_byChance_99 : decode cX12_byChance 99 = .ok (.getfield 90, 3) := by decide +kernel
theorem dX12_byChance_102 : decode cX12_byChance 102 = .ok (.iload 8, 2) := by decide +kernel
theorem dX12_byChance_104 : decode cX12_byChance 104 = .ok (.iaload, 1) := by decide +kernel
theorem dX12_byChance_105 : decode cX12_byChance 105 = .ok (.ifCond .le 106, 3) := by decide +kernel
theorem dX12_byChance_108 : decode cX12_byChance 108 = .ok (.iconst 0, 1) := by decide +kernel
theorem dX12_byChance_109 : decode cX12_byChance 109 = .ok (.istore 9, 2) := by decide +kernel
theorem dX12_byChance_111 : decode cX12_byChance 111 = .ok (.iconst 0, 1) := by decide +kernel
theorem dX12_byChance_112 : decode cX12_byChance 112 = .ok (.istore 10, 2) := by decide +kernel
theorem dX12_byChance_114 : decode cX12_byChance 114 = .ok (.iload 10, 2) := by decide +kernel
theorem dX12_byChance_116 : decode cX12_byChance 116 = .ok (.aload_n 0, 1) := by decide +kernel
theorem dX12_byChance_117 : decode cX12_byChance 117 = .ok (.getfield 232, 3) := by decide +kernel
theorem dX12_byChance_120 : decode cX12_byChance 120 = .ok (.if_icmp .ge 76, 3) := by decide +kernel
theorem dX12_byChance_123 : decode cX12_byChance 123 = .ok (.aload_n 0, 1) := by decide +kernel
theorem dX12_byChance_124 : decode cX12_byChance 124 = .ok (.getfield 55, 3) := by decide +kernel
theorem dX12_byChance_127 : decode cX12_byChance 127 = .ok (.iconst 4, 1) := by decide +kernel
theorem dX12_byChance_128 : decode cX12_byChance 128 = .ok (.iload 10, 2) := by decide +kernel
theorem dX12_byChance_130 : decode cX12_byChance 130 = .ok (.imul, 1) := by decide +kernel
theorem dX12_byChance_131 : decode cX12_byChance 131 = .ok (.iload 8, 2) := by decide +kernel
theorem dX12_byChance_133 : decode cX12_byChance 133 = .ok (.iadd, 1) := by decide +kernel
theorem dX12_byChance_134 : decode cX12_byChance 134 = .ok (.iaload, 1) := by decide +kernel
theorem dX12_byChance_135 : decode cX12_byChance 135 = .ok (.istore 11, 2) := by decide +kernel
theorem dX12_byChance_137 : decode cX12_byChance 137 = .ok (.iload 9, 2) := by decide +kernel
theorem dX12_byChance_139 : decode cX12_byChance 139 = .ok (.aload_n 0, 1) := by decide +kernel
theorem dX12_byChance_140 : decode cX12_byChance 140 = .ok (.iload 10, 2) := by decide +kernel
theorem dX12_byChance_142 : decode cX12_byChance 142 = .ok (.invokevirtual 260, 3) := by decide +kernel
theorem dX12_byChance_145 : decode cX12_byChance 145 = .ok (.ifCond .ne 41, 3) := by decide +kernel
theorem dX12_byChance_148 : decode cX12_byChance 148 = .ok (.iload 11, 2) := by decide +kernel
theorem dX12_byChance_150 : decode cX12_byChance 150 = .ok (.ifCond .le 36, 3) := by decide +kernel
theorem dX12_byChance_153 : decode cX12_byChance 153 = .ok (.iload 11, 2) := by decide +kernel
theorem dX12_byChance_155 : decode cX12_byChance 155 = .ok (.i2l, 1) := by decide +kernel
theorem dX12_byChance_156 : decode cX12_byChance 156 = .ok (.aload_n 0, 1) := by decide +kernel
theorem dX12_byChance_157 : decode cX12_byChance 157 = .ok (.getfield 90, 3) := by decide +kernel
theorem dX12_byChance_160 : decode cX12_byChance 160 = .ok (.iload 8, 2) := by decide +kernel
theorem dX12_byChance_162 : decode cX12_byChance 162 = .ok (.iaload, 1) := by decide +kernel
theorem dX12_byChance_163 : decode cX12_byChance 163 = .ok (.iload_n 3, 1) := by decide +kernel
theorem dX12_byChance_164 : decode cX12_byChance 164 = .ok (.isub, 1) := by decide +kernel
theorem dX12_byChance_165 : decode cX12_byChance 165 = .ok (.i2l, 1) := by decide +kernel
theorem dX12_byChance_166 : decode cX12_byChance 166 = .ok (.aload_n 0, 1) := by decide +kernel
theorem dX12_byChance_167 : decode cX12_byChance 167 = .ok (.getfield 90, 3) := by decide +kernel
theorem dX12_byChance_170 : decode cX12_byChance 170 = .ok (.iload 8, 2) := by decide +kernel
theorem dX12_byChance_172 : decode cX12_byChance 172 = .ok (.iaload, 1) := by decide +kernel
theorem dX12_byChance_173 : decode cX12_byChance 173 = .ok (.iload_n 3, 1) := by decide +kernel
theorem dX12_byChance_174 : decode cX12_byChance 174 = .ok (.iadd, 1) := by decide +kernel
theorem dX12_byChance_175 : decode cX12_byChance 175 = .ok (.i2l, 1) := by decide +kernel
theorem dX12_byChance_176 : decode cX12_byChance 176 = .ok (.invokestatic 137, 3) := by decide +kernel
theorem dX12_byChance_179 : decode cX12_byChance 179 = .ok (.ifCond .eq 7, 3) := by decide +kernel
theorem dX12_byChance_182 : decode cX12_byChance 182 = .ok (.iconst 1, 1) := by decide +kernel
theorem dX12_byChance_183 : decode cX12_byChance 183 = .ok (.goto 4, 3) := by decide +kernel
theorem dX12_byChance_186 : decode cX12_byChance 186 = .ok (.iconst 0, 1) := by decide +kernel
theorem dX12_byChance_187 : decode cX12_byChance 187 = .ok (.iadd, 1) := by decide +kernel
theorem dX12_byChance_188 : decode cX12_byChance 188 = .ok (.istore 9, 2) := by decide +kernel
theorem dX12_byChance_190 : decode cX12_byChance 190 = .ok (.iinc 10 1, 3) := by decide +kernel
theorem dX12_byChance_193 : decode cX12_byChance 193 = .ok (.goto (-79), 3) := by decide +kernel
theorem dX12_byChance_196 : decode cX12_byChance 196 = .ok (.lload 4, 2) := by decide +kernel
theorem dX12_byChance_198 : decode cX12_byChance 198 = .ok (.iload 9, 2) := by decide +kernel
theorem dX12_byChance_200 : decode cX12_byChance 200 = .ok (.i2l, 1) := by decide +kernel
theorem dX12_byChance_201 : decode cX12_byChance 201 = .ok (.lmul, 1) := by decide +kernel
theorem dX12_byChance_202 : decode cX12_byChance 202 = .ok (.lstore 4, 2) := by decide +kernel
theorem dX12_byChance_204 : decode cX12_byChance 204 = .ok (.lload 6, 2) := by decide +kernel
theorem dX12_byChance_206 : decode cX12_byChance 206 = .ok (.iload_n 2, 1) := by decide +kernel
theorem dX12_byChance_207 : decode cX12_byChance 207 = .ok (.i2l, 1) := by decide +kernel
theorem dX12_byChance_208 : decode cX12_byChance 208 = .ok (.lmul, 1) := by decide +kernel
theorem dX12_byChance_209 : decode cX12_byChance 209 = .ok (.lstore 6, 2) := by decide +kernel
theorem dX12_byChance_211 : decode cX12_byChance 211 = .ok (.iinc 8 1, 3) := by decide +kernel
theorem dX12_byChance_214 : decode cX12_byChance 214 = .ok (.goto (-122), 3) := by decide +kernel
theorem dX12_byChance_217 : decode cX12_byChance 217 = .ok (.lload 4, 2) := by decide +kernel
theorem dX12_byChance_219 : decode cX12_byChance 219 = .ok (.lload 6, 2) := by decide +kernel
theorem dX12_byChance_221 : decode cX12_byChance 221 = .ok (.iload_n 1, 1) := by decide +kernel
theorem dX12_byChance_222 : decode cX12_byChance 222 = .ok (.invokestatic 286, 3) := by decide +kernel
theorem dX12_byChance_225 : decode cX12_byChance 225 = .ok (.lreturn, 1) := by decide +kernel
set_option maxRecDepth 100000 in
set_option maxHeartbeats 4000000 in
theorem w_X12_byChance_186 (X : XE) (p1 : Int) (hp1 : inR p1) (x2 : Int) (x3 : Int) (x4 : Int) (x6 : Int) (x8 : Int) (x10 : Int) (s0 : Int) (hx2 : inR x2) (hx3 : inR x3) (hx4 : inL x4) (hx6 : inL x6) (hx8 : inR x8) (hx10 : inR x10) (hs0 : inR s0) {K92 : Int → Int → Int → Mem → Prop} {K114 : Int → Int → Mem → Prop} {Q : Int → Mem → Prop} (hK92 : ∀ (x4 : Int) (x6 : Int) (x8 : Int) (σ : Mem), inL x4 → inL x6 → inR x8 → K92 x4 x6 x8 σ → ok X rm_X12_byChance RX12 cX12_byChance 12 (some .long) 2 Q 92 [(0, .ref (xad X 122)), (1, vI p1), (2, vI x2), (3, vI x3), (4, vL x4), (6, vL x6), (8, vI x8)] [] σ) (hK114 : ∀ (x9 : Int) (x10 : Int) (σ : Mem), inR x9 → inR x10 → K114 x9 x10 σ → ok X rm_X12_byChance RX12 cX12_byChance 12 (some .long) 2 Q 114 [(0, .ref (xad X 122)), (1, vI p1), (2, vI x2), (3, vI x3), (4, vL x4), (6, vL x6), (8, vI x8), (9, vI x9), (10, vI x10)] [] σ) {σ : Mem} (h : j_X12_byChance_186 p1 K92 K114 Q x2 x3 x4 x6 x8 x10 s0 σ) : ok X rm_X12_byChance RX12 cX12_byChance 12 (some .long) 2 Q 186 [(0, .ref (xad X 122)), (1, vI p1), (2, vI x2), (3, vI x3), (4, vL x4), (6, vL x6), (8, vI x8), (10, vI x10)] [vI s0] σ := by
  refine ok_iconst (pc := 186) dX12_byChance_186 ?_
  refine ok_iadd (pc := 187) dX12_byChance_187 ?_
  refine ok_istore (L' := [(9, vI (s0 + 0)), (0, .ref (xad X 122)), (1, vI p1), (2, vI x2), (3, vI x3), (4, vL x4), (6, vL x6), (8, vI x8), (10, vI x10)]) (pc := 188) dX12_byChance_188 rfl rfl ?_
  refine ok_iinc (L' := [(10, vI (x10 + 1)), (9, vI (s0 + 0)), (0, .ref (xad X 122)), (1, vI p1), (2, vI x2), (3, vI x3), (4, vL x4), (6, vL x6), (8, vI x8)]) 8 (pc := 190) dX12_byChance_190 rfl rfl rfl ?_
  refine ok_goto (tgt := 114) (pc := 193) dX12_byChance_193 rfl ?_
  obtain ⟨h1, h⟩ := h
  obtain ⟨h2, h⟩ := h
  refine ok_sub (L' := [(0, .ref (xad X 122)), (1, vI p1), (2, vI x2), (3, vI x3), (4, vL x4), (6, vL x6), (8, vI x8), (9, vI (s0 + 0)), (10, vI (x10 + 1))]) [2,3,4,5,6,7,8,1,0] rfl ?_
  exact hK114 (s0 + 0) (x10 + 1) σ h1 h2 h
set_option maxRecDepth 100000 in
set_option maxHeartbeats 4000000 in
theorem w_X12_byChance_114 (X : XE) (p1 : Int) (hp1 : inR p1) (x2 : Int) (x3 : Int) (x4 : Int) (x6 : Int) (x8 : Int) (hx2 : inR x2) (hx3 : inR x3) (hx4 : inL x4) (hx6 : inL x6) (hx8 : inR x8) {K92 : Int → Int → Int → Mem → Prop} {Q : Int → Mem → Prop} (hK92 : ∀ (x4 : Int) (x6 : Int) (x8 : Int) (σ : Mem), inL x4 → inL x6 → inR x8 → K92 x4 x6 x8 σ → ok X rm_X12_byChance RX12 cX12_byChance 12 (some .long) 2 Q 92 [(0, .ref (xad X 122)), (1, vI p1), (2, vI x2), (3, vI x3), (4, vL x4), (6, vL x6), (8, vI x8)] [] σ) : ∀ (n : Nat) (x9 : Int) (x10 : Int) (σ : Mem), inR x9 → inR x10 → l_X12_byChance_114 p1 x2 x3 x4 x6 x8 K92 Q n x9 x10 σ → ok X rm_X12_byChance RX12 cX12_byChance 12 (some .long) 2 Q 114 [(0, .ref (xad X 122)), (1, vI p1), (2, vI x2), (3, vI x3), (4, vL x4), (6, vL x6), (8, vI x8), (9, vI x9), (10, vI x10)] [] σ := by
  intro n
  induction n with
  | zero => intro x9 x10 σ hx9 hx10 h; exact False.elim h
  | succ n ih =>
    intro x9 x10 σ hx9 hx10 h
    refine ok_iload 8 (pc := 114) dX12_byChance_114 rfl ?_
    refine ok_aload_n 0 (pc := 116) dX12_byChance_116 rfl rfl ?_
    refine ok_wf (fun hw1 => ?_)
    refine ok_getI (pc := 117) dX12_byChance_117 fl_X12_232 sh_122 (Nat.le_of_ble_eq_true rfl) rfl rfl ?_
    refine ok_icmp_ge (tgt := 196) (pc := 120) dX12_byChance_120 rfl hx10 (hw1 _ _) (fun q2 => ?_) (fun q2 => ?_)
    · have h := iteF h q2
      refine ok_lload 4 (pc := 196) dX12_byChance_196 rfl ?_
      refine ok_iload 7 (pc := 198) dX12_byChance_198 rfl ?_
      refine ok_i2l (pc := 200) dX12_byChance_200 hx9 ?_
      refine ok_lmul (pc := 201) dX12_byChance_201 ?_
      refine ok_lstore (L' := [(4, vL (x4 * x9)), (0, .ref (xad X 122)), (1, vI p1), (2, vI x2), (3, vI x3), (6, vL x6), (8, vI x8), (9, vI x9), (10, vI x10)]) (pc := 202) dX12_byChance_202 rfl rfl ?_
      refine ok_lload 5 (pc := 204) dX12_byChance_204 rfl ?_
      refine ok_iload_n 3 (pc := 206) dX12_byChance_206 rfl rfl ?_
      refine ok_i2l (pc := 207) dX12_byChance_207 hx2 ?_
      refine ok_lmul (pc := 208) dX12_byChance_208 ?_
      refine ok_lstore (L' := [(6, vL (x6 * x2)), (4, vL (x4 * x9)), (0, .ref (xad X 122)), (1, vI p1), (2, vI x2), (3, vI x3), (8, vI x8), (9, vI x9), (10, vI x10)]) (pc := 209) dX12_byChance_209 rfl rfl ?_
      refine ok_iinc (L' := [(8, vI (x8 + 1)), (6, vL (x6 * x2)), (4, vL (x4 * x9)), (0, .ref (xad X 122)), (1, vI p1), (2, vI x2), (3, vI x3), (9, vI x9), (10, vI x10)]) 6 (pc := 211) dX12_byChance_211 rfl rfl rfl ?_
      refine ok_goto (tgt := 92) (pc := 214) dX12_byChance_214 rfl ?_
      obtain ⟨h3, h⟩ := h
      obtain ⟨h4, h⟩ := h
      obtain ⟨h5, h⟩ := h
      refine ok_sub (L' := [(0, .ref (xad X 122)), (1, vI p1), (2, vI x2), (3, vI x3), (4, vL (x4 * x9)), (6, vL (x6 * x2)), (8, vI (x8 + 1))]) [3,4,5,6,2,1,0] rfl ?_
      exact hK92 (x4 * x9) (x6 * x2) (x8 + 1) σ h3 h4 h5 h
    · have h := iteT h q2
      refine ok_aload_n 0 (pc := 123) dX12_byChance_123 rfl rfl ?_
      refine ok_getR (pc := 124) dX12_byChance_124 fl_X12_55 sh_122 (Nat.le_of_ble_eq_true rfl) rfl rfl ?_
      refine ok_iconst (pc := 127) dX12_byChance_127 ?_
      refine ok_iload 8 (pc := 128) dX12_byChance_128 rfl ?_
      refine ok_imul (pc := 130) dX12_byChance_130 ?_
      refine ok_iload 6 (pc := 131) dX12_byChance_131 rfl ?_
      refine ok_iadd (pc := 133) dX12_byChance_133 ?_
      obtain ⟨h6, h⟩ := h
      obtain ⟨h7, h⟩ := h
      refine ok_iald (pc := 134) dX12_byChance_134 sh_138 (Nat.le_of_ble_eq_true rfl) rfl h6 h7 ?_
      refine ok_istore (L' := [(11, vI (σ 138 ((4 * x10) + x8).toNat)), (0, .ref (xad X 122)), (1, vI p1), (2, vI x2), (3, vI x3), (4, vL x4), (6, vL x6), (8, vI x8), (9, vI x9), (10, vI x10)]) (pc := 135) dX12_byChance_135 rfl rfl ?_
      refine ok_iload 8 (pc := 137) dX12_byChance_137 rfl ?_
      refine ok_aload_n 1 (pc := 139) dX12_byChance_139 rfl rfl ?_
      refine ok_iload 9 (pc := 140) dX12_byChance_140 rfl ?_
      refine ok_callVi (As := [vI x10]) (rest := [vI x9]) (rm := rm_X12_isOut) (pc := 142) dX12_byChance_142 me_X12_isOut ml_X12_260 (ci := 12) rfl sh_122 (Nat.le_of_ble_eq_true rfl) rfl des_X12_isOut rfl ⟨rfl, rfl, rfl, rfl⟩ rfl rfl (c_X12_isOut X x10 hx10 h) (fun r9 σ10 h8 h => ?_)
      refine ok_if_ne (tgt := 186) (pc := 145) dX12_byChance_145 rfl h8 (fun q11 => ?_) (fun q11 => ?_)
      · have h := iteF h q11
        refine ok_sub (L' := [(0, .ref (xad X 122)), (1, vI p1), (2, vI x2), (3, vI x3), (4, vL x4), (6, vL x6), (8, vI x8), (10, vI x10)]) [1,2,3,4,5,6,7,9] rfl ?_
        exact w_X12_byChance_186 X p1 hp1 x2 x3 x4 x6 x8 x10 x9 hx2 hx3 hx4 hx6 hx8 hx10 hx9 hK92 (fun x9_ x10_ σ_ hx9_ hx10_ h_ => ih x9_ x10_ σ_ hx9_ hx10_ h_) h
      · have h := iteT h q11
        refine ok_iload 0 (pc := 148) dX12_byChance_148 rfl ?_
        refine ok_if_le (tgt := 186) (pc := 150) dX12_byChance_150 rfl (hw1 _ _) (fun q12 => ?_) (fun q12 => ?_)
        · have h := iteF h q12
          refine ok_sub (L' := [(0, .ref (xad X 122)), (1, vI p1), (2, vI x2), (3, vI x3), (4, vL x4), (6, vL x6), (8, vI x8), (10, vI x10)]) [1,2,3,4,5,6,7,9] rfl ?_
          exact w_X12_byChance_186 X p1 hp1 x2 x3 x4 x6 x8 x10 x9 hx2 hx3 hx4 hx6 hx8 hx10 hx9 hK92 (fun x9_ x10_ σ_ hx9_ hx10_ h_ => ih x9_ x10_ σ_ hx9_ hx10_ h_) h
        · have h := iteT h q12
          refine ok_iload 0 (pc := 153) dX12_byChance_153 rfl ?_
          refine ok_i2l (pc := 155) dX12_byChance_155 (hw1 _ _) ?_
          refine ok_aload_n 1 (pc := 156) dX12_byChance_156 rfl rfl ?_
          refine ok_getR (pc := 157) dX12_byChance_157 fl_X12_90 sh_122 (Nat.le_of_ble_eq_true rfl) rfl rfl ?_
          refine ok_iload 7 (pc := 160) dX12_byChance_160 rfl ?_
          obtain ⟨h13, h⟩ := h
          obtain ⟨h14, h⟩ := h
          refine ok_wf (fun hw15 => ?_)
          refine ok_iald (pc := 162) dX12_byChance_162 sh_148 (Nat.le_of_ble_eq_true rfl) rfl h13 h14 ?_
          refine ok_iload_n 4 (pc := 163) dX12_byChance_163 rfl rfl ?_
          refine ok_isub (pc := 164) dX12_byChance_164 ?_
          obtain ⟨h16, h⟩ := h
          refine ok_i2l (pc := 165) dX12_byChance_165 h16 ?_
          refine ok_aload_n 1 (pc := 166) dX12_byChance_166 rfl rfl ?_
          refine ok_getR (pc := 167) dX12_byChance_167 fl_X12_90 sh_122 (Nat.le_of_ble_eq_true rfl) rfl rfl ?_
          refine ok_iload 7 (pc := 170) dX12_byChance_170 rfl ?_
          refine ok_iald (pc := 172) dX12_byChance_172 sh_148 (Nat.le_of_ble_eq_true rfl) rfl h13 h14 ?_
          refine ok_iload_n 4 (pc := 173) dX12_byChance_173 rfl rfl ?_
          refine ok_iadd (pc := 174) dX12_byChance_174 ?_
          obtain ⟨h17, h⟩ := h
          refine ok_i2l (pc := 175) dX12_byChance_175 h17 ?_
          refine ok_callSi (As := [vL (σ 138 ((4 * x10) + x8).toNat), vL ((σ10 148 x8.toNat) - x3), vL ((σ10 148 x8.toNat) + x3)]) (rest := [vI x9]) (rm := rm_X12_in) (pc := 176) dX12_byChance_176 me_X12_in ml_X12_137 des_X12_in rfl ⟨rfl, rfl, rfl, rfl⟩ rfl rfl (c_X12_in X (σ 138 ((4 * x10) + x8).toNat) ((σ10 148 x8.toNat) - x3) ((σ10 148 x8.toNat) + x3) (l_of_r (hw1 _ _)) (l_of_r h16) (l_of_r h17) h) (fun r19 σ20 h18 h => ?_)
          refine ok_if_eq (tgt := 186) (pc := 179) dX12_byChance_179 rfl h18 (fun q21 => ?_) (fun q21 => ?_)
          · have h := iteT h q21
            refine ok_sub (L' := [(0, .ref (xad X 122)), (1, vI p1), (2, vI x2), (3, vI x3), (4, vL x4), (6, vL x6), (8, vI x8), (10, vI x10)]) [1,2,3,4,5,6,7,9] rfl ?_
            exact w_X12_byChance_186 X p1 hp1 x2 x3 x4 x6 x8 x10 x9 hx2 hx3 hx4 hx6 hx8 hx10 hx9 hK92 (fun x9_ x10_ σ_ hx9_ hx10_ h_ => ih x9_ x10_ σ_ hx9_ hx10_ h_) h
          · have h := iteF h q21
            refine ok_iconst (pc := 182) dX12_byChance_182 ?_
            refine ok_goto (tgt := 187) (pc := 183) dX12_byChance_183 rfl ?_
            refine ok_iadd (pc := 187) dX12_byChance_187 ?_
            refine ok_istore (L' := [(9, vI (x9 + 1)), (11, vI (σ 138 ((4 * x10) + x8).toNat)), (0, .ref (xad X 122)), (1, vI p1), (2, vI x2), (3, vI x3), (4, vL x4), (6, vL x6), (8, vI x8), (10, vI x10)]) (pc := 188) dX12_byChance_188 rfl rfl ?_
            refine ok_iinc (L' := [(10, vI (x10 + 1)), (9, vI (x9 + 1)), (11, vI (σ 138 ((4 * x10) + x8).toNat)), (0, .ref (xad X 122)), (1, vI p1), (2, vI x2), (3, vI x3), (4, vL x4), (6, vL x6), (8, vI x8)]) 9 (pc := 190) dX12_byChance_190 rfl rfl rfl ?_
            refine ok_goto (tgt := 114) (pc := 193) dX12_byChance_193 rfl ?_
            obtain ⟨h22, h⟩ := h
            obtain ⟨h23, h⟩ := h
            refine ok_sub (L' := [(0, .ref (xad X 122)), (1, vI p1), (2, vI x2), (3, vI x3), (4, vL x4), (6, vL x6), (8, vI x8), (9, vI (x9 + 1)), (10, vI (x10 + 1))]) [3,4,5,6,7,8,9,1,0] rfl ?_
            exact ih (x9 + 1) (x10 + 1) σ20 h22 h23 h
set_option maxRecDepth 100000 in
set_option maxHeartbeats 4000000 in
theorem w_X12_byChance_92 (X : XE) (p1 : Int) (hp1 : inR p1) (x2 : Int) (x3 : Int) (hx2 : inR x2) (hx3 : inR x3) {Q : Int → Mem → Prop} : ∀ (n : Nat) (x4 : Int) (x6 : Int) (x8 : Int) (σ : Mem), inL x4 → inL x6 → inR x8 → l_X12_byChance_92 p1 x2 x3 Q n x4 x6 x8 σ → ok X rm_X12_byChance RX12 cX12_byChance 12 (some .long) 2 Q 92 [(0, .ref (xad X 122)), (1, vI p1), (2, vI x2), (3, vI x3), (4, vL x4), (6, vL x6), (8, vI x8)] [] σ := by
  intro n
  induction n with
  | zero => intro x4 x6 x8 σ hx4 hx6 hx8 h; exact False.elim h
  | succ n ih =>
    intro x4 x6 x8 σ hx4 hx6 hx8 h
    refine ok_iload 6 (pc := 92) dX12_byChance_92 rfl ?_
    refine ok_iconst (pc := 94) dX12_byChance_94 ?_
    refine ok_icmp_ge (tgt := 217) (pc := 95) dX12_byChance_95 rfl hx8 (r_lit rfl) (fun q1 => ?_) (fun q1 => ?_)
    · have h := iteF h q1
      refine ok_lload 4 (pc := 217) dX12_byChance_217 rfl ?_
      refine ok_lload 5 (pc := 219) dX12_byChance_219 rfl ?_
      refine ok_iload_n 1 (pc := 221) dX12_byChance_221 rfl rfl ?_
      refine ok_callSl (As := [vL x4, vL x6, vI p1]) (rest := []) (rm := rm_X12_lowest) (pc := 222) dX12_byChance_222 me_X12_lowest ml_X12_286 des_X12_lowest rfl ⟨rfl, rfl, rfl, rfl⟩ rfl rfl (c_X12_lowest X x4 x6 p1 hx4 hx6 hp1 h) (fun r3 σ4 h2 h => ?_)
      exact ok_lret (pc := 225) dX12_byChance_225 rfl rfl h2 h
    · have h := iteT h q1
      refine ok_aload_n 0 (pc := 98) dX12_byChance_98 rfl rfl ?_
      refine ok_getR (pc := 99) dX12_byChance_99 fl_X12_90 sh_122 (Nat.le_of_ble_eq_true rfl) rfl rfl ?_
      refine ok_iload 6 (pc := 102) dX12_byChance_102 rfl ?_
      obtain ⟨h5, h⟩ := h
      obtain ⟨h6, h⟩ := h
      refine ok_wf (fun hw7 => ?_)
      refine ok_iald (pc := 104) dX12_byChance_104 sh_148 (Nat.le_of_ble_eq_true rfl) rfl h5 h6 ?_
      refine ok_if_le (tgt := 211) (pc := 105) dX12_byChance_105 rfl (hw7 _ _) (fun q8 => ?_) (fun q8 => ?_)
      · have h := iteF h q8
        refine ok_iinc (L' := [(8, vI (x8 + 1)), (0, .ref (xad X 122)), (1, vI p1), (2, vI x2), (3, vI x3), (4, vL x4), (6, vL x6)]) 6 (pc := 211) dX12_byChance_211 rfl rfl rfl ?_
        refine ok_goto (tgt := 92) (pc := 214) dX12_byChance_214 rfl ?_
        obtain ⟨h9, h⟩ := h
        refine ok_sub (L' := [(0, .ref (xad X 122)), (1, vI p1), (2, vI x2), (3, vI x3), (4, vL x4), (6, vL x6), (8, vI (x8 + 1))]) [1,2,3,4,5,6,0] rfl ?_
        exact ih x4 x6 (x8 + 1) σ hx4 hx6 h9 h
      · have h := iteT h q8
        refine ok_iconst (pc := 108) dX12_byChance_108 ?_
        refine ok_istore (L' := [(9, vI 0), (0, .ref (xad X 122)), (1, vI p1), (2, vI x2), (3, vI x3), (4, vL x4), (6, vL x6), (8, vI x8)]) (pc := 109) dX12_byChance_109 rfl rfl ?_
        refine ok_iconst (pc := 111) dX12_byChance_111 ?_
        refine ok_istore (L' := [(10, vI 0), (9, vI 0), (0, .ref (xad X 122)), (1, vI p1), (2, vI x2), (3, vI x3), (4, vL x4), (6, vL x6), (8, vI x8)]) (pc := 112) dX12_byChance_112 rfl rfl ?_
        refine ok_sub (L' := [(0, .ref (xad X 122)), (1, vI p1), (2, vI x2), (3, vI x3), (4, vL x4), (6, vL x6), (8, vI x8), (9, vI 0), (10, vI 0)]) [2,3,4,5,6,7,8,1,0] rfl ?_
        obtain ⟨n10, h⟩ := h
        exact w_X12_byChance_114 X p1 hp1 x2 x3 x4 x6 x8 hx2 hx3 hx4 hx6 hx8 (fun x4_ x6_ x8_ σ_ hx4_ hx6_ hx8_ h_ => ih x4_ x6_ x8_ σ_ hx4_ hx6_ hx8_ h_) n10 0 0 σ (r_lit rfl) (r_lit rfl) h
set_option maxRecDepth 100000 in
set_option maxHeartbeats 4000000 in
theorem w_X12_byChance_31 (X : XE) (p1 : Int) (hp1 : inR p1) {Q : Int → Mem → Prop} : ∀ (n : Nat) (x2 : Int) (x3 : Int) (σ : Mem), inR x2 → inR x3 → l_X12_byChance_31 p1 Q n x2 x3 σ → ok X rm_X12_byChance RX12 cX12_byChance 12 (some .long) 2 Q 31 [(0, .ref (xad X 122)), (1, vI p1), (2, vI x2), (3, vI x3)] [] σ := by
  intro n
  induction n with
  | zero => intro x2 x3 σ hx2 hx3 h; exact False.elim h
  | succ n ih =>
    intro x2 x3 σ hx2 hx3 h
    refine ok_iload_n 3 (pc := 31) dX12_byChance_31 rfl rfl ?_
    refine ok_aload_n 0 (pc := 32) dX12_byChance_32 rfl rfl ?_
    refine ok_wf (fun hw1 => ?_)
    refine ok_getI (pc := 33) dX12_byChance_33 fl_X12_232 sh_122 (Nat.le_of_ble_eq_true rfl) rfl rfl ?_
    refine ok_icmp_ge (tgt := 61) (pc := 36) dX12_byChance_36 rfl hx3 (hw1 _ _) (fun q2 => ?_) (fun q2 => ?_)
    · have h := iteF h q2
      refine ok_iload_n 2 (pc := 61) dX12_byChance_61 rfl rfl ?_
      refine ok_if_ne (tgt := 69) (pc := 62) dX12_byChance_62 rfl hx2 (fun q3 => ?_) (fun q3 => ?_)
      · have h := iteF h q3
        refine ok_aload_n 0 (pc := 69) dX12_byChance_69 rfl rfl ?_
        refine ok_aload_n 0 (pc := 70) dX12_byChance_70 rfl rfl ?_
        refine ok_getI (pc := 71) dX12_byChance_71 fl_X12_86 sh_122 (Nat.le_of_ble_eq_true rfl) rfl rfl ?_
        refine ok_aload_n 0 (pc := 74) dX12_byChance_74 rfl rfl ?_
        refine ok_getI (pc := 75) dX12_byChance_75 fl_X12_132 sh_122 (Nat.le_of_ble_eq_true rfl) rfl rfl ?_
        refine ok_callVi (As := [vI (σ 122 39), vI (σ 122 0)]) (rest := []) (rm := rm_X12_spreadOf) (pc := 78) dX12_byChance_78 me_X12_spreadOf ml_X12_226 (ci := 12) rfl sh_122 (Nat.le_of_ble_eq_true rfl) rfl des_X12_spreadOf rfl ⟨rfl, rfl, rfl, rfl⟩ rfl rfl (c_X12_spreadOf X (σ 122 39) (σ 122 0) (hw1 _ _) (hw1 _ _) h) (fun r5 σ6 h4 h => ?_)
        refine ok_istore_n (L' := [(3, vI r5), (0, .ref (xad X 122)), (1, vI p1), (2, vI x2)]) (pc := 81) dX12_byChance_81 rfl rfl rfl ?_
        refine ok_iload_n 3 (pc := 82) dX12_byChance_82 rfl rfl ?_
        refine ok_i2l (pc := 83) dX12_byChance_83 hx2 ?_
        refine ok_lstore (L' := [(4, vL x2), (3, vI r5), (0, .ref (xad X 122)), (1, vI p1), (2, vI x2)]) (pc := 84) dX12_byChance_84 rfl rfl ?_
        refine ok_lconst (v := 1) (pc := 86) dX12_byChance_86 rfl ?_
        refine ok_lstore (L' := [(6, vL 1), (4, vL x2), (3, vI r5), (0, .ref (xad X 122)), (1, vI p1), (2, vI x2)]) (pc := 87) dX12_byChance_87 rfl rfl ?_
        refine ok_iconst (pc := 89) dX12_byChance_89 ?_
        refine ok_istore (L' := [(8, vI 0), (6, vL 1), (4, vL x2), (3, vI r5), (0, .ref (xad X 122)), (1, vI p1), (2, vI x2)]) (pc := 90) dX12_byChance_90 rfl rfl ?_
        refine ok_sub (L' := [(0, .ref (xad X 122)), (1, vI p1), (2, vI x2), (3, vI r5), (4, vL x2), (6, vL 1), (8, vI 0)]) [4,5,6,3,2,1,0] rfl ?_
        obtain ⟨n7, h⟩ := h
        exact w_X12_byChance_92 X p1 hp1 x2 r5 hx2 h4 n7 x2 1 0 σ6 (l_of_r hx2) (l_of_r (r_lit rfl)) (r_lit rfl) h
      · have h := iteT h q3
        refine ok_ldc2 (pc := 65) dX12_byChance_65 cn_X12_333 ?_
        exact ok_lret (pc := 68) dX12_byChance_68 rfl rfl (l_of_r (r_lit rfl)) h
    · have h := iteT h q2
      refine ok_iload_n 2 (pc := 39) dX12_byChance_39 rfl rfl ?_
      refine ok_aload_n 0 (pc := 40) dX12_byChance_40 rfl rfl ?_
      refine ok_iload_n 3 (pc := 41) dX12_byChance_41 rfl rfl ?_
      refine ok_callVi (As := [vI x3]) (rest := [vI x2]) (rm := rm_X12_isOut) (pc := 42) dX12_byChance_42 me_X12_isOut ml_X12_260 (ci := 12) rfl sh_122 (Nat.le_of_ble_eq_true rfl) rfl des_X12_isOut rfl ⟨rfl, rfl, rfl, rfl⟩ rfl rfl (c_X12_isOut X x3 hx3 h) (fun r9 σ10 h8 h => ?_)
      refine ok_if_eq (tgt := 52) (pc := 45) dX12_byChance_45 rfl h8 (fun q11 => ?_) (fun q11 => ?_)
      · have h := iteT h q11
        refine ok_iconst (pc := 52) dX12_byChance_52 ?_
        refine ok_iadd (pc := 53) dX12_byChance_53 ?_
        refine ok_istore_n (L' := [(2, vI (x2 + 1)), (0, .ref (xad X 122)), (1, vI p1), (3, vI x3)]) (pc := 54) dX12_byChance_54 rfl rfl rfl ?_
        refine ok_iinc (L' := [(3, vI (x3 + 1)), (2, vI (x2 + 1)), (0, .ref (xad X 122)), (1, vI p1)]) 3 (pc := 55) dX12_byChance_55 rfl rfl rfl ?_
        refine ok_goto (tgt := 31) (pc := 58) dX12_byChance_58 rfl ?_
        obtain ⟨h12, h⟩ := h
        obtain ⟨h13, h⟩ := h
        refine ok_sub (L' := [(0, .ref (xad X 122)), (1, vI p1), (2, vI (x2 + 1)), (3, vI (x3 + 1))]) [2,3,1,0] rfl ?_
        exact ih (x2 + 1) (x3 + 1) σ10 h12 h13 h
      · have h := iteF h q11
        refine ok_iconst (pc := 48) dX12_byChance_48 ?_
        refine ok_goto (tgt := 53) (pc := 49) dX12_byChance_49 rfl ?_
        refine ok_iadd (pc := 53) dX12_byChance_53 ?_
        refine ok_istore_n (L' := [(2, vI (x2 + 0)), (0, .ref (xad X 122)), (1, vI p1), (3, vI x3)]) (pc := 54) dX12_byChance_54 rfl rfl rfl ?_
        refine ok_iinc (L' := [(3, vI (x3 + 1)), (2, vI (x2 + 0)), (0, .ref (xad X 122)), (1, vI p1)]) 3 (pc := 55) dX12_byChance_55 rfl rfl rfl ?_
        refine ok_goto (tgt := 31) (pc := 58) dX12_byChance_58 rfl ?_
        obtain ⟨h14, h⟩ := h
        obtain ⟨h15, h⟩ := h
        refine ok_sub (L' := [(0, .ref (xad X 122)), (1, vI p1), (2, vI (x2 + 0)), (3, vI (x3 + 1))]) [2,3,1,0] rfl ?_
        exact ih (x2 + 0) (x3 + 1) σ10 h14 h15 h
set_option maxRecDepth 100000 in
set_option maxHeartbeats 4000000 in
theorem c_X12_byChance (X : XE) (p1 : Int) (hp1 : inR p1) {σ : Mem} {Q : Int → Mem → Prop} (h : v_X12_byChance p1 σ Q) : CT X yX12_byChance cX12_byChance 12 (some .long) rm_X12_byChance 2 [.ref (xad X 122), vI p1] σ Q := by
  refine ct_of (own := RX12) (L := [(0, .ref (xad X 122)), (1, vI p1)]) rfl rfl (Nat.le_of_ble_eq_true rfl) rfl ?_
  refine ok_iload_n 1 (pc := 0) dX12_byChance_0 rfl rfl ?_
  refine ok_i2l (pc := 1) dX12_byChance_1 hp1 ?_
  refine ok_lconst (v := 0) (pc := 2) dX12_byChance_2 rfl ?_
  refine ok_lconst (v := 1) (pc := 3) dX12_byChance_3 rfl ?_
  refine ok_callSi (As := [vL p1, vL 0, vL 1]) (rest := []) (rm := rm_X12_in) (pc := 4) dX12_byChance_4 me_X12_in ml_X12_137 des_X12_in rfl ⟨rfl, rfl, rfl, rfl⟩ rfl rfl (c_X12_in X p1 0 1 (l_of_r hp1) (l_of_r (r_lit rfl)) (l_of_r (r_lit rfl)) h) (fun r2 σ3 h1 h => ?_)
  refine ok_if_ne (tgt := 14) (pc := 7) dX12_byChance_7 rfl h1 (fun q4 => ?_) (fun q4 => ?_)
  · have h := iteF h q4
    refine ok_aload_n 0 (pc := 14) dX12_byChance_14 rfl rfl ?_
    refine ok_wf (fun hw5 => ?_)
    refine ok_getI (pc := 15) dX12_byChance_15 fl_X12_86 sh_122 (Nat.le_of_ble_eq_true rfl) rfl rfl ?_
    refine ok_bipush (pc := 18) dX12_byChance_18 rfl ?_
    refine ok_icmp_ne (tgt := 27) (pc := 20) dX12_byChance_20 rfl (hw5 _ _) (r_lit rfl) (fun q6 => ?_) (fun q6 => ?_)
    · have h := iteF h q6
      refine ok_iconst (pc := 27) dX12_byChance_27 ?_
      refine ok_istore_n (L' := [(2, vI 0), (0, .ref (xad X 122)), (1, vI p1)]) (pc := 28) dX12_byChance_28 rfl rfl rfl ?_
      refine ok_iconst (pc := 29) dX12_byChance_29 ?_
      refine ok_istore_n (L' := [(3, vI 0), (2, vI 0), (0, .ref (xad X 122)), (1, vI p1)]) (pc := 30) dX12_byChance_30 rfl rfl rfl ?_
      refine ok_sub (L' := [(0, .ref (xad X 122)), (1, vI p1), (2, vI 0), (3, vI 0)]) [2,3,1,0] rfl ?_
      obtain ⟨n7, h⟩ := h
      exact w_X12_byChance_31 X p1 hp1 n7 0 0 σ3 (r_lit rfl) (r_lit rfl) h
    · have h := iteT h q6
      refine ok_ldc2 (pc := 23) dX12_byChance_23 cn_X12_278 ?_
      exact ok_lret (pc := 26) dX12_byChance_26 rfl rfl (l_of_r (r_lit rfl)) h
  · have h := iteT h q4
    refine ok_ldc2 (pc := 10) dX12_byChance_10 cn_X12_276 ?_
    exact ok_lret (pc := 13) dX12_byChance_13 rfl rfl (l_of_r (r_lit rfl)) h
theorem dX12_onesOf_0 : decode cX12_onesOf 0 = .ok (.iload_n 0, 1) := by decide +kernel
theorem dX12_onesOf_1 : decode cX12_onesOf 1 = .ok (.invokestatic 327, 3) := by decide +kernel
theorem dX12_onesOf_4 : decode cX12_onesOf 4 = .ok (.ireturn, 1) := by decide +kernel
set_option maxRecDepth 100000 in
set_option maxHeartbeats 4000000 in
theorem c_X12_onesOf (X : XE) (p0 : Int) (hp0 : inR p0) {σ : Mem} {Q : Int → Mem → Prop} (h : v_X12_onesOf p0 σ Q) : CT X yX12_onesOf cX12_onesOf 1 (some .int) rm_X12_onesOf 1 [vI p0] σ Q := by
  refine ct_of (own := RX12) (L := [(0, vI p0)]) rfl rfl (Nat.le_of_ble_eq_true rfl) rfl ?_
  refine ok_iload_n 0 (pc := 0) dX12_onesOf_0 rfl rfl ?_
  refine ok_callSi (As := [vI p0]) (rest := []) (rm := rm_X12_sizeOf) (pc := 1) dX12_onesOf_1 me_X12_sizeOf ml_X12_327 des_X12_sizeOf rfl ⟨rfl, rfl, rfl, rfl⟩ rfl rfl (c_X12_sizeOf X p0 hp0 h) (fun r2 σ3 h1 h => ?_)
  exact ok_iret (pc := 4) dX12_onesOf_4 rfl rfl rfl h1 h
theorem dX12_beside_0 : decode cX12_beside 0 = .ok (.iload_n 1, 1) := by decide +kernel
theorem dX12_beside_1 : decode cX12_beside 1 = .ok (.i2l, 1) := by decide +kernel
theorem dX12_beside_2 : decode cX12_beside 2 = .ok (.lconst 0, 1) := by decide +kernel
theorem dX12_beside_3 : decode cX12_beside 3 = .ok (.ldc2_w 298, 3) := by decide +kernel
theorem dX12_beside_6 : decode cX12_beside 6 = .ok (.invokestatic 137, 3) := by decide +kernel
theorem dX12_beside_9 : decode cX12_beside 9 = .ok (.ifCond .eq 27, 3) := by decide +kernel
theorem dX12_beside_12 : decode cX12_beside 12 = .ok (.iload_n 2, 1) := by decide +kernel
theorem dX12_beside_13 : decode cX12_beside 13 = .ok (.i2l, 1) := by decide +kernel
theorem dX12_beside_14 : decode cX12_beside 14 = .ok (.lconst 0, 1) := by decide +kernel
theorem dX12_beside_15 : decode cX12_beside 15 = .ok (.ldc2_w 235, 3) := by decide +kernel
theorem dX12_beside_18 : decode cX12_beside 18 = .ok (.invokestatic 137, 3) := by decide +kernel
theorem dX12_beside_21 : decode cX12_beside 21 = .ok (.ifCond .eq 15, 3) := by decide +kernel
theorem dX12_beside_24 : decode cX12_beside 24 = .ok (.iload_n 3, 1) := by decide +kernel
theorem dX12_beside_25 : decode cX12_beside 25 = .ok (.i2l, 1) := by decide +kernel
theorem dX12_beside_26 : decode cX12_beside 26 = .ok (.lconst 0, 1) := by decide +kernel
theorem dX12_beside_27 : decode cX12_beside 27 = .ok (.ldc2_w 269, 3) := by decide +kernel
theorem dX12_beside_30 : decode cX12_beside 30 = .ok (.invokestatic 137, 3) := by decide +kernel
theorem dX12_beside_33 : decode cX12_beside 33 = .ok (.ifCond .ne 5, 3) := by decide +kernel
theorem dX12_beside_36 : decode cX12_beside 36 = .ok (.iconst (-1), 1) := by decide +kernel
theorem dX12_beside_37 : decode cX12_beside 37 = .ok (.ireturn, 1) := by decide +kernel
theorem dX12_beside_38 : decode cX12_beside 38 = .ok (.aload_n 0, 1) := by decide +kernel
theorem dX12_beside_39 : decode cX12_beside 39 = .ok (.getfield 86, 3) := by decide +kernel
theorem dX12_beside_42 : decode cX12_beside 42 = .ok (.bipush (-4), 2) := by decide +kernel
theorem dX12_beside_44 : decode cX12_beside 44 = .ok (.if_icmp .ne 6, 3) := by decide +kernel
theorem dX12_beside_47 : decode cX12_beside 47 = .ok (.bipush (-2), 2) := by decide +kernel
theorem dX12_beside_49 : decode cX12_beside 49 = .ok (.ireturn, 1) := by decide +kernel
theorem dX12_beside_50 : decode cX12_beside 50 = .ok (.aload_n 0, 1) := by decide +kernel
theorem dX12_beside_51 : decode cX12_beside 51 = .ok (.iload_n 2, 1) := by decide +kernel
theorem dX12_beside_52 : decode cX12_beside 52 = .ok (.invokevirtual 302, 3) := by decide +kernel
theorem dX12_beside_55 : decode cX12_beside 55 = .ok (.aload_n 0, 1) := by decide +kernel
theorem dX12_beside_56 : decode cX12_beside 56 = .ok (.invokevirtual 324, 3) := by decide +kernel
theorem dX12_beside_59 : decode cX12_beside 59 = .ok (.istore 4, 2) := by decide +kernel
theorem dX12_beside_61 : decode cX12_beside 61 = .ok (.iconst 0, 1) := by decide +kernel
theorem dX12_beside_62 : decode cX12_beside 62 = .ok (.istore 5, 2) := by decide +kernel
theorem dX12_beside_64 : decode cX12_beside 64 = .ok (.iconst 0, 1) := by decide +kernel
theorem dX12_beside_65 : decode cX12_beside 65 = .ok (.istore 6, 2) := by decide +kernel
theorem dX12_beside_67 : decode cX12_beside 67 = .ok (.iload 6, 2) := by decide +kernel
theorem dX12_beside_69 : decode cX12_beside 69 = .ok (.aload_n 0, 1) := by decide +kernel
theorem dX12_beside_70 : decode cX12_beside 70 = .ok (.getfield 232, 3) := by decide +kernel
theorem dX12_beside_73 : decode cX12_beside 73 = .ok (.if_icmp .ge 85, 3) := by decide +kernel
theorem dX12_beside_76 : decode cX12_beside 76 = .ok (.iload_n 3, 1) := by decide +kernel
theorem dX12_beside_77 : decode cX12_beside 77 = .ok (.iconst 2, 1) := by decide +kernel
theorem dX12_beside_78 : decode cX12_beside 78 = .ok (.irem, 1) := by decide +kernel
theorem dX12_beside_79 : decode cX12_beside 79 = .ok (.ifCond .ne 12, 3) := by decide +kernel
theorem dX12_beside_82 : decode cX12_beside 82 = .ok (.aload_n 0, 1) := by decide +kernel
theorem dX12_beside_83 : decode cX12_beside 83 = .ok (.iload 6, 2) := by decide +kernel
theorem dX12_beside_85 : decode cX12_beside 85 = .ok (.invokevirtual 305, 3) := by decide +kernel
theorem dX12_beside_88 : decode cX12_beside 88 = .ok (.goto 31, 3) := by decide +kernel
theorem dX12_beside_91 : decode cX12_beside 91 = .ok (.aload_n 0, 1) := by decide +kernel
theorem dX12_beside_92 : decode cX12_beside 92 = .ok (.iload 6, 2) := by decide +kernel
theorem dX12_beside_94 : decode cX12_beside 94 = .ok (.invokevirtual 260, 3) := by decide +kernel
theorem dX12_beside_97 : decode cX12_beside 97 = .ok (.ifCond .ne 21, 3) := by decide +kernel
theorem dX12_beside_100 : decode cX12_beside 100 = .ok (.aload_n 0, 1) := by decide +kernel
theorem dX12_beside_101 : decode cX12_beside 101 = .ok (.getfield 61, 3) := by decide +kernel
theorem dX12_beside_104 : decode cX12_beside 104 = .ok (.iload 6, 2) := by decide +kernel
theorem dX12_beside_106 : decode cX12_beside 106 = .ok (.iaload, 1) := by decide +kernel
theorem dX12_beside_107 : decode cX12_beside 107 = .ok (.invokestatic 335, 3) := by decide +kernel
theorem dX12_beside_110 : decode cX12_beside 110 = .ok (.iload_n 1, 1) := by decide +kernel
theorem dX12_beside_111 : decode cX12_beside 111 = .ok (.if_icmp .ne 7, 3) := by decide +kernel
theorem dX12_beside_114 : decode cX12_beside 114 = .ok (.iconst 1, 1) := by decide +kernel
theorem dX12_beside_115 : decode cX12_beside 115 = .ok (.goto 4, 3) := by decide +kernel
theorem dX12_beside_118 : decode cX12_beside 118 = .ok (.iconst 0, 1) := by decide +kernel
theorem dX12_beside_119 : decode cX12_beside 119 = .ok (.istore 7, 2) := by decide +kernel
theorem dX12_beside_121 : decode cX12_beside 121 = .ok (.iload 5, 2) := by decide +kernel
theorem dX12_beside_123 : decode cX12_beside 123 = .ok (.iload 7, 2) := by decide +kernel
theorem dX12_beside_125 : decode cX12_beside 125 = .ok (.ifCond .eq 23, 3) := by decide +kernel
theorem dX12_beside_128 : decode cX12_beside 128 = .ok (.iload_n 3, 1) := by decide +kernel
theorem dX12_beside_129 : decode cX12_beside 129 = .ok (.iconst 2, 1) := by decide +kernel
theorem dX12_beside_130 : decode cX12_beside 130 = .ok (.if_icmp .lt 14, 3) := by decide +kernel
theorem dX12_beside_133 : decode cX12_beside 133 = .ok (.iload 4, 2) := by decide +kernel
theorem dX12_beside_135 : decode cX12_beside 135 = .ok (.iload 6, 2) := by decide +kernel
theorem dX12_beside_137 : decode cX12_beside 137 = .ok (.ishr, 1) := by decide +kernel
theorem dX12_beside_138 : decode cX12_beside 138 = .ok (.iconst 1, 1) := by decide +kernel
theorem dX12_beside_139 : decode cX12_beside 139 = .ok (.iand, 1) := by decide +kernel
theorem dX12_beside_140 : decode cX12_beside 140 = .ok (.iconst 1, 1) := by decide +kernel
theorem dX12_beside_141 : decode cX12_beside 141 = .ok (.if_icmp .ne 7, 3) := by decide +kernel
theorem dX12_beside_144 : decode cX12_beside 144 = .ok (.iconst 1, 1) := by decide +kernel
theorem dX12_beside_145 : decode cX12_beside 145 = .ok (.goto 4, 3) := by decide +kernel
theorem dX12_beside_148 : decode cX12_beside 148 = .ok (.iconst 0, 1) := by decide +kernel
theorem dX12_beside_149 : decode cX12_beside 149 = .ok (.iadd, 1) := by decide +kernel
theorem dX12_beside_150 : decode cX12_beside 150 = .ok (.istore 5, 2) := by decide +kernel
theorem dX12_beside_152 : decode cX12_beside 152 = .ok (.iinc 6 1, 3) := by decide +kernel
theorem dX12_beside_155 : decode cX12_beside 155 = .ok (.goto (-88), 3) := by decide +kernel
theorem dX12_beside_158 : decode cX12_beside 158 = .ok (.iload 5, 2) := by decide +kernel
theorem dX12_beside_160 : decode cX12_beside 160 = .ok (.ireturn, 1) := by decide +kernel
set_option maxRecDepth 100000 in
set_option maxHeartbeats 4000000 in
theorem w_X12_beside_148 (X : XE) (p1 : Int) (p2 : Int) (p3 : Int) (hp1 : inR p1) (hp2 : inR p2) (hp3 : inR p3) (x4 : Int) (x6 : Int) (s0 : Int) (hx4 : inR x4) (hx6 : inR x6) (hs0 : inR s0) {K67 : Int → Int → Mem → Prop} {Q : Int → Mem → Prop} (hK67 : ∀ (x5 : Int) (x6 : Int) (σ : Mem), inR x5 → inR x6 → K67 x5 x6 σ → ok X rm_X12_beside RX12 cX12_beside 8 (some .int) 1 Q 67 [(0, .ref (xad X 122)), (1, vI p1), (3, vI p3), (4, vI x4), (5, vI x5), (6, vI x6)] [] σ) {σ : Mem} (h : j_X12_beside_148 p1 p2 p3 K67 Q x4 x6 s0 σ) : ok X rm_X12_beside RX12 cX12_beside 8 (some .int) 1 Q 148 [(0, .ref (xad X 122)), (1, vI p1), (3, vI p3), (4, vI x4), (6, vI x6)] [vI s0] σ := by
  refine ok_iconst (pc := 148) dX12_beside_148 ?_
  refine ok_iadd (pc := 149) dX12_beside_149 ?_
  refine ok_istore (L' := [(5, vI (s0 + 0)), (0, .ref (xad X 122)), (1, vI p1), (3, vI p3), (4, vI x4), (6, vI x6)]) (pc := 150) dX12_beside_150 rfl rfl ?_
  refine ok_iinc (L' := [(6, vI (x6 + 1)), (5, vI (s0 + 0)), (0, .ref (xad X 122)), (1, vI p1), (3, vI p3), (4, vI x4)]) 5 (pc := 152) dX12_beside_152 rfl rfl rfl ?_
  refine ok_goto (tgt := 67) (pc := 155) dX12_beside_155 rfl ?_
  obtain ⟨h1, h⟩ := h
  obtain ⟨h2, h⟩ := h
  refine ok_sub (L' := [(0, .ref (xad X 122)), (1, vI p1), (3, vI p3), (4, vI x4), (5, vI (s0 + 0)), (6, vI (x6 + 1))]) [2,3,4,5,1,0] rfl ?_
  exact hK67 (s0 + 0) (x6 + 1) σ h1 h2 h
set_option maxRecDepth 100000 in
set_option maxHeartbeats 4000000 in
theorem w_X12_beside_144 (X : XE) (p1 : Int) (p2 : Int) (p3 : Int) (hp1 : inR p1) (hp2 : inR p2) (hp3 : inR p3) (x4 : Int) (x6 : Int) (s0 : Int) (hx4 : inR x4) (hx6 : inR x6) (hs0 : inR s0) {K67 : Int → Int → Mem → Prop} {Q : Int → Mem → Prop} (hK67 : ∀ (x5 : Int) (x6 : Int) (σ : Mem), inR x5 → inR x6 → K67 x5 x6 σ → ok X rm_X12_beside RX12 cX12_beside 8 (some .int) 1 Q 67 [(0, .ref (xad X 122)), (1, vI p1), (3, vI p3), (4, vI x4), (5, vI x5), (6, vI x6)] [] σ) {σ : Mem} (h : j_X12_beside_144 p1 p2 p3 K67 Q x4 x6 s0 σ) : ok X rm_X12_beside RX12 cX12_beside 8 (some .int) 1 Q 144 [(0, .ref (xad X 122)), (1, vI p1), (3, vI p3), (4, vI x4), (6, vI x6)] [vI s0] σ := by
  refine ok_iconst (pc := 144) dX12_beside_144 ?_
  refine ok_goto (tgt := 149) (pc := 145) dX12_beside_145 rfl ?_
  refine ok_iadd (pc := 149) dX12_beside_149 ?_
  refine ok_istore (L' := [(5, vI (s0 + 1)), (0, .ref (xad X 122)), (1, vI p1), (3, vI p3), (4, vI x4), (6, vI x6)]) (pc := 150) dX12_beside_150 rfl rfl ?_
  refine ok_iinc (L' := [(6, vI (x6 + 1)), (5, vI (s0 + 1)), (0, .ref (xad X 122)), (1, vI p1), (3, vI p3), (4, vI x4)]) 5 (pc := 152) dX12_beside_152 rfl rfl rfl ?_
  refine ok_goto (tgt := 67) (pc := 155) dX12_beside_155 rfl ?_
  obtain ⟨h1, h⟩ := h
  obtain ⟨h2, h⟩ := h
  refine ok_sub (L' := [(0, .ref (xad X 122)), (1, vI p1), (3, vI p3), (4, vI x4), (5, vI (s0 + 1)), (6, vI (x6 + 1))]) [2,3,4,5,1,0] rfl ?_
  exact hK67 (s0 + 1) (x6 + 1) σ h1 h2 h
set_option maxRecDepth 100000 in
set_option maxHeartbeats 4000000 in
theorem w_X12_beside_119 (X : XE) (p1 : Int) (p2 : Int) (p3 : Int) (hp1 : inR p1) (hp2 : inR p2) (hp3 : inR p3) (x4 : Int) (x5 : Int) (x6 : Int) (s0 : Int) (hx4 : inR x4) (hx5 : inR x5) (hx6 : inR x6) (hs0 : inR s0) {K67 : Int → Int → Mem → Prop} {Q : Int → Mem → Prop} (hK67 : ∀ (x5 : Int) (x6 : Int) (σ : Mem), inR x5 → inR x6 → K67 x5 x6 σ → ok X rm_X12_beside RX12 cX12_beside 8 (some .int) 1 Q 67 [(0, .ref (xad X 122)), (1, vI p1), (3, vI p3), (4, vI x4), (5, vI x5), (6, vI x6)] [] σ) {σ : Mem} (h : j_X12_beside_119 p1 p2 p3 K67 Q x4 x5 x6 s0 σ) : ok X rm_X12_beside RX12 cX12_beside 8 (some .int) 1 Q 119 [(0, .ref (xad X 122)), (1, vI p1), (3, vI p3), (4, vI x4), (5, vI x5), (6, vI x6)] [vI s0] σ := by
  refine ok_istore (L' := [(7, vI s0), (0, .ref (xad X 122)), (1, vI p1), (3, vI p3), (4, vI x4), (5, vI x5), (6, vI x6)]) (pc := 119) dX12_beside_119 rfl rfl ?_
  refine ok_iload 5 (pc := 121) dX12_beside_121 rfl ?_
  refine ok_iload 0 (pc := 123) dX12_beside_123 rfl ?_
  refine ok_if_eq (tgt := 148) (pc := 125) dX12_beside_125 rfl hs0 (fun q1 => ?_) (fun q1 => ?_)
  · have h := iteT h q1
    refine ok_sub (L' := [(0, .ref (xad X 122)), (1, vI p1), (3, vI p3), (4, vI x4), (6, vI x6)]) [1,2,3,4,6] rfl ?_
    exact w_X12_beside_148 X p1 p2 p3 hp1 hp2 hp3 x4 x6 x5 hx4 hx6 hx5 hK67 h
  · have h := iteF h q1
    refine ok_iload_n 3 (pc := 128) dX12_beside_128 rfl rfl ?_
    refine ok_iconst (pc := 129) dX12_beside_129 ?_
    refine ok_icmp_lt (tgt := 144) (pc := 130) dX12_beside_130 rfl hp3 (r_lit rfl) (fun q2 => ?_) (fun q2 => ?_)
    · have h := iteT h q2
      refine ok_sub (L' := [(0, .ref (xad X 122)), (1, vI p1), (3, vI p3), (4, vI x4), (6, vI x6)]) [1,2,3,4,6] rfl ?_
      exact w_X12_beside_144 X p1 p2 p3 hp1 hp2 hp3 x4 x6 x5 hx4 hx6 hx5 hK67 h
    · have h := iteF h q2
      refine ok_iload 4 (pc := 133) dX12_beside_133 rfl ?_
      refine ok_iload 6 (pc := 135) dX12_beside_135 rfl ?_
      refine ok_ishr (pc := 137) dX12_beside_137 ?_
      refine ok_iconst (pc := 138) dX12_beside_138 ?_
      refine ok_iand (pc := 139) dX12_beside_139 ?_
      refine ok_iconst (pc := 140) dX12_beside_140 ?_
      refine ok_icmp_ne (tgt := 148) (pc := 141) dX12_beside_141 rfl (q_rng _) (r_lit rfl) (fun q3 => ?_) (fun q3 => ?_)
      · have h := iteF h q3
        refine ok_sub (L' := [(0, .ref (xad X 122)), (1, vI p1), (3, vI p3), (4, vI x4), (6, vI x6)]) [1,2,3,4,6] rfl ?_
        exact w_X12_beside_148 X p1 p2 p3 hp1 hp2 hp3 x4 x6 x5 hx4 hx6 hx5 hK67 h
      · have h := iteT h q3
        refine ok_sub (L' := [(0, .ref (xad X 122)), (1, vI p1), (3, vI p3), (4, vI x4), (6, vI x6)]) [1,2,3,4,6] rfl ?_
        exact w_X12_beside_144 X p1 p2 p3 hp1 hp2 hp3 x4 x6 x5 hx4 hx6 hx5 hK67 h
set_option maxRecDepth 100000 in
set_option maxHeartbeats 4000000 in
theorem w_X12_beside_67 (X : XE) (p1 : Int) (p2 : Int) (p3 : Int) (hp1 : inR p1) (hp2 : inR p2) (hp3 : inR p3) (x4 : Int) (hx4 : inR x4) {Q : Int → Mem → Prop} : ∀ (n : Nat) (x5 : Int) (x6 : Int) (σ : Mem), inR x5 → inR x6 → l_X12_beside_67 p1 p2 p3 x4 Q n x5 x6 σ → ok X rm_X12_beside RX12 cX12_beside 8 (some .int) 1 Q 67 [(0, .ref (xad X 122)), (1, vI p1), (3, vI p3), (4, vI x4), (5, vI x5), (6, vI x6)] [] σ := by
  intro n
  induction n with
  | zero => intro x5 x6 σ hx5 hx6 h; exact False.elim h
  | succ n ih =>
    intro x5 x6 σ hx5 hx6 h
    refine ok_iload 5 (pc := 67) dX12_beside_67 rfl ?_
    refine ok_aload_n 0 (pc := 69) dX12_beside_69 rfl rfl ?_
    refine ok_wf (fun hw1 => ?_)
    refine ok_getI (pc := 70) dX12_beside_70 fl_X12_232 sh_122 (Nat.le_of_ble_eq_true rfl) rfl rfl ?_
    refine ok_icmp_ge (tgt := 158) (pc := 73) dX12_beside_73 rfl hx6 (hw1 _ _) (fun q2 => ?_) (fun q2 => ?_)
    · have h := iteF h q2
      refine ok_iload 4 (pc := 158) dX12_beside_158 rfl ?_
      exact ok_iret (pc := 160) dX12_beside_160 rfl rfl rfl hx5 h
    · have h := iteT h q2
      refine ok_iload_n 2 (pc := 76) dX12_beside_76 rfl rfl ?_
      refine ok_iconst (pc := 77) dX12_beside_77 ?_
      refine ok_irem (pc := 78) dX12_beside_78 hp3 (r_lit rfl) (by decide) ?_
      obtain ⟨h3, h⟩ := h
      refine ok_if_ne (tgt := 91) (pc := 79) dX12_beside_79 rfl h3 (fun q4 => ?_) (fun q4 => ?_)
      · have h := iteF h q4
        refine ok_aload_n 0 (pc := 91) dX12_beside_91 rfl rfl ?_
        refine ok_iload 5 (pc := 92) dX12_beside_92 rfl ?_
        refine ok_callVi (As := [vI x6]) (rest := []) (rm := rm_X12_isOut) (pc := 94) dX12_beside_94 me_X12_isOut ml_X12_260 (ci := 12) rfl sh_122 (Nat.le_of_ble_eq_true rfl) rfl des_X12_isOut rfl ⟨rfl, rfl, rfl, rfl⟩ rfl rfl (c_X12_isOut X x6 hx6 h) (fun r6 σ7 h5 h => ?_)
        refine ok_if_ne (tgt := 118) (pc := 97) dX12_beside_97 rfl h5 (fun q8 => ?_) (fun q8 => ?_)
        · have h := iteF h q8
          refine ok_iconst (pc := 118) dX12_beside_118 ?_
          exact w_X12_beside_119 X p1 p2 p3 hp1 hp2 hp3 x4 x5 x6 0 hx4 hx5 hx6 (r_lit rfl) (fun x5_ x6_ σ_ hx5_ hx6_ h_ => ih x5_ x6_ σ_ hx5_ hx6_ h_) h
        · have h := iteT h q8
          refine ok_aload_n 0 (pc := 100) dX12_beside_100 rfl rfl ?_
          refine ok_getR (pc := 101) dX12_beside_101 fl_X12_61 sh_122 (Nat.le_of_ble_eq_true rfl) rfl rfl ?_
          refine ok_iload 5 (pc := 104) dX12_beside_104 rfl ?_
          obtain ⟨h9, h⟩ := h
          obtain ⟨h10, h⟩ := h
          refine ok_wf (fun hw11 => ?_)
          refine ok_iald (pc := 106) dX12_beside_106 sh_140 (Nat.le_of_ble_eq_true rfl) rfl h9 h10 ?_
          refine ok_callSi (As := [vI (σ7 140 x6.toNat)]) (rest := []) (rm := rm_X12_onesOf) (pc := 107) dX12_beside_107 me_X12_onesOf ml_X12_335 des_X12_onesOf rfl ⟨rfl, rfl, rfl, rfl⟩ rfl rfl (c_X12_onesOf X (σ7 140 x6.toNat) (hw11 _ _) h) (fun r13 σ14 h12 h => ?_)
          refine ok_iload_n 1 (pc := 110) dX12_beside_110 rfl rfl ?_
          refine ok_icmp_ne (tgt := 118) (pc := 111) dX12_beside_111 rfl h12 hp1 (fun q15 => ?_) (fun q15 => ?_)
          · simp only [if_neg q15] at h
            refine ok_iconst (pc := 118) dX12_beside_118 ?_
            exact w_X12_beside_119 X p1 p2 p3 hp1 hp2 hp3 x4 x5 x6 0 hx4 hx5 hx6 (r_lit rfl) (fun x5_ x6_ σ_ hx5_ hx6_ h_ => ih x5_ x6_ σ_ hx5_ hx6_ h_) h
          · simp only [if_pos q15] at h
            refine ok_iconst (pc := 114) dX12_beside_114 ?_
            refine ok_goto (tgt := 119) (pc := 115) dX12_beside_115 rfl ?_
            exact w_X12_beside_119 X p1 p2 p3 hp1 hp2 hp3 x4 x5 x6 1 hx4 hx5 hx6 (r_lit rfl) (fun x5_ x6_ σ_ hx5_ hx6_ h_ => ih x5_ x6_ σ_ hx5_ hx6_ h_) h
      · have h := iteT h q4
        refine ok_aload_n 0 (pc := 82) dX12_beside_82 rfl rfl ?_
        refine ok_iload 5 (pc := 83) dX12_beside_83 rfl ?_
        refine ok_callVi (As := [vI x6]) (rest := []) (rm := rm_X12_isLooked) (pc := 85) dX12_beside_85 me_X12_isLooked ml_X12_305 (ci := 12) rfl sh_122 (Nat.le_of_ble_eq_true rfl) rfl des_X12_isLooked rfl ⟨rfl, rfl, rfl, rfl⟩ rfl rfl (c_X12_isLooked X x6 hx6 h) (fun r17 σ18 h16 h => ?_)
        refine ok_goto (tgt := 119) (pc := 88) dX12_beside_88 rfl ?_
        exact w_X12_beside_119 X p1 p2 p3 hp1 hp2 hp3 x4 x5 x6 r17 hx4 hx5 hx6 h16 (fun x5_ x6_ σ_ hx5_ hx6_ h_ => ih x5_ x6_ σ_ hx5_ hx6_ h_) h
set_option maxRecDepth 100000 in
set_option maxHeartbeats 4000000 in
theorem c_X12_beside (X : XE) (p1 : Int) (p2 : Int) (p3 : Int) (hp1 : inR p1) (hp2 : inR p2) (hp3 : inR p3) {σ : Mem} {Q : Int → Mem → Prop} (h : v_X12_beside p1 p2 p3 σ Q) : CT X yX12_beside cX12_beside 8 (some .int) rm_X12_beside 1 [.ref (xad X 122), vI p1, vI p2, vI p3] σ Q := by
  refine ct_of (own := RX12) (L := [(0, .ref (xad X 122)), (1, vI p1), (2, vI p2), (3, vI p3)]) rfl rfl (Nat.le_of_ble_eq_true rfl) rfl ?_
  refine ok_iload_n 1 (pc := 0) dX12_beside_0 rfl rfl ?_
  refine ok_i2l (pc := 1) dX12_beside_1 hp1 ?_
  refine ok_lconst (v := 0) (pc := 2) dX12_beside_2 rfl ?_
  refine ok_ldc2 (pc := 3) dX12_beside_3 cn_X12_298 ?_
  refine ok_callSi (As := [vL p1, vL 0, vL 10]) (rest := []) (rm := rm_X12_in) (pc := 6) dX12_beside_6 me_X12_in ml_X12_137 des_X12_in rfl ⟨rfl, rfl, rfl, rfl⟩ rfl rfl (c_X12_in X p1 0 10 (l_of_r hp1) (l_of_r (r_lit rfl)) (l_of_r (r_lit rfl)) h) (fun r2 σ3 h1 h => ?_)
  refine ok_if_eq (tgt := 36) (pc := 9) dX12_beside_9 rfl h1 (fun q4 => ?_) (fun q4 => ?_)
  · have h := iteT h q4
    refine ok_iconst (pc := 36) dX12_beside_36 ?_
    exact ok_iret (pc := 37) dX12_beside_37 rfl rfl rfl (r_lit rfl) h
  · have h := iteF h q4
    refine ok_iload_n 2 (pc := 12) dX12_beside_12 rfl rfl ?_
    refine ok_i2l (pc := 13) dX12_beside_13 hp2 ?_
    refine ok_lconst (v := 0) (pc := 14) dX12_beside_14 rfl ?_
    refine ok_ldc2 (pc := 15) dX12_beside_15 cn_X12_235 ?_
    refine ok_callSi (As := [vL p2, vL 0, vL 999]) (rest := []) (rm := rm_X12_in) (pc := 18) dX12_beside_18 me_X12_in ml_X12_137 des_X12_in rfl ⟨rfl, rfl, rfl, rfl⟩ rfl rfl (c_X12_in X p2 0 999 (l_of_r hp2) (l_of_r (r_lit rfl)) (l_of_r (r_lit rfl)) h) (fun r6 σ7 h5 h => ?_)
    refine ok_if_eq (tgt := 36) (pc := 21) dX12_beside_21 rfl h5 (fun q8 => ?_) (fun q8 => ?_)
    · have h := iteT h q8
      refine ok_iconst (pc := 36) dX12_beside_36 ?_
      exact ok_iret (pc := 37) dX12_beside_37 rfl rfl rfl (r_lit rfl) h
    · have h := iteF h q8
      refine ok_iload_n 3 (pc := 24) dX12_beside_24 rfl rfl ?_
      refine ok_i2l (pc := 25) dX12_beside_25 hp3 ?_
      refine ok_lconst (v := 0) (pc := 26) dX12_beside_26 rfl ?_
      refine ok_ldc2 (pc := 27) dX12_beside_27 cn_X12_269 ?_
      refine ok_callSi (As := [vL p3, vL 0, vL 3]) (rest := []) (rm := rm_X12_in) (pc := 30) dX12_beside_30 me_X12_in ml_X12_137 des_X12_in rfl ⟨rfl, rfl, rfl, rfl⟩ rfl rfl (c_X12_in X p3 0 3 (l_of_r hp3) (l_of_r (r_lit rfl)) (l_of_r (r_lit rfl)) h) (fun r10 σ11 h9 h => ?_)
      refine ok_if_ne (tgt := 38) (pc := 33) dX12_beside_33 rfl h9 (fun q12 => ?_) (fun q12 => ?_)
      · have h := iteF h q12
        refine ok_aload_n 0 (pc := 38) dX12_beside_38 rfl rfl ?_
        refine ok_wf (fun hw13 => ?_)
        refine ok_getI (pc := 39) dX12_beside_39 fl_X12_86 sh_122 (Nat.le_of_ble_eq_true rfl) rfl rfl ?_
        refine ok_bipush (pc := 42) dX12_beside_42 rfl ?_
        refine ok_icmp_ne (tgt := 50) (pc := 44) dX12_beside_44 rfl (hw13 _ _) (r_lit rfl) (fun q14 => ?_) (fun q14 => ?_)
        · have h := iteF h q14
          refine ok_aload_n 0 (pc := 50) dX12_beside_50 rfl rfl ?_
          refine ok_iload_n 2 (pc := 51) dX12_beside_51 rfl rfl ?_
          refine ok_callVv (As := [vI p2]) (rest := []) (rm := rm_X12_layLook) (pc := 52) dX12_beside_52 me_X12_layLook ml_X12_302 (ci := 12) rfl sh_122 (Nat.le_of_ble_eq_true rfl) rfl des_X12_layLook rfl ⟨rfl, rfl, rfl, rfl⟩ rfl rfl (c_X12_layLook X p2 hp2 h) (fun σ17 h => ?_)
          refine ok_aload_n 0 (pc := 55) dX12_beside_55 rfl rfl ?_
          refine ok_callVi (As := []) (rest := []) (rm := rm_X12_matches) (pc := 56) dX12_beside_56 me_X12_matches ml_X12_324 (ci := 12) rfl sh_122 (Nat.le_of_ble_eq_true rfl) rfl des_X12_matches rfl ⟨rfl, rfl, rfl, rfl⟩ rfl rfl (c_X12_matches X h) (fun r19 σ20 h18 h => ?_)
          refine ok_istore (L' := [(4, vI r19), (0, .ref (xad X 122)), (1, vI p1), (2, vI p2), (3, vI p3)]) (pc := 59) dX12_beside_59 rfl rfl ?_
          refine ok_iconst (pc := 61) dX12_beside_61 ?_
          refine ok_istore (L' := [(5, vI 0), (4, vI r19), (0, .ref (xad X 122)), (1, vI p1), (2, vI p2), (3, vI p3)]) (pc := 62) dX12_beside_62 rfl rfl ?_
          refine ok_iconst (pc := 64) dX12_beside_64 ?_
          refine ok_istore (L' := [(6, vI 0), (5, vI 0), (4, vI r19), (0, .ref (xad X 122)), (1, vI p1), (2, vI p2), (3, vI p3)]) (pc := 65) dX12_beside_65 rfl rfl ?_
          refine ok_sub (L' := [(0, .ref (xad X 122)), (1, vI p1), (3, vI p3), (4, vI r19), (5, vI 0), (6, vI 0)]) [3,4,6,2,1,0] rfl ?_
          obtain ⟨n21, h⟩ := h
          exact w_X12_beside_67 X p1 p2 p3 hp1 hp2 hp3 r19 h18 n21 0 0 σ20 (r_lit rfl) (r_lit rfl) h
        · have h := iteT h q14
          refine ok_bipush (pc := 47) dX12_beside_47 rfl ?_
          exact ok_iret (pc := 49) dX12_beside_49 rfl rfl rfl (r_lit rfl) h
      · have h := iteT h q12
        refine ok_iconst (pc := 36) dX12_beside_36 ?_
        exact ok_iret (pc := 37) dX12_beside_37 rfl rfl rfl (r_lit rfl) h
theorem dX12_bar_0 : decode cX12_bar 0 = .ok (.aload_n 0, 1) := by decide +kernel
theorem dX12_bar_1 : decode cX12_bar 1 = .ok (.iload_n 1, 1) := by decide +kernel
theorem dX12_bar_2 : decode cX12_bar 2 = .ok (.invokevirtual 257, 3) := by decide +kernel
theorem dX12_bar_5 : decode cX12_bar 5 = .ok (.ifCond .eq 16, 3) := by decide +kernel
theorem dX12_bar_8 : decode cX12_bar 8 = .ok (.aload_n 0, 1) := by decide +kernel
theorem dX12_bar_9 : decode cX12_bar 9 = .ok (.iload_n 2, 1) := by decide +kernel
theorem dX12_bar_10 : decode cX12_bar 10 = .ok (.invokevirtual 257, 3) := by decide +kernel
theorem dX12_bar_13 : decode cX12_bar 13 = .ok (.ifCond .eq 8, 3) := by decide +kernel
theorem dX12_bar_16 : decode cX12_bar 16 = .ok (.iload_n 1, 1) := by decide +kernel
theorem dX12_bar_17 : decode cX12_bar 17 = .ok (.iload_n 2, 1) := by decide +kernel
theorem dX12_bar_18 : decode cX12_bar 18 = .ok (.if_icmp .ne 5, 3) := by decide +kernel
theorem dX12_bar_21 : decode cX12_bar 21 = .ok (.iconst (-1), 1) := by decide +kernel
theorem dX12_bar_22 : decode cX12_bar 22 = .ok (.ireturn, 1) := by decide +kernel
theorem dX12_bar_23 : decode cX12_bar 23 = .ok (.aload_n 0, 1) := by decide +kernel
theorem dX12_bar_24 : decode cX12_bar 24 = .ok (.getfield 82, 3) := by decide +kernel
theorem dX12_bar_27 : decode cX12_bar 27 = .ok (.bipush 24, 2) := by decide +kernel
theorem dX12_bar_29 : decode cX12_bar 29 = .ok (.iload_n 1, 1) := by decide +kernel
theorem dX12_bar_30 : decode cX12_bar 30 = .ok (.imul, 1) := by decide +kernel
theorem dX12_bar_31 : decode cX12_bar 31 = .ok (.iload_n 2, 1) := by decide +kernel
theorem dX12_bar_32 : decode cX12_bar 32 = .ok (.iadd, 1) := by decide +kernel
theorem dX12_bar_33 : decode cX12_bar 33 = .ok (.baload, 1) := by decide +kernel
theorem dX12_bar_34 : decode cX12_bar 34 = .ok (.ifCond .eq 7, 3) := by decide +kernel
theorem dX12_bar_37 : decode cX12_bar 37 = .ok (.iconst 1, 1) := by decide +kernel
theorem dX12_bar_38 : decode cX12_bar 38 = .ok (.goto 4, 3) := by decide +kernel
theorem dX12_bar_41 : decode cX12_bar 41 = .ok (.iconst 0, 1) := by decide +kernel
theorem dX12_bar_42 : decode cX12_bar 42 = .ok (.istore 4, 2) := by decide +kernel
theorem dX12_bar_44 : decode cX12_bar 44 = .ok (.aload_n 0, 1) := by decide +kernel
theorem dX12_bar_45 : decode cX12_bar 45 = .ok (.dup, 1) := by decide +kernel
theorem dX12_bar_46 : decode cX12_bar 46 = .ok (.getfield 338, 3) := by decide +kernel
theorem dX12_bar_49 : decode cX12_bar 49 = .ok (.iload_n 3, 1) := by decide +kernel
theorem dX12_bar_50 : decode cX12_bar 50 = .ok (.ifCond .eq 7, 3) := by decide +kernel
theorem dX12_bar_53 : decode cX12_bar 53 = .ok (.iconst 1, 1) := by decide +kernel
theorem dX12_bar_54 : decode cX12_bar 54 = .ok (.goto 4, 3) := by decide +kernel
theorem dX12_bar_57 : decode cX12_bar 57 = .ok (.iconst 0, 1) := by decide +kernel
theorem dX12_bar_58 : decode cX12_bar 58 = .ok (.iload 4, 2) := by decide +kernel
theorem dX12_bar_60 : decode cX12_bar 60 = .ok (.isub, 1) := by decide +kernel
theorem dX12_bar_61 : decode cX12_bar 61 = .ok (.iadd, 1) := by decide +kernel
theorem dX12_bar_62 : decode cX12_bar 62 = .ok (.putfield 338, 3) := by decide +kernel
theorem dX12_bar_65 : decode cX12_bar 65 = .ok (.aload_n 0, 1) := by decide +kernel
theorem dX12_bar_66 : decode cX12_bar 66 = .ok (.getfield 82, 3) := by decide +kernel
theorem dX12_bar_69 : decode cX12_bar 69 = .ok (.bipush 24, 2) := by decide +kernel
theorem dX12_bar_71 : decode cX12_bar 71 = .ok (.iload_n 1, 1) := by decide +kernel
theorem dX12_bar_72 : decode cX12_bar 72 = .ok (.imul, 1) := by decide +kernel
theorem dX12_bar_73 : decode cX12_bar 73 = .ok (.iload_n 2, 1) := by decide +kernel
theorem dX12_bar_74 : decode cX12_bar 74 = .ok (.iadd, 1) := by decide +kernel
theorem dX12_bar_75 : decode cX12_bar 75 = .ok (.iload_n 3, 1) := by decide +kernel
theorem dX12_bar_76 : decode cX12_bar 76 = .ok (.bastore, 1) := by decide +kernel
theorem dX12_bar_77 : decode cX12_bar 77 = .ok (.aload_n 0, 1) := by decide +kernel
theorem dX12_bar_78 : decode cX12_bar 78 = .ok (.getfield 82, 3) := by decide +kernel
theorem dX12_bar_81 : decode cX12_bar 81 = .ok (.bipush 24, 2) := by decide +kernel
theorem dX12_bar_83 : decode cX12_bar 83 = .ok (.iload_n 2, 1) := by decide +kernel
theorem dX12_bar_84 : decode cX12_bar 84 = .ok (.imul, 1) := by decide +kernel
theorem dX12_bar_85 : decode cX12_bar 85 = .ok (.iload_n 1, 1) := by decide +kernel
theorem dX12_bar_86 : decode cX12_bar 86 = .ok (.iadd, 1) := by decide +kernel
theorem dX12_bar_87 : decode cX12_bar 87 = .ok (.iload_n 3, 1) := by decide +kernel
theorem dX12_bar_88 : decode cX12_bar 88 = .ok (.bastore, 1) := by decide +kernel
theorem dX12_bar_89 : decode cX12_bar 89 = .ok (.iload 4, 2) := by decide +kernel
theorem dX12_bar_91 : decode cX12_bar 91 = .ok (.ireturn, 1) := by decide +kernel
set_option maxRecDepth 100000 in
set_option maxHeartbeats 4000000 in
theorem w_X12_bar_58 (X : XE) (p1 : Int) (p2 : Int) (p3 : Int) (hp1 : inR p1) (hp2 : inR p2) (hp3 : inR p3) (x4 : Int) (s0 : Int) (s1 : Int) (hx4 : inR x4) (hs0 : inR s0) (hs1 : inR s1) {Q : Int → Mem → Prop} {σ : Mem} (h : j_X12_bar_58 p1 p2 p3 Q x4 s0 s1 σ) : ok X rm_X12_bar RX12 cX12_bar 5 (some .int) 1 Q 58 [(0, .ref (xad X 122)), (1, vI p1), (2, vI p2), (3, vI p3), (4, vI x4)] [vI s0, vI s1, .ref (xad X 122)] σ := by
  refine ok_iload 4 (pc := 58) dX12_bar_58 rfl ?_
  refine ok_isub (pc := 60) dX12_bar_60 ?_
  refine ok_iadd (pc := 61) dX12_bar_61 ?_
  refine ok_wr ?_
  refine ok_putI (pc := 62) dX12_bar_62 fl_X12_338 fp_X12_38 sh_122 (Nat.le_of_ble_eq_true rfl) rfl rfl (q_rng _) rfl rfl ?_
  refine ok_aload_n 0 (pc := 65) dX12_bar_65 rfl rfl ?_
  refine ok_getR (pc := 66) dX12_bar_66 fl_X12_82 sh_122 (Nat.le_of_ble_eq_true rfl) rfl rfl ?_
  refine ok_bipush (pc := 69) dX12_bar_69 rfl ?_
  refine ok_iload_n 1 (pc := 71) dX12_bar_71 rfl rfl ?_
  refine ok_imul (pc := 72) dX12_bar_72 ?_
  refine ok_iload_n 2 (pc := 73) dX12_bar_73 rfl rfl ?_
  refine ok_iadd (pc := 74) dX12_bar_74 ?_
  refine ok_iload_n 3 (pc := 75) dX12_bar_75 rfl rfl ?_
  obtain ⟨h1, h⟩ := h
  obtain ⟨h2, h⟩ := h
  obtain ⟨h3, h⟩ := h
  refine ok_zast (pc := 76) dX12_bar_76 sh_147 (Nat.le_of_ble_eq_true rfl) rfl h1 h2 h3 ?_
  refine ok_aload_n 0 (pc := 77) dX12_bar_77 rfl rfl ?_
  refine ok_getR (pc := 78) dX12_bar_78 fl_X12_82 sh_122 (Nat.le_of_ble_eq_true rfl) rfl rfl ?_
  refine ok_bipush (pc := 81) dX12_bar_81 rfl ?_
  refine ok_iload_n 2 (pc := 83) dX12_bar_83 rfl rfl ?_
  refine ok_imul (pc := 84) dX12_bar_84 ?_
  refine ok_iload_n 1 (pc := 85) dX12_bar_85 rfl rfl ?_
  refine ok_iadd (pc := 86) dX12_bar_86 ?_
  refine ok_iload_n 3 (pc := 87) dX12_bar_87 rfl rfl ?_
  obtain ⟨h4, h⟩ := h
  obtain ⟨h5, h⟩ := h
  refine ok_zast (pc := 88) dX12_bar_88 sh_147 (Nat.le_of_ble_eq_true rfl) rfl h4 h5 h3 ?_
  refine ok_iload 4 (pc := 89) dX12_bar_89 rfl ?_
  exact ok_iret (pc := 91) dX12_bar_91 rfl rfl rfl hx4 h
set_option maxRecDepth 100000 in
set_option maxHeartbeats 4000000 in
theorem w_X12_bar_42 (X : XE) (p1 : Int) (p2 : Int) (p3 : Int) (hp1 : inR p1) (hp2 : inR p2) (hp3 : inR p3) (s0 : Int) (hs0 : inR s0) {Q : Int → Mem → Prop} {σ : Mem} (h : j_X12_bar_42 p1 p2 p3 Q s0 σ) : ok X rm_X12_bar RX12 cX12_bar 5 (some .int) 1 Q 42 [(0, .ref (xad X 122)), (1, vI p1), (2, vI p2), (3, vI p3)] [vI s0] σ := by
  unfold j_X12_bar_42 at h
  refine ok_istore (L' := [(4, vI s0), (0, .ref (xad X 122)), (1, vI p1), (2, vI p2), (3, vI p3)]) (pc := 42) dX12_bar_42 rfl rfl ?_
  refine ok_aload_n 1 (pc := 44) dX12_bar_44 rfl rfl ?_
  refine ok_dup (pc := 45) dX12_bar_45 rfl ?_
  refine ok_wf (fun hw1 => ?_)
  refine ok_getI (pc := 46) dX12_bar_46 fl_X12_338 sh_122 (Nat.le_of_ble_eq_true rfl) rfl rfl ?_
  refine ok_iload_n 4 (pc := 49) dX12_bar_49 rfl rfl ?_
  refine ok_if_eq (tgt := 57) (pc := 50) dX12_bar_50 rfl hp3 (fun q2 => ?_) (fun q2 => ?_)
  · simp only [if_pos q2] at h
    refine ok_iconst (pc := 57) dX12_bar_57 ?_
    refine ok_sub (L' := [(0, .ref (xad X 122)), (1, vI p1), (2, vI p2), (3, vI p3), (4, vI s0)]) [1,2,3,4,0] rfl ?_
    exact w_X12_bar_58 X p1 p2 p3 hp1 hp2 hp3 s0 0 (σ 122 38) hs0 (r_lit rfl) (hw1 _ _) h
  · simp only [if_neg q2] at h
    refine ok_iconst (pc := 53) dX12_bar_53 ?_
    refine ok_goto (tgt := 58) (pc := 54) dX12_bar_54 rfl ?_
    refine ok_sub (L' := [(0, .ref (xad X 122)), (1, vI p1), (2, vI p2), (3, vI p3), (4, vI s0)]) [1,2,3,4,0] rfl ?_
    exact w_X12_bar_58 X p1 p2 p3 hp1 hp2 hp3 s0 1 (σ 122 38) hs0 (r_lit rfl) (hw1 _ _) h
set_option maxRecDepth 100000 in
set_option maxHeartbeats 4000000 in
theorem c_X12_bar (X : XE) (p1 : Int) (p2 : Int) (p3 : Int) (hp1 : inR p1) (hp2 : inR p2) (hp3 : inR p3) {σ : Mem} {Q : Int → Mem → Prop} (h : v_X12_bar p1 p2 p3 σ Q) : CT X yX12_bar cX12_bar 5 (some .int) rm_X12_bar 1 [.ref (xad X 122), vI p1, vI p2, vI p3] σ Q := by
  refine ct_of (own := RX12) (L := [(0, .ref (xad X 122)), (1, vI p1), (2, vI p2), (3, vI p3)]) rfl rfl (Nat.le_of_ble_eq_true rfl) rfl ?_
  refine ok_aload_n 0 (pc := 0) dX12_bar_0 rfl rfl ?_
  refine ok_iload_n 1 (pc := 1) dX12_bar_1 rfl rfl ?_
  refine ok_callVi (As := [vI p1]) (rest := []) (rm := rm_X12_isCard) (pc := 2) dX12_bar_2 me_X12_isCard ml_X12_257 (ci := 12) rfl sh_122 (Nat.le_of_ble_eq_true rfl) rfl des_X12_isCard rfl ⟨rfl, rfl, rfl, rfl⟩ rfl rfl (c_X12_isCard X p1 hp1 h) (fun r2 σ3 h1 h => ?_)
  refine ok_if_eq (tgt := 21) (pc := 5) dX12_bar_5 rfl h1 (fun q4 => ?_) (fun q4 => ?_)
  · have h := iteT h q4
    refine ok_iconst (pc := 21) dX12_bar_21 ?_
    exact ok_iret (pc := 22) dX12_bar_22 rfl rfl rfl (r_lit rfl) h
  · have h := iteF h q4
    refine ok_aload_n 0 (pc := 8) dX12_bar_8 rfl rfl ?_
    refine ok_iload_n 2 (pc := 9) dX12_bar_9 rfl rfl ?_
    refine ok_callVi (As := [vI p2]) (rest := []) (rm := rm_X12_isCard) (pc := 10) dX12_bar_10 me_X12_isCard ml_X12_257 (ci := 12) rfl sh_122 (Nat.le_of_ble_eq_true rfl) rfl des_X12_isCard rfl ⟨rfl, rfl, rfl, rfl⟩ rfl rfl (c_X12_isCard X p2 hp2 h) (fun r6 σ7 h5 h => ?_)
    refine ok_if_eq (tgt := 21) (pc := 13) dX12_bar_13 rfl h5 (fun q8 => ?_) (fun q8 => ?_)
    · have h := iteT h q8
      refine ok_iconst (pc := 21) dX12_bar_21 ?_
      exact ok_iret (pc := 22) dX12_bar_22 rfl rfl rfl (r_lit rfl) h
    · have h := iteF h q8
      refine ok_iload_n 1 (pc := 16) dX12_bar_16 rfl rfl ?_
      refine ok_iload_n 2 (pc := 17) dX12_bar_17 rfl rfl ?_
      refine ok_icmp_ne (tgt := 23) (pc := 18) dX12_bar_18 rfl hp1 hp2 (fun q9 => ?_) (fun q9 => ?_)
      · have h := iteF h q9
        refine ok_aload_n 0 (pc := 23) dX12_bar_23 rfl rfl ?_
        refine ok_getR (pc := 24) dX12_bar_24 fl_X12_82 sh_122 (Nat.le_of_ble_eq_true rfl) rfl rfl ?_
        refine ok_bipush (pc := 27) dX12_bar_27 rfl ?_
        refine ok_iload_n 1 (pc := 29) dX12_bar_29 rfl rfl ?_
        refine ok_imul (pc := 30) dX12_bar_30 ?_
        refine ok_iload_n 2 (pc := 31) dX12_bar_31 rfl rfl ?_
        refine ok_iadd (pc := 32) dX12_bar_32 ?_
        obtain ⟨h10, h⟩ := h
        obtain ⟨h11, h⟩ := h
        refine ok_wf (fun hw12 => ?_)
        refine ok_zald (pc := 33) dX12_bar_33 sh_147 (Nat.le_of_ble_eq_true rfl) rfl h10 h11 ?_
        refine ok_if_eq (tgt := 41) (pc := 34) dX12_bar_34 rfl (hw12 _ _) (fun q13 => ?_) (fun q13 => ?_)
        · simp only [if_pos q13] at h
          refine ok_iconst (pc := 41) dX12_bar_41 ?_
          exact w_X12_bar_42 X p1 p2 p3 hp1 hp2 hp3 0 (r_lit rfl) h
        · simp only [if_neg q13] at h
          refine ok_iconst (pc := 37) dX12_bar_37 ?_
          refine ok_goto (tgt := 42) (pc := 38) dX12_bar_38 rfl ?_
          exact w_X12_bar_42 X p1 p2 p3 hp1 hp2 hp3 1 (r_lit rfl) h
      · have h := iteT h q9
        refine ok_iconst (pc := 21) dX12_bar_21 ?_
        exact ok_iret (pc := 22) dX12_bar_22 rfl rfl rfl (r_lit rfl) h
theorem dX12_doJoin_0 : decode cX12_doJoin 0 = .ok (.aload_n 0, 1) := by decide +kernel
theorem dX12_doJoin_1 : decode cX12_doJoin 1 = .ok (.iload_n 1, 1) := by decide +kernel
theorem dX12_doJoin_2 : decode cX12_doJoin 2 = .ok (.invokevirtual 260, 3) := by decide +kernel
theorem dX12_doJoin_5 : decode cX12_doJoin 5 = .ok (.ifCond .ne 25, 3) := by decide +kernel
theorem dX12_doJoin_8 : decode cX12_doJoin 8 = .ok (.aload_n 0, 1) := by decide +kernel
theorem dX12_doJoin_9 : decode cX12_doJoin 9 = .ok (.iload_n 2, 1) := by decide +kernel
theorem dX12_doJoin_10 : decode cX12_doJoin 10 = .ok (.invokevirtual 260, 3) := by decide +kernel
theorem dX12_doJoin_13 : decode cX12_doJoin 13 = .ok (.ifCond .ne 17, 3) := by decide +kernel
theorem dX12_doJoin_16 : decode cX12_doJoin 16 = .ok (.aload_n 0, 1) := by decide +kernel
theorem dX12_doJoin_17 : decode cX12_doJoin 17 = .ok (.getfield 82, 3) := by decide +kernel
theorem dX12_doJoin_20 : decode cX12_doJoin 20 = .ok (.bipush 24, 2) := by decide +kernel
theorem dX12_doJoin_22 : decode cX12_doJoin 22 = .ok (.iload_n 1, 1) := by decide +kernel
theorem dX12_doJoin_23 : decode cX12_doJoin 23 = .ok (.imul, 1) := by decide +kernel
theorem dX12_doJoin_24 : decode cX12_doJoin 24 = .ok (.iload_n 2, 1) := by decide +kernel
theorem dX12_doJoin_25 : decode cX12_doJoin 25 = .ok (.iadd, 1) := by decide +kernel
theorem dX12_doJoin_26 : decode cX12_doJoin 26 = .ok (.baload, 1) := by decide +kernel
theorem dX12_doJoin_27 : decode cX12_doJoin 27 = .ok (.ifCond .eq 5, 3) := by decide +kernel
theorem dX12_doJoin_30 : decode cX12_doJoin 30 = .ok (.iconst 0, 1) := by decide +kernel
theorem dX12_doJoin_31 : decode cX12_doJoin 31 = .ok (.ireturn, 1) := by decide +kernel
theorem dX12_doJoin_32 : decode cX12_doJoin 32 = .ok (.aload_n 0, 1) := by decide +kernel
theorem dX12_doJoin_33 : decode cX12_doJoin 33 = .ok (.iload_n 1, 1) := by decide +kernel
theorem dX12_doJoin_34 : decode cX12_doJoin 34 = .ok (.invokevirtual 341, 3) := by decide +kernel
theorem dX12_doJoin_37 : decode cX12_doJoin 37 = .ok (.aload_n 0, 1) := by decide +kernel
theorem dX12_doJoin_38 : decode cX12_doJoin 38 = .ok (.iload_n 2, 1) := by decide +kernel
theorem dX12_doJoin_39 : decode cX12_doJoin 39 = .ok (.invokevirtual 317, 3) := by decide +kernel
theorem dX12_doJoin_42 : decode cX12_doJoin 42 = .ok (.bipush (-4), 2) := by decide +kernel
theorem dX12_doJoin_44 : decode cX12_doJoin 44 = .ok (.if_icmp .eq 7, 3) := by decide +kernel
theorem dX12_doJoin_47 : decode cX12_doJoin 47 = .ok (.iconst 1, 1) := by decide +kernel
theorem dX12_doJoin_48 : decode cX12_doJoin 48 = .ok (.goto 4, 3) := by decide +kernel
theorem dX12_doJoin_51 : decode cX12_doJoin 51 = .ok (.iconst 0, 1) := by decide +kernel
theorem dX12_doJoin_52 : decode cX12_doJoin 52 = .ok (.istore_n 3, 1) := by decide +kernel
theorem dX12_doJoin_53 : decode cX12_doJoin 53 = .ok (.aload_n 0, 1) := by decide +kernel
theorem dX12_doJoin_54 : decode cX12_doJoin 54 = .ok (.iload_n 2, 1) := by decide +kernel
theorem dX12_doJoin_55 : decode cX12_doJoin 55 = .ok (.invokevirtual 341, 3) := by decide +kernel
theorem dX12_doJoin_58 : decode cX12_doJoin 58 = .ok (.iload_n 3, 1) := by decide +kernel
theorem dX12_doJoin_59 : decode cX12_doJoin 59 = .ok (.ifCond .eq 17, 3) := by decide +kernel
theorem dX12_doJoin_62 : decode cX12_doJoin 62 = .ok (.aload_n 0, 1) := by decide +kernel
theorem dX12_doJoin_63 : decode cX12_doJoin 63 = .ok (.iload_n 1, 1) := by decide +kernel
theorem dX12_doJoin_64 : decode cX12_doJoin 64 = .ok (.invokevirtual 317, 3) := by decide +kernel
theorem dX12_doJoin_67 : decode cX12_doJoin 67 = .ok (.bipush (-4), 2) := by decide +kernel
theorem dX12_doJoin_69 : decode cX12_doJoin 69 = .ok (.if_icmp .eq 7, 3) := by decide +kernel
theorem dX12_doJoin_72 : decode cX12_doJoin 72 = .ok (.iconst 1, 1) := by decide +kernel
theorem dX12_doJoin_73 : decode cX12_doJoin 73 = .ok (.goto 4, 3) := by decide +kernel
theorem dX12_doJoin_76 : decode cX12_doJoin 76 = .ok (.iconst 0, 1) := by decide +kernel
theorem dX12_doJoin_77 : decode cX12_doJoin 77 = .ok (.ireturn, 1) := by decide +kernel
set_option maxRecDepth 100000 in
set_option maxHeartbeats 4000000 in
theorem w_X12_doJoin_52 (X : XE) (p1 : Int) (p2 : Int) (hp1 : inR p1) (hp2 : inR p2) (s0 : Int) (hs0 : inR s0) {Q : Int → Mem → Prop} {σ : Mem} (h : j_X12_doJoin_52 p1 p2 Q s0 σ) : ok X rm_X12_doJoin RX12 cX12_doJoin 4 (some .boolean) 1 Q 52 [(0, .ref (xad X 122)), (1, vI p1), (2, vI p2)] [vI s0] σ := by
  refine ok_istore_n (L' := [(3, vI s0), (0, .ref (xad X 122)), (1, vI p1), (2, vI p2)]) (pc := 52) dX12_doJoin_52 rfl rfl rfl ?_
  refine ok_aload_n 1 (pc := 53) dX12_doJoin_53 rfl rfl ?_
  refine ok_iload_n 3 (pc := 54) dX12_doJoin_54 rfl rfl ?_
  refine ok_callVv (As := [vI p2]) (rest := []) (rm := rm_X12_tryCard) (pc := 55) dX12_doJoin_55 me_X12_tryCard ml_X12_341 (ci := 12) rfl sh_122 (Nat.le_of_ble_eq_true rfl) rfl des_X12_tryCard rfl ⟨rfl, rfl, rfl, rfl⟩ rfl rfl (c_X12_tryCard X p2 hp2 h) (fun σ3 h => ?_)
  refine ok_iload_n 0 (pc := 58) dX12_doJoin_58 rfl rfl ?_
  refine ok_if_eq (tgt := 76) (pc := 59) dX12_doJoin_59 rfl hs0 (fun q4 => ?_) (fun q4 => ?_)
  · have h := iteT h q4
    refine ok_iconst (pc := 76) dX12_doJoin_76 ?_
    exact ok_iret (pc := 77) dX12_doJoin_77 rfl rfl (nr_z (Or.inl rfl)) (r_lit rfl) h
  · have h := iteF h q4
    refine ok_aload_n 1 (pc := 62) dX12_doJoin_62 rfl rfl ?_
    refine ok_iload_n 2 (pc := 63) dX12_doJoin_63 rfl rfl ?_
    refine ok_callVi (As := [vI p1]) (rest := []) (rm := rm_X12_missOf) (pc := 64) dX12_doJoin_64 me_X12_missOf ml_X12_317 (ci := 12) rfl sh_122 (Nat.le_of_ble_eq_true rfl) rfl des_X12_missOf rfl ⟨rfl, rfl, rfl, rfl⟩ rfl rfl (c_X12_missOf X p1 hp1 h) (fun r6 σ7 h5 h => ?_)
    refine ok_bipush (pc := 67) dX12_doJoin_67 rfl ?_
    refine ok_icmp_eq (tgt := 76) (pc := 69) dX12_doJoin_69 rfl h5 (r_lit rfl) (fun q8 => ?_) (fun q8 => ?_)
    · have h := iteT h q8
      refine ok_iconst (pc := 76) dX12_doJoin_76 ?_
      exact ok_iret (pc := 77) dX12_doJoin_77 rfl rfl (nr_z (Or.inl rfl)) (r_lit rfl) h
    · have h := iteF h q8
      refine ok_iconst (pc := 72) dX12_doJoin_72 ?_
      refine ok_goto (tgt := 77) (pc := 73) dX12_doJoin_73 rfl ?_
      exact ok_iret (pc := 77) dX12_doJoin_77 rfl rfl (nr_z (Or.inr rfl)) (r_lit rfl) h
set_option maxRecDepth 100000 in
set_option maxHeartbeats 4000000 in
theorem c_X12_doJoin (X : XE) (p1 : Int) (p2 : Int) (hp1 : inR p1) (hp2 : inR p2) {σ : Mem} {Q : Int → Mem → Prop} (h : v_X12_doJoin p1 p2 σ Q) : CT X yX12_doJoin cX12_doJoin 4 (some .boolean) rm_X12_doJoin 1 [.ref (xad X 122), vI p1, vI p2] σ Q := by
  refine ct_of (own := RX12) (L := [(0, .ref (xad X 122)), (1, vI p1), (2, vI p2)]) rfl rfl (Nat.le_of_ble_eq_true rfl) rfl ?_
  refine ok_aload_n 0 (pc := 0) dX12_doJoin_0 rfl rfl ?_
  refine ok_iload_n 1 (pc := 1) dX12_doJoin_1 rfl rfl ?_
  refine ok_callVi (As := [vI p1]) (rest := []) (rm := rm_X12_isOut) (pc := 2) dX12_doJoin_2 me_X12_isOut ml_X12_260 (ci := 12) rfl sh_122 (Nat.le_of_ble_eq_true rfl) rfl des_X12_isOut rfl ⟨rfl, rfl, rfl, rfl⟩ rfl rfl (c_X12_isOut X p1 hp1 h) (fun r2 σ3 h1 h => ?_)
  refine ok_if_ne (tgt := 30) (pc := 5) dX12_doJoin_5 rfl h1 (fun q4 => ?_) (fun q4 => ?_)
  · have h := iteF h q4
    refine ok_iconst (pc := 30) dX12_doJoin_30 ?_
    exact ok_iret (pc := 31) dX12_doJoin_31 rfl rfl (nr_z (Or.inl rfl)) (r_lit rfl) h
  · have h := iteT h q4
    refine ok_aload_n 0 (pc := 8) dX12_doJoin_8 rfl rfl ?_
    refine ok_iload_n 2 (pc := 9) dX12_doJoin_9 rfl rfl ?_
    refine ok_callVi (As := [vI p2]) (rest := []) (rm := rm_X12_isOut) (pc := 10) dX12_doJoin_10 me_X12_isOut ml_X12_260 (ci := 12) rfl sh_122 (Nat.le_of_ble_eq_true rfl) rfl des_X12_isOut rfl ⟨rfl, rfl, rfl, rfl⟩ rfl rfl (c_X12_isOut X p2 hp2 h) (fun r6 σ7 h5 h => ?_)
    refine ok_if_ne (tgt := 30) (pc := 13) dX12_doJoin_13 rfl h5 (fun q8 => ?_) (fun q8 => ?_)
    · have h := iteF h q8
      refine ok_iconst (pc := 30) dX12_doJoin_30 ?_
      exact ok_iret (pc := 31) dX12_doJoin_31 rfl rfl (nr_z (Or.inl rfl)) (r_lit rfl) h
    · have h := iteT h q8
      refine ok_aload_n 0 (pc := 16) dX12_doJoin_16 rfl rfl ?_
      refine ok_getR (pc := 17) dX12_doJoin_17 fl_X12_82 sh_122 (Nat.le_of_ble_eq_true rfl) rfl rfl ?_
      refine ok_bipush (pc := 20) dX12_doJoin_20 rfl ?_
      refine ok_iload_n 1 (pc := 22) dX12_doJoin_22 rfl rfl ?_
      refine ok_imul (pc := 23) dX12_doJoin_23 ?_
      refine ok_iload_n 2 (pc := 24) dX12_doJoin_24 rfl rfl ?_
      refine ok_iadd (pc := 25) dX12_doJoin_25 ?_
      obtain ⟨h9, h⟩ := h
      obtain ⟨h10, h⟩ := h
      refine ok_wf (fun hw11 => ?_)
      refine ok_zald (pc := 26) dX12_doJoin_26 sh_147 (Nat.le_of_ble_eq_true rfl) rfl h9 h10 ?_
      refine ok_if_eq (tgt := 32) (pc := 27) dX12_doJoin_27 rfl (hw11 _ _) (fun q12 => ?_) (fun q12 => ?_)
      · have h := iteT h q12
        refine ok_aload_n 0 (pc := 32) dX12_doJoin_32 rfl rfl ?_
        refine ok_iload_n 1 (pc := 33) dX12_doJoin_33 rfl rfl ?_
        refine ok_callVv (As := [vI p1]) (rest := []) (rm := rm_X12_tryCard) (pc := 34) dX12_doJoin_34 me_X12_tryCard ml_X12_341 (ci := 12) rfl sh_122 (Nat.le_of_ble_eq_true rfl) rfl des_X12_tryCard rfl ⟨rfl, rfl, rfl, rfl⟩ rfl rfl (c_X12_tryCard X p1 hp1 h) (fun σ15 h => ?_)
        refine ok_aload_n 0 (pc := 37) dX12_doJoin_37 rfl rfl ?_
        refine ok_iload_n 2 (pc := 38) dX12_doJoin_38 rfl rfl ?_
        refine ok_callVi (As := [vI p2]) (rest := []) (rm := rm_X12_missOf) (pc := 39) dX12_doJoin_39 me_X12_missOf ml_X12_317 (ci := 12) rfl sh_122 (Nat.le_of_ble_eq_true rfl) rfl des_X12_missOf rfl ⟨rfl, rfl, rfl, rfl⟩ rfl rfl (c_X12_missOf X p2 hp2 h) (fun r17 σ18 h16 h => ?_)
        refine ok_bipush (pc := 42) dX12_doJoin_42 rfl ?_
        refine ok_icmp_eq (tgt := 51) (pc := 44) dX12_doJoin_44 rfl h16 (r_lit rfl) (fun q19 => ?_) (fun q19 => ?_)
        · simp only [if_pos q19] at h
          refine ok_iconst (pc := 51) dX12_doJoin_51 ?_
          exact w_X12_doJoin_52 X p1 p2 hp1 hp2 0 (r_lit rfl) h
        · simp only [if_neg q19] at h
          refine ok_iconst (pc := 47) dX12_doJoin_47 ?_
          refine ok_goto (tgt := 52) (pc := 48) dX12_doJoin_48 rfl ?_
          exact w_X12_doJoin_52 X p1 p2 hp1 hp2 1 (r_lit rfl) h
      · have h := iteF h q12
        refine ok_iconst (pc := 30) dX12_doJoin_30 ?_
        exact ok_iret (pc := 31) dX12_doJoin_31 rfl rfl (nr_z (Or.inl rfl)) (r_lit rfl) h
theorem dX12_join_0 : decode cX12_join 0 = .ok (.aload_n 0, 1) := by decide +kernel
theorem dX12_join_1 : decode cX12_join 1 = .ok (.iload_n 1, 1) := by decide +kernel
theorem dX12_join_2 : decode cX12_join 2 = .ok (.invokevirtual 257, 3) := by decide +kernel
theorem dX12_join_5 : decode cX12_join 5 = .ok (.ifCond .eq 16, 3) := by decide +kernel
theorem dX12_join_8 : decode cX12_join 8 = .ok (.aload_n 0, 1) := by decide +kernel
theorem dX12_join_9 : decode cX12_join 9 = .ok (.iload_n 2, 1) := by decide +kernel
theorem dX12_join_10 : decode cX12_join 10 = .ok (.invokevirtual 257, 3) := by decide +kernel
theorem dX12_join_13 : decode cX12_join 13 = .ok (.ifCond .eq 8, 3) := by decide +kernel
theorem dX12_join_16 : decode cX12_join 16 = .ok (.iload_n 1, 1) := by decide +kernel
theorem dX12_join_17 : decode cX12_join 17 = .ok (.iload_n 2, 1) := by decide +kernel
theorem dX12_join_18 : decode cX12_join 18 = .ok (.if_icmp .ne 5, 3) := by decide +kernel
theorem dX12_join_21 : decode cX12_join 21 = .ok (.iconst (-1), 1) := by decide +kernel
theorem dX12_join_22 : decode cX12_join 22 = .ok (.ireturn, 1) := by decide +kernel
theorem dX12_join_23 : decode cX12_join 23 = .ok (.aload_n 0, 1) := by decide +kernel
theorem dX12_join_24 : decode cX12_join 24 = .ok (.iload_n 1, 1) := by decide +kernel
theorem dX12_join_25 : decode cX12_join 25 = .ok (.iload_n 2, 1) := by decide +kernel
theorem dX12_join_26 : decode cX12_join 26 = .ok (.invokevirtual 344, 3) := by decide +kernel
theorem dX12_join_29 : decode cX12_join 29 = .ok (.ifCond .eq 7, 3) := by decide +kernel
theorem dX12_join_32 : decode cX12_join 32 = .ok (.iconst 1, 1) := by decide +kernel
theorem dX12_join_33 : decode cX12_join 33 = .ok (.goto 4, 3) := by decide +kernel
theorem dX12_join_36 : decode cX12_join 36 = .ok (.iconst 0, 1) := by decide +kernel
theorem dX12_join_37 : decode cX12_join 37 = .ok (.ireturn, 1) := by decide +kernel
set_option maxRecDepth 100000 in
set_option maxHeartbeats 4000000 in
theorem c_X12_join (X : XE) (p1 : Int) (p2 : Int) (hp1 : inR p1) (hp2 : inR p2) {σ : Mem} {Q : Int → Mem → Prop} (h : v_X12_join p1 p2 σ Q) : CT X yX12_join cX12_join 3 (some .int) rm_X12_join 1 [.ref (xad X 122), vI p1, vI p2] σ Q := by
  refine ct_of (own := RX12) (L := [(0, .ref (xad X 122)), (1, vI p1), (2, vI p2)]) rfl rfl (Nat.le_of_ble_eq_true rfl) rfl ?_
  refine ok_aload_n 0 (pc := 0) dX12_join_0 rfl rfl ?_
  refine ok_iload_n 1 (pc := 1) dX12_join_1 rfl rfl ?_
  refine ok_callVi (As := [vI p1]) (rest := []) (rm := rm_X12_isCard) (pc := 2) dX12_join_2 me_X12_isCard ml_X12_257 (ci := 12) rfl sh_122 (Nat.le_of_ble_eq_true rfl) rfl des_X12_isCard rfl ⟨rfl, rfl, rfl, rfl⟩ rfl rfl (c_X12_isCard X p1 hp1 h) (fun r2 σ3 h1 h => ?_)
  refine ok_if_eq (tgt := 21) (pc := 5) dX12_join_5 rfl h1 (fun q4 => ?_) (fun q4 => ?_)
  · have h := iteT h q4
    refine ok_iconst (pc := 21) dX12_join_21 ?_
    exact ok_iret (pc := 22) dX12_join_22 rfl rfl rfl (r_lit rfl) h
  · have h := iteF h q4
    refine ok_aload_n 0 (pc := 8) dX12_join_8 rfl rfl ?_
    refine ok_iload_n 2 (pc := 9) dX12_join_9 rfl rfl ?_
    refine ok_callVi (As := [vI p2]) (rest := []) (rm := rm_X12_isCard) (pc := 10) dX12_join_10 me_X12_isCard ml_X12_257 (ci := 12) rfl sh_122 (Nat.le_of_ble_eq_true rfl) rfl des_X12_isCard rfl ⟨rfl, rfl, rfl, rfl⟩ rfl rfl (c_X12_isCard X p2 hp2 h) (fun r6 σ7 h5 h => ?_)
    refine ok_if_eq (tgt := 21) (pc := 13) dX12_join_13 rfl h5 (fun q8 => ?_) (fun q8 => ?_)
    · have h := iteT h q8
      refine ok_iconst (pc := 21) dX12_join_21 ?_
      exact ok_iret (pc := 22) dX12_join_22 rfl rfl rfl (r_lit rfl) h
    · have h := iteF h q8
      refine ok_iload_n 1 (pc := 16) dX12_join_16 rfl rfl ?_
      refine ok_iload_n 2 (pc := 17) dX12_join_17 rfl rfl ?_
      refine ok_icmp_ne (tgt := 23) (pc := 18) dX12_join_18 rfl hp1 hp2 (fun q9 => ?_) (fun q9 => ?_)
      · have h := iteF h q9
        refine ok_aload_n 0 (pc := 23) dX12_join_23 rfl rfl ?_
        refine ok_iload_n 1 (pc := 24) dX12_join_24 rfl rfl ?_
        refine ok_iload_n 2 (pc := 25) dX12_join_25 rfl rfl ?_
        refine ok_callVi (As := [vI p1, vI p2]) (rest := []) (rm := rm_X12_doJoin) (pc := 26) dX12_join_26 me_X12_doJoin ml_X12_344 (ci := 12) rfl sh_122 (Nat.le_of_ble_eq_true rfl) rfl des_X12_doJoin rfl ⟨rfl, rfl, rfl, rfl⟩ rfl rfl (c_X12_doJoin X p1 p2 hp1 hp2 h) (fun r11 σ12 h10 h => ?_)
        refine ok_if_eq (tgt := 36) (pc := 29) dX12_join_29 rfl h10 (fun q13 => ?_) (fun q13 => ?_)
        · have h := iteT h q13
          refine ok_iconst (pc := 36) dX12_join_36 ?_
          exact ok_iret (pc := 37) dX12_join_37 rfl rfl rfl (r_lit rfl) h
        · have h := iteF h q13
          refine ok_iconst (pc := 32) dX12_join_32 ?_
          refine ok_goto (tgt := 37) (pc := 33) dX12_join_33 rfl ?_
          exact ok_iret (pc := 37) dX12_join_37 rfl rfl rfl (r_lit rfl) h
      · have h := iteT h q9
        refine ok_iconst (pc := 21) dX12_join_21 ?_
        exact ok_iret (pc := 22) dX12_join_22 rfl rfl rfl (r_lit rfl) h
theorem dX12_layMen_0 : decode cX12_layMen 0 = .ok (.iconst 0, 1) := by decide +kernel
theorem dX12_layMen_1 : decode cX12_layMen 1 = .ok (.istore_n 1, 1) := by decide +kernel
theorem dX12_layMen_2 : decode cX12_layMen 2 = .ok (.iload_n 1, 1) := by decide +kernel
theorem dX12_layMen_3 : decode cX12_layMen 3 = .ok (.aload_n 0, 1) := by decide +kernel
theorem dX12_layMen_4 : decode cX12_layMen 4 = .ok (.getfield 232, 3) := by decide +kernel
theorem dX12_layMen_7 : decode cX12_layMen 7 = .ok (.if_icmp .ge 29, 3) := by decide +kernel
theorem dX12_layMen_10 : decode cX12_layMen 10 = .ok (.aload_n 0, 1) := by decide +kernel
theorem dX12_layMen_11 : decode cX12_layMen 11 = .ok (.getfield 105, 3) := by decide +kernel
theorem dX12_layMen_14 : decode cX12_layMen 14 = .ok (.iload_n 1, 1) := by decide +kernel
theorem dX12_layMen_15 : decode cX12_layMen 15 = .ok (.aload_n 0, 1) := by decide +kernel
theorem dX12_layMen_16 : decode cX12_layMen 16 = .ok (.iload_n 1, 1) := by decide +kernel
theorem dX12_layMen_17 : decode cX12_layMen 17 = .ok (.invokevirtual 260, 3) := by decide +kernel
theorem dX12_layMen_20 : decode cX12_layMen 20 = .ok (.ifCond .eq 8, 3) := by decide +kernel
theorem dX12_layMen_23 : decode cX12_layMen 23 = .ok (.bipush (-4), 2) := by decide +kernel
theorem dX12_layMen_25 : decode cX12_layMen 25 = .ok (.goto 4, 3) := by decide +kernel
theorem dX12_layMen_28 : decode cX12_layMen 28 = .ok (.iload_n 1, 1) := by decide +kernel
theorem dX12_layMen_29 : decode cX12_layMen 29 = .ok (.iastore, 1) := by decide +kernel
theorem dX12_layMen_30 : decode cX12_layMen 30 = .ok (.iinc 1 1, 3) := by decide +kernel
theorem dX12_layMen_33 : decode cX12_layMen 33 = .ok (.goto (-31), 3) := by decide +kernel
theorem dX12_layMen_36 : decode cX12_layMen 36 = .ok (.iconst 1, 1) := by decide +kernel
theorem dX12_layMen_37 : decode cX12_layMen 37 = .ok (.istore_n 1, 1) := by decide +kernel
theorem dX12_layMen_38 : decode cX12_layMen 38 = .ok (.iload_n 1, 1) := by decide +kernel
theorem dX12_layMen_39 : decode cX12_layMen 39 = .ok (.ifCond .eq 105, 3) := by decide +kernel
theorem dX12_layMen_42 : decode cX12_layMen 42 = .ok (.iconst 0, 1) := by decide +kernel
theorem dX12_layMen_43 : decode cX12_layMen 43 = .ok (.istore_n 1, 1) := by decide +kernel
theorem dX12_layMen_44 : decode cX12_layMen 44 = .ok (.iconst 0, 1) := by decide +kernel
theorem dX12_layMen_45 : decode cX12_layMen 45 = .ok (.istore_n 2, 1) := by decide +kernel
theorem dX12_layMen_46 : decode cX12_layMen 46 = .ok (.iload_n 2, 1) := by decide +kernel
theorem dX12_layMen_47 : decode cX12_layMen 47 = .ok (.aload_n 0, 1) := by decide +kernel
theorem dX12_layMen_48 : decode cX12_layMen 48 = .ok (.getfield 232, 3) := by decide +kernel
theorem dX12_layMen_51 : decode cX12_layMen 51 = .ok (.if_icmp .ge 90, 3) := by decide +kernel
theorem dX12_layMen_54 : decode cX12_layMen 54 = .ok (.iconst 0, 1) := by decide +kernel
theorem dX12_layMen_55 : decode cX12_layMen 55 = .ok (.istore_n 3, 1) := by decide +kernel
theorem dX12_layMen_56 : decode cX12_layMen 56 = .ok (.iload_n 3, 1) := by decide +kernel
theorem dX12_layMen_57 : decode cX12_layMen 57 = .ok (.aload_n 0, 1) := by decide +kernel
theorem dX12_layMen_58 : decode cX12_layMen 58 = .ok (.getfield 232, 3) := by decide +kernel
theorem dX12_layMen_61 : decode cX12_layMen 61 = .ok (.if_icmp .ge 74, 3) := by decide +kernel
theorem dX12_layMen_64 : decode cX12_layMen 64 = .ok (.iload_n 2, 1) := by decide +kernel
theorem dX12_layMen_65 : decode cX12_layMen 65 = .ok (.iload_n 3, 1) := by decide +kernel
theorem dX12_layMen_66 : decode cX12_layMen 66 = .ok (.if_icmp .eq 63, 3) := by decide +kernel
theorem dX12_layMen_69 : decode cX12_layMen 69 = .ok (.aload_n 0, 1) := by decide +kernel
theorem dX12_layMen_70 : decode cX12_layMen 70 = .ok (.getfield 105, 3) := by decide +kernel
theorem dX12_layMen_73 : decode cX12_layMen 73 = .ok (.iload_n 2, 1) := by decide +kernel
theorem dX12_layMen_74 : decode cX12_layMen 74 = .ok (.iaload, 1) := by decide +kernel
theorem dX12_layMen_75 : decode cX12_layMen 75 = .ok (.bipush (-4), 2) := by decide +kernel
theorem dX12_layMen_77 : decode cX12_layMen 77 = .ok (.if_icmp .eq 52, 3) := by decide +kernel
theorem dX12_layMen_80 : decode cX12_layMen 80 = .ok (.aload_n 0, 1) := by decide +kernel
theorem dX12_layMen_81 : decode cX12_layMen 81 = .ok (.getfield 105, 3) := by decide +kernel
theorem dX12_layMen_84 : decode cX12_layMen 84 = .ok (.iload_n 3, 1) := by decide +kernel
theorem dX12_layMen_85 : decode cX12_layMen 85 = .ok (.iaload, 1) := by decide +kernel
theorem dX12_layMen_86 : decode cX12_layMen 86 = .ok (.bipush (-4), 2) := by decide +kernel
theorem dX12_layMen_88 : decode cX12_layMen 88 = .ok (.if_icmp .eq 41, 3) := by decide +kernel
theorem dX12_layMen_91 : decode cX12_layMen 91 = .ok (.aload_n 0, 1) := by decide +kernel
theorem dX12_layMen_92 : decode cX12_layMen 92 = .ok (.getfield 105, 3) := by decide +kernel
theorem dX12_layMen_95 : decode cX12_layMen 95 = .ok (.iload_n 3, 1) := by decide +kernel
theorem dX12_layMen_96 : decode cX12_layMen 96 = .ok (.iaload, 1) := by decide +kernel
theorem dX12_layMen_97 : decode cX12_layMen 97 = .ok (.aload_n 0, 1) := by decide +kernel
theorem dX12_layMen_98 : decode cX12_layMen 98 = .ok (.getfield 105, 3) := by decide +kernel
theorem dX12_layMen_101 : decode cX12_layMen 101 = .ok (.iload_n 2, 1) := by decide +kernel
theorem dX12_layMen_102 : decode cX12_layMen 102 = .ok (.iaload, 1) := by decide +kernel
theorem dX12_layMen_103 : decode cX12_layMen 103 = .ok (.if_icmp .ge 26, 3) := by decide +kernel
theorem dX12_layMen_106 : decode cX12_layMen 106 = .ok (.aload_n 0, 1) := by decide +kernel
theorem dX12_layMen_107 : decode cX12_layMen 107 = .ok (.iload_n 2, 1) := by decide +kernel
theorem dX12_layMen_108 : decode cX12_layMen 108 = .ok (.iload_n 3, 1) := by decide +kernel
theorem dX12_layMen_109 : decode cX12_layMen 109 = .ok (.invokevirtual 344, 3) := by decide +kernel
theorem dX12_layMen_112 : decode cX12_layMen 112 = .ok (.ifCond .eq 17, 3) := by decide +kernel
theorem dX12_layMen_115 : decode cX12_layMen 115 = .ok (.aload_n 0, 1) := by decide +kernel
theorem dX12_layMen_116 : decode cX12_layMen 116 = .ok (.getfield 105, 3) := by decide +kernel
theorem dX12_layMen_119 : decode cX12_layMen 119 = .ok (.iload_n 2, 1) := by decide +kernel
theorem dX12_layMen_120 : decode cX12_layMen 120 = .ok (.aload_n 0, 1) := by decide +kernel
theorem dX12_layMen_121 : decode cX12_layMen 121 = .ok (.getfield 105, 3) := by decide +kernel
theorem dX12_layMen_124 : decode cX12_layMen 124 = .ok (.iload_n 3, 1) := by decide +kernel
theorem dX12_layMen_125 : decode cX12_layMen 125 = .ok (.iaload, 1) := by decide +kernel
theorem dX12_layMen_126 : decode cX12_layMen 126 = .ok (.iastore, 1) := by decide +kernel
theorem dX12_layMen_127 : decode cX12_layMen 127 = .ok (.iconst 1, 1) := by decide +kernel
theorem dX12_layMen_128 : decode cX12_layMen 128 = .ok (.istore_n 1, 1) := by decide +kernel
theorem dX12_layMen_129 : decode cX12_layMen 129 = .ok (.iinc 3 1, 3) := by decide +kernel
theorem dX12_layMen_132 : decode cX12_layMen 132 = .ok (.goto (-76), 3) := by decide +kernel
theorem dX12_layMen_135 : decode cX12_layMen 135 = .ok (.iinc 2 1, 3) := by decide +kernel
theorem dX12_layMen_138 : decode cX12_layMen 138 = .ok (.goto (-92), 3) := by decide +kernel
theorem dX12_layMen_141 : decode cX12_layMen 141 = .ok (.goto (-103), 3) := by decide +kernel
theorem dX12_layMen_144 : decode cX12_layMen 144 = .ok (.return_, 1) := by decide +kernel
set_option maxRecDepth 100000 in
set_option maxHeartbeats 4000000 in
theorem w_X12_layMen_56 (X : XE) (x2 : Int) (hx2 : inR x2) {K38 : Int → Mem → Prop} {K46 : Int → Int → Mem → Prop} {Q : Int → Mem → Prop} (hK38 : ∀ (x1 : Int) (σ : Mem), inR x1 → K38 x1 σ → ok X rm_X12_layMen RX12 cX12_layMen 4 none 0 Q 38 [(0, .ref (xad X 122)), (1, vI x1)] [] σ) (hK46 : ∀ (x1 : Int) (x2 : Int) (σ : Mem), inR x1 → inR x2 → K46 x1 x2 σ → ok X rm_X12_layMen RX12 cX12_layMen 4 none 0 Q 46 [(0, .ref (xad X 122)), (1, vI x1), (2, vI x2)] [] σ) : ∀ (n : Nat) (x1 : Int) (x3 : Int) (σ : Mem), inR x1 → inR x3 → l_X12_layMen_56 x2 K38 K46 Q n x1 x3 σ → ok X rm_X12_layMen RX12 cX12_layMen 4 none 0 Q 56 [(0, .ref (xad X 122)), (1, vI x1), (2, vI x2), (3, vI x3)] [] σ := by
  intro n
  induction n with
  | zero => intro x1 x3 σ hx1 hx3 h; exact False.elim h
  | succ n ih =>
    intro x1 x3 σ hx1 hx3 h
    refine ok_iload_n 3 (pc := 56) dX12_layMen_56 rfl rfl ?_
    refine ok_aload_n 0 (pc := 57) dX12_layMen_57 rfl rfl ?_
    refine ok_wf (fun hw1 => ?_)
    refine ok_getI (pc := 58) dX12_layMen_58 fl_X12_232 sh_122 (Nat.le_of_ble_eq_true rfl) rfl rfl ?_
    refine ok_icmp_ge (tgt := 135) (pc := 61) dX12_layMen_61 rfl hx3 (hw1 _ _) (fun q2 => ?_) (fun q2 => ?_)
    · have h := iteF h q2
      refine ok_iinc (L' := [(2, vI (x2 + 1)), (0, .ref (xad X 122)), (1, vI x1), (3, vI x3)]) 2 (pc := 135) dX12_layMen_135 rfl rfl rfl ?_
      refine ok_goto (tgt := 46) (pc := 138) dX12_layMen_138 rfl ?_
      obtain ⟨h3, h⟩ := h
      refine ok_sub (L' := [(0, .ref (xad X 122)), (1, vI x1), (2, vI (x2 + 1))]) [1,2,0] rfl ?_
      exact hK46 x1 (x2 + 1) σ hx1 h3 h
    · have h := iteT h q2
      refine ok_iload_n 2 (pc := 64) dX12_layMen_64 rfl rfl ?_
      refine ok_iload_n 3 (pc := 65) dX12_layMen_65 rfl rfl ?_
      refine ok_icmp_eq (tgt := 129) (pc := 66) dX12_layMen_66 rfl hx2 hx3 (fun q4 => ?_) (fun q4 => ?_)
      · have h := iteT h q4
        refine ok_iinc (L' := [(3, vI (x3 + 1)), (0, .ref (xad X 122)), (1, vI x1), (2, vI x2)]) 3 (pc := 129) dX12_layMen_129 rfl rfl rfl ?_
        refine ok_goto (tgt := 56) (pc := 132) dX12_layMen_132 rfl ?_
        obtain ⟨h5, h⟩ := h
        refine ok_sub (L' := [(0, .ref (xad X 122)), (1, vI x1), (2, vI x2), (3, vI (x3 + 1))]) [1,2,3,0] rfl ?_
        exact ih x1 (x3 + 1) σ hx1 h5 h
      · have h := iteF h q4
        refine ok_aload_n 0 (pc := 69) dX12_layMen_69 rfl rfl ?_
        refine ok_getR (pc := 70) dX12_layMen_70 fl_X12_105 sh_122 (Nat.le_of_ble_eq_true rfl) rfl rfl ?_
        refine ok_iload_n 2 (pc := 73) dX12_layMen_73 rfl rfl ?_
        obtain ⟨h6, h⟩ := h
        obtain ⟨h7, h⟩ := h
        refine ok_iald (pc := 74) dX12_layMen_74 sh_153 (Nat.le_of_ble_eq_true rfl) rfl h6 h7 ?_
        refine ok_bipush (pc := 75) dX12_layMen_75 rfl ?_
        refine ok_icmp_eq (tgt := 129) (pc := 77) dX12_layMen_77 rfl (hw1 _ _) (r_lit rfl) (fun q8 => ?_) (fun q8 => ?_)
        · have h := iteT h q8
          refine ok_iinc (L' := [(3, vI (x3 + 1)), (0, .ref (xad X 122)), (1, vI x1), (2, vI x2)]) 3 (pc := 129) dX12_layMen_129 rfl rfl rfl ?_
          refine ok_goto (tgt := 56) (pc := 132) dX12_layMen_132 rfl ?_
          obtain ⟨h9, h⟩ := h
          refine ok_sub (L' := [(0, .ref (xad X 122)), (1, vI x1), (2, vI x2), (3, vI (x3 + 1))]) [1,2,3,0] rfl ?_
          exact ih x1 (x3 + 1) σ hx1 h9 h
        · have h := iteF h q8
          refine ok_aload_n 0 (pc := 80) dX12_layMen_80 rfl rfl ?_
          refine ok_getR (pc := 81) dX12_layMen_81 fl_X12_105 sh_122 (Nat.le_of_ble_eq_true rfl) rfl rfl ?_
          refine ok_iload_n 3 (pc := 84) dX12_layMen_84 rfl rfl ?_
          obtain ⟨h10, h⟩ := h
          obtain ⟨h11, h⟩ := h
          refine ok_iald (pc := 85) dX12_layMen_85 sh_153 (Nat.le_of_ble_eq_true rfl) rfl h10 h11 ?_
          refine ok_bipush (pc := 86) dX12_layMen_86 rfl ?_
          refine ok_icmp_eq (tgt := 129) (pc := 88) dX12_layMen_88 rfl (hw1 _ _) (r_lit rfl) (fun q12 => ?_) (fun q12 => ?_)
          · have h := iteT h q12
            refine ok_iinc (L' := [(3, vI (x3 + 1)), (0, .ref (xad X 122)), (1, vI x1), (2, vI x2)]) 3 (pc := 129) dX12_layMen_129 rfl rfl rfl ?_
            refine ok_goto (tgt := 56) (pc := 132) dX12_layMen_132 rfl ?_
            obtain ⟨h13, h⟩ := h
            refine ok_sub (L' := [(0, .ref (xad X 122)), (1, vI x1), (2, vI x2), (3, vI (x3 + 1))]) [1,2,3,0] rfl ?_
            exact ih x1 (x3 + 1) σ hx1 h13 h
          · have h := iteF h q12
            refine ok_aload_n 0 (pc := 91) dX12_layMen_91 rfl rfl ?_
            refine ok_getR (pc := 92) dX12_layMen_92 fl_X12_105 sh_122 (Nat.le_of_ble_eq_true rfl) rfl rfl ?_
            refine ok_iload_n 3 (pc := 95) dX12_layMen_95 rfl rfl ?_
            refine ok_iald (pc := 96) dX12_layMen_96 sh_153 (Nat.le_of_ble_eq_true rfl) rfl h10 h11 ?_
            refine ok_aload_n 0 (pc := 97) dX12_layMen_97 rfl rfl ?_
            refine ok_getR (pc := 98) dX12_layMen_98 fl_X12_105 sh_122 (Nat.le_of_ble_eq_true rfl) rfl rfl ?_
            refine ok_iload_n 2 (pc := 101) dX12_layMen_101 rfl rfl ?_
            refine ok_iald (pc := 102) dX12_layMen_102 sh_153 (Nat.le_of_ble_eq_true rfl) rfl h6 h7 ?_
            refine ok_icmp_ge (tgt := 129) (pc := 103) dX12_layMen_103 rfl (hw1 _ _) (hw1 _ _) (fun q14 => ?_) (fun q14 => ?_)
            · have h := iteF h q14
              refine ok_iinc (L' := [(3, vI (x3 + 1)), (0, .ref (xad X 122)), (1, vI x1), (2, vI x2)]) 3 (pc := 129) dX12_layMen_129 rfl rfl rfl ?_
              refine ok_goto (tgt := 56) (pc := 132) dX12_layMen_132 rfl ?_
              obtain ⟨h15, h⟩ := h
              refine ok_sub (L' := [(0, .ref (xad X 122)), (1, vI x1), (2, vI x2), (3, vI (x3 + 1))]) [1,2,3,0] rfl ?_
              exact ih x1 (x3 + 1) σ hx1 h15 h
            · have h := iteT h q14
              refine ok_aload_n 0 (pc := 106) dX12_layMen_106 rfl rfl ?_
              refine ok_iload_n 2 (pc := 107) dX12_layMen_107 rfl rfl ?_
              refine ok_iload_n 3 (pc := 108) dX12_layMen_108 rfl rfl ?_
              refine ok_callVi (As := [vI x2, vI x3]) (rest := []) (rm := rm_X12_doJoin) (pc := 109) dX12_layMen_109 me_X12_doJoin ml_X12_344 (ci := 12) rfl sh_122 (Nat.le_of_ble_eq_true rfl) rfl des_X12_doJoin rfl ⟨rfl, rfl, rfl, rfl⟩ rfl rfl (c_X12_doJoin X x2 x3 hx2 hx3 h) (fun r17 σ18 h16 h => ?_)
              refine ok_if_eq (tgt := 129) (pc := 112) dX12_layMen_112 rfl h16 (fun q19 => ?_) (fun q19 => ?_)
              · have h := iteT h q19
                refine ok_iinc (L' := [(3, vI (x3 + 1)), (0, .ref (xad X 122)), (1, vI x1), (2, vI x2)]) 3 (pc := 129) dX12_layMen_129 rfl rfl rfl ?_
                refine ok_goto (tgt := 56) (pc := 132) dX12_layMen_132 rfl ?_
                obtain ⟨h20, h⟩ := h
                refine ok_sub (L' := [(0, .ref (xad X 122)), (1, vI x1), (2, vI x2), (3, vI (x3 + 1))]) [1,2,3,0] rfl ?_
                exact ih x1 (x3 + 1) σ18 hx1 h20 h
              · have h := iteF h q19
                refine ok_aload_n 0 (pc := 115) dX12_layMen_115 rfl rfl ?_
                refine ok_getR (pc := 116) dX12_layMen_116 fl_X12_105 sh_122 (Nat.le_of_ble_eq_true rfl) rfl rfl ?_
                refine ok_iload_n 2 (pc := 119) dX12_layMen_119 rfl rfl ?_
                refine ok_aload_n 0 (pc := 120) dX12_layMen_120 rfl rfl ?_
                refine ok_getR (pc := 121) dX12_layMen_121 fl_X12_105 sh_122 (Nat.le_of_ble_eq_true rfl) rfl rfl ?_
                refine ok_iload_n 3 (pc := 124) dX12_layMen_124 rfl rfl ?_
                refine ok_wf (fun hw21 => ?_)
                refine ok_iald (pc := 125) dX12_layMen_125 sh_153 (Nat.le_of_ble_eq_true rfl) rfl h10 h11 ?_
                refine ok_iast (pc := 126) dX12_layMen_126 sh_153 (Nat.le_of_ble_eq_true rfl) rfl h6 h7 (hw21 _ _) ?_
                refine ok_iconst (pc := 127) dX12_layMen_127 ?_
                refine ok_istore_n (L' := [(1, vI 1), (0, .ref (xad X 122)), (2, vI x2), (3, vI x3)]) (pc := 128) dX12_layMen_128 rfl rfl rfl ?_
                refine ok_iinc (L' := [(3, vI (x3 + 1)), (1, vI 1), (0, .ref (xad X 122)), (2, vI x2)]) 3 (pc := 129) dX12_layMen_129 rfl rfl rfl ?_
                refine ok_goto (tgt := 56) (pc := 132) dX12_layMen_132 rfl ?_
                obtain ⟨h22, h⟩ := h
                refine ok_sub (L' := [(0, .ref (xad X 122)), (1, vI 1), (2, vI x2), (3, vI (x3 + 1))]) [2,1,3,0] rfl ?_
                exact ih 1 (x3 + 1) (mset σ18 153 (x2.toNat) (σ18 153 x3.toNat)) (r_lit rfl) h22 h
set_option maxRecDepth 100000 in
set_option maxHeartbeats 4000000 in
theorem w_X12_layMen_46 (X : XE) {K38 : Int → Mem → Prop} {Q : Int → Mem → Prop} (hK38 : ∀ (x1 : Int) (σ : Mem), inR x1 → K38 x1 σ → ok X rm_X12_layMen RX12 cX12_layMen 4 none 0 Q 38 [(0, .ref (xad X 122)), (1, vI x1)] [] σ) : ∀ (n : Nat) (x1 : Int) (x2 : Int) (σ : Mem), inR x1 → inR x2 → l_X12_layMen_46 K38 Q n x1 x2 σ → ok X rm_X12_layMen RX12 cX12_layMen 4 none 0 Q 46 [(0, .ref (xad X 122)), (1, vI x1), (2, vI x2)] [] σ := by
  intro n
  induction n with
  | zero => intro x1 x2 σ hx1 hx2 h; exact False.elim h
  | succ n ih =>
    intro x1 x2 σ hx1 hx2 h
    refine ok_iload_n 2 (pc := 46) dX12_layMen_46 rfl rfl ?_
    refine ok_aload_n 0 (pc := 47) dX12_layMen_47 rfl rfl ?_
    refine ok_wf (fun hw1 => ?_)
    refine ok_getI (pc := 48) dX12_layMen_48 fl_X12_232 sh_122 (Nat.le_of_ble_eq_true rfl) rfl rfl ?_
    refine ok_icmp_ge (tgt := 141) (pc := 51) dX12_layMen_51 rfl hx2 (hw1 _ _) (fun q2 => ?_) (fun q2 => ?_)
    · have h := iteF h q2
      refine ok_goto (tgt := 38) (pc := 141) dX12_layMen_141 rfl ?_
      refine ok_sub (L' := [(0, .ref (xad X 122)), (1, vI x1)]) [0,1] rfl ?_
      exact hK38 x1 σ hx1 h
    · have h := iteT h q2
      refine ok_iconst (pc := 54) dX12_layMen_54 ?_
      refine ok_istore_n (L' := [(3, vI 0), (0, .ref (xad X 122)), (1, vI x1), (2, vI x2)]) (pc := 55) dX12_layMen_55 rfl rfl rfl ?_
      refine ok_sub (L' := [(0, .ref (xad X 122)), (1, vI x1), (2, vI x2), (3, vI 0)]) [1,2,3,0] rfl ?_
      obtain ⟨n3, h⟩ := h
      exact w_X12_layMen_56 X x2 hx2 hK38 (fun x1_ x2_ σ_ hx1_ hx2_ h_ => ih x1_ x2_ σ_ hx1_ hx2_ h_) n3 x1 0 σ hx1 (r_lit rfl) h
set_option maxRecDepth 100000 in
set_option maxHeartbeats 4000000 in
theorem w_X12_layMen_38 (X : XE) {Q : Int → Mem → Prop} : ∀ (n : Nat) (x1 : Int) (σ : Mem), inR x1 → l_X12_layMen_38 Q n x1 σ → ok X rm_X12_layMen RX12 cX12_layMen 4 none 0 Q 38 [(0, .ref (xad X 122)), (1, vI x1)] [] σ := by
  intro n
  induction n with
  | zero => intro x1 σ hx1 h; exact False.elim h
  | succ n ih =>
    intro x1 σ hx1 h
    refine ok_iload_n 1 (pc := 38) dX12_layMen_38 rfl rfl ?_
    refine ok_if_eq (tgt := 144) (pc := 39) dX12_layMen_39 rfl hx1 (fun q1 => ?_) (fun q1 => ?_)
    · have h := iteT h q1
      exact ok_vret (pc := 144) dX12_layMen_144 rfl rfl h
    · have h := iteF h q1
      refine ok_iconst (pc := 42) dX12_layMen_42 ?_
      refine ok_istore_n (L' := [(1, vI 0), (0, .ref (xad X 122))]) (pc := 43) dX12_layMen_43 rfl rfl rfl ?_
      refine ok_iconst (pc := 44) dX12_layMen_44 ?_
      refine ok_istore_n (L' := [(2, vI 0), (1, vI 0), (0, .ref (xad X 122))]) (pc := 45) dX12_layMen_45 rfl rfl rfl ?_
      refine ok_sub (L' := [(0, .ref (xad X 122)), (1, vI 0), (2, vI 0)]) [2,1,0] rfl ?_
      obtain ⟨n2, h⟩ := h
      exact w_X12_layMen_46 X (fun x1_ σ_ hx1_ h_ => ih x1_ σ_ hx1_ h_) n2 0 0 σ (r_lit rfl) (r_lit rfl) h
set_option maxRecDepth 100000 in
set_option maxHeartbeats 4000000 in
theorem w_X12_layMen_2 (X : XE) {Q : Int → Mem → Prop} : ∀ (n : Nat) (x1 : Int) (σ : Mem), inR x1 → l_X12_layMen_2 Q n x1 σ → ok X rm_X12_layMen RX12 cX12_layMen 4 none 0 Q 2 [(0, .ref (xad X 122)), (1, vI x1)] [] σ := by
  intro n
  induction n with
  | zero => intro x1 σ hx1 h; exact False.elim h
  | succ n ih =>
    intro x1 σ hx1 h
    refine ok_iload_n 1 (pc := 2) dX12_layMen_2 rfl rfl ?_
    refine ok_aload_n 0 (pc := 3) dX12_layMen_3 rfl rfl ?_
    refine ok_wf (fun hw1 => ?_)
    refine ok_getI (pc := 4) dX12_layMen_4 fl_X12_232 sh_122 (Nat.le_of_ble_eq_true rfl) rfl rfl ?_
    refine ok_icmp_ge (tgt := 36) (pc := 7) dX12_layMen_7 rfl hx1 (hw1 _ _) (fun q2 => ?_) (fun q2 => ?_)
    · have h := iteF h q2
      refine ok_iconst (pc := 36) dX12_layMen_36 ?_
      refine ok_istore_n (L' := [(1, vI 1), (0, .ref (xad X 122))]) (pc := 37) dX12_layMen_37 rfl rfl rfl ?_
      refine ok_sub (L' := [(0, .ref (xad X 122)), (1, vI 1)]) [1,0] rfl ?_
      obtain ⟨n3, h⟩ := h
      exact w_X12_layMen_38 X n3 1 σ (r_lit rfl) h
    · have h := iteT h q2
      refine ok_aload_n 0 (pc := 10) dX12_layMen_10 rfl rfl ?_
      refine ok_getR (pc := 11) dX12_layMen_11 fl_X12_105 sh_122 (Nat.le_of_ble_eq_true rfl) rfl rfl ?_
      refine ok_iload_n 1 (pc := 14) dX12_layMen_14 rfl rfl ?_
      refine ok_aload_n 0 (pc := 15) dX12_layMen_15 rfl rfl ?_
      refine ok_iload_n 1 (pc := 16) dX12_layMen_16 rfl rfl ?_
      refine ok_callVi (As := [vI x1]) (rest := [vI x1, .ref (xad X 153)]) (rm := rm_X12_isOut) (pc := 17) dX12_layMen_17 me_X12_isOut ml_X12_260 (ci := 12) rfl sh_122 (Nat.le_of_ble_eq_true rfl) rfl des_X12_isOut rfl ⟨rfl, rfl, rfl, rfl⟩ rfl rfl (c_X12_isOut X x1 hx1 h) (fun r5 σ6 h4 h => ?_)
      refine ok_if_eq (tgt := 28) (pc := 20) dX12_layMen_20 rfl h4 (fun q7 => ?_) (fun q7 => ?_)
      · have h := iteT h q7
        refine ok_iload_n 1 (pc := 28) dX12_layMen_28 rfl rfl ?_
        obtain ⟨h8, h⟩ := h
        obtain ⟨h9, h⟩ := h
        refine ok_iast (pc := 29) dX12_layMen_29 sh_153 (Nat.le_of_ble_eq_true rfl) rfl h8 h9 hx1 ?_
        refine ok_iinc (L' := [(1, vI (x1 + 1)), (0, .ref (xad X 122))]) 1 (pc := 30) dX12_layMen_30 rfl rfl rfl ?_
        refine ok_goto (tgt := 2) (pc := 33) dX12_layMen_33 rfl ?_
        obtain ⟨h10, h⟩ := h
        refine ok_sub (L' := [(0, .ref (xad X 122)), (1, vI (x1 + 1))]) [1,0] rfl ?_
        exact ih (x1 + 1) (mset σ6 153 (x1.toNat) x1) h10 h
      · have h := iteF h q7
        refine ok_bipush (pc := 23) dX12_layMen_23 rfl ?_
        refine ok_goto (tgt := 29) (pc := 25) dX12_layMen_25 rfl ?_
        obtain ⟨h11, h⟩ := h
        obtain ⟨h12, h⟩ := h
        refine ok_iast (pc := 29) dX12_layMen_29 sh_153 (Nat.le_of_ble_eq_true rfl) rfl h11 h12 (r_lit rfl) ?_
        refine ok_iinc (L' := [(1, vI (x1 + 1)), (0, .ref (xad X 122))]) 1 (pc := 30) dX12_layMen_30 rfl rfl rfl ?_
        refine ok_goto (tgt := 2) (pc := 33) dX12_layMen_33 rfl ?_
        obtain ⟨h13, h⟩ := h
        refine ok_sub (L' := [(0, .ref (xad X 122)), (1, vI (x1 + 1))]) [1,0] rfl ?_
        exact ih (x1 + 1) (mset σ6 153 (x1.toNat) (-4)) h13 h
set_option maxRecDepth 100000 in
set_option maxHeartbeats 4000000 in
theorem c_X12_layMen (X : XE) {σ : Mem} {Q : Int → Mem → Prop} (h : v_X12_layMen σ Q) : CT X yX12_layMen cX12_layMen 4 none rm_X12_layMen 0 [.ref (xad X 122)] σ Q := by
  refine ct_of (own := RX12) (L := [(0, .ref (xad X 122))]) rfl rfl (Nat.le_of_ble_eq_true rfl) rfl ?_
  refine ok_iconst (pc := 0) dX12_layMen_0 ?_
  refine ok_istore_n (L' := [(1, vI 0), (0, .ref (xad X 122))]) (pc := 1) dX12_layMen_1 rfl rfl rfl ?_
  refine ok_sub (L' := [(0, .ref (xad X 122)), (1, vI 0)]) [1,0] rfl ?_
  obtain ⟨n1, h⟩ := h
  exact w_X12_layMen_2 X n1 0 σ (r_lit rfl) h
theorem dX12_men_0 : decode cX12_men 0 = .ok (.iload_n 1, 1) := by decide +kernel
theorem dX12_men_1 : decode cX12_men 1 = .ok (.i2l, 1) := by decide +kernel
theorem dX12_men_2 : decode cX12_men 2 = .ok (.lconst 0, 1) := by decide +kernel
theorem dX12_men_3 : decode cX12_men 3 = .ok (.ldc2_w 245, 3) := by decide +kernel
theorem dX12_men_6 : decode cX12_men 6 = .ok (.invokestatic 137, 3) := by decide +kernel
theorem dX12_men_9 : decode cX12_men 9 = .ok (.ifCond .ne 24, 3) := by decide +kernel
theorem dX12_men_12 : decode cX12_men 12 = .ok (.iload_n 1, 1) := by decide +kernel
theorem dX12_men_13 : decode cX12_men 13 = .ok (.i2l, 1) := by decide +kernel
theorem dX12_men_14 : decode cX12_men 14 = .ok (.ldc2_w 298, 3) := by decide +kernel
theorem dX12_men_17 : decode cX12_men 17 = .ok (.bipush 9, 2) := by decide +kernel
theorem dX12_men_19 : decode cX12_men 19 = .ok (.aload_n 0, 1) := by decide +kernel
theorem dX12_men_20 : decode cX12_men 20 = .ok (.getfield 232, 3) := by decide +kernel
theorem dX12_men_23 : decode cX12_men 23 = .ok (.iadd, 1) := by decide +kernel
theorem dX12_men_24 : decode cX12_men 24 = .ok (.i2l, 1) := by decide +kernel
theorem dX12_men_25 : decode cX12_men 25 = .ok (.invokestatic 137, 3) := by decide +kernel
theorem dX12_men_28 : decode cX12_men 28 = .ok (.ifCond .ne 5, 3) := by decide +kernel
theorem dX12_men_31 : decode cX12_men 31 = .ok (.iconst (-1), 1) := by decide +kernel
theorem dX12_men_32 : decode cX12_men 32 = .ok (.ireturn, 1) := by decide +kernel
theorem dX12_men_33 : decode cX12_men 33 = .ok (.aload_n 0, 1) := by decide +kernel
theorem dX12_men_34 : decode cX12_men 34 = .ok (.invokevirtual 348, 3) := by decide +kernel
theorem dX12_men_37 : decode cX12_men 37 = .ok (.iconst 0, 1) := by decide +kernel
theorem dX12_men_38 : decode cX12_men 38 = .ok (.istore_n 2, 1) := by decide +kernel
theorem dX12_men_39 : decode cX12_men 39 = .ok (.iconst 0, 1) := by decide +kernel
theorem dX12_men_40 : decode cX12_men 40 = .ok (.istore_n 3, 1) := by decide +kernel
theorem dX12_men_41 : decode cX12_men 41 = .ok (.iconst 0, 1) := by decide +kernel
theorem dX12_men_42 : decode cX12_men 42 = .ok (.istore 4, 2) := by decide +kernel
theorem dX12_men_44 : decode cX12_men 44 = .ok (.iconst 0, 1) := by decide +kernel
theorem dX12_men_45 : decode cX12_men 45 = .ok (.istore 5, 2) := by decide +kernel
theorem dX12_men_47 : decode cX12_men 47 = .ok (.iload 5, 2) := by decide +kernel
theorem dX12_men_49 : decode cX12_men 49 = .ok (.aload_n 0, 1) := by decide +kernel
theorem dX12_men_50 : decode cX12_men 50 = .ok (.getfield 232, 3) := by decide +kernel
theorem dX12_men_53 : decode cX12_men 53 = .ok (.if_icmp .ge 140, 3) := by decide +kernel
theorem dX12_men_56 : decode cX12_men 56 = .ok (.iconst 0, 1) := by decide +kernel
theorem dX12_men_57 : decode cX12_men 57 = .ok (.istore 6, 2) := by decide +kernel
theorem dX12_men_59 : decode cX12_men 59 = .ok (.iconst 0, 1) := by decide +kernel
theorem dX12_men_60 : decode cX12_men 60 = .ok (.istore 7, 2) := by decide +kernel
theorem dX12_men_62 : decode cX12_men 62 = .ok (.iload 7, 2) := by decide +kernel
theorem dX12_men_64 : decode cX12_men 64 = .ok (.aload_n 0, 1) := by decide +kernel
theorem dX12_men_65 : decode cX12_men 65 = .ok (.getfield 232, 3) := by decide +kernel
theorem dX12_men_68 : decode cX12_men 68 = .ok (.if_icmp .ge 93, 3) := by decide +kernel
theorem dX12_men_71 : decode cX12_men 71 = .ok (.iload 6, 2) := by decide +kernel
theorem dX12_men_73 : decode cX12_men 73 = .ok (.aload_n 0, 1) := by decide +kernel
theorem dX12_men_74 : decode cX12_men 74 = .ok (.getfield 105, 3) := by decide +kernel
theorem dX12_men_77 : decode cX12_men 77 = .ok (.iload 7, 2) := by decide +kernel
theorem dX12_men_79 : decode cX12_men 79 = .ok (.iaload, 1) := by decide +kernel
theorem dX12_men_80 : decode cX12_men 80 = .ok (.iload 5, 2) := by decide +kernel
theorem dX12_men_82 : decode cX12_men 82 = .ok (.if_icmp .ne 7, 3) := by decide +kernel
theorem dX12_men_85 : decode cX12_men 85 = .ok (.iconst 1, 1) := by decide +kernel
theorem dX12_men_86 : decode cX12_men 86 = .ok (.goto 4, 3) := by decide +kernel
theorem dX12_men_89 : decode cX12_men 89 = .ok (.iconst 0, 1) := by decide +kernel
theorem dX12_men_90 : decode cX12_men 90 = .ok (.iadd, 1) := by decide +kernel
theorem dX12_men_91 : decode cX12_men 91 = .ok (.istore 6, 2) := by decide +kernel
theorem dX12_men_93 : decode cX12_men 93 = .ok (.iload 4, 2) := by decide +kernel
theorem dX12_men_95 : decode cX12_men 95 = .ok (.iload 7, 2) := by decide +kernel
theorem dX12_men_97 : decode cX12_men 97 = .ok (.iload 5, 2) := by decide +kernel
theorem dX12_men_99 : decode cX12_men 99 = .ok (.if_icmp .ge 52, 3) := by decide +kernel
theorem dX12_men_102 : decode cX12_men 102 = .ok (.aload_n 0, 1) := by decide +kernel
theorem dX12_men_103 : decode cX12_men 103 = .ok (.getfield 105, 3) := by decide +kernel
theorem dX12_men_106 : decode cX12_men 106 = .ok (.iload 5, 2) := by decide +kernel
theorem dX12_men_108 : decode cX12_men 108 = .ok (.iaload, 1) := by decide +kernel
theorem dX12_men_109 : decode cX12_men 109 = .ok (.bipush (-4), 2) := by decide +kernel
theorem dX12_men_111 : decode cX12_men 111 = .ok (.if_icmp .eq 40, 3) := by decide +kernel
theorem dX12_men_114 : decode cX12_men 114 = .ok (.aload_n 0, 1) := by decide +kernel
theorem dX12_men_115 : decode cX12_men 115 = .ok (.getfield 105, 3) := by decide +kernel
theorem dX12_men_118 : decode cX12_men 118 = .ok (.iload 5, 2) := by decide +kernel
theorem dX12_men_120 : decode cX12_men 120 = .ok (.iaload, 1) := by decide +kernel
theorem dX12_men_121 : decode cX12_men 121 = .ok (.aload_n 0, 1) := by decide +kernel
theorem dX12_men_122 : decode cX12_men 122 = .ok (.getfield 105, 3) := by decide +kernel
theorem dX12_men_125 : decode cX12_men 125 = .ok (.iload 7, 2) := by decide +kernel
theorem dX12_men_127 : decode cX12_men 127 = .ok (.iaload, 1) := by decide +kernel
theorem dX12_men_128 : decode cX12_men 128 = .ok (.if_icmp .ne 23, 3) := by decide +kernel
theorem dX12_men_131 : decode cX12_men 131 = .ok (.aload_n 0, 1) := by decide +kernel
theorem dX12_men_132 : decode cX12_men 132 = .ok (.getfield 82, 3) := by decide +kernel
theorem dX12_men_135 : decode cX12_men 135 = .ok (.bipush 24, 2) := by decide +kernel
theorem dX12_men_137 : decode cX12_men 137 = .ok (.iload 5, 2) := by decide +kernel
theorem dX12_men_139 : decode cX12_men 139 = .ok (.imul, 1) := by decide +kernel
theorem dX12_men_140 : decode cX12_men 140 = .ok (.iload 7, 2) := by decide +kernel
theorem dX12_men_142 : decode cX12_men 142 = .ok (.iadd, 1) := by decide +kernel
theorem dX12_men_143 : decode cX12_men 143 = .ok (.baload, 1) := by decide +kernel
theorem dX12_men_144 : decode cX12_men 144 = .ok (.ifCond .eq 7, 3) := by decide +kernel
theorem dX12_men_147 : decode cX12_men 147 = .ok (.iconst 1, 1) := by decide +kernel
theorem dX12_men_148 : decode cX12_men 148 = .ok (.goto 4, 3) := by decide +kernel
theorem dX12_men_151 : decode cX12_men 151 = .ok (.iconst 0, 1) := by decide +kernel
theorem dX12_men_152 : decode cX12_men 152 = .ok (.iadd, 1) := by decide +kernel
theorem dX12_men_153 : decode cX12_men 153 = .ok (.istore 4, 2) := by decide +kernel
theorem dX12_men_155 : decode cX12_men 155 = .ok (.iinc 7 1, 3) := by decide +kernel
theorem dX12_men_158 : decode cX12_men 158 = .ok (.goto (-96), 3) := by decide +kernel
theorem dX12_men_161 : decode cX12_men 161 = .ok (.iload_n 2, 1) := by decide +kernel
theorem dX12_men_162 : decode cX12_men 162 = .ok (.iload 6, 2) := by decide +kernel
theorem dX12_men_164 : decode cX12_men 164 = .ok (.ifCond .le 7, 3) := by decide +kernel
theorem dX12_men_167 : decode cX12_men 167 = .ok (.iconst 1, 1) := by decide +kernel
theorem dX12_men_168 : decode cX12_men 168 = .ok (.goto 4, 3) := by decide +kernel
theorem dX12_men_171 : decode cX12_men 171 = .ok (.iconst 0, 1) := by decide +kernel
theorem dX12_men_172 : decode cX12_men 172 = .ok (.iadd, 1) := by decide +kernel
theorem dX12_men_173 : decode cX12_men 173 = .ok (.istore_n 2, 1) := by decide +kernel
theorem dX12_men_174 : decode cX12_men 174 = .ok (.iload 6, 2) := by decide +kernel
theorem dX12_men_176 : decode cX12_men 176 = .ok (.iload_n 3, 1) := by decide +kernel
theorem dX12_men_177 : decode cX12_men 177 = .ok (.if_icmp .le 8, 3) := by decide +kernel
theorem dX12_men_180 : decode cX12_men 180 = .ok (.iload 6, 2) := by decide +kernel
theorem dX12_men_182 : decode cX12_men 182 = .ok (.goto 4, 3) := by decide +kernel
theorem dX12_men_185 : decode cX12_men 185 = .ok (.iload_n 3, 1) := by decide +kernel
theorem dX12_men_186 : decode cX12_men 186 = .ok (.istore_n 3, 1) := by decide +kernel
theorem dX12_men_187 : decode cX12_men 187 = .ok (.iinc 5 1, 3) := by decide +kernel
theorem dX12_men_190 : decode cX12_men 190 = .ok (.goto (-143), 3) := by decide +kernel
theorem dX12_men_193 : decode cX12_men 193 = .ok (.iload_n 1, 1) := by decide +kernel
theorem dX12_men_194 : decode cX12_men 194 = .ok (.ifCond .ne 7, 3) := by decide +kernel
theorem dX12_men_197 : decode cX12_men 197 = .ok (.iload_n 2, 1) := by decide +kernel
theorem dX12_men_198 : decode cX12_men 198 = .ok (.goto 31, 3) := by decide +kernel
theorem dX12_men_201 : decode cX12_men 201 = .ok (.iload_n 1, 1) := by decide +kernel
theorem dX12_men_202 : decode cX12_men 202 = .ok (.iconst 1, 1) := by decide +kernel
theorem dX12_men_203 : decode cX12_men 203 = .ok (.if_icmp .ne 7, 3) := by decide +kernel
theorem dX12_men_206 : decode cX12_men 206 = .ok (.iload_n 3, 1) := by decide +kernel
theorem dX12_men_207 : decode cX12_men 207 = .ok (.goto 22, 3) := by decide +kernel
theorem dX12_men_210 : decode cX12_men 210 = .ok (.iload_n 1, 1) := by decide +kernel
theorem dX12_men_211 : decode cX12_men 211 = .ok (.iconst 2, 1) := by decide +kernel
theorem dX12_men_212 : decode cX12_men 212 = .ok (.if_icmp .ne 8, 3) := by decide +kernel
theorem dX12_men_215 : decode cX12_men 215 = .ok (.iload 4, 2) := by decide +kernel
theorem dX12_men_217 : decode cX12_men 217 = .ok (.goto 12, 3) := by decide +kernel
theorem dX12_men_220 : decode cX12_men 220 = .ok (.aload_n 0, 1) := by decide +kernel
theorem dX12_men_221 : decode cX12_men 221 = .ok (.getfield 105, 3) := by decide +kernel
theorem dX12_men_224 : decode cX12_men 224 = .ok (.iload_n 1, 1) := by decide +kernel
theorem dX12_men_225 : decode cX12_men 225 = .ok (.bipush 10, 2) := by decide +kernel
theorem dX12_men_227 : decode cX12_men 227 = .ok (.isub, 1) := by decide +kernel
theorem dX12_men_228 : decode cX12_men 228 = .ok (.iaload, 1) := by decide +kernel
theorem dX12_men_229 : decode cX12_men 229 = .ok (.ireturn, 1) := by decide +kernel
set_option maxRecDepth 100000 in
set_option maxHeartbeats 4000000 in
theorem w_X12_men_172 (X : XE) (p1 : Int) (hp1 : inR p1) (x3 : Int) (x4 : Int) (x5 : Int) (x6 : Int) (s0 : Int) (s1 : Int) (hx3 : inR x3) (hx4 : inR x4) (hx5 : inR x5) (hx6 : inR x6) (hs0 : inR s0) (hs1 : inR s1) {K47 : Int → Int → Int → Int → Mem → Prop} {Q : Int → Mem → Prop} (hK47 : ∀ (x2 : Int) (x3 : Int) (x4 : Int) (x5 : Int) (σ : Mem), inR x2 → inR x3 → inR x4 → inR x5 → K47 x2 x3 x4 x5 σ → ok X rm_X12_men RX12 cX12_men 8 (some .int) 1 Q 47 [(0, .ref (xad X 122)), (1, vI p1), (2, vI x2), (3, vI x3), (4, vI x4), (5, vI x5)] [] σ) {σ : Mem} (h : j_X12_men_172 p1 K47 Q x3 x4 x5 x6 s0 s1 σ) : ok X rm_X12_men RX12 cX12_men 8 (some .int) 1 Q 172 [(0, .ref (xad X 122)), (1, vI p1), (3, vI x3), (4, vI x4), (5, vI x5), (6, vI x6)] [vI s0, vI s1] σ := by
  refine ok_iadd (pc := 172) dX12_men_172 ?_
  refine ok_istore_n (L' := [(2, vI (s1 + s0)), (0, .ref (xad X 122)), (1, vI p1), (3, vI x3), (4, vI x4), (5, vI x5), (6, vI x6)]) (pc := 173) dX12_men_173 rfl rfl rfl ?_
  refine ok_iload 6 (pc := 174) dX12_men_174 rfl ?_
  refine ok_iload_n 3 (pc := 176) dX12_men_176 rfl rfl ?_
  refine ok_icmp_le (tgt := 185) (pc := 177) dX12_men_177 rfl hx6 hx3 (fun q1 => ?_) (fun q1 => ?_)
  · have h := iteF h q1
    refine ok_iload_n 3 (pc := 185) dX12_men_185 rfl rfl ?_
    refine ok_istore_n (L' := [(3, vI x3), (2, vI (s1 + s0)), (0, .ref (xad X 122)), (1, vI p1), (4, vI x4), (5, vI x5), (6, vI x6)]) (pc := 186) dX12_men_186 rfl rfl rfl ?_
    refine ok_iinc (L' := [(5, vI (x5 + 1)), (3, vI x3), (2, vI (s1 + s0)), (0, .ref (xad X 122)), (1, vI p1), (4, vI x4), (6, vI x6)]) 5 (pc := 187) dX12_men_187 rfl rfl rfl ?_
    refine ok_goto (tgt := 47) (pc := 190) dX12_men_190 rfl ?_
    obtain ⟨h2, h⟩ := h
    obtain ⟨h3, h⟩ := h
    refine ok_sub (L' := [(0, .ref (xad X 122)), (1, vI p1), (2, vI (s1 + s0)), (3, vI x3), (4, vI x4), (5, vI (x5 + 1))]) [3,4,2,1,5,0] rfl ?_
    exact hK47 (s1 + s0) x3 x4 (x5 + 1) σ h2 hx3 hx4 h3 h
  · have h := iteT h q1
    refine ok_iload 6 (pc := 180) dX12_men_180 rfl ?_
    refine ok_goto (tgt := 186) (pc := 182) dX12_men_182 rfl ?_
    refine ok_istore_n (L' := [(3, vI x6), (2, vI (s1 + s0)), (0, .ref (xad X 122)), (1, vI p1), (4, vI x4), (5, vI x5), (6, vI x6)]) (pc := 186) dX12_men_186 rfl rfl rfl ?_
    refine ok_iinc (L' := [(5, vI (x5 + 1)), (3, vI x6), (2, vI (s1 + s0)), (0, .ref (xad X 122)), (1, vI p1), (4, vI x4), (6, vI x6)]) 5 (pc := 187) dX12_men_187 rfl rfl rfl ?_
    refine ok_goto (tgt := 47) (pc := 190) dX12_men_190 rfl ?_
    obtain ⟨h4, h⟩ := h
    obtain ⟨h5, h⟩ := h
    refine ok_sub (L' := [(0, .ref (xad X 122)), (1, vI p1), (2, vI (s1 + s0)), (3, vI x6), (4, vI x4), (5, vI (x5 + 1))]) [3,4,2,1,5,0] rfl ?_
    exact hK47 (s1 + s0) x6 x4 (x5 + 1) σ h4 hx6 hx4 h5 h
set_option maxRecDepth 100000 in
set_option maxHeartbeats 4000000 in
theorem w_X12_men_151 (X : XE) (p1 : Int) (hp1 : inR p1) (x2 : Int) (x3 : Int) (x5 : Int) (x6 : Int) (x7 : Int) (s0 : Int) (hx2 : inR x2) (hx3 : inR x3) (hx5 : inR x5) (hx6 : inR x6) (hx7 : inR x7) (hs0 : inR s0) {K47 : Int → Int → Int → Int → Mem → Prop} {K62 : Int → Int → Int → Mem → Prop} {Q : Int → Mem → Prop} (hK47 : ∀ (x2 : Int) (x3 : Int) (x4 : Int) (x5 : Int) (σ : Mem), inR x2 → inR x3 → inR x4 → inR x5 → K47 x2 x3 x4 x5 σ → ok X rm_X12_men RX12 cX12_men 8 (some .int) 1 Q 47 [(0, .ref (xad X 122)), (1, vI p1), (2, vI x2), (3, vI x3), (4, vI x4), (5, vI x5)] [] σ) (hK62 : ∀ (x4 : Int) (x6 : Int) (x7 : Int) (σ : Mem), inR x4 → inR x6 → inR x7 → K62 x4 x6 x7 σ → ok X rm_X12_men RX12 cX12_men 8 (some .int) 1 Q 62 [(0, .ref (xad X 122)), (1, vI p1), (2, vI x2), (3, vI x3), (4, vI x4), (5, vI x5), (6, vI x6), (7, vI x7)] [] σ) {σ : Mem} (h : j_X12_men_151 p1 K47 K62 Q x2 x3 x5 x6 x7 s0 σ) : ok X rm_X12_men RX12 cX12_men 8 (some .int) 1 Q 151 [(0, .ref (xad X 122)), (1, vI p1), (2, vI x2), (3, vI x3), (5, vI x5), (6, vI x6), (7, vI x7)] [vI s0] σ := by
  refine ok_iconst (pc := 151) dX12_men_151 ?_
  refine ok_iadd (pc := 152) dX12_men_152 ?_
  refine ok_istore (L' := [(4, vI (s0 + 0)), (0, .ref (xad X 122)), (1, vI p1), (2, vI x2), (3, vI x3), (5, vI x5), (6, vI x6), (7, vI x7)]) (pc := 153) dX12_men_153 rfl rfl ?_
  refine ok_iinc (L' := [(7, vI (x7 + 1)), (4, vI (s0 + 0)), (0, .ref (xad X 122)), (1, vI p1), (2, vI x2), (3, vI x3), (5, vI x5), (6, vI x6)]) 7 (pc := 155) dX12_men_155 rfl rfl rfl ?_
  refine ok_goto (tgt := 62) (pc := 158) dX12_men_158 rfl ?_
  obtain ⟨h1, h⟩ := h
  obtain ⟨h2, h⟩ := h
  refine ok_sub (L' := [(0, .ref (xad X 122)), (1, vI p1), (2, vI x2), (3, vI x3), (4, vI (s0 + 0)), (5, vI x5), (6, vI x6), (7, vI (x7 + 1))]) [2,3,4,5,1,6,7,0] rfl ?_
  exact hK62 (s0 + 0) x6 (x7 + 1) σ h1 hx6 h2 h
set_option maxRecDepth 100000 in
set_option maxHeartbeats 4000000 in
theorem w_X12_men_90 (X : XE) (p1 : Int) (hp1 : inR p1) (x2 : Int) (x3 : Int) (x4 : Int) (x5 : Int) (x7 : Int) (s0 : Int) (s1 : Int) (hx2 : inR x2) (hx3 : inR x3) (hx4 : inR x4) (hx5 : inR x5) (hx7 : inR x7) (hs0 : inR s0) (hs1 : inR s1) {K47 : Int → Int → Int → Int → Mem → Prop} {K62 : Int → Int → Int → Mem → Prop} {Q : Int → Mem → Prop} (hK47 : ∀ (x2 : Int) (x3 : Int) (x4 : Int) (x5 : Int) (σ : Mem), inR x2 → inR x3 → inR x4 → inR x5 → K47 x2 x3 x4 x5 σ → ok X rm_X12_men RX12 cX12_men 8 (some .int) 1 Q 47 [(0, .ref (xad X 122)), (1, vI p1), (2, vI x2), (3, vI x3), (4, vI x4), (5, vI x5)] [] σ) (hK62 : ∀ (x4 : Int) (x6 : Int) (x7 : Int) (σ : Mem), inR x4 → inR x6 → inR x7 → K62 x4 x6 x7 σ → ok X rm_X12_men RX12 cX12_men 8 (some .int) 1 Q 62 [(0, .ref (xad X 122)), (1, vI p1), (2, vI x2), (3, vI x3), (4, vI x4), (5, vI x5), (6, vI x6), (7, vI x7)] [] σ) {σ : Mem} (h : j_X12_men_90 p1 K47 K62 Q x2 x3 x4 x5 x7 s0 s1 σ) : ok X rm_X12_men RX12 cX12_men 8 (some .int) 1 Q 90 [(0, .ref (xad X 122)), (1, vI p1), (2, vI x2), (3, vI x3), (4, vI x4), (5, vI x5), (7, vI x7)] [vI s0, vI s1] σ := by
  refine ok_iadd (pc := 90) dX12_men_90 ?_
  refine ok_istore (L' := [(6, vI (s1 + s0)), (0, .ref (xad X 122)), (1, vI p1), (2, vI x2), (3, vI x3), (4, vI x4), (5, vI x5), (7, vI x7)]) (pc := 91) dX12_men_91 rfl rfl ?_
  refine ok_iload 5 (pc := 93) dX12_men_93 rfl ?_
  refine ok_iload 7 (pc := 95) dX12_men_95 rfl ?_
  refine ok_iload 6 (pc := 97) dX12_men_97 rfl ?_
  refine ok_icmp_ge (tgt := 151) (pc := 99) dX12_men_99 rfl hx7 hx5 (fun q1 => ?_) (fun q1 => ?_)
  · have h := iteF h q1
    obtain ⟨h2, h⟩ := h
    refine ok_sub (L' := [(0, .ref (xad X 122)), (1, vI p1), (2, vI x2), (3, vI x3), (5, vI x5), (6, vI (s1 + s0)), (7, vI x7)]) [1,2,3,4,6,0,7] rfl ?_
    exact w_X12_men_151 X p1 hp1 x2 x3 x5 (s1 + s0) x7 x4 hx2 hx3 hx5 h2 hx7 hx4 hK47 hK62 h
  · have h := iteT h q1
    refine ok_aload_n 1 (pc := 102) dX12_men_102 rfl rfl ?_
    refine ok_getR (pc := 103) dX12_men_103 fl_X12_105 sh_122 (Nat.le_of_ble_eq_true rfl) rfl rfl ?_
    refine ok_iload 6 (pc := 106) dX12_men_106 rfl ?_
    obtain ⟨h3, h⟩ := h
    obtain ⟨h4, h⟩ := h
    refine ok_wf (fun hw5 => ?_)
    refine ok_iald (pc := 108) dX12_men_108 sh_153 (Nat.le_of_ble_eq_true rfl) rfl h3 h4 ?_
    refine ok_bipush (pc := 109) dX12_men_109 rfl ?_
    refine ok_icmp_eq (tgt := 151) (pc := 111) dX12_men_111 rfl (hw5 _ _) (r_lit rfl) (fun q6 => ?_) (fun q6 => ?_)
    · have h := iteT h q6
      obtain ⟨h7, h⟩ := h
      refine ok_sub (L' := [(0, .ref (xad X 122)), (1, vI p1), (2, vI x2), (3, vI x3), (5, vI x5), (6, vI (s1 + s0)), (7, vI x7)]) [1,2,3,4,6,0,7] rfl ?_
      exact w_X12_men_151 X p1 hp1 x2 x3 x5 (s1 + s0) x7 x4 hx2 hx3 hx5 h7 hx7 hx4 hK47 hK62 h
    · have h := iteF h q6
      refine ok_aload_n 1 (pc := 114) dX12_men_114 rfl rfl ?_
      refine ok_getR (pc := 115) dX12_men_115 fl_X12_105 sh_122 (Nat.le_of_ble_eq_true rfl) rfl rfl ?_
      refine ok_iload 6 (pc := 118) dX12_men_118 rfl ?_
      refine ok_iald (pc := 120) dX12_men_120 sh_153 (Nat.le_of_ble_eq_true rfl) rfl h3 h4 ?_
      refine ok_aload_n 1 (pc := 121) dX12_men_121 rfl rfl ?_
      refine ok_getR (pc := 122) dX12_men_122 fl_X12_105 sh_122 (Nat.le_of_ble_eq_true rfl) rfl rfl ?_
      refine ok_iload 7 (pc := 125) dX12_men_125 rfl ?_
      obtain ⟨h8, h⟩ := h
      obtain ⟨h9, h⟩ := h
      refine ok_iald (pc := 127) dX12_men_127 sh_153 (Nat.le_of_ble_eq_true rfl) rfl h8 h9 ?_
      refine ok_icmp_ne (tgt := 151) (pc := 128) dX12_men_128 rfl (hw5 _ _) (hw5 _ _) (fun q10 => ?_) (fun q10 => ?_)
      · have h := iteF h q10
        obtain ⟨h11, h⟩ := h
        refine ok_sub (L' := [(0, .ref (xad X 122)), (1, vI p1), (2, vI x2), (3, vI x3), (5, vI x5), (6, vI (s1 + s0)), (7, vI x7)]) [1,2,3,4,6,0,7] rfl ?_
        exact w_X12_men_151 X p1 hp1 x2 x3 x5 (s1 + s0) x7 x4 hx2 hx3 hx5 h11 hx7 hx4 hK47 hK62 h
      · have h := iteT h q10
        refine ok_aload_n 1 (pc := 131) dX12_men_131 rfl rfl ?_
        refine ok_getR (pc := 132) dX12_men_132 fl_X12_82 sh_122 (Nat.le_of_ble_eq_true rfl) rfl rfl ?_
        refine ok_bipush (pc := 135) dX12_men_135 rfl ?_
        refine ok_iload 6 (pc := 137) dX12_men_137 rfl ?_
        refine ok_imul (pc := 139) dX12_men_139 ?_
        refine ok_iload 7 (pc := 140) dX12_men_140 rfl ?_
        refine ok_iadd (pc := 142) dX12_men_142 ?_
        obtain ⟨h12, h⟩ := h
        obtain ⟨h13, h⟩ := h
        refine ok_zald (pc := 143) dX12_men_143 sh_147 (Nat.le_of_ble_eq_true rfl) rfl h12 h13 ?_
        refine ok_if_eq (tgt := 151) (pc := 144) dX12_men_144 rfl (hw5 _ _) (fun q14 => ?_) (fun q14 => ?_)
        · have h := iteT h q14
          obtain ⟨h15, h⟩ := h
          refine ok_sub (L' := [(0, .ref (xad X 122)), (1, vI p1), (2, vI x2), (3, vI x3), (5, vI x5), (6, vI (s1 + s0)), (7, vI x7)]) [1,2,3,4,6,0,7] rfl ?_
          exact w_X12_men_151 X p1 hp1 x2 x3 x5 (s1 + s0) x7 x4 hx2 hx3 hx5 h15 hx7 hx4 hK47 hK62 h
        · have h := iteF h q14
          refine ok_iconst (pc := 147) dX12_men_147 ?_
          refine ok_goto (tgt := 152) (pc := 148) dX12_men_148 rfl ?_
          refine ok_iadd (pc := 152) dX12_men_152 ?_
          refine ok_istore (L' := [(4, vI (x4 + 1)), (6, vI (s1 + s0)), (0, .ref (xad X 122)), (1, vI p1), (2, vI x2), (3, vI x3), (5, vI x5), (7, vI x7)]) (pc := 153) dX12_men_153 rfl rfl ?_
          refine ok_iinc (L' := [(7, vI (x7 + 1)), (4, vI (x4 + 1)), (6, vI (s1 + s0)), (0, .ref (xad X 122)), (1, vI p1), (2, vI x2), (3, vI x3), (5, vI x5)]) 7 (pc := 155) dX12_men_155 rfl rfl rfl ?_
          refine ok_goto (tgt := 62) (pc := 158) dX12_men_158 rfl ?_
          obtain ⟨h16, h⟩ := h
          obtain ⟨h17, h⟩ := h
          obtain ⟨h18, h⟩ := h
          refine ok_sub (L' := [(0, .ref (xad X 122)), (1, vI p1), (2, vI x2), (3, vI x3), (4, vI (x4 + 1)), (5, vI x5), (6, vI (s1 + s0)), (7, vI (x7 + 1))]) [3,4,5,6,1,7,2,0] rfl ?_
          exact hK62 (x4 + 1) (s1 + s0) (x7 + 1) σ h16 h17 h18 h
set_option maxRecDepth 100000 in
set_option maxHeartbeats 4000000 in
theorem w_X12_men_62 (X : XE) (p1 : Int) (hp1 : inR p1) (x2 : Int) (x3 : Int) (x5 : Int) (hx2 : inR x2) (hx3 : inR x3) (hx5 : inR x5) {K47 : Int → Int → Int → Int → Mem → Prop} {Q : Int → Mem → Prop} (hK47 : ∀ (x2 : Int) (x3 : Int) (x4 : Int) (x5 : Int) (σ : Mem), inR x2 → inR x3 → inR x4 → inR x5 → K47 x2 x3 x4 x5 σ → ok X rm_X12_men RX12 cX12_men 8 (some .int) 1 Q 47 [(0, .ref (xad X 122)), (1, vI p1), (2, vI x2), (3, vI x3), (4, vI x4), (5, vI x5)] [] σ) : ∀ (n : Nat) (x4 : Int) (x6 : Int) (x7 : Int) (σ : Mem), inR x4 → inR x6 → inR x7 → l_X12_men_62 p1 x2 x3 x5 K47 Q n x4 x6 x7 σ → ok X rm_X12_men RX12 cX12_men 8 (some .int) 1 Q 62 [(0, .ref (xad X 122)), (1, vI p1), (2, vI x2), (3, vI x3), (4, vI x4), (5, vI x5), (6, vI x6), (7, vI x7)] [] σ := by
  intro n
  induction n with
  | zero => intro x4 x6 x7 σ hx4 hx6 hx7 h; exact False.elim h
  | succ n ih =>
    intro x4 x6 x7 σ hx4 hx6 hx7 h
    refine ok_iload 7 (pc := 62) dX12_men_62 rfl ?_
    refine ok_aload_n 0 (pc := 64) dX12_men_64 rfl rfl ?_
    refine ok_wf (fun hw1 => ?_)
    refine ok_getI (pc := 65) dX12_men_65 fl_X12_232 sh_122 (Nat.le_of_ble_eq_true rfl) rfl rfl ?_
    refine ok_icmp_ge (tgt := 161) (pc := 68) dX12_men_68 rfl hx7 (hw1 _ _) (fun q2 => ?_) (fun q2 => ?_)
    · have h := iteF h q2
      refine ok_iload_n 2 (pc := 161) dX12_men_161 rfl rfl ?_
      refine ok_iload 6 (pc := 162) dX12_men_162 rfl ?_
      refine ok_if_le (tgt := 171) (pc := 164) dX12_men_164 rfl hx6 (fun q3 => ?_) (fun q3 => ?_)
      · simp only [if_neg q3] at h
        refine ok_iconst (pc := 171) dX12_men_171 ?_
        refine ok_sub (L' := [(0, .ref (xad X 122)), (1, vI p1), (3, vI x3), (4, vI x4), (5, vI x5), (6, vI x6)]) [0,1,3,4,5,6] rfl ?_
        exact w_X12_men_172 X p1 hp1 x3 x4 x5 x6 0 x2 hx3 hx4 hx5 hx6 (r_lit rfl) hx2 hK47 h
      · simp only [if_pos q3] at h
        refine ok_iconst (pc := 167) dX12_men_167 ?_
        refine ok_goto (tgt := 172) (pc := 168) dX12_men_168 rfl ?_
        refine ok_sub (L' := [(0, .ref (xad X 122)), (1, vI p1), (3, vI x3), (4, vI x4), (5, vI x5), (6, vI x6)]) [0,1,3,4,5,6] rfl ?_
        exact w_X12_men_172 X p1 hp1 x3 x4 x5 x6 1 x2 hx3 hx4 hx5 hx6 (r_lit rfl) hx2 hK47 h
    · have h := iteT h q2
      refine ok_iload 6 (pc := 71) dX12_men_71 rfl ?_
      refine ok_aload_n 0 (pc := 73) dX12_men_73 rfl rfl ?_
      refine ok_getR (pc := 74) dX12_men_74 fl_X12_105 sh_122 (Nat.le_of_ble_eq_true rfl) rfl rfl ?_
      refine ok_iload 7 (pc := 77) dX12_men_77 rfl ?_
      obtain ⟨h4, h⟩ := h
      obtain ⟨h5, h⟩ := h
      refine ok_iald (pc := 79) dX12_men_79 sh_153 (Nat.le_of_ble_eq_true rfl) rfl h4 h5 ?_
      refine ok_iload 5 (pc := 80) dX12_men_80 rfl ?_
      refine ok_icmp_ne (tgt := 89) (pc := 82) dX12_men_82 rfl (hw1 _ _) hx5 (fun q6 => ?_) (fun q6 => ?_)
      · simp only [if_neg q6] at h
        refine ok_iconst (pc := 89) dX12_men_89 ?_
        refine ok_sub (L' := [(0, .ref (xad X 122)), (1, vI p1), (2, vI x2), (3, vI x3), (4, vI x4), (5, vI x5), (7, vI x7)]) [0,1,2,3,4,5,7] rfl ?_
        exact w_X12_men_90 X p1 hp1 x2 x3 x4 x5 x7 0 x6 hx2 hx3 hx4 hx5 hx7 (r_lit rfl) hx6 hK47 (fun x4_ x6_ x7_ σ_ hx4_ hx6_ hx7_ h_ => ih x4_ x6_ x7_ σ_ hx4_ hx6_ hx7_ h_) h
      · simp only [if_pos q6] at h
        refine ok_iconst (pc := 85) dX12_men_85 ?_
        refine ok_goto (tgt := 90) (pc := 86) dX12_men_86 rfl ?_
        refine ok_sub (L' := [(0, .ref (xad X 122)), (1, vI p1), (2, vI x2), (3, vI x3), (4, vI x4), (5, vI x5), (7, vI x7)]) [0,1,2,3,4,5,7] rfl ?_
        exact w_X12_men_90 X p1 hp1 x2 x3 x4 x5 x7 1 x6 hx2 hx3 hx4 hx5 hx7 (r_lit rfl) hx6 hK47 (fun x4_ x6_ x7_ σ_ hx4_ hx6_ hx7_ h_ => ih x4_ x6_ x7_ σ_ hx4_ hx6_ hx7_ h_) h
set_option maxRecDepth 100000 in
set_option maxHeartbeats 4000000 in
theorem w_X12_men_47 (X : XE) (p1 : Int) (hp1 : inR p1) {Q : Int → Mem → Prop} : ∀ (n : Nat) (x2 : Int) (x3 : Int) (x4 : Int) (x5 : Int) (σ : Mem), inR x2 → inR x3 → inR x4 → inR x5 → l_X12_men_47 p1 Q n x2 x3 x4 x5 σ → ok X rm_X12_men RX12 cX12_men 8 (some .int) 1 Q 47 [(0, .ref (xad X 122)), (1, vI p1), (2, vI x2), (3, vI x3), (4, vI x4), (5, vI x5)] [] σ := by
  intro n
  induction n with
  | zero => intro x2 x3 x4 x5 σ hx2 hx3 hx4 hx5 h; exact False.elim h
  | succ n ih =>
    intro x2 x3 x4 x5 σ hx2 hx3 hx4 hx5 h
    refine ok_iload 5 (pc := 47) dX12_men_47 rfl ?_
    refine ok_aload_n 0 (pc := 49) dX12_men_49 rfl rfl ?_
    refine ok_wf (fun hw1 => ?_)
    refine ok_getI (pc := 50) dX12_men_50 fl_X12_232 sh_122 (Nat.le_of_ble_eq_true rfl) rfl rfl ?_
    refine ok_icmp_ge (tgt := 193) (pc := 53) dX12_men_53 rfl hx5 (hw1 _ _) (fun q2 => ?_) (fun q2 => ?_)
    · have h := iteF h q2
      refine ok_iload_n 1 (pc := 193) dX12_men_193 rfl rfl ?_
      refine ok_if_ne (tgt := 201) (pc := 194) dX12_men_194 rfl hp1 (fun q3 => ?_) (fun q3 => ?_)
      · have h := iteF h q3
        refine ok_iload_n 1 (pc := 201) dX12_men_201 rfl rfl ?_
        refine ok_iconst (pc := 202) dX12_men_202 ?_
        refine ok_icmp_ne (tgt := 210) (pc := 203) dX12_men_203 rfl hp1 (r_lit rfl) (fun q4 => ?_) (fun q4 => ?_)
        · have h := iteF h q4
          refine ok_iload_n 1 (pc := 210) dX12_men_210 rfl rfl ?_
          refine ok_iconst (pc := 211) dX12_men_211 ?_
          refine ok_icmp_ne (tgt := 220) (pc := 212) dX12_men_212 rfl hp1 (r_lit rfl) (fun q5 => ?_) (fun q5 => ?_)
          · have h := iteF h q5
            refine ok_aload_n 0 (pc := 220) dX12_men_220 rfl rfl ?_
            refine ok_getR (pc := 221) dX12_men_221 fl_X12_105 sh_122 (Nat.le_of_ble_eq_true rfl) rfl rfl ?_
            refine ok_iload_n 1 (pc := 224) dX12_men_224 rfl rfl ?_
            refine ok_bipush (pc := 225) dX12_men_225 rfl ?_
            refine ok_isub (pc := 227) dX12_men_227 ?_
            obtain ⟨h6, h⟩ := h
            obtain ⟨h7, h⟩ := h
            refine ok_iald (pc := 228) dX12_men_228 sh_153 (Nat.le_of_ble_eq_true rfl) rfl h6 h7 ?_
            exact ok_iret (pc := 229) dX12_men_229 rfl rfl rfl (hw1 _ _) h
          · have h := iteT h q5
            refine ok_iload 4 (pc := 215) dX12_men_215 rfl ?_
            refine ok_goto (tgt := 229) (pc := 217) dX12_men_217 rfl ?_
            exact ok_iret (pc := 229) dX12_men_229 rfl rfl rfl hx4 h
        · have h := iteT h q4
          refine ok_iload_n 3 (pc := 206) dX12_men_206 rfl rfl ?_
          refine ok_goto (tgt := 229) (pc := 207) dX12_men_207 rfl ?_
          exact ok_iret (pc := 229) dX12_men_229 rfl rfl rfl hx3 h
      · have h := iteT h q3
        refine ok_iload_n 2 (pc := 197) dX12_men_197 rfl rfl ?_
        refine ok_goto (tgt := 229) (pc := 198) dX12_men_198 rfl ?_
        exact ok_iret (pc := 229) dX12_men_229 rfl rfl rfl hx2 h
    · have h := iteT h q2
      refine ok_iconst (pc := 56) dX12_men_56 ?_
      refine ok_istore (L' := [(6, vI 0), (0, .ref (xad X 122)), (1, vI p1), (2, vI x2), (3, vI x3), (4, vI x4), (5, vI x5)]) (pc := 57) dX12_men_57 rfl rfl ?_
      refine ok_iconst (pc := 59) dX12_men_59 ?_
      refine ok_istore (L' := [(7, vI 0), (6, vI 0), (0, .ref (xad X 122)), (1, vI p1), (2, vI x2), (3, vI x3), (4, vI x4), (5, vI x5)]) (pc := 60) dX12_men_60 rfl rfl ?_
      refine ok_sub (L' := [(0, .ref (xad X 122)), (1, vI p1), (2, vI x2), (3, vI x3), (4, vI x4), (5, vI x5), (6, vI 0), (7, vI 0)]) [2,3,4,5,6,7,1,0] rfl ?_
      obtain ⟨n8, h⟩ := h
      exact w_X12_men_62 X p1 hp1 x2 x3 x5 hx2 hx3 hx5 (fun x2_ x3_ x4_ x5_ σ_ hx2_ hx3_ hx4_ hx5_ h_ => ih x2_ x3_ x4_ x5_ σ_ hx2_ hx3_ hx4_ hx5_ h_) n8 x4 0 0 σ hx4 (r_lit rfl) (r_lit rfl) h
set_option maxRecDepth 100000 in
set_option maxHeartbeats 4000000 in
theorem w_X12_men_33 (X : XE) (p1 : Int) (hp1 : inR p1) {Q : Int → Mem → Prop} {σ : Mem} (h : j_X12_men_33 p1 Q σ) : ok X rm_X12_men RX12 cX12_men 8 (some .int) 1 Q 33 [(0, .ref (xad X 122)), (1, vI p1)] [] σ := by
  refine ok_aload_n 0 (pc := 33) dX12_men_33 rfl rfl ?_
  refine ok_callVv (As := []) (rest := []) (rm := rm_X12_layMen) (pc := 34) dX12_men_34 me_X12_layMen ml_X12_348 (ci := 12) rfl sh_122 (Nat.le_of_ble_eq_true rfl) rfl des_X12_layMen rfl ⟨rfl, rfl, rfl, rfl⟩ rfl rfl (c_X12_layMen X h) (fun σ3 h => ?_)
  refine ok_iconst (pc := 37) dX12_men_37 ?_
  refine ok_istore_n (L' := [(2, vI 0), (0, .ref (xad X 122)), (1, vI p1)]) (pc := 38) dX12_men_38 rfl rfl rfl ?_
  refine ok_iconst (pc := 39) dX12_men_39 ?_
  refine ok_istore_n (L' := [(3, vI 0), (2, vI 0), (0, .ref (xad X 122)), (1, vI p1)]) (pc := 40) dX12_men_40 rfl rfl rfl ?_
  refine ok_iconst (pc := 41) dX12_men_41 ?_
  refine ok_istore (L' := [(4, vI 0), (3, vI 0), (2, vI 0), (0, .ref (xad X 122)), (1, vI p1)]) (pc := 42) dX12_men_42 rfl rfl ?_
  refine ok_iconst (pc := 44) dX12_men_44 ?_
  refine ok_istore (L' := [(5, vI 0), (4, vI 0), (3, vI 0), (2, vI 0), (0, .ref (xad X 122)), (1, vI p1)]) (pc := 45) dX12_men_45 rfl rfl ?_
  refine ok_sub (L' := [(0, .ref (xad X 122)), (1, vI p1), (2, vI 0), (3, vI 0), (4, vI 0), (5, vI 0)]) [4,5,3,2,1,0] rfl ?_
  obtain ⟨n4, h⟩ := h
  exact w_X12_men_47 X p1 hp1 n4 0 0 0 0 σ3 (r_lit rfl) (r_lit rfl) (r_lit rfl) (r_lit rfl) h
set_option maxRecDepth 100000 in
set_option maxHeartbeats 4000000 in
theorem c_X12_men (X : XE) (p1 : Int) (hp1 : inR p1) {σ : Mem} {Q : Int → Mem → Prop} (h : v_X12_men p1 σ Q) : CT X yX12_men cX12_men 8 (some .int) rm_X12_men 1 [.ref (xad X 122), vI p1] σ Q := by
  refine ct_of (own := RX12) (L := [(0, .ref (xad X 122)), (1, vI p1)]) rfl rfl (Nat.le_of_ble_eq_true rfl) rfl ?_
  refine ok_iload_n 1 (pc := 0) dX12_men_0 rfl rfl ?_
  refine ok_i2l (pc := 1) dX12_men_1 hp1 ?_
  refine ok_lconst (v := 0) (pc := 2) dX12_men_2 rfl ?_
  refine ok_ldc2 (pc := 3) dX12_men_3 cn_X12_245 ?_
  refine ok_callSi (As := [vL p1, vL 0, vL 2]) (rest := []) (rm := rm_X12_in) (pc := 6) dX12_men_6 me_X12_in ml_X12_137 des_X12_in rfl ⟨rfl, rfl, rfl, rfl⟩ rfl rfl (c_X12_in X p1 0 2 (l_of_r hp1) (l_of_r (r_lit rfl)) (l_of_r (r_lit rfl)) h) (fun r2 σ3 h1 h => ?_)
  refine ok_if_ne (tgt := 33) (pc := 9) dX12_men_9 rfl h1 (fun q4 => ?_) (fun q4 => ?_)
  · have h := iteF h q4
    exact w_X12_men_33 X p1 hp1   h
  · have h := iteT h q4
    refine ok_iload_n 1 (pc := 12) dX12_men_12 rfl rfl ?_
    refine ok_i2l (pc := 13) dX12_men_13 hp1 ?_
    refine ok_ldc2 (pc := 14) dX12_men_14 cn_X12_298 ?_
    refine ok_bipush (pc := 17) dX12_men_17 rfl ?_
    refine ok_aload_n 0 (pc := 19) dX12_men_19 rfl rfl ?_
    refine ok_wf (fun hw5 => ?_)
    refine ok_getI (pc := 20) dX12_men_20 fl_X12_232 sh_122 (Nat.le_of_ble_eq_true rfl) rfl rfl ?_
    refine ok_iadd (pc := 23) dX12_men_23 ?_
    obtain ⟨h6, h⟩ := h
    refine ok_i2l (pc := 24) dX12_men_24 h6 ?_
    refine ok_callSi (As := [vL p1, vL 10, vL (9 + (σ3 122 24))]) (rest := []) (rm := rm_X12_in) (pc := 25) dX12_men_25 me_X12_in ml_X12_137 des_X12_in rfl ⟨rfl, rfl, rfl, rfl⟩ rfl rfl (c_X12_in X p1 10 (9 + (σ3 122 24)) (l_of_r hp1) (l_of_r (r_lit rfl)) (l_of_r h6) h) (fun r8 σ9 h7 h => ?_)
    refine ok_if_ne (tgt := 33) (pc := 28) dX12_men_28 rfl h7 (fun q10 => ?_) (fun q10 => ?_)
    · have h := iteF h q10
      exact w_X12_men_33 X p1 hp1   h
    · have h := iteT h q10
      refine ok_iconst (pc := 31) dX12_men_31 ?_
      exact ok_iret (pc := 32) dX12_men_32 rfl rfl rfl (r_lit rfl) h
