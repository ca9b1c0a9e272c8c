theorem dX3_weigh_0 : decode cX3_weigh 0 = .ok (.aload_n 0, 1) := by decide +kernel
theorem dX3_weigh_1 : decode cX3_weigh 1 = .ok (.iconst 1, 1) := by decide +kernel
theorem dX3_weigh_2 : decode cX3_weigh 2 = .ok (.putfield 21, 3) := by decide +kernel
theorem dX3_weigh_5 : decode cX3_weigh 5 = .ok (.iconst 0, 1) := by decide +kernel
theorem dX3_weigh_6 : decode cX3_weigh 6 = .ok (.istore_n 3, 1) := by decide +kernel
theorem dX3_weigh_7 : decode cX3_weigh 7 = .ok (.iload_n 3, 1) := by decide +kernel
theorem dX3_weigh_8 : decode cX3_weigh 8 = .ok (.iconst 3, 1) := by decide +kernel
theorem dX3_weigh_9 : decode cX3_weigh 9 = .ok (.if_icmp .ge 38, 3) := by decide +kernel
theorem dX3_weigh_12 : decode cX3_weigh 12 = .ok (.aload_n 0, 1) := by decide +kernel
theorem dX3_weigh_13 : decode cX3_weigh 13 = .ok (.dup, 1) := by decide +kernel
theorem dX3_weigh_14 : decode cX3_weigh 14 = .ok (.getfield 21, 3) := by decide +kernel
theorem dX3_weigh_17 : decode cX3_weigh 17 = .ok (.aload_n 0, 1) := by decide +kernel
theorem dX3_weigh_18 : decode cX3_weigh 18 = .ok (.iload_n 3, 1) := by decide +kernel
theorem dX3_weigh_19 : decode cX3_weigh 19 = .ok (.aload_n 1, 1) := by decide +kernel
theorem dX3_weigh_20 : decode cX3_weigh 20 = .ok (.getfield 25, 3) := by decide +kernel
theorem dX3_weigh_23 : decode cX3_weigh 23 = .ok (.iload_n 3, 1) := by decide +kernel
theorem dX3_weigh_24 : decode cX3_weigh 24 = .ok (.iaload, 1) := by decide +kernel
theorem dX3_weigh_25 : decode cX3_weigh 25 = .ok (.aload_n 2, 1) := by decide +kernel
theorem dX3_weigh_26 : decode cX3_weigh 26 = .ok (.aload_n 1, 1) := by decide +kernel
theorem dX3_weigh_27 : decode cX3_weigh 27 = .ok (.getfield 30, 3) := by decide +kernel
theorem dX3_weigh_30 : decode cX3_weigh 30 = .ok (.invokevirtual 33, 3) := by decide +kernel
theorem dX3_weigh_33 : decode cX3_weigh 33 = .ok (.aload_n 2, 1) := by decide +kernel
theorem dX3_weigh_34 : decode cX3_weigh 34 = .ok (.invokevirtual 39, 3) := by decide +kernel
theorem dX3_weigh_37 : decode cX3_weigh 37 = .ok (.imul, 1) := by decide +kernel
theorem dX3_weigh_38 : decode cX3_weigh 38 = .ok (.putfield 21, 3) := by decide +kernel
theorem dX3_weigh_41 : decode cX3_weigh 41 = .ok (.iinc 3 1, 3) := by decide +kernel
theorem dX3_weigh_44 : decode cX3_weigh 44 = .ok (.goto (-37), 3) := by decide +kernel
theorem dX3_weigh_47 : decode cX3_weigh 47 = .ok (.iconst 0, 1) := by decide +kernel
theorem dX3_weigh_48 : decode cX3_weigh 48 = .ok (.istore_n 3, 1) := by decide +kernel
theorem dX3_weigh_49 : decode cX3_weigh 49 = .ok (.iload_n 3, 1) := by decide +kernel
theorem dX3_weigh_50 : decode cX3_weigh 50 = .ok (.bipush 27, 2) := by decide +kernel
theorem dX3_weigh_52 : decode cX3_weigh 52 = .ok (.if_icmp .ge 49, 3) := by decide +kernel
theorem dX3_weigh_55 : decode cX3_weigh 55 = .ok (.aload_n 0, 1) := by decide +kernel
theorem dX3_weigh_56 : decode cX3_weigh 56 = .ok (.getfield 9, 3) := by decide +kernel
theorem dX3_weigh_59 : decode cX3_weigh 59 = .ok (.iload_n 3, 1) := by decide +kernel
theorem dX3_weigh_60 : decode cX3_weigh 60 = .ok (.aload_n 0, 1) := by decide +kernel
theorem dX3_weigh_61 : decode cX3_weigh 61 = .ok (.getfield 18, 3) := by decide +kernel
theorem dX3_weigh_64 : decode cX3_weigh 64 = .ok (.iload_n 3, 1) := by decide +kernel
theorem dX3_weigh_65 : decode cX3_weigh 65 = .ok (.bipush 9, 2) := by decide +kernel
theorem dX3_weigh_67 : decode cX3_weigh 67 = .ok (.idiv, 1) := by decide +kernel
theorem dX3_weigh_68 : decode cX3_weigh 68 = .ok (.iaload, 1) := by decide +kernel
theorem dX3_weigh_69 : decode cX3_weigh 69 = .ok (.aload_n 0, 1) := by decide +kernel
theorem dX3_weigh_70 : decode cX3_weigh 70 = .ok (.getfield 18, 3) := by decide +kernel
theorem dX3_weigh_73 : decode cX3_weigh 73 = .ok (.iconst 3, 1) := by decide +kernel
theorem dX3_weigh_74 : decode cX3_weigh 74 = .ok (.iload_n 3, 1) := by decide +kernel
theorem dX3_weigh_75 : decode cX3_weigh 75 = .ok (.iconst 3, 1) := by decide +kernel
theorem dX3_weigh_76 : decode cX3_weigh 76 = .ok (.idiv, 1) := by decide +kernel
theorem dX3_weigh_77 : decode cX3_weigh 77 = .ok (.iconst 3, 1) := by decide +kernel
theorem dX3_weigh_78 : decode cX3_weigh 78 = .ok (.irem, 1) := by decide +kernel
theorem dX3_weigh_79 : decode cX3_weigh 79 = .ok (.iadd, 1) := by decide +kernel
theorem dX3_weigh_80 : decode cX3_weigh 80 = .ok (.iaload, 1) := by decide +kernel
theorem dX3_weigh_81 : decode cX3_weigh 81 = .ok (.imul, 1) := by decide +kernel
theorem dX3_weigh_82 : decode cX3_weigh 82 = .ok (.aload_n 0, 1) := by decide +kernel
theorem dX3_weigh_83 : decode cX3_weigh 83 = .ok (.getfield 18, 3) := by decide +kernel
theorem dX3_weigh_86 : decode cX3_weigh 86 = .ok (.bipush 6, 2) := by decide +kernel
theorem dX3_weigh_88 : decode cX3_weigh 88 = .ok (.iload_n 3, 1) := by decide +kernel
theorem dX3_weigh_89 : decode cX3_weigh 89 = .ok (.iconst 3, 1) := by decide +kernel
theorem dX3_weigh_90 : decode cX3_weigh 90 = .ok (.irem, 1) := by decide +kernel
theorem dX3_weigh_91 : decode cX3_weigh 91 = .ok (.iadd, 1) := by decide +kernel
theorem dX3_weigh_92 : decode cX3_weigh 92 = .ok (.iaload, 1) := by decide +kernel
theorem dX3_weigh_93 : decode cX3_weigh 93 = .ok (.imul, 1) := by decide +kernel
theorem dX3_weigh_94 : decode cX3_weigh 94 = .ok (.iastore, 1) := by decide +kernel
theorem dX3_weigh_95 : decode cX3_weigh 95 = .ok (.iinc 3 1, 3) := by decide +kernel
theorem dX3_weigh_98 : decode cX3_weigh 98 = .ok (.goto (-49), 3) := by decide +kernel
theorem dX3_weigh_101 : decode cX3_weigh 101 = .ok (.return_, 1) := by decide +kernel
set_option maxRecDepth 100000 in
set_option maxHeartbeats 4000000 in
theorem w_X3_weigh_49 (X : XE) {Q : Int → Mem → Prop} : ∀ (n : Nat) (x3 : Int) (σ : Mem), inR x3 → l_X3_weigh_49 Q n x3 σ → ok X rm_X3_weigh RX3 cX3_weigh 4 none 0 Q 49 [(0, .ref (xad X 99)), (3, vI x3)] [] σ := by
  intro n
  induction n with
  | zero => intro x3 σ hx3 h; exact False.elim h
  | succ n ih =>
    intro x3 σ hx3 h
    refine ok_iload_n 1 (pc := 49) dX3_weigh_49 rfl rfl ?_
    refine ok_bipush (pc := 50) dX3_weigh_50 rfl ?_
    refine ok_icmp_ge (tgt := 101) (pc := 52) dX3_weigh_52 rfl hx3 (r_lit rfl) (fun q1 => ?_) (fun q1 => ?_)
    · have h := iteF h q1
      exact ok_vret (pc := 101) dX3_weigh_101 rfl rfl h
    · have h := iteT h q1
      refine ok_aload_n 0 (pc := 55) dX3_weigh_55 rfl rfl ?_
      refine ok_getR (pc := 56) dX3_weigh_56 fl_X3_9 sh_99 (Nat.le_of_ble_eq_true rfl) rfl rfl ?_
      refine ok_iload_n 1 (pc := 59) dX3_weigh_59 rfl rfl ?_
      refine ok_aload_n 0 (pc := 60) dX3_weigh_60 rfl rfl ?_
      refine ok_getR (pc := 61) dX3_weigh_61 fl_X3_18 sh_99 (Nat.le_of_ble_eq_true rfl) rfl rfl ?_
      refine ok_iload_n 1 (pc := 64) dX3_weigh_64 rfl rfl ?_
      refine ok_bipush (pc := 65) dX3_weigh_65 rfl ?_
      refine ok_idiv (pc := 67) dX3_weigh_67 hx3 (r_lit rfl) (by decide) ?_
      obtain ⟨h2, h⟩ := h
      obtain ⟨h3, h⟩ := h
      refine ok_wf (fun hw4 => ?_)
      refine ok_iald (pc := 68) dX3_weigh_68 sh_102 (Nat.le_of_ble_eq_true rfl) rfl h2 h3 ?_
      refine ok_aload_n 0 (pc := 69) dX3_weigh_69 rfl rfl ?_
      refine ok_getR (pc := 70) dX3_weigh_70 fl_X3_18 sh_99 (Nat.le_of_ble_eq_true rfl) rfl rfl ?_
      refine ok_iconst (pc := 73) dX3_weigh_73 ?_
      refine ok_iload_n 1 (pc := 74) dX3_weigh_74 rfl rfl ?_
      refine ok_iconst (pc := 75) dX3_weigh_75 ?_
      refine ok_idiv (pc := 76) dX3_weigh_76 hx3 (r_lit rfl) (by decide) ?_
      refine ok_iconst (pc := 77) dX3_weigh_77 ?_
      obtain ⟨h5, h⟩ := h
      refine ok_irem (pc := 78) dX3_weigh_78 h5 (r_lit rfl) (by decide) ?_
      refine ok_iadd (pc := 79) dX3_weigh_79 ?_
      obtain ⟨h6, h⟩ := h
      obtain ⟨h7, h⟩ := h
      refine ok_iald (pc := 80) dX3_weigh_80 sh_102 (Nat.le_of_ble_eq_true rfl) rfl h6 h7 ?_
      refine ok_imul (pc := 81) dX3_weigh_81 ?_
      refine ok_aload_n 0 (pc := 82) dX3_weigh_82 rfl rfl ?_
      refine ok_getR (pc := 83) dX3_weigh_83 fl_X3_18 sh_99 (Nat.le_of_ble_eq_true rfl) rfl rfl ?_
      refine ok_bipush (pc := 86) dX3_weigh_86 rfl ?_
      refine ok_iload_n 1 (pc := 88) dX3_weigh_88 rfl rfl ?_
      refine ok_iconst (pc := 89) dX3_weigh_89 ?_
      refine ok_irem (pc := 90) dX3_weigh_90 hx3 (r_lit rfl) (by decide) ?_
      refine ok_iadd (pc := 91) dX3_weigh_91 ?_
      obtain ⟨h8, h⟩ := h
      obtain ⟨h9, h⟩ := h
      refine ok_iald (pc := 92) dX3_weigh_92 sh_102 (Nat.le_of_ble_eq_true rfl) rfl h8 h9 ?_
      refine ok_imul (pc := 93) dX3_weigh_93 ?_
      obtain ⟨h10, h⟩ := h
      obtain ⟨h11, h⟩ := h
      obtain ⟨h12, h⟩ := h
      refine ok_iast (pc := 94) dX3_weigh_94 sh_100 (Nat.le_of_ble_eq_true rfl) rfl h10 h11 h12 ?_
      refine ok_iinc (L' := [(3, vI (x3 + 1)), (0, .ref (xad X 99))]) 1 (pc := 95) dX3_weigh_95 rfl rfl rfl ?_
      refine ok_goto (tgt := 49) (pc := 98) dX3_weigh_98 rfl ?_
      obtain ⟨h13, h⟩ := h
      refine ok_sub (L' := [(0, .ref (xad X 99)), (3, vI (x3 + 1))]) [1,0] rfl ?_
      exact ih (x3 + 1) (mset σ 100 (x3.toNat) (((σ 102 (Int.tdiv x3 9).toNat) * (σ 102 (3 + (Int.tmod (Int.tdiv x3 3) 3)).toNat)) * (σ 102 (6 + (Int.tmod x3 3)).toNat))) h13 h
set_option maxRecDepth 100000 in
set_option maxHeartbeats 4000000 in
theorem w_X3_weigh_7 (X : XE) {Q : Int → Mem → Prop} : ∀ (n : Nat) (x3 : Int) (σ : Mem), inR x3 → l_X3_weigh_7 Q n x3 σ → ok X rm_X3_weigh RX3 cX3_weigh 4 none 0 Q 7 [(0, .ref (xad X 99)), (1, .ref (xad X 95)), (2, .ref (xad X 14)), (3, vI x3)] [] σ := by
  intro n
  induction n with
  | zero => intro x3 σ hx3 h; exact False.elim h
  | succ n ih =>
    intro x3 σ hx3 h
    refine ok_iload_n 3 (pc := 7) dX3_weigh_7 rfl rfl ?_
    refine ok_iconst (pc := 8) dX3_weigh_8 ?_
    refine ok_icmp_ge (tgt := 47) (pc := 9) dX3_weigh_9 rfl hx3 (r_lit rfl) (fun q1 => ?_) (fun q1 => ?_)
    · have h := iteF h q1
      refine ok_iconst (pc := 47) dX3_weigh_47 ?_
      refine ok_istore_n (L' := [(3, vI 0), (0, .ref (xad X 99)), (1, .ref (xad X 95)), (2, .ref (xad X 14))]) (pc := 48) dX3_weigh_48 rfl rfl rfl ?_
      refine ok_sub (L' := [(0, .ref (xad X 99)), (3, vI 0)]) [1,0] rfl ?_
      obtain ⟨n2, h⟩ := h
      exact w_X3_weigh_49 X n2 0 σ (r_lit rfl) h
    · have h := iteT h q1
      refine ok_aload_n 0 (pc := 12) dX3_weigh_12 rfl rfl ?_
      refine ok_dup (pc := 13) dX3_weigh_13 rfl ?_
      refine ok_wf (fun hw3 => ?_)
      refine ok_getI (pc := 14) dX3_weigh_14 fl_X3_21 sh_99 (Nat.le_of_ble_eq_true rfl) rfl rfl ?_
      refine ok_aload_n 0 (pc := 17) dX3_weigh_17 rfl rfl ?_
      refine ok_iload_n 3 (pc := 18) dX3_weigh_18 rfl rfl ?_
      refine ok_aload_n 1 (pc := 19) dX3_weigh_19 rfl rfl ?_
      refine ok_getR (pc := 20) dX3_weigh_20 fl_X3_25 sh_95 (Nat.le_of_ble_eq_true rfl) rfl rfl ?_
      refine ok_iload_n 3 (pc := 23) dX3_weigh_23 rfl rfl ?_
      obtain ⟨h4, h⟩ := h
      obtain ⟨h5, h⟩ := h
      refine ok_iald (pc := 24) dX3_weigh_24 sh_96 (Nat.le_of_ble_eq_true rfl) rfl h4 h5 ?_
      refine ok_aload_n 2 (pc := 25) dX3_weigh_25 rfl rfl ?_
      refine ok_aload_n 1 (pc := 26) dX3_weigh_26 rfl rfl ?_
      refine ok_getI (pc := 27) dX3_weigh_27 fl_X3_30 sh_95 (Nat.le_of_ble_eq_true rfl) rfl rfl ?_
      refine ok_callVi (As := [vI (σ 95 1)]) (rest := [vI (σ 96 x3.toNat), vI x3, .ref (xad X 99), vI (σ 99 1), .ref (xad X 99)]) (rm := rm_X5_spreadOf) (pc := 30) dX3_weigh_30 me_X5_spreadOf ml_X3_33 (ci := 5) rfl sh_14 (Nat.le_of_ble_eq_true rfl) rfl des_X5_spreadOf rfl ⟨rfl, rfl, rfl, rfl⟩ rfl rfl (c_X5_spreadOf X (σ 95 1) (hw3 _ _) h) (fun r7 σ8 h6 h => ?_)
      refine ok_aload_n 2 (pc := 33) dX3_weigh_33 rfl rfl ?_
      refine ok_callVi (As := [vI x3, vI (σ 96 x3.toNat), vI r7, .ref (xad X 14)]) (rest := [vI (σ 99 1), .ref (xad X 99)]) (rm := rm_X3_share) (pc := 34) dX3_weigh_34 me_X3_share ml_X3_39 (ci := 3) rfl sh_99 (Nat.le_of_ble_eq_true rfl) rfl des_X3_share rfl ⟨rfl, rfl, rfl, rfl⟩ rfl rfl (c_X3_share X x3 (σ 96 x3.toNat) r7 hx3 (hw3 _ _) h6 h) (fun r10 σ11 h9 h => ?_)
      refine ok_imul (pc := 37) dX3_weigh_37 ?_
      obtain ⟨h12, h⟩ := h
      refine ok_putI (pc := 38) dX3_weigh_38 fl_X3_21 fp_X3_1 sh_99 (Nat.le_of_ble_eq_true rfl) rfl rfl h12 rfl rfl ?_
      refine ok_iinc (L' := [(3, vI (x3 + 1)), (0, .ref (xad X 99)), (1, .ref (xad X 95)), (2, .ref (xad X 14))]) 3 (pc := 41) dX3_weigh_41 rfl rfl rfl ?_
      refine ok_goto (tgt := 7) (pc := 44) dX3_weigh_44 rfl ?_
      obtain ⟨h13, h⟩ := h
      refine ok_sub (L' := [(0, .ref (xad X 99)), (1, .ref (xad X 95)), (2, .ref (xad X 14)), (3, vI (x3 + 1))]) [1,2,3,0] rfl ?_
      exact ih (x3 + 1) (mset σ11 99 1 ((σ 99 1) * r10)) h13 h
set_option maxRecDepth 100000 in
set_option maxHeartbeats 4000000 in
theorem c_X3_weigh (X : XE) {σ : Mem} {Q : Int → Mem → Prop} (h : v_X3_weigh σ Q) : CT X yX3_weigh cX3_weigh 4 none rm_X3_weigh 0 [.ref (xad X 99), .ref (xad X 95), .ref (xad X 14)] σ Q := by
  refine ct_of (own := RX3) (L := [(0, .ref (xad X 99)), (1, .ref (xad X 95)), (2, .ref (xad X 14))]) rfl rfl (Nat.le_of_ble_eq_true rfl) rfl ?_
  refine ok_aload_n 0 (pc := 0) dX3_weigh_0 rfl rfl ?_
  refine ok_iconst (pc := 1) dX3_weigh_1 ?_
  refine ok_putI (pc := 2) dX3_weigh_2 fl_X3_21 fp_X3_1 sh_99 (Nat.le_of_ble_eq_true rfl) rfl rfl (r_lit rfl) rfl rfl ?_
  refine ok_iconst (pc := 5) dX3_weigh_5 ?_
  refine ok_istore_n (L' := [(3, vI 0), (0, .ref (xad X 99)), (1, .ref (xad X 95)), (2, .ref (xad X 14))]) (pc := 6) dX3_weigh_6 rfl rfl rfl ?_
  refine ok_sub (L' := [(0, .ref (xad X 99)), (1, .ref (xad X 95)), (2, .ref (xad X 14)), (3, vI 0)]) [1,2,3,0] rfl ?_
  obtain ⟨n1, h⟩ := h
  exact w_X3_weigh_7 X n1 0 (mset σ 99 1 1) (r_lit rfl) h
theorem dX11_lowest_0 : decode cX11_lowest 0 = .ok (.lload_n 0, 1) := by decide +kernel
theorem dX11_lowest_1 : decode cX11_lowest 1 = .ok (.lstore 5, 2) := by decide +kernel
theorem dX11_lowest_3 : decode cX11_lowest 3 = .ok (.lload_n 2, 1) := by decide +kernel
theorem dX11_lowest_4 : decode cX11_lowest 4 = .ok (.lstore 7, 2) := by decide +kernel
theorem dX11_lowest_6 : decode cX11_lowest 6 = .ok (.iconst 0, 1) := by decide +kernel
theorem dX11_lowest_7 : decode cX11_lowest 7 = .ok (.istore 9, 2) := by decide +kernel
theorem dX11_lowest_9 : decode cX11_lowest 9 = .ok (.iload 9, 2) := by decide +kernel
theorem dX11_lowest_11 : decode cX11_lowest 11 = .ok (.bipush 100, 2) := by decide +kernel
theorem dX11_lowest_13 : decode cX11_lowest 13 = .ok (.if_icmp .ge 31, 3) := by decide +kernel
theorem dX11_lowest_16 : decode cX11_lowest 16 = .ok (.lload 7, 2) := by decide +kernel
theorem dX11_lowest_18 : decode cX11_lowest 18 = .ok (.lconst 0, 1) := by decide +kernel
theorem dX11_lowest_19 : decode cX11_lowest 19 = .ok (.lcmp, 1) := by decide +kernel
theorem dX11_lowest_20 : decode cX11_lowest 20 = .ok (.ifCond .eq 24, 3) := by decide +kernel
theorem dX11_lowest_23 : decode cX11_lowest 23 = .ok (.lload 5, 2) := by decide +kernel
theorem dX11_lowest_25 : decode cX11_lowest 25 = .ok (.lload 7, 2) := by decide +kernel
theorem dX11_lowest_27 : decode cX11_lowest 27 = .ok (.lrem, 1) := by decide +kernel
theorem dX11_lowest_28 : decode cX11_lowest 28 = .ok (.lstore 10, 2) := by decide +kernel
theorem dX11_lowest_30 : decode cX11_lowest 30 = .ok (.lload 7, 2) := by decide +kernel
theorem dX11_lowest_32 : decode cX11_lowest 32 = .ok (.lstore 5, 2) := by decide +kernel
theorem dX11_lowest_34 : decode cX11_lowest 34 = .ok (.lload 10, 2) := by decide +kernel
theorem dX11_lowest_36 : decode cX11_lowest 36 = .ok (.lstore 7, 2) := by decide +kernel
theorem dX11_lowest_38 : decode cX11_lowest 38 = .ok (.iinc 9 1, 3) := by decide +kernel
theorem dX11_lowest_41 : decode cX11_lowest 41 = .ok (.goto (-32), 3) := by decide +kernel
theorem dX11_lowest_44 : decode cX11_lowest 44 = .ok (.lload 5, 2) := by decide +kernel
theorem dX11_lowest_46 : decode cX11_lowest 46 = .ok (.lconst 0, 1) := by decide +kernel
theorem dX11_lowest_47 : decode cX11_lowest 47 = .ok (.lcmp, 1) := by decide +kernel
theorem dX11_lowest_48 : decode cX11_lowest 48 = .ok (.ifCond .ne 5, 3) := by decide +kernel
theorem dX11_lowest_51 : decode cX11_lowest 51 = .ok (.lconst 0, 1) := by decide +kernel
theorem dX11_lowest_52 : decode cX11_lowest 52 = .ok (.lreturn, 1) := by decide +kernel
theorem dX11_lowest_53 : decode cX11_lowest 53 = .ok (.iload 4, 2) := by decide +kernel
theorem dX11_lowest_55 : decode cX11_lowest 55 = .ok (.ifCond .ne 7, 3) := by decide +kernel
theorem dX11_lowest_58 : decode cX11_lowest 58 = .ok (.lload_n 0, 1) := by decide +kernel
theorem dX11_lowest_59 : decode cX11_lowest 59 = .ok (.goto 4, 3) := by decide +kernel
theorem dX11_lowest_62 : decode cX11_lowest 62 = .ok (.lload_n 2, 1) := by decide +kernel
theorem dX11_lowest_63 : decode cX11_lowest 63 = .ok (.lload 5, 2) := by decide +kernel
theorem dX11_lowest_65 : decode cX11_lowest 65 = .ok (.ldiv, 1) := by decide +kernel
theorem dX11_lowest_66 : decode cX11_lowest 66 = .ok (.lreturn, 1) := by decide +kernel
set_option maxRecDepth 100000 in
set_option maxHeartbeats 4000000 in
theorem w_X11_lowest_44 (X : XE) (p0 : Int) (p2 : Int) (p4 : Int) (hp0 : inL p0) (hp2 : inL p2) (hp4 : inR p4) (x5 : Int) (hx5 : inL x5) {Q : Int → Mem → Prop} {σ : Mem} (h : j_X11_lowest_44 p0 p2 p4 Q x5 σ) : ok X rm_X11_lowest RX11 cX11_lowest 12 (some .long) 2 Q 44 [(0, vL p0), (2, vL p2), (4, vI p4), (5, vL x5)] [] σ := by
  refine ok_lload 3 (pc := 44) dX11_lowest_44 rfl ?_
  refine ok_lconst (v := 0) (pc := 46) dX11_lowest_46 rfl ?_
  refine ok_lcmp (pc := 47) dX11_lowest_47 hx5 (l_of_r (r_lit rfl)) ?_
  refine ok_if_ne (tgt := 53) (pc := 48) dX11_lowest_48 rfl r_lcmp (fun q1 => ?_) (fun q1 => ?_)
  · have h := iteF h q1
    refine ok_iload 2 (pc := 53) dX11_lowest_53 rfl ?_
    refine ok_if_ne (tgt := 62) (pc := 55) dX11_lowest_55 rfl hp4 (fun q2 => ?_) (fun q2 => ?_)
    · have h := iteF h q2
      refine ok_lload_n 1 (pc := 62) dX11_lowest_62 rfl rfl ?_
      refine ok_lload 3 (pc := 63) dX11_lowest_63 rfl ?_
      obtain ⟨h3, h⟩ := h
      refine ok_ldiv (pc := 65) dX11_lowest_65 hp2 hx5 h3 ?_
      obtain ⟨h4, h⟩ := h
      exact ok_lret (pc := 66) dX11_lowest_66 rfl rfl h4 h
    · have h := iteT h q2
      refine ok_lload_n 0 (pc := 58) dX11_lowest_58 rfl rfl ?_
      refine ok_goto (tgt := 63) (pc := 59) dX11_lowest_59 rfl ?_
      refine ok_lload 3 (pc := 63) dX11_lowest_63 rfl ?_
      obtain ⟨h5, h⟩ := h
      refine ok_ldiv (pc := 65) dX11_lowest_65 hp0 hx5 h5 ?_
      obtain ⟨h6, h⟩ := h
      exact ok_lret (pc := 66) dX11_lowest_66 rfl rfl h6 h
  · have h := iteT h q1
    refine ok_lconst (v := 0) (pc := 51) dX11_lowest_51 rfl ?_
    exact ok_lret (pc := 52) dX11_lowest_52 rfl rfl (l_of_r (r_lit rfl)) h
set_option maxRecDepth 100000 in
set_option maxHeartbeats 4000000 in
theorem w_X11_lowest_9 (X : XE) (p0 : Int) (p2 : Int) (p4 : Int) (hp0 : inL p0) (hp2 : inL p2) (hp4 : inR p4) {Q : Int → Mem → Prop} : ∀ (n : Nat) (x5 : Int) (x7 : Int) (x9 : Int) (σ : Mem), inL x5 → inL x7 → inR x9 → l_X11_lowest_9 p0 p2 p4 Q n x5 x7 x9 σ → ok X rm_X11_lowest RX11 cX11_lowest 12 (some .long) 2 Q 9 [(0, vL p0), (2, vL p2), (4, vI p4), (5, vL x5), (7, vL x7), (9, vI x9)] [] σ := by
  intro n
  induction n with
  | zero => intro x5 x7 x9 σ hx5 hx7 hx9 h; exact False.elim h
  | succ n ih =>
    intro x5 x7 x9 σ hx5 hx7 hx9 h
    refine ok_iload 5 (pc := 9) dX11_lowest_9 rfl ?_
    refine ok_bipush (pc := 11) dX11_lowest_11 rfl ?_
    refine ok_icmp_ge (tgt := 44) (pc := 13) dX11_lowest_13 rfl hx9 (r_lit rfl) (fun q1 => ?_) (fun q1 => ?_)
    · have h := iteF h q1
      refine ok_sub (L' := [(0, vL p0), (2, vL p2), (4, vI p4), (5, vL x5)]) [0,1,2,3] rfl ?_
      exact w_X11_lowest_44 X p0 p2 p4 hp0 hp2 hp4 x5 hx5 h
    · have h := iteT h q1
      refine ok_lload 4 (pc := 16) dX11_lowest_16 rfl ?_
      refine ok_lconst (v := 0) (pc := 18) dX11_lowest_18 rfl ?_
      refine ok_lcmp (pc := 19) dX11_lowest_19 hx7 (l_of_r (r_lit rfl)) ?_
      refine ok_if_eq (tgt := 44) (pc := 20) dX11_lowest_20 rfl r_lcmp (fun q2 => ?_) (fun q2 => ?_)
      · have h := iteT h q2
        refine ok_sub (L' := [(0, vL p0), (2, vL p2), (4, vI p4), (5, vL x5)]) [0,1,2,3] rfl ?_
        exact w_X11_lowest_44 X p0 p2 p4 hp0 hp2 hp4 x5 hx5 h
      · have h := iteF h q2
        refine ok_lload 3 (pc := 23) dX11_lowest_23 rfl ?_
        refine ok_lload 4 (pc := 25) dX11_lowest_25 rfl ?_
        obtain ⟨h3, h⟩ := h
        refine ok_lrem (pc := 27) dX11_lowest_27 hx5 hx7 h3 ?_
        refine ok_lstore (L' := [(10, vL (Int.tmod x5 x7)), (0, vL p0), (2, vL p2), (4, vI p4), (5, vL x5), (7, vL x7), (9, vI x9)]) (pc := 28) dX11_lowest_28 rfl rfl ?_
        refine ok_lload 5 (pc := 30) dX11_lowest_30 rfl ?_
        refine ok_lstore (L' := [(5, vL x7), (10, vL (Int.tmod x5 x7)), (0, vL p0), (2, vL p2), (4, vI p4), (7, vL x7), (9, vI x9)]) (pc := 32) dX11_lowest_32 rfl rfl ?_
        refine ok_lload 1 (pc := 34) dX11_lowest_34 rfl ?_
        refine ok_lstore (L' := [(7, vL (Int.tmod x5 x7)), (5, vL x7), (10, vL (Int.tmod x5 x7)), (0, vL p0), (2, vL p2), (4, vI p4), (9, vI x9)]) (pc := 36) dX11_lowest_36 rfl rfl ?_
        refine ok_iinc (L' := [(9, vI (x9 + 1)), (7, vL (Int.tmod x5 x7)), (5, vL x7), (10, vL (Int.tmod x5 x7)), (0, vL p0), (2, vL p2), (4, vI p4)]) 6 (pc := 38) dX11_lowest_38 rfl rfl rfl ?_
        refine ok_goto (tgt := 9) (pc := 41) dX11_lowest_41 rfl ?_
        obtain ⟨h4, h⟩ := h
        obtain ⟨h5, h⟩ := h
        refine ok_sub (L' := [(0, vL p0), (2, vL p2), (4, vI p4), (5, vL x7), (7, vL (Int.tmod x5 x7)), (9, vI (x9 + 1))]) [4,5,6,2,1,0] rfl ?_
        exact ih x7 (Int.tmod x5 x7) (x9 + 1) σ hx7 h4 h5 h
set_option maxRecDepth 100000 in
set_option maxHeartbeats 4000000 in
theorem c_X11_lowest (X : XE) (p0 : Int) (p2 : Int) (p4 : Int) (hp0 : inL p0) (hp2 : inL p2) (hp4 : inR p4) {σ : Mem} {Q : Int → Mem → Prop} (h : v_X11_lowest p0 p2 p4 σ Q) : CT X yX11_lowest cX11_lowest 12 (some .long) rm_X11_lowest 2 [vL p0, vL p2, vI p4] σ Q := by
  refine ct_of (own := RX11) (L := [(0, vL p0), (2, vL p2), (4, vI p4)]) rfl rfl (Nat.le_of_ble_eq_true rfl) rfl ?_
  refine ok_lload_n 0 (pc := 0) dX11_lowest_0 rfl rfl ?_
  refine ok_lstore (L' := [(5, vL p0), (0, vL p0), (2, vL p2), (4, vI p4)]) (pc := 1) dX11_lowest_1 rfl rfl ?_
  refine ok_lload_n 2 (pc := 3) dX11_lowest_3 rfl rfl ?_
  refine ok_lstore (L' := [(7, vL p2), (5, vL p0), (0, vL p0), (2, vL p2), (4, vI p4)]) (pc := 4) dX11_lowest_4 rfl rfl ?_
  refine ok_iconst (pc := 6) dX11_lowest_6 ?_
  refine ok_istore (L' := [(9, vI 0), (7, vL p2), (5, vL p0), (0, vL p0), (2, vL p2), (4, vI p4)]) (pc := 7) dX11_lowest_7 rfl rfl ?_
  refine ok_sub (L' := [(0, vL p0), (2, vL p2), (4, vI p4), (5, vL p0), (7, vL p2), (9, vI 0)]) [3,4,5,2,1,0] rfl ?_
  obtain ⟨n1, h⟩ := h
  exact w_X11_lowest_9 X p0 p2 p4 hp0 hp2 hp4 n1 p0 p2 0 σ hp0 hp2 (r_lit rfl) h
theorem dX11_chance_0 : decode cX11_chance 0 = .ok (.iload_n 1, 1) := by decide +kernel
theorem dX11_chance_1 : decode cX11_chance 1 = .ok (.ifCond .lt 18, 3) := by decide +kernel
theorem dX11_chance_4 : decode cX11_chance 4 = .ok (.iload_n 1, 1) := by decide +kernel
theorem dX11_chance_5 : decode cX11_chance 5 = .ok (.bipush 27, 2) := by decide +kernel
theorem dX11_chance_7 : decode cX11_chance 7 = .ok (.if_icmp .ge 12, 3) := by decide +kernel
theorem dX11_chance_10 : decode cX11_chance 10 = .ok (.iload_n 2, 1) := by decide +kernel
theorem dX11_chance_11 : decode cX11_chance 11 = .ok (.ifCond .lt 8, 3) := by decide +kernel
theorem dX11_chance_14 : decode cX11_chance 14 = .ok (.iload_n 2, 1) := by decide +kernel
theorem dX11_chance_15 : decode cX11_chance 15 = .ok (.iconst 1, 1) := by decide +kernel
theorem dX11_chance_16 : decode cX11_chance 16 = .ok (.if_icmp .le 7, 3) := by decide +kernel
theorem dX11_chance_19 : decode cX11_chance 19 = .ok (.ldc2_w 231, 3) := by decide +kernel
theorem dX11_chance_22 : decode cX11_chance 22 = .ok (.lreturn, 1) := by decide +kernel
theorem dX11_chance_23 : decode cX11_chance 23 = .ok (.aload_n 0, 1) := by decide +kernel
theorem dX11_chance_24 : decode cX11_chance 24 = .ok (.getfield 53, 3) := by decide +kernel
theorem dX11_chance_27 : decode cX11_chance 27 = .ok (.getfield 225, 3) := by decide +kernel
theorem dX11_chance_30 : decode cX11_chance 30 = .ok (.ifCond .ne 7, 3) := by decide +kernel
theorem dX11_chance_33 : decode cX11_chance 33 = .ok (.ldc2_w 233, 3) := by decide +kernel
theorem dX11_chance_36 : decode cX11_chance 36 = .ok (.lreturn, 1) := by decide +kernel
theorem dX11_chance_37 : decode cX11_chance 37 = .ok (.aload_n 0, 1) := by decide +kernel
theorem dX11_chance_38 : decode cX11_chance 38 = .ok (.getfield 60, 3) := by decide +kernel
theorem dX11_chance_41 : decode cX11_chance 41 = .ok (.aload_n 0, 1) := by decide +kernel
theorem dX11_chance_42 : decode cX11_chance 42 = .ok (.getfield 53, 3) := by decide +kernel
theorem dX11_chance_45 : decode cX11_chance 45 = .ok (.aload_n 0, 1) := by decide +kernel
theorem dX11_chance_46 : decode cX11_chance 46 = .ok (.getfield 37, 3) := by decide +kernel
theorem dX11_chance_49 : decode cX11_chance 49 = .ok (.invokevirtual 235, 3) := by decide +kernel
theorem dX11_chance_52 : decode cX11_chance 52 = .ok (.aload_n 0, 1) := by decide +kernel
theorem dX11_chance_53 : decode cX11_chance 53 = .ok (.getfield 60, 3) := by decide +kernel
theorem dX11_chance_56 : decode cX11_chance 56 = .ok (.getfield 239, 3) := by decide +kernel
theorem dX11_chance_59 : decode cX11_chance 59 = .ok (.iload_n 1, 1) := by decide +kernel
theorem dX11_chance_60 : decode cX11_chance 60 = .ok (.iaload, 1) := by decide +kernel
theorem dX11_chance_61 : decode cX11_chance 61 = .ok (.i2l, 1) := by decide +kernel
theorem dX11_chance_62 : decode cX11_chance 62 = .ok (.aload_n 0, 1) := by decide +kernel
theorem dX11_chance_63 : decode cX11_chance 63 = .ok (.getfield 60, 3) := by decide +kernel
theorem dX11_chance_66 : decode cX11_chance 66 = .ok (.getfield 242, 3) := by decide +kernel
theorem dX11_chance_69 : decode cX11_chance 69 = .ok (.i2l, 1) := by decide +kernel
theorem dX11_chance_70 : decode cX11_chance 70 = .ok (.iload_n 2, 1) := by decide +kernel
theorem dX11_chance_71 : decode cX11_chance 71 = .ok (.invokestatic 245, 3) := by decide +kernel
theorem dX11_chance_74 : decode cX11_chance 74 = .ok (.lreturn, 1) := by decide +kernel
set_option maxRecDepth 100000 in
set_option maxHeartbeats 4000000 in
theorem c_X11_chance (X : XE) (p1 : Int) (p2 : Int) (hp1 : inR p1) (hp2 : inR p2) {σ : Mem} {Q : Int → Mem → Prop} (h : v_X11_chance p1 p2 σ Q) : CT X yX11_chance cX11_chance 3 (some .long) rm_X11_chance 2 [.ref (xad X 0), vI p1, vI p2] σ Q := by
  refine ct_of (own := RX11) (L := [(0, .ref (xad X 0)), (1, vI p1), (2, vI p2)]) rfl rfl (Nat.le_of_ble_eq_true rfl) rfl ?_
  refine ok_iload_n 1 (pc := 0) dX11_chance_0 rfl rfl ?_
  refine ok_if_lt (tgt := 19) (pc := 1) dX11_chance_1 rfl hp1 (fun q1 => ?_) (fun q1 => ?_)
  · have h := iteT h q1
    refine ok_ldc2 (pc := 19) dX11_chance_19 cn_X11_231 ?_
    exact ok_lret (pc := 22) dX11_chance_22 rfl rfl (l_of_r (r_lit rfl)) h
  · have h := iteF h q1
    refine ok_iload_n 1 (pc := 4) dX11_chance_4 rfl rfl ?_
    refine ok_bipush (pc := 5) dX11_chance_5 rfl ?_
    refine ok_icmp_ge (tgt := 19) (pc := 7) dX11_chance_7 rfl hp1 (r_lit rfl) (fun q2 => ?_) (fun q2 => ?_)
    · have h := iteF h q2
      refine ok_ldc2 (pc := 19) dX11_chance_19 cn_X11_231 ?_
      exact ok_lret (pc := 22) dX11_chance_22 rfl rfl (l_of_r (r_lit rfl)) h
    · have h := iteT h q2
      refine ok_iload_n 2 (pc := 10) dX11_chance_10 rfl rfl ?_
      refine ok_if_lt (tgt := 19) (pc := 11) dX11_chance_11 rfl hp2 (fun q3 => ?_) (fun q3 => ?_)
      · have h := iteT h q3
        refine ok_ldc2 (pc := 19) dX11_chance_19 cn_X11_231 ?_
        exact ok_lret (pc := 22) dX11_chance_22 rfl rfl (l_of_r (r_lit rfl)) h
      · have h := iteF h q3
        refine ok_iload_n 2 (pc := 14) dX11_chance_14 rfl rfl ?_
        refine ok_iconst (pc := 15) dX11_chance_15 ?_
        refine ok_icmp_le (tgt := 23) (pc := 16) dX11_chance_16 rfl hp2 (r_lit rfl) (fun q4 => ?_) (fun q4 => ?_)
        · have h := iteF h q4
          refine ok_aload_n 0 (pc := 23) dX11_chance_23 rfl rfl ?_
          refine ok_getR (pc := 24) dX11_chance_24 fl_X11_53 sh_0 (Nat.le_of_ble_eq_true rfl) rfl rfl ?_
          refine ok_wf (fun hw5 => ?_)
          refine ok_getI (pc := 27) dX11_chance_27 fl_X11_225 sh_95 (Nat.le_of_ble_eq_true rfl) rfl rfl ?_
          refine ok_if_ne (tgt := 37) (pc := 30) dX11_chance_30 rfl (hw5 _ _) (fun q6 => ?_) (fun q6 => ?_)
          · have h := iteF h q6
            refine ok_aload_n 0 (pc := 37) dX11_chance_37 rfl rfl ?_
            refine ok_getR (pc := 38) dX11_chance_38 fl_X11_60 sh_0 (Nat.le_of_ble_eq_true rfl) rfl rfl ?_
            refine ok_aload_n 0 (pc := 41) dX11_chance_41 rfl rfl ?_
            refine ok_getR (pc := 42) dX11_chance_42 fl_X11_53 sh_0 (Nat.le_of_ble_eq_true rfl) rfl rfl ?_
            refine ok_aload_n 0 (pc := 45) dX11_chance_45 rfl rfl ?_
            refine ok_getR (pc := 46) dX11_chance_46 fl_X11_37 sh_0 (Nat.le_of_ble_eq_true rfl) rfl rfl ?_
            refine ok_callVv (As := [.ref (xad X 95), .ref (xad X 14)]) (rest := []) (rm := rm_X3_weigh) (pc := 49) dX11_chance_49 me_X3_weigh ml_X11_235 (ci := 3) rfl sh_99 (Nat.le_of_ble_eq_true rfl) rfl des_X3_weigh rfl ⟨rfl, rfl, rfl, rfl⟩ rfl rfl (c_X3_weigh X h) (fun σ9 h => ?_)
            refine ok_aload_n 0 (pc := 52) dX11_chance_52 rfl rfl ?_
            refine ok_getR (pc := 53) dX11_chance_53 fl_X11_60 sh_0 (Nat.le_of_ble_eq_true rfl) rfl rfl ?_
            refine ok_getR (pc := 56) dX11_chance_56 fl_X11_239 sh_99 (Nat.le_of_ble_eq_true rfl) rfl rfl ?_
            refine ok_iload_n 1 (pc := 59) dX11_chance_59 rfl rfl ?_
            obtain ⟨h10, h⟩ := h
            obtain ⟨h11, h⟩ := h
            refine ok_wf (fun hw12 => ?_)
            refine ok_iald (pc := 60) dX11_chance_60 sh_100 (Nat.le_of_ble_eq_true rfl) rfl h10 h11 ?_
            refine ok_i2l (pc := 61) dX11_chance_61 (hw12 _ _) ?_
            refine ok_aload_n 0 (pc := 62) dX11_chance_62 rfl rfl ?_
            refine ok_getR (pc := 63) dX11_chance_63 fl_X11_60 sh_0 (Nat.le_of_ble_eq_true rfl) rfl rfl ?_
            refine ok_getI (pc := 66) dX11_chance_66 fl_X11_242 sh_99 (Nat.le_of_ble_eq_true rfl) rfl rfl ?_
            refine ok_i2l (pc := 69) dX11_chance_69 (hw12 _ _) ?_
            refine ok_iload_n 2 (pc := 70) dX11_chance_70 rfl rfl ?_
            refine ok_callSl (As := [vL (σ9 100 p1.toNat), vL (σ9 99 1), vI p2]) (rest := []) (rm := rm_X11_lowest) (pc := 71) dX11_chance_71 me_X11_lowest ml_X11_245 des_X11_lowest rfl ⟨rfl, rfl, rfl, rfl⟩ rfl rfl (c_X11_lowest X (σ9 100 p1.toNat) (σ9 99 1) p2 (l_of_r (hw12 _ _)) (l_of_r (hw12 _ _)) hp2 h) (fun r14 σ15 h13 h => ?_)
            exact ok_lret (pc := 74) dX11_chance_74 rfl rfl h13 h
          · have h := iteT h q6
            refine ok_ldc2 (pc := 33) dX11_chance_33 cn_X11_233 ?_
            exact ok_lret (pc := 36) dX11_chance_36 rfl rfl (l_of_r (r_lit rfl)) h
        · have h := iteT h q4
          refine ok_ldc2 (pc := 19) dX11_chance_19 cn_X11_231 ?_
          exact ok_lret (pc := 22) dX11_chance_22 rfl rfl (l_of_r (r_lit rfl)) h
theorem dX11_isShare_0 : decode cX11_isShare 0 = .ok (.iload_n 0, 1) := by decide +kernel
theorem dX11_isShare_1 : decode cX11_isShare 1 = .ok (.ifCond .lt 14, 3) := by decide +kernel
theorem dX11_isShare_4 : decode cX11_isShare 4 = .ok (.iload_n 0, 1) := by decide +kernel
theorem dX11_isShare_5 : decode cX11_isShare 5 = .ok (.sipush 999, 3) := by decide +kernel
theorem dX11_isShare_8 : decode cX11_isShare 8 = .ok (.if_icmp .gt 7, 3) := by decide +kernel
theorem dX11_isShare_11 : decode cX11_isShare 11 = .ok (.iconst 1, 1) := by decide +kernel
theorem dX11_isShare_12 : decode cX11_isShare 12 = .ok (.goto 4, 3) := by decide +kernel
theorem dX11_isShare_15 : decode cX11_isShare 15 = .ok (.iconst 0, 1) := by decide +kernel
theorem dX11_isShare_16 : decode cX11_isShare 16 = .ok (.ireturn, 1) := by decide +kernel
set_option maxRecDepth 100000 in
set_option maxHeartbeats 4000000 in
theorem c_X11_isShare (X : XE) (p0 : Int) (hp0 : inR p0) {σ : Mem} {Q : Int → Mem → Prop} (h : v_X11_isShare p0 σ Q) : CT X yX11_isShare cX11_isShare 1 (some .boolean) rm_X11_isShare 1 [vI p0] σ Q := by
  refine ct_of (own := RX11) (L := [(0, vI p0)]) rfl rfl (Nat.le_of_ble_eq_true rfl) rfl ?_
  refine ok_iload_n 0 (pc := 0) dX11_isShare_0 rfl rfl ?_
  refine ok_if_lt (tgt := 15) (pc := 1) dX11_isShare_1 rfl hp0 (fun q1 => ?_) (fun q1 => ?_)
  · have h := iteT h q1
    refine ok_iconst (pc := 15) dX11_isShare_15 ?_
    exact ok_iret (pc := 16) dX11_isShare_16 rfl rfl (nr_z (Or.inl rfl)) (r_lit rfl) h
  · have h := iteF h q1
    refine ok_iload_n 0 (pc := 4) dX11_isShare_4 rfl rfl ?_
    refine ok_sipush (pc := 5) dX11_isShare_5 rfl ?_
    refine ok_icmp_gt (tgt := 15) (pc := 8) dX11_isShare_8 rfl hp0 (r_lit rfl) (fun q2 => ?_) (fun q2 => ?_)
    · have h := iteT h q2
      refine ok_iconst (pc := 15) dX11_isShare_15 ?_
      exact ok_iret (pc := 16) dX11_isShare_16 rfl rfl (nr_z (Or.inl rfl)) (r_lit rfl) h
    · have h := iteF h q2
      refine ok_iconst (pc := 11) dX11_isShare_11 ?_
      refine ok_goto (tgt := 16) (pc := 12) dX11_isShare_12 rfl ?_
      exact ok_iret (pc := 16) dX11_isShare_16 rfl rfl (nr_z (Or.inr rfl)) (r_lit rfl) h
theorem dX3_heaviest_0 : decode cX3_heaviest 0 = .ok (.iconst (-1), 1) := by decide +kernel
theorem dX3_heaviest_1 : decode cX3_heaviest 1 = .ok (.istore_n 1, 1) := by decide +kernel
theorem dX3_heaviest_2 : decode cX3_heaviest 2 = .ok (.iconst 0, 1) := by decide +kernel
theorem dX3_heaviest_3 : decode cX3_heaviest 3 = .ok (.istore_n 2, 1) := by decide +kernel
theorem dX3_heaviest_4 : decode cX3_heaviest 4 = .ok (.iload_n 2, 1) := by decide +kernel
theorem dX3_heaviest_5 : decode cX3_heaviest 5 = .ok (.bipush 27, 2) := by decide +kernel
theorem dX3_heaviest_7 : decode cX3_heaviest 7 = .ok (.if_icmp .ge 51, 3) := by decide +kernel
theorem dX3_heaviest_10 : decode cX3_heaviest 10 = .ok (.aload_n 0, 1) := by decide +kernel
theorem dX3_heaviest_11 : decode cX3_heaviest 11 = .ok (.getfield 59, 3) := by decide +kernel
theorem dX3_heaviest_14 : decode cX3_heaviest 14 = .ok (.iload_n 2, 1) := by decide +kernel
theorem dX3_heaviest_15 : decode cX3_heaviest 15 = .ok (.ishr, 1) := by decide +kernel
theorem dX3_heaviest_16 : decode cX3_heaviest 16 = .ok (.iconst 1, 1) := by decide +kernel
theorem dX3_heaviest_17 : decode cX3_heaviest 17 = .ok (.iand, 1) := by decide +kernel
theorem dX3_heaviest_18 : decode cX3_heaviest 18 = .ok (.ifCond .ne 7, 3) := by decide +kernel
theorem dX3_heaviest_21 : decode cX3_heaviest 21 = .ok (.iconst 1, 1) := by decide +kernel
theorem dX3_heaviest_22 : decode cX3_heaviest 22 = .ok (.goto 4, 3) := by decide +kernel
theorem dX3_heaviest_25 : decode cX3_heaviest 25 = .ok (.iconst 0, 1) := by decide +kernel
theorem dX3_heaviest_26 : decode cX3_heaviest 26 = .ok (.istore_n 3, 1) := by decide +kernel
theorem dX3_heaviest_27 : decode cX3_heaviest 27 = .ok (.iload_n 3, 1) := by decide +kernel
theorem dX3_heaviest_28 : decode cX3_heaviest 28 = .ok (.ifCond .eq 24, 3) := by decide +kernel
theorem dX3_heaviest_31 : decode cX3_heaviest 31 = .ok (.iload_n 1, 1) := by decide +kernel
theorem dX3_heaviest_32 : decode cX3_heaviest 32 = .ok (.ifCond .lt 18, 3) := by decide +kernel
theorem dX3_heaviest_35 : decode cX3_heaviest 35 = .ok (.aload_n 0, 1) := by decide +kernel
theorem dX3_heaviest_36 : decode cX3_heaviest 36 = .ok (.getfield 9, 3) := by decide +kernel
theorem dX3_heaviest_39 : decode cX3_heaviest 39 = .ok (.iload_n 2, 1) := by decide +kernel
theorem dX3_heaviest_40 : decode cX3_heaviest 40 = .ok (.iaload, 1) := by decide +kernel
theorem dX3_heaviest_41 : decode cX3_heaviest 41 = .ok (.aload_n 0, 1) := by decide +kernel
theorem dX3_heaviest_42 : decode cX3_heaviest 42 = .ok (.getfield 9, 3) := by decide +kernel
theorem dX3_heaviest_45 : decode cX3_heaviest 45 = .ok (.iload_n 1, 1) := by decide +kernel
theorem dX3_heaviest_46 : decode cX3_heaviest 46 = .ok (.iaload, 1) := by decide +kernel
theorem dX3_heaviest_47 : decode cX3_heaviest 47 = .ok (.if_icmp .le 5, 3) := by decide +kernel
theorem dX3_heaviest_50 : decode cX3_heaviest 50 = .ok (.iload_n 2, 1) := by decide +kernel
theorem dX3_heaviest_51 : decode cX3_heaviest 51 = .ok (.istore_n 1, 1) := by decide +kernel
theorem dX3_heaviest_52 : decode cX3_heaviest 52 = .ok (.iinc 2 1, 3) := by decide +kernel
theorem dX3_heaviest_55 : decode cX3_heaviest 55 = .ok (.goto (-51), 3) := by decide +kernel
theorem dX3_heaviest_58 : decode cX3_heaviest 58 = .ok (.iload_n 1, 1) := by decide +kernel
theorem dX3_heaviest_59 : decode cX3_heaviest 59 = .ok (.iconst 0, 1) := by decide +kernel
theorem dX3_heaviest_60 : decode cX3_heaviest 60 = .ok (.invokestatic 47, 3) := by decide +kernel
theorem dX3_heaviest_63 : decode cX3_heaviest 63 = .ok (.ireturn, 1) := by decide +kernel
set_option maxRecDepth 100000 in
set_option maxHeartbeats 4000000 in
theorem w_X3_heaviest_26 (X : XE) (x1 : Int) (x2 : Int) (s0 : Int) (hx1 : inR x1) (hx2 : inR x2) (hs0 : inR s0) {K4 : Int → Int → Mem → Prop} {Q : Int → Mem → Prop} (hK4 : ∀ (x1 : Int) (x2 : Int) (σ : Mem), inR x1 → inR x2 → K4 x1 x2 σ → ok X rm_X3_heaviest RX3 cX3_heaviest 4 (some .int) 1 Q 4 [(0, .ref (xad X 99)), (1, vI x1), (2, vI x2)] [] σ) {σ : Mem} (h : j_X3_heaviest_26 K4 Q x1 x2 s0 σ) : ok X rm_X3_heaviest RX3 cX3_heaviest 4 (some .int) 1 Q 26 [(0, .ref (xad X 99)), (1, vI x1), (2, vI x2)] [vI s0] σ := by
  refine ok_istore_n (L' := [(3, vI s0), (0, .ref (xad X 99)), (1, vI x1), (2, vI x2)]) (pc := 26) dX3_heaviest_26 rfl rfl rfl ?_
  refine ok_iload_n 0 (pc := 27) dX3_heaviest_27 rfl rfl ?_
  refine ok_if_eq (tgt := 52) (pc := 28) dX3_heaviest_28 rfl hs0 (fun q1 => ?_) (fun q1 => ?_)
  · have h := iteT h q1
    refine ok_iinc (L' := [(2, vI (x2 + 1)), (3, vI s0), (0, .ref (xad X 99)), (1, vI x1)]) 3 (pc := 52) dX3_heaviest_52 rfl rfl rfl ?_
    refine ok_goto (tgt := 4) (pc := 55) dX3_heaviest_55 rfl ?_
    obtain ⟨h2, h⟩ := h
    refine ok_sub (L' := [(0, .ref (xad X 99)), (1, vI x1), (2, vI (x2 + 1))]) [2,3,0] rfl ?_
    exact hK4 x1 (x2 + 1) σ hx1 h2 h
  · have h := iteF h q1
    refine ok_iload_n 2 (pc := 31) dX3_heaviest_31 rfl rfl ?_
    refine ok_if_lt (tgt := 50) (pc := 32) dX3_heaviest_32 rfl hx1 (fun q3 => ?_) (fun q3 => ?_)
    · have h := iteT h q3
      refine ok_iload_n 3 (pc := 50) dX3_heaviest_50 rfl rfl ?_
      refine ok_istore_n (L' := [(1, vI x2), (3, vI s0), (0, .ref (xad X 99)), (2, vI x2)]) (pc := 51) dX3_heaviest_51 rfl rfl rfl ?_
      refine ok_iinc (L' := [(2, vI (x2 + 1)), (1, vI x2), (3, vI s0), (0, .ref (xad X 99))]) 3 (pc := 52) dX3_heaviest_52 rfl rfl rfl ?_
      refine ok_goto (tgt := 4) (pc := 55) dX3_heaviest_55 rfl ?_
      obtain ⟨h4, h⟩ := h
      refine ok_sub (L' := [(0, .ref (xad X 99)), (1, vI x2), (2, vI (x2 + 1))]) [3,1,0] rfl ?_
      exact hK4 x2 (x2 + 1) σ hx2 h4 h
    · have h := iteF h q3
      refine ok_aload_n 1 (pc := 35) dX3_heaviest_35 rfl rfl ?_
      refine ok_getR (pc := 36) dX3_heaviest_36 fl_X3_9 sh_99 (Nat.le_of_ble_eq_true rfl) rfl rfl ?_
      refine ok_iload_n 3 (pc := 39) dX3_heaviest_39 rfl rfl ?_
      obtain ⟨h5, h⟩ := h
      obtain ⟨h6, h⟩ := h
      refine ok_wf (fun hw7 => ?_)
      refine ok_iald (pc := 40) dX3_heaviest_40 sh_100 (Nat.le_of_ble_eq_true rfl) rfl h5 h6 ?_
      refine ok_aload_n 1 (pc := 41) dX3_heaviest_41 rfl rfl ?_
      refine ok_getR (pc := 42) dX3_heaviest_42 fl_X3_9 sh_99 (Nat.le_of_ble_eq_true rfl) rfl rfl ?_
      refine ok_iload_n 2 (pc := 45) dX3_heaviest_45 rfl rfl ?_
      obtain ⟨h8, h⟩ := h
      obtain ⟨h9, h⟩ := h
      refine ok_iald (pc := 46) dX3_heaviest_46 sh_100 (Nat.le_of_ble_eq_true rfl) rfl h8 h9 ?_
      refine ok_icmp_le (tgt := 52) (pc := 47) dX3_heaviest_47 rfl (hw7 _ _) (hw7 _ _) (fun q10 => ?_) (fun q10 => ?_)
      · have h := iteF h q10
        refine ok_iinc (L' := [(2, vI (x2 + 1)), (3, vI s0), (0, .ref (xad X 99)), (1, vI x1)]) 3 (pc := 52) dX3_heaviest_52 rfl rfl rfl ?_
        refine ok_goto (tgt := 4) (pc := 55) dX3_heaviest_55 rfl ?_
        obtain ⟨h11, h⟩ := h
        refine ok_sub (L' := [(0, .ref (xad X 99)), (1, vI x1), (2, vI (x2 + 1))]) [2,3,0] rfl ?_
        exact hK4 x1 (x2 + 1) σ hx1 h11 h
      · have h := iteT h q10
        refine ok_iload_n 3 (pc := 50) dX3_heaviest_50 rfl rfl ?_
        refine ok_istore_n (L' := [(1, vI x2), (3, vI s0), (0, .ref (xad X 99)), (2, vI x2)]) (pc := 51) dX3_heaviest_51 rfl rfl rfl ?_
        refine ok_iinc (L' := [(2, vI (x2 + 1)), (1, vI x2), (3, vI s0), (0, .ref (xad X 99))]) 3 (pc := 52) dX3_heaviest_52 rfl rfl rfl ?_
        refine ok_goto (tgt := 4) (pc := 55) dX3_heaviest_55 rfl ?_
        obtain ⟨h12, h⟩ := h
        refine ok_sub (L' := [(0, .ref (xad X 99)), (1, vI x2), (2, vI (x2 + 1))]) [3,1,0] rfl ?_
        exact hK4 x2 (x2 + 1) σ hx2 h12 h
set_option maxRecDepth 100000 in
set_option maxHeartbeats 4000000 in
theorem w_X3_heaviest_4 (X : XE) {Q : Int → Mem → Prop} : ∀ (n : Nat) (x1 : Int) (x2 : Int) (σ : Mem), inR x1 → inR x2 → l_X3_heaviest_4 Q n x1 x2 σ → ok X rm_X3_heaviest RX3 cX3_heaviest 4 (some .int) 1 Q 4 [(0, .ref (xad X 99)), (1, vI x1), (2, vI x2)] [] σ := by
  intro n
  induction n with
  | zero => intro x1 x2 σ hx1 hx2 h; exact False.elim h
  | succ n ih =>
    intro x1 x2 σ hx1 hx2 h
    refine ok_iload_n 2 (pc := 4) dX3_heaviest_4 rfl rfl ?_
    refine ok_bipush (pc := 5) dX3_heaviest_5 rfl ?_
    refine ok_icmp_ge (tgt := 58) (pc := 7) dX3_heaviest_7 rfl hx2 (r_lit rfl) (fun q1 => ?_) (fun q1 => ?_)
    · have h := iteF h q1
      refine ok_iload_n 1 (pc := 58) dX3_heaviest_58 rfl rfl ?_
      refine ok_iconst (pc := 59) dX3_heaviest_59 ?_
      refine ok_max (pc := 60) dX3_heaviest_60 ml_X3_47 ⟨rfl, rfl⟩ hx1 (r_lit rfl) ?_
      exact ok_iret (pc := 63) dX3_heaviest_63 rfl rfl rfl (r_max hx1 (r_lit rfl)) h
    · have h := iteT h q1
      refine ok_aload_n 0 (pc := 10) dX3_heaviest_10 rfl rfl ?_
      refine ok_wf (fun hw2 => ?_)
      refine ok_getI (pc := 11) dX3_heaviest_11 fl_X3_59 sh_99 (Nat.le_of_ble_eq_true rfl) rfl rfl ?_
      refine ok_iload_n 2 (pc := 14) dX3_heaviest_14 rfl rfl ?_
      refine ok_ishr (pc := 15) dX3_heaviest_15 ?_
      refine ok_iconst (pc := 16) dX3_heaviest_16 ?_
      refine ok_iand (pc := 17) dX3_heaviest_17 ?_
      refine ok_if_ne (tgt := 25) (pc := 18) dX3_heaviest_18 rfl (q_rng _) (fun q3 => ?_) (fun q3 => ?_)
      · simp only [if_neg q3] at h
        refine ok_iconst (pc := 25) dX3_heaviest_25 ?_
        exact w_X3_heaviest_26 X x1 x2 0 hx1 hx2 (r_lit rfl) (fun x1_ x2_ σ_ hx1_ hx2_ h_ => ih x1_ x2_ σ_ hx1_ hx2_ h_) h
      · simp only [if_pos q3] at h
        refine ok_iconst (pc := 21) dX3_heaviest_21 ?_
        refine ok_goto (tgt := 26) (pc := 22) dX3_heaviest_22 rfl ?_
        exact w_X3_heaviest_26 X x1 x2 1 hx1 hx2 (r_lit rfl) (fun x1_ x2_ σ_ hx1_ hx2_ h_ => ih x1_ x2_ σ_ hx1_ hx2_ h_) h
set_option maxRecDepth 100000 in
set_option maxHeartbeats 4000000 in
theorem c_X3_heaviest (X : XE) {σ : Mem} {Q : Int → Mem → Prop} (h : v_X3_heaviest σ Q) : CT X yX3_heaviest cX3_heaviest 4 (some .int) rm_X3_heaviest 1 [.ref (xad X 99)] σ Q := by
  refine ct_of (own := RX3) (L := [(0, .ref (xad X 99))]) rfl rfl (Nat.le_of_ble_eq_true rfl) rfl ?_
  refine ok_iconst (pc := 0) dX3_heaviest_0 ?_
  refine ok_istore_n (L' := [(1, vI (-1)), (0, .ref (xad X 99))]) (pc := 1) dX3_heaviest_1 rfl rfl rfl ?_
  refine ok_iconst (pc := 2) dX3_heaviest_2 ?_
  refine ok_istore_n (L' := [(2, vI 0), (1, vI (-1)), (0, .ref (xad X 99))]) (pc := 3) dX3_heaviest_3 rfl rfl rfl ?_
  refine ok_sub (L' := [(0, .ref (xad X 99)), (1, vI (-1)), (2, vI 0)]) [2,1,0] rfl ?_
  obtain ⟨n1, h⟩ := h
  exact w_X3_heaviest_4 X n1 (-1) 0 σ (r_lit rfl) (r_lit rfl) h
theorem dX3_take_0 : decode cX3_take 0 = .ok (.aload_n 0, 1) := by decide +kernel
theorem dX3_take_1 : decode cX3_take 1 = .ok (.getfield 21, 3) := by decide +kernel
theorem dX3_take_4 : decode cX3_take 4 = .ok (.istore_n 2, 1) := by decide +kernel
theorem dX3_take_5 : decode cX3_take 5 = .ok (.aload_n 0, 1) := by decide +kernel
theorem dX3_take_6 : decode cX3_take 6 = .ok (.iconst 0, 1) := by decide +kernel
theorem dX3_take_7 : decode cX3_take 7 = .ok (.putfield 56, 3) := by decide +kernel
theorem dX3_take_10 : decode cX3_take 10 = .ok (.aload_n 0, 1) := by decide +kernel
theorem dX3_take_11 : decode cX3_take 11 = .ok (.iconst 0, 1) := by decide +kernel
theorem dX3_take_12 : decode cX3_take 12 = .ok (.putfield 59, 3) := by decide +kernel
theorem dX3_take_15 : decode cX3_take 15 = .ok (.iconst 0, 1) := by decide +kernel
theorem dX3_take_16 : decode cX3_take 16 = .ok (.istore_n 3, 1) := by decide +kernel
theorem dX3_take_17 : decode cX3_take 17 = .ok (.iload_n 3, 1) := by decide +kernel
theorem dX3_take_18 : decode cX3_take 18 = .ok (.bipush 27, 2) := by decide +kernel
theorem dX3_take_20 : decode cX3_take 20 = .ok (.if_icmp .ge 74, 3) := by decide +kernel
theorem dX3_take_23 : decode cX3_take 23 = .ok (.iload_n 2, 1) := by decide +kernel
theorem dX3_take_24 : decode cX3_take 24 = .ok (.i2l, 1) := by decide +kernel
theorem dX3_take_25 : decode cX3_take 25 = .ok (.ldc2_w 62, 3) := by decide +kernel
theorem dX3_take_28 : decode cX3_take 28 = .ok (.lmul, 1) := by decide +kernel
theorem dX3_take_29 : decode cX3_take 29 = .ok (.iload_n 1, 1) := by decide +kernel
theorem dX3_take_30 : decode cX3_take 30 = .ok (.i2l, 1) := by decide +kernel
theorem dX3_take_31 : decode cX3_take 31 = .ok (.aload_n 0, 1) := by decide +kernel
theorem dX3_take_32 : decode cX3_take 32 = .ok (.getfield 21, 3) := by decide +kernel
theorem dX3_take_35 : decode cX3_take 35 = .ok (.i2l, 1) := by decide +kernel
theorem dX3_take_36 : decode cX3_take 36 = .ok (.lmul, 1) := by decide +kernel
theorem dX3_take_37 : decode cX3_take 37 = .ok (.lcmp, 1) := by decide +kernel
theorem dX3_take_38 : decode cX3_take 38 = .ok (.ifCond .le 56, 3) := by decide +kernel
theorem dX3_take_41 : decode cX3_take 41 = .ok (.aload_n 0, 1) := by decide +kernel
theorem dX3_take_42 : decode cX3_take 42 = .ok (.invokevirtual 64, 3) := by decide +kernel
theorem dX3_take_45 : decode cX3_take 45 = .ok (.istore 4, 2) := by decide +kernel
theorem dX3_take_47 : decode cX3_take 47 = .ok (.aload_n 0, 1) := by decide +kernel
theorem dX3_take_48 : decode cX3_take 48 = .ok (.getfield 15, 3) := by decide +kernel
theorem dX3_take_51 : decode cX3_take 51 = .ok (.iload_n 3, 1) := by decide +kernel
theorem dX3_take_52 : decode cX3_take 52 = .ok (.iload 4, 2) := by decide +kernel
theorem dX3_take_54 : decode cX3_take 54 = .ok (.iastore, 1) := by decide +kernel
theorem dX3_take_55 : decode cX3_take 55 = .ok (.aload_n 0, 1) := by decide +kernel
theorem dX3_take_56 : decode cX3_take 56 = .ok (.dup, 1) := by decide +kernel
theorem dX3_take_57 : decode cX3_take 57 = .ok (.getfield 59, 3) := by decide +kernel
theorem dX3_take_60 : decode cX3_take 60 = .ok (.iconst 1, 1) := by decide +kernel
theorem dX3_take_61 : decode cX3_take 61 = .ok (.iload 4, 2) := by decide +kernel
theorem dX3_take_63 : decode cX3_take 63 = .ok (.ishl, 1) := by decide +kernel
theorem dX3_take_64 : decode cX3_take 64 = .ok (.ior, 1) := by decide +kernel
theorem dX3_take_65 : decode cX3_take 65 = .ok (.putfield 59, 3) := by decide +kernel
theorem dX3_take_68 : decode cX3_take 68 = .ok (.iload_n 2, 1) := by decide +kernel
theorem dX3_take_69 : decode cX3_take 69 = .ok (.aload_n 0, 1) := by decide +kernel
theorem dX3_take_70 : decode cX3_take 70 = .ok (.getfield 9, 3) := by decide +kernel
theorem dX3_take_73 : decode cX3_take 73 = .ok (.iload 4, 2) := by decide +kernel
theorem dX3_take_75 : decode cX3_take 75 = .ok (.iaload, 1) := by decide +kernel
theorem dX3_take_76 : decode cX3_take 76 = .ok (.isub, 1) := by decide +kernel
theorem dX3_take_77 : decode cX3_take 77 = .ok (.istore_n 2, 1) := by decide +kernel
theorem dX3_take_78 : decode cX3_take 78 = .ok (.aload_n 0, 1) := by decide +kernel
theorem dX3_take_79 : decode cX3_take 79 = .ok (.dup, 1) := by decide +kernel
theorem dX3_take_80 : decode cX3_take 80 = .ok (.getfield 56, 3) := by decide +kernel
theorem dX3_take_83 : decode cX3_take 83 = .ok (.iconst 1, 1) := by decide +kernel
theorem dX3_take_84 : decode cX3_take 84 = .ok (.iadd, 1) := by decide +kernel
theorem dX3_take_85 : decode cX3_take 85 = .ok (.putfield 56, 3) := by decide +kernel
theorem dX3_take_88 : decode cX3_take 88 = .ok (.iinc 3 1, 3) := by decide +kernel
theorem dX3_take_91 : decode cX3_take 91 = .ok (.goto (-74), 3) := by decide +kernel
theorem dX3_take_94 : decode cX3_take 94 = .ok (.return_, 1) := by decide +kernel
set_option maxRecDepth 100000 in
set_option maxHeartbeats 4000000 in
theorem w_X3_take_17 (X : XE) (p1 : Int) (hp1 : inR p1) {Q : Int → Mem → Prop} : ∀ (n : Nat) (x2 : Int) (x3 : Int) (σ : Mem), inR x2 → inR x3 → l_X3_take_17 p1 Q n x2 x3 σ → ok X rm_X3_take RX3 cX3_take 5 none 0 Q 17 [(0, .ref (xad X 99)), (1, vI p1), (2, vI x2), (3, vI x3)] [] σ := by
  intro n
  induction n with
  | zero => intro x2 x3 σ hx2 hx3 h; exact False.elim h
  | succ n ih =>
    intro x2 x3 σ hx2 hx3 h
    refine ok_iload_n 3 (pc := 17) dX3_take_17 rfl rfl ?_
    refine ok_bipush (pc := 18) dX3_take_18 rfl ?_
    refine ok_icmp_ge (tgt := 94) (pc := 20) dX3_take_20 rfl hx3 (r_lit rfl) (fun q1 => ?_) (fun q1 => ?_)
    · have h := iteF h q1
      exact ok_vret (pc := 94) dX3_take_94 rfl rfl h
    · have h := iteT h q1
      refine ok_iload_n 2 (pc := 23) dX3_take_23 rfl rfl ?_
      refine ok_i2l (pc := 24) dX3_take_24 hx2 ?_
      refine ok_ldc2 (pc := 25) dX3_take_25 cn_X3_62 ?_
      refine ok_lmul (pc := 28) dX3_take_28 ?_
      refine ok_iload_n 1 (pc := 29) dX3_take_29 rfl rfl ?_
      refine ok_i2l (pc := 30) dX3_take_30 hp1 ?_
      refine ok_aload_n 0 (pc := 31) dX3_take_31 rfl rfl ?_
      refine ok_wf (fun hw2 => ?_)
      refine ok_getI (pc := 32) dX3_take_32 fl_X3_21 sh_99 (Nat.le_of_ble_eq_true rfl) rfl rfl ?_
      refine ok_i2l (pc := 35) dX3_take_35 (hw2 _ _) ?_
      refine ok_lmul (pc := 36) dX3_take_36 ?_
      obtain ⟨h3, h⟩ := h
      obtain ⟨h4, h⟩ := h
      refine ok_lcmp (pc := 37) dX3_take_37 h3 h4 ?_
      refine ok_if_le (tgt := 94) (pc := 38) dX3_take_38 rfl r_lcmp (fun q5 => ?_) (fun q5 => ?_)
      · have h := iteF h q5
        exact ok_vret (pc := 94) dX3_take_94 rfl rfl h
      · have h := iteT h q5
        refine ok_aload_n 0 (pc := 41) dX3_take_41 rfl rfl ?_
        refine ok_callVi (As := []) (rest := []) (rm := rm_X3_heaviest) (pc := 42) dX3_take_42 me_X3_heaviest ml_X3_64 (ci := 3) rfl sh_99 (Nat.le_of_ble_eq_true rfl) rfl des_X3_heaviest rfl ⟨rfl, rfl, rfl, rfl⟩ rfl rfl (c_X3_heaviest X h) (fun r7 σ8 h6 h => ?_)
        refine ok_istore (L' := [(4, vI r7), (0, .ref (xad X 99)), (1, vI p1), (2, vI x2), (3, vI x3)]) (pc := 45) dX3_take_45 rfl rfl ?_
        refine ok_aload_n 1 (pc := 47) dX3_take_47 rfl rfl ?_
        refine ok_getR (pc := 48) dX3_take_48 fl_X3_15 sh_99 (Nat.le_of_ble_eq_true rfl) rfl rfl ?_
        refine ok_iload_n 4 (pc := 51) dX3_take_51 rfl rfl ?_
        refine ok_iload 0 (pc := 52) dX3_take_52 rfl ?_
        obtain ⟨h9, h⟩ := h
        obtain ⟨h10, h⟩ := h
        refine ok_iast (pc := 54) dX3_take_54 sh_101 (Nat.le_of_ble_eq_true rfl) rfl h9 h10 h6 ?_
        refine ok_aload_n 1 (pc := 55) dX3_take_55 rfl rfl ?_
        refine ok_dup (pc := 56) dX3_take_56 rfl ?_
        refine ok_wf (fun hw11 => ?_)
        refine ok_getI (pc := 57) dX3_take_57 fl_X3_59 sh_99 (Nat.le_of_ble_eq_true rfl) rfl rfl ?_
        have e12 : ((mset σ8 101 (x3.toNat) r7) 99 4) = (σ8 99 4) := (mset_ne (by omega))
        refine ok_top e12 ?_
        refine ok_iconst (pc := 60) dX3_take_60 ?_
        refine ok_iload 0 (pc := 61) dX3_take_61 rfl ?_
        refine ok_ishl (pc := 63) dX3_take_63 ?_
        refine ok_ior (pc := 64) dX3_take_64 ?_
        refine ok_putI (pc := 65) dX3_take_65 fl_X3_59 fp_X3_4 sh_99 (Nat.le_of_ble_eq_true rfl) rfl rfl (q_rng _) rfl rfl ?_
        refine ok_iload_n 3 (pc := 68) dX3_take_68 rfl rfl ?_
        refine ok_aload_n 1 (pc := 69) dX3_take_69 rfl rfl ?_
        refine ok_getR (pc := 70) dX3_take_70 fl_X3_9 sh_99 (Nat.le_of_ble_eq_true rfl) rfl rfl ?_
        refine ok_iload 0 (pc := 73) dX3_take_73 rfl ?_
        obtain ⟨h14, h⟩ := h
        obtain ⟨h15, h⟩ := h
        refine ok_wf (fun hw16 => ?_)
        refine ok_iald (pc := 75) dX3_take_75 sh_100 (Nat.le_of_ble_eq_true rfl) rfl h14 h15 ?_
        have e17 : ((mset (mset σ8 101 (x3.toNat) r7) 99 4 (ior (σ8 99 4) (ishl 1 r7))) 100 r7.toNat) = (σ8 100 r7.toNat) := (mset_ne (by omega)).trans (mset_ne (by omega))
        refine ok_top e17 ?_
        refine ok_isub (pc := 76) dX3_take_76 ?_
        refine ok_istore_n (L' := [(2, vI (x2 - (σ8 100 r7.toNat))), (4, vI r7), (0, .ref (xad X 99)), (1, vI p1), (3, vI x3)]) (pc := 77) dX3_take_77 rfl rfl rfl ?_
        refine ok_aload_n 2 (pc := 78) dX3_take_78 rfl rfl ?_
        refine ok_dup (pc := 79) dX3_take_79 rfl ?_
        refine ok_getI (pc := 80) dX3_take_80 fl_X3_56 sh_99 (Nat.le_of_ble_eq_true rfl) rfl rfl ?_
        have e19 : ((mset (mset σ8 101 (x3.toNat) r7) 99 4 (ior (σ8 99 4) (ishl 1 r7))) 99 3) = (σ8 99 3) := (mset_nei (by omega)).trans (mset_ne (by omega))
        refine ok_top e19 ?_
        refine ok_iconst (pc := 83) dX3_take_83 ?_
        refine ok_iadd (pc := 84) dX3_take_84 ?_
        obtain ⟨h21, h⟩ := h
        refine ok_putI (pc := 85) dX3_take_85 fl_X3_56 fp_X3_3 sh_99 (Nat.le_of_ble_eq_true rfl) rfl rfl h21 rfl rfl ?_
        refine ok_iinc (L' := [(3, vI (x3 + 1)), (2, vI (x2 - (σ8 100 r7.toNat))), (4, vI r7), (0, .ref (xad X 99)), (1, vI p1)]) 4 (pc := 88) dX3_take_88 rfl rfl rfl ?_
        refine ok_goto (tgt := 17) (pc := 91) dX3_take_91 rfl ?_
        obtain ⟨h22, h⟩ := h
        obtain ⟨h23, h⟩ := h
        refine ok_sub (L' := [(0, .ref (xad X 99)), (1, vI p1), (2, vI (x2 - (σ8 100 r7.toNat))), (3, vI (x3 + 1))]) [3,4,1,0] rfl ?_
        exact ih (x2 - (σ8 100 r7.toNat)) (x3 + 1) (mset (mset (mset σ8 101 (x3.toNat) r7) 99 4 (ior (σ8 99 4) (ishl 1 r7))) 99 3 ((σ8 99 3) + 1)) h22 h23 h
set_option maxRecDepth 100000 in
set_option maxHeartbeats 4000000 in
theorem c_X3_take (X : XE) (p1 : Int) (hp1 : inR p1) {σ : Mem} {Q : Int → Mem → Prop} (h : v_X3_take p1 σ Q) : CT X yX3_take cX3_take 5 none rm_X3_take 0 [.ref (xad X 99), vI p1] σ Q := by
  refine ct_of (own := RX3) (L := [(0, .ref (xad X 99)), (1, vI p1)]) rfl rfl (Nat.le_of_ble_eq_true rfl) rfl ?_
  refine ok_aload_n 0 (pc := 0) dX3_take_0 rfl rfl ?_
  refine ok_wf (fun hw1 => ?_)
  refine ok_getI (pc := 1) dX3_take_1 fl_X3_21 sh_99 (Nat.le_of_ble_eq_true rfl) rfl rfl ?_
  refine ok_istore_n (L' := [(2, vI (σ 99 1)), (0, .ref (xad X 99)), (1, vI p1)]) (pc := 4) dX3_take_4 rfl rfl rfl ?_
  refine ok_aload_n 1 (pc := 5) dX3_take_5 rfl rfl ?_
  refine ok_iconst (pc := 6) dX3_take_6 ?_
  refine ok_putI (pc := 7) dX3_take_7 fl_X3_56 fp_X3_3 sh_99 (Nat.le_of_ble_eq_true rfl) rfl rfl (r_lit rfl) rfl rfl ?_
  refine ok_aload_n 1 (pc := 10) dX3_take_10 rfl rfl ?_
  refine ok_iconst (pc := 11) dX3_take_11 ?_
  refine ok_putI (pc := 12) dX3_take_12 fl_X3_59 fp_X3_4 sh_99 (Nat.le_of_ble_eq_true rfl) rfl rfl (r_lit rfl) rfl rfl ?_
  refine ok_iconst (pc := 15) dX3_take_15 ?_
  refine ok_istore_n (L' := [(3, vI 0), (2, vI (σ 99 1)), (0, .ref (xad X 99)), (1, vI p1)]) (pc := 16) dX3_take_16 rfl rfl rfl ?_
  refine ok_sub (L' := [(0, .ref (xad X 99)), (1, vI p1), (2, vI (σ 99 1)), (3, vI 0)]) [2,3,1,0] rfl ?_
  obtain ⟨n2, h⟩ := h
  exact w_X3_take_17 X p1 hp1 n2 (σ 99 1) 0 (mset (mset σ 99 3 0) 99 4 0) (hw1 _ _) (r_lit rfl) h
theorem dX11_look_0 : decode cX11_look 0 = .ok (.iload_n 2, 1) := by decide +kernel
theorem dX11_look_1 : decode cX11_look 1 = .ok (.bipush 10, 2) := by decide +kernel
theorem dX11_look_3 : decode cX11_look 3 = .ok (.if_icmp .lt 13, 3) := by decide +kernel
theorem dX11_look_6 : decode cX11_look 6 = .ok (.iload_n 2, 1) := by decide +kernel
theorem dX11_look_7 : decode cX11_look 7 = .ok (.bipush 37, 2) := by decide +kernel
theorem dX11_look_9 : decode cX11_look 9 = .ok (.if_icmp .ge 7, 3) := by decide +kernel
theorem dX11_look_12 : decode cX11_look 12 = .ok (.iconst 1, 1) := by decide +kernel
theorem dX11_look_13 : decode cX11_look 13 = .ok (.goto 4, 3) := by decide +kernel
theorem dX11_look_16 : decode cX11_look 16 = .ok (.iconst 0, 1) := by decide +kernel
theorem dX11_look_17 : decode cX11_look 17 = .ok (.istore_n 3, 1) := by decide +kernel
theorem dX11_look_18 : decode cX11_look 18 = .ok (.iload_n 1, 1) := by decide +kernel
theorem dX11_look_19 : decode cX11_look 19 = .ok (.invokestatic 249, 3) := by decide +kernel
theorem dX11_look_22 : decode cX11_look 22 = .ok (.ifCond .eq 16, 3) := by decide +kernel
theorem dX11_look_25 : decode cX11_look 25 = .ok (.iload_n 3, 1) := by decide +kernel
theorem dX11_look_26 : decode cX11_look 26 = .ok (.ifCond .ne 14, 3) := by decide +kernel
theorem dX11_look_29 : decode cX11_look 29 = .ok (.iload_n 2, 1) := by decide +kernel
theorem dX11_look_30 : decode cX11_look 30 = .ok (.ifCond .lt 8, 3) := by decide +kernel
theorem dX11_look_33 : decode cX11_look 33 = .ok (.iload_n 2, 1) := by decide +kernel
theorem dX11_look_34 : decode cX11_look 34 = .ok (.iconst 2, 1) := by decide +kernel
theorem dX11_look_35 : decode cX11_look 35 = .ok (.if_icmp .le 5, 3) := by decide +kernel
theorem dX11_look_38 : decode cX11_look 38 = .ok (.iconst (-1), 1) := by decide +kernel
theorem dX11_look_39 : decode cX11_look 39 = .ok (.ireturn, 1) := by decide +kernel
theorem dX11_look_40 : decode cX11_look 40 = .ok (.aload_n 0, 1) := by decide +kernel
theorem dX11_look_41 : decode cX11_look 41 = .ok (.getfield 53, 3) := by decide +kernel
theorem dX11_look_44 : decode cX11_look 44 = .ok (.getfield 225, 3) := by decide +kernel
theorem dX11_look_47 : decode cX11_look 47 = .ok (.ifCond .ne 6, 3) := by decide +kernel
theorem dX11_look_50 : decode cX11_look 50 = .ok (.bipush (-2), 2) := by decide +kernel
theorem dX11_look_52 : decode cX11_look 52 = .ok (.ireturn, 1) := by decide +kernel
theorem dX11_look_53 : decode cX11_look 53 = .ok (.aload_n 0, 1) := by decide +kernel
theorem dX11_look_54 : decode cX11_look 54 = .ok (.getfield 60, 3) := by decide +kernel
theorem dX11_look_57 : decode cX11_look 57 = .ok (.aload_n 0, 1) := by decide +kernel
theorem dX11_look_58 : decode cX11_look 58 = .ok (.getfield 53, 3) := by decide +kernel
theorem dX11_look_61 : decode cX11_look 61 = .ok (.aload_n 0, 1) := by decide +kernel
theorem dX11_look_62 : decode cX11_look 62 = .ok (.getfield 37, 3) := by decide +kernel
theorem dX11_look_65 : decode cX11_look 65 = .ok (.invokevirtual 235, 3) := by decide +kernel
theorem dX11_look_68 : decode cX11_look 68 = .ok (.aload_n 0, 1) := by decide +kernel
theorem dX11_look_69 : decode cX11_look 69 = .ok (.getfield 60, 3) := by decide +kernel
theorem dX11_look_72 : decode cX11_look 72 = .ok (.iload_n 1, 1) := by decide +kernel
theorem dX11_look_73 : decode cX11_look 73 = .ok (.invokevirtual 252, 3) := by decide +kernel
theorem dX11_look_76 : decode cX11_look 76 = .ok (.iload_n 3, 1) := by decide +kernel
theorem dX11_look_77 : decode cX11_look 77 = .ok (.ifCond .eq 35, 3) := by decide +kernel
theorem dX11_look_80 : decode cX11_look 80 = .ok (.iload_n 2, 1) := by decide +kernel
theorem dX11_look_81 : decode cX11_look 81 = .ok (.bipush 10, 2) := by decide +kernel
theorem dX11_look_83 : decode cX11_look 83 = .ok (.isub, 1) := by decide +kernel
theorem dX11_look_84 : decode cX11_look 84 = .ok (.aload_n 0, 1) := by decide +kernel
theorem dX11_look_85 : decode cX11_look 85 = .ok (.getfield 60, 3) := by decide +kernel
theorem dX11_look_88 : decode cX11_look 88 = .ok (.getfield 256, 3) := by decide +kernel
theorem dX11_look_91 : decode cX11_look 91 = .ok (.if_icmp .ge 18, 3) := by decide +kernel
theorem dX11_look_94 : decode cX11_look 94 = .ok (.aload_n 0, 1) := by decide +kernel
theorem dX11_look_95 : decode cX11_look 95 = .ok (.getfield 60, 3) := by decide +kernel
theorem dX11_look_98 : decode cX11_look 98 = .ok (.getfield 259, 3) := by decide +kernel
theorem dX11_look_101 : decode cX11_look 101 = .ok (.iload_n 2, 1) := by decide +kernel
theorem dX11_look_102 : decode cX11_look 102 = .ok (.bipush 10, 2) := by decide +kernel
theorem dX11_look_104 : decode cX11_look 104 = .ok (.isub, 1) := by decide +kernel
theorem dX11_look_105 : decode cX11_look 105 = .ok (.iaload, 1) := by decide +kernel
theorem dX11_look_106 : decode cX11_look 106 = .ok (.goto 5, 3) := by decide +kernel
theorem dX11_look_109 : decode cX11_look 109 = .ok (.bipush (-4), 2) := by decide +kernel
theorem dX11_look_111 : decode cX11_look 111 = .ok (.ireturn, 1) := by decide +kernel
theorem dX11_look_112 : decode cX11_look 112 = .ok (.iload_n 2, 1) := by decide +kernel
theorem dX11_look_113 : decode cX11_look 113 = .ok (.lookupswitch 43 #[(0, 27), (1, 35)], 27) := by decide +kernel
theorem dX11_look_140 : decode cX11_look 140 = .ok (.aload_n 0, 1) := by decide +kernel
theorem dX11_look_141 : decode cX11_look 141 = .ok (.getfield 60, 3) := by decide +kernel
theorem dX11_look_144 : decode cX11_look 144 = .ok (.getfield 256, 3) := by decide +kernel
theorem dX11_look_147 : decode cX11_look 147 = .ok (.ireturn, 1) := by decide +kernel
theorem dX11_look_148 : decode cX11_look 148 = .ok (.aload_n 0, 1) := by decide +kernel
theorem dX11_look_149 : decode cX11_look 149 = .ok (.getfield 60, 3) := by decide +kernel
theorem dX11_look_152 : decode cX11_look 152 = .ok (.getfield 262, 3) := by decide +kernel
theorem dX11_look_155 : decode cX11_look 155 = .ok (.ireturn, 1) := by decide +kernel
theorem dX11_look_156 : decode cX11_look 156 = .ok (.aload_n 0, 1) := by decide +kernel
theorem dX11_look_157 : decode cX11_look 157 = .ok (.getfield 46, 3) := by decide +kernel
theorem dX11_look_160 : decode cX11_look 160 = .ok (.aload_n 0, 1) := by decide +kernel
theorem dX11_look_161 : decode cX11_look 161 = .ok (.getfield 60, 3) := by decide +kernel
theorem dX11_look_164 : decode cX11_look 164 = .ok (.getfield 262, 3) := by decide +kernel
theorem dX11_look_167 : decode cX11_look 167 = .ok (.invokevirtual 213, 3) := by decide +kernel
theorem dX11_look_170 : decode cX11_look 170 = .ok (.invokestatic 217, 3) := by decide +kernel
theorem dX11_look_173 : decode cX11_look 173 = .ok (.ireturn, 1) := by decide +kernel
set_option maxRecDepth 100000 in
set_option maxHeartbeats 4000000 in
theorem w_X11_look_40 (X : XE) (p1 : Int) (p2 : Int) (hp1 : inR p1) (hp2 : inR p2) (x3 : Int) (hx3 : inR x3) {Q : Int → Mem → Prop} {σ : Mem} (h : j_X11_look_40 p1 p2 Q x3 σ) : ok X rm_X11_look RX11 cX11_look 4 (some .int) 1 Q 40 [(0, .ref (xad X 0)), (1, vI p1), (2, vI p2), (3, vI x3)] [] σ := by
  refine ok_aload_n 0 (pc := 40) dX11_look_40 rfl rfl ?_
  refine ok_getR (pc := 41) dX11_look_41 fl_X11_53 sh_0 (Nat.le_of_ble_eq_true rfl) rfl rfl ?_
  refine ok_wf (fun hw1 => ?_)
  refine ok_getI (pc := 44) dX11_look_44 fl_X11_225 sh_95 (Nat.le_of_ble_eq_true rfl) rfl rfl ?_
  refine ok_if_ne (tgt := 53) (pc := 47) dX11_look_47 rfl (hw1 _ _) (fun q2 => ?_) (fun q2 => ?_)
  · have h := iteF h q2
    refine ok_aload_n 0 (pc := 53) dX11_look_53 rfl rfl ?_
    refine ok_getR (pc := 54) dX11_look_54 fl_X11_60 sh_0 (Nat.le_of_ble_eq_true rfl) rfl rfl ?_
    refine ok_aload_n 0 (pc := 57) dX11_look_57 rfl rfl ?_
    refine ok_getR (pc := 58) dX11_look_58 fl_X11_53 sh_0 (Nat.le_of_ble_eq_true rfl) rfl rfl ?_
    refine ok_aload_n 0 (pc := 61) dX11_look_61 rfl rfl ?_
    refine ok_getR (pc := 62) dX11_look_62 fl_X11_37 sh_0 (Nat.le_of_ble_eq_true rfl) rfl rfl ?_
    refine ok_callVv (As := [.ref (xad X 95), .ref (xad X 14)]) (rest := []) (rm := rm_X3_weigh) (pc := 65) dX11_look_65 me_X3_weigh ml_X11_235 (ci := 3) rfl sh_99 (Nat.le_of_ble_eq_true rfl) rfl des_X3_weigh rfl ⟨rfl, rfl, rfl, rfl⟩ rfl rfl (c_X3_weigh X h) (fun σ5 h => ?_)
    refine ok_aload_n 0 (pc := 68) dX11_look_68 rfl rfl ?_
    refine ok_getR (pc := 69) dX11_look_69 fl_X11_60 sh_0 (Nat.le_of_ble_eq_true rfl) rfl rfl ?_
    refine ok_iload_n 1 (pc := 72) dX11_look_72 rfl rfl ?_
    refine ok_callVv (As := [vI p1]) (rest := []) (rm := rm_X3_take) (pc := 73) dX11_look_73 me_X3_take ml_X11_252 (ci := 3) rfl sh_99 (Nat.le_of_ble_eq_true rfl) rfl des_X3_take rfl ⟨rfl, rfl, rfl, rfl⟩ rfl rfl (c_X3_take X p1 hp1 h) (fun σ8 h => ?_)
    refine ok_iload_n 3 (pc := 76) dX11_look_76 rfl rfl ?_
    refine ok_if_eq (tgt := 112) (pc := 77) dX11_look_77 rfl hx3 (fun q9 => ?_) (fun q9 => ?_)
    · have h := iteT h q9
      refine ok_iload_n 2 (pc := 112) dX11_look_112 rfl rfl ?_
      by_cases q10 : p2 = 0
      · have h := iteT h q10
        refine ok_lswitch (tgt := 140) (pc := 113) dX11_look_113 rfl hp2 (by first | (rw [q10]; done) | (rw [q10]; rfl)) rfl ?_
        refine ok_aload_n 0 (pc := 140) dX11_look_140 rfl rfl ?_
        refine ok_getR (pc := 141) dX11_look_141 fl_X11_60 sh_0 (Nat.le_of_ble_eq_true rfl) rfl rfl ?_
        refine ok_wf (fun hw11 => ?_)
        refine ok_getI (pc := 144) dX11_look_144 fl_X11_256 sh_99 (Nat.le_of_ble_eq_true rfl) rfl rfl ?_
        exact ok_iret (pc := 147) dX11_look_147 rfl rfl rfl (hw11 _ _) h
      · have h := iteF h q10
        by_cases q12 : p2 = 1
        · have h := iteT h q12
          refine ok_lswitch (tgt := 148) (pc := 113) dX11_look_113 rfl hp2 (by first | (rw [q12]; done) | (rw [q12]; rfl)) rfl ?_
          refine ok_aload_n 0 (pc := 148) dX11_look_148 rfl rfl ?_
          refine ok_getR (pc := 149) dX11_look_149 fl_X11_60 sh_0 (Nat.le_of_ble_eq_true rfl) rfl rfl ?_
          refine ok_wf (fun hw13 => ?_)
          refine ok_getI (pc := 152) dX11_look_152 fl_X11_262 sh_99 (Nat.le_of_ble_eq_true rfl) rfl rfl ?_
          exact ok_iret (pc := 155) dX11_look_155 rfl rfl rfl (hw13 _ _) h
        · have h := iteF h q12
          refine ok_lswitch (tgt := 156) (pc := 113) dX11_look_113 rfl hp2 (ls_out2 q10 q12) rfl ?_
          refine ok_aload_n 0 (pc := 156) dX11_look_156 rfl rfl ?_
          refine ok_getR (pc := 157) dX11_look_157 fl_X11_46 sh_0 (Nat.le_of_ble_eq_true rfl) rfl rfl ?_
          refine ok_aload_n 0 (pc := 160) dX11_look_160 rfl rfl ?_
          refine ok_getR (pc := 161) dX11_look_161 fl_X11_60 sh_0 (Nat.le_of_ble_eq_true rfl) rfl rfl ?_
          refine ok_wf (fun hw14 => ?_)
          refine ok_getI (pc := 164) dX11_look_164 fl_X11_262 sh_99 (Nat.le_of_ble_eq_true rfl) rfl rfl ?_
          refine ok_callVi (As := [vI (σ8 99 4)]) (rest := []) (rm := rm_X0_filedIn) (pc := 167) dX11_look_167 me_X0_filedIn ml_X11_213 (ci := 0) rfl sh_16 (Nat.le_of_ble_eq_true rfl) rfl des_X0_filedIn rfl ⟨rfl, rfl, rfl, rfl⟩ rfl rfl (c_X0_filedIn X (σ8 99 4) (hw14 _ _) h) (fun r16 σ17 h15 h => ?_)
          refine ok_callSi (As := [vI r16]) (rest := []) (rm := rm_J6_bitCount_0f7a4) (pc := 170) dX11_look_170 me_J6_bitCount_0f7a4 ml_X11_217 des_J6_bitCount_0f7a4 rfl ⟨rfl, rfl, rfl, rfl⟩ rfl rfl (c_J6_bitCount_0f7a4 X r16 h15 h) (fun r19 σ20 h18 h => ?_)
          exact ok_iret (pc := 173) dX11_look_173 rfl rfl rfl h18 h
    · have h := iteF h q9
      refine ok_iload_n 2 (pc := 80) dX11_look_80 rfl rfl ?_
      refine ok_bipush (pc := 81) dX11_look_81 rfl ?_
      refine ok_isub (pc := 83) dX11_look_83 ?_
      refine ok_aload_n 0 (pc := 84) dX11_look_84 rfl rfl ?_
      refine ok_getR (pc := 85) dX11_look_85 fl_X11_60 sh_0 (Nat.le_of_ble_eq_true rfl) rfl rfl ?_
      refine ok_wf (fun hw21 => ?_)
      refine ok_getI (pc := 88) dX11_look_88 fl_X11_256 sh_99 (Nat.le_of_ble_eq_true rfl) rfl rfl ?_
      obtain ⟨h22, h⟩ := h
      refine ok_icmp_ge (tgt := 109) (pc := 91) dX11_look_91 rfl h22 (hw21 _ _) (fun q23 => ?_) (fun q23 => ?_)
      · have h := iteF h q23
        refine ok_bipush (pc := 109) dX11_look_109 rfl ?_
        exact ok_iret (pc := 111) dX11_look_111 rfl rfl rfl (r_lit rfl) h
      · have h := iteT h q23
        refine ok_aload_n 0 (pc := 94) dX11_look_94 rfl rfl ?_
        refine ok_getR (pc := 95) dX11_look_95 fl_X11_60 sh_0 (Nat.le_of_ble_eq_true rfl) rfl rfl ?_
        refine ok_getR (pc := 98) dX11_look_98 fl_X11_259 sh_99 (Nat.le_of_ble_eq_true rfl) rfl rfl ?_
        refine ok_iload_n 2 (pc := 101) dX11_look_101 rfl rfl ?_
        refine ok_bipush (pc := 102) dX11_look_102 rfl ?_
        refine ok_isub (pc := 104) dX11_look_104 ?_
        obtain ⟨h24, h⟩ := h
        obtain ⟨h25, h⟩ := h
        refine ok_iald (pc := 105) dX11_look_105 sh_101 (Nat.le_of_ble_eq_true rfl) rfl h24 h25 ?_
        refine ok_goto (tgt := 111) (pc := 106) dX11_look_106 rfl ?_
        exact ok_iret (pc := 111) dX11_look_111 rfl rfl rfl (hw21 _ _) h
  · have h := iteT h q2
    refine ok_bipush (pc := 50) dX11_look_50 rfl ?_
    exact ok_iret (pc := 52) dX11_look_52 rfl rfl rfl (r_lit rfl) h
set_option maxRecDepth 100000 in
set_option maxHeartbeats 4000000 in
theorem w_X11_look_17 (X : XE) (p1 : Int) (p2 : Int) (hp1 : inR p1) (hp2 : inR p2) (s0 : Int) (hs0 : inR s0) {Q : Int → Mem → Prop} {σ : Mem} (h : j_X11_look_17 p1 p2 Q s0 σ) : ok X rm_X11_look RX11 cX11_look 4 (some .int) 1 Q 17 [(0, .ref (xad X 0)), (1, vI p1), (2, vI p2)] [vI s0] σ := by
  refine ok_istore_n (L' := [(3, vI s0), (0, .ref (xad X 0)), (1, vI p1), (2, vI p2)]) (pc := 17) dX11_look_17 rfl rfl rfl ?_
  refine ok_iload_n 2 (pc := 18) dX11_look_18 rfl rfl ?_
  refine ok_callSi (As := [vI p1]) (rest := []) (rm := rm_X11_isShare) (pc := 19) dX11_look_19 me_X11_isShare ml_X11_249 des_X11_isShare rfl ⟨rfl, rfl, rfl, rfl⟩ rfl rfl (c_X11_isShare X p1 hp1 h) (fun r2 σ3 h1 h => ?_)
  refine ok_if_eq (tgt := 38) (pc := 22) dX11_look_22 rfl h1 (fun q4 => ?_) (fun q4 => ?_)
  · have h := iteT h q4
    refine ok_iconst (pc := 38) dX11_look_38 ?_
    exact ok_iret (pc := 39) dX11_look_39 rfl rfl rfl (r_lit rfl) h
  · have h := iteF h q4
    refine ok_iload_n 0 (pc := 25) dX11_look_25 rfl rfl ?_
    refine ok_if_ne (tgt := 40) (pc := 26) dX11_look_26 rfl hs0 (fun q5 => ?_) (fun q5 => ?_)
    · have h := iteF h q5
      refine ok_sub (L' := [(0, .ref (xad X 0)), (1, vI p1), (2, vI p2), (3, vI s0)]) [1,2,3,0] rfl ?_
      exact w_X11_look_40 X p1 p2 hp1 hp2 s0 hs0 h
    · have h := iteT h q5
      refine ok_iload_n 3 (pc := 29) dX11_look_29 rfl rfl ?_
      refine ok_if_lt (tgt := 38) (pc := 30) dX11_look_30 rfl hp2 (fun q6 => ?_) (fun q6 => ?_)
      · have h := iteT h q6
        refine ok_iconst (pc := 38) dX11_look_38 ?_
        exact ok_iret (pc := 39) dX11_look_39 rfl rfl rfl (r_lit rfl) h
      · have h := iteF h q6
        refine ok_iload_n 3 (pc := 33) dX11_look_33 rfl rfl ?_
        refine ok_iconst (pc := 34) dX11_look_34 ?_
        refine ok_icmp_le (tgt := 40) (pc := 35) dX11_look_35 rfl hp2 (r_lit rfl) (fun q7 => ?_) (fun q7 => ?_)
        · have h := iteF h q7
          refine ok_sub (L' := [(0, .ref (xad X 0)), (1, vI p1), (2, vI p2), (3, vI s0)]) [1,2,3,0] rfl ?_
          exact w_X11_look_40 X p1 p2 hp1 hp2 s0 hs0 h
        · have h := iteT h q7
          refine ok_iconst (pc := 38) dX11_look_38 ?_
          exact ok_iret (pc := 39) dX11_look_39 rfl rfl rfl (r_lit rfl) h
set_option maxRecDepth 100000 in
set_option maxHeartbeats 4000000 in
theorem c_X11_look (X : XE) (p1 : Int) (p2 : Int) (hp1 : inR p1) (hp2 : inR p2) {σ : Mem} {Q : Int → Mem → Prop} (h : v_X11_look p1 p2 σ Q) : CT X yX11_look cX11_look 4 (some .int) rm_X11_look 1 [.ref (xad X 0), vI p1, vI p2] σ Q := by
  refine ct_of (own := RX11) (L := [(0, .ref (xad X 0)), (1, vI p1), (2, vI p2)]) rfl rfl (Nat.le_of_ble_eq_true rfl) rfl ?_
  unfold v_X11_look at h
  refine ok_iload_n 2 (pc := 0) dX11_look_0 rfl rfl ?_
  refine ok_bipush (pc := 1) dX11_look_1 rfl ?_
  refine ok_icmp_lt (tgt := 16) (pc := 3) dX11_look_3 rfl hp2 (r_lit rfl) (fun q1 => ?_) (fun q1 => ?_)
  · simp only [if_pos q1] at h
    refine ok_iconst (pc := 16) dX11_look_16 ?_
    exact w_X11_look_17 X p1 p2 hp1 hp2 0 (r_lit rfl) h
  · simp only [if_neg q1] at h
    refine ok_iload_n 2 (pc := 6) dX11_look_6 rfl rfl ?_
    refine ok_bipush (pc := 7) dX11_look_7 rfl ?_
    refine ok_icmp_ge (tgt := 16) (pc := 9) dX11_look_9 rfl hp2 (r_lit rfl) (fun q2 => ?_) (fun q2 => ?_)
    · simp only [if_neg q2] at h
      refine ok_iconst (pc := 16) dX11_look_16 ?_
      exact w_X11_look_17 X p1 p2 hp1 hp2 0 (r_lit rfl) h
    · simp only [if_pos q2] at h
      refine ok_iconst (pc := 12) dX11_look_12 ?_
      refine ok_goto (tgt := 17) (pc := 13) dX11_look_13 rfl ?_
      exact w_X11_look_17 X p1 p2 hp1 hp2 1 (r_lit rfl) h
theorem dX1_canMeasure_0 : decode cX1_canMeasure 0 = .ok (.aload_n 0, 1) := by decide +kernel
theorem dX1_canMeasure_1 : decode cX1_canMeasure 1 = .ok (.getfield 15, 3) := by decide +kernel
theorem dX1_canMeasure_4 : decode cX1_canMeasure 4 = .ok (.iload_n 1, 1) := by decide +kernel
theorem dX1_canMeasure_5 : decode cX1_canMeasure 5 = .ok (.iaload, 1) := by decide +kernel
theorem dX1_canMeasure_6 : decode cX1_canMeasure 6 = .ok (.ifCond .eq 11, 3) := by decide +kernel
theorem dX1_canMeasure_9 : decode cX1_canMeasure 9 = .ok (.aload_n 0, 1) := by decide +kernel
theorem dX1_canMeasure_10 : decode cX1_canMeasure 10 = .ok (.getfield 40, 3) := by decide +kernel
theorem dX1_canMeasure_13 : decode cX1_canMeasure 13 = .ok (.iconst 1, 1) := by decide +kernel
theorem dX1_canMeasure_14 : decode cX1_canMeasure 14 = .ok (.if_icmp .eq 10, 3) := by decide +kernel
theorem dX1_canMeasure_17 : decode cX1_canMeasure 17 = .ok (.aload_n 0, 1) := by decide +kernel
theorem dX1_canMeasure_18 : decode cX1_canMeasure 18 = .ok (.getfield 15, 3) := by decide +kernel
theorem dX1_canMeasure_21 : decode cX1_canMeasure 21 = .ok (.iload_n 1, 1) := by decide +kernel
theorem dX1_canMeasure_22 : decode cX1_canMeasure 22 = .ok (.iaload, 1) := by decide +kernel
theorem dX1_canMeasure_23 : decode cX1_canMeasure 23 = .ok (.ireturn, 1) := by decide +kernel
theorem dX1_canMeasure_24 : decode cX1_canMeasure 24 = .ok (.aload_n 0, 1) := by decide +kernel
theorem dX1_canMeasure_25 : decode cX1_canMeasure 25 = .ok (.getfield 15, 3) := by decide +kernel
theorem dX1_canMeasure_28 : decode cX1_canMeasure 28 = .ok (.iload_n 1, 1) := by decide +kernel
theorem dX1_canMeasure_29 : decode cX1_canMeasure 29 = .ok (.iaload, 1) := by decide +kernel
theorem dX1_canMeasure_30 : decode cX1_canMeasure 30 = .ok (.iload_n 3, 1) := by decide +kernel
theorem dX1_canMeasure_31 : decode cX1_canMeasure 31 = .ok (.iload_n 2, 1) := by decide +kernel
theorem dX1_canMeasure_32 : decode cX1_canMeasure 32 = .ok (.aload_n 0, 1) := by decide +kernel
theorem dX1_canMeasure_33 : decode cX1_canMeasure 33 = .ok (.getfield 27, 3) := by decide +kernel
theorem dX1_canMeasure_36 : decode cX1_canMeasure 36 = .ok (.isub, 1) := by decide +kernel
theorem dX1_canMeasure_37 : decode cX1_canMeasure 37 = .ok (.imul, 1) := by decide +kernel
theorem dX1_canMeasure_38 : decode cX1_canMeasure 38 = .ok (.bipush 100, 2) := by decide +kernel
theorem dX1_canMeasure_40 : decode cX1_canMeasure 40 = .ok (.idiv, 1) := by decide +kernel
theorem dX1_canMeasure_41 : decode cX1_canMeasure 41 = .ok (.iadd, 1) := by decide +kernel
theorem dX1_canMeasure_42 : decode cX1_canMeasure 42 = .ok (.ireturn, 1) := by decide +kernel
set_option maxRecDepth 100000 in
set_option maxHeartbeats 4000000 in
theorem w_X1_canMeasure_17 (X : XE) (c0 : Nat) (p1 : Int) (p2 : Int) (p3 : Int) (hc0 : c0 < 24) (hp1 : inR p1) (hp2 : inR p2) (hp3 : inR p3) {Q : Int → Mem → Prop} {σ : Mem} (h : j_X1_canMeasure_17 c0 p1 p2 p3 Q σ) : ok X rm_X1_canMeasure RX1 cX1_canMeasure 4 (some .int) 1 Q 17 [(0, .ref (xad X (23 + 3 * c0))), (1, vI p1)] [] σ := by
  refine ok_aload_n 0 (pc := 17) dX1_canMeasure_17 rfl rfl ?_
  refine ok_getR (pc := 18) dX1_canMeasure_18 fl_X1_15 (sh_card c0 hc0) (lt_card hc0).1 rfl rfl ?_
  refine ok_iload_n 1 (pc := 21) dX1_canMeasure_21 rfl rfl ?_
  obtain ⟨h1, h⟩ := h
  obtain ⟨h2, h⟩ := h
  refine ok_wf (fun hw3 => ?_)
  refine ok_iald (pc := 22) dX1_canMeasure_22 (sh_cme c0 hc0) (lt_card hc0).2.2 rfl h1 h2 ?_
  exact ok_iret (pc := 23) dX1_canMeasure_23 rfl rfl rfl (hw3 _ _) h
set_option maxRecDepth 100000 in
set_option maxHeartbeats 4000000 in
theorem c_X1_canMeasure (X : XE) (c0 : Nat) (p1 : Int) (p2 : Int) (p3 : Int) (hc0 : c0 < 24) (hp1 : inR p1) (hp2 : inR p2) (hp3 : inR p3) {σ : Mem} {Q : Int → Mem → Prop} (h : v_X1_canMeasure c0 p1 p2 p3 σ Q) : CT X yX1_canMeasure cX1_canMeasure 4 (some .int) rm_X1_canMeasure 1 [.ref (xad X (23 + 3 * c0)), vI p1, vI p2, vI p3] σ Q := by
  refine ct_of (own := RX1) (L := [(0, .ref (xad X (23 + 3 * c0))), (1, vI p1), (2, vI p2), (3, vI p3)]) rfl rfl (Nat.le_of_ble_eq_true rfl) rfl ?_
  refine ok_aload_n 0 (pc := 0) dX1_canMeasure_0 rfl rfl ?_
  refine ok_getR (pc := 1) dX1_canMeasure_1 fl_X1_15 (sh_card c0 hc0) (lt_card hc0).1 rfl rfl ?_
  refine ok_iload_n 1 (pc := 4) dX1_canMeasure_4 rfl rfl ?_
  obtain ⟨h1, h⟩ := h
  obtain ⟨h2, h⟩ := h
  refine ok_wf (fun hw3 => ?_)
  refine ok_iald (pc := 5) dX1_canMeasure_5 (sh_cme c0 hc0) (lt_card hc0).2.2 rfl h1 h2 ?_
  refine ok_if_eq (tgt := 17) (pc := 6) dX1_canMeasure_6 rfl (hw3 _ _) (fun q4 => ?_) (fun q4 => ?_)
  · have h := iteT h q4
    refine ok_sub (L' := [(0, .ref (xad X (23 + 3 * c0))), (1, vI p1)]) [0,1] rfl ?_
    exact w_X1_canMeasure_17 X c0 p1 p2 p3 hc0 hp1 hp2 hp3   h
  · have h := iteF h q4
    refine ok_aload_n 0 (pc := 9) dX1_canMeasure_9 rfl rfl ?_
    refine ok_getI (pc := 10) dX1_canMeasure_10 fl_X1_40 (sh_card c0 hc0) (lt_card hc0).1 rfl rfl ?_
    refine ok_iconst (pc := 13) dX1_canMeasure_13 ?_
    refine ok_icmp_eq (tgt := 24) (pc := 14) dX1_canMeasure_14 rfl (hw3 _ _) (r_lit rfl) (fun q5 => ?_) (fun q5 => ?_)
    · have h := iteT h q5
      refine ok_aload_n 0 (pc := 24) dX1_canMeasure_24 rfl rfl ?_
      refine ok_getR (pc := 25) dX1_canMeasure_25 fl_X1_15 (sh_card c0 hc0) (lt_card hc0).1 rfl rfl ?_
      refine ok_iload_n 1 (pc := 28) dX1_canMeasure_28 rfl rfl ?_
      refine ok_iald (pc := 29) dX1_canMeasure_29 (sh_cme c0 hc0) (lt_card hc0).2.2 rfl h1 h2 ?_
      refine ok_iload_n 3 (pc := 30) dX1_canMeasure_30 rfl rfl ?_
      refine ok_iload_n 2 (pc := 31) dX1_canMeasure_31 rfl rfl ?_
      refine ok_aload_n 0 (pc := 32) dX1_canMeasure_32 rfl rfl ?_
      refine ok_getI (pc := 33) dX1_canMeasure_33 fl_X1_27 (sh_card c0 hc0) (lt_card hc0).1 rfl rfl ?_
      refine ok_isub (pc := 36) dX1_canMeasure_36 ?_
      refine ok_imul (pc := 37) dX1_canMeasure_37 ?_
      refine ok_bipush (pc := 38) dX1_canMeasure_38 rfl ?_
      obtain ⟨h6, h⟩ := h
      refine ok_idiv (pc := 40) dX1_canMeasure_40 h6 (r_lit rfl) (by decide) ?_
      refine ok_iadd (pc := 41) dX1_canMeasure_41 ?_
      obtain ⟨h7, h⟩ := h
      exact ok_iret (pc := 42) dX1_canMeasure_42 rfl rfl rfl h7 h
    · have h := iteF h q5
      refine ok_sub (L' := [(0, .ref (xad X (23 + 3 * c0))), (1, vI p1)]) [0,1] rfl ?_
      exact w_X1_canMeasure_17 X c0 p1 p2 p3 hc0 hp1 hp2 hp3   h
theorem dX1_miss_0 : decode cX1_miss 0 = .ok (.aload_n 0, 1) := by decide +kernel
theorem dX1_miss_1 : decode cX1_miss 1 = .ok (.invokevirtual 43, 3) := by decide +kernel
theorem dX1_miss_4 : decode cX1_miss 4 = .ok (.ifCond .eq 6, 3) := by decide +kernel
theorem dX1_miss_7 : decode cX1_miss 7 = .ok (.bipush (-4), 2) := by decide +kernel
theorem dX1_miss_9 : decode cX1_miss 9 = .ok (.ireturn, 1) := by decide +kernel
theorem dX1_miss_10 : decode cX1_miss 10 = .ok (.iconst 0, 1) := by decide +kernel
theorem dX1_miss_11 : decode cX1_miss 11 = .ok (.istore 4, 2) := by decide +kernel
theorem dX1_miss_13 : decode cX1_miss 13 = .ok (.iconst 0, 1) := by decide +kernel
theorem dX1_miss_14 : decode cX1_miss 14 = .ok (.istore 5, 2) := by decide +kernel
theorem dX1_miss_16 : decode cX1_miss 16 = .ok (.iload 5, 2) := by decide +kernel
theorem dX1_miss_18 : decode cX1_miss 18 = .ok (.iconst 4, 1) := by decide +kernel
theorem dX1_miss_19 : decode cX1_miss 19 = .ok (.if_icmp .ge 92, 3) := by decide +kernel
theorem dX1_miss_22 : decode cX1_miss 22 = .ok (.aload_n 1, 1) := by decide +kernel
theorem dX1_miss_23 : decode cX1_miss 23 = .ok (.iload 5, 2) := by decide +kernel
theorem dX1_miss_25 : decode cX1_miss 25 = .ok (.iaload, 1) := by decide +kernel
theorem dX1_miss_26 : decode cX1_miss 26 = .ok (.ifCond .le 79, 3) := by decide +kernel
theorem dX1_miss_29 : decode cX1_miss 29 = .ok (.aload_n 0, 1) := by decide +kernel
theorem dX1_miss_30 : decode cX1_miss 30 = .ok (.getfield 15, 3) := by decide +kernel
theorem dX1_miss_33 : decode cX1_miss 33 = .ok (.iload 5, 2) := by decide +kernel
theorem dX1_miss_35 : decode cX1_miss 35 = .ok (.iaload, 1) := by decide +kernel
theorem dX1_miss_36 : decode cX1_miss 36 = .ok (.ifCond .le 69, 3) := by decide +kernel
theorem dX1_miss_39 : decode cX1_miss 39 = .ok (.aload_n 0, 1) := by decide +kernel
theorem dX1_miss_40 : decode cX1_miss 40 = .ok (.iload 5, 2) := by decide +kernel
theorem dX1_miss_42 : decode cX1_miss 42 = .ok (.aload_n 3, 1) := by decide +kernel
theorem dX1_miss_43 : decode cX1_miss 43 = .ok (.getfield 22, 3) := by decide +kernel
theorem dX1_miss_46 : decode cX1_miss 46 = .ok (.aload_n 3, 1) := by decide +kernel
theorem dX1_miss_47 : decode cX1_miss 47 = .ok (.getfield 30, 3) := by decide +kernel
theorem dX1_miss_50 : decode cX1_miss 50 = .ok (.bipush 14, 2) := by decide +kernel
theorem dX1_miss_52 : decode cX1_miss 52 = .ok (.iload 5, 2) := by decide +kernel
theorem dX1_miss_54 : decode cX1_miss 54 = .ok (.iadd, 1) := by decide +kernel
theorem dX1_miss_55 : decode cX1_miss 55 = .ok (.iaload, 1) := by decide +kernel
theorem dX1_miss_56 : decode cX1_miss 56 = .ok (.invokevirtual 47, 3) := by decide +kernel
theorem dX1_miss_59 : decode cX1_miss 59 = .ok (.istore 6, 2) := by decide +kernel
theorem dX1_miss_61 : decode cX1_miss 61 = .ok (.iconst 0, 1) := by decide +kernel
theorem dX1_miss_62 : decode cX1_miss 62 = .ok (.aload_n 0, 1) := by decide +kernel
theorem dX1_miss_63 : decode cX1_miss 63 = .ok (.getfield 15, 3) := by decide +kernel
theorem dX1_miss_66 : decode cX1_miss 66 = .ok (.iload 5, 2) := by decide +kernel
theorem dX1_miss_68 : decode cX1_miss 68 = .ok (.iaload, 1) := by decide +kernel
theorem dX1_miss_69 : decode cX1_miss 69 = .ok (.aload_n 1, 1) := by decide +kernel
theorem dX1_miss_70 : decode cX1_miss 70 = .ok (.iload 5, 2) := by decide +kernel
theorem dX1_miss_72 : decode cX1_miss 72 = .ok (.iaload, 1) := by decide +kernel
theorem dX1_miss_73 : decode cX1_miss 73 = .ok (.isub, 1) := by decide +kernel
theorem dX1_miss_74 : decode cX1_miss 74 = .ok (.aload_n 1, 1) := by decide +kernel
theorem dX1_miss_75 : decode cX1_miss 75 = .ok (.iload 5, 2) := by decide +kernel
theorem dX1_miss_77 : decode cX1_miss 77 = .ok (.iaload, 1) := by decide +kernel
theorem dX1_miss_78 : decode cX1_miss 78 = .ok (.iload 6, 2) := by decide +kernel
theorem dX1_miss_80 : decode cX1_miss 80 = .ok (.isub, 1) := by decide +kernel
theorem dX1_miss_81 : decode cX1_miss 81 = .ok (.invokestatic 51, 3) := by decide +kernel
theorem dX1_miss_84 : decode cX1_miss 84 = .ok (.invokestatic 51, 3) := by decide +kernel
theorem dX1_miss_87 : decode cX1_miss 87 = .ok (.istore 7, 2) := by decide +kernel
theorem dX1_miss_89 : decode cX1_miss 89 = .ok (.iload 7, 2) := by decide +kernel
theorem dX1_miss_91 : decode cX1_miss 91 = .ok (.iload_n 2, 1) := by decide +kernel
theorem dX1_miss_92 : decode cX1_miss 92 = .ok (.if_icmp .le 6, 3) := by decide +kernel
theorem dX1_miss_95 : decode cX1_miss 95 = .ok (.bipush (-4), 2) := by decide +kernel
theorem dX1_miss_97 : decode cX1_miss 97 = .ok (.ireturn, 1) := by decide +kernel
theorem dX1_miss_98 : decode cX1_miss 98 = .ok (.iload 4, 2) := by decide +kernel
theorem dX1_miss_100 : decode cX1_miss 100 = .ok (.iload 7, 2) := by decide +kernel
theorem dX1_miss_102 : decode cX1_miss 102 = .ok (.iadd, 1) := by decide +kernel
theorem dX1_miss_103 : decode cX1_miss 103 = .ok (.istore 4, 2) := by decide +kernel
theorem dX1_miss_105 : decode cX1_miss 105 = .ok (.iinc 5 1, 3) := by decide +kernel
theorem dX1_miss_108 : decode cX1_miss 108 = .ok (.goto (-92), 3) := by decide +kernel
theorem dX1_miss_111 : decode cX1_miss 111 = .ok (.iload 4, 2) := by decide +kernel
theorem dX1_miss_113 : decode cX1_miss 113 = .ok (.ireturn, 1) := by decide +kernel
set_option maxRecDepth 100000 in
set_option maxHeartbeats 4000000 in
theorem w_X1_miss_t_16 (X : XE) (c0 : Nat) (p2 : Int) (hc0 : c0 < 24) (hp2 : inR p2) {Q : Int → Mem → Prop} : ∀ (n : Nat) (x4 : Int) (x5 : Int) (σ : Mem), inR x4 → inR x5 → l_X1_miss_t_16 c0 p2 Q n x4 x5 σ → ok X rm_X1_miss_t RX1 cX1_miss 8 (some .int) 1 Q 16 [(0, .ref (xad X (23 + 3 * c0))), (1, .ref (xad X 96)), (2, vI p2), (3, .ref (xad X 14)), (4, vI x4), (5, vI x5)] [] σ := by
  intro n
  induction n with
  | zero => intro x4 x5 σ hx4 hx5 h; exact False.elim h
  | succ n ih =>
    intro x4 x5 σ hx4 hx5 h
    refine ok_iload 5 (pc := 16) dX1_miss_16 rfl ?_
    refine ok_iconst (pc := 18) dX1_miss_18 ?_
    refine ok_icmp_ge (tgt := 111) (pc := 19) dX1_miss_19 rfl hx5 (r_lit rfl) (fun q1 => ?_) (fun q1 => ?_)
    · have h := iteF h q1
      refine ok_iload 4 (pc := 111) dX1_miss_111 rfl ?_
      exact ok_iret (pc := 113) dX1_miss_113 rfl rfl rfl hx4 h
    · have h := iteT h q1
      refine ok_aload_n 1 (pc := 22) dX1_miss_22 rfl rfl ?_
      refine ok_iload 5 (pc := 23) dX1_miss_23 rfl ?_
      obtain ⟨h2, h⟩ := h
      obtain ⟨h3, h⟩ := h
      refine ok_wf (fun hw4 => ?_)
      refine ok_iald (pc := 25) dX1_miss_25 sh_96 (Nat.le_of_ble_eq_true rfl) rfl h2 h3 ?_
      refine ok_if_le (tgt := 105) (pc := 26) dX1_miss_26 rfl (hw4 _ _) (fun q5 => ?_) (fun q5 => ?_)
      · have h := iteF h q5
        refine ok_iinc (L' := [(5, vI (x5 + 1)), (0, .ref (xad X (23 + 3 * c0))), (1, .ref (xad X 96)), (2, vI p2), (3, .ref (xad X 14)), (4, vI x4)]) 5 (pc := 105) dX1_miss_105 rfl rfl rfl ?_
        refine ok_goto (tgt := 16) (pc := 108) dX1_miss_108 rfl ?_
        obtain ⟨h6, h⟩ := h
        refine ok_sub (L' := [(0, .ref (xad X (23 + 3 * c0))), (1, .ref (xad X 96)), (2, vI p2), (3, .ref (xad X 14)), (4, vI x4), (5, vI (x5 + 1))]) [1,2,3,4,5,0] rfl ?_
        exact ih x4 (x5 + 1) σ hx4 h6 h
      · have h := iteT h q5
        refine ok_aload_n 0 (pc := 29) dX1_miss_29 rfl rfl ?_
        refine ok_getR (pc := 30) dX1_miss_30 fl_X1_15 (sh_card c0 hc0) (lt_card hc0).1 rfl rfl ?_
        refine ok_iload 5 (pc := 33) dX1_miss_33 rfl ?_
        refine ok_iald (pc := 35) dX1_miss_35 (sh_cme c0 hc0) (lt_card hc0).2.2 rfl h2 h3 ?_
        refine ok_if_le (tgt := 105) (pc := 36) dX1_miss_36 rfl (hw4 _ _) (fun q7 => ?_) (fun q7 => ?_)
        · have h := iteF h q7
          refine ok_iinc (L' := [(5, vI (x5 + 1)), (0, .ref (xad X (23 + 3 * c0))), (1, .ref (xad X 96)), (2, vI p2), (3, .ref (xad X 14)), (4, vI x4)]) 5 (pc := 105) dX1_miss_105 rfl rfl rfl ?_
          refine ok_goto (tgt := 16) (pc := 108) dX1_miss_108 rfl ?_
          obtain ⟨h8, h⟩ := h
          refine ok_sub (L' := [(0, .ref (xad X (23 + 3 * c0))), (1, .ref (xad X 96)), (2, vI p2), (3, .ref (xad X 14)), (4, vI x4), (5, vI (x5 + 1))]) [1,2,3,4,5,0] rfl ?_
          exact ih x4 (x5 + 1) σ hx4 h8 h
        · have h := iteT h q7
          refine ok_aload_n 0 (pc := 39) dX1_miss_39 rfl rfl ?_
          refine ok_iload 5 (pc := 40) dX1_miss_40 rfl ?_
          refine ok_aload_n 3 (pc := 42) dX1_miss_42 rfl rfl ?_
          refine ok_getI (pc := 43) dX1_miss_43 fl_X1_22 sh_14 (Nat.le_of_ble_eq_true rfl) rfl rfl ?_
          refine ok_aload_n 3 (pc := 46) dX1_miss_46 rfl rfl ?_
          refine ok_getR (pc := 47) dX1_miss_47 fl_X1_30 sh_14 (Nat.le_of_ble_eq_true rfl) rfl rfl ?_
          refine ok_bipush (pc := 50) dX1_miss_50 rfl ?_
          refine ok_iload 5 (pc := 52) dX1_miss_52 rfl ?_
          refine ok_iadd (pc := 54) dX1_miss_54 ?_
          obtain ⟨h9, h⟩ := h
          obtain ⟨h10, h⟩ := h
          refine ok_iald (pc := 55) dX1_miss_55 sh_15 (Nat.le_of_ble_eq_true rfl) rfl h9 h10 ?_
          refine ok_callVi (As := [vI x5, vI (σ 14 2), vI (σ 15 (14 + x5).toNat)]) (rest := []) (rm := rm_X1_canMeasure) (pc := 56) dX1_miss_56 me_X1_canMeasure ml_X1_47 (ci := 1) rfl (sh_card c0 hc0) (lt_card hc0).1 rfl des_X1_canMeasure rfl ⟨rfl, rfl, rfl, rfl⟩ rfl rfl (c_X1_canMeasure X c0 x5 (σ 14 2) (σ 15 (14 + x5).toNat) hc0 hx5 (hw4 _ _) (hw4 _ _) h) (fun r12 σ13 h11 h => ?_)
          refine ok_istore (L' := [(6, vI r12), (0, .ref (xad X (23 + 3 * c0))), (1, .ref (xad X 96)), (2, vI p2), (3, .ref (xad X 14)), (4, vI x4), (5, vI x5)]) (pc := 59) dX1_miss_59 rfl rfl ?_
          refine ok_iconst (pc := 61) dX1_miss_61 ?_
          refine ok_aload_n 1 (pc := 62) dX1_miss_62 rfl rfl ?_
          refine ok_getR (pc := 63) dX1_miss_63 fl_X1_15 (sh_card c0 hc0) (lt_card hc0).1 rfl rfl ?_
          refine ok_iload 6 (pc := 66) dX1_miss_66 rfl ?_
          refine ok_wf (fun hw14 => ?_)
          refine ok_iald (pc := 68) dX1_miss_68 (sh_cme c0 hc0) (lt_card hc0).2.2 rfl h2 h3 ?_
          refine ok_aload_n 2 (pc := 69) dX1_miss_69 rfl rfl ?_
          refine ok_iload 6 (pc := 70) dX1_miss_70 rfl ?_
          refine ok_iald (pc := 72) dX1_miss_72 sh_96 (Nat.le_of_ble_eq_true rfl) rfl h2 h3 ?_
          refine ok_isub (pc := 73) dX1_miss_73 ?_
          refine ok_aload_n 2 (pc := 74) dX1_miss_74 rfl rfl ?_
          refine ok_iload 6 (pc := 75) dX1_miss_75 rfl ?_
          refine ok_iald (pc := 77) dX1_miss_77 sh_96 (Nat.le_of_ble_eq_true rfl) rfl h2 h3 ?_
          refine ok_iload 0 (pc := 78) dX1_miss_78 rfl ?_
          refine ok_isub (pc := 80) dX1_miss_80 ?_
          obtain ⟨h15, h⟩ := h
          obtain ⟨h16, h⟩ := h
          refine ok_max (pc := 81) dX1_miss_81 ml_X1_51 ⟨rfl, rfl⟩ h15 h16 ?_
          refine ok_max (pc := 84) dX1_miss_84 ml_X1_51 ⟨rfl, rfl⟩ (r_lit rfl) (r_max h15 h16) ?_
          refine ok_istore (L' := [(7, vI (imax 0 (imax ((σ13 (25 + 3 * c0) x5.toNat) - (σ13 96 x5.toNat)) ((σ13 96 x5.toNat) - r12)))), (6, vI r12), (0, .ref (xad X (23 + 3 * c0))), (1, .ref (xad X 96)), (2, vI p2), (3, .ref (xad X 14)), (4, vI x4), (5, vI x5)]) (pc := 87) dX1_miss_87 rfl rfl ?_
          refine ok_iload 0 (pc := 89) dX1_miss_89 rfl ?_
          refine ok_iload_n 4 (pc := 91) dX1_miss_91 rfl rfl ?_
          refine ok_icmp_le (tgt := 98) (pc := 92) dX1_miss_92 rfl (r_max (r_lit rfl) (r_max h15 h16)) hp2 (fun q17 => ?_) (fun q17 => ?_)
          · have h := iteF h q17
            refine ok_iload 6 (pc := 98) dX1_miss_98 rfl ?_
            refine ok_iload 0 (pc := 100) dX1_miss_100 rfl ?_
            refine ok_iadd (pc := 102) dX1_miss_102 ?_
            refine ok_istore (L' := [(4, vI (x4 + (imax 0 (imax ((σ13 (25 + 3 * c0) x5.toNat) - (σ13 96 x5.toNat)) ((σ13 96 x5.toNat) - r12))))), (7, vI (imax 0 (imax ((σ13 (25 + 3 * c0) x5.toNat) - (σ13 96 x5.toNat)) ((σ13 96 x5.toNat) - r12)))), (6, vI r12), (0, .ref (xad X (23 + 3 * c0))), (1, .ref (xad X 96)), (2, vI p2), (3, .ref (xad X 14)), (5, vI x5)]) (pc := 103) dX1_miss_103 rfl rfl ?_
            refine ok_iinc (L' := [(5, vI (x5 + 1)), (4, vI (x4 + (imax 0 (imax ((σ13 (25 + 3 * c0) x5.toNat) - (σ13 96 x5.toNat)) ((σ13 96 x5.toNat) - r12))))), (7, vI (imax 0 (imax ((σ13 (25 + 3 * c0) x5.toNat) - (σ13 96 x5.toNat)) ((σ13 96 x5.toNat) - r12)))), (6, vI r12), (0, .ref (xad X (23 + 3 * c0))), (1, .ref (xad X 96)), (2, vI p2), (3, .ref (xad X 14))]) 7 (pc := 105) dX1_miss_105 rfl rfl rfl ?_
            refine ok_goto (tgt := 16) (pc := 108) dX1_miss_108 rfl ?_
            obtain ⟨h18, h⟩ := h
            obtain ⟨h19, h⟩ := h
            refine ok_sub (L' := [(0, .ref (xad X (23 + 3 * c0))), (1, .ref (xad X 96)), (2, vI p2), (3, .ref (xad X 14)), (4, vI (x4 + (imax 0 (imax ((σ13 (25 + 3 * c0) x5.toNat) - (σ13 96 x5.toNat)) ((σ13 96 x5.toNat) - r12))))), (5, vI (x5 + 1))]) [4,5,6,7,1,0] rfl ?_
            exact ih (x4 + (imax 0 (imax ((σ13 (25 + 3 * c0) x5.toNat) - (σ13 96 x5.toNat)) ((σ13 96 x5.toNat) - r12)))) (x5 + 1) σ13 h18 h19 h
          · have h := iteT h q17
            refine ok_bipush (pc := 95) dX1_miss_95 rfl ?_
            exact ok_iret (pc := 97) dX1_miss_97 rfl rfl rfl (r_lit rfl) h
set_option maxRecDepth 100000 in
set_option maxHeartbeats 4000000 in
theorem c_X1_miss_t (X : XE) (c0 : Nat) (p2 : Int) (hc0 : c0 < 24) (hp2 : inR p2) {σ : Mem} {Q : Int → Mem → Prop} (h : v_X1_miss_t c0 p2 σ Q) : CT X yX1_miss cX1_miss 8 (some .int) rm_X1_miss_t 1 [.ref (xad X (23 + 3 * c0)), .ref (xad X 96), vI p2, .ref (xad X 14)] σ Q := by
  refine ct_of (own := RX1) (L := [(0, .ref (xad X (23 + 3 * c0))), (1, .ref (xad X 96)), (2, vI p2), (3, .ref (xad X 14))]) rfl rfl (Nat.le_of_ble_eq_true rfl) rfl ?_
  refine ok_aload_n 0 (pc := 0) dX1_miss_0 rfl rfl ?_
  refine ok_callVi (As := []) (rest := []) (rm := rm_X1_isOut) (pc := 1) dX1_miss_1 me_X1_isOut ml_X1_43 (ci := 1) rfl (sh_card c0 hc0) (lt_card hc0).1 rfl des_X1_isOut rfl ⟨rfl, rfl, rfl, rfl⟩ rfl rfl (c_X1_isOut X c0 hc0 h) (fun r2 σ3 h1 h => ?_)
  refine ok_if_eq (tgt := 10) (pc := 4) dX1_miss_4 rfl h1 (fun q4 => ?_) (fun q4 => ?_)
  · have h := iteT h q4
    refine ok_iconst (pc := 10) dX1_miss_10 ?_
    refine ok_istore (L' := [(4, vI 0), (0, .ref (xad X (23 + 3 * c0))), (1, .ref (xad X 96)), (2, vI p2), (3, .ref (xad X 14))]) (pc := 11) dX1_miss_11 rfl rfl ?_
    refine ok_iconst (pc := 13) dX1_miss_13 ?_
    refine ok_istore (L' := [(5, vI 0), (4, vI 0), (0, .ref (xad X (23 + 3 * c0))), (1, .ref (xad X 96)), (2, vI p2), (3, .ref (xad X 14))]) (pc := 14) dX1_miss_14 rfl rfl ?_
    refine ok_sub (L' := [(0, .ref (xad X (23 + 3 * c0))), (1, .ref (xad X 96)), (2, vI p2), (3, .ref (xad X 14)), (4, vI 0), (5, vI 0)]) [2,3,4,5,1,0] rfl ?_
    obtain ⟨n5, h⟩ := h
    exact w_X1_miss_t_16 X c0 p2 hc0 hp2 n5 0 0 σ3 (r_lit rfl) (r_lit rfl) h
  · have h := iteF h q4
    refine ok_bipush (pc := 7) dX1_miss_7 rfl ?_
    exact ok_iret (pc := 9) dX1_miss_9 rfl rfl rfl (r_lit rfl) h
theorem dX10_insert_0 : decode cX10_insert 0 = .ok (.aload_n 0, 1) := by decide +kernel
theorem dX10_insert_1 : decode cX10_insert 1 = .ok (.getfield 21, 3) := by decide +kernel
theorem dX10_insert_4 : decode cX10_insert 4 = .ok (.istore_n 2, 1) := by decide +kernel
theorem dX10_insert_5 : decode cX10_insert 5 = .ok (.iload_n 2, 1) := by decide +kernel
theorem dX10_insert_6 : decode cX10_insert 6 = .ok (.ifCond .le 45, 3) := by decide +kernel
theorem dX10_insert_9 : decode cX10_insert 9 = .ok (.aload_n 0, 1) := by decide +kernel
theorem dX10_insert_10 : decode cX10_insert 10 = .ok (.getfield 15, 3) := by decide +kernel
theorem dX10_insert_13 : decode cX10_insert 13 = .ok (.aload_n 0, 1) := by decide +kernel
theorem dX10_insert_14 : decode cX10_insert 14 = .ok (.getfield 18, 3) := by decide +kernel
theorem dX10_insert_17 : decode cX10_insert 17 = .ok (.iload_n 2, 1) := by decide +kernel
theorem dX10_insert_18 : decode cX10_insert 18 = .ok (.iconst 1, 1) := by decide +kernel
theorem dX10_insert_19 : decode cX10_insert 19 = .ok (.isub, 1) := by decide +kernel
theorem dX10_insert_20 : decode cX10_insert 20 = .ok (.iaload, 1) := by decide +kernel
theorem dX10_insert_21 : decode cX10_insert 21 = .ok (.iaload, 1) := by decide +kernel
theorem dX10_insert_22 : decode cX10_insert 22 = .ok (.aload_n 0, 1) := by decide +kernel
theorem dX10_insert_23 : decode cX10_insert 23 = .ok (.getfield 15, 3) := by decide +kernel
theorem dX10_insert_26 : decode cX10_insert 26 = .ok (.iload_n 1, 1) := by decide +kernel
theorem dX10_insert_27 : decode cX10_insert 27 = .ok (.iaload, 1) := by decide +kernel
theorem dX10_insert_28 : decode cX10_insert 28 = .ok (.if_icmp .le 23, 3) := by decide +kernel
theorem dX10_insert_31 : decode cX10_insert 31 = .ok (.aload_n 0, 1) := by decide +kernel
theorem dX10_insert_32 : decode cX10_insert 32 = .ok (.getfield 18, 3) := by decide +kernel
theorem dX10_insert_35 : decode cX10_insert 35 = .ok (.iload_n 2, 1) := by decide +kernel
theorem dX10_insert_36 : decode cX10_insert 36 = .ok (.aload_n 0, 1) := by decide +kernel
theorem dX10_insert_37 : decode cX10_insert 37 = .ok (.getfield 18, 3) := by decide +kernel
theorem dX10_insert_40 : decode cX10_insert 40 = .ok (.iload_n 2, 1) := by decide +kernel
theorem dX10_insert_41 : decode cX10_insert 41 = .ok (.iconst 1, 1) := by decide +kernel
theorem dX10_insert_42 : decode cX10_insert 42 = .ok (.isub, 1) := by decide +kernel
theorem dX10_insert_43 : decode cX10_insert 43 = .ok (.iaload, 1) := by decide +kernel
theorem dX10_insert_44 : decode cX10_insert 44 = .ok (.iastore, 1) := by decide +kernel
theorem dX10_insert_45 : decode cX10_insert 45 = .ok (.iinc 2 (-1), 3) := by decide +kernel
theorem dX10_insert_48 : decode cX10_insert 48 = .ok (.goto (-43), 3) := by decide +kernel
theorem dX10_insert_51 : decode cX10_insert 51 = .ok (.aload_n 0, 1) := by decide +kernel
theorem dX10_insert_52 : decode cX10_insert 52 = .ok (.getfield 18, 3) := by decide +kernel
theorem dX10_insert_55 : decode cX10_insert 55 = .ok (.iload_n 2, 1) := by decide +kernel
theorem dX10_insert_56 : decode cX10_insert 56 = .ok (.iload_n 1, 1) := by decide +kernel
theorem dX10_insert_57 : decode cX10_insert 57 = .ok (.iastore, 1) := by decide +kernel
theorem dX10_insert_58 : decode cX10_insert 58 = .ok (.aload_n 0, 1) := by decide +kernel
theorem dX10_insert_59 : decode cX10_insert 59 = .ok (.dup, 1) := by decide +kernel
theorem dX10_insert_60 : decode cX10_insert 60 = .ok (.getfield 21, 3) := by decide +kernel
theorem dX10_insert_63 : decode cX10_insert 63 = .ok (.iconst 1, 1) := by decide +kernel
theorem dX10_insert_64 : decode cX10_insert 64 = .ok (.iadd, 1) := by decide +kernel
theorem dX10_insert_65 : decode cX10_insert 65 = .ok (.putfield 21, 3) := by decide +kernel
theorem dX10_insert_68 : decode cX10_insert 68 = .ok (.return_, 1) := by decide +kernel
set_option maxRecDepth 100000 in
set_option maxHeartbeats 4000000 in
theorem w_X10_insert_51 (X : XE) (p1 : Int) (hp1 : inR p1) (x2 : Int) (hx2 : inR x2) {Q : Int → Mem → Prop} {σ : Mem} (h : j_X10_insert_51 p1 Q x2 σ) : ok X rm_X10_insert RX10 cX10_insert 3 none 0 Q 51 [(0, .ref (xad X 95)), (1, vI p1), (2, vI x2)] [] σ := by
  refine ok_aload_n 0 (pc := 51) dX10_insert_51 rfl rfl ?_
  refine ok_getR (pc := 52) dX10_insert_52 fl_X10_18 sh_95 (Nat.le_of_ble_eq_true rfl) rfl rfl ?_
  refine ok_iload_n 2 (pc := 55) dX10_insert_55 rfl rfl ?_
  refine ok_iload_n 1 (pc := 56) dX10_insert_56 rfl rfl ?_
  obtain ⟨h1, h⟩ := h
  obtain ⟨h2, h⟩ := h
  refine ok_iast (pc := 57) dX10_insert_57 sh_98 (Nat.le_of_ble_eq_true rfl) rfl h1 h2 hp1 ?_
  refine ok_aload_n 0 (pc := 58) dX10_insert_58 rfl rfl ?_
  refine ok_dup (pc := 59) dX10_insert_59 rfl ?_
  refine ok_wf (fun hw3 => ?_)
  refine ok_getI (pc := 60) dX10_insert_60 fl_X10_21 sh_95 (Nat.le_of_ble_eq_true rfl) rfl rfl ?_
  have e4 : ((mset σ 98 (x2.toNat) p1) 95 5) = (σ 95 5) := (mset_ne (by omega))
  refine ok_top e4 ?_
  refine ok_iconst (pc := 63) dX10_insert_63 ?_
  refine ok_iadd (pc := 64) dX10_insert_64 ?_
  obtain ⟨h6, h⟩ := h
  refine ok_putI (pc := 65) dX10_insert_65 fl_X10_21 fp_X10_5 sh_95 (Nat.le_of_ble_eq_true rfl) rfl rfl h6 rfl rfl ?_
  exact ok_vret (pc := 68) dX10_insert_68 rfl rfl h
set_option maxRecDepth 100000 in
set_option maxHeartbeats 4000000 in
theorem w_X10_insert_5 (X : XE) (p1 : Int) (hp1 : inR p1) {Q : Int → Mem → Prop} : ∀ (n : Nat) (x2 : Int) (σ : Mem), inR x2 → l_X10_insert_5 p1 Q n x2 σ → ok X rm_X10_insert RX10 cX10_insert 3 none 0 Q 5 [(0, .ref (xad X 95)), (1, vI p1), (2, vI x2)] [] σ := by
  intro n
  induction n with
  | zero => intro x2 σ hx2 h; exact False.elim h
  | succ n ih =>
    intro x2 σ hx2 h
    refine ok_iload_n 2 (pc := 5) dX10_insert_5 rfl rfl ?_
    refine ok_if_le (tgt := 51) (pc := 6) dX10_insert_6 rfl hx2 (fun q1 => ?_) (fun q1 => ?_)
    · have h := iteF h q1
      exact w_X10_insert_51 X p1 hp1 x2 hx2 h
    · have h := iteT h q1
      refine ok_aload_n 0 (pc := 9) dX10_insert_9 rfl rfl ?_
      refine ok_getR (pc := 10) dX10_insert_10 fl_X10_15 sh_95 (Nat.le_of_ble_eq_true rfl) rfl rfl ?_
      refine ok_aload_n 0 (pc := 13) dX10_insert_13 rfl rfl ?_
      refine ok_getR (pc := 14) dX10_insert_14 fl_X10_18 sh_95 (Nat.le_of_ble_eq_true rfl) rfl rfl ?_
      refine ok_iload_n 2 (pc := 17) dX10_insert_17 rfl rfl ?_
      refine ok_iconst (pc := 18) dX10_insert_18 ?_
      refine ok_isub (pc := 19) dX10_insert_19 ?_
      obtain ⟨h2, h⟩ := h
      obtain ⟨h3, h⟩ := h
      refine ok_wf (fun hw4 => ?_)
      refine ok_iald (pc := 20) dX10_insert_20 sh_98 (Nat.le_of_ble_eq_true rfl) rfl h2 h3 ?_
      obtain ⟨h5, h⟩ := h
      obtain ⟨h6, h⟩ := h
      refine ok_iald (pc := 21) dX10_insert_21 sh_97 (Nat.le_of_ble_eq_true rfl) rfl h5 h6 ?_
      refine ok_aload_n 0 (pc := 22) dX10_insert_22 rfl rfl ?_
      refine ok_getR (pc := 23) dX10_insert_23 fl_X10_15 sh_95 (Nat.le_of_ble_eq_true rfl) rfl rfl ?_
      refine ok_iload_n 1 (pc := 26) dX10_insert_26 rfl rfl ?_
      obtain ⟨h7, h⟩ := h
      obtain ⟨h8, h⟩ := h
      refine ok_iald (pc := 27) dX10_insert_27 sh_97 (Nat.le_of_ble_eq_true rfl) rfl h7 h8 ?_
      refine ok_icmp_le (tgt := 51) (pc := 28) dX10_insert_28 rfl (hw4 _ _) (hw4 _ _) (fun q9 => ?_) (fun q9 => ?_)
      · have h := iteF h q9
        exact w_X10_insert_51 X p1 hp1 x2 hx2 h
      · have h := iteT h q9
        refine ok_aload_n 0 (pc := 31) dX10_insert_31 rfl rfl ?_
        refine ok_getR (pc := 32) dX10_insert_32 fl_X10_18 sh_95 (Nat.le_of_ble_eq_true rfl) rfl rfl ?_
        refine ok_iload_n 2 (pc := 35) dX10_insert_35 rfl rfl ?_
        refine ok_aload_n 0 (pc := 36) dX10_insert_36 rfl rfl ?_
        refine ok_getR (pc := 37) dX10_insert_37 fl_X10_18 sh_95 (Nat.le_of_ble_eq_true rfl) rfl rfl ?_
        refine ok_iload_n 2 (pc := 40) dX10_insert_40 rfl rfl ?_
        refine ok_iconst (pc := 41) dX10_insert_41 ?_
        refine ok_isub (pc := 42) dX10_insert_42 ?_
        refine ok_iald (pc := 43) dX10_insert_43 sh_98 (Nat.le_of_ble_eq_true rfl) rfl h2 h3 ?_
        obtain ⟨h10, h⟩ := h
        obtain ⟨h11, h⟩ := h
        refine ok_iast (pc := 44) dX10_insert_44 sh_98 (Nat.le_of_ble_eq_true rfl) rfl h10 h11 (hw4 _ _) ?_
        refine ok_iinc (L' := [(2, vI (x2 + (-1))), (0, .ref (xad X 95)), (1, vI p1)]) 2 (pc := 45) dX10_insert_45 rfl rfl rfl ?_
        refine ok_goto (tgt := 5) (pc := 48) dX10_insert_48 rfl ?_
        obtain ⟨h12, h⟩ := h
        refine ok_sub (L' := [(0, .ref (xad X 95)), (1, vI p1), (2, vI (x2 + (-1)))]) [1,2,0] rfl ?_
        exact ih (x2 + (-1)) (mset σ 98 (x2.toNat) (σ 98 (x2 - 1).toNat)) h12 h
set_option maxRecDepth 100000 in
set_option maxHeartbeats 4000000 in
theorem c_X10_insert (X : XE) (p1 : Int) (hp1 : inR p1) {σ : Mem} {Q : Int → Mem → Prop} (h : v_X10_insert p1 σ Q) : CT X yX10_insert cX10_insert 3 none rm_X10_insert 0 [.ref (xad X 95), vI p1] σ Q := by
  refine ct_of (own := RX10) (L := [(0, .ref (xad X 95)), (1, vI p1)]) rfl rfl (Nat.le_of_ble_eq_true rfl) rfl ?_
  refine ok_aload_n 0 (pc := 0) dX10_insert_0 rfl rfl ?_
  refine ok_wf (fun hw1 => ?_)
  refine ok_getI (pc := 1) dX10_insert_1 fl_X10_21 sh_95 (Nat.le_of_ble_eq_true rfl) rfl rfl ?_
  refine ok_istore_n (L' := [(2, vI (σ 95 5)), (0, .ref (xad X 95)), (1, vI p1)]) (pc := 4) dX10_insert_4 rfl rfl rfl ?_
  refine ok_sub (L' := [(0, .ref (xad X 95)), (1, vI p1), (2, vI (σ 95 5))]) [1,2,0] rfl ?_
  obtain ⟨n2, h⟩ := h
  exact w_X10_insert_5 X p1 hp1 n2 (σ 95 5) σ (hw1 _ _) h
theorem dX10_findMatches_0 : decode cX10_findMatches 0 = .ok (.aload_n 0, 1) := by decide +kernel
theorem dX10_findMatches_1 : decode cX10_findMatches 1 = .ok (.iconst 0, 1) := by decide +kernel
theorem dX10_findMatches_2 : decode cX10_findMatches 2 = .ok (.putfield 21, 3) := by decide +kernel
theorem dX10_findMatches_5 : decode cX10_findMatches 5 = .ok (.aload_n 0, 1) := by decide +kernel
theorem dX10_findMatches_6 : decode cX10_findMatches 6 = .ok (.iconst 0, 1) := by decide +kernel
theorem dX10_findMatches_7 : decode cX10_findMatches 7 = .ok (.putfield 25, 3) := by decide +kernel
theorem dX10_findMatches_10 : decode cX10_findMatches 10 = .ok (.aload_n 1, 1) := by decide +kernel
theorem dX10_findMatches_11 : decode cX10_findMatches 11 = .ok (.getfield 28, 3) := by decide +kernel
theorem dX10_findMatches_14 : decode cX10_findMatches 14 = .ok (.astore_n 2, 1) := by decide +kernel
theorem dX10_findMatches_15 : decode cX10_findMatches 15 = .ok (.iconst 0, 1) := by decide +kernel
theorem dX10_findMatches_16 : decode cX10_findMatches 16 = .ok (.istore_n 3, 1) := by decide +kernel
theorem dX10_findMatches_17 : decode cX10_findMatches 17 = .ok (.iload_n 3, 1) := by decide +kernel
theorem dX10_findMatches_18 : decode cX10_findMatches 18 = .ok (.aload_n 1, 1) := by decide +kernel
theorem dX10_findMatches_19 : decode cX10_findMatches 19 = .ok (.getfield 34, 3) := by decide +kernel
theorem dX10_findMatches_22 : decode cX10_findMatches 22 = .ok (.if_icmp .ge 76, 3) := by decide +kernel
theorem dX10_findMatches_25 : decode cX10_findMatches 25 = .ok (.aload_n 1, 1) := by decide +kernel
theorem dX10_findMatches_26 : decode cX10_findMatches 26 = .ok (.getfield 37, 3) := by decide +kernel
theorem dX10_findMatches_29 : decode cX10_findMatches 29 = .ok (.iload_n 3, 1) := by decide +kernel
theorem dX10_findMatches_30 : decode cX10_findMatches 30 = .ok (.aaload, 1) := by decide +kernel
theorem dX10_findMatches_31 : decode cX10_findMatches 31 = .ok (.astore 4, 2) := by decide +kernel
theorem dX10_findMatches_33 : decode cX10_findMatches 33 = .ok (.aload_n 0, 1) := by decide +kernel
theorem dX10_findMatches_34 : decode cX10_findMatches 34 = .ok (.getfield 15, 3) := by decide +kernel
theorem dX10_findMatches_37 : decode cX10_findMatches 37 = .ok (.iload_n 3, 1) := by decide +kernel
theorem dX10_findMatches_38 : decode cX10_findMatches 38 = .ok (.aload 4, 2) := by decide +kernel
theorem dX10_findMatches_40 : decode cX10_findMatches 40 = .ok (.aload_n 0, 1) := by decide +kernel
theorem dX10_findMatches_41 : decode cX10_findMatches 41 = .ok (.getfield 9, 3) := by decide +kernel
theorem dX10_findMatches_44 : decode cX10_findMatches 44 = .ok (.aload 4, 2) := by decide +kernel
theorem dX10_findMatches_46 : decode cX10_findMatches 46 = .ok (.aload_n 2, 1) := by decide +kernel
theorem dX10_findMatches_47 : decode cX10_findMatches 47 = .ok (.invokevirtual 41, 3) := by decide +kernel
theorem dX10_findMatches_50 : decode cX10_findMatches 50 = .ok (.aload_n 2, 1) := by decide +kernel
theorem dX10_findMatches_51 : decode cX10_findMatches 51 = .ok (.aload_n 0, 1) := by decide +kernel
theorem dX10_findMatches_52 : decode cX10_findMatches 52 = .ok (.getfield 47, 3) := by decide +kernel
theorem dX10_findMatches_55 : decode cX10_findMatches 55 = .ok (.invokevirtual 50, 3) := by decide +kernel
theorem dX10_findMatches_58 : decode cX10_findMatches 58 = .ok (.iadd, 1) := by decide +kernel
theorem dX10_findMatches_59 : decode cX10_findMatches 59 = .ok (.aload_n 2, 1) := by decide +kernel
theorem dX10_findMatches_60 : decode cX10_findMatches 60 = .ok (.invokevirtual 56, 3) := by decide +kernel
theorem dX10_findMatches_63 : decode cX10_findMatches 63 = .ok (.iastore, 1) := by decide +kernel
theorem dX10_findMatches_64 : decode cX10_findMatches 64 = .ok (.aload_n 0, 1) := by decide +kernel
theorem dX10_findMatches_65 : decode cX10_findMatches 65 = .ok (.getfield 15, 3) := by decide +kernel
theorem dX10_findMatches_68 : decode cX10_findMatches 68 = .ok (.iload_n 3, 1) := by decide +kernel
theorem dX10_findMatches_69 : decode cX10_findMatches 69 = .ok (.iaload, 1) := by decide +kernel
theorem dX10_findMatches_70 : decode cX10_findMatches 70 = .ok (.bipush (-4), 2) := by decide +kernel
theorem dX10_findMatches_72 : decode cX10_findMatches 72 = .ok (.if_icmp .eq 20, 3) := by decide +kernel
theorem dX10_findMatches_75 : decode cX10_findMatches 75 = .ok (.aload_n 0, 1) := by decide +kernel
theorem dX10_findMatches_76 : decode cX10_findMatches 76 = .ok (.iload_n 3, 1) := by decide +kernel
theorem dX10_findMatches_77 : decode cX10_findMatches 77 = .ok (.invokevirtual 60, 3) := by decide +kernel
theorem dX10_findMatches_80 : decode cX10_findMatches 80 = .ok (.aload_n 0, 1) := by decide +kernel
theorem dX10_findMatches_81 : decode cX10_findMatches 81 = .ok (.dup, 1) := by decide +kernel
theorem dX10_findMatches_82 : decode cX10_findMatches 82 = .ok (.getfield 25, 3) := by decide +kernel
theorem dX10_findMatches_85 : decode cX10_findMatches 85 = .ok (.iconst 1, 1) := by decide +kernel
theorem dX10_findMatches_86 : decode cX10_findMatches 86 = .ok (.iload_n 3, 1) := by decide +kernel
theorem dX10_findMatches_87 : decode cX10_findMatches 87 = .ok (.ishl, 1) := by decide +kernel
theorem dX10_findMatches_88 : decode cX10_findMatches 88 = .ok (.ior, 1) := by decide +kernel
theorem dX10_findMatches_89 : decode cX10_findMatches 89 = .ok (.putfield 25, 3) := by decide +kernel
theorem dX10_findMatches_92 : decode cX10_findMatches 92 = .ok (.iinc 3 1, 3) := by decide +kernel
theorem dX10_findMatches_95 : decode cX10_findMatches 95 = .ok (.goto (-78), 3) := by decide +kernel
theorem dX10_findMatches_98 : decode cX10_findMatches 98 = .ok (.return_, 1) := by decide +kernel
set_option maxRecDepth 100000 in
set_option maxHeartbeats 4000000 in
theorem w_X10_findMatches_17 (X : XE) {Q : Int → Mem → Prop} : ∀ (n : Nat) (x3 : Int) (σ : Mem), inR x3 → l_X10_findMatches_17 Q n x3 σ → ok X rm_X10_findMatches RX10 cX10_findMatches 5 none 0 Q 17 [(0, .ref (xad X 95)), (1, .ref (xad X 16)), (2, .ref (xad X 14)), (3, vI x3)] [] σ := by
  intro n
  induction n with
  | zero => intro x3 σ hx3 h; exact False.elim h
  | succ n ih =>
    intro x3 σ hx3 h
    refine ok_iload_n 3 (pc := 17) dX10_findMatches_17 rfl rfl ?_
    refine ok_aload_n 1 (pc := 18) dX10_findMatches_18 rfl rfl ?_
    refine ok_wf (fun hw1 => ?_)
    refine ok_getI (pc := 19) dX10_findMatches_19 fl_X10_34 sh_16 (Nat.le_of_ble_eq_true rfl) rfl rfl ?_
    refine ok_icmp_ge (tgt := 98) (pc := 22) dX10_findMatches_22 rfl hx3 (hw1 _ _) (fun q2 => ?_) (fun q2 => ?_)
    · have h := iteF h q2
      exact ok_vret (pc := 98) dX10_findMatches_98 rfl rfl h
    · have h := iteT h q2
      refine ok_aload_n 1 (pc := 25) dX10_findMatches_25 rfl rfl ?_
      refine ok_getR (pc := 26) dX10_findMatches_26 fl_X10_37 sh_16 (Nat.le_of_ble_eq_true rfl) rfl rfl ?_
      refine ok_iload_n 3 (pc := 29) dX10_findMatches_29 rfl rfl ?_
      obtain ⟨h3, h⟩ := h
      obtain ⟨h4, h⟩ := h
      refine ok_cards (pc := 30) dX10_findMatches_30 h3 h4 ?_
      have hc5 : x3.toNat < 24 := by omega
      refine ok_astore (L' := [(4, .ref (xad X (23 + 3 * (x3.toNat)))), (0, .ref (xad X 95)), (1, .ref (xad X 16)), (2, .ref (xad X 14)), (3, vI x3)]) (pc := 31) dX10_findMatches_31 rfl rfl ?_
      refine ok_aload_n 1 (pc := 33) dX10_findMatches_33 rfl rfl ?_
      refine ok_getR (pc := 34) dX10_findMatches_34 fl_X10_15 sh_95 (Nat.le_of_ble_eq_true rfl) rfl rfl ?_
      refine ok_iload_n 4 (pc := 37) dX10_findMatches_37 rfl rfl ?_
      refine ok_aload 0 (pc := 38) dX10_findMatches_38 rfl ?_
      refine ok_aload_n 1 (pc := 40) dX10_findMatches_40 rfl rfl ?_
      refine ok_getR (pc := 41) dX10_findMatches_41 fl_X10_9 sh_95 (Nat.le_of_ble_eq_true rfl) rfl rfl ?_
      refine ok_aload 0 (pc := 44) dX10_findMatches_44 rfl ?_
      refine ok_aload_n 3 (pc := 46) dX10_findMatches_46 rfl rfl ?_
      refine ok_callVi (As := [.ref (xad X 14)]) (rest := [.ref (xad X 96), .ref (xad X (23 + 3 * (x3.toNat))), vI x3, .ref (xad X 97)]) (rm := rm_X1_spread) (pc := 47) dX10_findMatches_47 me_X1_spread ml_X10_41 (ci := 1) rfl (sh_card (x3.toNat) hc5) (lt_card hc5).1 rfl des_X1_spread rfl ⟨rfl, rfl, rfl, rfl⟩ rfl rfl (c_X1_spread X (x3.toNat) hc5 h) (fun r7 σ8 h6 h => ?_)
      refine ok_aload_n 3 (pc := 50) dX10_findMatches_50 rfl rfl ?_
      refine ok_aload_n 1 (pc := 51) dX10_findMatches_51 rfl rfl ?_
      refine ok_wf (fun hw9 => ?_)
      refine ok_getI (pc := 52) dX10_findMatches_52 fl_X10_47 sh_95 (Nat.le_of_ble_eq_true rfl) rfl rfl ?_
      refine ok_callVi (As := [vI (σ8 95 1)]) (rest := [vI r7, .ref (xad X 96), .ref (xad X (23 + 3 * (x3.toNat))), vI x3, .ref (xad X 97)]) (rm := rm_X5_spreadOf) (pc := 55) dX10_findMatches_55 me_X5_spreadOf ml_X10_50 (ci := 5) rfl sh_14 (Nat.le_of_ble_eq_true rfl) rfl des_X5_spreadOf rfl ⟨rfl, rfl, rfl, rfl⟩ rfl rfl (c_X5_spreadOf X (σ8 95 1) (hw9 _ _) h) (fun r11 σ12 h10 h => ?_)
      refine ok_iadd (pc := 58) dX10_findMatches_58 ?_
      refine ok_aload_n 3 (pc := 59) dX10_findMatches_59 rfl rfl ?_
      obtain ⟨h13, h⟩ := h
      refine ok_callVi (As := [.ref (xad X 96), vI (r7 + r11), .ref (xad X 14)]) (rest := [vI x3, .ref (xad X 97)]) (rm := rm_X1_miss_t) (pc := 60) dX10_findMatches_60 me_X1_miss ml_X10_56 (ci := 1) rfl (sh_card (x3.toNat) hc5) (lt_card hc5).1 rfl des_X1_miss rfl ⟨rfl, rfl, rfl, rfl⟩ rfl rfl (c_X1_miss_t X (x3.toNat) (r7 + r11) hc5 h13 h) (fun r15 σ16 h14 h => ?_)
      refine ok_iast (pc := 63) dX10_findMatches_63 sh_97 (Nat.le_of_ble_eq_true rfl) rfl h3 h4 h14 ?_
      refine ok_aload_n 1 (pc := 64) dX10_findMatches_64 rfl rfl ?_
      refine ok_getR (pc := 65) dX10_findMatches_65 fl_X10_15 sh_95 (Nat.le_of_ble_eq_true rfl) rfl rfl ?_
      refine ok_iload_n 4 (pc := 68) dX10_findMatches_68 rfl rfl ?_
      refine ok_wf (fun hw17 => ?_)
      refine ok_iald (pc := 69) dX10_findMatches_69 sh_97 (Nat.le_of_ble_eq_true rfl) rfl h3 h4 ?_
      have e18 : ((mset σ16 97 (x3.toNat) r15) 97 x3.toNat) = r15 := mset_eq
      refine ok_top e18 ?_
      refine ok_bipush (pc := 70) dX10_findMatches_70 rfl ?_
      refine ok_icmp_eq (tgt := 92) (pc := 72) dX10_findMatches_72 rfl h14 (r_lit rfl) (fun q19 => ?_) (fun q19 => ?_)
      · have h := iteT h q19
        refine ok_iinc (L' := [(3, vI (x3 + 1)), (4, .ref (xad X (23 + 3 * (x3.toNat)))), (0, .ref (xad X 95)), (1, .ref (xad X 16)), (2, .ref (xad X 14))]) 4 (pc := 92) dX10_findMatches_92 rfl rfl rfl ?_
        refine ok_goto (tgt := 17) (pc := 95) dX10_findMatches_95 rfl ?_
        obtain ⟨h20, h⟩ := h
        refine ok_sub (L' := [(0, .ref (xad X 95)), (1, .ref (xad X 16)), (2, .ref (xad X 14)), (3, vI (x3 + 1))]) [2,3,4,0] rfl ?_
        exact ih (x3 + 1) (mset σ16 97 (x3.toNat) r15) h20 h
      · have h := iteF h q19
        refine ok_aload_n 1 (pc := 75) dX10_findMatches_75 rfl rfl ?_
        refine ok_iload_n 4 (pc := 76) dX10_findMatches_76 rfl rfl ?_
        refine ok_callVv (As := [vI x3]) (rest := []) (rm := rm_X10_insert) (pc := 77) dX10_findMatches_77 me_X10_insert ml_X10_60 (ci := 10) rfl sh_95 (Nat.le_of_ble_eq_true rfl) rfl des_X10_insert rfl ⟨rfl, rfl, rfl, rfl⟩ rfl rfl (c_X10_insert X x3 hx3 h) (fun σ23 h => ?_)
        refine ok_aload_n 1 (pc := 80) dX10_findMatches_80 rfl rfl ?_
        refine ok_dup (pc := 81) dX10_findMatches_81 rfl ?_
        refine ok_wf (fun hw24 => ?_)
        refine ok_getI (pc := 82) dX10_findMatches_82 fl_X10_25 sh_95 (Nat.le_of_ble_eq_true rfl) rfl rfl ?_
        refine ok_iconst (pc := 85) dX10_findMatches_85 ?_
        refine ok_iload_n 4 (pc := 86) dX10_findMatches_86 rfl rfl ?_
        refine ok_ishl (pc := 87) dX10_findMatches_87 ?_
        refine ok_ior (pc := 88) dX10_findMatches_88 ?_
        refine ok_putI (pc := 89) dX10_findMatches_89 fl_X10_25 fp_X10_6 sh_95 (Nat.le_of_ble_eq_true rfl) rfl rfl (q_rng _) rfl rfl ?_
        refine ok_iinc (L' := [(3, vI (x3 + 1)), (4, .ref (xad X (23 + 3 * (x3.toNat)))), (0, .ref (xad X 95)), (1, .ref (xad X 16)), (2, .ref (xad X 14))]) 4 (pc := 92) dX10_findMatches_92 rfl rfl rfl ?_
        refine ok_goto (tgt := 17) (pc := 95) dX10_findMatches_95 rfl ?_
        obtain ⟨h25, h⟩ := h
        refine ok_sub (L' := [(0, .ref (xad X 95)), (1, .ref (xad X 16)), (2, .ref (xad X 14)), (3, vI (x3 + 1))]) [2,3,4,0] rfl ?_
        exact ih (x3 + 1) (mset σ23 95 6 (ior (σ23 95 6) (ishl 1 x3))) h25 h
set_option maxRecDepth 100000 in
set_option maxHeartbeats 4000000 in
theorem c_X10_findMatches (X : XE) {σ : Mem} {Q : Int → Mem → Prop} (h : v_X10_findMatches σ Q) : CT X yX10_findMatches cX10_findMatches 5 none rm_X10_findMatches 0 [.ref (xad X 95), .ref (xad X 16)] σ Q := by
  refine ct_of (own := RX10) (L := [(0, .ref (xad X 95)), (1, .ref (xad X 16))]) rfl rfl (Nat.le_of_ble_eq_true rfl) rfl ?_
  refine ok_aload_n 0 (pc := 0) dX10_findMatches_0 rfl rfl ?_
  refine ok_iconst (pc := 1) dX10_findMatches_1 ?_
  refine ok_putI (pc := 2) dX10_findMatches_2 fl_X10_21 fp_X10_5 sh_95 (Nat.le_of_ble_eq_true rfl) rfl rfl (r_lit rfl) rfl rfl ?_
  refine ok_aload_n 0 (pc := 5) dX10_findMatches_5 rfl rfl ?_
  refine ok_iconst (pc := 6) dX10_findMatches_6 ?_
  refine ok_putI (pc := 7) dX10_findMatches_7 fl_X10_25 fp_X10_6 sh_95 (Nat.le_of_ble_eq_true rfl) rfl rfl (r_lit rfl) rfl rfl ?_
  refine ok_aload_n 1 (pc := 10) dX10_findMatches_10 rfl rfl ?_
  refine ok_getR (pc := 11) dX10_findMatches_11 fl_X10_28 sh_16 (Nat.le_of_ble_eq_true rfl) rfl rfl ?_
  refine ok_astore_n (L' := [(2, .ref (xad X 14)), (0, .ref (xad X 95)), (1, .ref (xad X 16))]) (pc := 14) dX10_findMatches_14 rfl rfl rfl ?_
  refine ok_iconst (pc := 15) dX10_findMatches_15 ?_
  refine ok_istore_n (L' := [(3, vI 0), (2, .ref (xad X 14)), (0, .ref (xad X 95)), (1, .ref (xad X 16))]) (pc := 16) dX10_findMatches_16 rfl rfl rfl ?_
  refine ok_sub (L' := [(0, .ref (xad X 95)), (1, .ref (xad X 16)), (2, .ref (xad X 14)), (3, vI 0)]) [2,3,1,0] rfl ?_
  obtain ⟨n1, h⟩ := h
  exact w_X10_findMatches_17 X n1 0 (mset (mset σ 95 5 0) 95 6 0) (r_lit rfl) h
theorem dX11_match_0 : decode cX11_match 0 = .ok (.iload_n 1, 1) := by decide +kernel
theorem dX11_match_1 : decode cX11_match 1 = .ok (.bipush 10, 2) := by decide +kernel
theorem dX11_match_3 : decode cX11_match 3 = .ok (.if_icmp .lt 13, 3) := by decide +kernel
theorem dX11_match_6 : decode cX11_match 6 = .ok (.iload_n 1, 1) := by decide +kernel
theorem dX11_match_7 : decode cX11_match 7 = .ok (.bipush 34, 2) := by decide +kernel
theorem dX11_match_9 : decode cX11_match 9 = .ok (.if_icmp .ge 7, 3) := by decide +kernel
theorem dX11_match_12 : decode cX11_match 12 = .ok (.iconst 1, 1) := by decide +kernel
theorem dX11_match_13 : decode cX11_match 13 = .ok (.goto 4, 3) := by decide +kernel
theorem dX11_match_16 : decode cX11_match 16 = .ok (.iconst 0, 1) := by decide +kernel
theorem dX11_match_17 : decode cX11_match 17 = .ok (.istore_n 2, 1) := by decide +kernel
theorem dX11_match_18 : decode cX11_match 18 = .ok (.iload_n 1, 1) := by decide +kernel
theorem dX11_match_19 : decode cX11_match 19 = .ok (.bipush 50, 2) := by decide +kernel
theorem dX11_match_21 : decode cX11_match 21 = .ok (.if_icmp .lt 21, 3) := by decide +kernel
theorem dX11_match_24 : decode cX11_match 24 = .ok (.aload_n 0, 1) := by decide +kernel
theorem dX11_match_25 : decode cX11_match 25 = .ok (.getfield 46, 3) := by decide +kernel
theorem dX11_match_28 : decode cX11_match 28 = .ok (.iload_n 1, 1) := by decide +kernel
theorem dX11_match_29 : decode cX11_match 29 = .ok (.bipush 50, 2) := by decide +kernel
theorem dX11_match_31 : decode cX11_match 31 = .ok (.isub, 1) := by decide +kernel
theorem dX11_match_32 : decode cX11_match 32 = .ok (.invokevirtual 154, 3) := by decide +kernel
theorem dX11_match_35 : decode cX11_match 35 = .ok (.ifCond .eq 7, 3) := by decide +kernel
theorem dX11_match_38 : decode cX11_match 38 = .ok (.iconst 1, 1) := by decide +kernel
theorem dX11_match_39 : decode cX11_match 39 = .ok (.goto 4, 3) := by decide +kernel
theorem dX11_match_42 : decode cX11_match 42 = .ok (.iconst 0, 1) := by decide +kernel
theorem dX11_match_43 : decode cX11_match 43 = .ok (.istore_n 3, 1) := by decide +kernel
theorem dX11_match_44 : decode cX11_match 44 = .ok (.iload_n 2, 1) := by decide +kernel
theorem dX11_match_45 : decode cX11_match 45 = .ok (.ifCond .ne 18, 3) := by decide +kernel
theorem dX11_match_48 : decode cX11_match 48 = .ok (.iload_n 3, 1) := by decide +kernel
theorem dX11_match_49 : decode cX11_match 49 = .ok (.ifCond .ne 14, 3) := by decide +kernel
theorem dX11_match_52 : decode cX11_match 52 = .ok (.iload_n 1, 1) := by decide +kernel
theorem dX11_match_53 : decode cX11_match 53 = .ok (.ifCond .eq 10, 3) := by decide +kernel
theorem dX11_match_56 : decode cX11_match 56 = .ok (.iload_n 1, 1) := by decide +kernel
theorem dX11_match_57 : decode cX11_match 57 = .ok (.iconst 1, 1) := by decide +kernel
theorem dX11_match_58 : decode cX11_match 58 = .ok (.if_icmp .eq 5, 3) := by decide +kernel
theorem dX11_match_61 : decode cX11_match 61 = .ok (.iconst (-1), 1) := by decide +kernel
theorem dX11_match_62 : decode cX11_match 62 = .ok (.ireturn, 1) := by decide +kernel
theorem dX11_match_63 : decode cX11_match 63 = .ok (.aload_n 0, 1) := by decide +kernel
theorem dX11_match_64 : decode cX11_match 64 = .ok (.getfield 53, 3) := by decide +kernel
theorem dX11_match_67 : decode cX11_match 67 = .ok (.getfield 225, 3) := by decide +kernel
theorem dX11_match_70 : decode cX11_match 70 = .ok (.ifCond .ne 6, 3) := by decide +kernel
theorem dX11_match_73 : decode cX11_match 73 = .ok (.bipush (-2), 2) := by decide +kernel
theorem dX11_match_75 : decode cX11_match 75 = .ok (.ireturn, 1) := by decide +kernel
theorem dX11_match_76 : decode cX11_match 76 = .ok (.aload_n 0, 1) := by decide +kernel
theorem dX11_match_77 : decode cX11_match 77 = .ok (.getfield 53, 3) := by decide +kernel
theorem dX11_match_80 : decode cX11_match 80 = .ok (.aload_n 0, 1) := by decide +kernel
theorem dX11_match_81 : decode cX11_match 81 = .ok (.getfield 46, 3) := by decide +kernel
theorem dX11_match_84 : decode cX11_match 84 = .ok (.invokevirtual 265, 3) := by decide +kernel
theorem dX11_match_87 : decode cX11_match 87 = .ok (.iload_n 2, 1) := by decide +kernel
theorem dX11_match_88 : decode cX11_match 88 = .ok (.ifCond .eq 35, 3) := by decide +kernel
theorem dX11_match_91 : decode cX11_match 91 = .ok (.iload_n 1, 1) := by decide +kernel
theorem dX11_match_92 : decode cX11_match 92 = .ok (.bipush 10, 2) := by decide +kernel
theorem dX11_match_94 : decode cX11_match 94 = .ok (.isub, 1) := by decide +kernel
theorem dX11_match_95 : decode cX11_match 95 = .ok (.aload_n 0, 1) := by decide +kernel
theorem dX11_match_96 : decode cX11_match 96 = .ok (.getfield 53, 3) := by decide +kernel
theorem dX11_match_99 : decode cX11_match 99 = .ok (.getfield 268, 3) := by decide +kernel
theorem dX11_match_102 : decode cX11_match 102 = .ok (.if_icmp .ge 18, 3) := by decide +kernel
theorem dX11_match_105 : decode cX11_match 105 = .ok (.aload_n 0, 1) := by decide +kernel
theorem dX11_match_106 : decode cX11_match 106 = .ok (.getfield 53, 3) := by decide +kernel
theorem dX11_match_109 : decode cX11_match 109 = .ok (.getfield 271, 3) := by decide +kernel
theorem dX11_match_112 : decode cX11_match 112 = .ok (.iload_n 1, 1) := by decide +kernel
theorem dX11_match_113 : decode cX11_match 113 = .ok (.bipush 10, 2) := by decide +kernel
theorem dX11_match_115 : decode cX11_match 115 = .ok (.isub, 1) := by decide +kernel
theorem dX11_match_116 : decode cX11_match 116 = .ok (.iaload, 1) := by decide +kernel
theorem dX11_match_117 : decode cX11_match 117 = .ok (.goto 5, 3) := by decide +kernel
theorem dX11_match_120 : decode cX11_match 120 = .ok (.bipush (-4), 2) := by decide +kernel
theorem dX11_match_122 : decode cX11_match 122 = .ok (.ireturn, 1) := by decide +kernel
theorem dX11_match_123 : decode cX11_match 123 = .ok (.iload_n 3, 1) := by decide +kernel
theorem dX11_match_124 : decode cX11_match 124 = .ok (.ifCond .eq 16, 3) := by decide +kernel
theorem dX11_match_127 : decode cX11_match 127 = .ok (.aload_n 0, 1) := by decide +kernel
theorem dX11_match_128 : decode cX11_match 128 = .ok (.getfield 53, 3) := by decide +kernel
theorem dX11_match_131 : decode cX11_match 131 = .ok (.getfield 272, 3) := by decide +kernel
theorem dX11_match_134 : decode cX11_match 134 = .ok (.iload_n 1, 1) := by decide +kernel
theorem dX11_match_135 : decode cX11_match 135 = .ok (.bipush 50, 2) := by decide +kernel
theorem dX11_match_137 : decode cX11_match 137 = .ok (.isub, 1) := by decide +kernel
theorem dX11_match_138 : decode cX11_match 138 = .ok (.iaload, 1) := by decide +kernel
theorem dX11_match_139 : decode cX11_match 139 = .ok (.ireturn, 1) := by decide +kernel
theorem dX11_match_140 : decode cX11_match 140 = .ok (.iload_n 1, 1) := by decide +kernel
theorem dX11_match_141 : decode cX11_match 141 = .ok (.ifCond .ne 13, 3) := by decide +kernel
theorem dX11_match_144 : decode cX11_match 144 = .ok (.aload_n 0, 1) := by decide +kernel
theorem dX11_match_145 : decode cX11_match 145 = .ok (.getfield 53, 3) := by decide +kernel
theorem dX11_match_148 : decode cX11_match 148 = .ok (.getfield 268, 3) := by decide +kernel
theorem dX11_match_151 : decode cX11_match 151 = .ok (.goto 10, 3) := by decide +kernel
theorem dX11_match_154 : decode cX11_match 154 = .ok (.aload_n 0, 1) := by decide +kernel
theorem dX11_match_155 : decode cX11_match 155 = .ok (.getfield 53, 3) := by decide +kernel
theorem dX11_match_158 : decode cX11_match 158 = .ok (.getfield 275, 3) := by decide +kernel
theorem dX11_match_161 : decode cX11_match 161 = .ok (.ireturn, 1) := by decide +kernel
set_option maxRecDepth 100000 in
set_option maxHeartbeats 4000000 in
theorem w_X11_match_63 (X : XE) (p1 : Int) (hp1 : inR p1) (x2 : Int) (x3 : Int) (hx2 : inR x2) (hx3 : inR x3) {Q : Int → Mem → Prop} {σ : Mem} (h : j_X11_match_63 p1 Q x2 x3 σ) : ok X rm_X11_match RX11 cX11_match 4 (some .int) 1 Q 63 [(0, .ref (xad X 0)), (1, vI p1), (2, vI x2), (3, vI x3)] [] σ := by
  refine ok_aload_n 0 (pc := 63) dX11_match_63 rfl rfl ?_
  refine ok_getR (pc := 64) dX11_match_64 fl_X11_53 sh_0 (Nat.le_of_ble_eq_true rfl) rfl rfl ?_
  refine ok_wf (fun hw1 => ?_)
  refine ok_getI (pc := 67) dX11_match_67 fl_X11_225 sh_95 (Nat.le_of_ble_eq_true rfl) rfl rfl ?_
  refine ok_if_ne (tgt := 76) (pc := 70) dX11_match_70 rfl (hw1 _ _) (fun q2 => ?_) (fun q2 => ?_)
  · have h := iteF h q2
    refine ok_aload_n 0 (pc := 76) dX11_match_76 rfl rfl ?_
    refine ok_getR (pc := 77) dX11_match_77 fl_X11_53 sh_0 (Nat.le_of_ble_eq_true rfl) rfl rfl ?_
    refine ok_aload_n 0 (pc := 80) dX11_match_80 rfl rfl ?_
    refine ok_getR (pc := 81) dX11_match_81 fl_X11_46 sh_0 (Nat.le_of_ble_eq_true rfl) rfl rfl ?_
    refine ok_callVv (As := [.ref (xad X 16)]) (rest := []) (rm := rm_X10_findMatches) (pc := 84) dX11_match_84 me_X10_findMatches ml_X11_265 (ci := 10) rfl sh_95 (Nat.le_of_ble_eq_true rfl) rfl des_X10_findMatches rfl ⟨rfl, rfl, rfl, rfl⟩ rfl rfl (c_X10_findMatches X h) (fun σ5 h => ?_)
    refine ok_iload_n 2 (pc := 87) dX11_match_87 rfl rfl ?_
    refine ok_if_eq (tgt := 123) (pc := 88) dX11_match_88 rfl hx2 (fun q6 => ?_) (fun q6 => ?_)
    · have h := iteT h q6
      refine ok_iload_n 3 (pc := 123) dX11_match_123 rfl rfl ?_
      refine ok_if_eq (tgt := 140) (pc := 124) dX11_match_124 rfl hx3 (fun q7 => ?_) (fun q7 => ?_)
      · have h := iteT h q7
        refine ok_iload_n 1 (pc := 140) dX11_match_140 rfl rfl ?_
        refine ok_if_ne (tgt := 154) (pc := 141) dX11_match_141 rfl hp1 (fun q8 => ?_) (fun q8 => ?_)
        · have h := iteF h q8
          refine ok_aload_n 0 (pc := 154) dX11_match_154 rfl rfl ?_
          refine ok_getR (pc := 155) dX11_match_155 fl_X11_53 sh_0 (Nat.le_of_ble_eq_true rfl) rfl rfl ?_
          refine ok_wf (fun hw9 => ?_)
          refine ok_getI (pc := 158) dX11_match_158 fl_X11_275 sh_95 (Nat.le_of_ble_eq_true rfl) rfl rfl ?_
          exact ok_iret (pc := 161) dX11_match_161 rfl rfl rfl (hw9 _ _) h
        · have h := iteT h q8
          refine ok_aload_n 0 (pc := 144) dX11_match_144 rfl rfl ?_
          refine ok_getR (pc := 145) dX11_match_145 fl_X11_53 sh_0 (Nat.le_of_ble_eq_true rfl) rfl rfl ?_
          refine ok_wf (fun hw10 => ?_)
          refine ok_getI (pc := 148) dX11_match_148 fl_X11_268 sh_95 (Nat.le_of_ble_eq_true rfl) rfl rfl ?_
          refine ok_goto (tgt := 161) (pc := 151) dX11_match_151 rfl ?_
          exact ok_iret (pc := 161) dX11_match_161 rfl rfl rfl (hw10 _ _) h
      · have h := iteF h q7
        refine ok_aload_n 0 (pc := 127) dX11_match_127 rfl rfl ?_
        refine ok_getR (pc := 128) dX11_match_128 fl_X11_53 sh_0 (Nat.le_of_ble_eq_true rfl) rfl rfl ?_
        refine ok_getR (pc := 131) dX11_match_131 fl_X11_272 sh_95 (Nat.le_of_ble_eq_true rfl) rfl rfl ?_
        refine ok_iload_n 1 (pc := 134) dX11_match_134 rfl rfl ?_
        refine ok_bipush (pc := 135) dX11_match_135 rfl ?_
        refine ok_isub (pc := 137) dX11_match_137 ?_
        obtain ⟨h11, h⟩ := h
        obtain ⟨h12, h⟩ := h
        refine ok_wf (fun hw13 => ?_)
        refine ok_iald (pc := 138) dX11_match_138 sh_97 (Nat.le_of_ble_eq_true rfl) rfl h11 h12 ?_
        exact ok_iret (pc := 139) dX11_match_139 rfl rfl rfl (hw13 _ _) h
    · have h := iteF h q6
      refine ok_iload_n 1 (pc := 91) dX11_match_91 rfl rfl ?_
      refine ok_bipush (pc := 92) dX11_match_92 rfl ?_
      refine ok_isub (pc := 94) dX11_match_94 ?_
      refine ok_aload_n 0 (pc := 95) dX11_match_95 rfl rfl ?_
      refine ok_getR (pc := 96) dX11_match_96 fl_X11_53 sh_0 (Nat.le_of_ble_eq_true rfl) rfl rfl ?_
      refine ok_wf (fun hw14 => ?_)
      refine ok_getI (pc := 99) dX11_match_99 fl_X11_268 sh_95 (Nat.le_of_ble_eq_true rfl) rfl rfl ?_
      obtain ⟨h15, h⟩ := h
      refine ok_icmp_ge (tgt := 120) (pc := 102) dX11_match_102 rfl h15 (hw14 _ _) (fun q16 => ?_) (fun q16 => ?_)
      · have h := iteF h q16
        refine ok_bipush (pc := 120) dX11_match_120 rfl ?_
        exact ok_iret (pc := 122) dX11_match_122 rfl rfl rfl (r_lit rfl) h
      · have h := iteT h q16
        refine ok_aload_n 0 (pc := 105) dX11_match_105 rfl rfl ?_
        refine ok_getR (pc := 106) dX11_match_106 fl_X11_53 sh_0 (Nat.le_of_ble_eq_true rfl) rfl rfl ?_
        refine ok_getR (pc := 109) dX11_match_109 fl_X11_271 sh_95 (Nat.le_of_ble_eq_true rfl) rfl rfl ?_
        refine ok_iload_n 1 (pc := 112) dX11_match_112 rfl rfl ?_
        refine ok_bipush (pc := 113) dX11_match_113 rfl ?_
        refine ok_isub (pc := 115) dX11_match_115 ?_
        obtain ⟨h17, h⟩ := h
        obtain ⟨h18, h⟩ := h
        refine ok_iald (pc := 116) dX11_match_116 sh_98 (Nat.le_of_ble_eq_true rfl) rfl h17 h18 ?_
        refine ok_goto (tgt := 122) (pc := 117) dX11_match_117 rfl ?_
        exact ok_iret (pc := 122) dX11_match_122 rfl rfl rfl (hw14 _ _) h
  · have h := iteT h q2
    refine ok_bipush (pc := 73) dX11_match_73 rfl ?_
    exact ok_iret (pc := 75) dX11_match_75 rfl rfl rfl (r_lit rfl) h
set_option maxRecDepth 100000 in
set_option maxHeartbeats 4000000 in
theorem w_X11_match_43 (X : XE) (p1 : Int) (hp1 : inR p1) (x2 : Int) (s0 : Int) (hx2 : inR x2) (hs0 : inR s0) {Q : Int → Mem → Prop} {σ : Mem} (h : j_X11_match_43 p1 Q x2 s0 σ) : ok X rm_X11_match RX11 cX11_match 4 (some .int) 1 Q 43 [(0, .ref (xad X 0)), (1, vI p1), (2, vI x2)] [vI s0] σ := by
  refine ok_istore_n (L' := [(3, vI s0), (0, .ref (xad X 0)), (1, vI p1), (2, vI x2)]) (pc := 43) dX11_match_43 rfl rfl rfl ?_
  refine ok_iload_n 3 (pc := 44) dX11_match_44 rfl rfl ?_
  refine ok_if_ne (tgt := 63) (pc := 45) dX11_match_45 rfl hx2 (fun q1 => ?_) (fun q1 => ?_)
  · have h := iteF h q1
    refine ok_sub (L' := [(0, .ref (xad X 0)), (1, vI p1), (2, vI x2), (3, vI s0)]) [1,2,3,0] rfl ?_
    exact w_X11_match_63 X p1 hp1 x2 s0 hx2 hs0 h
  · have h := iteT h q1
    refine ok_iload_n 0 (pc := 48) dX11_match_48 rfl rfl ?_
    refine ok_if_ne (tgt := 63) (pc := 49) dX11_match_49 rfl hs0 (fun q2 => ?_) (fun q2 => ?_)
    · have h := iteF h q2
      refine ok_sub (L' := [(0, .ref (xad X 0)), (1, vI p1), (2, vI x2), (3, vI s0)]) [1,2,3,0] rfl ?_
      exact w_X11_match_63 X p1 hp1 x2 s0 hx2 hs0 h
    · have h := iteT h q2
      refine ok_iload_n 2 (pc := 52) dX11_match_52 rfl rfl ?_
      refine ok_if_eq (tgt := 63) (pc := 53) dX11_match_53 rfl hp1 (fun q3 => ?_) (fun q3 => ?_)
      · have h := iteT h q3
        refine ok_sub (L' := [(0, .ref (xad X 0)), (1, vI p1), (2, vI x2), (3, vI s0)]) [1,2,3,0] rfl ?_
        exact w_X11_match_63 X p1 hp1 x2 s0 hx2 hs0 h
      · have h := iteF h q3
        refine ok_iload_n 2 (pc := 56) dX11_match_56 rfl rfl ?_
        refine ok_iconst (pc := 57) dX11_match_57 ?_
        refine ok_icmp_eq (tgt := 63) (pc := 58) dX11_match_58 rfl hp1 (r_lit rfl) (fun q4 => ?_) (fun q4 => ?_)
        · have h := iteT h q4
          refine ok_sub (L' := [(0, .ref (xad X 0)), (1, vI p1), (2, vI x2), (3, vI s0)]) [1,2,3,0] rfl ?_
          exact w_X11_match_63 X p1 hp1 x2 s0 hx2 hs0 h
        · have h := iteF h q4
          refine ok_iconst (pc := 61) dX11_match_61 ?_
          exact ok_iret (pc := 62) dX11_match_62 rfl rfl rfl (r_lit rfl) h
set_option maxRecDepth 100000 in
set_option maxHeartbeats 4000000 in
theorem w_X11_match_17 (X : XE) (p1 : Int) (hp1 : inR p1) (s0 : Int) (hs0 : inR s0) {Q : Int → Mem → Prop} {σ : Mem} (h : j_X11_match_17 p1 Q s0 σ) : ok X rm_X11_match RX11 cX11_match 4 (some .int) 1 Q 17 [(0, .ref (xad X 0)), (1, vI p1)] [vI s0] σ := by
  refine ok_istore_n (L' := [(2, vI s0), (0, .ref (xad X 0)), (1, vI p1)]) (pc := 17) dX11_match_17 rfl rfl rfl ?_
  refine ok_iload_n 2 (pc := 18) dX11_match_18 rfl rfl ?_
  refine ok_bipush (pc := 19) dX11_match_19 rfl ?_
  refine ok_icmp_lt (tgt := 42) (pc := 21) dX11_match_21 rfl hp1 (r_lit rfl) (fun q1 => ?_) (fun q1 => ?_)
  · have h := iteT h q1
    refine ok_iconst (pc := 42) dX11_match_42 ?_
    refine ok_sub (L' := [(0, .ref (xad X 0)), (1, vI p1), (2, vI s0)]) [1,2,0] rfl ?_
    exact w_X11_match_43 X p1 hp1 s0 0 hs0 (r_lit rfl) h
  · have h := iteF h q1
    refine ok_aload_n 1 (pc := 24) dX11_match_24 rfl rfl ?_
    refine ok_getR (pc := 25) dX11_match_25 fl_X11_46 sh_0 (Nat.le_of_ble_eq_true rfl) rfl rfl ?_
    refine ok_iload_n 2 (pc := 28) dX11_match_28 rfl rfl ?_
    refine ok_bipush (pc := 29) dX11_match_29 rfl ?_
    refine ok_isub (pc := 31) dX11_match_31 ?_
    obtain ⟨h2, h⟩ := h
    refine ok_callVi (As := [vI (p1 - 50)]) (rest := []) (rm := rm_X0_has) (pc := 32) dX11_match_32 me_X0_has ml_X11_154 (ci := 0) rfl sh_16 (Nat.le_of_ble_eq_true rfl) rfl des_X0_has rfl ⟨rfl, rfl, rfl, rfl⟩ rfl rfl (c_X0_has X (p1 - 50) h2 h) (fun r4 σ5 h3 h => ?_)
    refine ok_if_eq (tgt := 42) (pc := 35) dX11_match_35 rfl h3 (fun q6 => ?_) (fun q6 => ?_)
    · simp only [if_pos q6] at h
      refine ok_iconst (pc := 42) dX11_match_42 ?_
      refine ok_sub (L' := [(0, .ref (xad X 0)), (1, vI p1), (2, vI s0)]) [1,2,0] rfl ?_
      exact w_X11_match_43 X p1 hp1 s0 0 hs0 (r_lit rfl) h
    · simp only [if_neg q6] at h
      refine ok_iconst (pc := 38) dX11_match_38 ?_
      refine ok_goto (tgt := 43) (pc := 39) dX11_match_39 rfl ?_
      refine ok_sub (L' := [(0, .ref (xad X 0)), (1, vI p1), (2, vI s0)]) [1,2,0] rfl ?_
      exact w_X11_match_43 X p1 hp1 s0 1 hs0 (r_lit rfl) h
set_option maxRecDepth 100000 in
set_option maxHeartbeats 4000000 in
theorem c_X11_match (X : XE) (p1 : Int) (hp1 : inR p1) {σ : Mem} {Q : Int → Mem → Prop} (h : v_X11_match p1 σ Q) : CT X yX11_match cX11_match 4 (some .int) rm_X11_match 1 [.ref (xad X 0), vI p1] σ Q := by
  refine ct_of (own := RX11) (L := [(0, .ref (xad X 0)), (1, vI p1)]) rfl rfl (Nat.le_of_ble_eq_true rfl) rfl ?_
  unfold v_X11_match at h
  refine ok_iload_n 1 (pc := 0) dX11_match_0 rfl rfl ?_
  refine ok_bipush (pc := 1) dX11_match_1 rfl ?_
  refine ok_icmp_lt (tgt := 16) (pc := 3) dX11_match_3 rfl hp1 (r_lit rfl) (fun q1 => ?_) (fun q1 => ?_)
  · simp only [if_pos q1] at h
    refine ok_iconst (pc := 16) dX11_match_16 ?_
    exact w_X11_match_17 X p1 hp1 0 (r_lit rfl) h
  · simp only [if_neg q1] at h
    refine ok_iload_n 1 (pc := 6) dX11_match_6 rfl rfl ?_
    refine ok_bipush (pc := 7) dX11_match_7 rfl ?_
    refine ok_icmp_ge (tgt := 16) (pc := 9) dX11_match_9 rfl hp1 (r_lit rfl) (fun q2 => ?_) (fun q2 => ?_)
    · simp only [if_neg q2] at h
      refine ok_iconst (pc := 16) dX11_match_16 ?_
      exact w_X11_match_17 X p1 hp1 0 (r_lit rfl) h
    · simp only [if_pos q2] at h
      refine ok_iconst (pc := 12) dX11_match_12 ?_
      refine ok_goto (tgt := 17) (pc := 13) dX11_match_13 rfl ?_
      exact w_X11_match_17 X p1 hp1 1 (r_lit rfl) h
theorem dX0_kept_0 : decode cX0_kept 0 = .ok (.iconst 0, 1) := by decide +kernel
theorem dX0_kept_1 : decode cX0_kept 1 = .ok (.istore_n 1, 1) := by decide +kernel
theorem dX0_kept_2 : decode cX0_kept 2 = .ok (.iconst 0, 1) := by decide +kernel
theorem dX0_kept_3 : decode cX0_kept 3 = .ok (.istore_n 2, 1) := by decide +kernel
theorem dX0_kept_4 : decode cX0_kept 4 = .ok (.iload_n 2, 1) := by decide +kernel
theorem dX0_kept_5 : decode cX0_kept 5 = .ok (.aload_n 0, 1) := by decide +kernel
theorem dX0_kept_6 : decode cX0_kept 6 = .ok (.getfield 39, 3) := by decide +kernel
theorem dX0_kept_9 : decode cX0_kept 9 = .ok (.if_icmp .ge 32, 3) := by decide +kernel
theorem dX0_kept_12 : decode cX0_kept 12 = .ok (.iload_n 1, 1) := by decide +kernel
theorem dX0_kept_13 : decode cX0_kept 13 = .ok (.aload_n 0, 1) := by decide +kernel
theorem dX0_kept_14 : decode cX0_kept 14 = .ok (.getfield 11, 3) := by decide +kernel
theorem dX0_kept_17 : decode cX0_kept 17 = .ok (.iload_n 2, 1) := by decide +kernel
theorem dX0_kept_18 : decode cX0_kept 18 = .ok (.aaload, 1) := by decide +kernel
theorem dX0_kept_19 : decode cX0_kept 19 = .ok (.invokevirtual 77, 3) := by decide +kernel
theorem dX0_kept_22 : decode cX0_kept 22 = .ok (.ifCond .ne 7, 3) := by decide +kernel
theorem dX0_kept_25 : decode cX0_kept 25 = .ok (.iconst 1, 1) := by decide +kernel
theorem dX0_kept_26 : decode cX0_kept 26 = .ok (.goto 4, 3) := by decide +kernel
theorem dX0_kept_29 : decode cX0_kept 29 = .ok (.iconst 0, 1) := by decide +kernel
theorem dX0_kept_30 : decode cX0_kept 30 = .ok (.invokestatic 81, 3) := by decide +kernel
theorem dX0_kept_33 : decode cX0_kept 33 = .ok (.iadd, 1) := by decide +kernel
theorem dX0_kept_34 : decode cX0_kept 34 = .ok (.istore_n 1, 1) := by decide +kernel
theorem dX0_kept_35 : decode cX0_kept 35 = .ok (.iinc 2 1, 3) := by decide +kernel
theorem dX0_kept_38 : decode cX0_kept 38 = .ok (.goto (-34), 3) := by decide +kernel
theorem dX0_kept_41 : decode cX0_kept 41 = .ok (.iload_n 1, 1) := by decide +kernel
theorem dX0_kept_42 : decode cX0_kept 42 = .ok (.ireturn, 1) := by decide +kernel
set_option maxRecDepth 100000 in
set_option maxHeartbeats 4000000 in
theorem w_X0_kept_30 (X : XE) (x2 : Int) (s0 : Int) (s1 : Int) (hx2 : inR x2) (hs0 : inR s0) (hs1 : inR s1) {K4 : Int → Int → Mem → Prop} {Q : Int → Mem → Prop} (hK4 : ∀ (x1 : Int) (x2 : Int) (σ : Mem), inR x1 → inR x2 → K4 x1 x2 σ → ok X rm_X0_kept RX0 cX0_kept 3 (some .int) 1 Q 4 [(0, .ref (xad X 16)), (1, vI x1), (2, vI x2)] [] σ) {σ : Mem} (h : j_X0_kept_30 K4 Q x2 s0 s1 σ) : ok X rm_X0_kept RX0 cX0_kept 3 (some .int) 1 Q 30 [(0, .ref (xad X 16)), (2, vI x2)] [vI s0, vI s1] σ := by
  refine ok_callNi (As := [vI s0]) (rest := [vI s1]) (rm := rm_X11_bit) (pc := 30) dX0_kept_30 me_X11_bit xn_0 des_X11_bit rfl ⟨rfl, rfl, rfl, rfl⟩ rfl rfl (c_X11_bit X s0 hs0 h) (fun r2 σ3 h1 h => ?_)
  refine ok_iadd (pc := 33) dX0_kept_33 ?_
  refine ok_istore_n (L' := [(1, vI (s1 + r2)), (0, .ref (xad X 16)), (2, vI x2)]) (pc := 34) dX0_kept_34 rfl rfl rfl ?_
  refine ok_iinc (L' := [(2, vI (x2 + 1)), (1, vI (s1 + r2)), (0, .ref (xad X 16))]) 2 (pc := 35) dX0_kept_35 rfl rfl rfl ?_
  refine ok_goto (tgt := 4) (pc := 38) dX0_kept_38 rfl ?_
  obtain ⟨h4, h⟩ := h
  obtain ⟨h5, h⟩ := h
  refine ok_sub (L' := [(0, .ref (xad X 16)), (1, vI (s1 + r2)), (2, vI (x2 + 1))]) [2,1,0] rfl ?_
  exact hK4 (s1 + r2) (x2 + 1) σ3 h4 h5 h
set_option maxRecDepth 100000 in
set_option maxHeartbeats 4000000 in
theorem w_X0_kept_4 (X : XE) {Q : Int → Mem → Prop} : ∀ (n : Nat) (x1 : Int) (x2 : Int) (σ : Mem), inR x1 → inR x2 → l_X0_kept_4 Q n x1 x2 σ → ok X rm_X0_kept RX0 cX0_kept 3 (some .int) 1 Q 4 [(0, .ref (xad X 16)), (1, vI x1), (2, vI x2)] [] σ := by
  intro n
  induction n with
  | zero => intro x1 x2 σ hx1 hx2 h; exact False.elim h
  | succ n ih =>
    intro x1 x2 σ hx1 hx2 h
    refine ok_iload_n 2 (pc := 4) dX0_kept_4 rfl rfl ?_
    refine ok_aload_n 0 (pc := 5) dX0_kept_5 rfl rfl ?_
    refine ok_wf (fun hw1 => ?_)
    refine ok_getI (pc := 6) dX0_kept_6 fl_X0_39 sh_16 (Nat.le_of_ble_eq_true rfl) rfl rfl ?_
    refine ok_icmp_ge (tgt := 41) (pc := 9) dX0_kept_9 rfl hx2 (hw1 _ _) (fun q2 => ?_) (fun q2 => ?_)
    · have h := iteF h q2
      refine ok_iload_n 1 (pc := 41) dX0_kept_41 rfl rfl ?_
      exact ok_iret (pc := 42) dX0_kept_42 rfl rfl rfl hx1 h
    · have h := iteT h q2
      refine ok_iload_n 1 (pc := 12) dX0_kept_12 rfl rfl ?_
      refine ok_aload_n 0 (pc := 13) dX0_kept_13 rfl rfl ?_
      refine ok_getR (pc := 14) dX0_kept_14 fl_X0_11 sh_16 (Nat.le_of_ble_eq_true rfl) rfl rfl ?_
      refine ok_iload_n 2 (pc := 17) dX0_kept_17 rfl rfl ?_
      obtain ⟨h3, h⟩ := h
      obtain ⟨h4, h⟩ := h
      refine ok_cards (pc := 18) dX0_kept_18 h3 h4 ?_
      have hc5 : x2.toNat < 24 := by omega
      refine ok_callVi (As := []) (rest := [vI x1]) (rm := rm_X1_isOut) (pc := 19) dX0_kept_19 me_X1_isOut ml_X0_77 (ci := 1) rfl (sh_card (x2.toNat) hc5) (lt_card hc5).1 rfl des_X1_isOut rfl ⟨rfl, rfl, rfl, rfl⟩ rfl rfl (c_X1_isOut X (x2.toNat) hc5 h) (fun r7 σ8 h6 h => ?_)
      refine ok_if_ne (tgt := 29) (pc := 22) dX0_kept_22 rfl h6 (fun q9 => ?_) (fun q9 => ?_)
      · simp only [if_neg q9] at h
        refine ok_iconst (pc := 29) dX0_kept_29 ?_
        refine ok_sub (L' := [(0, .ref (xad X 16)), (2, vI x2)]) [0,2] rfl ?_
        exact w_X0_kept_30 X x2 0 x1 hx2 (r_lit rfl) hx1 (fun x1_ x2_ σ_ hx1_ hx2_ h_ => ih x1_ x2_ σ_ hx1_ hx2_ h_) h
      · simp only [if_pos q9] at h
        refine ok_iconst (pc := 25) dX0_kept_25 ?_
        refine ok_goto (tgt := 30) (pc := 26) dX0_kept_26 rfl ?_
        refine ok_sub (L' := [(0, .ref (xad X 16)), (2, vI x2)]) [0,2] rfl ?_
        exact w_X0_kept_30 X x2 1 x1 hx2 (r_lit rfl) hx1 (fun x1_ x2_ σ_ hx1_ hx2_ h_ => ih x1_ x2_ σ_ hx1_ hx2_ h_) h
set_option maxRecDepth 100000 in
set_option maxHeartbeats 4000000 in
theorem c_X0_kept (X : XE) {σ : Mem} {Q : Int → Mem → Prop} (h : v_X0_kept σ Q) : CT X yX0_kept cX0_kept 3 (some .int) rm_X0_kept 1 [.ref (xad X 16)] σ Q := by
  refine ct_of (own := RX0) (L := [(0, .ref (xad X 16))]) rfl rfl (Nat.le_of_ble_eq_true rfl) rfl ?_
  refine ok_iconst (pc := 0) dX0_kept_0 ?_
  refine ok_istore_n (L' := [(1, vI 0), (0, .ref (xad X 16))]) (pc := 1) dX0_kept_1 rfl rfl rfl ?_
  refine ok_iconst (pc := 2) dX0_kept_2 ?_
  refine ok_istore_n (L' := [(2, vI 0), (1, vI 0), (0, .ref (xad X 16))]) (pc := 3) dX0_kept_3 rfl rfl rfl ?_
  refine ok_sub (L' := [(0, .ref (xad X 16)), (1, vI 0), (2, vI 0)]) [2,1,0] rfl ?_
  obtain ⟨n1, h⟩ := h
  exact w_X0_kept_4 X n1 0 0 σ (r_lit rfl) (r_lit rfl) h
theorem dX10_near_0 : decode cX10_near 0 = .ok (.aload_n 2, 1) := by decide +kernel
theorem dX10_near_1 : decode cX10_near 1 = .ok (.getfield 28, 3) := by decide +kernel
theorem dX10_near_4 : decode cX10_near 4 = .ok (.aload_n 0, 1) := by decide +kernel
theorem dX10_near_5 : decode cX10_near 5 = .ok (.getfield 47, 3) := by decide +kernel
theorem dX10_near_8 : decode cX10_near 8 = .ok (.invokevirtual 50, 3) := by decide +kernel
theorem dX10_near_11 : decode cX10_near 11 = .ok (.istore_n 3, 1) := by decide +kernel
theorem dX10_near_12 : decode cX10_near 12 = .ok (.iconst 0, 1) := by decide +kernel
theorem dX10_near_13 : decode cX10_near 13 = .ok (.istore 4, 2) := by decide +kernel
theorem dX10_near_15 : decode cX10_near 15 = .ok (.iconst 0, 1) := by decide +kernel
theorem dX10_near_16 : decode cX10_near 16 = .ok (.istore 5, 2) := by decide +kernel
theorem dX10_near_18 : decode cX10_near 18 = .ok (.iload 5, 2) := by decide +kernel
theorem dX10_near_20 : decode cX10_near 20 = .ok (.aload_n 2, 1) := by decide +kernel
theorem dX10_near_21 : decode cX10_near 21 = .ok (.getfield 34, 3) := by decide +kernel
theorem dX10_near_24 : decode cX10_near 24 = .ok (.if_icmp .ge 82, 3) := by decide +kernel
theorem dX10_near_27 : decode cX10_near 27 = .ok (.aload_n 2, 1) := by decide +kernel
theorem dX10_near_28 : decode cX10_near 28 = .ok (.getfield 37, 3) := by decide +kernel
theorem dX10_near_31 : decode cX10_near 31 = .ok (.iload 5, 2) := by decide +kernel
theorem dX10_near_33 : decode cX10_near 33 = .ok (.aaload, 1) := by decide +kernel
theorem dX10_near_34 : decode cX10_near 34 = .ok (.astore 6, 2) := by decide +kernel
theorem dX10_near_36 : decode cX10_near 36 = .ok (.aload 6, 2) := by decide +kernel
theorem dX10_near_38 : decode cX10_near 38 = .ok (.invokevirtual 64, 3) := by decide +kernel
theorem dX10_near_41 : decode cX10_near 41 = .ok (.ifCond .ne 17, 3) := by decide +kernel
theorem dX10_near_44 : decode cX10_near 44 = .ok (.aload 6, 2) := by decide +kernel
theorem dX10_near_46 : decode cX10_near 46 = .ok (.getfield 68, 3) := by decide +kernel
theorem dX10_near_49 : decode cX10_near 49 = .ok (.iload_n 1, 1) := by decide +kernel
theorem dX10_near_50 : decode cX10_near 50 = .ok (.iaload, 1) := by decide +kernel
theorem dX10_near_51 : decode cX10_near 51 = .ok (.ifCond .le 7, 3) := by decide +kernel
theorem dX10_near_54 : decode cX10_near 54 = .ok (.iconst 1, 1) := by decide +kernel
theorem dX10_near_55 : decode cX10_near 55 = .ok (.goto 4, 3) := by decide +kernel
theorem dX10_near_58 : decode cX10_near 58 = .ok (.iconst 0, 1) := by decide +kernel
theorem dX10_near_59 : decode cX10_near 59 = .ok (.istore 7, 2) := by decide +kernel
theorem dX10_near_61 : decode cX10_near 61 = .ok (.iload 4, 2) := by decide +kernel
theorem dX10_near_63 : decode cX10_near 63 = .ok (.iload 7, 2) := by decide +kernel
theorem dX10_near_65 : decode cX10_near 65 = .ok (.ifCond .eq 28, 3) := by decide +kernel
theorem dX10_near_68 : decode cX10_near 68 = .ok (.aload 6, 2) := by decide +kernel
theorem dX10_near_70 : decode cX10_near 70 = .ok (.getfield 68, 3) := by decide +kernel
theorem dX10_near_73 : decode cX10_near 73 = .ok (.iload_n 1, 1) := by decide +kernel
theorem dX10_near_74 : decode cX10_near 74 = .ok (.iaload, 1) := by decide +kernel
theorem dX10_near_75 : decode cX10_near 75 = .ok (.aload_n 0, 1) := by decide +kernel
theorem dX10_near_76 : decode cX10_near 76 = .ok (.getfield 9, 3) := by decide +kernel
theorem dX10_near_79 : decode cX10_near 79 = .ok (.iload_n 1, 1) := by decide +kernel
theorem dX10_near_80 : decode cX10_near 80 = .ok (.iaload, 1) := by decide +kernel
theorem dX10_near_81 : decode cX10_near 81 = .ok (.isub, 1) := by decide +kernel
theorem dX10_near_82 : decode cX10_near 82 = .ok (.invokestatic 69, 3) := by decide +kernel
theorem dX10_near_85 : decode cX10_near 85 = .ok (.iload_n 3, 1) := by decide +kernel
theorem dX10_near_86 : decode cX10_near 86 = .ok (.if_icmp .gt 7, 3) := by decide +kernel
theorem dX10_near_89 : decode cX10_near 89 = .ok (.iconst 1, 1) := by decide +kernel
theorem dX10_near_90 : decode cX10_near 90 = .ok (.goto 4, 3) := by decide +kernel
theorem dX10_near_93 : decode cX10_near 93 = .ok (.iconst 0, 1) := by decide +kernel
theorem dX10_near_94 : decode cX10_near 94 = .ok (.invokestatic 74, 3) := by decide +kernel
theorem dX10_near_97 : decode cX10_near 97 = .ok (.iadd, 1) := by decide +kernel
theorem dX10_near_98 : decode cX10_near 98 = .ok (.istore 4, 2) := by decide +kernel
theorem dX10_near_100 : decode cX10_near 100 = .ok (.iinc 5 1, 3) := by decide +kernel
theorem dX10_near_103 : decode cX10_near 103 = .ok (.goto (-85), 3) := by decide +kernel
theorem dX10_near_106 : decode cX10_near 106 = .ok (.iload 4, 2) := by decide +kernel
theorem dX10_near_108 : decode cX10_near 108 = .ok (.ireturn, 1) := by decide +kernel
set_option maxRecDepth 100000 in
set_option maxHeartbeats 4000000 in
theorem w_X10_near_94 (X : XE) (p1 : Int) (hp1 : inR p1) (x3 : Int) (x5 : Int) (s0 : Int) (s1 : Int) (hx3 : inR x3) (hx5 : inR x5) (hs0 : inR s0) (hs1 : inR s1) {K18 : Int → Int → Mem → Prop} {Q : Int → Mem → Prop} (hK18 : ∀ (x4 : Int) (x5 : Int) (σ : Mem), inR x4 → inR x5 → K18 x4 x5 σ → ok X rm_X10_near RX10 cX10_near 8 (some .int) 1 Q 18 [(0, .ref (xad X 95)), (1, vI p1), (2, .ref (xad X 16)), (3, vI x3), (4, vI x4), (5, vI x5)] [] σ) {σ : Mem} (h : j_X10_near_94 p1 K18 Q x3 x5 s0 s1 σ) : ok X rm_X10_near RX10 cX10_near 8 (some .int) 1 Q 94 [(0, .ref (xad X 95)), (1, vI p1), (2, .ref (xad X 16)), (3, vI x3), (5, vI x5)] [vI s0, vI s1] σ := by
  refine ok_callNi (As := [vI s0]) (rest := [vI s1]) (rm := rm_X11_bit) (pc := 94) dX10_near_94 me_X11_bit xn_10 des_X11_bit rfl ⟨rfl, rfl, rfl, rfl⟩ rfl rfl (c_X11_bit X s0 hs0 h) (fun r2 σ3 h1 h => ?_)
  refine ok_iadd (pc := 97) dX10_near_97 ?_
  refine ok_istore (L' := [(4, vI (s1 + r2)), (0, .ref (xad X 95)), (1, vI p1), (2, .ref (xad X 16)), (3, vI x3), (5, vI x5)]) (pc := 98) dX10_near_98 rfl rfl ?_
  refine ok_iinc (L' := [(5, vI (x5 + 1)), (4, vI (s1 + r2)), (0, .ref (xad X 95)), (1, vI p1), (2, .ref (xad X 16)), (3, vI x3)]) 5 (pc := 100) dX10_near_100 rfl rfl rfl ?_
  refine ok_goto (tgt := 18) (pc := 103) dX10_near_103 rfl ?_
  obtain ⟨h4, h⟩ := h
  obtain ⟨h5, h⟩ := h
  refine ok_sub (L' := [(0, .ref (xad X 95)), (1, vI p1), (2, .ref (xad X 16)), (3, vI x3), (4, vI (s1 + r2)), (5, vI (x5 + 1))]) [2,3,4,5,1,0] rfl ?_
  exact hK18 (s1 + r2) (x5 + 1) σ3 h4 h5 h
set_option maxRecDepth 100000 in
set_option maxHeartbeats 4000000 in
theorem w_X10_near_59 (X : XE) (p1 : Int) (hp1 : inR p1) (x3 : Int) (x4 : Int) (x5 : Int) (c6 : Nat) (s0 : Int) (hx3 : inR x3) (hx4 : inR x4) (hx5 : inR x5) (hc6 : c6 < 24) (hs0 : inR s0) {K18 : Int → Int → Mem → Prop} {Q : Int → Mem → Prop} (hK18 : ∀ (x4 : Int) (x5 : Int) (σ : Mem), inR x4 → inR x5 → K18 x4 x5 σ → ok X rm_X10_near RX10 cX10_near 8 (some .int) 1 Q 18 [(0, .ref (xad X 95)), (1, vI p1), (2, .ref (xad X 16)), (3, vI x3), (4, vI x4), (5, vI x5)] [] σ) {σ : Mem} (h : j_X10_near_59 p1 K18 Q x3 x4 x5 c6 s0 σ) : ok X rm_X10_near RX10 cX10_near 8 (some .int) 1 Q 59 [(0, .ref (xad X 95)), (1, vI p1), (2, .ref (xad X 16)), (3, vI x3), (4, vI x4), (5, vI x5), (6, .ref (xad X (23 + 3 * c6)))] [vI s0] σ := by
  refine ok_istore (L' := [(7, vI s0), (0, .ref (xad X 95)), (1, vI p1), (2, .ref (xad X 16)), (3, vI x3), (4, vI x4), (5, vI x5), (6, .ref (xad X (23 + 3 * c6)))]) (pc := 59) dX10_near_59 rfl rfl ?_
  refine ok_iload 5 (pc := 61) dX10_near_61 rfl ?_
  refine ok_iload 0 (pc := 63) dX10_near_63 rfl ?_
  refine ok_if_eq (tgt := 93) (pc := 65) dX10_near_65 rfl hs0 (fun q1 => ?_) (fun q1 => ?_)
  · have h := iteT h q1
    refine ok_iconst (pc := 93) dX10_near_93 ?_
    refine ok_sub (L' := [(0, .ref (xad X 95)), (1, vI p1), (2, .ref (xad X 16)), (3, vI x3), (5, vI x5)]) [1,2,3,4,6] rfl ?_
    exact w_X10_near_94 X p1 hp1 x3 x5 0 x4 hx3 hx5 (r_lit rfl) hx4 hK18 h
  · have h := iteF h q1
    refine ok_aload 7 (pc := 68) dX10_near_68 rfl ?_
    refine ok_getR (pc := 70) dX10_near_70 fl_X10_68 (sh_card c6 hc6) (lt_card hc6).1 rfl rfl ?_
    refine ok_iload_n 2 (pc := 73) dX10_near_73 rfl rfl ?_
    obtain ⟨h2, h⟩ := h
    obtain ⟨h3, h⟩ := h
    refine ok_wf (fun hw4 => ?_)
    refine ok_iald (pc := 74) dX10_near_74 (sh_cme c6 hc6) (lt_card hc6).2.2 rfl h2 h3 ?_
    refine ok_aload_n 1 (pc := 75) dX10_near_75 rfl rfl ?_
    refine ok_getR (pc := 76) dX10_near_76 fl_X10_9 sh_95 (Nat.le_of_ble_eq_true rfl) rfl rfl ?_
    refine ok_iload_n 2 (pc := 79) dX10_near_79 rfl rfl ?_
    refine ok_iald (pc := 80) dX10_near_80 sh_96 (Nat.le_of_ble_eq_true rfl) rfl h2 h3 ?_
    refine ok_isub (pc := 81) dX10_near_81 ?_
    obtain ⟨h5, h⟩ := h
    refine ok_abs (pc := 82) dX10_near_82 ml_X10_69 ⟨rfl, rfl⟩ h5 ?_
    refine ok_iload_n 4 (pc := 85) dX10_near_85 rfl rfl ?_
    obtain ⟨h6, h⟩ := h
    refine ok_icmp_gt (tgt := 93) (pc := 86) dX10_near_86 rfl h6 hx3 (fun q7 => ?_) (fun q7 => ?_)
    · simp only [if_pos q7] at h
      refine ok_iconst (pc := 93) dX10_near_93 ?_
      refine ok_sub (L' := [(0, .ref (xad X 95)), (1, vI p1), (2, .ref (xad X 16)), (3, vI x3), (5, vI x5)]) [1,2,3,4,6] rfl ?_
      exact w_X10_near_94 X p1 hp1 x3 x5 0 x4 hx3 hx5 (r_lit rfl) hx4 hK18 h
    · simp only [if_neg q7] at h
      refine ok_iconst (pc := 89) dX10_near_89 ?_
      refine ok_goto (tgt := 94) (pc := 90) dX10_near_90 rfl ?_
      refine ok_sub (L' := [(0, .ref (xad X 95)), (1, vI p1), (2, .ref (xad X 16)), (3, vI x3), (5, vI x5)]) [1,2,3,4,6] rfl ?_
      exact w_X10_near_94 X p1 hp1 x3 x5 1 x4 hx3 hx5 (r_lit rfl) hx4 hK18 h
set_option maxRecDepth 100000 in
set_option maxHeartbeats 4000000 in
theorem w_X10_near_18 (X : XE) (p1 : Int) (hp1 : inR p1) (x3 : Int) (hx3 : inR x3) {Q : Int → Mem → Prop} : ∀ (n : Nat) (x4 : Int) (x5 : Int) (σ : Mem), inR x4 → inR x5 → l_X10_near_18 p1 x3 Q n x4 x5 σ → ok X rm_X10_near RX10 cX10_near 8 (some .int) 1 Q 18 [(0, .ref (xad X 95)), (1, vI p1), (2, .ref (xad X 16)), (3, vI x3), (4, vI x4), (5, vI x5)] [] σ := by
  intro n
  induction n with
  | zero => intro x4 x5 σ hx4 hx5 h; exact False.elim h
  | succ n ih =>
    intro x4 x5 σ hx4 hx5 h
    refine ok_iload 5 (pc := 18) dX10_near_18 rfl ?_
    refine ok_aload_n 2 (pc := 20) dX10_near_20 rfl rfl ?_
    refine ok_wf (fun hw1 => ?_)
    refine ok_getI (pc := 21) dX10_near_21 fl_X10_34 sh_16 (Nat.le_of_ble_eq_true rfl) rfl rfl ?_
    refine ok_icmp_ge (tgt := 106) (pc := 24) dX10_near_24 rfl hx5 (hw1 _ _) (fun q2 => ?_) (fun q2 => ?_)
    · have h := iteF h q2
      refine ok_iload 4 (pc := 106) dX10_near_106 rfl ?_
      exact ok_iret (pc := 108) dX10_near_108 rfl rfl rfl hx4 h
    · have h := iteT h q2
      refine ok_aload_n 2 (pc := 27) dX10_near_27 rfl rfl ?_
      refine ok_getR (pc := 28) dX10_near_28 fl_X10_37 sh_16 (Nat.le_of_ble_eq_true rfl) rfl rfl ?_
      refine ok_iload 5 (pc := 31) dX10_near_31 rfl ?_
      obtain ⟨h3, h⟩ := h
      obtain ⟨h4, h⟩ := h
      refine ok_cards (pc := 33) dX10_near_33 h3 h4 ?_
      have hc5 : x5.toNat < 24 := by omega
      refine ok_astore (L' := [(6, .ref (xad X (23 + 3 * (x5.toNat)))), (0, .ref (xad X 95)), (1, vI p1), (2, .ref (xad X 16)), (3, vI x3), (4, vI x4), (5, vI x5)]) (pc := 34) dX10_near_34 rfl rfl ?_
      refine ok_aload 0 (pc := 36) dX10_near_36 rfl ?_
      refine ok_callVi (As := []) (rest := []) (rm := rm_X1_isOut) (pc := 38) dX10_near_38 me_X1_isOut ml_X10_64 (ci := 1) rfl (sh_card (x5.toNat) hc5) (lt_card hc5).1 rfl des_X1_isOut rfl ⟨rfl, rfl, rfl, rfl⟩ rfl rfl (c_X1_isOut X (x5.toNat) hc5 h) (fun r7 σ8 h6 h => ?_)
      refine ok_if_ne (tgt := 58) (pc := 41) dX10_near_41 rfl h6 (fun q9 => ?_) (fun q9 => ?_)
      · have h := iteF h q9
        refine ok_iconst (pc := 58) dX10_near_58 ?_
        refine ok_sub (L' := [(0, .ref (xad X 95)), (1, vI p1), (2, .ref (xad X 16)), (3, vI x3), (4, vI x4), (5, vI x5), (6, .ref (xad X (23 + 3 * (x5.toNat))))]) [1,2,3,4,5,6,0] rfl ?_
        exact w_X10_near_59 X p1 hp1 x3 x4 x5 (x5.toNat) 0 hx3 hx4 hx5 hc5 (r_lit rfl) (fun x4_ x5_ σ_ hx4_ hx5_ h_ => ih x4_ x5_ σ_ hx4_ hx5_ h_) h
      · have h := iteT h q9
        refine ok_aload 0 (pc := 44) dX10_near_44 rfl ?_
        refine ok_getR (pc := 46) dX10_near_46 fl_X10_68 (sh_card (x5.toNat) hc5) (lt_card hc5).1 rfl rfl ?_
        refine ok_iload_n 2 (pc := 49) dX10_near_49 rfl rfl ?_
        obtain ⟨h10, h⟩ := h
        obtain ⟨h11, h⟩ := h
        refine ok_wf (fun hw12 => ?_)
        refine ok_iald (pc := 50) dX10_near_50 (sh_cme (x5.toNat) hc5) (lt_card hc5).2.2 rfl h10 h11 ?_
        refine ok_if_le (tgt := 58) (pc := 51) dX10_near_51 rfl (hw12 _ _) (fun q13 => ?_) (fun q13 => ?_)
        · simp only [if_neg q13] at h
          refine ok_iconst (pc := 58) dX10_near_58 ?_
          refine ok_sub (L' := [(0, .ref (xad X 95)), (1, vI p1), (2, .ref (xad X 16)), (3, vI x3), (4, vI x4), (5, vI x5), (6, .ref (xad X (23 + 3 * (x5.toNat))))]) [1,2,3,4,5,6,0] rfl ?_
          exact w_X10_near_59 X p1 hp1 x3 x4 x5 (x5.toNat) 0 hx3 hx4 hx5 hc5 (r_lit rfl) (fun x4_ x5_ σ_ hx4_ hx5_ h_ => ih x4_ x5_ σ_ hx4_ hx5_ h_) h
        · simp only [if_pos q13] at h
          refine ok_iconst (pc := 54) dX10_near_54 ?_
          refine ok_goto (tgt := 59) (pc := 55) dX10_near_55 rfl ?_
          refine ok_sub (L' := [(0, .ref (xad X 95)), (1, vI p1), (2, .ref (xad X 16)), (3, vI x3), (4, vI x4), (5, vI x5), (6, .ref (xad X (23 + 3 * (x5.toNat))))]) [1,2,3,4,5,6,0] rfl ?_
          exact w_X10_near_59 X p1 hp1 x3 x4 x5 (x5.toNat) 1 hx3 hx4 hx5 hc5 (r_lit rfl) (fun x4_ x5_ σ_ hx4_ hx5_ h_ => ih x4_ x5_ σ_ hx4_ hx5_ h_) h
set_option maxRecDepth 100000 in
set_option maxHeartbeats 4000000 in
theorem c_X10_near (X : XE) (p1 : Int) (hp1 : inR p1) {σ : Mem} {Q : Int → Mem → Prop} (h : v_X10_near p1 σ Q) : CT X yX10_near cX10_near 8 (some .int) rm_X10_near 1 [.ref (xad X 95), vI p1, .ref (xad X 16)] σ Q := by
  refine ct_of (own := RX10) (L := [(0, .ref (xad X 95)), (1, vI p1), (2, .ref (xad X 16))]) rfl rfl (Nat.le_of_ble_eq_true rfl) rfl ?_
  refine ok_aload_n 2 (pc := 0) dX10_near_0 rfl rfl ?_
  refine ok_getR (pc := 1) dX10_near_1 fl_X10_28 sh_16 (Nat.le_of_ble_eq_true rfl) rfl rfl ?_
  refine ok_aload_n 0 (pc := 4) dX10_near_4 rfl rfl ?_
  refine ok_wf (fun hw1 => ?_)
  refine ok_getI (pc := 5) dX10_near_5 fl_X10_47 sh_95 (Nat.le_of_ble_eq_true rfl) rfl rfl ?_
  refine ok_callVi (As := [vI (σ 95 1)]) (rest := []) (rm := rm_X5_spreadOf) (pc := 8) dX10_near_8 me_X5_spreadOf ml_X10_50 (ci := 5) rfl sh_14 (Nat.le_of_ble_eq_true rfl) rfl des_X5_spreadOf rfl ⟨rfl, rfl, rfl, rfl⟩ rfl rfl (c_X5_spreadOf X (σ 95 1) (hw1 _ _) h) (fun r3 σ4 h2 h => ?_)
  refine ok_istore_n (L' := [(3, vI r3), (0, .ref (xad X 95)), (1, vI p1), (2, .ref (xad X 16))]) (pc := 11) dX10_near_11 rfl rfl rfl ?_
  refine ok_iconst (pc := 12) dX10_near_12 ?_
  refine ok_istore (L' := [(4, vI 0), (3, vI r3), (0, .ref (xad X 95)), (1, vI p1), (2, .ref (xad X 16))]) (pc := 13) dX10_near_13 rfl rfl ?_
  refine ok_iconst (pc := 15) dX10_near_15 ?_
  refine ok_istore (L' := [(5, vI 0), (4, vI 0), (3, vI r3), (0, .ref (xad X 95)), (1, vI p1), (2, .ref (xad X 16))]) (pc := 16) dX10_near_16 rfl rfl ?_
  refine ok_sub (L' := [(0, .ref (xad X 95)), (1, vI p1), (2, .ref (xad X 16)), (3, vI r3), (4, vI 0), (5, vI 0)]) [3,4,5,2,1,0] rfl ?_
  obtain ⟨n5, h⟩ := h
  exact w_X10_near_18 X p1 hp1 r3 h2 n5 0 0 σ4 (r_lit rfl) (r_lit rfl) h
theorem dX11_byChance_0 : decode cX11_byChance 0 = .ok (.iload_n 1, 1) := by decide +kernel
theorem dX11_byChance_1 : decode cX11_byChance 1 = .ok (.ifCond .lt 8, 3) := by decide +kernel
theorem dX11_byChance_4 : decode cX11_byChance 4 = .ok (.iload_n 1, 1) := by decide +kernel
theorem dX11_byChance_5 : decode cX11_byChance 5 = .ok (.iconst 1, 1) := by decide +kernel
theorem dX11_byChance_6 : decode cX11_byChance 6 = .ok (.if_icmp .le 7, 3) := by decide +kernel
theorem dX11_byChance_9 : decode cX11_byChance 9 = .ok (.ldc2_w 231, 3) := by decide +kernel
theorem dX11_byChance_12 : decode cX11_byChance 12 = .ok (.lreturn, 1) := by decide +kernel
theorem dX11_byChance_13 : decode cX11_byChance 13 = .ok (.aload_n 0, 1) := by decide +kernel
theorem dX11_byChance_14 : decode cX11_byChance 14 = .ok (.getfield 53, 3) := by decide +kernel
theorem dX11_byChance_17 : decode cX11_byChance 17 = .ok (.getfield 225, 3) := by decide +kernel
theorem dX11_byChance_20 : decode cX11_byChance 20 = .ok (.ifCond .ne 7, 3) := by decide +kernel
theorem dX11_byChance_23 : decode cX11_byChance 23 = .ok (.ldc2_w 233, 3) := by decide +kernel
theorem dX11_byChance_26 : decode cX11_byChance 26 = .ok (.lreturn, 1) := by decide +kernel
theorem dX11_byChance_27 : decode cX11_byChance 27 = .ok (.aload_n 0, 1) := by decide +kernel
theorem dX11_byChance_28 : decode cX11_byChance 28 = .ok (.getfield 46, 3) := by decide +kernel
theorem dX11_byChance_31 : decode cX11_byChance 31 = .ok (.invokevirtual 276, 3) := by decide +kernel
theorem dX11_byChance_34 : decode cX11_byChance 34 = .ok (.istore_n 2, 1) := by decide +kernel
theorem dX11_byChance_35 : decode cX11_byChance 35 = .ok (.iload_n 2, 1) := by decide +kernel
theorem dX11_byChance_36 : decode cX11_byChance 36 = .ok (.ifCond .ne 7, 3) := by decide +kernel
theorem dX11_byChance_39 : decode cX11_byChance 39 = .ok (.ldc2_w 280, 3) := by decide +kernel
theorem dX11_byChance_42 : decode cX11_byChance 42 = .ok (.lreturn, 1) := by decide +kernel
theorem dX11_byChance_43 : decode cX11_byChance 43 = .ok (.iload_n 2, 1) := by decide +kernel
theorem dX11_byChance_44 : decode cX11_byChance 44 = .ok (.i2l, 1) := by decide +kernel
theorem dX11_byChance_45 : decode cX11_byChance 45 = .ok (.lstore_n 3, 1) := by decide +kernel
theorem dX11_byChance_46 : decode cX11_byChance 46 = .ok (.lconst 1, 1) := by decide +kernel
theorem dX11_byChance_47 : decode cX11_byChance 47 = .ok (.lstore 5, 2) := by decide +kernel
theorem dX11_byChance_49 : decode cX11_byChance 49 = .ok (.iconst 0, 1) := by decide +kernel
theorem dX11_byChance_50 : decode cX11_byChance 50 = .ok (.istore 7, 2) := by decide +kernel
theorem dX11_byChance_52 : decode cX11_byChance 52 = .ok (.iload 7, 2) := by decide +kernel
theorem dX11_byChance_54 : decode cX11_byChance 54 = .ok (.iconst 4, 1) := by decide +kernel
theorem dX11_byChance_55 : decode cX11_byChance 55 = .ok (.if_icmp .ge 46, 3) := by decide +kernel
theorem dX11_byChance_58 : decode cX11_byChance 58 = .ok (.aload_n 0, 1) := by decide +kernel
theorem dX11_byChance_59 : decode cX11_byChance 59 = .ok (.getfield 53, 3) := by decide +kernel
theorem dX11_byChance_62 : decode cX11_byChance 62 = .ok (.getfield 230, 3) := by decide +kernel
theorem dX11_byChance_65 : decode cX11_byChance 65 = .ok (.iload 7, 2) := by decide +kernel
theorem dX11_byChance_67 : decode cX11_byChance 67 = .ok (.iaload, 1) := by decide +kernel
theorem dX11_byChance_68 : decode cX11_byChance 68 = .ok (.ifCond .le 27, 3) := by decide +kernel
theorem dX11_byChance_71 : decode cX11_byChance 71 = .ok (.lload_n 3, 1) := by decide +kernel
theorem dX11_byChance_72 : decode cX11_byChance 72 = .ok (.aload_n 0, 1) := by decide +kernel
theorem dX11_byChance_73 : decode cX11_byChance 73 = .ok (.getfield 53, 3) := by decide +kernel
theorem dX11_byChance_76 : decode cX11_byChance 76 = .ok (.iload 7, 2) := by decide +kernel
theorem dX11_byChance_78 : decode cX11_byChance 78 = .ok (.aload_n 0, 1) := by decide +kernel
theorem dX11_byChance_79 : decode cX11_byChance 79 = .ok (.getfield 46, 3) := by decide +kernel
theorem dX11_byChance_82 : decode cX11_byChance 82 = .ok (.invokevirtual 282, 3) := by decide +kernel
theorem dX11_byChance_85 : decode cX11_byChance 85 = .ok (.i2l, 1) := by decide +kernel
theorem dX11_byChance_86 : decode cX11_byChance 86 = .ok (.lmul, 1) := by decide +kernel
theorem dX11_byChance_87 : decode cX11_byChance 87 = .ok (.lstore_n 3, 1) := by decide +kernel
theorem dX11_byChance_88 : decode cX11_byChance 88 = .ok (.lload 5, 2) := by decide +kernel
theorem dX11_byChance_90 : decode cX11_byChance 90 = .ok (.iload_n 2, 1) := by decide +kernel
theorem dX11_byChance_91 : decode cX11_byChance 91 = .ok (.i2l, 1) := by decide +kernel
theorem dX11_byChance_92 : decode cX11_byChance 92 = .ok (.lmul, 1) := by decide +kernel
theorem dX11_byChance_93 : decode cX11_byChance 93 = .ok (.lstore 5, 2) := by decide +kernel
theorem dX11_byChance_95 : decode cX11_byChance 95 = .ok (.iinc 7 1, 3) := by decide +kernel
theorem dX11_byChance_98 : decode cX11_byChance 98 = .ok (.goto (-46), 3) := by decide +kernel
theorem dX11_byChance_101 : decode cX11_byChance 101 = .ok (.lload_n 3, 1) := by decide +kernel
theorem dX11_byChance_102 : decode cX11_byChance 102 = .ok (.lload 5, 2) := by decide +kernel
theorem dX11_byChance_104 : decode cX11_byChance 104 = .ok (.iload_n 1, 1) := by decide +kernel
theorem dX11_byChance_105 : decode cX11_byChance 105 = .ok (.invokestatic 245, 3) := by decide +kernel
theorem dX11_byChance_108 : decode cX11_byChance 108 = .ok (.lreturn, 1) := by decide +kernel
set_option maxRecDepth 100000 in
set_option maxHeartbeats 4000000 in
theorem w_X11_byChance_52 (X : XE) (p1 : Int) (hp1 : inR p1) (x2 : Int) (hx2 : inR x2) {Q : Int → Mem → Prop} : ∀ (n : Nat) (x3 : Int) (x5 : Int) (x7 : Int) (σ : Mem), inL x3 → inL x5 → inR x7 → l_X11_byChance_52 p1 x2 Q n x3 x5 x7 σ → ok X rm_X11_byChance RX11 cX11_byChance 8 (some .long) 2 Q 52 [(0, .ref (xad X 0)), (1, vI p1), (2, vI x2), (3, vL x3), (5, vL x5), (7, vI x7)] [] σ := by
  intro n
  induction n with
  | zero => intro x3 x5 x7 σ hx3 hx5 hx7 h; exact False.elim h
  | succ n ih =>
    intro x3 x5 x7 σ hx3 hx5 hx7 h
    refine ok_iload 5 (pc := 52) dX11_byChance_52 rfl ?_
    refine ok_iconst (pc := 54) dX11_byChance_54 ?_
    refine ok_icmp_ge (tgt := 101) (pc := 55) dX11_byChance_55 rfl hx7 (r_lit rfl) (fun q1 => ?_) (fun q1 => ?_)
    · have h := iteF h q1
      refine ok_lload_n 3 (pc := 101) dX11_byChance_101 rfl rfl ?_
      refine ok_lload 4 (pc := 102) dX11_byChance_102 rfl ?_
      refine ok_iload_n 1 (pc := 104) dX11_byChance_104 rfl rfl ?_
      refine ok_callSl (As := [vL x3, vL x5, vI p1]) (rest := []) (rm := rm_X11_lowest) (pc := 105) dX11_byChance_105 me_X11_lowest ml_X11_245 des_X11_lowest rfl ⟨rfl, rfl, rfl, rfl⟩ rfl rfl (c_X11_lowest X x3 x5 p1 hx3 hx5 hp1 h) (fun r3 σ4 h2 h => ?_)
      exact ok_lret (pc := 108) dX11_byChance_108 rfl rfl h2 h
    · have h := iteT h q1
      refine ok_aload_n 0 (pc := 58) dX11_byChance_58 rfl rfl ?_
      refine ok_getR (pc := 59) dX11_byChance_59 fl_X11_53 sh_0 (Nat.le_of_ble_eq_true rfl) rfl rfl ?_
      refine ok_getR (pc := 62) dX11_byChance_62 fl_X11_230 sh_95 (Nat.le_of_ble_eq_true rfl) rfl rfl ?_
      refine ok_iload 5 (pc := 65) dX11_byChance_65 rfl ?_
      obtain ⟨h5, h⟩ := h
      obtain ⟨h6, h⟩ := h
      refine ok_wf (fun hw7 => ?_)
      refine ok_iald (pc := 67) dX11_byChance_67 sh_96 (Nat.le_of_ble_eq_true rfl) rfl h5 h6 ?_
      refine ok_if_le (tgt := 95) (pc := 68) dX11_byChance_68 rfl (hw7 _ _) (fun q8 => ?_) (fun q8 => ?_)
      · have h := iteF h q8
        refine ok_iinc (L' := [(7, vI (x7 + 1)), (0, .ref (xad X 0)), (1, vI p1), (2, vI x2), (3, vL x3), (5, vL x5)]) 5 (pc := 95) dX11_byChance_95 rfl rfl rfl ?_
        refine ok_goto (tgt := 52) (pc := 98) dX11_byChance_98 rfl ?_
        obtain ⟨h9, h⟩ := h
        refine ok_sub (L' := [(0, .ref (xad X 0)), (1, vI p1), (2, vI x2), (3, vL x3), (5, vL x5), (7, vI (x7 + 1))]) [1,2,3,4,5,0] rfl ?_
        exact ih x3 x5 (x7 + 1) σ hx3 hx5 h9 h
      · have h := iteT h q8
        refine ok_lload_n 3 (pc := 71) dX11_byChance_71 rfl rfl ?_
        refine ok_aload_n 0 (pc := 72) dX11_byChance_72 rfl rfl ?_
        refine ok_getR (pc := 73) dX11_byChance_73 fl_X11_53 sh_0 (Nat.le_of_ble_eq_true rfl) rfl rfl ?_
        refine ok_iload 5 (pc := 76) dX11_byChance_76 rfl ?_
        refine ok_aload_n 0 (pc := 78) dX11_byChance_78 rfl rfl ?_
        refine ok_getR (pc := 79) dX11_byChance_79 fl_X11_46 sh_0 (Nat.le_of_ble_eq_true rfl) rfl rfl ?_
        refine ok_callVi (As := [vI x7, .ref (xad X 16)]) (rest := [vL x3]) (rm := rm_X10_near) (pc := 82) dX11_byChance_82 me_X10_near ml_X11_282 (ci := 10) rfl sh_95 (Nat.le_of_ble_eq_true rfl) rfl des_X10_near rfl ⟨rfl, rfl, rfl, rfl⟩ rfl rfl (c_X10_near X x7 hx7 h) (fun r11 σ12 h10 h => ?_)
        refine ok_i2l (pc := 85) dX11_byChance_85 h10 ?_
        refine ok_lmul (pc := 86) dX11_byChance_86 ?_
        refine ok_lstore_n (L' := [(3, vL (x3 * r11)), (0, .ref (xad X 0)), (1, vI p1), (2, vI x2), (5, vL x5), (7, vI x7)]) (pc := 87) dX11_byChance_87 rfl rfl rfl ?_
        refine ok_lload 4 (pc := 88) dX11_byChance_88 rfl ?_
        refine ok_iload_n 3 (pc := 90) dX11_byChance_90 rfl rfl ?_
        refine ok_i2l (pc := 91) dX11_byChance_91 hx2 ?_
        refine ok_lmul (pc := 92) dX11_byChance_92 ?_
        refine ok_lstore (L' := [(5, vL (x5 * x2)), (3, vL (x3 * r11)), (0, .ref (xad X 0)), (1, vI p1), (2, vI x2), (7, vI x7)]) (pc := 93) dX11_byChance_93 rfl rfl ?_
        refine ok_iinc (L' := [(7, vI (x7 + 1)), (5, vL (x5 * x2)), (3, vL (x3 * r11)), (0, .ref (xad X 0)), (1, vI p1), (2, vI x2)]) 5 (pc := 95) dX11_byChance_95 rfl rfl rfl ?_
        refine ok_goto (tgt := 52) (pc := 98) dX11_byChance_98 rfl ?_
        obtain ⟨h13, h⟩ := h
        obtain ⟨h14, h⟩ := h
        obtain ⟨h15, h⟩ := h
        refine ok_sub (L' := [(0, .ref (xad X 0)), (1, vI p1), (2, vI x2), (3, vL (x3 * r11)), (5, vL (x5 * x2)), (7, vI (x7 + 1))]) [3,4,5,2,1,0] rfl ?_
        exact ih (x3 * r11) (x5 * x2) (x7 + 1) σ12 h13 h14 h15 h
set_option maxRecDepth 100000 in
set_option maxHeartbeats 4000000 in
theorem c_X11_byChance (X : XE) (p1 : Int) (hp1 : inR p1) {σ : Mem} {Q : Int → Mem → Prop} (h : v_X11_byChance p1 σ Q) : CT X yX11_byChance cX11_byChance 8 (some .long) rm_X11_byChance 2 [.ref (xad X 0), vI p1] σ Q := by
  refine ct_of (own := RX11) (L := [(0, .ref (xad X 0)), (1, vI p1)]) rfl rfl (Nat.le_of_ble_eq_true rfl) rfl ?_
  refine ok_iload_n 1 (pc := 0) dX11_byChance_0 rfl rfl ?_
  refine ok_if_lt (tgt := 9) (pc := 1) dX11_byChance_1 rfl hp1 (fun q1 => ?_) (fun q1 => ?_)
  · have h := iteT h q1
    refine ok_ldc2 (pc := 9) dX11_byChance_9 cn_X11_231 ?_
    exact ok_lret (pc := 12) dX11_byChance_12 rfl rfl (l_of_r (r_lit rfl)) h
  · have h := iteF h q1
    refine ok_iload_n 1 (pc := 4) dX11_byChance_4 rfl rfl ?_
    refine ok_iconst (pc := 5) dX11_byChance_5 ?_
    refine ok_icmp_le (tgt := 13) (pc := 6) dX11_byChance_6 rfl hp1 (r_lit rfl) (fun q2 => ?_) (fun q2 => ?_)
    · have h := iteF h q2
      refine ok_aload_n 0 (pc := 13) dX11_byChance_13 rfl rfl ?_
      refine ok_getR (pc := 14) dX11_byChance_14 fl_X11_53 sh_0 (Nat.le_of_ble_eq_true rfl) rfl rfl ?_
      refine ok_wf (fun hw3 => ?_)
      refine ok_getI (pc := 17) dX11_byChance_17 fl_X11_225 sh_95 (Nat.le_of_ble_eq_true rfl) rfl rfl ?_
      refine ok_if_ne (tgt := 27) (pc := 20) dX11_byChance_20 rfl (hw3 _ _) (fun q4 => ?_) (fun q4 => ?_)
      · have h := iteF h q4
        refine ok_aload_n 0 (pc := 27) dX11_byChance_27 rfl rfl ?_
        refine ok_getR (pc := 28) dX11_byChance_28 fl_X11_46 sh_0 (Nat.le_of_ble_eq_true rfl) rfl rfl ?_
        refine ok_callVi (As := []) (rest := []) (rm := rm_X0_kept) (pc := 31) dX11_byChance_31 me_X0_kept ml_X11_276 (ci := 0) rfl sh_16 (Nat.le_of_ble_eq_true rfl) rfl des_X0_kept rfl ⟨rfl, rfl, rfl, rfl⟩ rfl rfl (c_X0_kept X h) (fun r6 σ7 h5 h => ?_)
        refine ok_istore_n (L' := [(2, vI r6), (0, .ref (xad X 0)), (1, vI p1)]) (pc := 34) dX11_byChance_34 rfl rfl rfl ?_
        refine ok_iload_n 0 (pc := 35) dX11_byChance_35 rfl rfl ?_
        refine ok_if_ne (tgt := 43) (pc := 36) dX11_byChance_36 rfl h5 (fun q8 => ?_) (fun q8 => ?_)
        · have h := iteF h q8
          refine ok_iload_n 0 (pc := 43) dX11_byChance_43 rfl rfl ?_
          refine ok_i2l (pc := 44) dX11_byChance_44 h5 ?_
          refine ok_lstore_n (L' := [(3, vL r6), (2, vI r6), (0, .ref (xad X 0)), (1, vI p1)]) (pc := 45) dX11_byChance_45 rfl rfl rfl ?_
          refine ok_lconst (v := 1) (pc := 46) dX11_byChance_46 rfl ?_
          refine ok_lstore (L' := [(5, vL 1), (3, vL r6), (2, vI r6), (0, .ref (xad X 0)), (1, vI p1)]) (pc := 47) dX11_byChance_47 rfl rfl ?_
          refine ok_iconst (pc := 49) dX11_byChance_49 ?_
          refine ok_istore (L' := [(7, vI 0), (5, vL 1), (3, vL r6), (2, vI r6), (0, .ref (xad X 0)), (1, vI p1)]) (pc := 50) dX11_byChance_50 rfl rfl ?_
          refine ok_sub (L' := [(0, .ref (xad X 0)), (1, vI p1), (2, vI r6), (3, vL r6), (5, vL 1), (7, vI 0)]) [4,5,3,2,1,0] rfl ?_
          obtain ⟨n9, h⟩ := h
          exact w_X11_byChance_52 X p1 hp1 r6 h5 n9 r6 1 0 σ7 (l_of_r h5) (l_of_r (r_lit rfl)) (r_lit rfl) h
        · have h := iteT h q8
          refine ok_ldc2 (pc := 39) dX11_byChance_39 cn_X11_280 ?_
          exact ok_lret (pc := 42) dX11_byChance_42 rfl rfl (l_of_r (r_lit rfl)) h
      · have h := iteT h q4
        refine ok_ldc2 (pc := 23) dX11_byChance_23 cn_X11_233 ?_
        exact ok_lret (pc := 26) dX11_byChance_26 rfl rfl (l_of_r (r_lit rfl)) h
    · have h := iteT h q2
      refine ok_ldc2 (pc := 9) dX11_byChance_9 cn_X11_231 ?_
      exact ok_lret (pc := 12) dX11_byChance_12 rfl rfl (l_of_r (r_lit rfl)) h
theorem dX11_grown_0 : decode cX11_grown 0 = .ok (.aload_n 0, 1) := by decide +kernel
theorem dX11_grown_1 : decode cX11_grown 1 = .ok (.getfield 46, 3) := by decide +kernel
theorem dX11_grown_4 : decode cX11_grown 4 = .ok (.iload_n 1, 1) := by decide +kernel
theorem dX11_grown_5 : decode cX11_grown 5 = .ok (.invokevirtual 154, 3) := by decide +kernel
theorem dX11_grown_8 : decode cX11_grown 8 = .ok (.ifCond .eq 33, 3) := by decide +kernel
theorem dX11_grown_11 : decode cX11_grown 11 = .ok (.iload_n 2, 1) := by decide +kernel
theorem dX11_grown_12 : decode cX11_grown 12 = .ok (.invokestatic 203, 3) := by decide +kernel
theorem dX11_grown_15 : decode cX11_grown 15 = .ok (.ifCond .eq 26, 3) := by decide +kernel
theorem dX11_grown_18 : decode cX11_grown 18 = .ok (.iload_n 3, 1) := by decide +kernel
theorem dX11_grown_19 : decode cX11_grown 19 = .ok (.invokestatic 104, 3) := by decide +kernel
theorem dX11_grown_22 : decode cX11_grown 22 = .ok (.ifCond .eq 19, 3) := by decide +kernel
theorem dX11_grown_25 : decode cX11_grown 25 = .ok (.iload_n 3, 1) := by decide +kernel
theorem dX11_grown_26 : decode cX11_grown 26 = .ok (.aload_n 0, 1) := by decide +kernel
theorem dX11_grown_27 : decode cX11_grown 27 = .ok (.getfield 46, 3) := by decide +kernel
theorem dX11_grown_30 : decode cX11_grown 30 = .ok (.getfield 157, 3) := by decide +kernel
theorem dX11_grown_33 : decode cX11_grown 33 = .ok (.iload_n 1, 1) := by decide +kernel
theorem dX11_grown_34 : decode cX11_grown 34 = .ok (.aaload, 1) := by decide +kernel
theorem dX11_grown_35 : decode cX11_grown 35 = .ok (.getfield 175, 3) := by decide +kernel
theorem dX11_grown_38 : decode cX11_grown 38 = .ok (.if_icmp .ge 5, 3) := by decide +kernel
theorem dX11_grown_41 : decode cX11_grown 41 = .ok (.iconst (-1), 1) := by decide +kernel
theorem dX11_grown_42 : decode cX11_grown 42 = .ok (.ireturn, 1) := by decide +kernel
theorem dX11_grown_43 : decode cX11_grown 43 = .ok (.aload_n 0, 1) := by decide +kernel
theorem dX11_grown_44 : decode cX11_grown 44 = .ok (.getfield 46, 3) := by decide +kernel
theorem dX11_grown_47 : decode cX11_grown 47 = .ok (.getfield 157, 3) := by decide +kernel
theorem dX11_grown_50 : decode cX11_grown 50 = .ok (.iload_n 1, 1) := by decide +kernel
theorem dX11_grown_51 : decode cX11_grown 51 = .ok (.aaload, 1) := by decide +kernel
theorem dX11_grown_52 : decode cX11_grown 52 = .ok (.iload_n 2, 1) := by decide +kernel
theorem dX11_grown_53 : decode cX11_grown 53 = .ok (.iload_n 3, 1) := by decide +kernel
theorem dX11_grown_54 : decode cX11_grown 54 = .ok (.aload_n 0, 1) := by decide +kernel
theorem dX11_grown_55 : decode cX11_grown 55 = .ok (.getfield 19, 3) := by decide +kernel
theorem dX11_grown_58 : decode cX11_grown 58 = .ok (.bipush 14, 2) := by decide +kernel
theorem dX11_grown_60 : decode cX11_grown 60 = .ok (.iload_n 2, 1) := by decide +kernel
theorem dX11_grown_61 : decode cX11_grown 61 = .ok (.iadd, 1) := by decide +kernel
theorem dX11_grown_62 : decode cX11_grown 62 = .ok (.iload_n 3, 1) := by decide +kernel
theorem dX11_grown_63 : decode cX11_grown 63 = .ok (.invokevirtual 141, 3) := by decide +kernel
theorem dX11_grown_66 : decode cX11_grown 66 = .ok (.invokevirtual 286, 3) := by decide +kernel
theorem dX11_grown_69 : decode cX11_grown 69 = .ok (.ireturn, 1) := by decide +kernel
set_option maxRecDepth 100000 in
set_option maxHeartbeats 4000000 in
theorem c_X11_grown (X : XE) (p1 : Int) (p2 : Int) (p3 : Int) (hp1 : inR p1) (hp2 : inR p2) (hp3 : inR p3) {σ : Mem} {Q : Int → Mem → Prop} (h : v_X11_grown p1 p2 p3 σ Q) : CT X yX11_grown cX11_grown 4 (some .int) rm_X11_grown 1 [.ref (xad X 0), vI p1, vI p2, vI p3] σ Q := by
  refine ct_of (own := RX11) (L := [(0, .ref (xad X 0)), (1, vI p1), (2, vI p2), (3, vI p3)]) rfl rfl (Nat.le_of_ble_eq_true rfl) rfl ?_
  refine ok_aload_n 0 (pc := 0) dX11_grown_0 rfl rfl ?_
  refine ok_getR (pc := 1) dX11_grown_1 fl_X11_46 sh_0 (Nat.le_of_ble_eq_true rfl) rfl rfl ?_
  refine ok_iload_n 1 (pc := 4) dX11_grown_4 rfl rfl ?_
  refine ok_callVi (As := [vI p1]) (rest := []) (rm := rm_X0_has) (pc := 5) dX11_grown_5 me_X0_has ml_X11_154 (ci := 0) rfl sh_16 (Nat.le_of_ble_eq_true rfl) rfl des_X0_has rfl ⟨rfl, rfl, rfl, rfl⟩ rfl rfl (c_X0_has X p1 hp1 h) (fun r2 σ3 h1 h => ?_)
  refine ok_if_eq (tgt := 41) (pc := 8) dX11_grown_8 rfl h1 (fun q4 => ?_) (fun q4 => ?_)
  · have h := iteT h q4
    refine ok_iconst (pc := 41) dX11_grown_41 ?_
    exact ok_iret (pc := 42) dX11_grown_42 rfl rfl rfl (r_lit rfl) h
  · have h := iteF h q4
    refine ok_iload_n 2 (pc := 11) dX11_grown_11 rfl rfl ?_
    refine ok_callSi (As := [vI p2]) (rest := []) (rm := rm_X11_isMeasure) (pc := 12) dX11_grown_12 me_X11_isMeasure ml_X11_203 des_X11_isMeasure rfl ⟨rfl, rfl, rfl, rfl⟩ rfl rfl (c_X11_isMeasure X p2 hp2 h) (fun r6 σ7 h5 h => ?_)
    refine ok_if_eq (tgt := 41) (pc := 15) dX11_grown_15 rfl h5 (fun q8 => ?_) (fun q8 => ?_)
    · have h := iteT h q8
      refine ok_iconst (pc := 41) dX11_grown_41 ?_
      exact ok_iret (pc := 42) dX11_grown_42 rfl rfl rfl (r_lit rfl) h
    · have h := iteF h q8
      refine ok_iload_n 3 (pc := 18) dX11_grown_18 rfl rfl ?_
      refine ok_callSi (As := [vI p3]) (rest := []) (rm := rm_X11_isDay) (pc := 19) dX11_grown_19 me_X11_isDay ml_X11_104 des_X11_isDay rfl ⟨rfl, rfl, rfl, rfl⟩ rfl rfl (c_X11_isDay X p3 hp3 h) (fun r10 σ11 h9 h => ?_)
      refine ok_if_eq (tgt := 41) (pc := 22) dX11_grown_22 rfl h9 (fun q12 => ?_) (fun q12 => ?_)
      · have h := iteT h q12
        refine ok_iconst (pc := 41) dX11_grown_41 ?_
        exact ok_iret (pc := 42) dX11_grown_42 rfl rfl rfl (r_lit rfl) h
      · have h := iteF h q12
        refine ok_iload_n 3 (pc := 25) dX11_grown_25 rfl rfl ?_
        refine ok_aload_n 0 (pc := 26) dX11_grown_26 rfl rfl ?_
        refine ok_getR (pc := 27) dX11_grown_27 fl_X11_46 sh_0 (Nat.le_of_ble_eq_true rfl) rfl rfl ?_
        refine ok_getR (pc := 30) dX11_grown_30 fl_X11_157 sh_16 (Nat.le_of_ble_eq_true rfl) rfl rfl ?_
        refine ok_iload_n 1 (pc := 33) dX11_grown_33 rfl rfl ?_
        obtain ⟨h13, h⟩ := h
        obtain ⟨h14, h⟩ := h
        refine ok_cards (pc := 34) dX11_grown_34 h13 h14 ?_
        have hc15 : p1.toNat < 24 := by omega
        refine ok_wf (fun hw16 => ?_)
        refine ok_getI (pc := 35) dX11_grown_35 fl_X11_175 (sh_card (p1.toNat) hc15) (lt_card hc15).1 rfl rfl ?_
        refine ok_icmp_ge (tgt := 43) (pc := 38) dX11_grown_38 rfl hp3 (hw16 _ _) (fun q17 => ?_) (fun q17 => ?_)
        · have h := iteF h q17
          refine ok_aload_n 0 (pc := 43) dX11_grown_43 rfl rfl ?_
          refine ok_getR (pc := 44) dX11_grown_44 fl_X11_46 sh_0 (Nat.le_of_ble_eq_true rfl) rfl rfl ?_
          refine ok_getR (pc := 47) dX11_grown_47 fl_X11_157 sh_16 (Nat.le_of_ble_eq_true rfl) rfl rfl ?_
          refine ok_iload_n 1 (pc := 50) dX11_grown_50 rfl rfl ?_
          refine ok_cards (pc := 51) dX11_grown_51 h13 h14 ?_
          have hc18 : p1.toNat < 24 := by omega
          refine ok_iload_n 2 (pc := 52) dX11_grown_52 rfl rfl ?_
          refine ok_iload_n 3 (pc := 53) dX11_grown_53 rfl rfl ?_
          refine ok_aload_n 0 (pc := 54) dX11_grown_54 rfl rfl ?_
          refine ok_getR (pc := 55) dX11_grown_55 fl_X11_19 sh_0 (Nat.le_of_ble_eq_true rfl) rfl rfl ?_
          refine ok_bipush (pc := 58) dX11_grown_58 rfl ?_
          refine ok_iload_n 2 (pc := 60) dX11_grown_60 rfl rfl ?_
          refine ok_iadd (pc := 61) dX11_grown_61 ?_
          refine ok_iload_n 3 (pc := 62) dX11_grown_62 rfl rfl ?_
          obtain ⟨h19, h⟩ := h
          refine ok_callVi (As := [vI (14 + p2), vI p3]) (rest := [vI p3, vI p2, .ref (xad X (23 + 3 * (p1.toNat)))]) (rm := rm_X7_value_3) (pc := 63) dX11_grown_63 me_X7_value ml_X11_141 (ci := 7) rfl sh_3 (Nat.le_of_ble_eq_true rfl) rfl des_X7_value rfl ⟨rfl, rfl, rfl, rfl⟩ rfl rfl (c_X7_value_3 X (14 + p2) p3 h19 hp3 h) (fun r21 σ22 h20 h => ?_)
          refine ok_callVi (As := [vI p2, vI p3, vI r21]) (rest := []) (rm := rm_X1_canMeasure) (pc := 66) dX11_grown_66 me_X1_canMeasure ml_X11_286 (ci := 1) rfl (sh_card (p1.toNat) hc18) (lt_card hc18).1 rfl des_X1_canMeasure rfl ⟨rfl, rfl, rfl, rfl⟩ rfl rfl (c_X1_canMeasure X (p1.toNat) p2 p3 r21 hc18 hp2 hp3 h20 h) (fun r24 σ25 h23 h => ?_)
          exact ok_iret (pc := 69) dX11_grown_69 rfl rfl rfl h23 h
        · have h := iteT h q17
          refine ok_iconst (pc := 41) dX11_grown_41 ?_
          exact ok_iret (pc := 42) dX11_grown_42 rfl rfl rfl (r_lit rfl) h
theorem dX0_printed_0 : decode cX0_printed 0 = .ok (.iconst 0, 1) := by decide +kernel
theorem dX0_printed_1 : decode cX0_printed 1 = .ok (.istore_n 2, 1) := by decide +kernel
theorem dX0_printed_2 : decode cX0_printed 2 = .ok (.iconst 0, 1) := by decide +kernel
theorem dX0_printed_3 : decode cX0_printed 3 = .ok (.istore_n 3, 1) := by decide +kernel
theorem dX0_printed_4 : decode cX0_printed 4 = .ok (.iload_n 3, 1) := by decide +kernel
theorem dX0_printed_5 : decode cX0_printed 5 = .ok (.aload_n 0, 1) := by decide +kernel
theorem dX0_printed_6 : decode cX0_printed 6 = .ok (.getfield 39, 3) := by decide +kernel
theorem dX0_printed_9 : decode cX0_printed 9 = .ok (.if_icmp .ge 43, 3) := by decide +kernel
theorem dX0_printed_12 : decode cX0_printed 12 = .ok (.aload_n 0, 1) := by decide +kernel
theorem dX0_printed_13 : decode cX0_printed 13 = .ok (.getfield 11, 3) := by decide +kernel
theorem dX0_printed_16 : decode cX0_printed 16 = .ok (.iload_n 3, 1) := by decide +kernel
theorem dX0_printed_17 : decode cX0_printed 17 = .ok (.aaload, 1) := by decide +kernel
theorem dX0_printed_18 : decode cX0_printed 18 = .ok (.invokevirtual 77, 3) := by decide +kernel
theorem dX0_printed_21 : decode cX0_printed 21 = .ok (.ifCond .ne 25, 3) := by decide +kernel
theorem dX0_printed_24 : decode cX0_printed 24 = .ok (.aload_n 0, 1) := by decide +kernel
theorem dX0_printed_25 : decode cX0_printed 25 = .ok (.getfield 11, 3) := by decide +kernel
theorem dX0_printed_28 : decode cX0_printed 28 = .ok (.iload_n 3, 1) := by decide +kernel
theorem dX0_printed_29 : decode cX0_printed 29 = .ok (.aaload, 1) := by decide +kernel
theorem dX0_printed_30 : decode cX0_printed 30 = .ok (.getfield 49, 3) := by decide +kernel
theorem dX0_printed_33 : decode cX0_printed 33 = .ok (.invokestatic 85, 3) := by decide +kernel
theorem dX0_printed_36 : decode cX0_printed 36 = .ok (.iload_n 1, 1) := by decide +kernel
theorem dX0_printed_37 : decode cX0_printed 37 = .ok (.if_icmp .ne 9, 3) := by decide +kernel
theorem dX0_printed_40 : decode cX0_printed 40 = .ok (.iload_n 2, 1) := by decide +kernel
theorem dX0_printed_41 : decode cX0_printed 41 = .ok (.iconst 1, 1) := by decide +kernel
theorem dX0_printed_42 : decode cX0_printed 42 = .ok (.iload_n 3, 1) := by decide +kernel
theorem dX0_printed_43 : decode cX0_printed 43 = .ok (.ishl, 1) := by decide +kernel
theorem dX0_printed_44 : decode cX0_printed 44 = .ok (.ior, 1) := by decide +kernel
theorem dX0_printed_45 : decode cX0_printed 45 = .ok (.istore_n 2, 1) := by decide +kernel
theorem dX0_printed_46 : decode cX0_printed 46 = .ok (.iinc 3 1, 3) := by decide +kernel
theorem dX0_printed_49 : decode cX0_printed 49 = .ok (.goto (-45), 3) := by decide +kernel
theorem dX0_printed_52 : decode cX0_printed 52 = .ok (.iload_n 2, 1) := by decide +kernel
theorem dX0_printed_53 : decode cX0_printed 53 = .ok (.ireturn, 1) := by decide +kernel
set_option maxRecDepth 100000 in
set_option maxHeartbeats 4000000 in
theorem w_X0_printed_4 (X : XE) (p1 : Int) (hp1 : inR p1) {Q : Int → Mem → Prop} : ∀ (n : Nat) (x2 : Int) (x3 : Int) (σ : Mem), inR x2 → inR x3 → l_X0_printed_4 p1 Q n x2 x3 σ → ok X rm_X0_printed RX0 cX0_printed 4 (some .int) 1 Q 4 [(0, .ref (xad X 16)), (1, vI p1), (2, vI x2), (3, vI x3)] [] σ := by
  intro n
  induction n with
  | zero => intro x2 x3 σ hx2 hx3 h; exact False.elim h
  | succ n ih =>
    intro x2 x3 σ hx2 hx3 h
    refine ok_iload_n 3 (pc := 4) dX0_printed_4 rfl rfl ?_
    refine ok_aload_n 0 (pc := 5) dX0_printed_5 rfl rfl ?_
    refine ok_wf (fun hw1 => ?_)
    refine ok_getI (pc := 6) dX0_printed_6 fl_X0_39 sh_16 (Nat.le_of_ble_eq_true rfl) rfl rfl ?_
    refine ok_icmp_ge (tgt := 52) (pc := 9) dX0_printed_9 rfl hx3 (hw1 _ _) (fun q2 => ?_) (fun q2 => ?_)
    · have h := iteF h q2
      refine ok_iload_n 2 (pc := 52) dX0_printed_52 rfl rfl ?_
      exact ok_iret (pc := 53) dX0_printed_53 rfl rfl rfl hx2 h
    · have h := iteT h q2
      refine ok_aload_n 0 (pc := 12) dX0_printed_12 rfl rfl ?_
      refine ok_getR (pc := 13) dX0_printed_13 fl_X0_11 sh_16 (Nat.le_of_ble_eq_true rfl) rfl rfl ?_
      refine ok_iload_n 3 (pc := 16) dX0_printed_16 rfl rfl ?_
      obtain ⟨h3, h⟩ := h
      obtain ⟨h4, h⟩ := h
      refine ok_cards (pc := 17) dX0_printed_17 h3 h4 ?_
      have hc5 : x3.toNat < 24 := by omega
      refine ok_callVi (As := []) (rest := []) (rm := rm_X1_isOut) (pc := 18) dX0_printed_18 me_X1_isOut ml_X0_77 (ci := 1) rfl (sh_card (x3.toNat) hc5) (lt_card hc5).1 rfl des_X1_isOut rfl ⟨rfl, rfl, rfl, rfl⟩ rfl rfl (c_X1_isOut X (x3.toNat) hc5 h) (fun r7 σ8 h6 h => ?_)
      refine ok_if_ne (tgt := 46) (pc := 21) dX0_printed_21 rfl h6 (fun q9 => ?_) (fun q9 => ?_)
      · have h := iteF h q9
        refine ok_iinc (L' := [(3, vI (x3 + 1)), (0, .ref (xad X 16)), (1, vI p1), (2, vI x2)]) 3 (pc := 46) dX0_printed_46 rfl rfl rfl ?_
        refine ok_goto (tgt := 4) (pc := 49) dX0_printed_49 rfl ?_
        obtain ⟨h10, h⟩ := h
        refine ok_sub (L' := [(0, .ref (xad X 16)), (1, vI p1), (2, vI x2), (3, vI (x3 + 1))]) [1,2,3,0] rfl ?_
        exact ih x2 (x3 + 1) σ8 hx2 h10 h
      · have h := iteT h q9
        refine ok_aload_n 0 (pc := 24) dX0_printed_24 rfl rfl ?_
        refine ok_getR (pc := 25) dX0_printed_25 fl_X0_11 sh_16 (Nat.le_of_ble_eq_true rfl) rfl rfl ?_
        refine ok_iload_n 3 (pc := 28) dX0_printed_28 rfl rfl ?_
        refine ok_cards (pc := 29) dX0_printed_29 h3 h4 ?_
        have hc11 : x3.toNat < 24 := by omega
        refine ok_wf (fun hw12 => ?_)
        refine ok_getI (pc := 30) dX0_printed_30 fl_X0_49 (sh_card (x3.toNat) hc11) (lt_card hc11).1 rfl rfl ?_
        refine ok_callSi (As := [vI (σ8 (23 + 3 * (x3.toNat)) 2)]) (rest := []) (rm := rm_J6_bitCount_0f7a4) (pc := 33) dX0_printed_33 me_J6_bitCount_0f7a4 ml_X0_85 des_J6_bitCount_0f7a4 rfl ⟨rfl, rfl, rfl, rfl⟩ rfl rfl (c_J6_bitCount_0f7a4 X (σ8 (23 + 3 * (x3.toNat)) 2) (hw12 _ _) h) (fun r14 σ15 h13 h => ?_)
        refine ok_iload_n 1 (pc := 36) dX0_printed_36 rfl rfl ?_
        refine ok_icmp_ne (tgt := 46) (pc := 37) dX0_printed_37 rfl h13 hp1 (fun q16 => ?_) (fun q16 => ?_)
        · have h := iteF h q16
          refine ok_iinc (L' := [(3, vI (x3 + 1)), (0, .ref (xad X 16)), (1, vI p1), (2, vI x2)]) 3 (pc := 46) dX0_printed_46 rfl rfl rfl ?_
          refine ok_goto (tgt := 4) (pc := 49) dX0_printed_49 rfl ?_
          obtain ⟨h17, h⟩ := h
          refine ok_sub (L' := [(0, .ref (xad X 16)), (1, vI p1), (2, vI x2), (3, vI (x3 + 1))]) [1,2,3,0] rfl ?_
          exact ih x2 (x3 + 1) σ15 hx2 h17 h
        · have h := iteT h q16
          refine ok_iload_n 2 (pc := 40) dX0_printed_40 rfl rfl ?_
          refine ok_iconst (pc := 41) dX0_printed_41 ?_
          refine ok_iload_n 3 (pc := 42) dX0_printed_42 rfl rfl ?_
          refine ok_ishl (pc := 43) dX0_printed_43 ?_
          refine ok_ior (pc := 44) dX0_printed_44 ?_
          refine ok_istore_n (L' := [(2, vI (ior x2 (ishl 1 x3))), (0, .ref (xad X 16)), (1, vI p1), (3, vI x3)]) (pc := 45) dX0_printed_45 rfl rfl rfl ?_
          refine ok_iinc (L' := [(3, vI (x3 + 1)), (2, vI (ior x2 (ishl 1 x3))), (0, .ref (xad X 16)), (1, vI p1)]) 3 (pc := 46) dX0_printed_46 rfl rfl rfl ?_
          refine ok_goto (tgt := 4) (pc := 49) dX0_printed_49 rfl ?_
          obtain ⟨h18, h⟩ := h
          refine ok_sub (L' := [(0, .ref (xad X 16)), (1, vI p1), (2, vI (ior x2 (ishl 1 x3))), (3, vI (x3 + 1))]) [2,3,1,0] rfl ?_
          exact ih (ior x2 (ishl 1 x3)) (x3 + 1) σ15 (q_rng _) h18 h
set_option maxRecDepth 100000 in
set_option maxHeartbeats 4000000 in
theorem c_X0_printed (X : XE) (p1 : Int) (hp1 : inR p1) {σ : Mem} {Q : Int → Mem → Prop} (h : v_X0_printed p1 σ Q) : CT X yX0_printed cX0_printed 4 (some .int) rm_X0_printed 1 [.ref (xad X 16), vI p1] σ Q := by
  refine ct_of (own := RX0) (L := [(0, .ref (xad X 16)), (1, vI p1)]) rfl rfl (Nat.le_of_ble_eq_true rfl) rfl ?_
  refine ok_iconst (pc := 0) dX0_printed_0 ?_
  refine ok_istore_n (L' := [(2, vI 0), (0, .ref (xad X 16)), (1, vI p1)]) (pc := 1) dX0_printed_1 rfl rfl rfl ?_
  refine ok_iconst (pc := 2) dX0_printed_2 ?_
  refine ok_istore_n (L' := [(3, vI 0), (2, vI 0), (0, .ref (xad X 16)), (1, vI p1)]) (pc := 3) dX0_printed_3 rfl rfl rfl ?_
  refine ok_sub (L' := [(0, .ref (xad X 16)), (1, vI p1), (2, vI 0), (3, vI 0)]) [2,3,1,0] rfl ?_
  obtain ⟨n1, h⟩ := h
  exact w_X0_printed_4 X p1 hp1 n1 0 0 σ (r_lit rfl) (r_lit rfl) h
theorem dX11_beside_0 : decode cX11_beside 0 = .ok (.iload_n 1, 1) := by decide +kernel
theorem dX11_beside_1 : decode cX11_beside 1 = .ok (.ifCond .lt 25, 3) := by decide +kernel
theorem dX11_beside_4 : decode cX11_beside 4 = .ok (.iload_n 1, 1) := by decide +kernel
theorem dX11_beside_5 : decode cX11_beside 5 = .ok (.bipush 10, 2) := by decide +kernel
theorem dX11_beside_7 : decode cX11_beside 7 = .ok (.if_icmp .gt 19, 3) := by decide +kernel
theorem dX11_beside_10 : decode cX11_beside 10 = .ok (.iload_n 2, 1) := by decide +kernel
theorem dX11_beside_11 : decode cX11_beside 11 = .ok (.invokestatic 249, 3) := by decide +kernel
theorem dX11_beside_14 : decode cX11_beside 14 = .ok (.ifCond .eq 12, 3) := by decide +kernel
theorem dX11_beside_17 : decode cX11_beside 17 = .ok (.iload_n 3, 1) := by decide +kernel
theorem dX11_beside_18 : decode cX11_beside 18 = .ok (.ifCond .lt 8, 3) := by decide +kernel
theorem dX11_beside_21 : decode cX11_beside 21 = .ok (.iload_n 3, 1) := by decide +kernel
theorem dX11_beside_22 : decode cX11_beside 22 = .ok (.iconst 3, 1) := by decide +kernel
theorem dX11_beside_23 : decode cX11_beside 23 = .ok (.if_icmp .le 5, 3) := by decide +kernel
theorem dX11_beside_26 : decode cX11_beside 26 = .ok (.iconst (-1), 1) := by decide +kernel
theorem dX11_beside_27 : decode cX11_beside 27 = .ok (.ireturn, 1) := by decide +kernel
theorem dX11_beside_28 : decode cX11_beside 28 = .ok (.aload_n 0, 1) := by decide +kernel
theorem dX11_beside_29 : decode cX11_beside 29 = .ok (.getfield 53, 3) := by decide +kernel
theorem dX11_beside_32 : decode cX11_beside 32 = .ok (.getfield 225, 3) := by decide +kernel
theorem dX11_beside_35 : decode cX11_beside 35 = .ok (.ifCond .ne 6, 3) := by decide +kernel
theorem dX11_beside_38 : decode cX11_beside 38 = .ok (.bipush (-2), 2) := by decide +kernel
theorem dX11_beside_40 : decode cX11_beside 40 = .ok (.ireturn, 1) := by decide +kernel
theorem dX11_beside_41 : decode cX11_beside 41 = .ok (.iload_n 3, 1) := by decide +kernel
theorem dX11_beside_42 : decode cX11_beside 42 = .ok (.ifCond .eq 8, 3) := by decide +kernel
theorem dX11_beside_45 : decode cX11_beside 45 = .ok (.iload_n 3, 1) := by decide +kernel
theorem dX11_beside_46 : decode cX11_beside 46 = .ok (.iconst 2, 1) := by decide +kernel
theorem dX11_beside_47 : decode cX11_beside 47 = .ok (.if_icmp .ne 45, 3) := by decide +kernel
theorem dX11_beside_50 : decode cX11_beside 50 = .ok (.aload_n 0, 1) := by decide +kernel
theorem dX11_beside_51 : decode cX11_beside 51 = .ok (.getfield 60, 3) := by decide +kernel
theorem dX11_beside_54 : decode cX11_beside 54 = .ok (.aload_n 0, 1) := by decide +kernel
theorem dX11_beside_55 : decode cX11_beside 55 = .ok (.getfield 53, 3) := by decide +kernel
theorem dX11_beside_58 : decode cX11_beside 58 = .ok (.aload_n 0, 1) := by decide +kernel
theorem dX11_beside_59 : decode cX11_beside 59 = .ok (.getfield 37, 3) := by decide +kernel
theorem dX11_beside_62 : decode cX11_beside 62 = .ok (.invokevirtual 235, 3) := by decide +kernel
theorem dX11_beside_65 : decode cX11_beside 65 = .ok (.aload_n 0, 1) := by decide +kernel
theorem dX11_beside_66 : decode cX11_beside 66 = .ok (.getfield 60, 3) := by decide +kernel
theorem dX11_beside_69 : decode cX11_beside 69 = .ok (.iload_n 2, 1) := by decide +kernel
theorem dX11_beside_70 : decode cX11_beside 70 = .ok (.invokevirtual 252, 3) := by decide +kernel
theorem dX11_beside_73 : decode cX11_beside 73 = .ok (.aload_n 0, 1) := by decide +kernel
theorem dX11_beside_74 : decode cX11_beside 74 = .ok (.getfield 46, 3) := by decide +kernel
theorem dX11_beside_77 : decode cX11_beside 77 = .ok (.aload_n 0, 1) := by decide +kernel
theorem dX11_beside_78 : decode cX11_beside 78 = .ok (.getfield 60, 3) := by decide +kernel
theorem dX11_beside_81 : decode cX11_beside 81 = .ok (.getfield 262, 3) := by decide +kernel
theorem dX11_beside_84 : decode cX11_beside 84 = .ok (.invokevirtual 213, 3) := by decide +kernel
theorem dX11_beside_87 : decode cX11_beside 87 = .ok (.istore 4, 2) := by decide +kernel
theorem dX11_beside_89 : decode cX11_beside 89 = .ok (.goto 13, 3) := by decide +kernel
theorem dX11_beside_92 : decode cX11_beside 92 = .ok (.aload_n 0, 1) := by decide +kernel
theorem dX11_beside_93 : decode cX11_beside 93 = .ok (.getfield 46, 3) := by decide +kernel
theorem dX11_beside_96 : decode cX11_beside 96 = .ok (.iload_n 1, 1) := by decide +kernel
theorem dX11_beside_97 : decode cX11_beside 97 = .ok (.invokevirtual 289, 3) := by decide +kernel
theorem dX11_beside_100 : decode cX11_beside 100 = .ok (.istore 4, 2) := by decide +kernel
theorem dX11_beside_102 : decode cX11_beside 102 = .ok (.iload_n 3, 1) := by decide +kernel
theorem dX11_beside_103 : decode cX11_beside 103 = .ok (.iconst 2, 1) := by decide +kernel
theorem dX11_beside_104 : decode cX11_beside 104 = .ok (.if_icmp .lt 26, 3) := by decide +kernel
theorem dX11_beside_107 : decode cX11_beside 107 = .ok (.aload_n 0, 1) := by decide +kernel
theorem dX11_beside_108 : decode cX11_beside 108 = .ok (.getfield 53, 3) := by decide +kernel
theorem dX11_beside_111 : decode cX11_beside 111 = .ok (.aload_n 0, 1) := by decide +kernel
theorem dX11_beside_112 : decode cX11_beside 112 = .ok (.getfield 46, 3) := by decide +kernel
theorem dX11_beside_115 : decode cX11_beside 115 = .ok (.invokevirtual 265, 3) := by decide +kernel
theorem dX11_beside_118 : decode cX11_beside 118 = .ok (.iload 4, 2) := by decide +kernel
theorem dX11_beside_120 : decode cX11_beside 120 = .ok (.aload_n 0, 1) := by decide +kernel
theorem dX11_beside_121 : decode cX11_beside 121 = .ok (.getfield 53, 3) := by decide +kernel
theorem dX11_beside_124 : decode cX11_beside 124 = .ok (.getfield 275, 3) := by decide +kernel
theorem dX11_beside_127 : decode cX11_beside 127 = .ok (.iand, 1) := by decide +kernel
theorem dX11_beside_128 : decode cX11_beside 128 = .ok (.istore 4, 2) := by decide +kernel
theorem dX11_beside_130 : decode cX11_beside 130 = .ok (.iload 4, 2) := by decide +kernel
theorem dX11_beside_132 : decode cX11_beside 132 = .ok (.invokestatic 217, 3) := by decide +kernel
theorem dX11_beside_135 : decode cX11_beside 135 = .ok (.ireturn, 1) := by decide +kernel
set_option maxRecDepth 100000 in
set_option maxHeartbeats 4000000 in
theorem w_X11_beside_130 (X : XE) (p1 : Int) (p2 : Int) (p3 : Int) (hp1 : inR p1) (hp2 : inR p2) (hp3 : inR p3) (x4 : Int) (hx4 : inR x4) {Q : Int → Mem → Prop} {σ : Mem} (h : j_X11_beside_130 p1 p2 p3 Q x4 σ) : ok X rm_X11_beside RX11 cX11_beside 5 (some .int) 1 Q 130 [(4, vI x4)] [] σ := by
  refine ok_iload 0 (pc := 130) dX11_beside_130 rfl ?_
  refine ok_callSi (As := [vI x4]) (rest := []) (rm := rm_J6_bitCount_0f7a4) (pc := 132) dX11_beside_132 me_J6_bitCount_0f7a4 ml_X11_217 des_J6_bitCount_0f7a4 rfl ⟨rfl, rfl, rfl, rfl⟩ rfl rfl (c_J6_bitCount_0f7a4 X x4 hx4 h) (fun r2 σ3 h1 h => ?_)
  exact ok_iret (pc := 135) dX11_beside_135 rfl rfl rfl h1 h
set_option maxRecDepth 100000 in
set_option maxHeartbeats 4000000 in
theorem w_X11_beside_102 (X : XE) (p1 : Int) (p2 : Int) (p3 : Int) (hp1 : inR p1) (hp2 : inR p2) (hp3 : inR p3) (x4 : Int) (hx4 : inR x4) {Q : Int → Mem → Prop} {σ : Mem} (h : j_X11_beside_102 p1 p2 p3 Q x4 σ) : ok X rm_X11_beside RX11 cX11_beside 5 (some .int) 1 Q 102 [(0, .ref (xad X 0)), (3, vI p3), (4, vI x4)] [] σ := by
  refine ok_iload_n 1 (pc := 102) dX11_beside_102 rfl rfl ?_
  refine ok_iconst (pc := 103) dX11_beside_103 ?_
  refine ok_icmp_lt (tgt := 130) (pc := 104) dX11_beside_104 rfl hp3 (r_lit rfl) (fun q1 => ?_) (fun q1 => ?_)
  · have h := iteT h q1
    refine ok_sub (L' := [(4, vI x4)]) [2] rfl ?_
    exact w_X11_beside_130 X p1 p2 p3 hp1 hp2 hp3 x4 hx4 h
  · have h := iteF h q1
    refine ok_aload_n 0 (pc := 107) dX11_beside_107 rfl rfl ?_
    refine ok_getR (pc := 108) dX11_beside_108 fl_X11_53 sh_0 (Nat.le_of_ble_eq_true rfl) rfl rfl ?_
    refine ok_aload_n 0 (pc := 111) dX11_beside_111 rfl rfl ?_
    refine ok_getR (pc := 112) dX11_beside_112 fl_X11_46 sh_0 (Nat.le_of_ble_eq_true rfl) rfl rfl ?_
    refine ok_callVv (As := [.ref (xad X 16)]) (rest := []) (rm := rm_X10_findMatches) (pc := 115) dX11_beside_115 me_X10_findMatches ml_X11_265 (ci := 10) rfl sh_95 (Nat.le_of_ble_eq_true rfl) rfl des_X10_findMatches rfl ⟨rfl, rfl, rfl, rfl⟩ rfl rfl (c_X10_findMatches X h) (fun σ4 h => ?_)
    refine ok_iload 2 (pc := 118) dX11_beside_118 rfl ?_
    refine ok_aload_n 0 (pc := 120) dX11_beside_120 rfl rfl ?_
    refine ok_getR (pc := 121) dX11_beside_121 fl_X11_53 sh_0 (Nat.le_of_ble_eq_true rfl) rfl rfl ?_
    refine ok_wf (fun hw5 => ?_)
    refine ok_getI (pc := 124) dX11_beside_124 fl_X11_275 sh_95 (Nat.le_of_ble_eq_true rfl) rfl rfl ?_
    refine ok_iand (pc := 127) dX11_beside_127 ?_
    refine ok_istore (L' := [(4, vI (iand x4 (σ4 95 6))), (0, .ref (xad X 0)), (3, vI p3)]) (pc := 128) dX11_beside_128 rfl rfl ?_
    refine ok_sub (L' := [(4, vI (iand x4 (σ4 95 6)))]) [0] rfl ?_
    exact w_X11_beside_130 X p1 p2 p3 hp1 hp2 hp3 (iand x4 (σ4 95 6)) (q_rng _) h
set_option maxRecDepth 100000 in
set_option maxHeartbeats 4000000 in
theorem w_X11_beside_50 (X : XE) (p1 : Int) (p2 : Int) (p3 : Int) (hp1 : inR p1) (hp2 : inR p2) (hp3 : inR p3) {Q : Int → Mem → Prop} {σ : Mem} (h : j_X11_beside_50 p1 p2 p3 Q σ) : ok X rm_X11_beside RX11 cX11_beside 5 (some .int) 1 Q 50 [(0, .ref (xad X 0)), (2, vI p2), (3, vI p3)] [] σ := by
  refine ok_aload_n 0 (pc := 50) dX11_beside_50 rfl rfl ?_
  refine ok_getR (pc := 51) dX11_beside_51 fl_X11_60 sh_0 (Nat.le_of_ble_eq_true rfl) rfl rfl ?_
  refine ok_aload_n 0 (pc := 54) dX11_beside_54 rfl rfl ?_
  refine ok_getR (pc := 55) dX11_beside_55 fl_X11_53 sh_0 (Nat.le_of_ble_eq_true rfl) rfl rfl ?_
  refine ok_aload_n 0 (pc := 58) dX11_beside_58 rfl rfl ?_
  refine ok_getR (pc := 59) dX11_beside_59 fl_X11_37 sh_0 (Nat.le_of_ble_eq_true rfl) rfl rfl ?_
  refine ok_callVv (As := [.ref (xad X 95), .ref (xad X 14)]) (rest := []) (rm := rm_X3_weigh) (pc := 62) dX11_beside_62 me_X3_weigh ml_X11_235 (ci := 3) rfl sh_99 (Nat.le_of_ble_eq_true rfl) rfl des_X3_weigh rfl ⟨rfl, rfl, rfl, rfl⟩ rfl rfl (c_X3_weigh X h) (fun σ3 h => ?_)
  refine ok_aload_n 0 (pc := 65) dX11_beside_65 rfl rfl ?_
  refine ok_getR (pc := 66) dX11_beside_66 fl_X11_60 sh_0 (Nat.le_of_ble_eq_true rfl) rfl rfl ?_
  refine ok_iload_n 1 (pc := 69) dX11_beside_69 rfl rfl ?_
  refine ok_callVv (As := [vI p2]) (rest := []) (rm := rm_X3_take) (pc := 70) dX11_beside_70 me_X3_take ml_X11_252 (ci := 3) rfl sh_99 (Nat.le_of_ble_eq_true rfl) rfl des_X3_take rfl ⟨rfl, rfl, rfl, rfl⟩ rfl rfl (c_X3_take X p2 hp2 h) (fun σ6 h => ?_)
  refine ok_aload_n 0 (pc := 73) dX11_beside_73 rfl rfl ?_
  refine ok_getR (pc := 74) dX11_beside_74 fl_X11_46 sh_0 (Nat.le_of_ble_eq_true rfl) rfl rfl ?_
  refine ok_aload_n 0 (pc := 77) dX11_beside_77 rfl rfl ?_
  refine ok_getR (pc := 78) dX11_beside_78 fl_X11_60 sh_0 (Nat.le_of_ble_eq_true rfl) rfl rfl ?_
  refine ok_wf (fun hw7 => ?_)
  refine ok_getI (pc := 81) dX11_beside_81 fl_X11_262 sh_99 (Nat.le_of_ble_eq_true rfl) rfl rfl ?_
  refine ok_callVi (As := [vI (σ6 99 4)]) (rest := []) (rm := rm_X0_filedIn) (pc := 84) dX11_beside_84 me_X0_filedIn ml_X11_213 (ci := 0) rfl sh_16 (Nat.le_of_ble_eq_true rfl) rfl des_X0_filedIn rfl ⟨rfl, rfl, rfl, rfl⟩ rfl rfl (c_X0_filedIn X (σ6 99 4) (hw7 _ _) h) (fun r9 σ10 h8 h => ?_)
  refine ok_istore (L' := [(4, vI r9), (0, .ref (xad X 0)), (2, vI p2), (3, vI p3)]) (pc := 87) dX11_beside_87 rfl rfl ?_
  refine ok_goto (tgt := 102) (pc := 89) dX11_beside_89 rfl ?_
  refine ok_sub (L' := [(0, .ref (xad X 0)), (3, vI p3), (4, vI r9)]) [1,3,0] rfl ?_
  exact w_X11_beside_102 X p1 p2 p3 hp1 hp2 hp3 r9 h8 h
set_option maxRecDepth 100000 in
set_option maxHeartbeats 4000000 in
theorem c_X11_beside (X : XE) (p1 : Int) (p2 : Int) (p3 : Int) (hp1 : inR p1) (hp2 : inR p2) (hp3 : inR p3) {σ : Mem} {Q : Int → Mem → Prop} (h : v_X11_beside p1 p2 p3 σ Q) : CT X yX11_beside cX11_beside 5 (some .int) rm_X11_beside 1 [.ref (xad X 0), vI p1, vI p2, vI p3] σ Q := by
  refine ct_of (own := RX11) (L := [(0, .ref (xad X 0)), (1, vI p1), (2, vI p2), (3, vI p3)]) rfl rfl (Nat.le_of_ble_eq_true rfl) rfl ?_
  refine ok_iload_n 1 (pc := 0) dX11_beside_0 rfl rfl ?_
  refine ok_if_lt (tgt := 26) (pc := 1) dX11_beside_1 rfl hp1 (fun q1 => ?_) (fun q1 => ?_)
  · have h := iteT h q1
    refine ok_iconst (pc := 26) dX11_beside_26 ?_
    exact ok_iret (pc := 27) dX11_beside_27 rfl rfl rfl (r_lit rfl) h
  · have h := iteF h q1
    refine ok_iload_n 1 (pc := 4) dX11_beside_4 rfl rfl ?_
    refine ok_bipush (pc := 5) dX11_beside_5 rfl ?_
    refine ok_icmp_gt (tgt := 26) (pc := 7) dX11_beside_7 rfl hp1 (r_lit rfl) (fun q2 => ?_) (fun q2 => ?_)
    · have h := iteT h q2
      refine ok_iconst (pc := 26) dX11_beside_26 ?_
      exact ok_iret (pc := 27) dX11_beside_27 rfl rfl rfl (r_lit rfl) h
    · have h := iteF h q2
      refine ok_iload_n 2 (pc := 10) dX11_beside_10 rfl rfl ?_
      refine ok_callSi (As := [vI p2]) (rest := []) (rm := rm_X11_isShare) (pc := 11) dX11_beside_11 me_X11_isShare ml_X11_249 des_X11_isShare rfl ⟨rfl, rfl, rfl, rfl⟩ rfl rfl (c_X11_isShare X p2 hp2 h) (fun r4 σ5 h3 h => ?_)
      refine ok_if_eq (tgt := 26) (pc := 14) dX11_beside_14 rfl h3 (fun q6 => ?_) (fun q6 => ?_)
      · have h := iteT h q6
        refine ok_iconst (pc := 26) dX11_beside_26 ?_
        exact ok_iret (pc := 27) dX11_beside_27 rfl rfl rfl (r_lit rfl) h
      · have h := iteF h q6
        refine ok_iload_n 3 (pc := 17) dX11_beside_17 rfl rfl ?_
        refine ok_if_lt (tgt := 26) (pc := 18) dX11_beside_18 rfl hp3 (fun q7 => ?_) (fun q7 => ?_)
        · have h := iteT h q7
          refine ok_iconst (pc := 26) dX11_beside_26 ?_
          exact ok_iret (pc := 27) dX11_beside_27 rfl rfl rfl (r_lit rfl) h
        · have h := iteF h q7
          refine ok_iload_n 3 (pc := 21) dX11_beside_21 rfl rfl ?_
          refine ok_iconst (pc := 22) dX11_beside_22 ?_
          refine ok_icmp_le (tgt := 28) (pc := 23) dX11_beside_23 rfl hp3 (r_lit rfl) (fun q8 => ?_) (fun q8 => ?_)
          · have h := iteF h q8
            refine ok_aload_n 0 (pc := 28) dX11_beside_28 rfl rfl ?_
            refine ok_getR (pc := 29) dX11_beside_29 fl_X11_53 sh_0 (Nat.le_of_ble_eq_true rfl) rfl rfl ?_
            refine ok_wf (fun hw9 => ?_)
            refine ok_getI (pc := 32) dX11_beside_32 fl_X11_225 sh_95 (Nat.le_of_ble_eq_true rfl) rfl rfl ?_
            refine ok_if_ne (tgt := 41) (pc := 35) dX11_beside_35 rfl (hw9 _ _) (fun q10 => ?_) (fun q10 => ?_)
            · have h := iteF h q10
              refine ok_iload_n 3 (pc := 41) dX11_beside_41 rfl rfl ?_
              refine ok_if_eq (tgt := 50) (pc := 42) dX11_beside_42 rfl hp3 (fun q11 => ?_) (fun q11 => ?_)
              · have h := iteT h q11
                refine ok_sub (L' := [(0, .ref (xad X 0)), (2, vI p2), (3, vI p3)]) [0,2,3] rfl ?_
                exact w_X11_beside_50 X p1 p2 p3 hp1 hp2 hp3   h
              · have h := iteF h q11
                refine ok_iload_n 3 (pc := 45) dX11_beside_45 rfl rfl ?_
                refine ok_iconst (pc := 46) dX11_beside_46 ?_
                refine ok_icmp_ne (tgt := 92) (pc := 47) dX11_beside_47 rfl hp3 (r_lit rfl) (fun q12 => ?_) (fun q12 => ?_)
                · have h := iteF h q12
                  refine ok_aload_n 0 (pc := 92) dX11_beside_92 rfl rfl ?_
                  refine ok_getR (pc := 93) dX11_beside_93 fl_X11_46 sh_0 (Nat.le_of_ble_eq_true rfl) rfl rfl ?_
                  refine ok_iload_n 1 (pc := 96) dX11_beside_96 rfl rfl ?_
                  refine ok_callVi (As := [vI p1]) (rest := []) (rm := rm_X0_printed) (pc := 97) dX11_beside_97 me_X0_printed ml_X11_289 (ci := 0) rfl sh_16 (Nat.le_of_ble_eq_true rfl) rfl des_X0_printed rfl ⟨rfl, rfl, rfl, rfl⟩ rfl rfl (c_X0_printed X p1 hp1 h) (fun r14 σ15 h13 h => ?_)
                  refine ok_istore (L' := [(4, vI r14), (0, .ref (xad X 0)), (1, vI p1), (2, vI p2), (3, vI p3)]) (pc := 100) dX11_beside_100 rfl rfl ?_
                  refine ok_sub (L' := [(0, .ref (xad X 0)), (3, vI p3), (4, vI r14)]) [1,4,0] rfl ?_
                  exact w_X11_beside_102 X p1 p2 p3 hp1 hp2 hp3 r14 h13 h
                · have h := iteT h q12
                  refine ok_sub (L' := [(0, .ref (xad X 0)), (2, vI p2), (3, vI p3)]) [0,2,3] rfl ?_
                  exact w_X11_beside_50 X p1 p2 p3 hp1 hp2 hp3   h
            · have h := iteT h q10
              refine ok_bipush (pc := 38) dX11_beside_38 rfl ?_
              exact ok_iret (pc := 40) dX11_beside_40 rfl rfl rfl (r_lit rfl) h
          · have h := iteT h q8
            refine ok_iconst (pc := 26) dX11_beside_26 ?_
            exact ok_iret (pc := 27) dX11_beside_27 rfl rfl rfl (r_lit rfl) h
theorem dX0_isBarred_0 : decode cX0_isBarred 0 = .ok (.aload_n 0, 1) := by decide +kernel
theorem dX0_isBarred_1 : decode cX0_isBarred 1 = .ok (.getfield 17, 3) := by decide +kernel
theorem dX0_isBarred_4 : decode cX0_isBarred 4 = .ok (.iload_n 1, 1) := by decide +kernel
theorem dX0_isBarred_5 : decode cX0_isBarred 5 = .ok (.iload_n 2, 1) := by decide +kernel
theorem dX0_isBarred_6 : decode cX0_isBarred 6 = .ok (.invokestatic 95, 3) := by decide +kernel
theorem dX0_isBarred_9 : decode cX0_isBarred 9 = .ok (.bipush 24, 2) := by decide +kernel
theorem dX0_isBarred_11 : decode cX0_isBarred 11 = .ok (.imul, 1) := by decide +kernel
theorem dX0_isBarred_12 : decode cX0_isBarred 12 = .ok (.iload_n 1, 1) := by decide +kernel
theorem dX0_isBarred_13 : decode cX0_isBarred 13 = .ok (.iload_n 2, 1) := by decide +kernel
theorem dX0_isBarred_14 : decode cX0_isBarred 14 = .ok (.invokestatic 101, 3) := by decide +kernel
theorem dX0_isBarred_17 : decode cX0_isBarred 17 = .ok (.iadd, 1) := by decide +kernel
theorem dX0_isBarred_18 : decode cX0_isBarred 18 = .ok (.baload, 1) := by decide +kernel
theorem dX0_isBarred_19 : decode cX0_isBarred 19 = .ok (.ireturn, 1) := by decide +kernel
set_option maxRecDepth 100000 in
set_option maxHeartbeats 4000000 in
theorem c_X0_isBarred (X : XE) (p1 : Int) (p2 : Int) (hp1 : inR p1) (hp2 : inR p2) {σ : Mem} {Q : Int → Mem → Prop} (h : v_X0_isBarred p1 p2 σ Q) : CT X yX0_isBarred cX0_isBarred 3 (some .boolean) rm_X0_isBarred 1 [.ref (xad X 16), vI p1, vI p2] σ Q := by
  refine ct_of (own := RX0) (L := [(0, .ref (xad X 16)), (1, vI p1), (2, vI p2)]) rfl rfl (Nat.le_of_ble_eq_true rfl) rfl ?_
  refine ok_aload_n 0 (pc := 0) dX0_isBarred_0 rfl rfl ?_
  refine ok_getR (pc := 1) dX0_isBarred_1 fl_X0_17 sh_16 (Nat.le_of_ble_eq_true rfl) rfl rfl ?_
  refine ok_iload_n 1 (pc := 4) dX0_isBarred_4 rfl rfl ?_
  refine ok_iload_n 2 (pc := 5) dX0_isBarred_5 rfl rfl ?_
  refine ok_min (pc := 6) dX0_isBarred_6 ml_X0_95 ⟨rfl, rfl⟩ hp1 hp2 ?_
  refine ok_bipush (pc := 9) dX0_isBarred_9 rfl ?_
  refine ok_imul (pc := 11) dX0_isBarred_11 ?_
  refine ok_iload_n 1 (pc := 12) dX0_isBarred_12 rfl rfl ?_
  refine ok_iload_n 2 (pc := 13) dX0_isBarred_13 rfl rfl ?_
  refine ok_max (pc := 14) dX0_isBarred_14 ml_X0_101 ⟨rfl, rfl⟩ hp1 hp2 ?_
  refine ok_iadd (pc := 17) dX0_isBarred_17 ?_
  obtain ⟨h1, h⟩ := h
  obtain ⟨h2, h⟩ := h
  refine ok_wf (fun hw3 => ?_)
  refine ok_zald (pc := 18) dX0_isBarred_18 sh_18 (Nat.le_of_ble_eq_true rfl) rfl h1 h2 ?_
  obtain ⟨h4, h⟩ := h
  exact ok_iret (pc := 19) dX0_isBarred_19 rfl rfl (nr_z h4) (hw3 _ _) h
theorem dX0_setBar_0 : decode cX0_setBar 0 = .ok (.aload_n 0, 1) := by decide +kernel
theorem dX0_setBar_1 : decode cX0_setBar 1 = .ok (.dup, 1) := by decide +kernel
theorem dX0_setBar_2 : decode cX0_setBar 2 = .ok (.getfield 104, 3) := by decide +kernel
theorem dX0_setBar_5 : decode cX0_setBar 5 = .ok (.iload_n 3, 1) := by decide +kernel
theorem dX0_setBar_6 : decode cX0_setBar 6 = .ok (.invokestatic 81, 3) := by decide +kernel
theorem dX0_setBar_9 : decode cX0_setBar 9 = .ok (.aload_n 0, 1) := by decide +kernel
theorem dX0_setBar_10 : decode cX0_setBar 10 = .ok (.iload_n 1, 1) := by decide +kernel
theorem dX0_setBar_11 : decode cX0_setBar 11 = .ok (.iload_n 2, 1) := by decide +kernel
theorem dX0_setBar_12 : decode cX0_setBar 12 = .ok (.invokevirtual 107, 3) := by decide +kernel
theorem dX0_setBar_15 : decode cX0_setBar 15 = .ok (.invokestatic 81, 3) := by decide +kernel
theorem dX0_setBar_18 : decode cX0_setBar 18 = .ok (.isub, 1) := by decide +kernel
theorem dX0_setBar_19 : decode cX0_setBar 19 = .ok (.iadd, 1) := by decide +kernel
theorem dX0_setBar_20 : decode cX0_setBar 20 = .ok (.putfield 104, 3) := by decide +kernel
theorem dX0_setBar_23 : decode cX0_setBar 23 = .ok (.aload_n 0, 1) := by decide +kernel
theorem dX0_setBar_24 : decode cX0_setBar 24 = .ok (.getfield 17, 3) := by decide +kernel
theorem dX0_setBar_27 : decode cX0_setBar 27 = .ok (.iload_n 1, 1) := by decide +kernel
theorem dX0_setBar_28 : decode cX0_setBar 28 = .ok (.iload_n 2, 1) := by decide +kernel
theorem dX0_setBar_29 : decode cX0_setBar 29 = .ok (.invokestatic 95, 3) := by decide +kernel
theorem dX0_setBar_32 : decode cX0_setBar 32 = .ok (.bipush 24, 2) := by decide +kernel
theorem dX0_setBar_34 : decode cX0_setBar 34 = .ok (.imul, 1) := by decide +kernel
theorem dX0_setBar_35 : decode cX0_setBar 35 = .ok (.iload_n 1, 1) := by decide +kernel
theorem dX0_setBar_36 : decode cX0_setBar 36 = .ok (.iload_n 2, 1) := by decide +kernel
theorem dX0_setBar_37 : decode cX0_setBar 37 = .ok (.invokestatic 101, 3) := by decide +kernel
theorem dX0_setBar_40 : decode cX0_setBar 40 = .ok (.iadd, 1) := by decide +kernel
theorem dX0_setBar_41 : decode cX0_setBar 41 = .ok (.iload_n 3, 1) := by decide +kernel
theorem dX0_setBar_42 : decode cX0_setBar 42 = .ok (.bastore, 1) := by decide +kernel
theorem dX0_setBar_43 : decode cX0_setBar 43 = .ok (.return_, 1) := by decide +kernel
set_option maxRecDepth 100000 in
set_option maxHeartbeats 4000000 in
theorem c_X0_setBar (X : XE) (p1 : Int) (p2 : Int) (p3 : Int) (hp1 : inR p1) (hp2 : inR p2) (hp3 : inR p3) {σ : Mem} {Q : Int → Mem → Prop} (h : v_X0_setBar p1 p2 p3 σ Q) : CT X yX0_setBar cX0_setBar 4 none rm_X0_setBar 0 [.ref (xad X 16), vI p1, vI p2, vI p3] σ Q := by
  refine ct_of (own := RX0) (L := [(0, .ref (xad X 16)), (1, vI p1), (2, vI p2), (3, vI p3)]) rfl rfl (Nat.le_of_ble_eq_true rfl) rfl ?_
  refine ok_aload_n 0 (pc := 0) dX0_setBar_0 rfl rfl ?_
  refine ok_dup (pc := 1) dX0_setBar_1 rfl ?_
  refine ok_wf (fun hw1 => ?_)
  refine ok_getI (pc := 2) dX0_setBar_2 fl_X0_104 sh_16 (Nat.le_of_ble_eq_true rfl) rfl rfl ?_
  refine ok_iload_n 3 (pc := 5) dX0_setBar_5 rfl rfl ?_
  refine ok_callNi (As := [vI p3]) (rest := [vI (σ 16 4), .ref (xad X 16)]) (rm := rm_X11_bit) (pc := 6) dX0_setBar_6 me_X11_bit xn_0 des_X11_bit rfl ⟨rfl, rfl, rfl, rfl⟩ rfl rfl (c_X11_bit X p3 hp3 h) (fun r3 σ4 h2 h => ?_)
  refine ok_aload_n 0 (pc := 9) dX0_setBar_9 rfl rfl ?_
  refine ok_iload_n 1 (pc := 10) dX0_setBar_10 rfl rfl ?_
  refine ok_iload_n 2 (pc := 11) dX0_setBar_11 rfl rfl ?_
  refine ok_callVi (As := [vI p1, vI p2]) (rest := [vI r3, vI (σ 16 4), .ref (xad X 16)]) (rm := rm_X0_isBarred) (pc := 12) dX0_setBar_12 me_X0_isBarred ml_X0_107 (ci := 0) rfl sh_16 (Nat.le_of_ble_eq_true rfl) rfl des_X0_isBarred rfl ⟨rfl, rfl, rfl, rfl⟩ rfl rfl (c_X0_isBarred X p1 p2 hp1 hp2 h) (fun r6 σ7 h5 h => ?_)
  refine ok_callNi (As := [vI r6]) (rest := [vI r3, vI (σ 16 4), .ref (xad X 16)]) (rm := rm_X11_bit) (pc := 15) dX0_setBar_15 me_X11_bit xn_0 des_X11_bit rfl ⟨rfl, rfl, rfl, rfl⟩ rfl rfl (c_X11_bit X r6 h5 h) (fun r9 σ10 h8 h => ?_)
  refine ok_isub (pc := 18) dX0_setBar_18 ?_
  refine ok_iadd (pc := 19) dX0_setBar_19 ?_
  refine ok_wr ?_
  refine ok_putI (pc := 20) dX0_setBar_20 fl_X0_104 fp_X0_4 sh_16 (Nat.le_of_ble_eq_true rfl) rfl rfl (q_rng _) rfl rfl ?_
  refine ok_aload_n 0 (pc := 23) dX0_setBar_23 rfl rfl ?_
  refine ok_getR (pc := 24) dX0_setBar_24 fl_X0_17 sh_16 (Nat.le_of_ble_eq_true rfl) rfl rfl ?_
  refine ok_iload_n 1 (pc := 27) dX0_setBar_27 rfl rfl ?_
  refine ok_iload_n 2 (pc := 28) dX0_setBar_28 rfl rfl ?_
  refine ok_min (pc := 29) dX0_setBar_29 ml_X0_95 ⟨rfl, rfl⟩ hp1 hp2 ?_
  refine ok_bipush (pc := 32) dX0_setBar_32 rfl ?_
  refine ok_imul (pc := 34) dX0_setBar_34 ?_
  refine ok_iload_n 1 (pc := 35) dX0_setBar_35 rfl rfl ?_
  refine ok_iload_n 2 (pc := 36) dX0_setBar_36 rfl rfl ?_
  refine ok_max (pc := 37) dX0_setBar_37 ml_X0_101 ⟨rfl, rfl⟩ hp1 hp2 ?_
  refine ok_iadd (pc := 40) dX0_setBar_40 ?_
  refine ok_iload_n 3 (pc := 41) dX0_setBar_41 rfl rfl ?_
  obtain ⟨h11, h⟩ := h
  obtain ⟨h12, h⟩ := h
  obtain ⟨h13, h⟩ := h
  refine ok_zast (pc := 42) dX0_setBar_42 sh_18 (Nat.le_of_ble_eq_true rfl) rfl h11 h12 h13 ?_
  exact ok_vret (pc := 43) dX0_setBar_43 rfl rfl h
theorem dX11_bar_0 : decode cX11_bar 0 = .ok (.aload_n 0, 1) := by decide +kernel
theorem dX11_bar_1 : decode cX11_bar 1 = .ok (.getfield 46, 3) := by decide +kernel
theorem dX11_bar_4 : decode cX11_bar 4 = .ok (.iload_n 1, 1) := by decide +kernel
theorem dX11_bar_5 : decode cX11_bar 5 = .ok (.invokevirtual 154, 3) := by decide +kernel
theorem dX11_bar_8 : decode cX11_bar 8 = .ok (.ifCond .eq 19, 3) := by decide +kernel
theorem dX11_bar_11 : decode cX11_bar 11 = .ok (.aload_n 0, 1) := by decide +kernel
theorem dX11_bar_12 : decode cX11_bar 12 = .ok (.getfield 46, 3) := by decide +kernel
theorem dX11_bar_15 : decode cX11_bar 15 = .ok (.iload_n 2, 1) := by decide +kernel
theorem dX11_bar_16 : decode cX11_bar 16 = .ok (.invokevirtual 154, 3) := by decide +kernel
theorem dX11_bar_19 : decode cX11_bar 19 = .ok (.ifCond .eq 8, 3) := by decide +kernel
theorem dX11_bar_22 : decode cX11_bar 22 = .ok (.iload_n 1, 1) := by decide +kernel
theorem dX11_bar_23 : decode cX11_bar 23 = .ok (.iload_n 2, 1) := by decide +kernel
theorem dX11_bar_24 : decode cX11_bar 24 = .ok (.if_icmp .ne 5, 3) := by decide +kernel
theorem dX11_bar_27 : decode cX11_bar 27 = .ok (.iconst (-1), 1) := by decide +kernel
theorem dX11_bar_28 : decode cX11_bar 28 = .ok (.ireturn, 1) := by decide +kernel
theorem dX11_bar_29 : decode cX11_bar 29 = .ok (.aload_n 0, 1) := by decide +kernel
theorem dX11_bar_30 : decode cX11_bar 30 = .ok (.getfield 46, 3) := by decide +kernel
theorem dX11_bar_33 : decode cX11_bar 33 = .ok (.iload_n 1, 1) := by decide +kernel
theorem dX11_bar_34 : decode cX11_bar 34 = .ok (.iload_n 2, 1) := by decide +kernel
theorem dX11_bar_35 : decode cX11_bar 35 = .ok (.invokevirtual 292, 3) := by decide +kernel
theorem dX11_bar_38 : decode cX11_bar 38 = .ok (.invokestatic 188, 3) := by decide +kernel
theorem dX11_bar_41 : decode cX11_bar 41 = .ok (.istore 4, 2) := by decide +kernel
theorem dX11_bar_43 : decode cX11_bar 43 = .ok (.aload_n 0, 1) := by decide +kernel
theorem dX11_bar_44 : decode cX11_bar 44 = .ok (.getfield 46, 3) := by decide +kernel
theorem dX11_bar_47 : decode cX11_bar 47 = .ok (.iload_n 1, 1) := by decide +kernel
theorem dX11_bar_48 : decode cX11_bar 48 = .ok (.iload_n 2, 1) := by decide +kernel
theorem dX11_bar_49 : decode cX11_bar 49 = .ok (.iload_n 3, 1) := by decide +kernel
theorem dX11_bar_50 : decode cX11_bar 50 = .ok (.invokevirtual 296, 3) := by decide +kernel
theorem dX11_bar_53 : decode cX11_bar 53 = .ok (.iload 4, 2) := by decide +kernel
theorem dX11_bar_55 : decode cX11_bar 55 = .ok (.ireturn, 1) := by decide +kernel
set_option maxRecDepth 100000 in
set_option maxHeartbeats 4000000 in
theorem c_X11_bar (X : XE) (p1 : Int) (p2 : Int) (p3 : Int) (hp1 : inR p1) (hp2 : inR p2) (hp3 : inR p3) {σ : Mem} {Q : Int → Mem → Prop} (h : v_X11_bar p1 p2 p3 σ Q) : CT X yX11_bar cX11_bar 5 (some .int) rm_X11_bar 1 [.ref (xad X 0), vI p1, vI p2, vI p3] σ Q := by
  refine ct_of (own := RX11) (L := [(0, .ref (xad X 0)), (1, vI p1), (2, vI p2), (3, vI p3)]) rfl rfl (Nat.le_of_ble_eq_true rfl) rfl ?_
  refine ok_aload_n 0 (pc := 0) dX11_bar_0 rfl rfl ?_
  refine ok_getR (pc := 1) dX11_bar_1 fl_X11_46 sh_0 (Nat.le_of_ble_eq_true rfl) rfl rfl ?_
  refine ok_iload_n 1 (pc := 4) dX11_bar_4 rfl rfl ?_
  refine ok_callVi (As := [vI p1]) (rest := []) (rm := rm_X0_has) (pc := 5) dX11_bar_5 me_X0_has ml_X11_154 (ci := 0) rfl sh_16 (Nat.le_of_ble_eq_true rfl) rfl des_X0_has rfl ⟨rfl, rfl, rfl, rfl⟩ rfl rfl (c_X0_has X p1 hp1 h) (fun r2 σ3 h1 h => ?_)
  refine ok_if_eq (tgt := 27) (pc := 8) dX11_bar_8 rfl h1 (fun q4 => ?_) (fun q4 => ?_)
  · have h := iteT h q4
    refine ok_iconst (pc := 27) dX11_bar_27 ?_
    exact ok_iret (pc := 28) dX11_bar_28 rfl rfl rfl (r_lit rfl) h
  · have h := iteF h q4
    refine ok_aload_n 0 (pc := 11) dX11_bar_11 rfl rfl ?_
    refine ok_getR (pc := 12) dX11_bar_12 fl_X11_46 sh_0 (Nat.le_of_ble_eq_true rfl) rfl rfl ?_
    refine ok_iload_n 2 (pc := 15) dX11_bar_15 rfl rfl ?_
    refine ok_callVi (As := [vI p2]) (rest := []) (rm := rm_X0_has) (pc := 16) dX11_bar_16 me_X0_has ml_X11_154 (ci := 0) rfl sh_16 (Nat.le_of_ble_eq_true rfl) rfl des_X0_has rfl ⟨rfl, rfl, rfl, rfl⟩ rfl rfl (c_X0_has X p2 hp2 h) (fun r6 σ7 h5 h => ?_)
    refine ok_if_eq (tgt := 27) (pc := 19) dX11_bar_19 rfl h5 (fun q8 => ?_) (fun q8 => ?_)
    · have h := iteT h q8
      refine ok_iconst (pc := 27) dX11_bar_27 ?_
      exact ok_iret (pc := 28) dX11_bar_28 rfl rfl rfl (r_lit rfl) h
    · have h := iteF h q8
      refine ok_iload_n 1 (pc := 22) dX11_bar_22 rfl rfl ?_
      refine ok_iload_n 2 (pc := 23) dX11_bar_23 rfl rfl ?_
      refine ok_icmp_ne (tgt := 29) (pc := 24) dX11_bar_24 rfl hp1 hp2 (fun q9 => ?_) (fun q9 => ?_)
      · have h := iteF h q9
        refine ok_aload_n 0 (pc := 29) dX11_bar_29 rfl rfl ?_
        refine ok_getR (pc := 30) dX11_bar_30 fl_X11_46 sh_0 (Nat.le_of_ble_eq_true rfl) rfl rfl ?_
        refine ok_iload_n 1 (pc := 33) dX11_bar_33 rfl rfl ?_
        refine ok_iload_n 2 (pc := 34) dX11_bar_34 rfl rfl ?_
        refine ok_callVi (As := [vI p1, vI p2]) (rest := []) (rm := rm_X0_isBarred) (pc := 35) dX11_bar_35 me_X0_isBarred ml_X11_292 (ci := 0) rfl sh_16 (Nat.le_of_ble_eq_true rfl) rfl des_X0_isBarred rfl ⟨rfl, rfl, rfl, rfl⟩ rfl rfl (c_X0_isBarred X p1 p2 hp1 hp2 h) (fun r11 σ12 h10 h => ?_)
        refine ok_callSi (As := [vI r11]) (rest := []) (rm := rm_X11_bit) (pc := 38) dX11_bar_38 me_X11_bit ml_X11_188 des_X11_bit rfl ⟨rfl, rfl, rfl, rfl⟩ rfl rfl (c_X11_bit X r11 h10 h) (fun r14 σ15 h13 h => ?_)
        refine ok_istore (L' := [(4, vI r14), (0, .ref (xad X 0)), (1, vI p1), (2, vI p2), (3, vI p3)]) (pc := 41) dX11_bar_41 rfl rfl ?_
        refine ok_aload_n 1 (pc := 43) dX11_bar_43 rfl rfl ?_
        refine ok_getR (pc := 44) dX11_bar_44 fl_X11_46 sh_0 (Nat.le_of_ble_eq_true rfl) rfl rfl ?_
        refine ok_iload_n 2 (pc := 47) dX11_bar_47 rfl rfl ?_
        refine ok_iload_n 3 (pc := 48) dX11_bar_48 rfl rfl ?_
        refine ok_iload_n 4 (pc := 49) dX11_bar_49 rfl rfl ?_
        refine ok_callVv (As := [vI p1, vI p2, vI p3]) (rest := []) (rm := rm_X0_setBar) (pc := 50) dX11_bar_50 me_X0_setBar ml_X11_296 (ci := 0) rfl sh_16 (Nat.le_of_ble_eq_true rfl) rfl des_X0_setBar rfl ⟨rfl, rfl, rfl, rfl⟩ rfl rfl (c_X0_setBar X p1 p2 p3 hp1 hp2 hp3 h) (fun σ18 h => ?_)
        refine ok_iload 0 (pc := 53) dX11_bar_53 rfl ?_
        exact ok_iret (pc := 55) dX11_bar_55 rfl rfl rfl h13 h
      · have h := iteT h q9
        refine ok_iconst (pc := 27) dX11_bar_27 ?_
        exact ok_iret (pc := 28) dX11_bar_28 rfl rfl rfl (r_lit rfl) h
set_option maxRecDepth 100000 in
set_option maxHeartbeats 4000000 in
theorem w_X1_miss_c_16 (X : XE) (c0 : Nat) (c1 : Nat) (p2 : Int) (hc0 : c0 < 24) (hc1 : c1 < 24) (hp2 : inR p2) {Q : Int → Mem → Prop} : ∀ (n : Nat) (x4 : Int) (x5 : Int) (σ : Mem), inR x4 → inR x5 → l_X1_miss_c_16 c0 c1 p2 Q n x4 x5 σ → ok X rm_X1_miss_c RX1 cX1_miss 8 (some .int) 1 Q 16 [(0, .ref (xad X (23 + 3 * c0))), (1, .ref (xad X (25 + 3 * c1))), (2, vI p2), (3, .ref (xad X 14)), (4, vI x4), (5, vI x5)] [] σ := by
  intro n
  induction n with
  | zero => intro x4 x5 σ hx4 hx5 h; exact False.elim h
  | succ n ih =>
    intro x4 x5 σ hx4 hx5 h
    refine ok_iload 5 (pc := 16) dX1_miss_16 rfl ?_
    refine ok_iconst (pc := 18) dX1_miss_18 ?_
    refine ok_icmp_ge (tgt := 111) (pc := 19) dX1_miss_19 rfl hx5 (r_lit rfl) (fun q1 => ?_) (fun q1 => ?_)
    · have h := iteF h q1
      refine ok_iload 4 (pc := 111) dX1_miss_111 rfl ?_
      exact ok_iret (pc := 113) dX1_miss_113 rfl rfl rfl hx4 h
    · have h := iteT h q1
      refine ok_aload_n 1 (pc := 22) dX1_miss_22 rfl rfl ?_
      refine ok_iload 5 (pc := 23) dX1_miss_23 rfl ?_
      obtain ⟨h2, h⟩ := h
      obtain ⟨h3, h⟩ := h
      refine ok_wf (fun hw4 => ?_)
      refine ok_iald (pc := 25) dX1_miss_25 (sh_cme c1 hc1) (lt_card hc1).2.2 rfl h2 h3 ?_
      refine ok_if_le (tgt := 105) (pc := 26) dX1_miss_26 rfl (hw4 _ _) (fun q5 => ?_) (fun q5 => ?_)
      · have h := iteF h q5
        refine ok_iinc (L' := [(5, vI (x5 + 1)), (0, .ref (xad X (23 + 3 * c0))), (1, .ref (xad X (25 + 3 * c1))), (2, vI p2), (3, .ref (xad X 14)), (4, vI x4)]) 5 (pc := 105) dX1_miss_105 rfl rfl rfl ?_
        refine ok_goto (tgt := 16) (pc := 108) dX1_miss_108 rfl ?_
        obtain ⟨h6, h⟩ := h
        refine ok_sub (L' := [(0, .ref (xad X (23 + 3 * c0))), (1, .ref (xad X (25 + 3 * c1))), (2, vI p2), (3, .ref (xad X 14)), (4, vI x4), (5, vI (x5 + 1))]) [1,2,3,4,5,0] rfl ?_
        exact ih x4 (x5 + 1) σ hx4 h6 h
      · have h := iteT h q5
        refine ok_aload_n 0 (pc := 29) dX1_miss_29 rfl rfl ?_
        refine ok_getR (pc := 30) dX1_miss_30 fl_X1_15 (sh_card c0 hc0) (lt_card hc0).1 rfl rfl ?_
        refine ok_iload 5 (pc := 33) dX1_miss_33 rfl ?_
        refine ok_iald (pc := 35) dX1_miss_35 (sh_cme c0 hc0) (lt_card hc0).2.2 rfl h2 h3 ?_
        refine ok_if_le (tgt := 105) (pc := 36) dX1_miss_36 rfl (hw4 _ _) (fun q7 => ?_) (fun q7 => ?_)
        · have h := iteF h q7
          refine ok_iinc (L' := [(5, vI (x5 + 1)), (0, .ref (xad X (23 + 3 * c0))), (1, .ref (xad X (25 + 3 * c1))), (2, vI p2), (3, .ref (xad X 14)), (4, vI x4)]) 5 (pc := 105) dX1_miss_105 rfl rfl rfl ?_
          refine ok_goto (tgt := 16) (pc := 108) dX1_miss_108 rfl ?_
          obtain ⟨h8, h⟩ := h
          refine ok_sub (L' := [(0, .ref (xad X (23 + 3 * c0))), (1, .ref (xad X (25 + 3 * c1))), (2, vI p2), (3, .ref (xad X 14)), (4, vI x4), (5, vI (x5 + 1))]) [1,2,3,4,5,0] rfl ?_
          exact ih x4 (x5 + 1) σ hx4 h8 h
        · have h := iteT h q7
          refine ok_aload_n 0 (pc := 39) dX1_miss_39 rfl rfl ?_
          refine ok_iload 5 (pc := 40) dX1_miss_40 rfl ?_
          refine ok_aload_n 3 (pc := 42) dX1_miss_42 rfl rfl ?_
          refine ok_getI (pc := 43) dX1_miss_43 fl_X1_22 sh_14 (Nat.le_of_ble_eq_true rfl) rfl rfl ?_
          refine ok_aload_n 3 (pc := 46) dX1_miss_46 rfl rfl ?_
          refine ok_getR (pc := 47) dX1_miss_47 fl_X1_30 sh_14 (Nat.le_of_ble_eq_true rfl) rfl rfl ?_
          refine ok_bipush (pc := 50) dX1_miss_50 rfl ?_
          refine ok_iload 5 (pc := 52) dX1_miss_52 rfl ?_
          refine ok_iadd (pc := 54) dX1_miss_54 ?_
          obtain ⟨h9, h⟩ := h
          obtain ⟨h10, h⟩ := h
          refine ok_iald (pc := 55) dX1_miss_55 sh_15 (Nat.le_of_ble_eq_true rfl) rfl h9 h10 ?_
          refine ok_callVi (As := [vI x5, vI (σ 14 2), vI (σ 15 (14 + x5).toNat)]) (rest := []) (rm := rm_X1_canMeasure) (pc := 56) dX1_miss_56 me_X1_canMeasure ml_X1_47 (ci := 1) rfl (sh_card c0 hc0) (lt_card hc0).1 rfl des_X1_canMeasure rfl ⟨rfl, rfl, rfl, rfl⟩ rfl rfl (c_X1_canMeasure X c0 x5 (σ 14 2) (σ 15 (14 + x5).toNat) hc0 hx5 (hw4 _ _) (hw4 _ _) h) (fun r12 σ13 h11 h => ?_)
          refine ok_istore (L' := [(6, vI r12), (0, .ref (xad X (23 + 3 * c0))), (1, .ref (xad X (25 + 3 * c1))), (2, vI p2), (3, .ref (xad X 14)), (4, vI x4), (5, vI x5)]) (pc := 59) dX1_miss_59 rfl rfl ?_
          refine ok_iconst (pc := 61) dX1_miss_61 ?_
          refine ok_aload_n 1 (pc := 62) dX1_miss_62 rfl rfl ?_
          refine ok_getR (pc := 63) dX1_miss_63 fl_X1_15 (sh_card c0 hc0) (lt_card hc0).1 rfl rfl ?_
          refine ok_iload 6 (pc := 66) dX1_miss_66 rfl ?_
          refine ok_wf (fun hw14 => ?_)
          refine ok_iald (pc := 68) dX1_miss_68 (sh_cme c0 hc0) (lt_card hc0).2.2 rfl h2 h3 ?_
          refine ok_aload_n 2 (pc := 69) dX1_miss_69 rfl rfl ?_
          refine ok_iload 6 (pc := 70) dX1_miss_70 rfl ?_
          refine ok_iald (pc := 72) dX1_miss_72 (sh_cme c1 hc1) (lt_card hc1).2.2 rfl h2 h3 ?_
          refine ok_isub (pc := 73) dX1_miss_73 ?_
          refine ok_aload_n 2 (pc := 74) dX1_miss_74 rfl rfl ?_
          refine ok_iload 6 (pc := 75) dX1_miss_75 rfl ?_
          refine ok_iald (pc := 77) dX1_miss_77 (sh_cme c1 hc1) (lt_card hc1).2.2 rfl h2 h3 ?_
          refine ok_iload 0 (pc := 78) dX1_miss_78 rfl ?_
          refine ok_isub (pc := 80) dX1_miss_80 ?_
          obtain ⟨h15, h⟩ := h
          obtain ⟨h16, h⟩ := h
          refine ok_max (pc := 81) dX1_miss_81 ml_X1_51 ⟨rfl, rfl⟩ h15 h16 ?_
          refine ok_max (pc := 84) dX1_miss_84 ml_X1_51 ⟨rfl, rfl⟩ (r_lit rfl) (r_max h15 h16) ?_
          refine ok_istore (L' := [(7, vI (imax 0 (imax ((σ13 (25 + 3 * c0) x5.toNat) - (σ13 (25 + 3 * c1) x5.toNat)) ((σ13 (25 + 3 * c1) x5.toNat) - r12)))), (6, vI r12), (0, .ref (xad X (23 + 3 * c0))), (1, .ref (xad X (25 + 3 * c1))), (2, vI p2), (3, .ref (xad X 14)), (4, vI x4), (5, vI x5)]) (pc := 87) dX1_miss_87 rfl rfl ?_
          refine ok_iload 0 (pc := 89) dX1_miss_89 rfl ?_
          refine ok_iload_n 4 (pc := 91) dX1_miss_91 rfl rfl ?_
          refine ok_icmp_le (tgt := 98) (pc := 92) dX1_miss_92 rfl (r_max (r_lit rfl) (r_max h15 h16)) hp2 (fun q17 => ?_) (fun q17 => ?_)
          · have h := iteF h q17
            refine ok_iload 6 (pc := 98) dX1_miss_98 rfl ?_
            refine ok_iload 0 (pc := 100) dX1_miss_100 rfl ?_
            refine ok_iadd (pc := 102) dX1_miss_102 ?_
            refine ok_istore (L' := [(4, vI (x4 + (imax 0 (imax ((σ13 (25 + 3 * c0) x5.toNat) - (σ13 (25 + 3 * c1) x5.toNat)) ((σ13 (25 + 3 * c1) x5.toNat) - r12))))), (7, vI (imax 0 (imax ((σ13 (25 + 3 * c0) x5.toNat) - (σ13 (25 + 3 * c1) x5.toNat)) ((σ13 (25 + 3 * c1) x5.toNat) - r12)))), (6, vI r12), (0, .ref (xad X (23 + 3 * c0))), (1, .ref (xad X (25 + 3 * c1))), (2, vI p2), (3, .ref (xad X 14)), (5, vI x5)]) (pc := 103) dX1_miss_103 rfl rfl ?_
            refine ok_iinc (L' := [(5, vI (x5 + 1)), (4, vI (x4 + (imax 0 (imax ((σ13 (25 + 3 * c0) x5.toNat) - (σ13 (25 + 3 * c1) x5.toNat)) ((σ13 (25 + 3 * c1) x5.toNat) - r12))))), (7, vI (imax 0 (imax ((σ13 (25 + 3 * c0) x5.toNat) - (σ13 (25 + 3 * c1) x5.toNat)) ((σ13 (25 + 3 * c1) x5.toNat) - r12)))), (6, vI r12), (0, .ref (xad X (23 + 3 * c0))), (1, .ref (xad X (25 + 3 * c1))), (2, vI p2), (3, .ref (xad X 14))]) 7 (pc := 105) dX1_miss_105 rfl rfl rfl ?_
            refine ok_goto (tgt := 16) (pc := 108) dX1_miss_108 rfl ?_
            obtain ⟨h18, h⟩ := h
            obtain ⟨h19, h⟩ := h
            refine ok_sub (L' := [(0, .ref (xad X (23 + 3 * c0))), (1, .ref (xad X (25 + 3 * c1))), (2, vI p2), (3, .ref (xad X 14)), (4, vI (x4 + (imax 0 (imax ((σ13 (25 + 3 * c0) x5.toNat) - (σ13 (25 + 3 * c1) x5.toNat)) ((σ13 (25 + 3 * c1) x5.toNat) - r12))))), (5, vI (x5 + 1))]) [4,5,6,7,1,0] rfl ?_
            exact ih (x4 + (imax 0 (imax ((σ13 (25 + 3 * c0) x5.toNat) - (σ13 (25 + 3 * c1) x5.toNat)) ((σ13 (25 + 3 * c1) x5.toNat) - r12)))) (x5 + 1) σ13 h18 h19 h
          · have h := iteT h q17
            refine ok_bipush (pc := 95) dX1_miss_95 rfl ?_
            exact ok_iret (pc := 97) dX1_miss_97 rfl rfl rfl (r_lit rfl) h
set_option maxRecDepth 100000 in
set_option maxHeartbeats 4000000 in
theorem c_X1_miss_c (X : XE) (c0 : Nat) (c1 : Nat) (p2 : Int) (hc0 : c0 < 24) (hc1 : c1 < 24) (hp2 : inR p2) {σ : Mem} {Q : Int → Mem → Prop} (h : v_X1_miss_c c0 c1 p2 σ Q) : CT X yX1_miss cX1_miss 8 (some .int) rm_X1_miss_c 1 [.ref (xad X (23 + 3 * c0)), .ref (xad X (25 + 3 * c1)), vI p2, .ref (xad X 14)] σ Q := by
  refine ct_of (own := RX1) (L := [(0, .ref (xad X (23 + 3 * c0))), (1, .ref (xad X (25 + 3 * c1))), (2, vI p2), (3, .ref (xad X 14))]) rfl rfl (Nat.le_of_ble_eq_true rfl) rfl ?_
  refine ok_aload_n 0 (pc := 0) dX1_miss_0 rfl rfl ?_
  refine ok_callVi (As := []) (rest := []) (rm := rm_X1_isOut) (pc := 1) dX1_miss_1 me_X1_isOut ml_X1_43 (ci := 1) rfl (sh_card c0 hc0) (lt_card hc0).1 rfl des_X1_isOut rfl ⟨rfl, rfl, rfl, rfl⟩ rfl rfl (c_X1_isOut X c0 hc0 h) (fun r2 σ3 h1 h => ?_)
  refine ok_if_eq (tgt := 10) (pc := 4) dX1_miss_4 rfl h1 (fun q4 => ?_) (fun q4 => ?_)
  · have h := iteT h q4
    refine ok_iconst (pc := 10) dX1_miss_10 ?_
    refine ok_istore (L' := [(4, vI 0), (0, .ref (xad X (23 + 3 * c0))), (1, .ref (xad X (25 + 3 * c1))), (2, vI p2), (3, .ref (xad X 14))]) (pc := 11) dX1_miss_11 rfl rfl ?_
    refine ok_iconst (pc := 13) dX1_miss_13 ?_
    refine ok_istore (L' := [(5, vI 0), (4, vI 0), (0, .ref (xad X (23 + 3 * c0))), (1, .ref (xad X (25 + 3 * c1))), (2, vI p2), (3, .ref (xad X 14))]) (pc := 14) dX1_miss_14 rfl rfl ?_
    refine ok_sub (L' := [(0, .ref (xad X (23 + 3 * c0))), (1, .ref (xad X (25 + 3 * c1))), (2, vI p2), (3, .ref (xad X 14)), (4, vI 0), (5, vI 0)]) [2,3,4,5,1,0] rfl ?_
    obtain ⟨n5, h⟩ := h
    exact w_X1_miss_c_16 X c0 c1 p2 hc0 hc1 hp2 n5 0 0 σ3 (r_lit rfl) (r_lit rfl) h
  · have h := iteF h q4
    refine ok_bipush (pc := 7) dX1_miss_7 rfl ?_
    exact ok_iret (pc := 9) dX1_miss_9 rfl rfl rfl (r_lit rfl) h
theorem dX0_joined_0 : decode cX0_joined 0 = .ok (.aload_n 0, 1) := by decide +kernel
theorem dX0_joined_1 : decode cX0_joined 1 = .ok (.getfield 11, 3) := by decide +kernel
theorem dX0_joined_4 : decode cX0_joined 4 = .ok (.iload_n 1, 1) := by decide +kernel
theorem dX0_joined_5 : decode cX0_joined 5 = .ok (.aaload, 1) := by decide +kernel
theorem dX0_joined_6 : decode cX0_joined 6 = .ok (.astore_n 3, 1) := by decide +kernel
theorem dX0_joined_7 : decode cX0_joined 7 = .ok (.aload_n 0, 1) := by decide +kernel
theorem dX0_joined_8 : decode cX0_joined 8 = .ok (.getfield 11, 3) := by decide +kernel
theorem dX0_joined_11 : decode cX0_joined 11 = .ok (.iload_n 2, 1) := by decide +kernel
theorem dX0_joined_12 : decode cX0_joined 12 = .ok (.aaload, 1) := by decide +kernel
theorem dX0_joined_13 : decode cX0_joined 13 = .ok (.astore 4, 2) := by decide +kernel
theorem dX0_joined_15 : decode cX0_joined 15 = .ok (.aload_n 3, 1) := by decide +kernel
theorem dX0_joined_16 : decode cX0_joined 16 = .ok (.invokevirtual 77, 3) := by decide +kernel
theorem dX0_joined_19 : decode cX0_joined 19 = .ok (.ifCond .ne 20, 3) := by decide +kernel
theorem dX0_joined_22 : decode cX0_joined 22 = .ok (.aload 4, 2) := by decide +kernel
theorem dX0_joined_24 : decode cX0_joined 24 = .ok (.invokevirtual 77, 3) := by decide +kernel
theorem dX0_joined_27 : decode cX0_joined 27 = .ok (.ifCond .ne 12, 3) := by decide +kernel
theorem dX0_joined_30 : decode cX0_joined 30 = .ok (.aload_n 0, 1) := by decide +kernel
theorem dX0_joined_31 : decode cX0_joined 31 = .ok (.iload_n 1, 1) := by decide +kernel
theorem dX0_joined_32 : decode cX0_joined 32 = .ok (.iload_n 2, 1) := by decide +kernel
theorem dX0_joined_33 : decode cX0_joined 33 = .ok (.invokevirtual 107, 3) := by decide +kernel
theorem dX0_joined_36 : decode cX0_joined 36 = .ok (.ifCond .eq 5, 3) := by decide +kernel
theorem dX0_joined_39 : decode cX0_joined 39 = .ok (.iconst 0, 1) := by decide +kernel
theorem dX0_joined_40 : decode cX0_joined 40 = .ok (.ireturn, 1) := by decide +kernel
theorem dX0_joined_41 : decode cX0_joined 41 = .ok (.aload_n 3, 1) := by decide +kernel
theorem dX0_joined_42 : decode cX0_joined 42 = .ok (.aload_n 0, 1) := by decide +kernel
theorem dX0_joined_43 : decode cX0_joined 43 = .ok (.getfield 34, 3) := by decide +kernel
theorem dX0_joined_46 : decode cX0_joined 46 = .ok (.invokevirtual 111, 3) := by decide +kernel
theorem dX0_joined_49 : decode cX0_joined 49 = .ok (.aload 4, 2) := by decide +kernel
theorem dX0_joined_51 : decode cX0_joined 51 = .ok (.aload_n 0, 1) := by decide +kernel
theorem dX0_joined_52 : decode cX0_joined 52 = .ok (.getfield 34, 3) := by decide +kernel
theorem dX0_joined_55 : decode cX0_joined 55 = .ok (.invokevirtual 111, 3) := by decide +kernel
theorem dX0_joined_58 : decode cX0_joined 58 = .ok (.iadd, 1) := by decide +kernel
theorem dX0_joined_59 : decode cX0_joined 59 = .ok (.istore 5, 2) := by decide +kernel
theorem dX0_joined_61 : decode cX0_joined 61 = .ok (.aload_n 3, 1) := by decide +kernel
theorem dX0_joined_62 : decode cX0_joined 62 = .ok (.aload 4, 2) := by decide +kernel
theorem dX0_joined_64 : decode cX0_joined 64 = .ok (.getfield 63, 3) := by decide +kernel
theorem dX0_joined_67 : decode cX0_joined 67 = .ok (.iload 5, 2) := by decide +kernel
theorem dX0_joined_69 : decode cX0_joined 69 = .ok (.aload_n 0, 1) := by decide +kernel
theorem dX0_joined_70 : decode cX0_joined 70 = .ok (.getfield 34, 3) := by decide +kernel
theorem dX0_joined_73 : decode cX0_joined 73 = .ok (.invokevirtual 115, 3) := by decide +kernel
theorem dX0_joined_76 : decode cX0_joined 76 = .ok (.bipush (-4), 2) := by decide +kernel
theorem dX0_joined_78 : decode cX0_joined 78 = .ok (.if_icmp .eq 27, 3) := by decide +kernel
theorem dX0_joined_81 : decode cX0_joined 81 = .ok (.aload 4, 2) := by decide +kernel
theorem dX0_joined_83 : decode cX0_joined 83 = .ok (.aload_n 3, 1) := by decide +kernel
theorem dX0_joined_84 : decode cX0_joined 84 = .ok (.getfield 63, 3) := by decide +kernel
theorem dX0_joined_87 : decode cX0_joined 87 = .ok (.iload 5, 2) := by decide +kernel
theorem dX0_joined_89 : decode cX0_joined 89 = .ok (.aload_n 0, 1) := by decide +kernel
theorem dX0_joined_90 : decode cX0_joined 90 = .ok (.getfield 34, 3) := by decide +kernel
theorem dX0_joined_93 : decode cX0_joined 93 = .ok (.invokevirtual 115, 3) := by decide +kernel
theorem dX0_joined_96 : decode cX0_joined 96 = .ok (.bipush (-4), 2) := by decide +kernel
theorem dX0_joined_98 : decode cX0_joined 98 = .ok (.if_icmp .eq 7, 3) := by decide +kernel
theorem dX0_joined_101 : decode cX0_joined 101 = .ok (.iconst 1, 1) := by decide +kernel
theorem dX0_joined_102 : decode cX0_joined 102 = .ok (.goto 4, 3) := by decide +kernel
theorem dX0_joined_105 : decode cX0_joined 105 = .ok (.iconst 0, 1) := by decide +kernel
theorem dX0_joined_106 : decode cX0_joined 106 = .ok (.ireturn, 1) := by decide +kernel
set_option maxRecDepth 100000 in
set_option maxHeartbeats 4000000 in
theorem c_X0_joined (X : XE) (p1 : Int) (p2 : Int) (hp1 : inR p1) (hp2 : inR p2) {σ : Mem} {Q : Int → Mem → Prop} (h : v_X0_joined p1 p2 σ Q) : CT X yX0_joined cX0_joined 6 (some .boolean) rm_X0_joined 1 [.ref (xad X 16), vI p1, vI p2] σ Q := by
  refine ct_of (own := RX0) (L := [(0, .ref (xad X 16)), (1, vI p1), (2, vI p2)]) rfl rfl (Nat.le_of_ble_eq_true rfl) rfl ?_
  refine ok_aload_n 0 (pc := 0) dX0_joined_0 rfl rfl ?_
  refine ok_getR (pc := 1) dX0_joined_1 fl_X0_11 sh_16 (Nat.le_of_ble_eq_true rfl) rfl rfl ?_
  refine ok_iload_n 1 (pc := 4) dX0_joined_4 rfl rfl ?_
  obtain ⟨h1, h⟩ := h
  obtain ⟨h2, h⟩ := h
  refine ok_cards (pc := 5) dX0_joined_5 h1 h2 ?_
  have hc3 : p1.toNat < 24 := by omega
  refine ok_astore_n (L' := [(3, .ref (xad X (23 + 3 * (p1.toNat)))), (0, .ref (xad X 16)), (1, vI p1), (2, vI p2)]) (pc := 6) dX0_joined_6 rfl rfl rfl ?_
  refine ok_aload_n 1 (pc := 7) dX0_joined_7 rfl rfl ?_
  refine ok_getR (pc := 8) dX0_joined_8 fl_X0_11 sh_16 (Nat.le_of_ble_eq_true rfl) rfl rfl ?_
  refine ok_iload_n 3 (pc := 11) dX0_joined_11 rfl rfl ?_
  obtain ⟨h4, h⟩ := h
  obtain ⟨h5, h⟩ := h
  refine ok_cards (pc := 12) dX0_joined_12 h4 h5 ?_
  have hc6 : p2.toNat < 24 := by omega
  refine ok_astore (L' := [(4, .ref (xad X (23 + 3 * (p2.toNat)))), (3, .ref (xad X (23 + 3 * (p1.toNat)))), (0, .ref (xad X 16)), (1, vI p1), (2, vI p2)]) (pc := 13) dX0_joined_13 rfl rfl ?_
  refine ok_aload_n 1 (pc := 15) dX0_joined_15 rfl rfl ?_
  refine ok_callVi (As := []) (rest := []) (rm := rm_X1_isOut) (pc := 16) dX0_joined_16 me_X1_isOut ml_X0_77 (ci := 1) rfl (sh_card (p1.toNat) hc3) (lt_card hc3).1 rfl des_X1_isOut rfl ⟨rfl, rfl, rfl, rfl⟩ rfl rfl (c_X1_isOut X (p1.toNat) hc3 h) (fun r8 σ9 h7 h => ?_)
  refine ok_if_ne (tgt := 39) (pc := 19) dX0_joined_19 rfl h7 (fun q10 => ?_) (fun q10 => ?_)
  · have h := iteF h q10
    refine ok_iconst (pc := 39) dX0_joined_39 ?_
    exact ok_iret (pc := 40) dX0_joined_40 rfl rfl (nr_z (Or.inl rfl)) (r_lit rfl) h
  · have h := iteT h q10
    refine ok_aload 0 (pc := 22) dX0_joined_22 rfl ?_
    refine ok_callVi (As := []) (rest := []) (rm := rm_X1_isOut) (pc := 24) dX0_joined_24 me_X1_isOut ml_X0_77 (ci := 1) rfl (sh_card (p2.toNat) hc6) (lt_card hc6).1 rfl des_X1_isOut rfl ⟨rfl, rfl, rfl, rfl⟩ rfl rfl (c_X1_isOut X (p2.toNat) hc6 h) (fun r12 σ13 h11 h => ?_)
    refine ok_if_ne (tgt := 39) (pc := 27) dX0_joined_27 rfl h11 (fun q14 => ?_) (fun q14 => ?_)
    · have h := iteF h q14
      refine ok_iconst (pc := 39) dX0_joined_39 ?_
      exact ok_iret (pc := 40) dX0_joined_40 rfl rfl (nr_z (Or.inl rfl)) (r_lit rfl) h
    · have h := iteT h q14
      refine ok_aload_n 2 (pc := 30) dX0_joined_30 rfl rfl ?_
      refine ok_iload_n 3 (pc := 31) dX0_joined_31 rfl rfl ?_
      refine ok_iload_n 4 (pc := 32) dX0_joined_32 rfl rfl ?_
      refine ok_callVi (As := [vI p1, vI p2]) (rest := []) (rm := rm_X0_isBarred) (pc := 33) dX0_joined_33 me_X0_isBarred ml_X0_107 (ci := 0) rfl sh_16 (Nat.le_of_ble_eq_true rfl) rfl des_X0_isBarred rfl ⟨rfl, rfl, rfl, rfl⟩ rfl rfl (c_X0_isBarred X p1 p2 hp1 hp2 h) (fun r16 σ17 h15 h => ?_)
      refine ok_if_eq (tgt := 41) (pc := 36) dX0_joined_36 rfl h15 (fun q18 => ?_) (fun q18 => ?_)
      · have h := iteT h q18
        refine ok_aload_n 1 (pc := 41) dX0_joined_41 rfl rfl ?_
        refine ok_aload_n 2 (pc := 42) dX0_joined_42 rfl rfl ?_
        refine ok_getR (pc := 43) dX0_joined_43 fl_X0_34 sh_16 (Nat.le_of_ble_eq_true rfl) rfl rfl ?_
        refine ok_callVi (As := [.ref (xad X 14)]) (rest := []) (rm := rm_X1_spread) (pc := 46) dX0_joined_46 me_X1_spread ml_X0_111 (ci := 1) rfl (sh_card (p1.toNat) hc3) (lt_card hc3).1 rfl des_X1_spread rfl ⟨rfl, rfl, rfl, rfl⟩ rfl rfl (c_X1_spread X (p1.toNat) hc3 h) (fun r20 σ21 h19 h => ?_)
        refine ok_aload 0 (pc := 49) dX0_joined_49 rfl ?_
        refine ok_aload_n 2 (pc := 51) dX0_joined_51 rfl rfl ?_
        refine ok_getR (pc := 52) dX0_joined_52 fl_X0_34 sh_16 (Nat.le_of_ble_eq_true rfl) rfl rfl ?_
        refine ok_callVi (As := [.ref (xad X 14)]) (rest := [vI r20]) (rm := rm_X1_spread) (pc := 55) dX0_joined_55 me_X1_spread ml_X0_111 (ci := 1) rfl (sh_card (p2.toNat) hc6) (lt_card hc6).1 rfl des_X1_spread rfl ⟨rfl, rfl, rfl, rfl⟩ rfl rfl (c_X1_spread X (p2.toNat) hc6 h) (fun r23 σ24 h22 h => ?_)
        refine ok_iadd (pc := 58) dX0_joined_58 ?_
        refine ok_istore (L' := [(5, vI (r20 + r23)), (4, .ref (xad X (23 + 3 * (p2.toNat)))), (3, .ref (xad X (23 + 3 * (p1.toNat)))), (0, .ref (xad X 16)), (1, vI p1), (2, vI p2)]) (pc := 59) dX0_joined_59 rfl rfl ?_
        refine ok_aload_n 2 (pc := 61) dX0_joined_61 rfl rfl ?_
        refine ok_aload 1 (pc := 62) dX0_joined_62 rfl ?_
        refine ok_getR (pc := 64) dX0_joined_64 fl_X0_63 (sh_card (p2.toNat) hc6) (lt_card hc6).1 rfl rfl ?_
        refine ok_iload 0 (pc := 67) dX0_joined_67 rfl ?_
        refine ok_aload_n 3 (pc := 69) dX0_joined_69 rfl rfl ?_
        refine ok_getR (pc := 70) dX0_joined_70 fl_X0_34 sh_16 (Nat.le_of_ble_eq_true rfl) rfl rfl ?_
        obtain ⟨h25, h⟩ := h
        refine ok_callVi (As := [.ref (xad X (25 + 3 * (p2.toNat))), vI (r20 + r23), .ref (xad X 14)]) (rest := []) (rm := rm_X1_miss_c) (pc := 73) dX0_joined_73 me_X1_miss ml_X0_115 (ci := 1) rfl (sh_card (p1.toNat) hc3) (lt_card hc3).1 rfl des_X1_miss rfl ⟨rfl, rfl, rfl, rfl⟩ rfl rfl (c_X1_miss_c X (p1.toNat) (p2.toNat) (r20 + r23) hc3 hc6 h25 h) (fun r27 σ28 h26 h => ?_)
        refine ok_bipush (pc := 76) dX0_joined_76 rfl ?_
        refine ok_icmp_eq (tgt := 105) (pc := 78) dX0_joined_78 rfl h26 (r_lit rfl) (fun q29 => ?_) (fun q29 => ?_)
        · have h := iteT h q29
          refine ok_iconst (pc := 105) dX0_joined_105 ?_
          exact ok_iret (pc := 106) dX0_joined_106 rfl rfl (nr_z (Or.inl rfl)) (r_lit rfl) h
        · have h := iteF h q29
          refine ok_aload 1 (pc := 81) dX0_joined_81 rfl ?_
          refine ok_aload_n 2 (pc := 83) dX0_joined_83 rfl rfl ?_
          refine ok_getR (pc := 84) dX0_joined_84 fl_X0_63 (sh_card (p1.toNat) hc3) (lt_card hc3).1 rfl rfl ?_
          refine ok_iload 0 (pc := 87) dX0_joined_87 rfl ?_
          refine ok_aload_n 3 (pc := 89) dX0_joined_89 rfl rfl ?_
          refine ok_getR (pc := 90) dX0_joined_90 fl_X0_34 sh_16 (Nat.le_of_ble_eq_true rfl) rfl rfl ?_
          refine ok_callVi (As := [.ref (xad X (25 + 3 * (p1.toNat))), vI (r20 + r23), .ref (xad X 14)]) (rest := []) (rm := rm_X1_miss_c) (pc := 93) dX0_joined_93 me_X1_miss ml_X0_115 (ci := 1) rfl (sh_card (p2.toNat) hc6) (lt_card hc6).1 rfl des_X1_miss rfl ⟨rfl, rfl, rfl, rfl⟩ rfl rfl (c_X1_miss_c X (p2.toNat) (p1.toNat) (r20 + r23) hc6 hc3 h25 h) (fun r31 σ32 h30 h => ?_)
          refine ok_bipush (pc := 96) dX0_joined_96 rfl ?_
          refine ok_icmp_eq (tgt := 105) (pc := 98) dX0_joined_98 rfl h30 (r_lit rfl) (fun q33 => ?_) (fun q33 => ?_)
          · have h := iteT h q33
            refine ok_iconst (pc := 105) dX0_joined_105 ?_
            exact ok_iret (pc := 106) dX0_joined_106 rfl rfl (nr_z (Or.inl rfl)) (r_lit rfl) h
          · have h := iteF h q33
            refine ok_iconst (pc := 101) dX0_joined_101 ?_
            refine ok_goto (tgt := 106) (pc := 102) dX0_joined_102 rfl ?_
            exact ok_iret (pc := 106) dX0_joined_106 rfl rfl (nr_z (Or.inr rfl)) (r_lit rfl) h
      · have h := iteF h q18
        refine ok_iconst (pc := 39) dX0_joined_39 ?_
        exact ok_iret (pc := 40) dX0_joined_40 rfl rfl (nr_z (Or.inl rfl)) (r_lit rfl) h
theorem dX11_join_0 : decode cX11_join 0 = .ok (.aload_n 0, 1) := by decide +kernel
theorem dX11_join_1 : decode cX11_join 1 = .ok (.getfield 46, 3) := by decide +kernel
theorem dX11_join_4 : decode cX11_join 4 = .ok (.iload_n 1, 1) := by decide +kernel
theorem dX11_join_5 : decode cX11_join 5 = .ok (.invokevirtual 154, 3) := by decide +kernel
theorem dX11_join_8 : decode cX11_join 8 = .ok (.ifCond .eq 19, 3) := by decide +kernel
theorem dX11_join_11 : decode cX11_join 11 = .ok (.aload_n 0, 1) := by decide +kernel
theorem dX11_join_12 : decode cX11_join 12 = .ok (.getfield 46, 3) := by decide +kernel
theorem dX11_join_15 : decode cX11_join 15 = .ok (.iload_n 2, 1) := by decide +kernel
theorem dX11_join_16 : decode cX11_join 16 = .ok (.invokevirtual 154, 3) := by decide +kernel
theorem dX11_join_19 : decode cX11_join 19 = .ok (.ifCond .eq 8, 3) := by decide +kernel
theorem dX11_join_22 : decode cX11_join 22 = .ok (.iload_n 1, 1) := by decide +kernel
theorem dX11_join_23 : decode cX11_join 23 = .ok (.iload_n 2, 1) := by decide +kernel
theorem dX11_join_24 : decode cX11_join 24 = .ok (.if_icmp .ne 5, 3) := by decide +kernel
theorem dX11_join_27 : decode cX11_join 27 = .ok (.iconst (-1), 1) := by decide +kernel
theorem dX11_join_28 : decode cX11_join 28 = .ok (.ireturn, 1) := by decide +kernel
theorem dX11_join_29 : decode cX11_join 29 = .ok (.aload_n 0, 1) := by decide +kernel
theorem dX11_join_30 : decode cX11_join 30 = .ok (.getfield 46, 3) := by decide +kernel
theorem dX11_join_33 : decode cX11_join 33 = .ok (.iload_n 1, 1) := by decide +kernel
theorem dX11_join_34 : decode cX11_join 34 = .ok (.iload_n 2, 1) := by decide +kernel
theorem dX11_join_35 : decode cX11_join 35 = .ok (.invokevirtual 300, 3) := by decide +kernel
theorem dX11_join_38 : decode cX11_join 38 = .ok (.invokestatic 188, 3) := by decide +kernel
theorem dX11_join_41 : decode cX11_join 41 = .ok (.ireturn, 1) := by decide +kernel
set_option maxRecDepth 100000 in
set_option maxHeartbeats 4000000 in
theorem c_X11_join (X : XE) (p1 : Int) (p2 : Int) (hp1 : inR p1) (hp2 : inR p2) {σ : Mem} {Q : Int → Mem → Prop} (h : v_X11_join p1 p2 σ Q) : CT X yX11_join cX11_join 3 (some .int) rm_X11_join 1 [.ref (xad X 0), vI p1, vI p2] σ Q := by
  refine ct_of (own := RX11) (L := [(0, .ref (xad X 0)), (1, vI p1), (2, vI p2)]) rfl rfl (Nat.le_of_ble_eq_true rfl) rfl ?_
  refine ok_aload_n 0 (pc := 0) dX11_join_0 rfl rfl ?_
  refine ok_getR (pc := 1) dX11_join_1 fl_X11_46 sh_0 (Nat.le_of_ble_eq_true rfl) rfl rfl ?_
  refine ok_iload_n 1 (pc := 4) dX11_join_4 rfl rfl ?_
  refine ok_callVi (As := [vI p1]) (rest := []) (rm := rm_X0_has) (pc := 5) dX11_join_5 me_X0_has ml_X11_154 (ci := 0) rfl sh_16 (Nat.le_of_ble_eq_true rfl) rfl des_X0_has rfl ⟨rfl, rfl, rfl, rfl⟩ rfl rfl (c_X0_has X p1 hp1 h) (fun r2 σ3 h1 h => ?_)
  refine ok_if_eq (tgt := 27) (pc := 8) dX11_join_8 rfl h1 (fun q4 => ?_) (fun q4 => ?_)
  · have h := iteT h q4
    refine ok_iconst (pc := 27) dX11_join_27 ?_
    exact ok_iret (pc := 28) dX11_join_28 rfl rfl rfl (r_lit rfl) h
  · have h := iteF h q4
    refine ok_aload_n 0 (pc := 11) dX11_join_11 rfl rfl ?_
    refine ok_getR (pc := 12) dX11_join_12 fl_X11_46 sh_0 (Nat.le_of_ble_eq_true rfl) rfl rfl ?_
    refine ok_iload_n 2 (pc := 15) dX11_join_15 rfl rfl ?_
    refine ok_callVi (As := [vI p2]) (rest := []) (rm := rm_X0_has) (pc := 16) dX11_join_16 me_X0_has ml_X11_154 (ci := 0) rfl sh_16 (Nat.le_of_ble_eq_true rfl) rfl des_X0_has rfl ⟨rfl, rfl, rfl, rfl⟩ rfl rfl (c_X0_has X p2 hp2 h) (fun r6 σ7 h5 h => ?_)
    refine ok_if_eq (tgt := 27) (pc := 19) dX11_join_19 rfl h5 (fun q8 => ?_) (fun q8 => ?_)
    · have h := iteT h q8
      refine ok_iconst (pc := 27) dX11_join_27 ?_
      exact ok_iret (pc := 28) dX11_join_28 rfl rfl rfl (r_lit rfl) h
    · have h := iteF h q8
      refine ok_iload_n 1 (pc := 22) dX11_join_22 rfl rfl ?_
      refine ok_iload_n 2 (pc := 23) dX11_join_23 rfl rfl ?_
      refine ok_icmp_ne (tgt := 29) (pc := 24) dX11_join_24 rfl hp1 hp2 (fun q9 => ?_) (fun q9 => ?_)
      · have h := iteF h q9
        refine ok_aload_n 0 (pc := 29) dX11_join_29 rfl rfl ?_
        refine ok_getR (pc := 30) dX11_join_30 fl_X11_46 sh_0 (Nat.le_of_ble_eq_true rfl) rfl rfl ?_
        refine ok_iload_n 1 (pc := 33) dX11_join_33 rfl rfl ?_
        refine ok_iload_n 2 (pc := 34) dX11_join_34 rfl rfl ?_
        refine ok_callVi (As := [vI p1, vI p2]) (rest := []) (rm := rm_X0_joined) (pc := 35) dX11_join_35 me_X0_joined ml_X11_300 (ci := 0) rfl sh_16 (Nat.le_of_ble_eq_true rfl) rfl des_X0_joined rfl ⟨rfl, rfl, rfl, rfl⟩ rfl rfl (c_X0_joined X p1 p2 hp1 hp2 h) (fun r11 σ12 h10 h => ?_)
        refine ok_callSi (As := [vI r11]) (rest := []) (rm := rm_X11_bit) (pc := 38) dX11_join_38 me_X11_bit ml_X11_188 des_X11_bit rfl ⟨rfl, rfl, rfl, rfl⟩ rfl rfl (c_X11_bit X r11 h10 h) (fun r14 σ15 h13 h => ?_)
        exact ok_iret (pc := 41) dX11_join_41 rfl rfl rfl h13 h
      · have h := iteT h q9
        refine ok_iconst (pc := 27) dX11_join_27 ?_
        exact ok_iret (pc := 28) dX11_join_28 rfl rfl rfl (r_lit rfl) h
theorem dX4_hang_0 : decode cX4_hang 0 = .ok (.iconst 0, 1) := by decide +kernel
theorem dX4_hang_1 : decode cX4_hang 1 = .ok (.istore_n 3, 1) := by decide +kernel
theorem dX4_hang_2 : decode cX4_hang 2 = .ok (.iload_n 3, 1) := by decide +kernel
theorem dX4_hang_3 : decode cX4_hang 3 = .ok (.aload_n 0, 1) := by decide +kernel
theorem dX4_hang_4 : decode cX4_hang 4 = .ok (.getfield 15, 3) := by decide +kernel
theorem dX4_hang_7 : decode cX4_hang 7 = .ok (.getfield 19, 3) := by decide +kernel
theorem dX4_hang_10 : decode cX4_hang 10 = .ok (.if_icmp .ge 26, 3) := by decide +kernel
theorem dX4_hang_13 : decode cX4_hang 13 = .ok (.aload_n 0, 1) := by decide +kernel
theorem dX4_hang_14 : decode cX4_hang 14 = .ok (.getfield 9, 3) := by decide +kernel
theorem dX4_hang_17 : decode cX4_hang 17 = .ok (.iload_n 3, 1) := by decide +kernel
theorem dX4_hang_18 : decode cX4_hang 18 = .ok (.iaload, 1) := by decide +kernel
theorem dX4_hang_19 : decode cX4_hang 19 = .ok (.iload_n 2, 1) := by decide +kernel
theorem dX4_hang_20 : decode cX4_hang 20 = .ok (.if_icmp .ne 10, 3) := by decide +kernel
theorem dX4_hang_23 : decode cX4_hang 23 = .ok (.aload_n 0, 1) := by decide +kernel
theorem dX4_hang_24 : decode cX4_hang 24 = .ok (.getfield 9, 3) := by decide +kernel
theorem dX4_hang_27 : decode cX4_hang 27 = .ok (.iload_n 3, 1) := by decide +kernel
theorem dX4_hang_28 : decode cX4_hang 28 = .ok (.iload_n 1, 1) := by decide +kernel
theorem dX4_hang_29 : decode cX4_hang 29 = .ok (.iastore, 1) := by decide +kernel
theorem dX4_hang_30 : decode cX4_hang 30 = .ok (.iinc 3 1, 3) := by decide +kernel
theorem dX4_hang_33 : decode cX4_hang 33 = .ok (.goto (-31), 3) := by decide +kernel
theorem dX4_hang_36 : decode cX4_hang 36 = .ok (.return_, 1) := by decide +kernel
set_option maxRecDepth 100000 in
set_option maxHeartbeats 4000000 in
theorem w_X4_hang_2 (X : XE) (p1 : Int) (p2 : Int) (hp1 : inR p1) (hp2 : inR p2) {Q : Int → Mem → Prop} : ∀ (n : Nat) (x3 : Int) (σ : Mem), inR x3 → l_X4_hang_2 p1 p2 Q n x3 σ → ok X rm_X4_hang RX4 cX4_hang 4 none 0 Q 2 [(0, .ref (xad X 103)), (1, vI p1), (2, vI p2), (3, vI x3)] [] σ := by
  intro n
  induction n with
  | zero => intro x3 σ hx3 h; exact False.elim h
  | succ n ih =>
    intro x3 σ hx3 h
    refine ok_iload_n 3 (pc := 2) dX4_hang_2 rfl rfl ?_
    refine ok_aload_n 0 (pc := 3) dX4_hang_3 rfl rfl ?_
    refine ok_getR (pc := 4) dX4_hang_4 fl_X4_15 sh_103 (Nat.le_of_ble_eq_true rfl) rfl rfl ?_
    refine ok_wf (fun hw1 => ?_)
    refine ok_getI (pc := 7) dX4_hang_7 fl_X4_19 sh_16 (Nat.le_of_ble_eq_true rfl) rfl rfl ?_
    refine ok_icmp_ge (tgt := 36) (pc := 10) dX4_hang_10 rfl hx3 (hw1 _ _) (fun q2 => ?_) (fun q2 => ?_)
    · have h := iteF h q2
      exact ok_vret (pc := 36) dX4_hang_36 rfl rfl h
    · have h := iteT h q2
      refine ok_aload_n 0 (pc := 13) dX4_hang_13 rfl rfl ?_
      refine ok_getR (pc := 14) dX4_hang_14 fl_X4_9 sh_103 (Nat.le_of_ble_eq_true rfl) rfl rfl ?_
      refine ok_iload_n 3 (pc := 17) dX4_hang_17 rfl rfl ?_
      obtain ⟨h3, h⟩ := h
      obtain ⟨h4, h⟩ := h
      refine ok_iald (pc := 18) dX4_hang_18 sh_104 (Nat.le_of_ble_eq_true rfl) rfl h3 h4 ?_
      refine ok_iload_n 2 (pc := 19) dX4_hang_19 rfl rfl ?_
      refine ok_icmp_ne (tgt := 30) (pc := 20) dX4_hang_20 rfl (hw1 _ _) hp2 (fun q5 => ?_) (fun q5 => ?_)
      · have h := iteF h q5
        refine ok_iinc (L' := [(3, vI (x3 + 1)), (0, .ref (xad X 103)), (1, vI p1), (2, vI p2)]) 3 (pc := 30) dX4_hang_30 rfl rfl rfl ?_
        refine ok_goto (tgt := 2) (pc := 33) dX4_hang_33 rfl ?_
        obtain ⟨h6, h⟩ := h
        refine ok_sub (L' := [(0, .ref (xad X 103)), (1, vI p1), (2, vI p2), (3, vI (x3 + 1))]) [1,2,3,0] rfl ?_
        exact ih (x3 + 1) σ h6 h
      · have h := iteT h q5
        refine ok_aload_n 0 (pc := 23) dX4_hang_23 rfl rfl ?_
        refine ok_getR (pc := 24) dX4_hang_24 fl_X4_9 sh_103 (Nat.le_of_ble_eq_true rfl) rfl rfl ?_
        refine ok_iload_n 3 (pc := 27) dX4_hang_27 rfl rfl ?_
        refine ok_iload_n 1 (pc := 28) dX4_hang_28 rfl rfl ?_
        refine ok_iast (pc := 29) dX4_hang_29 sh_104 (Nat.le_of_ble_eq_true rfl) rfl h3 h4 hp1 ?_
        refine ok_iinc (L' := [(3, vI (x3 + 1)), (0, .ref (xad X 103)), (1, vI p1), (2, vI p2)]) 3 (pc := 30) dX4_hang_30 rfl rfl rfl ?_
        refine ok_goto (tgt := 2) (pc := 33) dX4_hang_33 rfl ?_
        obtain ⟨h7, h⟩ := h
        refine ok_sub (L' := [(0, .ref (xad X 103)), (1, vI p1), (2, vI p2), (3, vI (x3 + 1))]) [1,2,3,0] rfl ?_
        exact ih (x3 + 1) (mset σ 104 (x3.toNat) p1) h7 h
set_option maxRecDepth 100000 in
set_option maxHeartbeats 4000000 in
theorem c_X4_hang (X : XE) (p1 : Int) (p2 : Int) (hp1 : inR p1) (hp2 : inR p2) {σ : Mem} {Q : Int → Mem → Prop} (h : v_X4_hang p1 p2 σ Q) : CT X yX4_hang cX4_hang 4 none rm_X4_hang 0 [.ref (xad X 103), vI p1, vI p2] σ Q := by
  refine ct_of (own := RX4) (L := [(0, .ref (xad X 103)), (1, vI p1), (2, vI p2)]) rfl rfl (Nat.le_of_ble_eq_true rfl) rfl ?_
  refine ok_iconst (pc := 0) dX4_hang_0 ?_
  refine ok_istore_n (L' := [(3, vI 0), (0, .ref (xad X 103)), (1, vI p1), (2, vI p2)]) (pc := 1) dX4_hang_1 rfl rfl rfl ?_
  refine ok_sub (L' := [(0, .ref (xad X 103)), (1, vI p1), (2, vI p2), (3, vI 0)]) [1,2,3,0] rfl ?_
  obtain ⟨n1, h⟩ := h
  exact w_X4_hang_2 X p1 p2 hp1 hp2 n1 0 σ (r_lit rfl) h
theorem dX4_gather_0 : decode cX4_gather 0 = .ok (.iconst 0, 1) := by decide +kernel
theorem dX4_gather_1 : decode cX4_gather 1 = .ok (.istore_n 1, 1) := by decide +kernel
theorem dX4_gather_2 : decode cX4_gather 2 = .ok (.iload_n 1, 1) := by decide +kernel
theorem dX4_gather_3 : decode cX4_gather 3 = .ok (.aload_n 0, 1) := by decide +kernel
theorem dX4_gather_4 : decode cX4_gather 4 = .ok (.getfield 15, 3) := by decide +kernel
theorem dX4_gather_7 : decode cX4_gather 7 = .ok (.getfield 19, 3) := by decide +kernel
theorem dX4_gather_10 : decode cX4_gather 10 = .ok (.if_icmp .ge 36, 3) := by decide +kernel
theorem dX4_gather_13 : decode cX4_gather 13 = .ok (.aload_n 0, 1) := by decide +kernel
theorem dX4_gather_14 : decode cX4_gather 14 = .ok (.getfield 9, 3) := by decide +kernel
theorem dX4_gather_17 : decode cX4_gather 17 = .ok (.iload_n 1, 1) := by decide +kernel
theorem dX4_gather_18 : decode cX4_gather 18 = .ok (.aload_n 0, 1) := by decide +kernel
theorem dX4_gather_19 : decode cX4_gather 19 = .ok (.getfield 15, 3) := by decide +kernel
theorem dX4_gather_22 : decode cX4_gather 22 = .ok (.getfield 25, 3) := by decide +kernel
theorem dX4_gather_25 : decode cX4_gather 25 = .ok (.iload_n 1, 1) := by decide +kernel
theorem dX4_gather_26 : decode cX4_gather 26 = .ok (.aaload, 1) := by decide +kernel
theorem dX4_gather_27 : decode cX4_gather 27 = .ok (.invokevirtual 29, 3) := by decide +kernel
theorem dX4_gather_30 : decode cX4_gather 30 = .ok (.ifCond .eq 8, 3) := by decide +kernel
theorem dX4_gather_33 : decode cX4_gather 33 = .ok (.bipush (-4), 2) := by decide +kernel
theorem dX4_gather_35 : decode cX4_gather 35 = .ok (.goto 4, 3) := by decide +kernel
theorem dX4_gather_38 : decode cX4_gather 38 = .ok (.iload_n 1, 1) := by decide +kernel
theorem dX4_gather_39 : decode cX4_gather 39 = .ok (.iastore, 1) := by decide +kernel
theorem dX4_gather_40 : decode cX4_gather 40 = .ok (.iinc 1 1, 3) := by decide +kernel
theorem dX4_gather_43 : decode cX4_gather 43 = .ok (.goto (-41), 3) := by decide +kernel
theorem dX4_gather_46 : decode cX4_gather 46 = .ok (.iconst 0, 1) := by decide +kernel
theorem dX4_gather_47 : decode cX4_gather 47 = .ok (.istore_n 1, 1) := by decide +kernel
theorem dX4_gather_48 : decode cX4_gather 48 = .ok (.iload_n 1, 1) := by decide +kernel
theorem dX4_gather_49 : decode cX4_gather 49 = .ok (.aload_n 0, 1) := by decide +kernel
theorem dX4_gather_50 : decode cX4_gather 50 = .ok (.getfield 15, 3) := by decide +kernel
theorem dX4_gather_53 : decode cX4_gather 53 = .ok (.getfield 19, 3) := by decide +kernel
theorem dX4_gather_56 : decode cX4_gather 56 = .ok (.if_icmp .ge 91, 3) := by decide +kernel
theorem dX4_gather_59 : decode cX4_gather 59 = .ok (.iload_n 1, 1) := by decide +kernel
theorem dX4_gather_60 : decode cX4_gather 60 = .ok (.iconst 1, 1) := by decide +kernel
theorem dX4_gather_61 : decode cX4_gather 61 = .ok (.iadd, 1) := by decide +kernel
theorem dX4_gather_62 : decode cX4_gather 62 = .ok (.istore_n 2, 1) := by decide +kernel
theorem dX4_gather_63 : decode cX4_gather 63 = .ok (.iload_n 2, 1) := by decide +kernel
theorem dX4_gather_64 : decode cX4_gather 64 = .ok (.aload_n 0, 1) := by decide +kernel
theorem dX4_gather_65 : decode cX4_gather 65 = .ok (.getfield 15, 3) := by decide +kernel
theorem dX4_gather_68 : decode cX4_gather 68 = .ok (.getfield 19, 3) := by decide +kernel
theorem dX4_gather_71 : decode cX4_gather 71 = .ok (.if_icmp .ge 70, 3) := by decide +kernel
theorem dX4_gather_74 : decode cX4_gather 74 = .ok (.aload_n 0, 1) := by decide +kernel
theorem dX4_gather_75 : decode cX4_gather 75 = .ok (.getfield 9, 3) := by decide +kernel
theorem dX4_gather_78 : decode cX4_gather 78 = .ok (.iload_n 1, 1) := by decide +kernel
theorem dX4_gather_79 : decode cX4_gather 79 = .ok (.iaload, 1) := by decide +kernel
theorem dX4_gather_80 : decode cX4_gather 80 = .ok (.aload_n 0, 1) := by decide +kernel
theorem dX4_gather_81 : decode cX4_gather 81 = .ok (.getfield 9, 3) := by decide +kernel
theorem dX4_gather_84 : decode cX4_gather 84 = .ok (.iload_n 2, 1) := by decide +kernel
theorem dX4_gather_85 : decode cX4_gather 85 = .ok (.iaload, 1) := by decide +kernel
theorem dX4_gather_86 : decode cX4_gather 86 = .ok (.if_icmp .eq 49, 3) := by decide +kernel
theorem dX4_gather_89 : decode cX4_gather 89 = .ok (.aload_n 0, 1) := by decide +kernel
theorem dX4_gather_90 : decode cX4_gather 90 = .ok (.getfield 15, 3) := by decide +kernel
theorem dX4_gather_93 : decode cX4_gather 93 = .ok (.iload_n 1, 1) := by decide +kernel
theorem dX4_gather_94 : decode cX4_gather 94 = .ok (.iload_n 2, 1) := by decide +kernel
theorem dX4_gather_95 : decode cX4_gather 95 = .ok (.invokevirtual 35, 3) := by decide +kernel
theorem dX4_gather_98 : decode cX4_gather 98 = .ok (.ifCond .eq 37, 3) := by decide +kernel
theorem dX4_gather_101 : decode cX4_gather 101 = .ok (.aload_n 0, 1) := by decide +kernel
theorem dX4_gather_102 : decode cX4_gather 102 = .ok (.aload_n 0, 1) := by decide +kernel
theorem dX4_gather_103 : decode cX4_gather 103 = .ok (.getfield 9, 3) := by decide +kernel
theorem dX4_gather_106 : decode cX4_gather 106 = .ok (.iload_n 1, 1) := by decide +kernel
theorem dX4_gather_107 : decode cX4_gather 107 = .ok (.iaload, 1) := by decide +kernel
theorem dX4_gather_108 : decode cX4_gather 108 = .ok (.aload_n 0, 1) := by decide +kernel
theorem dX4_gather_109 : decode cX4_gather 109 = .ok (.getfield 9, 3) := by decide +kernel
theorem dX4_gather_112 : decode cX4_gather 112 = .ok (.iload_n 2, 1) := by decide +kernel
theorem dX4_gather_113 : decode cX4_gather 113 = .ok (.iaload, 1) := by decide +kernel
theorem dX4_gather_114 : decode cX4_gather 114 = .ok (.invokestatic 39, 3) := by decide +kernel
theorem dX4_gather_117 : decode cX4_gather 117 = .ok (.aload_n 0, 1) := by decide +kernel
theorem dX4_gather_118 : decode cX4_gather 118 = .ok (.getfield 9, 3) := by decide +kernel
theorem dX4_gather_121 : decode cX4_gather 121 = .ok (.iload_n 1, 1) := by decide +kernel
theorem dX4_gather_122 : decode cX4_gather 122 = .ok (.iaload, 1) := by decide +kernel
theorem dX4_gather_123 : decode cX4_gather 123 = .ok (.aload_n 0, 1) := by decide +kernel
theorem dX4_gather_124 : decode cX4_gather 124 = .ok (.getfield 9, 3) := by decide +kernel
theorem dX4_gather_127 : decode cX4_gather 127 = .ok (.iload_n 2, 1) := by decide +kernel
theorem dX4_gather_128 : decode cX4_gather 128 = .ok (.iaload, 1) := by decide +kernel
theorem dX4_gather_129 : decode cX4_gather 129 = .ok (.invokestatic 45, 3) := by decide +kernel
theorem dX4_gather_132 : decode cX4_gather 132 = .ok (.invokevirtual 48, 3) := by decide +kernel
theorem dX4_gather_135 : decode cX4_gather 135 = .ok (.iinc 2 1, 3) := by decide +kernel
theorem dX4_gather_138 : decode cX4_gather 138 = .ok (.goto (-75), 3) := by decide +kernel
theorem dX4_gather_141 : decode cX4_gather 141 = .ok (.iinc 1 1, 3) := by decide +kernel
theorem dX4_gather_144 : decode cX4_gather 144 = .ok (.goto (-96), 3) := by decide +kernel
theorem dX4_gather_147 : decode cX4_gather 147 = .ok (.return_, 1) := by decide +kernel
set_option maxRecDepth 100000 in
set_option maxHeartbeats 4000000 in
theorem w_X4_gather_63 (X : XE) (x1 : Int) (hx1 : inR x1) {K48 : Int → Mem → Prop} {Q : Int → Mem → Prop} (hK48 : ∀ (x1 : Int) (σ : Mem), inR x1 → K48 x1 σ → ok X rm_X4_gather RX4 cX4_gather 3 none 0 Q 48 [(0, .ref (xad X 103)), (1, vI x1)] [] σ) : ∀ (n : Nat) (x2 : Int) (σ : Mem), inR x2 → l_X4_gather_63 x1 K48 Q n x2 σ → ok X rm_X4_gather RX4 cX4_gather 3 none 0 Q 63 [(0, .ref (xad X 103)), (1, vI x1), (2, vI x2)] [] σ := by
  intro n
  induction n with
  | zero => intro x2 σ hx2 h; exact False.elim h
  | succ n ih =>
    intro x2 σ hx2 h
    refine ok_iload_n 2 (pc := 63) dX4_gather_63 rfl rfl ?_
    refine ok_aload_n 0 (pc := 64) dX4_gather_64 rfl rfl ?_
    refine ok_getR (pc := 65) dX4_gather_65 fl_X4_15 sh_103 (Nat.le_of_ble_eq_true rfl) rfl rfl ?_
    refine ok_wf (fun hw1 => ?_)
    refine ok_getI (pc := 68) dX4_gather_68 fl_X4_19 sh_16 (Nat.le_of_ble_eq_true rfl) rfl rfl ?_
    refine ok_icmp_ge (tgt := 141) (pc := 71) dX4_gather_71 rfl hx2 (hw1 _ _) (fun q2 => ?_) (fun q2 => ?_)
    · have h := iteF h q2
      refine ok_iinc (L' := [(1, vI (x1 + 1)), (0, .ref (xad X 103)), (2, vI x2)]) 1 (pc := 141) dX4_gather_141 rfl rfl rfl ?_
      refine ok_goto (tgt := 48) (pc := 144) dX4_gather_144 rfl ?_
      obtain ⟨h3, h⟩ := h
      refine ok_sub (L' := [(0, .ref (xad X 103)), (1, vI (x1 + 1))]) [1,0] rfl ?_
      exact hK48 (x1 + 1) σ h3 h
    · have h := iteT h q2
      refine ok_aload_n 0 (pc := 74) dX4_gather_74 rfl rfl ?_
      refine ok_getR (pc := 75) dX4_gather_75 fl_X4_9 sh_103 (Nat.le_of_ble_eq_true rfl) rfl rfl ?_
      refine ok_iload_n 1 (pc := 78) dX4_gather_78 rfl rfl ?_
      obtain ⟨h4, h⟩ := h
      obtain ⟨h5, h⟩ := h
      refine ok_iald (pc := 79) dX4_gather_79 sh_104 (Nat.le_of_ble_eq_true rfl) rfl h4 h5 ?_
      refine ok_aload_n 0 (pc := 80) dX4_gather_80 rfl rfl ?_
      refine ok_getR (pc := 81) dX4_gather_81 fl_X4_9 sh_103 (Nat.le_of_ble_eq_true rfl) rfl rfl ?_
      refine ok_iload_n 2 (pc := 84) dX4_gather_84 rfl rfl ?_
      obtain ⟨h6, h⟩ := h
      obtain ⟨h7, h⟩ := h
      refine ok_iald (pc := 85) dX4_gather_85 sh_104 (Nat.le_of_ble_eq_true rfl) rfl h6 h7 ?_
      refine ok_icmp_eq (tgt := 135) (pc := 86) dX4_gather_86 rfl (hw1 _ _) (hw1 _ _) (fun q8 => ?_) (fun q8 => ?_)
      · have h := iteT h q8
        refine ok_iinc (L' := [(2, vI (x2 + 1)), (0, .ref (xad X 103)), (1, vI x1)]) 2 (pc := 135) dX4_gather_135 rfl rfl rfl ?_
        refine ok_goto (tgt := 63) (pc := 138) dX4_gather_138 rfl ?_
        obtain ⟨h9, h⟩ := h
        refine ok_sub (L' := [(0, .ref (xad X 103)), (1, vI x1), (2, vI (x2 + 1))]) [1,2,0] rfl ?_
        exact ih (x2 + 1) σ h9 h
      · have h := iteF h q8
        refine ok_aload_n 0 (pc := 89) dX4_gather_89 rfl rfl ?_
        refine ok_getR (pc := 90) dX4_gather_90 fl_X4_15 sh_103 (Nat.le_of_ble_eq_true rfl) rfl rfl ?_
        refine ok_iload_n 1 (pc := 93) dX4_gather_93 rfl rfl ?_
        refine ok_iload_n 2 (pc := 94) dX4_gather_94 rfl rfl ?_
        refine ok_callVi (As := [vI x1, vI x2]) (rest := []) (rm := rm_X0_joined) (pc := 95) dX4_gather_95 me_X0_joined ml_X4_35 (ci := 0) rfl sh_16 (Nat.le_of_ble_eq_true rfl) rfl des_X0_joined rfl ⟨rfl, rfl, rfl, rfl⟩ rfl rfl (c_X0_joined X x1 x2 hx1 hx2 h) (fun r11 σ12 h10 h => ?_)
        refine ok_if_eq (tgt := 135) (pc := 98) dX4_gather_98 rfl h10 (fun q13 => ?_) (fun q13 => ?_)
        · have h := iteT h q13
          refine ok_iinc (L' := [(2, vI (x2 + 1)), (0, .ref (xad X 103)), (1, vI x1)]) 2 (pc := 135) dX4_gather_135 rfl rfl rfl ?_
          refine ok_goto (tgt := 63) (pc := 138) dX4_gather_138 rfl ?_
          obtain ⟨h14, h⟩ := h
          refine ok_sub (L' := [(0, .ref (xad X 103)), (1, vI x1), (2, vI (x2 + 1))]) [1,2,0] rfl ?_
          exact ih (x2 + 1) σ12 h14 h
        · have h := iteF h q13
          refine ok_aload_n 0 (pc := 101) dX4_gather_101 rfl rfl ?_
          refine ok_aload_n 0 (pc := 102) dX4_gather_102 rfl rfl ?_
          refine ok_getR (pc := 103) dX4_gather_103 fl_X4_9 sh_103 (Nat.le_of_ble_eq_true rfl) rfl rfl ?_
          refine ok_iload_n 1 (pc := 106) dX4_gather_106 rfl rfl ?_
          refine ok_wf (fun hw15 => ?_)
          refine ok_iald (pc := 107) dX4_gather_107 sh_104 (Nat.le_of_ble_eq_true rfl) rfl h4 h5 ?_
          refine ok_aload_n 0 (pc := 108) dX4_gather_108 rfl rfl ?_
          refine ok_getR (pc := 109) dX4_gather_109 fl_X4_9 sh_103 (Nat.le_of_ble_eq_true rfl) rfl rfl ?_
          refine ok_iload_n 2 (pc := 112) dX4_gather_112 rfl rfl ?_
          refine ok_iald (pc := 113) dX4_gather_113 sh_104 (Nat.le_of_ble_eq_true rfl) rfl h6 h7 ?_
          refine ok_min (pc := 114) dX4_gather_114 ml_X4_39 ⟨rfl, rfl⟩ (hw15 _ _) (hw15 _ _) ?_
          refine ok_aload_n 0 (pc := 117) dX4_gather_117 rfl rfl ?_
          refine ok_getR (pc := 118) dX4_gather_118 fl_X4_9 sh_103 (Nat.le_of_ble_eq_true rfl) rfl rfl ?_
          refine ok_iload_n 1 (pc := 121) dX4_gather_121 rfl rfl ?_
          refine ok_iald (pc := 122) dX4_gather_122 sh_104 (Nat.le_of_ble_eq_true rfl) rfl h4 h5 ?_
          refine ok_aload_n 0 (pc := 123) dX4_gather_123 rfl rfl ?_
          refine ok_getR (pc := 124) dX4_gather_124 fl_X4_9 sh_103 (Nat.le_of_ble_eq_true rfl) rfl rfl ?_
          refine ok_iload_n 2 (pc := 127) dX4_gather_127 rfl rfl ?_
          refine ok_iald (pc := 128) dX4_gather_128 sh_104 (Nat.le_of_ble_eq_true rfl) rfl h6 h7 ?_
          refine ok_max (pc := 129) dX4_gather_129 ml_X4_45 ⟨rfl, rfl⟩ (hw15 _ _) (hw15 _ _) ?_
          refine ok_callVv (As := [vI (imin (σ12 104 x1.toNat) (σ12 104 x2.toNat)), vI (imax (σ12 104 x1.toNat) (σ12 104 x2.toNat))]) (rest := []) (rm := rm_X4_hang) (pc := 132) dX4_gather_132 me_X4_hang ml_X4_48 (ci := 4) rfl sh_103 (Nat.le_of_ble_eq_true rfl) rfl des_X4_hang rfl ⟨rfl, rfl, rfl, rfl⟩ rfl rfl (c_X4_hang X (imin (σ12 104 x1.toNat) (σ12 104 x2.toNat)) (imax (σ12 104 x1.toNat) (σ12 104 x2.toNat)) (r_min (hw15 _ _) (hw15 _ _)) (r_max (hw15 _ _) (hw15 _ _)) h) (fun σ18 h => ?_)
          refine ok_iinc (L' := [(2, vI (x2 + 1)), (0, .ref (xad X 103)), (1, vI x1)]) 2 (pc := 135) dX4_gather_135 rfl rfl rfl ?_
          refine ok_goto (tgt := 63) (pc := 138) dX4_gather_138 rfl ?_
          obtain ⟨h19, h⟩ := h
          refine ok_sub (L' := [(0, .ref (xad X 103)), (1, vI x1), (2, vI (x2 + 1))]) [1,2,0] rfl ?_
          exact ih (x2 + 1) σ18 h19 h
set_option maxRecDepth 100000 in
set_option maxHeartbeats 4000000 in
theorem w_X4_gather_48 (X : XE) {Q : Int → Mem → Prop} : ∀ (n : Nat) (x1 : Int) (σ : Mem), inR x1 → l_X4_gather_48 Q n x1 σ → ok X rm_X4_gather RX4 cX4_gather 3 none 0 Q 48 [(0, .ref (xad X 103)), (1, vI x1)] [] σ := by
  intro n
  induction n with
  | zero => intro x1 σ hx1 h; exact False.elim h
  | succ n ih =>
    intro x1 σ hx1 h
    refine ok_iload_n 1 (pc := 48) dX4_gather_48 rfl rfl ?_
    refine ok_aload_n 0 (pc := 49) dX4_gather_49 rfl rfl ?_
    refine ok_getR (pc := 50) dX4_gather_50 fl_X4_15 sh_103 (Nat.le_of_ble_eq_true rfl) rfl rfl ?_
    refine ok_wf (fun hw1 => ?_)
    refine ok_getI (pc := 53) dX4_gather_53 fl_X4_19 sh_16 (Nat.le_of_ble_eq_true rfl) rfl rfl ?_
    refine ok_icmp_ge (tgt := 147) (pc := 56) dX4_gather_56 rfl hx1 (hw1 _ _) (fun q2 => ?_) (fun q2 => ?_)
    · have h := iteF h q2
      exact ok_vret (pc := 147) dX4_gather_147 rfl rfl h
    · have h := iteT h q2
      refine ok_iload_n 1 (pc := 59) dX4_gather_59 rfl rfl ?_
      refine ok_iconst (pc := 60) dX4_gather_60 ?_
      refine ok_iadd (pc := 61) dX4_gather_61 ?_
      refine ok_istore_n (L' := [(2, vI (x1 + 1)), (0, .ref (xad X 103)), (1, vI x1)]) (pc := 62) dX4_gather_62 rfl rfl rfl ?_
      obtain ⟨h3, h⟩ := h
      refine ok_sub (L' := [(0, .ref (xad X 103)), (1, vI x1), (2, vI (x1 + 1))]) [1,2,0] rfl ?_
      obtain ⟨n4, h⟩ := h
      exact w_X4_gather_63 X x1 hx1 (fun x1_ σ_ hx1_ h_ => ih x1_ σ_ hx1_ h_) n4 (x1 + 1) σ h3 h
set_option maxRecDepth 100000 in
set_option maxHeartbeats 4000000 in
theorem w_X4_gather_2 (X : XE) {Q : Int → Mem → Prop} : ∀ (n : Nat) (x1 : Int) (σ : Mem), inR x1 → l_X4_gather_2 Q n x1 σ → ok X rm_X4_gather RX4 cX4_gather 3 none 0 Q 2 [(0, .ref (xad X 103)), (1, vI x1)] [] σ := by
  intro n
  induction n with
  | zero => intro x1 σ hx1 h; exact False.elim h
  | succ n ih =>
    intro x1 σ hx1 h
    refine ok_iload_n 1 (pc := 2) dX4_gather_2 rfl rfl ?_
    refine ok_aload_n 0 (pc := 3) dX4_gather_3 rfl rfl ?_
    refine ok_getR (pc := 4) dX4_gather_4 fl_X4_15 sh_103 (Nat.le_of_ble_eq_true rfl) rfl rfl ?_
    refine ok_wf (fun hw1 => ?_)
    refine ok_getI (pc := 7) dX4_gather_7 fl_X4_19 sh_16 (Nat.le_of_ble_eq_true rfl) rfl rfl ?_
    refine ok_icmp_ge (tgt := 46) (pc := 10) dX4_gather_10 rfl hx1 (hw1 _ _) (fun q2 => ?_) (fun q2 => ?_)
    · have h := iteF h q2
      refine ok_iconst (pc := 46) dX4_gather_46 ?_
      refine ok_istore_n (L' := [(1, vI 0), (0, .ref (xad X 103))]) (pc := 47) dX4_gather_47 rfl rfl rfl ?_
      refine ok_sub (L' := [(0, .ref (xad X 103)), (1, vI 0)]) [1,0] rfl ?_
      obtain ⟨n3, h⟩ := h
      exact w_X4_gather_48 X n3 0 σ (r_lit rfl) h
    · have h := iteT h q2
      refine ok_aload_n 0 (pc := 13) dX4_gather_13 rfl rfl ?_
      refine ok_getR (pc := 14) dX4_gather_14 fl_X4_9 sh_103 (Nat.le_of_ble_eq_true rfl) rfl rfl ?_
      refine ok_iload_n 1 (pc := 17) dX4_gather_17 rfl rfl ?_
      refine ok_aload_n 0 (pc := 18) dX4_gather_18 rfl rfl ?_
      refine ok_getR (pc := 19) dX4_gather_19 fl_X4_15 sh_103 (Nat.le_of_ble_eq_true rfl) rfl rfl ?_
      refine ok_getR (pc := 22) dX4_gather_22 fl_X4_25 sh_16 (Nat.le_of_ble_eq_true rfl) rfl rfl ?_
      refine ok_iload_n 1 (pc := 25) dX4_gather_25 rfl rfl ?_
      obtain ⟨h4, h⟩ := h
      obtain ⟨h5, h⟩ := h
      refine ok_cards (pc := 26) dX4_gather_26 h4 h5 ?_
      have hc6 : x1.toNat < 24 := by omega
      refine ok_callVi (As := []) (rest := [vI x1, .ref (xad X 104)]) (rm := rm_X1_isOut) (pc := 27) dX4_gather_27 me_X1_isOut ml_X4_29 (ci := 1) rfl (sh_card (x1.toNat) hc6) (lt_card hc6).1 rfl des_X1_isOut rfl ⟨rfl, rfl, rfl, rfl⟩ rfl rfl (c_X1_isOut X (x1.toNat) hc6 h) (fun r8 σ9 h7 h => ?_)
      refine ok_if_eq (tgt := 38) (pc := 30) dX4_gather_30 rfl h7 (fun q10 => ?_) (fun q10 => ?_)
      · have h := iteT h q10
        refine ok_iload_n 1 (pc := 38) dX4_gather_38 rfl rfl ?_
        refine ok_iast (pc := 39) dX4_gather_39 sh_104 (Nat.le_of_ble_eq_true rfl) rfl h4 h5 hx1 ?_
        refine ok_iinc (L' := [(1, vI (x1 + 1)), (0, .ref (xad X 103))]) 1 (pc := 40) dX4_gather_40 rfl rfl rfl ?_
        refine ok_goto (tgt := 2) (pc := 43) dX4_gather_43 rfl ?_
        obtain ⟨h11, h⟩ := h
        refine ok_sub (L' := [(0, .ref (xad X 103)), (1, vI (x1 + 1))]) [1,0] rfl ?_
        exact ih (x1 + 1) (mset σ9 104 (x1.toNat) x1) h11 h
      · have h := iteF h q10
        refine ok_bipush (pc := 33) dX4_gather_33 rfl ?_
        refine ok_goto (tgt := 39) (pc := 35) dX4_gather_35 rfl ?_
        refine ok_iast (pc := 39) dX4_gather_39 sh_104 (Nat.le_of_ble_eq_true rfl) rfl h4 h5 (r_lit rfl) ?_
        refine ok_iinc (L' := [(1, vI (x1 + 1)), (0, .ref (xad X 103))]) 1 (pc := 40) dX4_gather_40 rfl rfl rfl ?_
        refine ok_goto (tgt := 2) (pc := 43) dX4_gather_43 rfl ?_
        obtain ⟨h12, h⟩ := h
        refine ok_sub (L' := [(0, .ref (xad X 103)), (1, vI (x1 + 1))]) [1,0] rfl ?_
        exact ih (x1 + 1) (mset σ9 104 (x1.toNat) (-4)) h12 h
set_option maxRecDepth 100000 in
set_option maxHeartbeats 4000000 in
theorem c_X4_gather (X : XE) {σ : Mem} {Q : Int → Mem → Prop} (h : v_X4_gather σ Q) : CT X yX4_gather cX4_gather 3 none rm_X4_gather 0 [.ref (xad X 103)] σ Q := by
  refine ct_of (own := RX4) (L := [(0, .ref (xad X 103))]) rfl rfl (Nat.le_of_ble_eq_true rfl) rfl ?_
  refine ok_iconst (pc := 0) dX4_gather_0 ?_
  refine ok_istore_n (L' := [(1, vI 0), (0, .ref (xad X 103))]) (pc := 1) dX4_gather_1 rfl rfl rfl ?_
  refine ok_sub (L' := [(0, .ref (xad X 103)), (1, vI 0)]) [1,0] rfl ?_
  obtain ⟨n1, h⟩ := h
  exact w_X4_gather_2 X n1 0 σ (r_lit rfl) h
theorem dX4_number_0 : decode cX4_number 0 = .ok (.iconst 0, 1) := by decide +kernel
theorem dX4_number_1 : decode cX4_number 1 = .ok (.istore_n 1, 1) := by decide +kernel
theorem dX4_number_2 : decode cX4_number 2 = .ok (.iconst 0, 1) := by decide +kernel
theorem dX4_number_3 : decode cX4_number 3 = .ok (.istore_n 2, 1) := by decide +kernel
theorem dX4_number_4 : decode cX4_number 4 = .ok (.iload_n 2, 1) := by decide +kernel
theorem dX4_number_5 : decode cX4_number 5 = .ok (.aload_n 0, 1) := by decide +kernel
theorem dX4_number_6 : decode cX4_number 6 = .ok (.getfield 15, 3) := by decide +kernel
theorem dX4_number_9 : decode cX4_number 9 = .ok (.getfield 19, 3) := by decide +kernel
theorem dX4_number_12 : decode cX4_number 12 = .ok (.if_icmp .ge 30, 3) := by decide +kernel
theorem dX4_number_15 : decode cX4_number 15 = .ok (.iload_n 1, 1) := by decide +kernel
theorem dX4_number_16 : decode cX4_number 16 = .ok (.aload_n 0, 1) := by decide +kernel
theorem dX4_number_17 : decode cX4_number 17 = .ok (.getfield 9, 3) := by decide +kernel
theorem dX4_number_20 : decode cX4_number 20 = .ok (.iload_n 2, 1) := by decide +kernel
theorem dX4_number_21 : decode cX4_number 21 = .ok (.iaload, 1) := by decide +kernel
theorem dX4_number_22 : decode cX4_number 22 = .ok (.iload_n 2, 1) := by decide +kernel
theorem dX4_number_23 : decode cX4_number 23 = .ok (.if_icmp .ne 7, 3) := by decide +kernel
theorem dX4_number_26 : decode cX4_number 26 = .ok (.iconst 1, 1) := by decide +kernel
theorem dX4_number_27 : decode cX4_number 27 = .ok (.goto 4, 3) := by decide +kernel
theorem dX4_number_30 : decode cX4_number 30 = .ok (.iconst 0, 1) := by decide +kernel
theorem dX4_number_31 : decode cX4_number 31 = .ok (.invokestatic 52, 3) := by decide +kernel
theorem dX4_number_34 : decode cX4_number 34 = .ok (.iadd, 1) := by decide +kernel
theorem dX4_number_35 : decode cX4_number 35 = .ok (.istore_n 1, 1) := by decide +kernel
theorem dX4_number_36 : decode cX4_number 36 = .ok (.iinc 2 1, 3) := by decide +kernel
theorem dX4_number_39 : decode cX4_number 39 = .ok (.goto (-35), 3) := by decide +kernel
theorem dX4_number_42 : decode cX4_number 42 = .ok (.iload_n 1, 1) := by decide +kernel
theorem dX4_number_43 : decode cX4_number 43 = .ok (.ireturn, 1) := by decide +kernel
set_option maxRecDepth 100000 in
set_option maxHeartbeats 4000000 in
theorem w_X4_number_31 (X : XE) (x2 : Int) (s0 : Int) (s1 : Int) (hx2 : inR x2) (hs0 : inR s0) (hs1 : inR s1) {K4 : Int → Int → Mem → Prop} {Q : Int → Mem → Prop} (hK4 : ∀ (x1 : Int) (x2 : Int) (σ : Mem), inR x1 → inR x2 → K4 x1 x2 σ → ok X rm_X4_number RX4 cX4_number 3 (some .int) 1 Q 4 [(0, .ref (xad X 103)), (1, vI x1), (2, vI x2)] [] σ) {σ : Mem} (h : j_X4_number_31 K4 Q x2 s0 s1 σ) : ok X rm_X4_number RX4 cX4_number 3 (some .int) 1 Q 31 [(0, .ref (xad X 103)), (2, vI x2)] [vI s0, vI s1] σ := by
  refine ok_callNi (As := [vI s0]) (rest := [vI s1]) (rm := rm_X11_bit) (pc := 31) dX4_number_31 me_X11_bit xn_4 des_X11_bit rfl ⟨rfl, rfl, rfl, rfl⟩ rfl rfl (c_X11_bit X s0 hs0 h) (fun r2 σ3 h1 h => ?_)
  refine ok_iadd (pc := 34) dX4_number_34 ?_
  refine ok_istore_n (L' := [(1, vI (s1 + r2)), (0, .ref (xad X 103)), (2, vI x2)]) (pc := 35) dX4_number_35 rfl rfl rfl ?_
  refine ok_iinc (L' := [(2, vI (x2 + 1)), (1, vI (s1 + r2)), (0, .ref (xad X 103))]) 2 (pc := 36) dX4_number_36 rfl rfl rfl ?_
  refine ok_goto (tgt := 4) (pc := 39) dX4_number_39 rfl ?_
  obtain ⟨h4, h⟩ := h
  obtain ⟨h5, h⟩ := h
  refine ok_sub (L' := [(0, .ref (xad X 103)), (1, vI (s1 + r2)), (2, vI (x2 + 1))]) [2,1,0] rfl ?_
  exact hK4 (s1 + r2) (x2 + 1) σ3 h4 h5 h
set_option maxRecDepth 100000 in
set_option maxHeartbeats 4000000 in
theorem w_X4_number_4 (X : XE) {Q : Int → Mem → Prop} : ∀ (n : Nat) (x1 : Int) (x2 : Int) (σ : Mem), inR x1 → inR x2 → l_X4_number_4 Q n x1 x2 σ → ok X rm_X4_number RX4 cX4_number 3 (some .int) 1 Q 4 [(0, .ref (xad X 103)), (1, vI x1), (2, vI x2)] [] σ := by
  intro n
  induction n with
  | zero => intro x1 x2 σ hx1 hx2 h; exact False.elim h
  | succ n ih =>
    intro x1 x2 σ hx1 hx2 h
    refine ok_iload_n 2 (pc := 4) dX4_number_4 rfl rfl ?_
    refine ok_aload_n 0 (pc := 5) dX4_number_5 rfl rfl ?_
    refine ok_getR (pc := 6) dX4_number_6 fl_X4_15 sh_103 (Nat.le_of_ble_eq_true rfl) rfl rfl ?_
    refine ok_wf (fun hw1 => ?_)
    refine ok_getI (pc := 9) dX4_number_9 fl_X4_19 sh_16 (Nat.le_of_ble_eq_true rfl) rfl rfl ?_
    refine ok_icmp_ge (tgt := 42) (pc := 12) dX4_number_12 rfl hx2 (hw1 _ _) (fun q2 => ?_) (fun q2 => ?_)
    · have h := iteF h q2
      refine ok_iload_n 1 (pc := 42) dX4_number_42 rfl rfl ?_
      exact ok_iret (pc := 43) dX4_number_43 rfl rfl rfl hx1 h
    · have h := iteT h q2
      refine ok_iload_n 1 (pc := 15) dX4_number_15 rfl rfl ?_
      refine ok_aload_n 0 (pc := 16) dX4_number_16 rfl rfl ?_
      refine ok_getR (pc := 17) dX4_number_17 fl_X4_9 sh_103 (Nat.le_of_ble_eq_true rfl) rfl rfl ?_
      refine ok_iload_n 2 (pc := 20) dX4_number_20 rfl rfl ?_
      obtain ⟨h3, h⟩ := h
      obtain ⟨h4, h⟩ := h
      refine ok_iald (pc := 21) dX4_number_21 sh_104 (Nat.le_of_ble_eq_true rfl) rfl h3 h4 ?_
      refine ok_iload_n 2 (pc := 22) dX4_number_22 rfl rfl ?_
      refine ok_icmp_ne (tgt := 30) (pc := 23) dX4_number_23 rfl (hw1 _ _) hx2 (fun q5 => ?_) (fun q5 => ?_)
      · simp only [if_neg q5] at h
        refine ok_iconst (pc := 30) dX4_number_30 ?_
        refine ok_sub (L' := [(0, .ref (xad X 103)), (2, vI x2)]) [0,2] rfl ?_
        exact w_X4_number_31 X x2 0 x1 hx2 (r_lit rfl) hx1 (fun x1_ x2_ σ_ hx1_ hx2_ h_ => ih x1_ x2_ σ_ hx1_ hx2_ h_) h
      · simp only [if_pos q5] at h
        refine ok_iconst (pc := 26) dX4_number_26 ?_
        refine ok_goto (tgt := 31) (pc := 27) dX4_number_27 rfl ?_
        refine ok_sub (L' := [(0, .ref (xad X 103)), (2, vI x2)]) [0,2] rfl ?_
        exact w_X4_number_31 X x2 1 x1 hx2 (r_lit rfl) hx1 (fun x1_ x2_ σ_ hx1_ hx2_ h_ => ih x1_ x2_ σ_ hx1_ hx2_ h_) h
set_option maxRecDepth 100000 in
set_option maxHeartbeats 4000000 in
theorem c_X4_number (X : XE) {σ : Mem} {Q : Int → Mem → Prop} (h : v_X4_number σ Q) : CT X yX4_number cX4_number 3 (some .int) rm_X4_number 1 [.ref (xad X 103)] σ Q := by
  refine ct_of (own := RX4) (L := [(0, .ref (xad X 103))]) rfl rfl (Nat.le_of_ble_eq_true rfl) rfl ?_
  refine ok_iconst (pc := 0) dX4_number_0 ?_
  refine ok_istore_n (L' := [(1, vI 0), (0, .ref (xad X 103))]) (pc := 1) dX4_number_1 rfl rfl rfl ?_
  refine ok_iconst (pc := 2) dX4_number_2 ?_
  refine ok_istore_n (L' := [(2, vI 0), (1, vI 0), (0, .ref (xad X 103))]) (pc := 3) dX4_number_3 rfl rfl rfl ?_
  refine ok_sub (L' := [(0, .ref (xad X 103)), (1, vI 0), (2, vI 0)]) [2,1,0] rfl ?_
  obtain ⟨n1, h⟩ := h
  exact w_X4_number_4 X n1 0 0 σ (r_lit rfl) (r_lit rfl) h
theorem dX4_isOne_0 : decode cX4_isOne 0 = .ok (.aload_n 0, 1) := by decide +kernel
theorem dX4_isOne_1 : decode cX4_isOne 1 = .ok (.getfield 9, 3) := by decide +kernel
theorem dX4_isOne_4 : decode cX4_isOne 4 = .ok (.iload_n 1, 1) := by decide +kernel
theorem dX4_isOne_5 : decode cX4_isOne 5 = .ok (.iaload, 1) := by decide +kernel
theorem dX4_isOne_6 : decode cX4_isOne 6 = .ok (.bipush (-4), 2) := by decide +kernel
theorem dX4_isOne_8 : decode cX4_isOne 8 = .ok (.if_icmp .eq 22, 3) := by decide +kernel
theorem dX4_isOne_11 : decode cX4_isOne 11 = .ok (.aload_n 0, 1) := by decide +kernel
theorem dX4_isOne_12 : decode cX4_isOne 12 = .ok (.getfield 9, 3) := by decide +kernel
theorem dX4_isOne_15 : decode cX4_isOne 15 = .ok (.iload_n 1, 1) := by decide +kernel
theorem dX4_isOne_16 : decode cX4_isOne 16 = .ok (.iaload, 1) := by decide +kernel
theorem dX4_isOne_17 : decode cX4_isOne 17 = .ok (.aload_n 0, 1) := by decide +kernel
theorem dX4_isOne_18 : decode cX4_isOne 18 = .ok (.getfield 9, 3) := by decide +kernel
theorem dX4_isOne_21 : decode cX4_isOne 21 = .ok (.iload_n 2, 1) := by decide +kernel
theorem dX4_isOne_22 : decode cX4_isOne 22 = .ok (.iaload, 1) := by decide +kernel
theorem dX4_isOne_23 : decode cX4_isOne 23 = .ok (.if_icmp .ne 7, 3) := by decide +kernel
theorem dX4_isOne_26 : decode cX4_isOne 26 = .ok (.iconst 1, 1) := by decide +kernel
theorem dX4_isOne_27 : decode cX4_isOne 27 = .ok (.goto 4, 3) := by decide +kernel
theorem dX4_isOne_30 : decode cX4_isOne 30 = .ok (.iconst 0, 1) := by decide +kernel
theorem dX4_isOne_31 : decode cX4_isOne 31 = .ok (.ireturn, 1) := by decide +kernel
set_option maxRecDepth 100000 in
set_option maxHeartbeats 4000000 in
theorem c_X4_isOne (X : XE) (p1 : Int) (p2 : Int) (hp1 : inR p1) (hp2 : inR p2) {σ : Mem} {Q : Int → Mem → Prop} (h : v_X4_isOne p1 p2 σ Q) : CT X yX4_isOne cX4_isOne 3 (some .boolean) rm_X4_isOne 1 [.ref (xad X 103), vI p1, vI p2] σ Q := by
  refine ct_of (own := RX4) (L := [(0, .ref (xad X 103)), (1, vI p1), (2, vI p2)]) rfl rfl (Nat.le_of_ble_eq_true rfl) rfl ?_
  refine ok_aload_n 0 (pc := 0) dX4_isOne_0 rfl rfl ?_
  refine ok_getR (pc := 1) dX4_isOne_1 fl_X4_9 sh_103 (Nat.le_of_ble_eq_true rfl) rfl rfl ?_
  refine ok_iload_n 1 (pc := 4) dX4_isOne_4 rfl rfl ?_
  obtain ⟨h1, h⟩ := h
  obtain ⟨h2, h⟩ := h
  refine ok_wf (fun hw3 => ?_)
  refine ok_iald (pc := 5) dX4_isOne_5 sh_104 (Nat.le_of_ble_eq_true rfl) rfl h1 h2 ?_
  refine ok_bipush (pc := 6) dX4_isOne_6 rfl ?_
  refine ok_icmp_eq (tgt := 30) (pc := 8) dX4_isOne_8 rfl (hw3 _ _) (r_lit rfl) (fun q4 => ?_) (fun q4 => ?_)
  · have h := iteT h q4
    refine ok_iconst (pc := 30) dX4_isOne_30 ?_
    exact ok_iret (pc := 31) dX4_isOne_31 rfl rfl (nr_z (Or.inl rfl)) (r_lit rfl) h
  · have h := iteF h q4
    refine ok_aload_n 0 (pc := 11) dX4_isOne_11 rfl rfl ?_
    refine ok_getR (pc := 12) dX4_isOne_12 fl_X4_9 sh_103 (Nat.le_of_ble_eq_true rfl) rfl rfl ?_
    refine ok_iload_n 1 (pc := 15) dX4_isOne_15 rfl rfl ?_
    refine ok_iald (pc := 16) dX4_isOne_16 sh_104 (Nat.le_of_ble_eq_true rfl) rfl h1 h2 ?_
    refine ok_aload_n 0 (pc := 17) dX4_isOne_17 rfl rfl ?_
    refine ok_getR (pc := 18) dX4_isOne_18 fl_X4_9 sh_103 (Nat.le_of_ble_eq_true rfl) rfl rfl ?_
    refine ok_iload_n 2 (pc := 21) dX4_isOne_21 rfl rfl ?_
    obtain ⟨h5, h⟩ := h
    obtain ⟨h6, h⟩ := h
    refine ok_iald (pc := 22) dX4_isOne_22 sh_104 (Nat.le_of_ble_eq_true rfl) rfl h5 h6 ?_
    refine ok_icmp_ne (tgt := 30) (pc := 23) dX4_isOne_23 rfl (hw3 _ _) (hw3 _ _) (fun q7 => ?_) (fun q7 => ?_)
    · have h := iteF h q7
      refine ok_iconst (pc := 30) dX4_isOne_30 ?_
      exact ok_iret (pc := 31) dX4_isOne_31 rfl rfl (nr_z (Or.inl rfl)) (r_lit rfl) h
    · have h := iteT h q7
      refine ok_iconst (pc := 26) dX4_isOne_26 ?_
      refine ok_goto (tgt := 31) (pc := 27) dX4_isOne_27 rfl ?_
      exact ok_iret (pc := 31) dX4_isOne_31 rfl rfl (nr_z (Or.inr rfl)) (r_lit rfl) h
theorem dX4_greatest_0 : decode cX4_greatest 0 = .ok (.iconst 0, 1) := by decide +kernel
theorem dX4_greatest_1 : decode cX4_greatest 1 = .ok (.istore_n 1, 1) := by decide +kernel
theorem dX4_greatest_2 : decode cX4_greatest 2 = .ok (.iconst 0, 1) := by decide +kernel
theorem dX4_greatest_3 : decode cX4_greatest 3 = .ok (.istore_n 2, 1) := by decide +kernel
theorem dX4_greatest_4 : decode cX4_greatest 4 = .ok (.iload_n 2, 1) := by decide +kernel
theorem dX4_greatest_5 : decode cX4_greatest 5 = .ok (.aload_n 0, 1) := by decide +kernel
theorem dX4_greatest_6 : decode cX4_greatest 6 = .ok (.getfield 15, 3) := by decide +kernel
theorem dX4_greatest_9 : decode cX4_greatest 9 = .ok (.getfield 19, 3) := by decide +kernel
theorem dX4_greatest_12 : decode cX4_greatest 12 = .ok (.if_icmp .ge 51, 3) := by decide +kernel
theorem dX4_greatest_15 : decode cX4_greatest 15 = .ok (.iconst 0, 1) := by decide +kernel
theorem dX4_greatest_16 : decode cX4_greatest 16 = .ok (.istore_n 3, 1) := by decide +kernel
theorem dX4_greatest_17 : decode cX4_greatest 17 = .ok (.iload_n 2, 1) := by decide +kernel
theorem dX4_greatest_18 : decode cX4_greatest 18 = .ok (.istore 4, 2) := by decide +kernel
theorem dX4_greatest_20 : decode cX4_greatest 20 = .ok (.iload 4, 2) := by decide +kernel
theorem dX4_greatest_22 : decode cX4_greatest 22 = .ok (.aload_n 0, 1) := by decide +kernel
theorem dX4_greatest_23 : decode cX4_greatest 23 = .ok (.getfield 15, 3) := by decide +kernel
theorem dX4_greatest_26 : decode cX4_greatest 26 = .ok (.getfield 19, 3) := by decide +kernel
theorem dX4_greatest_29 : decode cX4_greatest 29 = .ok (.if_icmp .ge 22, 3) := by decide +kernel
theorem dX4_greatest_32 : decode cX4_greatest 32 = .ok (.iload_n 3, 1) := by decide +kernel
theorem dX4_greatest_33 : decode cX4_greatest 33 = .ok (.aload_n 0, 1) := by decide +kernel
theorem dX4_greatest_34 : decode cX4_greatest 34 = .ok (.iload_n 2, 1) := by decide +kernel
theorem dX4_greatest_35 : decode cX4_greatest 35 = .ok (.iload 4, 2) := by decide +kernel
theorem dX4_greatest_37 : decode cX4_greatest 37 = .ok (.invokevirtual 56, 3) := by decide +kernel
theorem dX4_greatest_40 : decode cX4_greatest 40 = .ok (.invokestatic 52, 3) := by decide +kernel
theorem dX4_greatest_43 : decode cX4_greatest 43 = .ok (.iadd, 1) := by decide +kernel
theorem dX4_greatest_44 : decode cX4_greatest 44 = .ok (.istore_n 3, 1) := by decide +kernel
theorem dX4_greatest_45 : decode cX4_greatest 45 = .ok (.iinc 4 1, 3) := by decide +kernel
theorem dX4_greatest_48 : decode cX4_greatest 48 = .ok (.goto (-28), 3) := by decide +kernel
theorem dX4_greatest_51 : decode cX4_greatest 51 = .ok (.iload_n 1, 1) := by decide +kernel
theorem dX4_greatest_52 : decode cX4_greatest 52 = .ok (.iload_n 3, 1) := by decide +kernel
theorem dX4_greatest_53 : decode cX4_greatest 53 = .ok (.invokestatic 45, 3) := by decide +kernel
theorem dX4_greatest_56 : decode cX4_greatest 56 = .ok (.istore_n 1, 1) := by decide +kernel
theorem dX4_greatest_57 : decode cX4_greatest 57 = .ok (.iinc 2 1, 3) := by decide +kernel
theorem dX4_greatest_60 : decode cX4_greatest 60 = .ok (.goto (-56), 3) := by decide +kernel
theorem dX4_greatest_63 : decode cX4_greatest 63 = .ok (.iload_n 1, 1) := by decide +kernel
theorem dX4_greatest_64 : decode cX4_greatest 64 = .ok (.ireturn, 1) := by decide +kernel
set_option maxRecDepth 100000 in
set_option maxHeartbeats 4000000 in
theorem w_X4_greatest_20 (X : XE) (x1 : Int) (x2 : Int) (hx1 : inR x1) (hx2 : inR x2) {K4 : Int → Int → Mem → Prop} {Q : Int → Mem → Prop} (hK4 : ∀ (x1 : Int) (x2 : Int) (σ : Mem), inR x1 → inR x2 → K4 x1 x2 σ → ok X rm_X4_greatest RX4 cX4_greatest 5 (some .int) 1 Q 4 [(0, .ref (xad X 103)), (1, vI x1), (2, vI x2)] [] σ) : ∀ (n : Nat) (x3 : Int) (x4 : Int) (σ : Mem), inR x3 → inR x4 → l_X4_greatest_20 x1 x2 K4 Q n x3 x4 σ → ok X rm_X4_greatest RX4 cX4_greatest 5 (some .int) 1 Q 20 [(0, .ref (xad X 103)), (1, vI x1), (2, vI x2), (3, vI x3), (4, vI x4)] [] σ := by
  intro n
  induction n with
  | zero => intro x3 x4 σ hx3 hx4 h; exact False.elim h
  | succ n ih =>
    intro x3 x4 σ hx3 hx4 h
    refine ok_iload 4 (pc := 20) dX4_greatest_20 rfl ?_
    refine ok_aload_n 0 (pc := 22) dX4_greatest_22 rfl rfl ?_
    refine ok_getR (pc := 23) dX4_greatest_23 fl_X4_15 sh_103 (Nat.le_of_ble_eq_true rfl) rfl rfl ?_
    refine ok_wf (fun hw1 => ?_)
    refine ok_getI (pc := 26) dX4_greatest_26 fl_X4_19 sh_16 (Nat.le_of_ble_eq_true rfl) rfl rfl ?_
    refine ok_icmp_ge (tgt := 51) (pc := 29) dX4_greatest_29 rfl hx4 (hw1 _ _) (fun q2 => ?_) (fun q2 => ?_)
    · have h := iteF h q2
      refine ok_iload_n 1 (pc := 51) dX4_greatest_51 rfl rfl ?_
      refine ok_iload_n 3 (pc := 52) dX4_greatest_52 rfl rfl ?_
      refine ok_max (pc := 53) dX4_greatest_53 ml_X4_45 ⟨rfl, rfl⟩ hx1 hx3 ?_
      refine ok_istore_n (L' := [(1, vI (imax x1 x3)), (0, .ref (xad X 103)), (2, vI x2), (3, vI x3), (4, vI x4)]) (pc := 56) dX4_greatest_56 rfl rfl rfl ?_
      refine ok_iinc (L' := [(2, vI (x2 + 1)), (1, vI (imax x1 x3)), (0, .ref (xad X 103)), (3, vI x3), (4, vI x4)]) 2 (pc := 57) dX4_greatest_57 rfl rfl rfl ?_
      refine ok_goto (tgt := 4) (pc := 60) dX4_greatest_60 rfl ?_
      obtain ⟨h3, h⟩ := h
      refine ok_sub (L' := [(0, .ref (xad X 103)), (1, vI (imax x1 x3)), (2, vI (x2 + 1))]) [2,1,0] rfl ?_
      exact hK4 (imax x1 x3) (x2 + 1) σ (r_max hx1 hx3) h3 h
    · have h := iteT h q2
      refine ok_iload_n 3 (pc := 32) dX4_greatest_32 rfl rfl ?_
      refine ok_aload_n 0 (pc := 33) dX4_greatest_33 rfl rfl ?_
      refine ok_iload_n 2 (pc := 34) dX4_greatest_34 rfl rfl ?_
      refine ok_iload 4 (pc := 35) dX4_greatest_35 rfl ?_
      refine ok_callVi (As := [vI x2, vI x4]) (rest := [vI x3]) (rm := rm_X4_isOne) (pc := 37) dX4_greatest_37 me_X4_isOne ml_X4_56 (ci := 4) rfl sh_103 (Nat.le_of_ble_eq_true rfl) rfl des_X4_isOne rfl ⟨rfl, rfl, rfl, rfl⟩ rfl rfl (c_X4_isOne X x2 x4 hx2 hx4 h) (fun r5 σ6 h4 h => ?_)
      refine ok_callNi (As := [vI r5]) (rest := [vI x3]) (rm := rm_X11_bit) (pc := 40) dX4_greatest_40 me_X11_bit xn_4 des_X11_bit rfl ⟨rfl, rfl, rfl, rfl⟩ rfl rfl (c_X11_bit X r5 h4 h) (fun r8 σ9 h7 h => ?_)
      refine ok_iadd (pc := 43) dX4_greatest_43 ?_
      refine ok_istore_n (L' := [(3, vI (x3 + r8)), (0, .ref (xad X 103)), (1, vI x1), (2, vI x2), (4, vI x4)]) (pc := 44) dX4_greatest_44 rfl rfl rfl ?_
      refine ok_iinc (L' := [(4, vI (x4 + 1)), (3, vI (x3 + r8)), (0, .ref (xad X 103)), (1, vI x1), (2, vI x2)]) 4 (pc := 45) dX4_greatest_45 rfl rfl rfl ?_
      refine ok_goto (tgt := 20) (pc := 48) dX4_greatest_48 rfl ?_
      obtain ⟨h10, h⟩ := h
      obtain ⟨h11, h⟩ := h
      refine ok_sub (L' := [(0, .ref (xad X 103)), (1, vI x1), (2, vI x2), (3, vI (x3 + r8)), (4, vI (x4 + 1))]) [2,3,4,1,0] rfl ?_
      exact ih (x3 + r8) (x4 + 1) σ9 h10 h11 h
set_option maxRecDepth 100000 in
set_option maxHeartbeats 4000000 in
theorem w_X4_greatest_4 (X : XE) {Q : Int → Mem → Prop} : ∀ (n : Nat) (x1 : Int) (x2 : Int) (σ : Mem), inR x1 → inR x2 → l_X4_greatest_4 Q n x1 x2 σ → ok X rm_X4_greatest RX4 cX4_greatest 5 (some .int) 1 Q 4 [(0, .ref (xad X 103)), (1, vI x1), (2, vI x2)] [] σ := by
  intro n
  induction n with
  | zero => intro x1 x2 σ hx1 hx2 h; exact False.elim h
  | succ n ih =>
    intro x1 x2 σ hx1 hx2 h
    refine ok_iload_n 2 (pc := 4) dX4_greatest_4 rfl rfl ?_
    refine ok_aload_n 0 (pc := 5) dX4_greatest_5 rfl rfl ?_
    refine ok_getR (pc := 6) dX4_greatest_6 fl_X4_15 sh_103 (Nat.le_of_ble_eq_true rfl) rfl rfl ?_
    refine ok_wf (fun hw1 => ?_)
    refine ok_getI (pc := 9) dX4_greatest_9 fl_X4_19 sh_16 (Nat.le_of_ble_eq_true rfl) rfl rfl ?_
    refine ok_icmp_ge (tgt := 63) (pc := 12) dX4_greatest_12 rfl hx2 (hw1 _ _) (fun q2 => ?_) (fun q2 => ?_)
    · have h := iteF h q2
      refine ok_iload_n 1 (pc := 63) dX4_greatest_63 rfl rfl ?_
      exact ok_iret (pc := 64) dX4_greatest_64 rfl rfl rfl hx1 h
    · have h := iteT h q2
      refine ok_iconst (pc := 15) dX4_greatest_15 ?_
      refine ok_istore_n (L' := [(3, vI 0), (0, .ref (xad X 103)), (1, vI x1), (2, vI x2)]) (pc := 16) dX4_greatest_16 rfl rfl rfl ?_
      refine ok_iload_n 3 (pc := 17) dX4_greatest_17 rfl rfl ?_
      refine ok_istore (L' := [(4, vI x2), (3, vI 0), (0, .ref (xad X 103)), (1, vI x1), (2, vI x2)]) (pc := 18) dX4_greatest_18 rfl rfl ?_
      refine ok_sub (L' := [(0, .ref (xad X 103)), (1, vI x1), (2, vI x2), (3, vI 0), (4, vI x2)]) [2,3,4,1,0] rfl ?_
      obtain ⟨n3, h⟩ := h
      exact w_X4_greatest_20 X x1 x2 hx1 hx2 (fun x1_ x2_ σ_ hx1_ hx2_ h_ => ih x1_ x2_ σ_ hx1_ hx2_ h_) n3 0 x2 σ (r_lit rfl) hx2 h
set_option maxRecDepth 100000 in
set_option maxHeartbeats 4000000 in
theorem c_X4_greatest (X : XE) {σ : Mem} {Q : Int → Mem → Prop} (h : v_X4_greatest σ Q) : CT X yX4_greatest cX4_greatest 5 (some .int) rm_X4_greatest 1 [.ref (xad X 103)] σ Q := by
  refine ct_of (own := RX4) (L := [(0, .ref (xad X 103))]) rfl rfl (Nat.le_of_ble_eq_true rfl) rfl ?_
  refine ok_iconst (pc := 0) dX4_greatest_0 ?_
  refine ok_istore_n (L' := [(1, vI 0), (0, .ref (xad X 103))]) (pc := 1) dX4_greatest_1 rfl rfl rfl ?_
  refine ok_iconst (pc := 2) dX4_greatest_2 ?_
  refine ok_istore_n (L' := [(2, vI 0), (1, vI 0), (0, .ref (xad X 103))]) (pc := 3) dX4_greatest_3 rfl rfl rfl ?_
  refine ok_sub (L' := [(0, .ref (xad X 103)), (1, vI 0), (2, vI 0)]) [2,1,0] rfl ?_
  obtain ⟨n1, h⟩ := h
  exact w_X4_greatest_4 X n1 0 0 σ (r_lit rfl) (r_lit rfl) h
theorem dX4_quarrels_0 : decode cX4_quarrels 0 = .ok (.iconst 0, 1) := by decide +kernel
theorem dX4_quarrels_1 : decode cX4_quarrels 1 = .ok (.istore_n 1, 1) := by decide +kernel
theorem dX4_quarrels_2 : decode cX4_quarrels 2 = .ok (.iconst 0, 1) := by decide +kernel
theorem dX4_quarrels_3 : decode cX4_quarrels 3 = .ok (.istore_n 2, 1) := by decide +kernel
theorem dX4_quarrels_4 : decode cX4_quarrels 4 = .ok (.iload_n 2, 1) := by decide +kernel
theorem dX4_quarrels_5 : decode cX4_quarrels 5 = .ok (.aload_n 0, 1) := by decide +kernel
theorem dX4_quarrels_6 : decode cX4_quarrels 6 = .ok (.getfield 15, 3) := by decide +kernel
theorem dX4_quarrels_9 : decode cX4_quarrels 9 = .ok (.getfield 19, 3) := by decide +kernel
theorem dX4_quarrels_12 : decode cX4_quarrels 12 = .ok (.if_icmp .ge 62, 3) := by decide +kernel
theorem dX4_quarrels_15 : decode cX4_quarrels 15 = .ok (.iload_n 2, 1) := by decide +kernel
theorem dX4_quarrels_16 : decode cX4_quarrels 16 = .ok (.iconst 1, 1) := by decide +kernel
theorem dX4_quarrels_17 : decode cX4_quarrels 17 = .ok (.iadd, 1) := by decide +kernel
theorem dX4_quarrels_18 : decode cX4_quarrels 18 = .ok (.istore_n 3, 1) := by decide +kernel
theorem dX4_quarrels_19 : decode cX4_quarrels 19 = .ok (.iload_n 3, 1) := by decide +kernel
theorem dX4_quarrels_20 : decode cX4_quarrels 20 = .ok (.aload_n 0, 1) := by decide +kernel
theorem dX4_quarrels_21 : decode cX4_quarrels 21 = .ok (.getfield 15, 3) := by decide +kernel
theorem dX4_quarrels_24 : decode cX4_quarrels 24 = .ok (.getfield 19, 3) := by decide +kernel
theorem dX4_quarrels_27 : decode cX4_quarrels 27 = .ok (.if_icmp .ge 41, 3) := by decide +kernel
theorem dX4_quarrels_30 : decode cX4_quarrels 30 = .ok (.iload_n 1, 1) := by decide +kernel
theorem dX4_quarrels_31 : decode cX4_quarrels 31 = .ok (.aload_n 0, 1) := by decide +kernel
theorem dX4_quarrels_32 : decode cX4_quarrels 32 = .ok (.iload_n 2, 1) := by decide +kernel
theorem dX4_quarrels_33 : decode cX4_quarrels 33 = .ok (.iload_n 3, 1) := by decide +kernel
theorem dX4_quarrels_34 : decode cX4_quarrels 34 = .ok (.invokevirtual 56, 3) := by decide +kernel
theorem dX4_quarrels_37 : decode cX4_quarrels 37 = .ok (.ifCond .eq 19, 3) := by decide +kernel
theorem dX4_quarrels_40 : decode cX4_quarrels 40 = .ok (.aload_n 0, 1) := by decide +kernel
theorem dX4_quarrels_41 : decode cX4_quarrels 41 = .ok (.getfield 15, 3) := by decide +kernel
theorem dX4_quarrels_44 : decode cX4_quarrels 44 = .ok (.iload_n 2, 1) := by decide +kernel
theorem dX4_quarrels_45 : decode cX4_quarrels 45 = .ok (.iload_n 3, 1) := by decide +kernel
theorem dX4_quarrels_46 : decode cX4_quarrels 46 = .ok (.invokevirtual 59, 3) := by decide +kernel
theorem dX4_quarrels_49 : decode cX4_quarrels 49 = .ok (.ifCond .eq 7, 3) := by decide +kernel
theorem dX4_quarrels_52 : decode cX4_quarrels 52 = .ok (.iconst 1, 1) := by decide +kernel
theorem dX4_quarrels_53 : decode cX4_quarrels 53 = .ok (.goto 4, 3) := by decide +kernel
theorem dX4_quarrels_56 : decode cX4_quarrels 56 = .ok (.iconst 0, 1) := by decide +kernel
theorem dX4_quarrels_57 : decode cX4_quarrels 57 = .ok (.invokestatic 52, 3) := by decide +kernel
theorem dX4_quarrels_60 : decode cX4_quarrels 60 = .ok (.iadd, 1) := by decide +kernel
theorem dX4_quarrels_61 : decode cX4_quarrels 61 = .ok (.istore_n 1, 1) := by decide +kernel
theorem dX4_quarrels_62 : decode cX4_quarrels 62 = .ok (.iinc 3 1, 3) := by decide +kernel
theorem dX4_quarrels_65 : decode cX4_quarrels 65 = .ok (.goto (-46), 3) := by decide +kernel
theorem dX4_quarrels_68 : decode cX4_quarrels 68 = .ok (.iinc 2 1, 3) := by decide +kernel
theorem dX4_quarrels_71 : decode cX4_quarrels 71 = .ok (.goto (-67), 3) := by decide +kernel
theorem dX4_quarrels_74 : decode cX4_quarrels 74 = .ok (.iload_n 1, 1) := by decide +kernel
theorem dX4_quarrels_75 : decode cX4_quarrels 75 = .ok (.ireturn, 1) := by decide +kernel
set_option maxRecDepth 100000 in
set_option maxHeartbeats 4000000 in
theorem w_X4_quarrels_57 (X : XE) (x2 : Int) (x3 : Int) (s0 : Int) (s1 : Int) (hx2 : inR x2) (hx3 : inR x3) (hs0 : inR s0) (hs1 : inR s1) {K4 : Int → Int → Mem → Prop} {K19 : Int → Int → Mem → Prop} {Q : Int → Mem → Prop} (hK4 : ∀ (x1 : Int) (x2 : Int) (σ : Mem), inR x1 → inR x2 → K4 x1 x2 σ → ok X rm_X4_quarrels RX4 cX4_quarrels 4 (some .int) 1 Q 4 [(0, .ref (xad X 103)), (1, vI x1), (2, vI x2)] [] σ) (hK19 : ∀ (x1 : Int) (x3 : Int) (σ : Mem), inR x1 → inR x3 → K19 x1 x3 σ → ok X rm_X4_quarrels RX4 cX4_quarrels 4 (some .int) 1 Q 19 [(0, .ref (xad X 103)), (1, vI x1), (2, vI x2), (3, vI x3)] [] σ) {σ : Mem} (h : j_X4_quarrels_57 K4 K19 Q x2 x3 s0 s1 σ) : ok X rm_X4_quarrels RX4 cX4_quarrels 4 (some .int) 1 Q 57 [(0, .ref (xad X 103)), (2, vI x2), (3, vI x3)] [vI s0, vI s1] σ := by
  refine ok_callNi (As := [vI s0]) (rest := [vI s1]) (rm := rm_X11_bit) (pc := 57) dX4_quarrels_57 me_X11_bit xn_4 des_X11_bit rfl ⟨rfl, rfl, rfl, rfl⟩ rfl rfl (c_X11_bit X s0 hs0 h) (fun r2 σ3 h1 h => ?_)
  refine ok_iadd (pc := 60) dX4_quarrels_60 ?_
  refine ok_istore_n (L' := [(1, vI (s1 + r2)), (0, .ref (xad X 103)), (2, vI x2), (3, vI x3)]) (pc := 61) dX4_quarrels_61 rfl rfl rfl ?_
  refine ok_iinc (L' := [(3, vI (x3 + 1)), (1, vI (s1 + r2)), (0, .ref (xad X 103)), (2, vI x2)]) 3 (pc := 62) dX4_quarrels_62 rfl rfl rfl ?_
  refine ok_goto (tgt := 19) (pc := 65) dX4_quarrels_65 rfl ?_
  obtain ⟨h4, h⟩ := h
  obtain ⟨h5, h⟩ := h
  refine ok_sub (L' := [(0, .ref (xad X 103)), (1, vI (s1 + r2)), (2, vI x2), (3, vI (x3 + 1))]) [2,1,3,0] rfl ?_
  exact hK19 (s1 + r2) (x3 + 1) σ3 h4 h5 h
set_option maxRecDepth 100000 in
set_option maxHeartbeats 4000000 in
theorem w_X4_quarrels_19 (X : XE) (x2 : Int) (hx2 : inR x2) {K4 : Int → Int → Mem → Prop} {Q : Int → Mem → Prop} (hK4 : ∀ (x1 : Int) (x2 : Int) (σ : Mem), inR x1 → inR x2 → K4 x1 x2 σ → ok X rm_X4_quarrels RX4 cX4_quarrels 4 (some .int) 1 Q 4 [(0, .ref (xad X 103)), (1, vI x1), (2, vI x2)] [] σ) : ∀ (n : Nat) (x1 : Int) (x3 : Int) (σ : Mem), inR x1 → inR x3 → l_X4_quarrels_19 x2 K4 Q n x1 x3 σ → ok X rm_X4_quarrels RX4 cX4_quarrels 4 (some .int) 1 Q 19 [(0, .ref (xad X 103)), (1, vI x1), (2, vI x2), (3, vI x3)] [] σ := by
  intro n
  induction n with
  | zero => intro x1 x3 σ hx1 hx3 h; exact False.elim h
  | succ n ih =>
    intro x1 x3 σ hx1 hx3 h
    refine ok_iload_n 3 (pc := 19) dX4_quarrels_19 rfl rfl ?_
    refine ok_aload_n 0 (pc := 20) dX4_quarrels_20 rfl rfl ?_
    refine ok_getR (pc := 21) dX4_quarrels_21 fl_X4_15 sh_103 (Nat.le_of_ble_eq_true rfl) rfl rfl ?_
    refine ok_wf (fun hw1 => ?_)
    refine ok_getI (pc := 24) dX4_quarrels_24 fl_X4_19 sh_16 (Nat.le_of_ble_eq_true rfl) rfl rfl ?_
    refine ok_icmp_ge (tgt := 68) (pc := 27) dX4_quarrels_27 rfl hx3 (hw1 _ _) (fun q2 => ?_) (fun q2 => ?_)
    · have h := iteF h q2
      refine ok_iinc (L' := [(2, vI (x2 + 1)), (0, .ref (xad X 103)), (1, vI x1), (3, vI x3)]) 2 (pc := 68) dX4_quarrels_68 rfl rfl rfl ?_
      refine ok_goto (tgt := 4) (pc := 71) dX4_quarrels_71 rfl ?_
      obtain ⟨h3, h⟩ := h
      refine ok_sub (L' := [(0, .ref (xad X 103)), (1, vI x1), (2, vI (x2 + 1))]) [1,2,0] rfl ?_
      exact hK4 x1 (x2 + 1) σ hx1 h3 h
    · have h := iteT h q2
      refine ok_iload_n 1 (pc := 30) dX4_quarrels_30 rfl rfl ?_
      refine ok_aload_n 0 (pc := 31) dX4_quarrels_31 rfl rfl ?_
      refine ok_iload_n 2 (pc := 32) dX4_quarrels_32 rfl rfl ?_
      refine ok_iload_n 3 (pc := 33) dX4_quarrels_33 rfl rfl ?_
      refine ok_callVi (As := [vI x2, vI x3]) (rest := [vI x1]) (rm := rm_X4_isOne) (pc := 34) dX4_quarrels_34 me_X4_isOne ml_X4_56 (ci := 4) rfl sh_103 (Nat.le_of_ble_eq_true rfl) rfl des_X4_isOne rfl ⟨rfl, rfl, rfl, rfl⟩ rfl rfl (c_X4_isOne X x2 x3 hx2 hx3 h) (fun r5 σ6 h4 h => ?_)
      refine ok_if_eq (tgt := 56) (pc := 37) dX4_quarrels_37 rfl h4 (fun q7 => ?_) (fun q7 => ?_)
      · have h := iteT h q7
        refine ok_iconst (pc := 56) dX4_quarrels_56 ?_
        refine ok_sub (L' := [(0, .ref (xad X 103)), (2, vI x2), (3, vI x3)]) [0,2,3] rfl ?_
        exact w_X4_quarrels_57 X x2 x3 0 x1 hx2 hx3 (r_lit rfl) hx1 hK4 (fun x1_ x3_ σ_ hx1_ hx3_ h_ => ih x1_ x3_ σ_ hx1_ hx3_ h_) h
      · have h := iteF h q7
        refine ok_aload_n 0 (pc := 40) dX4_quarrels_40 rfl rfl ?_
        refine ok_getR (pc := 41) dX4_quarrels_41 fl_X4_15 sh_103 (Nat.le_of_ble_eq_true rfl) rfl rfl ?_
        refine ok_iload_n 2 (pc := 44) dX4_quarrels_44 rfl rfl ?_
        refine ok_iload_n 3 (pc := 45) dX4_quarrels_45 rfl rfl ?_
        refine ok_callVi (As := [vI x2, vI x3]) (rest := [vI x1]) (rm := rm_X0_isBarred) (pc := 46) dX4_quarrels_46 me_X0_isBarred ml_X4_59 (ci := 0) rfl sh_16 (Nat.le_of_ble_eq_true rfl) rfl des_X0_isBarred rfl ⟨rfl, rfl, rfl, rfl⟩ rfl rfl (c_X0_isBarred X x2 x3 hx2 hx3 h) (fun r9 σ10 h8 h => ?_)
        refine ok_if_eq (tgt := 56) (pc := 49) dX4_quarrels_49 rfl h8 (fun q11 => ?_) (fun q11 => ?_)
        · simp only [if_pos q11] at h
          refine ok_iconst (pc := 56) dX4_quarrels_56 ?_
          refine ok_sub (L' := [(0, .ref (xad X 103)), (2, vI x2), (3, vI x3)]) [0,2,3] rfl ?_
          exact w_X4_quarrels_57 X x2 x3 0 x1 hx2 hx3 (r_lit rfl) hx1 hK4 (fun x1_ x3_ σ_ hx1_ hx3_ h_ => ih x1_ x3_ σ_ hx1_ hx3_ h_) h
        · simp only [if_neg q11] at h
          refine ok_iconst (pc := 52) dX4_quarrels_52 ?_
          refine ok_goto (tgt := 57) (pc := 53) dX4_quarrels_53 rfl ?_
          refine ok_sub (L' := [(0, .ref (xad X 103)), (2, vI x2), (3, vI x3)]) [0,2,3] rfl ?_
          exact w_X4_quarrels_57 X x2 x3 1 x1 hx2 hx3 (r_lit rfl) hx1 hK4 (fun x1_ x3_ σ_ hx1_ hx3_ h_ => ih x1_ x3_ σ_ hx1_ hx3_ h_) h
set_option maxRecDepth 100000 in
set_option maxHeartbeats 4000000 in
theorem w_X4_quarrels_4 (X : XE) {Q : Int → Mem → Prop} : ∀ (n : Nat) (x1 : Int) (x2 : Int) (σ : Mem), inR x1 → inR x2 → l_X4_quarrels_4 Q n x1 x2 σ → ok X rm_X4_quarrels RX4 cX4_quarrels 4 (some .int) 1 Q 4 [(0, .ref (xad X 103)), (1, vI x1), (2, vI x2)] [] σ := by
  intro n
  induction n with
  | zero => intro x1 x2 σ hx1 hx2 h; exact False.elim h
  | succ n ih =>
    intro x1 x2 σ hx1 hx2 h
    refine ok_iload_n 2 (pc := 4) dX4_quarrels_4 rfl rfl ?_
    refine ok_aload_n 0 (pc := 5) dX4_quarrels_5 rfl rfl ?_
    refine ok_getR (pc := 6) dX4_quarrels_6 fl_X4_15 sh_103 (Nat.le_of_ble_eq_true rfl) rfl rfl ?_
    refine ok_wf (fun hw1 => ?_)
    refine ok_getI (pc := 9) dX4_quarrels_9 fl_X4_19 sh_16 (Nat.le_of_ble_eq_true rfl) rfl rfl ?_
    refine ok_icmp_ge (tgt := 74) (pc := 12) dX4_quarrels_12 rfl hx2 (hw1 _ _) (fun q2 => ?_) (fun q2 => ?_)
    · have h := iteF h q2
      refine ok_iload_n 1 (pc := 74) dX4_quarrels_74 rfl rfl ?_
      exact ok_iret (pc := 75) dX4_quarrels_75 rfl rfl rfl hx1 h
    · have h := iteT h q2
      refine ok_iload_n 2 (pc := 15) dX4_quarrels_15 rfl rfl ?_
      refine ok_iconst (pc := 16) dX4_quarrels_16 ?_
      refine ok_iadd (pc := 17) dX4_quarrels_17 ?_
      refine ok_istore_n (L' := [(3, vI (x2 + 1)), (0, .ref (xad X 103)), (1, vI x1), (2, vI x2)]) (pc := 18) dX4_quarrels_18 rfl rfl rfl ?_
      obtain ⟨h3, h⟩ := h
      refine ok_sub (L' := [(0, .ref (xad X 103)), (1, vI x1), (2, vI x2), (3, vI (x2 + 1))]) [1,2,3,0] rfl ?_
      obtain ⟨n4, h⟩ := h
      exact w_X4_quarrels_19 X x2 hx2 (fun x1_ x2_ σ_ hx1_ hx2_ h_ => ih x1_ x2_ σ_ hx1_ hx2_ h_) n4 x1 (x2 + 1) σ hx1 h3 h
set_option maxRecDepth 100000 in
set_option maxHeartbeats 4000000 in
theorem c_X4_quarrels (X : XE) {σ : Mem} {Q : Int → Mem → Prop} (h : v_X4_quarrels σ Q) : CT X yX4_quarrels cX4_quarrels 4 (some .int) rm_X4_quarrels 1 [.ref (xad X 103)] σ Q := by
  refine ct_of (own := RX4) (L := [(0, .ref (xad X 103))]) rfl rfl (Nat.le_of_ble_eq_true rfl) rfl ?_
  refine ok_iconst (pc := 0) dX4_quarrels_0 ?_
  refine ok_istore_n (L' := [(1, vI 0), (0, .ref (xad X 103))]) (pc := 1) dX4_quarrels_1 rfl rfl rfl ?_
  refine ok_iconst (pc := 2) dX4_quarrels_2 ?_
  refine ok_istore_n (L' := [(2, vI 0), (1, vI 0), (0, .ref (xad X 103))]) (pc := 3) dX4_quarrels_3 rfl rfl rfl ?_
  refine ok_sub (L' := [(0, .ref (xad X 103)), (1, vI 0), (2, vI 0)]) [2,1,0] rfl ?_
  obtain ⟨n1, h⟩ := h
  exact w_X4_quarrels_4 X n1 0 0 σ (r_lit rfl) (r_lit rfl) h
theorem dX11_men_0 : decode cX11_men 0 = .ok (.iload_n 1, 1) := by decide +kernel
theorem dX11_men_1 : decode cX11_men 1 = .ok (.bipush 10, 2) := by decide +kernel
theorem dX11_men_3 : decode cX11_men 3 = .ok (.if_icmp .lt 21, 3) := by decide +kernel
theorem dX11_men_6 : decode cX11_men 6 = .ok (.aload_n 0, 1) := by decide +kernel
theorem dX11_men_7 : decode cX11_men 7 = .ok (.getfield 46, 3) := by decide +kernel
theorem dX11_men_10 : decode cX11_men 10 = .ok (.iload_n 1, 1) := by decide +kernel
theorem dX11_men_11 : decode cX11_men 11 = .ok (.bipush 10, 2) := by decide +kernel
theorem dX11_men_13 : decode cX11_men 13 = .ok (.isub, 1) := by decide +kernel
theorem dX11_men_14 : decode cX11_men 14 = .ok (.invokevirtual 154, 3) := by decide +kernel
theorem dX11_men_17 : decode cX11_men 17 = .ok (.ifCond .eq 7, 3) := by decide +kernel
theorem dX11_men_20 : decode cX11_men 20 = .ok (.iconst 1, 1) := by decide +kernel
theorem dX11_men_21 : decode cX11_men 21 = .ok (.goto 4, 3) := by decide +kernel
theorem dX11_men_24 : decode cX11_men 24 = .ok (.iconst 0, 1) := by decide +kernel
theorem dX11_men_25 : decode cX11_men 25 = .ok (.istore_n 2, 1) := by decide +kernel
theorem dX11_men_26 : decode cX11_men 26 = .ok (.iload_n 2, 1) := by decide +kernel
theorem dX11_men_27 : decode cX11_men 27 = .ok (.ifCond .ne 14, 3) := by decide +kernel
theorem dX11_men_30 : decode cX11_men 30 = .ok (.iload_n 1, 1) := by decide +kernel
theorem dX11_men_31 : decode cX11_men 31 = .ok (.ifCond .lt 8, 3) := by decide +kernel
theorem dX11_men_34 : decode cX11_men 34 = .ok (.iload_n 1, 1) := by decide +kernel
theorem dX11_men_35 : decode cX11_men 35 = .ok (.iconst 2, 1) := by decide +kernel
theorem dX11_men_36 : decode cX11_men 36 = .ok (.if_icmp .le 5, 3) := by decide +kernel
theorem dX11_men_39 : decode cX11_men 39 = .ok (.iconst (-1), 1) := by decide +kernel
theorem dX11_men_40 : decode cX11_men 40 = .ok (.ireturn, 1) := by decide +kernel
theorem dX11_men_41 : decode cX11_men 41 = .ok (.aload_n 0, 1) := by decide +kernel
theorem dX11_men_42 : decode cX11_men 42 = .ok (.getfield 69, 3) := by decide +kernel
theorem dX11_men_45 : decode cX11_men 45 = .ok (.invokevirtual 303, 3) := by decide +kernel
theorem dX11_men_48 : decode cX11_men 48 = .ok (.iload_n 2, 1) := by decide +kernel
theorem dX11_men_49 : decode cX11_men 49 = .ok (.ifCond .eq 16, 3) := by decide +kernel
theorem dX11_men_52 : decode cX11_men 52 = .ok (.aload_n 0, 1) := by decide +kernel
theorem dX11_men_53 : decode cX11_men 53 = .ok (.getfield 69, 3) := by decide +kernel
theorem dX11_men_56 : decode cX11_men 56 = .ok (.getfield 306, 3) := by decide +kernel
theorem dX11_men_59 : decode cX11_men 59 = .ok (.iload_n 1, 1) := by decide +kernel
theorem dX11_men_60 : decode cX11_men 60 = .ok (.bipush 10, 2) := by decide +kernel
theorem dX11_men_62 : decode cX11_men 62 = .ok (.isub, 1) := by decide +kernel
theorem dX11_men_63 : decode cX11_men 63 = .ok (.iaload, 1) := by decide +kernel
theorem dX11_men_64 : decode cX11_men 64 = .ok (.ireturn, 1) := by decide +kernel
theorem dX11_men_65 : decode cX11_men 65 = .ok (.iload_n 1, 1) := by decide +kernel
theorem dX11_men_66 : decode cX11_men 66 = .ok (.lookupswitch 42 #[(0, 26), (1, 34)], 26) := by decide +kernel
theorem dX11_men_92 : decode cX11_men 92 = .ok (.aload_n 0, 1) := by decide +kernel
theorem dX11_men_93 : decode cX11_men 93 = .ok (.getfield 69, 3) := by decide +kernel
theorem dX11_men_96 : decode cX11_men 96 = .ok (.invokevirtual 309, 3) := by decide +kernel
theorem dX11_men_99 : decode cX11_men 99 = .ok (.ireturn, 1) := by decide +kernel
theorem dX11_men_100 : decode cX11_men 100 = .ok (.aload_n 0, 1) := by decide +kernel
theorem dX11_men_101 : decode cX11_men 101 = .ok (.getfield 69, 3) := by decide +kernel
theorem dX11_men_104 : decode cX11_men 104 = .ok (.invokevirtual 312, 3) := by decide +kernel
theorem dX11_men_107 : decode cX11_men 107 = .ok (.ireturn, 1) := by decide +kernel
theorem dX11_men_108 : decode cX11_men 108 = .ok (.aload_n 0, 1) := by decide +kernel
theorem dX11_men_109 : decode cX11_men 109 = .ok (.getfield 69, 3) := by decide +kernel
theorem dX11_men_112 : decode cX11_men 112 = .ok (.invokevirtual 315, 3) := by decide +kernel
theorem dX11_men_115 : decode cX11_men 115 = .ok (.ireturn, 1) := by decide +kernel
set_option maxRecDepth 100000 in
set_option maxHeartbeats 4000000 in
theorem w_X11_men_41 (X : XE) (p1 : Int) (hp1 : inR p1) (x2 : Int) (hx2 : inR x2) {Q : Int → Mem → Prop} {σ : Mem} (h : j_X11_men_41 p1 Q x2 σ) : ok X rm_X11_men RX11 cX11_men 3 (some .int) 1 Q 41 [(0, .ref (xad X 0)), (1, vI p1), (2, vI x2)] [] σ := by
  refine ok_aload_n 0 (pc := 41) dX11_men_41 rfl rfl ?_
  refine ok_getR (pc := 42) dX11_men_42 fl_X11_69 sh_0 (Nat.le_of_ble_eq_true rfl) rfl rfl ?_
  refine ok_callVv (As := []) (rest := []) (rm := rm_X4_gather) (pc := 45) dX11_men_45 me_X4_gather ml_X11_303 (ci := 4) rfl sh_103 (Nat.le_of_ble_eq_true rfl) rfl des_X4_gather rfl ⟨rfl, rfl, rfl, rfl⟩ rfl rfl (c_X4_gather X h) (fun σ3 h => ?_)
  refine ok_iload_n 2 (pc := 48) dX11_men_48 rfl rfl ?_
  refine ok_if_eq (tgt := 65) (pc := 49) dX11_men_49 rfl hx2 (fun q4 => ?_) (fun q4 => ?_)
  · have h := iteT h q4
    refine ok_iload_n 1 (pc := 65) dX11_men_65 rfl rfl ?_
    by_cases q5 : p1 = 0
    · have h := iteT h q5
      refine ok_lswitch (tgt := 92) (pc := 66) dX11_men_66 rfl hp1 (by first | (rw [q5]; done) | (rw [q5]; rfl)) rfl ?_
      refine ok_aload_n 0 (pc := 92) dX11_men_92 rfl rfl ?_
      refine ok_getR (pc := 93) dX11_men_93 fl_X11_69 sh_0 (Nat.le_of_ble_eq_true rfl) rfl rfl ?_
      refine ok_callVi (As := []) (rest := []) (rm := rm_X4_number) (pc := 96) dX11_men_96 me_X4_number ml_X11_309 (ci := 4) rfl sh_103 (Nat.le_of_ble_eq_true rfl) rfl des_X4_number rfl ⟨rfl, rfl, rfl, rfl⟩ rfl rfl (c_X4_number X h) (fun r7 σ8 h6 h => ?_)
      exact ok_iret (pc := 99) dX11_men_99 rfl rfl rfl h6 h
    · have h := iteF h q5
      by_cases q9 : p1 = 1
      · have h := iteT h q9
        refine ok_lswitch (tgt := 100) (pc := 66) dX11_men_66 rfl hp1 (by first | (rw [q9]; done) | (rw [q9]; rfl)) rfl ?_
        refine ok_aload_n 0 (pc := 100) dX11_men_100 rfl rfl ?_
        refine ok_getR (pc := 101) dX11_men_101 fl_X11_69 sh_0 (Nat.le_of_ble_eq_true rfl) rfl rfl ?_
        refine ok_callVi (As := []) (rest := []) (rm := rm_X4_greatest) (pc := 104) dX11_men_104 me_X4_greatest ml_X11_312 (ci := 4) rfl sh_103 (Nat.le_of_ble_eq_true rfl) rfl des_X4_greatest rfl ⟨rfl, rfl, rfl, rfl⟩ rfl rfl (c_X4_greatest X h) (fun r11 σ12 h10 h => ?_)
        exact ok_iret (pc := 107) dX11_men_107 rfl rfl rfl h10 h
      · have h := iteF h q9
        refine ok_lswitch (tgt := 108) (pc := 66) dX11_men_66 rfl hp1 (ls_out2 q5 q9) rfl ?_
        refine ok_aload_n 0 (pc := 108) dX11_men_108 rfl rfl ?_
        refine ok_getR (pc := 109) dX11_men_109 fl_X11_69 sh_0 (Nat.le_of_ble_eq_true rfl) rfl rfl ?_
        refine ok_callVi (As := []) (rest := []) (rm := rm_X4_quarrels) (pc := 112) dX11_men_112 me_X4_quarrels ml_X11_315 (ci := 4) rfl sh_103 (Nat.le_of_ble_eq_true rfl) rfl des_X4_quarrels rfl ⟨rfl, rfl, rfl, rfl⟩ rfl rfl (c_X4_quarrels X h) (fun r14 σ15 h13 h => ?_)
        exact ok_iret (pc := 115) dX11_men_115 rfl rfl rfl h13 h
  · have h := iteF h q4
    refine ok_aload_n 0 (pc := 52) dX11_men_52 rfl rfl ?_
    refine ok_getR (pc := 53) dX11_men_53 fl_X11_69 sh_0 (Nat.le_of_ble_eq_true rfl) rfl rfl ?_
    refine ok_getR (pc := 56) dX11_men_56 fl_X11_306 sh_103 (Nat.le_of_ble_eq_true rfl) rfl rfl ?_
    refine ok_iload_n 1 (pc := 59) dX11_men_59 rfl rfl ?_
    refine ok_bipush (pc := 60) dX11_men_60 rfl ?_
    refine ok_isub (pc := 62) dX11_men_62 ?_
    obtain ⟨h16, h⟩ := h
    obtain ⟨h17, h⟩ := h
    refine ok_wf (fun hw18 => ?_)
    refine ok_iald (pc := 63) dX11_men_63 sh_104 (Nat.le_of_ble_eq_true rfl) rfl h16 h17 ?_
    exact ok_iret (pc := 64) dX11_men_64 rfl rfl rfl (hw18 _ _) h
set_option maxRecDepth 100000 in
set_option maxHeartbeats 4000000 in
theorem w_X11_men_25 (X : XE) (p1 : Int) (hp1 : inR p1) (s0 : Int) (hs0 : inR s0) {Q : Int → Mem → Prop} {σ : Mem} (h : j_X11_men_25 p1 Q s0 σ) : ok X rm_X11_men RX11 cX11_men 3 (some .int) 1 Q 25 [(0, .ref (xad X 0)), (1, vI p1)] [vI s0] σ := by
  refine ok_istore_n (L' := [(2, vI s0), (0, .ref (xad X 0)), (1, vI p1)]) (pc := 25) dX11_men_25 rfl rfl rfl ?_
  refine ok_iload_n 0 (pc := 26) dX11_men_26 rfl rfl ?_
  refine ok_if_ne (tgt := 41) (pc := 27) dX11_men_27 rfl hs0 (fun q1 => ?_) (fun q1 => ?_)
  · have h := iteF h q1
    refine ok_sub (L' := [(0, .ref (xad X 0)), (1, vI p1), (2, vI s0)]) [1,2,0] rfl ?_
    exact w_X11_men_41 X p1 hp1 s0 hs0 h
  · have h := iteT h q1
    refine ok_iload_n 2 (pc := 30) dX11_men_30 rfl rfl ?_
    refine ok_if_lt (tgt := 39) (pc := 31) dX11_men_31 rfl hp1 (fun q2 => ?_) (fun q2 => ?_)
    · have h := iteT h q2
      refine ok_iconst (pc := 39) dX11_men_39 ?_
      exact ok_iret (pc := 40) dX11_men_40 rfl rfl rfl (r_lit rfl) h
    · have h := iteF h q2
      refine ok_iload_n 2 (pc := 34) dX11_men_34 rfl rfl ?_
      refine ok_iconst (pc := 35) dX11_men_35 ?_
      refine ok_icmp_le (tgt := 41) (pc := 36) dX11_men_36 rfl hp1 (r_lit rfl) (fun q3 => ?_) (fun q3 => ?_)
      · have h := iteF h q3
        refine ok_sub (L' := [(0, .ref (xad X 0)), (1, vI p1), (2, vI s0)]) [1,2,0] rfl ?_
        exact w_X11_men_41 X p1 hp1 s0 hs0 h
      · have h := iteT h q3
        refine ok_iconst (pc := 39) dX11_men_39 ?_
        exact ok_iret (pc := 40) dX11_men_40 rfl rfl rfl (r_lit rfl) h
set_option maxRecDepth 100000 in
set_option maxHeartbeats 4000000 in
theorem c_X11_men (X : XE) (p1 : Int) (hp1 : inR p1) {σ : Mem} {Q : Int → Mem → Prop} (h : v_X11_men p1 σ Q) : CT X yX11_men cX11_men 3 (some .int) rm_X11_men 1 [.ref (xad X 0), vI p1] σ Q := by
  refine ct_of (own := RX11) (L := [(0, .ref (xad X 0)), (1, vI p1)]) rfl rfl (Nat.le_of_ble_eq_true rfl) rfl ?_
  refine ok_iload_n 1 (pc := 0) dX11_men_0 rfl rfl ?_
  refine ok_bipush (pc := 1) dX11_men_1 rfl ?_
  refine ok_icmp_lt (tgt := 24) (pc := 3) dX11_men_3 rfl hp1 (r_lit rfl) (fun q1 => ?_) (fun q1 => ?_)
  · have h := iteT h q1
    refine ok_iconst (pc := 24) dX11_men_24 ?_
    exact w_X11_men_25 X p1 hp1 0 (r_lit rfl) h
  · have h := iteF h q1
    refine ok_aload_n 0 (pc := 6) dX11_men_6 rfl rfl ?_
    refine ok_getR (pc := 7) dX11_men_7 fl_X11_46 sh_0 (Nat.le_of_ble_eq_true rfl) rfl rfl ?_
    refine ok_iload_n 1 (pc := 10) dX11_men_10 rfl rfl ?_
    refine ok_bipush (pc := 11) dX11_men_11 rfl ?_
    refine ok_isub (pc := 13) dX11_men_13 ?_
    obtain ⟨h2, h⟩ := h
    refine ok_callVi (As := [vI (p1 - 10)]) (rest := []) (rm := rm_X0_has) (pc := 14) dX11_men_14 me_X0_has ml_X11_154 (ci := 0) rfl sh_16 (Nat.le_of_ble_eq_true rfl) rfl des_X0_has rfl ⟨rfl, rfl, rfl, rfl⟩ rfl rfl (c_X0_has X (p1 - 10) h2 h) (fun r4 σ5 h3 h => ?_)
    refine ok_if_eq (tgt := 24) (pc := 17) dX11_men_17 rfl h3 (fun q6 => ?_) (fun q6 => ?_)
    · simp only [if_pos q6] at h
      refine ok_iconst (pc := 24) dX11_men_24 ?_
      exact w_X11_men_25 X p1 hp1 0 (r_lit rfl) h
    · simp only [if_neg q6] at h
      refine ok_iconst (pc := 20) dX11_men_20 ?_
      refine ok_goto (tgt := 25) (pc := 21) dX11_men_21 rfl ?_
      exact w_X11_men_25 X p1 hp1 1 (r_lit rfl) h
theorem dX4_findDoubles_0 : decode cX4_findDoubles 0 = .ok (.aload_n 0, 1) := by decide +kernel
theorem dX4_findDoubles_1 : decode cX4_findDoubles 1 = .ok (.iconst 0, 1) := by decide +kernel
theorem dX4_findDoubles_2 : decode cX4_findDoubles 2 = .ok (.putfield 62, 3) := by decide +kernel
theorem dX4_findDoubles_5 : decode cX4_findDoubles 5 = .ok (.aload_n 0, 1) := by decide +kernel
theorem dX4_findDoubles_6 : decode cX4_findDoubles 6 = .ok (.iconst 0, 1) := by decide +kernel
theorem dX4_findDoubles_7 : decode cX4_findDoubles 7 = .ok (.putfield 65, 3) := by decide +kernel
theorem dX4_findDoubles_10 : decode cX4_findDoubles 10 = .ok (.iconst 0, 1) := by decide +kernel
theorem dX4_findDoubles_11 : decode cX4_findDoubles 11 = .ok (.istore_n 3, 1) := by decide +kernel
theorem dX4_findDoubles_12 : decode cX4_findDoubles 12 = .ok (.iload_n 3, 1) := by decide +kernel
theorem dX4_findDoubles_13 : decode cX4_findDoubles 13 = .ok (.aload_n 0, 1) := by decide +kernel
theorem dX4_findDoubles_14 : decode cX4_findDoubles 14 = .ok (.getfield 15, 3) := by decide +kernel
theorem dX4_findDoubles_17 : decode cX4_findDoubles 17 = .ok (.getfield 19, 3) := by decide +kernel
theorem dX4_findDoubles_20 : decode cX4_findDoubles 20 = .ok (.if_icmp .ge 177, 3) := by decide +kernel
theorem dX4_findDoubles_23 : decode cX4_findDoubles 23 = .ok (.iload_n 3, 1) := by decide +kernel
theorem dX4_findDoubles_24 : decode cX4_findDoubles 24 = .ok (.iconst 1, 1) := by decide +kernel
theorem dX4_findDoubles_25 : decode cX4_findDoubles 25 = .ok (.iadd, 1) := by decide +kernel
theorem dX4_findDoubles_26 : decode cX4_findDoubles 26 = .ok (.istore 4, 2) := by decide +kernel
theorem dX4_findDoubles_28 : decode cX4_findDoubles 28 = .ok (.iload 4, 2) := by decide +kernel
theorem dX4_findDoubles_30 : decode cX4_findDoubles 30 = .ok (.aload_n 0, 1) := by decide +kernel
theorem dX4_findDoubles_31 : decode cX4_findDoubles 31 = .ok (.getfield 15, 3) := by decide +kernel
theorem dX4_findDoubles_34 : decode cX4_findDoubles 34 = .ok (.getfield 19, 3) := by decide +kernel
theorem dX4_findDoubles_37 : decode cX4_findDoubles 37 = .ok (.if_icmp .ge 154, 3) := by decide +kernel
theorem dX4_findDoubles_40 : decode cX4_findDoubles 40 = .ok (.aload_n 0, 1) := by decide +kernel
theorem dX4_findDoubles_41 : decode cX4_findDoubles 41 = .ok (.getfield 15, 3) := by decide +kernel
theorem dX4_findDoubles_44 : decode cX4_findDoubles 44 = .ok (.getfield 25, 3) := by decide +kernel
theorem dX4_findDoubles_47 : decode cX4_findDoubles 47 = .ok (.iload_n 3, 1) := by decide +kernel
theorem dX4_findDoubles_48 : decode cX4_findDoubles 48 = .ok (.aaload, 1) := by decide +kernel
theorem dX4_findDoubles_49 : decode cX4_findDoubles 49 = .ok (.astore 5, 2) := by decide +kernel
theorem dX4_findDoubles_51 : decode cX4_findDoubles 51 = .ok (.aload_n 0, 1) := by decide +kernel
theorem dX4_findDoubles_52 : decode cX4_findDoubles 52 = .ok (.getfield 15, 3) := by decide +kernel
theorem dX4_findDoubles_55 : decode cX4_findDoubles 55 = .ok (.getfield 25, 3) := by decide +kernel
theorem dX4_findDoubles_58 : decode cX4_findDoubles 58 = .ok (.iload 4, 2) := by decide +kernel
theorem dX4_findDoubles_60 : decode cX4_findDoubles 60 = .ok (.aaload, 1) := by decide +kernel
theorem dX4_findDoubles_61 : decode cX4_findDoubles 61 = .ok (.astore 6, 2) := by decide +kernel
theorem dX4_findDoubles_63 : decode cX4_findDoubles 63 = .ok (.aload 5, 2) := by decide +kernel
theorem dX4_findDoubles_65 : decode cX4_findDoubles 65 = .ok (.getfield 68, 3) := by decide +kernel
theorem dX4_findDoubles_68 : decode cX4_findDoubles 68 = .ok (.iload_n 1, 1) := by decide +kernel
theorem dX4_findDoubles_69 : decode cX4_findDoubles 69 = .ok (.if_icmp .eq 12, 3) := by decide +kernel
theorem dX4_findDoubles_72 : decode cX4_findDoubles 72 = .ok (.aload 6, 2) := by decide +kernel
theorem dX4_findDoubles_74 : decode cX4_findDoubles 74 = .ok (.getfield 68, 3) := by decide +kernel
theorem dX4_findDoubles_77 : decode cX4_findDoubles 77 = .ok (.iload_n 1, 1) := by decide +kernel
theorem dX4_findDoubles_78 : decode cX4_findDoubles 78 = .ok (.if_icmp .ne 7, 3) := by decide +kernel
theorem dX4_findDoubles_81 : decode cX4_findDoubles 81 = .ok (.iconst 1, 1) := by decide +kernel
theorem dX4_findDoubles_82 : decode cX4_findDoubles 82 = .ok (.goto 4, 3) := by decide +kernel
theorem dX4_findDoubles_85 : decode cX4_findDoubles 85 = .ok (.iconst 0, 1) := by decide +kernel
theorem dX4_findDoubles_86 : decode cX4_findDoubles 86 = .ok (.istore 7, 2) := by decide +kernel
theorem dX4_findDoubles_88 : decode cX4_findDoubles 88 = .ok (.aload 5, 2) := by decide +kernel
theorem dX4_findDoubles_90 : decode cX4_findDoubles 90 = .ok (.getfield 71, 3) := by decide +kernel
theorem dX4_findDoubles_93 : decode cX4_findDoubles 93 = .ok (.iload_n 2, 1) := by decide +kernel
theorem dX4_findDoubles_94 : decode cX4_findDoubles 94 = .ok (.iaload, 1) := by decide +kernel
theorem dX4_findDoubles_95 : decode cX4_findDoubles 95 = .ok (.ifCond .le 17, 3) := by decide +kernel
theorem dX4_findDoubles_98 : decode cX4_findDoubles 98 = .ok (.aload 6, 2) := by decide +kernel
theorem dX4_findDoubles_100 : decode cX4_findDoubles 100 = .ok (.getfield 71, 3) := by decide +kernel
theorem dX4_findDoubles_103 : decode cX4_findDoubles 103 = .ok (.iload_n 2, 1) := by decide +kernel
theorem dX4_findDoubles_104 : decode cX4_findDoubles 104 = .ok (.iaload, 1) := by decide +kernel
theorem dX4_findDoubles_105 : decode cX4_findDoubles 105 = .ok (.ifCond .le 7, 3) := by decide +kernel
theorem dX4_findDoubles_108 : decode cX4_findDoubles 108 = .ok (.iconst 1, 1) := by decide +kernel
theorem dX4_findDoubles_109 : decode cX4_findDoubles 109 = .ok (.goto 4, 3) := by decide +kernel
theorem dX4_findDoubles_112 : decode cX4_findDoubles 112 = .ok (.iconst 0, 1) := by decide +kernel
theorem dX4_findDoubles_113 : decode cX4_findDoubles 113 = .ok (.istore 8, 2) := by decide +kernel
theorem dX4_findDoubles_115 : decode cX4_findDoubles 115 = .ok (.iload 7, 2) := by decide +kernel
theorem dX4_findDoubles_117 : decode cX4_findDoubles 117 = .ok (.ifCond .eq 68, 3) := by decide +kernel
theorem dX4_findDoubles_120 : decode cX4_findDoubles 120 = .ok (.aload 5, 2) := by decide +kernel
theorem dX4_findDoubles_122 : decode cX4_findDoubles 122 = .ok (.getfield 68, 3) := by decide +kernel
theorem dX4_findDoubles_125 : decode cX4_findDoubles 125 = .ok (.aload 6, 2) := by decide +kernel
theorem dX4_findDoubles_127 : decode cX4_findDoubles 127 = .ok (.getfield 68, 3) := by decide +kernel
theorem dX4_findDoubles_130 : decode cX4_findDoubles 130 = .ok (.if_icmp .eq 55, 3) := by decide +kernel
theorem dX4_findDoubles_133 : decode cX4_findDoubles 133 = .ok (.iload 8, 2) := by decide +kernel
theorem dX4_findDoubles_135 : decode cX4_findDoubles 135 = .ok (.ifCond .eq 50, 3) := by decide +kernel
theorem dX4_findDoubles_138 : decode cX4_findDoubles 138 = .ok (.aload_n 0, 1) := by decide +kernel
theorem dX4_findDoubles_139 : decode cX4_findDoubles 139 = .ok (.iload_n 3, 1) := by decide +kernel
theorem dX4_findDoubles_140 : decode cX4_findDoubles 140 = .ok (.iload 4, 2) := by decide +kernel
theorem dX4_findDoubles_142 : decode cX4_findDoubles 142 = .ok (.invokevirtual 56, 3) := by decide +kernel
theorem dX4_findDoubles_145 : decode cX4_findDoubles 145 = .ok (.ifCond .eq 40, 3) := by decide +kernel
theorem dX4_findDoubles_148 : decode cX4_findDoubles 148 = .ok (.aload_n 0, 1) := by decide +kernel
theorem dX4_findDoubles_149 : decode cX4_findDoubles 149 = .ok (.dup, 1) := by decide +kernel
theorem dX4_findDoubles_150 : decode cX4_findDoubles 150 = .ok (.getfield 62, 3) := by decide +kernel
theorem dX4_findDoubles_153 : decode cX4_findDoubles 153 = .ok (.iconst 1, 1) := by decide +kernel
theorem dX4_findDoubles_154 : decode cX4_findDoubles 154 = .ok (.iadd, 1) := by decide +kernel
theorem dX4_findDoubles_155 : decode cX4_findDoubles 155 = .ok (.putfield 62, 3) := by decide +kernel
theorem dX4_findDoubles_158 : decode cX4_findDoubles 158 = .ok (.aload_n 0, 1) := by decide +kernel
theorem dX4_findDoubles_159 : decode cX4_findDoubles 159 = .ok (.dup, 1) := by decide +kernel
theorem dX4_findDoubles_160 : decode cX4_findDoubles 160 = .ok (.getfield 65, 3) := by decide +kernel
theorem dX4_findDoubles_163 : decode cX4_findDoubles 163 = .ok (.aload 5, 2) := by decide +kernel
theorem dX4_findDoubles_165 : decode cX4_findDoubles 165 = .ok (.getfield 71, 3) := by decide +kernel
theorem dX4_findDoubles_168 : decode cX4_findDoubles 168 = .ok (.iload_n 2, 1) := by decide +kernel
theorem dX4_findDoubles_169 : decode cX4_findDoubles 169 = .ok (.iaload, 1) := by decide +kernel
theorem dX4_findDoubles_170 : decode cX4_findDoubles 170 = .ok (.aload 6, 2) := by decide +kernel
theorem dX4_findDoubles_172 : decode cX4_findDoubles 172 = .ok (.getfield 71, 3) := by decide +kernel
theorem dX4_findDoubles_175 : decode cX4_findDoubles 175 = .ok (.iload_n 2, 1) := by decide +kernel
theorem dX4_findDoubles_176 : decode cX4_findDoubles 176 = .ok (.iaload, 1) := by decide +kernel
theorem dX4_findDoubles_177 : decode cX4_findDoubles 177 = .ok (.isub, 1) := by decide +kernel
theorem dX4_findDoubles_178 : decode cX4_findDoubles 178 = .ok (.invokestatic 74, 3) := by decide +kernel
theorem dX4_findDoubles_181 : decode cX4_findDoubles 181 = .ok (.iadd, 1) := by decide +kernel
theorem dX4_findDoubles_182 : decode cX4_findDoubles 182 = .ok (.putfield 65, 3) := by decide +kernel
theorem dX4_findDoubles_185 : decode cX4_findDoubles 185 = .ok (.iinc 4 1, 3) := by decide +kernel
theorem dX4_findDoubles_188 : decode cX4_findDoubles 188 = .ok (.goto (-160), 3) := by decide +kernel
theorem dX4_findDoubles_191 : decode cX4_findDoubles 191 = .ok (.iinc 3 1, 3) := by decide +kernel
theorem dX4_findDoubles_194 : decode cX4_findDoubles 194 = .ok (.goto (-182), 3) := by decide +kernel
theorem dX4_findDoubles_197 : decode cX4_findDoubles 197 = .ok (.return_, 1) := by decide +kernel
set_option maxRecDepth 100000 in
set_option maxHeartbeats 4000000 in
theorem w_X4_findDoubles_113 (X : XE) (p1 : Int) (p2 : Int) (hp1 : inR p1) (hp2 : inR p2) (x3 : Int) (x4 : Int) (c5 : Nat) (c6 : Nat) (x7 : Int) (s0 : Int) (hx3 : inR x3) (hx4 : inR x4) (hc5 : c5 < 24) (hc6 : c6 < 24) (hx7 : inR x7) (hs0 : inR s0) {K12 : Int → Mem → Prop} {K28 : Int → Mem → Prop} {Q : Int → Mem → Prop} (hK12 : ∀ (x3 : Int) (σ : Mem), inR x3 → K12 x3 σ → ok X rm_X4_findDoubles RX4 cX4_findDoubles 9 none 0 Q 12 [(0, .ref (xad X 103)), (1, vI p1), (2, vI p2), (3, vI x3)] [] σ) (hK28 : ∀ (x4 : Int) (σ : Mem), inR x4 → K28 x4 σ → ok X rm_X4_findDoubles RX4 cX4_findDoubles 9 none 0 Q 28 [(0, .ref (xad X 103)), (1, vI p1), (2, vI p2), (3, vI x3), (4, vI x4)] [] σ) {σ : Mem} (h : j_X4_findDoubles_113 p1 p2 K12 K28 Q x3 x4 c5 c6 x7 s0 σ) : ok X rm_X4_findDoubles RX4 cX4_findDoubles 9 none 0 Q 113 [(0, .ref (xad X 103)), (1, vI p1), (2, vI p2), (3, vI x3), (4, vI x4), (5, .ref (xad X (23 + 3 * c5))), (6, .ref (xad X (23 + 3 * c6))), (7, vI x7)] [vI s0] σ := by
  refine ok_istore (L' := [(8, vI s0), (0, .ref (xad X 103)), (1, vI p1), (2, vI p2), (3, vI x3), (4, vI x4), (5, .ref (xad X (23 + 3 * c5))), (6, .ref (xad X (23 + 3 * c6))), (7, vI x7)]) (pc := 113) dX4_findDoubles_113 rfl rfl ?_
  refine ok_iload 8 (pc := 115) dX4_findDoubles_115 rfl ?_
  refine ok_if_eq (tgt := 185) (pc := 117) dX4_findDoubles_117 rfl hx7 (fun q1 => ?_) (fun q1 => ?_)
  · have h := iteT h q1
    refine ok_iinc (L' := [(4, vI (x4 + 1)), (8, vI s0), (0, .ref (xad X 103)), (1, vI p1), (2, vI p2), (3, vI x3), (5, .ref (xad X (23 + 3 * c5))), (6, .ref (xad X (23 + 3 * c6))), (7, vI x7)]) 5 (pc := 185) dX4_findDoubles_185 rfl rfl rfl ?_
    refine ok_goto (tgt := 28) (pc := 188) dX4_findDoubles_188 rfl ?_
    obtain ⟨h2, h⟩ := h
    refine ok_sub (L' := [(0, .ref (xad X 103)), (1, vI p1), (2, vI p2), (3, vI x3), (4, vI (x4 + 1))]) [2,3,4,5,0] rfl ?_
    exact hK28 (x4 + 1) σ h2 h
  · have h := iteF h q1
    refine ok_aload 6 (pc := 120) dX4_findDoubles_120 rfl ?_
    refine ok_wf (fun hw3 => ?_)
    refine ok_getI (pc := 122) dX4_findDoubles_122 fl_X4_68 (sh_card c5 hc5) (lt_card hc5).1 rfl rfl ?_
    refine ok_aload 7 (pc := 125) dX4_findDoubles_125 rfl ?_
    refine ok_getI (pc := 127) dX4_findDoubles_127 fl_X4_68 (sh_card c6 hc6) (lt_card hc6).1 rfl rfl ?_
    refine ok_icmp_eq (tgt := 185) (pc := 130) dX4_findDoubles_130 rfl (hw3 _ _) (hw3 _ _) (fun q4 => ?_) (fun q4 => ?_)
    · have h := iteT h q4
      refine ok_iinc (L' := [(4, vI (x4 + 1)), (8, vI s0), (0, .ref (xad X 103)), (1, vI p1), (2, vI p2), (3, vI x3), (5, .ref (xad X (23 + 3 * c5))), (6, .ref (xad X (23 + 3 * c6))), (7, vI x7)]) 5 (pc := 185) dX4_findDoubles_185 rfl rfl rfl ?_
      refine ok_goto (tgt := 28) (pc := 188) dX4_findDoubles_188 rfl ?_
      obtain ⟨h5, h⟩ := h
      refine ok_sub (L' := [(0, .ref (xad X 103)), (1, vI p1), (2, vI p2), (3, vI x3), (4, vI (x4 + 1))]) [2,3,4,5,0] rfl ?_
      exact hK28 (x4 + 1) σ h5 h
    · have h := iteF h q4
      refine ok_iload 0 (pc := 133) dX4_findDoubles_133 rfl ?_
      refine ok_if_eq (tgt := 185) (pc := 135) dX4_findDoubles_135 rfl hs0 (fun q6 => ?_) (fun q6 => ?_)
      · have h := iteT h q6
        refine ok_iinc (L' := [(4, vI (x4 + 1)), (8, vI s0), (0, .ref (xad X 103)), (1, vI p1), (2, vI p2), (3, vI x3), (5, .ref (xad X (23 + 3 * c5))), (6, .ref (xad X (23 + 3 * c6))), (7, vI x7)]) 5 (pc := 185) dX4_findDoubles_185 rfl rfl rfl ?_
        refine ok_goto (tgt := 28) (pc := 188) dX4_findDoubles_188 rfl ?_
        obtain ⟨h7, h⟩ := h
        refine ok_sub (L' := [(0, .ref (xad X 103)), (1, vI p1), (2, vI p2), (3, vI x3), (4, vI (x4 + 1))]) [2,3,4,5,0] rfl ?_
        exact hK28 (x4 + 1) σ h7 h
      · have h := iteF h q6
        refine ok_aload_n 1 (pc := 138) dX4_findDoubles_138 rfl rfl ?_
        refine ok_iload_n 4 (pc := 139) dX4_findDoubles_139 rfl rfl ?_
        refine ok_iload 5 (pc := 140) dX4_findDoubles_140 rfl ?_
        refine ok_callVi (As := [vI x3, vI x4]) (rest := []) (rm := rm_X4_isOne) (pc := 142) dX4_findDoubles_142 me_X4_isOne ml_X4_56 (ci := 4) rfl sh_103 (Nat.le_of_ble_eq_true rfl) rfl des_X4_isOne rfl ⟨rfl, rfl, rfl, rfl⟩ rfl rfl (c_X4_isOne X x3 x4 hx3 hx4 h) (fun r9 σ10 h8 h => ?_)
        refine ok_if_eq (tgt := 185) (pc := 145) dX4_findDoubles_145 rfl h8 (fun q11 => ?_) (fun q11 => ?_)
        · have h := iteT h q11
          refine ok_iinc (L' := [(4, vI (x4 + 1)), (8, vI s0), (0, .ref (xad X 103)), (1, vI p1), (2, vI p2), (3, vI x3), (5, .ref (xad X (23 + 3 * c5))), (6, .ref (xad X (23 + 3 * c6))), (7, vI x7)]) 5 (pc := 185) dX4_findDoubles_185 rfl rfl rfl ?_
          refine ok_goto (tgt := 28) (pc := 188) dX4_findDoubles_188 rfl ?_
          obtain ⟨h12, h⟩ := h
          refine ok_sub (L' := [(0, .ref (xad X 103)), (1, vI p1), (2, vI p2), (3, vI x3), (4, vI (x4 + 1))]) [2,3,4,5,0] rfl ?_
          exact hK28 (x4 + 1) σ10 h12 h
        · have h := iteF h q11
          refine ok_aload_n 1 (pc := 148) dX4_findDoubles_148 rfl rfl ?_
          refine ok_dup (pc := 149) dX4_findDoubles_149 rfl ?_
          refine ok_wf (fun hw13 => ?_)
          refine ok_getI (pc := 150) dX4_findDoubles_150 fl_X4_62 sh_103 (Nat.le_of_ble_eq_true rfl) rfl rfl ?_
          refine ok_iconst (pc := 153) dX4_findDoubles_153 ?_
          refine ok_iadd (pc := 154) dX4_findDoubles_154 ?_
          obtain ⟨h14, h⟩ := h
          refine ok_putI (pc := 155) dX4_findDoubles_155 fl_X4_62 fp_X4_2 sh_103 (Nat.le_of_ble_eq_true rfl) rfl rfl h14 rfl rfl ?_
          refine ok_aload_n 1 (pc := 158) dX4_findDoubles_158 rfl rfl ?_
          refine ok_dup (pc := 159) dX4_findDoubles_159 rfl ?_
          refine ok_wf (fun hw15 => ?_)
          refine ok_getI (pc := 160) dX4_findDoubles_160 fl_X4_65 sh_103 (Nat.le_of_ble_eq_true rfl) rfl rfl ?_
          have e16 : ((mset σ10 103 2 ((σ10 103 2) + 1)) 103 3) = (σ10 103 3) := (mset_nei (by omega))
          refine ok_top e16 ?_
          refine ok_aload 6 (pc := 163) dX4_findDoubles_163 rfl ?_
          refine ok_getR (pc := 165) dX4_findDoubles_165 fl_X4_71 (sh_card c5 hc5) (lt_card hc5).1 rfl rfl ?_
          refine ok_iload_n 3 (pc := 168) dX4_findDoubles_168 rfl rfl ?_
          obtain ⟨h18, h⟩ := h
          obtain ⟨h19, h⟩ := h
          refine ok_iald (pc := 169) dX4_findDoubles_169 (sh_cme c5 hc5) (lt_card hc5).2.2 rfl h18 h19 ?_
          have e20 : ((mset σ10 103 2 ((σ10 103 2) + 1)) (25 + 3 * c5) p2.toNat) = (σ10 (25 + 3 * c5) p2.toNat) := (mset_ne (by omega))
          refine ok_top e20 ?_
          refine ok_aload 7 (pc := 170) dX4_findDoubles_170 rfl ?_
          refine ok_getR (pc := 172) dX4_findDoubles_172 fl_X4_71 (sh_card c6 hc6) (lt_card hc6).1 rfl rfl ?_
          refine ok_iload_n 3 (pc := 175) dX4_findDoubles_175 rfl rfl ?_
          refine ok_iald (pc := 176) dX4_findDoubles_176 (sh_cme c6 hc6) (lt_card hc6).2.2 rfl h18 h19 ?_
          have e22 : ((mset σ10 103 2 ((σ10 103 2) + 1)) (25 + 3 * c6) p2.toNat) = (σ10 (25 + 3 * c6) p2.toNat) := (mset_ne (by omega))
          refine ok_top e22 ?_
          refine ok_isub (pc := 177) dX4_findDoubles_177 ?_
          obtain ⟨h24, h⟩ := h
          refine ok_abs (pc := 178) dX4_findDoubles_178 ml_X4_74 ⟨rfl, rfl⟩ h24 ?_
          refine ok_iadd (pc := 181) dX4_findDoubles_181 ?_
          obtain ⟨h25, h⟩ := h
          refine ok_putI (pc := 182) dX4_findDoubles_182 fl_X4_65 fp_X4_3 sh_103 (Nat.le_of_ble_eq_true rfl) rfl rfl h25 rfl rfl ?_
          refine ok_iinc (L' := [(4, vI (x4 + 1)), (8, vI s0), (0, .ref (xad X 103)), (1, vI p1), (2, vI p2), (3, vI x3), (5, .ref (xad X (23 + 3 * c5))), (6, .ref (xad X (23 + 3 * c6))), (7, vI x7)]) 5 (pc := 185) dX4_findDoubles_185 rfl rfl rfl ?_
          refine ok_goto (tgt := 28) (pc := 188) dX4_findDoubles_188 rfl ?_
          obtain ⟨h26, h⟩ := h
          refine ok_sub (L' := [(0, .ref (xad X 103)), (1, vI p1), (2, vI p2), (3, vI x3), (4, vI (x4 + 1))]) [2,3,4,5,0] rfl ?_
          exact hK28 (x4 + 1) (mset (mset σ10 103 2 ((σ10 103 2) + 1)) 103 3 ((σ10 103 3) + (iabs ((σ10 (25 + 3 * c5) p2.toNat) - (σ10 (25 + 3 * c6) p2.toNat))))) h26 h
set_option maxRecDepth 100000 in
set_option maxHeartbeats 4000000 in
theorem w_X4_findDoubles_86 (X : XE) (p1 : Int) (p2 : Int) (hp1 : inR p1) (hp2 : inR p2) (x3 : Int) (x4 : Int) (c5 : Nat) (c6 : Nat) (s0 : Int) (hx3 : inR x3) (hx4 : inR x4) (hc5 : c5 < 24) (hc6 : c6 < 24) (hs0 : inR s0) {K12 : Int → Mem → Prop} {K28 : Int → Mem → Prop} {Q : Int → Mem → Prop} (hK12 : ∀ (x3 : Int) (σ : Mem), inR x3 → K12 x3 σ → ok X rm_X4_findDoubles RX4 cX4_findDoubles 9 none 0 Q 12 [(0, .ref (xad X 103)), (1, vI p1), (2, vI p2), (3, vI x3)] [] σ) (hK28 : ∀ (x4 : Int) (σ : Mem), inR x4 → K28 x4 σ → ok X rm_X4_findDoubles RX4 cX4_findDoubles 9 none 0 Q 28 [(0, .ref (xad X 103)), (1, vI p1), (2, vI p2), (3, vI x3), (4, vI x4)] [] σ) {σ : Mem} (h : j_X4_findDoubles_86 p1 p2 K12 K28 Q x3 x4 c5 c6 s0 σ) : ok X rm_X4_findDoubles RX4 cX4_findDoubles 9 none 0 Q 86 [(0, .ref (xad X 103)), (1, vI p1), (2, vI p2), (3, vI x3), (4, vI x4), (5, .ref (xad X (23 + 3 * c5))), (6, .ref (xad X (23 + 3 * c6)))] [vI s0] σ := by
  refine ok_istore (L' := [(7, vI s0), (0, .ref (xad X 103)), (1, vI p1), (2, vI p2), (3, vI x3), (4, vI x4), (5, .ref (xad X (23 + 3 * c5))), (6, .ref (xad X (23 + 3 * c6)))]) (pc := 86) dX4_findDoubles_86 rfl rfl ?_
  refine ok_aload 6 (pc := 88) dX4_findDoubles_88 rfl ?_
  refine ok_getR (pc := 90) dX4_findDoubles_90 fl_X4_71 (sh_card c5 hc5) (lt_card hc5).1 rfl rfl ?_
  refine ok_iload_n 3 (pc := 93) dX4_findDoubles_93 rfl rfl ?_
  obtain ⟨h1, h⟩ := h
  obtain ⟨h2, h⟩ := h
  refine ok_wf (fun hw3 => ?_)
  refine ok_iald (pc := 94) dX4_findDoubles_94 (sh_cme c5 hc5) (lt_card hc5).2.2 rfl h1 h2 ?_
  refine ok_if_le (tgt := 112) (pc := 95) dX4_findDoubles_95 rfl (hw3 _ _) (fun q4 => ?_) (fun q4 => ?_)
  · simp only [if_neg q4] at h
    refine ok_iconst (pc := 112) dX4_findDoubles_112 ?_
    refine ok_sub (L' := [(0, .ref (xad X 103)), (1, vI p1), (2, vI p2), (3, vI x3), (4, vI x4), (5, .ref (xad X (23 + 3 * c5))), (6, .ref (xad X (23 + 3 * c6))), (7, vI s0)]) [1,2,3,4,5,6,7,0] rfl ?_
    exact w_X4_findDoubles_113 X p1 p2 hp1 hp2 x3 x4 c5 c6 s0 0 hx3 hx4 hc5 hc6 hs0 (r_lit rfl) hK12 hK28 h
  · simp only [if_pos q4] at h
    refine ok_aload 7 (pc := 98) dX4_findDoubles_98 rfl ?_
    refine ok_getR (pc := 100) dX4_findDoubles_100 fl_X4_71 (sh_card c6 hc6) (lt_card hc6).1 rfl rfl ?_
    refine ok_iload_n 3 (pc := 103) dX4_findDoubles_103 rfl rfl ?_
    refine ok_iald (pc := 104) dX4_findDoubles_104 (sh_cme c6 hc6) (lt_card hc6).2.2 rfl h1 h2 ?_
    refine ok_if_le (tgt := 112) (pc := 105) dX4_findDoubles_105 rfl (hw3 _ _) (fun q5 => ?_) (fun q5 => ?_)
    · simp only [if_neg q5] at h
      refine ok_iconst (pc := 112) dX4_findDoubles_112 ?_
      refine ok_sub (L' := [(0, .ref (xad X 103)), (1, vI p1), (2, vI p2), (3, vI x3), (4, vI x4), (5, .ref (xad X (23 + 3 * c5))), (6, .ref (xad X (23 + 3 * c6))), (7, vI s0)]) [1,2,3,4,5,6,7,0] rfl ?_
      exact w_X4_findDoubles_113 X p1 p2 hp1 hp2 x3 x4 c5 c6 s0 0 hx3 hx4 hc5 hc6 hs0 (r_lit rfl) hK12 hK28 h
    · simp only [if_pos q5] at h
      refine ok_iconst (pc := 108) dX4_findDoubles_108 ?_
      refine ok_goto (tgt := 113) (pc := 109) dX4_findDoubles_109 rfl ?_
      refine ok_sub (L' := [(0, .ref (xad X 103)), (1, vI p1), (2, vI p2), (3, vI x3), (4, vI x4), (5, .ref (xad X (23 + 3 * c5))), (6, .ref (xad X (23 + 3 * c6))), (7, vI s0)]) [1,2,3,4,5,6,7,0] rfl ?_
      exact w_X4_findDoubles_113 X p1 p2 hp1 hp2 x3 x4 c5 c6 s0 1 hx3 hx4 hc5 hc6 hs0 (r_lit rfl) hK12 hK28 h
set_option maxRecDepth 100000 in
set_option maxHeartbeats 4000000 in
theorem w_X4_findDoubles_28 (X : XE) (p1 : Int) (p2 : Int) (hp1 : inR p1) (hp2 : inR p2) (x3 : Int) (hx3 : inR x3) {K12 : Int → Mem → Prop} {Q : Int → Mem → Prop} (hK12 : ∀ (x3 : Int) (σ : Mem), inR x3 → K12 x3 σ → ok X rm_X4_findDoubles RX4 cX4_findDoubles 9 none 0 Q 12 [(0, .ref (xad X 103)), (1, vI p1), (2, vI p2), (3, vI x3)] [] σ) : ∀ (n : Nat) (x4 : Int) (σ : Mem), inR x4 → l_X4_findDoubles_28 p1 p2 x3 K12 Q n x4 σ → ok X rm_X4_findDoubles RX4 cX4_findDoubles 9 none 0 Q 28 [(0, .ref (xad X 103)), (1, vI p1), (2, vI p2), (3, vI x3), (4, vI x4)] [] σ := by
  intro n
  induction n with
  | zero => intro x4 σ hx4 h; exact False.elim h
  | succ n ih =>
    intro x4 σ hx4 h
    refine ok_iload 4 (pc := 28) dX4_findDoubles_28 rfl ?_
    refine ok_aload_n 0 (pc := 30) dX4_findDoubles_30 rfl rfl ?_
    refine ok_getR (pc := 31) dX4_findDoubles_31 fl_X4_15 sh_103 (Nat.le_of_ble_eq_true rfl) rfl rfl ?_
    refine ok_wf (fun hw1 => ?_)
    refine ok_getI (pc := 34) dX4_findDoubles_34 fl_X4_19 sh_16 (Nat.le_of_ble_eq_true rfl) rfl rfl ?_
    refine ok_icmp_ge (tgt := 191) (pc := 37) dX4_findDoubles_37 rfl hx4 (hw1 _ _) (fun q2 => ?_) (fun q2 => ?_)
    · have h := iteF h q2
      refine ok_iinc (L' := [(3, vI (x3 + 1)), (0, .ref (xad X 103)), (1, vI p1), (2, vI p2), (4, vI x4)]) 3 (pc := 191) dX4_findDoubles_191 rfl rfl rfl ?_
      refine ok_goto (tgt := 12) (pc := 194) dX4_findDoubles_194 rfl ?_
      obtain ⟨h3, h⟩ := h
      refine ok_sub (L' := [(0, .ref (xad X 103)), (1, vI p1), (2, vI p2), (3, vI (x3 + 1))]) [1,2,3,0] rfl ?_
      exact hK12 (x3 + 1) σ h3 h
    · have h := iteT h q2
      refine ok_aload_n 0 (pc := 40) dX4_findDoubles_40 rfl rfl ?_
      refine ok_getR (pc := 41) dX4_findDoubles_41 fl_X4_15 sh_103 (Nat.le_of_ble_eq_true rfl) rfl rfl ?_
      refine ok_getR (pc := 44) dX4_findDoubles_44 fl_X4_25 sh_16 (Nat.le_of_ble_eq_true rfl) rfl rfl ?_
      refine ok_iload_n 3 (pc := 47) dX4_findDoubles_47 rfl rfl ?_
      obtain ⟨h4, h⟩ := h
      obtain ⟨h5, h⟩ := h
      refine ok_cards (pc := 48) dX4_findDoubles_48 h4 h5 ?_
      have hc6 : x3.toNat < 24 := by omega
      refine ok_astore (L' := [(5, .ref (xad X (23 + 3 * (x3.toNat)))), (0, .ref (xad X 103)), (1, vI p1), (2, vI p2), (3, vI x3), (4, vI x4)]) (pc := 49) dX4_findDoubles_49 rfl rfl ?_
      refine ok_aload_n 1 (pc := 51) dX4_findDoubles_51 rfl rfl ?_
      refine ok_getR (pc := 52) dX4_findDoubles_52 fl_X4_15 sh_103 (Nat.le_of_ble_eq_true rfl) rfl rfl ?_
      refine ok_getR (pc := 55) dX4_findDoubles_55 fl_X4_25 sh_16 (Nat.le_of_ble_eq_true rfl) rfl rfl ?_
      refine ok_iload 5 (pc := 58) dX4_findDoubles_58 rfl ?_
      obtain ⟨h7, h⟩ := h
      obtain ⟨h8, h⟩ := h
      refine ok_cards (pc := 60) dX4_findDoubles_60 h7 h8 ?_
      have hc9 : x4.toNat < 24 := by omega
      refine ok_astore (L' := [(6, .ref (xad X (23 + 3 * (x4.toNat)))), (5, .ref (xad X (23 + 3 * (x3.toNat)))), (0, .ref (xad X 103)), (1, vI p1), (2, vI p2), (3, vI x3), (4, vI x4)]) (pc := 61) dX4_findDoubles_61 rfl rfl ?_
      refine ok_aload 1 (pc := 63) dX4_findDoubles_63 rfl ?_
      refine ok_getI (pc := 65) dX4_findDoubles_65 fl_X4_68 (sh_card (x3.toNat) hc6) (lt_card hc6).1 rfl rfl ?_
      refine ok_iload_n 3 (pc := 68) dX4_findDoubles_68 rfl rfl ?_
      refine ok_icmp_eq (tgt := 81) (pc := 69) dX4_findDoubles_69 rfl (hw1 _ _) hp1 (fun q10 => ?_) (fun q10 => ?_)
      · simp only [if_pos q10] at h
        refine ok_iconst (pc := 81) dX4_findDoubles_81 ?_
        refine ok_goto (tgt := 86) (pc := 82) dX4_findDoubles_82 rfl ?_
        refine ok_sub (L' := [(0, .ref (xad X 103)), (1, vI p1), (2, vI p2), (3, vI x3), (4, vI x4), (5, .ref (xad X (23 + 3 * (x3.toNat)))), (6, .ref (xad X (23 + 3 * (x4.toNat))))]) [2,3,4,5,6,1,0] rfl ?_
        exact w_X4_findDoubles_86 X p1 p2 hp1 hp2 x3 x4 (x3.toNat) (x4.toNat) 1 hx3 hx4 hc6 hc9 (r_lit rfl) hK12 (fun x4_ σ_ hx4_ h_ => ih x4_ σ_ hx4_ h_) h
      · simp only [if_neg q10] at h
        refine ok_aload 0 (pc := 72) dX4_findDoubles_72 rfl ?_
        refine ok_getI (pc := 74) dX4_findDoubles_74 fl_X4_68 (sh_card (x4.toNat) hc9) (lt_card hc9).1 rfl rfl ?_
        refine ok_iload_n 3 (pc := 77) dX4_findDoubles_77 rfl rfl ?_
        refine ok_icmp_ne (tgt := 85) (pc := 78) dX4_findDoubles_78 rfl (hw1 _ _) hp1 (fun q11 => ?_) (fun q11 => ?_)
        · simp only [if_neg q11] at h
          refine ok_iconst (pc := 85) dX4_findDoubles_85 ?_
          refine ok_sub (L' := [(0, .ref (xad X 103)), (1, vI p1), (2, vI p2), (3, vI x3), (4, vI x4), (5, .ref (xad X (23 + 3 * (x3.toNat)))), (6, .ref (xad X (23 + 3 * (x4.toNat))))]) [2,3,4,5,6,1,0] rfl ?_
          exact w_X4_findDoubles_86 X p1 p2 hp1 hp2 x3 x4 (x3.toNat) (x4.toNat) 0 hx3 hx4 hc6 hc9 (r_lit rfl) hK12 (fun x4_ σ_ hx4_ h_ => ih x4_ σ_ hx4_ h_) h
        · simp only [if_pos q11] at h
          refine ok_iconst (pc := 81) dX4_findDoubles_81 ?_
          refine ok_goto (tgt := 86) (pc := 82) dX4_findDoubles_82 rfl ?_
          refine ok_sub (L' := [(0, .ref (xad X 103)), (1, vI p1), (2, vI p2), (3, vI x3), (4, vI x4), (5, .ref (xad X (23 + 3 * (x3.toNat)))), (6, .ref (xad X (23 + 3 * (x4.toNat))))]) [2,3,4,5,6,1,0] rfl ?_
          exact w_X4_findDoubles_86 X p1 p2 hp1 hp2 x3 x4 (x3.toNat) (x4.toNat) 1 hx3 hx4 hc6 hc9 (r_lit rfl) hK12 (fun x4_ σ_ hx4_ h_ => ih x4_ σ_ hx4_ h_) h
set_option maxRecDepth 100000 in
set_option maxHeartbeats 4000000 in
theorem w_X4_findDoubles_12 (X : XE) (p1 : Int) (p2 : Int) (hp1 : inR p1) (hp2 : inR p2) {Q : Int → Mem → Prop} : ∀ (n : Nat) (x3 : Int) (σ : Mem), inR x3 → l_X4_findDoubles_12 p1 p2 Q n x3 σ → ok X rm_X4_findDoubles RX4 cX4_findDoubles 9 none 0 Q 12 [(0, .ref (xad X 103)), (1, vI p1), (2, vI p2), (3, vI x3)] [] σ := by
  intro n
  induction n with
  | zero => intro x3 σ hx3 h; exact False.elim h
  | succ n ih =>
    intro x3 σ hx3 h
    refine ok_iload_n 3 (pc := 12) dX4_findDoubles_12 rfl rfl ?_
    refine ok_aload_n 0 (pc := 13) dX4_findDoubles_13 rfl rfl ?_
    refine ok_getR (pc := 14) dX4_findDoubles_14 fl_X4_15 sh_103 (Nat.le_of_ble_eq_true rfl) rfl rfl ?_
    refine ok_wf (fun hw1 => ?_)
    refine ok_getI (pc := 17) dX4_findDoubles_17 fl_X4_19 sh_16 (Nat.le_of_ble_eq_true rfl) rfl rfl ?_
    refine ok_icmp_ge (tgt := 197) (pc := 20) dX4_findDoubles_20 rfl hx3 (hw1 _ _) (fun q2 => ?_) (fun q2 => ?_)
    · have h := iteF h q2
      exact ok_vret (pc := 197) dX4_findDoubles_197 rfl rfl h
    · have h := iteT h q2
      refine ok_iload_n 3 (pc := 23) dX4_findDoubles_23 rfl rfl ?_
      refine ok_iconst (pc := 24) dX4_findDoubles_24 ?_
      refine ok_iadd (pc := 25) dX4_findDoubles_25 ?_
      refine ok_istore (L' := [(4, vI (x3 + 1)), (0, .ref (xad X 103)), (1, vI p1), (2, vI p2), (3, vI x3)]) (pc := 26) dX4_findDoubles_26 rfl rfl ?_
      obtain ⟨h3, h⟩ := h
      refine ok_sub (L' := [(0, .ref (xad X 103)), (1, vI p1), (2, vI p2), (3, vI x3), (4, vI (x3 + 1))]) [1,2,3,4,0] rfl ?_
      obtain ⟨n4, h⟩ := h
      exact w_X4_findDoubles_28 X p1 p2 hp1 hp2 x3 hx3 (fun x3_ σ_ hx3_ h_ => ih x3_ σ_ hx3_ h_) n4 (x3 + 1) σ h3 h
set_option maxRecDepth 100000 in
set_option maxHeartbeats 4000000 in
theorem c_X4_findDoubles (X : XE) (p1 : Int) (p2 : Int) (hp1 : inR p1) (hp2 : inR p2) {σ : Mem} {Q : Int → Mem → Prop} (h : v_X4_findDoubles p1 p2 σ Q) : CT X yX4_findDoubles cX4_findDoubles 9 none rm_X4_findDoubles 0 [.ref (xad X 103), vI p1, vI p2] σ Q := by
  refine ct_of (own := RX4) (L := [(0, .ref (xad X 103)), (1, vI p1), (2, vI p2)]) rfl rfl (Nat.le_of_ble_eq_true rfl) rfl ?_
  refine ok_aload_n 0 (pc := 0) dX4_findDoubles_0 rfl rfl ?_
  refine ok_iconst (pc := 1) dX4_findDoubles_1 ?_
  refine ok_putI (pc := 2) dX4_findDoubles_2 fl_X4_62 fp_X4_2 sh_103 (Nat.le_of_ble_eq_true rfl) rfl rfl (r_lit rfl) rfl rfl ?_
  refine ok_aload_n 0 (pc := 5) dX4_findDoubles_5 rfl rfl ?_
  refine ok_iconst (pc := 6) dX4_findDoubles_6 ?_
  refine ok_putI (pc := 7) dX4_findDoubles_7 fl_X4_65 fp_X4_3 sh_103 (Nat.le_of_ble_eq_true rfl) rfl rfl (r_lit rfl) rfl rfl ?_
  refine ok_iconst (pc := 10) dX4_findDoubles_10 ?_
  refine ok_istore_n (L' := [(3, vI 0), (0, .ref (xad X 103)), (1, vI p1), (2, vI p2)]) (pc := 11) dX4_findDoubles_11 rfl rfl rfl ?_
  refine ok_sub (L' := [(0, .ref (xad X 103)), (1, vI p1), (2, vI p2), (3, vI 0)]) [1,2,3,0] rfl ?_
  obtain ⟨n1, h⟩ := h
  exact w_X4_findDoubles_12 X p1 p2 hp1 hp2 n1 0 (mset (mset σ 103 2 0) 103 3 0) (r_lit rfl) h
theorem dX11_guess_0 : decode cX11_guess 0 = .ok (.iload_n 1, 1) := by decide +kernel
theorem dX11_guess_1 : decode cX11_guess 1 = .ok (.invokestatic 148, 3) := by decide +kernel
theorem dX11_guess_4 : decode cX11_guess 4 = .ok (.ifCond .eq 19, 3) := by decide +kernel
theorem dX11_guess_7 : decode cX11_guess 7 = .ok (.iload_n 2, 1) := by decide +kernel
theorem dX11_guess_8 : decode cX11_guess 8 = .ok (.invokestatic 203, 3) := by decide +kernel
theorem dX11_guess_11 : decode cX11_guess 11 = .ok (.ifCond .eq 12, 3) := by decide +kernel
theorem dX11_guess_14 : decode cX11_guess 14 = .ok (.iload_n 3, 1) := by decide +kernel
theorem dX11_guess_15 : decode cX11_guess 15 = .ok (.ifCond .lt 8, 3) := by decide +kernel
theorem dX11_guess_18 : decode cX11_guess 18 = .ok (.iload_n 3, 1) := by decide +kernel
theorem dX11_guess_19 : decode cX11_guess 19 = .ok (.iconst 2, 1) := by decide +kernel
theorem dX11_guess_20 : decode cX11_guess 20 = .ok (.if_icmp .le 5, 3) := by decide +kernel
theorem dX11_guess_23 : decode cX11_guess 23 = .ok (.iconst (-1), 1) := by decide +kernel
theorem dX11_guess_24 : decode cX11_guess 24 = .ok (.ireturn, 1) := by decide +kernel
theorem dX11_guess_25 : decode cX11_guess 25 = .ok (.aload_n 0, 1) := by decide +kernel
theorem dX11_guess_26 : decode cX11_guess 26 = .ok (.getfield 69, 3) := by decide +kernel
theorem dX11_guess_29 : decode cX11_guess 29 = .ok (.invokevirtual 303, 3) := by decide +kernel
theorem dX11_guess_32 : decode cX11_guess 32 = .ok (.aload_n 0, 1) := by decide +kernel
theorem dX11_guess_33 : decode cX11_guess 33 = .ok (.getfield 69, 3) := by decide +kernel
theorem dX11_guess_36 : decode cX11_guess 36 = .ok (.iload_n 1, 1) := by decide +kernel
theorem dX11_guess_37 : decode cX11_guess 37 = .ok (.iload_n 2, 1) := by decide +kernel
theorem dX11_guess_38 : decode cX11_guess 38 = .ok (.invokevirtual 318, 3) := by decide +kernel
theorem dX11_guess_41 : decode cX11_guess 41 = .ok (.iload_n 3, 1) := by decide +kernel
theorem dX11_guess_42 : decode cX11_guess 42 = .ok (.iconst 2, 1) := by decide +kernel
theorem dX11_guess_43 : decode cX11_guess 43 = .ok (.if_icmp .ne 11, 3) := by decide +kernel
theorem dX11_guess_46 : decode cX11_guess 46 = .ok (.aload_n 0, 1) := by decide +kernel
theorem dX11_guess_47 : decode cX11_guess 47 = .ok (.getfield 69, 3) := by decide +kernel
theorem dX11_guess_50 : decode cX11_guess 50 = .ok (.getfield 322, 3) := by decide +kernel
theorem dX11_guess_53 : decode cX11_guess 53 = .ok (.ireturn, 1) := by decide +kernel
theorem dX11_guess_54 : decode cX11_guess 54 = .ok (.aload_n 0, 1) := by decide +kernel
theorem dX11_guess_55 : decode cX11_guess 55 = .ok (.getfield 69, 3) := by decide +kernel
theorem dX11_guess_58 : decode cX11_guess 58 = .ok (.getfield 322, 3) := by decide +kernel
theorem dX11_guess_61 : decode cX11_guess 61 = .ok (.ifCond .ne 6, 3) := by decide +kernel
theorem dX11_guess_64 : decode cX11_guess 64 = .ok (.bipush (-4), 2) := by decide +kernel
theorem dX11_guess_66 : decode cX11_guess 66 = .ok (.ireturn, 1) := by decide +kernel
theorem dX11_guess_67 : decode cX11_guess 67 = .ok (.aload_n 0, 1) := by decide +kernel
theorem dX11_guess_68 : decode cX11_guess 68 = .ok (.getfield 69, 3) := by decide +kernel
theorem dX11_guess_71 : decode cX11_guess 71 = .ok (.getfield 325, 3) := by decide +kernel
theorem dX11_guess_74 : decode cX11_guess 74 = .ok (.i2l, 1) := by decide +kernel
theorem dX11_guess_75 : decode cX11_guess 75 = .ok (.aload_n 0, 1) := by decide +kernel
theorem dX11_guess_76 : decode cX11_guess 76 = .ok (.getfield 69, 3) := by decide +kernel
theorem dX11_guess_79 : decode cX11_guess 79 = .ok (.getfield 322, 3) := by decide +kernel
theorem dX11_guess_82 : decode cX11_guess 82 = .ok (.i2l, 1) := by decide +kernel
theorem dX11_guess_83 : decode cX11_guess 83 = .ok (.iload_n 3, 1) := by decide +kernel
theorem dX11_guess_84 : decode cX11_guess 84 = .ok (.invokestatic 245, 3) := by decide +kernel
theorem dX11_guess_87 : decode cX11_guess 87 = .ok (.l2i, 1) := by decide +kernel
theorem dX11_guess_88 : decode cX11_guess 88 = .ok (.ireturn, 1) := by decide +kernel
set_option maxRecDepth 100000 in
set_option maxHeartbeats 4000000 in
theorem c_X11_guess (X : XE) (p1 : Int) (p2 : Int) (p3 : Int) (hp1 : inR p1) (hp2 : inR p2) (hp3 : inR p3) {σ : Mem} {Q : Int → Mem → Prop} (h : v_X11_guess p1 p2 p3 σ Q) : CT X yX11_guess cX11_guess 4 (some .int) rm_X11_guess 1 [.ref (xad X 0), vI p1, vI p2, vI p3] σ Q := by
  refine ct_of (own := RX11) (L := [(0, .ref (xad X 0)), (1, vI p1), (2, vI p2), (3, vI p3)]) rfl rfl (Nat.le_of_ble_eq_true rfl) rfl ?_
  refine ok_iload_n 1 (pc := 0) dX11_guess_0 rfl rfl ?_
  refine ok_callSi (As := [vI p1]) (rest := []) (rm := rm_X11_isHand) (pc := 1) dX11_guess_1 me_X11_isHand ml_X11_148 des_X11_isHand rfl ⟨rfl, rfl, rfl, rfl⟩ rfl rfl (c_X11_isHand X p1 hp1 h) (fun r2 σ3 h1 h => ?_)
  refine ok_if_eq (tgt := 23) (pc := 4) dX11_guess_4 rfl h1 (fun q4 => ?_) (fun q4 => ?_)
  · have h := iteT h q4
    refine ok_iconst (pc := 23) dX11_guess_23 ?_
    exact ok_iret (pc := 24) dX11_guess_24 rfl rfl rfl (r_lit rfl) h
  · have h := iteF h q4
    refine ok_iload_n 2 (pc := 7) dX11_guess_7 rfl rfl ?_
    refine ok_callSi (As := [vI p2]) (rest := []) (rm := rm_X11_isMeasure) (pc := 8) dX11_guess_8 me_X11_isMeasure ml_X11_203 des_X11_isMeasure rfl ⟨rfl, rfl, rfl, rfl⟩ rfl rfl (c_X11_isMeasure X p2 hp2 h) (fun r6 σ7 h5 h => ?_)
    refine ok_if_eq (tgt := 23) (pc := 11) dX11_guess_11 rfl h5 (fun q8 => ?_) (fun q8 => ?_)
    · have h := iteT h q8
      refine ok_iconst (pc := 23) dX11_guess_23 ?_
      exact ok_iret (pc := 24) dX11_guess_24 rfl rfl rfl (r_lit rfl) h
    · have h := iteF h q8
      refine ok_iload_n 3 (pc := 14) dX11_guess_14 rfl rfl ?_
      refine ok_if_lt (tgt := 23) (pc := 15) dX11_guess_15 rfl hp3 (fun q9 => ?_) (fun q9 => ?_)
      · have h := iteT h q9
        refine ok_iconst (pc := 23) dX11_guess_23 ?_
        exact ok_iret (pc := 24) dX11_guess_24 rfl rfl rfl (r_lit rfl) h
      · have h := iteF h q9
        refine ok_iload_n 3 (pc := 18) dX11_guess_18 rfl rfl ?_
        refine ok_iconst (pc := 19) dX11_guess_19 ?_
        refine ok_icmp_le (tgt := 25) (pc := 20) dX11_guess_20 rfl hp3 (r_lit rfl) (fun q10 => ?_) (fun q10 => ?_)
        · have h := iteF h q10
          refine ok_aload_n 0 (pc := 25) dX11_guess_25 rfl rfl ?_
          refine ok_getR (pc := 26) dX11_guess_26 fl_X11_69 sh_0 (Nat.le_of_ble_eq_true rfl) rfl rfl ?_
          refine ok_callVv (As := []) (rest := []) (rm := rm_X4_gather) (pc := 29) dX11_guess_29 me_X4_gather ml_X11_303 (ci := 4) rfl sh_103 (Nat.le_of_ble_eq_true rfl) rfl des_X4_gather rfl ⟨rfl, rfl, rfl, rfl⟩ rfl rfl (c_X4_gather X h) (fun σ13 h => ?_)
          refine ok_aload_n 0 (pc := 32) dX11_guess_32 rfl rfl ?_
          refine ok_getR (pc := 33) dX11_guess_33 fl_X11_69 sh_0 (Nat.le_of_ble_eq_true rfl) rfl rfl ?_
          refine ok_iload_n 1 (pc := 36) dX11_guess_36 rfl rfl ?_
          refine ok_iload_n 2 (pc := 37) dX11_guess_37 rfl rfl ?_
          refine ok_callVv (As := [vI p1, vI p2]) (rest := []) (rm := rm_X4_findDoubles) (pc := 38) dX11_guess_38 me_X4_findDoubles ml_X11_318 (ci := 4) rfl sh_103 (Nat.le_of_ble_eq_true rfl) rfl des_X4_findDoubles rfl ⟨rfl, rfl, rfl, rfl⟩ rfl rfl (c_X4_findDoubles X p1 p2 hp1 hp2 h) (fun σ16 h => ?_)
          refine ok_iload_n 3 (pc := 41) dX11_guess_41 rfl rfl ?_
          refine ok_iconst (pc := 42) dX11_guess_42 ?_
          refine ok_icmp_ne (tgt := 54) (pc := 43) dX11_guess_43 rfl hp3 (r_lit rfl) (fun q17 => ?_) (fun q17 => ?_)
          · have h := iteF h q17
            refine ok_aload_n 0 (pc := 54) dX11_guess_54 rfl rfl ?_
            refine ok_getR (pc := 55) dX11_guess_55 fl_X11_69 sh_0 (Nat.le_of_ble_eq_true rfl) rfl rfl ?_
            refine ok_wf (fun hw18 => ?_)
            refine ok_getI (pc := 58) dX11_guess_58 fl_X11_322 sh_103 (Nat.le_of_ble_eq_true rfl) rfl rfl ?_
            refine ok_if_ne (tgt := 67) (pc := 61) dX11_guess_61 rfl (hw18 _ _) (fun q19 => ?_) (fun q19 => ?_)
            · have h := iteF h q19
              refine ok_aload_n 0 (pc := 67) dX11_guess_67 rfl rfl ?_
              refine ok_getR (pc := 68) dX11_guess_68 fl_X11_69 sh_0 (Nat.le_of_ble_eq_true rfl) rfl rfl ?_
              refine ok_getI (pc := 71) dX11_guess_71 fl_X11_325 sh_103 (Nat.le_of_ble_eq_true rfl) rfl rfl ?_
              refine ok_i2l (pc := 74) dX11_guess_74 (hw18 _ _) ?_
              refine ok_aload_n 0 (pc := 75) dX11_guess_75 rfl rfl ?_
              refine ok_getR (pc := 76) dX11_guess_76 fl_X11_69 sh_0 (Nat.le_of_ble_eq_true rfl) rfl rfl ?_
              refine ok_getI (pc := 79) dX11_guess_79 fl_X11_322 sh_103 (Nat.le_of_ble_eq_true rfl) rfl rfl ?_
              refine ok_i2l (pc := 82) dX11_guess_82 (hw18 _ _) ?_
              refine ok_iload_n 3 (pc := 83) dX11_guess_83 rfl rfl ?_
              refine ok_callSl (As := [vL (σ16 103 3), vL (σ16 103 2), vI p3]) (rest := []) (rm := rm_X11_lowest) (pc := 84) dX11_guess_84 me_X11_lowest ml_X11_245 des_X11_lowest rfl ⟨rfl, rfl, rfl, rfl⟩ rfl rfl (c_X11_lowest X (σ16 103 3) (σ16 103 2) p3 (l_of_r (hw18 _ _)) (l_of_r (hw18 _ _)) hp3 h) (fun r21 σ22 h20 h => ?_)
              refine ok_l2i (pc := 87) dX11_guess_87 ?_
              exact ok_iret (pc := 88) dX11_guess_88 rfl rfl rfl (q_rng _) h
            · have h := iteT h q19
              refine ok_bipush (pc := 64) dX11_guess_64 rfl ?_
              exact ok_iret (pc := 66) dX11_guess_66 rfl rfl rfl (r_lit rfl) h
          · have h := iteT h q17
            refine ok_aload_n 0 (pc := 46) dX11_guess_46 rfl rfl ?_
            refine ok_getR (pc := 47) dX11_guess_47 fl_X11_69 sh_0 (Nat.le_of_ble_eq_true rfl) rfl rfl ?_
            refine ok_wf (fun hw23 => ?_)
            refine ok_getI (pc := 50) dX11_guess_50 fl_X11_322 sh_103 (Nat.le_of_ble_eq_true rfl) rfl rfl ?_
            exact ok_iret (pc := 53) dX11_guess_53 rfl rfl rfl (hw23 _ _) h
        · have h := iteT h q10
          refine ok_iconst (pc := 23) dX11_guess_23 ?_
          exact ok_iret (pc := 24) dX11_guess_24 rfl rfl rfl (r_lit rfl) h
theorem dX2_isCounted_0 : decode cX2_isCounted 0 = .ok (.aload_n 0, 1) := by decide +kernel
theorem dX2_isCounted_1 : decode cX2_isCounted 1 = .ok (.getfield 18, 3) := by decide +kernel
theorem dX2_isCounted_4 : decode cX2_isCounted 4 = .ok (.getfield 52, 3) := by decide +kernel
theorem dX2_isCounted_7 : decode cX2_isCounted 7 = .ok (.iload_n 1, 1) := by decide +kernel
theorem dX2_isCounted_8 : decode cX2_isCounted 8 = .ok (.aaload, 1) := by decide +kernel
theorem dX2_isCounted_9 : decode cX2_isCounted 9 = .ok (.invokevirtual 58, 3) := by decide +kernel
theorem dX2_isCounted_12 : decode cX2_isCounted 12 = .ok (.ifCond .ne 24, 3) := by decide +kernel
theorem dX2_isCounted_15 : decode cX2_isCounted 15 = .ok (.aload_n 0, 1) := by decide +kernel
theorem dX2_isCounted_16 : decode cX2_isCounted 16 = .ok (.getfield 18, 3) := by decide +kernel
theorem dX2_isCounted_19 : decode cX2_isCounted 19 = .ok (.getfield 52, 3) := by decide +kernel
theorem dX2_isCounted_22 : decode cX2_isCounted 22 = .ok (.iload_n 1, 1) := by decide +kernel
theorem dX2_isCounted_23 : decode cX2_isCounted 23 = .ok (.aaload, 1) := by decide +kernel
theorem dX2_isCounted_24 : decode cX2_isCounted 24 = .ok (.getfield 64, 3) := by decide +kernel
theorem dX2_isCounted_27 : decode cX2_isCounted 27 = .ok (.iload_n 2, 1) := by decide +kernel
theorem dX2_isCounted_28 : decode cX2_isCounted 28 = .ok (.iaload, 1) := by decide +kernel
theorem dX2_isCounted_29 : decode cX2_isCounted 29 = .ok (.ifCond .le 7, 3) := by decide +kernel
theorem dX2_isCounted_32 : decode cX2_isCounted 32 = .ok (.iconst 1, 1) := by decide +kernel
theorem dX2_isCounted_33 : decode cX2_isCounted 33 = .ok (.goto 4, 3) := by decide +kernel
theorem dX2_isCounted_36 : decode cX2_isCounted 36 = .ok (.iconst 0, 1) := by decide +kernel
theorem dX2_isCounted_37 : decode cX2_isCounted 37 = .ok (.ireturn, 1) := by decide +kernel
set_option maxRecDepth 100000 in
set_option maxHeartbeats 4000000 in
theorem c_X2_isCounted (X : XE) (p1 : Int) (p2 : Int) (hp1 : inR p1) (hp2 : inR p2) {σ : Mem} {Q : Int → Mem → Prop} (h : v_X2_isCounted p1 p2 σ Q) : CT X yX2_isCounted cX2_isCounted 3 (some .boolean) rm_X2_isCounted 1 [.ref (xad X 105), vI p1, vI p2] σ Q := by
  refine ct_of (own := RX2) (L := [(0, .ref (xad X 105)), (1, vI p1), (2, vI p2)]) rfl rfl (Nat.le_of_ble_eq_true rfl) rfl ?_
  refine ok_aload_n 0 (pc := 0) dX2_isCounted_0 rfl rfl ?_
  refine ok_getR (pc := 1) dX2_isCounted_1 fl_X2_18 sh_105 (Nat.le_of_ble_eq_true rfl) rfl rfl ?_
  refine ok_getR (pc := 4) dX2_isCounted_4 fl_X2_52 sh_16 (Nat.le_of_ble_eq_true rfl) rfl rfl ?_
  refine ok_iload_n 1 (pc := 7) dX2_isCounted_7 rfl rfl ?_
  obtain ⟨h1, h⟩ := h
  obtain ⟨h2, h⟩ := h
  refine ok_cards (pc := 8) dX2_isCounted_8 h1 h2 ?_
  have hc3 : p1.toNat < 24 := by omega
  refine ok_callVi (As := []) (rest := []) (rm := rm_X1_isOut) (pc := 9) dX2_isCounted_9 me_X1_isOut ml_X2_58 (ci := 1) rfl (sh_card (p1.toNat) hc3) (lt_card hc3).1 rfl des_X1_isOut rfl ⟨rfl, rfl, rfl, rfl⟩ rfl rfl (c_X1_isOut X (p1.toNat) hc3 h) (fun r5 σ6 h4 h => ?_)
  refine ok_if_ne (tgt := 36) (pc := 12) dX2_isCounted_12 rfl h4 (fun q7 => ?_) (fun q7 => ?_)
  · have h := iteF h q7
    refine ok_iconst (pc := 36) dX2_isCounted_36 ?_
    exact ok_iret (pc := 37) dX2_isCounted_37 rfl rfl (nr_z (Or.inl rfl)) (r_lit rfl) h
  · have h := iteT h q7
    refine ok_aload_n 0 (pc := 15) dX2_isCounted_15 rfl rfl ?_
    refine ok_getR (pc := 16) dX2_isCounted_16 fl_X2_18 sh_105 (Nat.le_of_ble_eq_true rfl) rfl rfl ?_
    refine ok_getR (pc := 19) dX2_isCounted_19 fl_X2_52 sh_16 (Nat.le_of_ble_eq_true rfl) rfl rfl ?_
    refine ok_iload_n 1 (pc := 22) dX2_isCounted_22 rfl rfl ?_
    refine ok_cards (pc := 23) dX2_isCounted_23 h1 h2 ?_
    have hc8 : p1.toNat < 24 := by omega
    refine ok_getR (pc := 24) dX2_isCounted_24 fl_X2_64 (sh_card (p1.toNat) hc8) (lt_card hc8).1 rfl rfl ?_
    refine ok_iload_n 2 (pc := 27) dX2_isCounted_27 rfl rfl ?_
    obtain ⟨h9, h⟩ := h
    obtain ⟨h10, h⟩ := h
    refine ok_wf (fun hw11 => ?_)
    refine ok_iald (pc := 28) dX2_isCounted_28 (sh_cme (p1.toNat) hc8) (lt_card hc8).2.2 rfl h9 h10 ?_
    refine ok_if_le (tgt := 36) (pc := 29) dX2_isCounted_29 rfl (hw11 _ _) (fun q12 => ?_) (fun q12 => ?_)
    · have h := iteF h q12
      refine ok_iconst (pc := 36) dX2_isCounted_36 ?_
      exact ok_iret (pc := 37) dX2_isCounted_37 rfl rfl (nr_z (Or.inl rfl)) (r_lit rfl) h
    · have h := iteT h q12
      refine ok_iconst (pc := 32) dX2_isCounted_32 ?_
      refine ok_goto (tgt := 37) (pc := 33) dX2_isCounted_33 rfl ?_
      exact ok_iret (pc := 37) dX2_isCounted_37 rfl rfl (nr_z (Or.inr rfl)) (r_lit rfl) h
theorem dX2_below_0 : decode cX2_below 0 = .ok (.iconst 0, 1) := by decide +kernel
theorem dX2_below_1 : decode cX2_below 1 = .ok (.istore_n 3, 1) := by decide +kernel
theorem dX2_below_2 : decode cX2_below 2 = .ok (.iconst 0, 1) := by decide +kernel
theorem dX2_below_3 : decode cX2_below 3 = .ok (.istore 4, 2) := by decide +kernel
theorem dX2_below_5 : decode cX2_below 5 = .ok (.iload 4, 2) := by decide +kernel
theorem dX2_below_7 : decode cX2_below 7 = .ok (.aload_n 0, 1) := by decide +kernel
theorem dX2_below_8 : decode cX2_below 8 = .ok (.getfield 18, 3) := by decide +kernel
theorem dX2_below_11 : decode cX2_below 11 = .ok (.getfield 67, 3) := by decide +kernel
theorem dX2_below_14 : decode cX2_below 14 = .ok (.if_icmp .ge 49, 3) := by decide +kernel
theorem dX2_below_17 : decode cX2_below 17 = .ok (.iload_n 3, 1) := by decide +kernel
theorem dX2_below_18 : decode cX2_below 18 = .ok (.aload_n 0, 1) := by decide +kernel
theorem dX2_below_19 : decode cX2_below 19 = .ok (.iload 4, 2) := by decide +kernel
theorem dX2_below_21 : decode cX2_below 21 = .ok (.iload_n 1, 1) := by decide +kernel
theorem dX2_below_22 : decode cX2_below 22 = .ok (.invokevirtual 70, 3) := by decide +kernel
theorem dX2_below_25 : decode cX2_below 25 = .ok (.ifCond .eq 26, 3) := by decide +kernel
theorem dX2_below_28 : decode cX2_below 28 = .ok (.aload_n 0, 1) := by decide +kernel
theorem dX2_below_29 : decode cX2_below 29 = .ok (.getfield 18, 3) := by decide +kernel
theorem dX2_below_32 : decode cX2_below 32 = .ok (.getfield 52, 3) := by decide +kernel
theorem dX2_below_35 : decode cX2_below 35 = .ok (.iload 4, 2) := by decide +kernel
theorem dX2_below_37 : decode cX2_below 37 = .ok (.aaload, 1) := by decide +kernel
theorem dX2_below_38 : decode cX2_below 38 = .ok (.getfield 64, 3) := by decide +kernel
theorem dX2_below_41 : decode cX2_below 41 = .ok (.iload_n 1, 1) := by decide +kernel
theorem dX2_below_42 : decode cX2_below 42 = .ok (.iaload, 1) := by decide +kernel
theorem dX2_below_43 : decode cX2_below 43 = .ok (.iload_n 2, 1) := by decide +kernel
theorem dX2_below_44 : decode cX2_below 44 = .ok (.if_icmp .ge 7, 3) := by decide +kernel
theorem dX2_below_47 : decode cX2_below 47 = .ok (.iconst 1, 1) := by decide +kernel
theorem dX2_below_48 : decode cX2_below 48 = .ok (.goto 4, 3) := by decide +kernel
theorem dX2_below_51 : decode cX2_below 51 = .ok (.iconst 0, 1) := by decide +kernel
theorem dX2_below_52 : decode cX2_below 52 = .ok (.invokestatic 74, 3) := by decide +kernel
theorem dX2_below_55 : decode cX2_below 55 = .ok (.iadd, 1) := by decide +kernel
theorem dX2_below_56 : decode cX2_below 56 = .ok (.istore_n 3, 1) := by decide +kernel
theorem dX2_below_57 : decode cX2_below 57 = .ok (.iinc 4 1, 3) := by decide +kernel
theorem dX2_below_60 : decode cX2_below 60 = .ok (.goto (-55), 3) := by decide +kernel
theorem dX2_below_63 : decode cX2_below 63 = .ok (.iload_n 3, 1) := by decide +kernel
theorem dX2_below_64 : decode cX2_below 64 = .ok (.ireturn, 1) := by decide +kernel
set_option maxRecDepth 100000 in
set_option maxHeartbeats 4000000 in
theorem w_X2_below_52 (X : XE) (p1 : Int) (p2 : Int) (hp1 : inR p1) (hp2 : inR p2) (x4 : Int) (s0 : Int) (s1 : Int) (hx4 : inR x4) (hs0 : inR s0) (hs1 : inR s1) {K5 : Int → Int → Mem → Prop} {Q : Int → Mem → Prop} (hK5 : ∀ (x3 : Int) (x4 : Int) (σ : Mem), inR x3 → inR x4 → K5 x3 x4 σ → ok X rm_X2_below RX2 cX2_below 5 (some .int) 1 Q 5 [(0, .ref (xad X 105)), (1, vI p1), (2, vI p2), (3, vI x3), (4, vI x4)] [] σ) {σ : Mem} (h : j_X2_below_52 p1 p2 K5 Q x4 s0 s1 σ) : ok X rm_X2_below RX2 cX2_below 5 (some .int) 1 Q 52 [(0, .ref (xad X 105)), (1, vI p1), (2, vI p2), (4, vI x4)] [vI s0, vI s1] σ := by
  refine ok_callNi (As := [vI s0]) (rest := [vI s1]) (rm := rm_X11_bit) (pc := 52) dX2_below_52 me_X11_bit xn_2 des_X11_bit rfl ⟨rfl, rfl, rfl, rfl⟩ rfl rfl (c_X11_bit X s0 hs0 h) (fun r2 σ3 h1 h => ?_)
  refine ok_iadd (pc := 55) dX2_below_55 ?_
  refine ok_istore_n (L' := [(3, vI (s1 + r2)), (0, .ref (xad X 105)), (1, vI p1), (2, vI p2), (4, vI x4)]) (pc := 56) dX2_below_56 rfl rfl rfl ?_
  refine ok_iinc (L' := [(4, vI (x4 + 1)), (3, vI (s1 + r2)), (0, .ref (xad X 105)), (1, vI p1), (2, vI p2)]) 4 (pc := 57) dX2_below_57 rfl rfl rfl ?_
  refine ok_goto (tgt := 5) (pc := 60) dX2_below_60 rfl ?_
  obtain ⟨h4, h⟩ := h
  obtain ⟨h5, h⟩ := h
  refine ok_sub (L' := [(0, .ref (xad X 105)), (1, vI p1), (2, vI p2), (3, vI (s1 + r2)), (4, vI (x4 + 1))]) [2,3,4,1,0] rfl ?_
  exact hK5 (s1 + r2) (x4 + 1) σ3 h4 h5 h
set_option maxRecDepth 100000 in
set_option maxHeartbeats 4000000 in
theorem w_X2_below_5 (X : XE) (p1 : Int) (p2 : Int) (hp1 : inR p1) (hp2 : inR p2) {Q : Int → Mem → Prop} : ∀ (n : Nat) (x3 : Int) (x4 : Int) (σ : Mem), inR x3 → inR x4 → l_X2_below_5 p1 p2 Q n x3 x4 σ → ok X rm_X2_below RX2 cX2_below 5 (some .int) 1 Q 5 [(0, .ref (xad X 105)), (1, vI p1), (2, vI p2), (3, vI x3), (4, vI x4)] [] σ := by
  intro n
  induction n with
  | zero => intro x3 x4 σ hx3 hx4 h; exact False.elim h
  | succ n ih =>
    intro x3 x4 σ hx3 hx4 h
    refine ok_iload 4 (pc := 5) dX2_below_5 rfl ?_
    refine ok_aload_n 0 (pc := 7) dX2_below_7 rfl rfl ?_
    refine ok_getR (pc := 8) dX2_below_8 fl_X2_18 sh_105 (Nat.le_of_ble_eq_true rfl) rfl rfl ?_
    refine ok_wf (fun hw1 => ?_)
    refine ok_getI (pc := 11) dX2_below_11 fl_X2_67 sh_16 (Nat.le_of_ble_eq_true rfl) rfl rfl ?_
    refine ok_icmp_ge (tgt := 63) (pc := 14) dX2_below_14 rfl hx4 (hw1 _ _) (fun q2 => ?_) (fun q2 => ?_)
    · have h := iteF h q2
      refine ok_iload_n 3 (pc := 63) dX2_below_63 rfl rfl ?_
      exact ok_iret (pc := 64) dX2_below_64 rfl rfl rfl hx3 h
    · have h := iteT h q2
      refine ok_iload_n 3 (pc := 17) dX2_below_17 rfl rfl ?_
      refine ok_aload_n 0 (pc := 18) dX2_below_18 rfl rfl ?_
      refine ok_iload 4 (pc := 19) dX2_below_19 rfl ?_
      refine ok_iload_n 1 (pc := 21) dX2_below_21 rfl rfl ?_
      refine ok_callVi (As := [vI x4, vI p1]) (rest := [vI x3]) (rm := rm_X2_isCounted) (pc := 22) dX2_below_22 me_X2_isCounted ml_X2_70 (ci := 2) rfl sh_105 (Nat.le_of_ble_eq_true rfl) rfl des_X2_isCounted rfl ⟨rfl, rfl, rfl, rfl⟩ rfl rfl (c_X2_isCounted X x4 p1 hx4 hp1 h) (fun r4 σ5 h3 h => ?_)
      refine ok_if_eq (tgt := 51) (pc := 25) dX2_below_25 rfl h3 (fun q6 => ?_) (fun q6 => ?_)
      · have h := iteT h q6
        refine ok_iconst (pc := 51) dX2_below_51 ?_
        refine ok_sub (L' := [(0, .ref (xad X 105)), (1, vI p1), (2, vI p2), (4, vI x4)]) [0,1,2,4] rfl ?_
        exact w_X2_below_52 X p1 p2 hp1 hp2 x4 0 x3 hx4 (r_lit rfl) hx3 (fun x3_ x4_ σ_ hx3_ hx4_ h_ => ih x3_ x4_ σ_ hx3_ hx4_ h_) h
      · have h := iteF h q6
        refine ok_aload_n 0 (pc := 28) dX2_below_28 rfl rfl ?_
        refine ok_getR (pc := 29) dX2_below_29 fl_X2_18 sh_105 (Nat.le_of_ble_eq_true rfl) rfl rfl ?_
        refine ok_getR (pc := 32) dX2_below_32 fl_X2_52 sh_16 (Nat.le_of_ble_eq_true rfl) rfl rfl ?_
        refine ok_iload 4 (pc := 35) dX2_below_35 rfl ?_
        obtain ⟨h7, h⟩ := h
        obtain ⟨h8, h⟩ := h
        refine ok_cards (pc := 37) dX2_below_37 h7 h8 ?_
        have hc9 : x4.toNat < 24 := by omega
        refine ok_getR (pc := 38) dX2_below_38 fl_X2_64 (sh_card (x4.toNat) hc9) (lt_card hc9).1 rfl rfl ?_
        refine ok_iload_n 1 (pc := 41) dX2_below_41 rfl rfl ?_
        obtain ⟨h10, h⟩ := h
        obtain ⟨h11, h⟩ := h
        refine ok_wf (fun hw12 => ?_)
        refine ok_iald (pc := 42) dX2_below_42 (sh_cme (x4.toNat) hc9) (lt_card hc9).2.2 rfl h10 h11 ?_
        refine ok_iload_n 2 (pc := 43) dX2_below_43 rfl rfl ?_
        refine ok_icmp_ge (tgt := 51) (pc := 44) dX2_below_44 rfl (hw12 _ _) hp2 (fun q13 => ?_) (fun q13 => ?_)
        · simp only [if_neg q13] at h
          refine ok_iconst (pc := 51) dX2_below_51 ?_
          refine ok_sub (L' := [(0, .ref (xad X 105)), (1, vI p1), (2, vI p2), (4, vI x4)]) [0,1,2,4] rfl ?_
          exact w_X2_below_52 X p1 p2 hp1 hp2 x4 0 x3 hx4 (r_lit rfl) hx3 (fun x3_ x4_ σ_ hx3_ hx4_ h_ => ih x3_ x4_ σ_ hx3_ hx4_ h_) h
        · simp only [if_pos q13] at h
          refine ok_iconst (pc := 47) dX2_below_47 ?_
          refine ok_goto (tgt := 52) (pc := 48) dX2_below_48 rfl ?_
          refine ok_sub (L' := [(0, .ref (xad X 105)), (1, vI p1), (2, vI p2), (4, vI x4)]) [0,1,2,4] rfl ?_
          exact w_X2_below_52 X p1 p2 hp1 hp2 x4 1 x3 hx4 (r_lit rfl) hx3 (fun x3_ x4_ σ_ hx3_ hx4_ h_ => ih x3_ x4_ σ_ hx3_ hx4_ h_) h
set_option maxRecDepth 100000 in
set_option maxHeartbeats 4000000 in
theorem c_X2_below (X : XE) (p1 : Int) (p2 : Int) (hp1 : inR p1) (hp2 : inR p2) {σ : Mem} {Q : Int → Mem → Prop} (h : v_X2_below p1 p2 σ Q) : CT X yX2_below cX2_below 5 (some .int) rm_X2_below 1 [.ref (xad X 105), vI p1, vI p2] σ Q := by
  refine ct_of (own := RX2) (L := [(0, .ref (xad X 105)), (1, vI p1), (2, vI p2)]) rfl rfl (Nat.le_of_ble_eq_true rfl) rfl ?_
  refine ok_iconst (pc := 0) dX2_below_0 ?_
  refine ok_istore_n (L' := [(3, vI 0), (0, .ref (xad X 105)), (1, vI p1), (2, vI p2)]) (pc := 1) dX2_below_1 rfl rfl rfl ?_
  refine ok_iconst (pc := 2) dX2_below_2 ?_
  refine ok_istore (L' := [(4, vI 0), (3, vI 0), (0, .ref (xad X 105)), (1, vI p1), (2, vI p2)]) (pc := 3) dX2_below_3 rfl rfl ?_
  refine ok_sub (L' := [(0, .ref (xad X 105)), (1, vI p1), (2, vI p2), (3, vI 0), (4, vI 0)]) [2,3,4,1,0] rfl ?_
  obtain ⟨n1, h⟩ := h
  exact w_X2_below_5 X p1 p2 hp1 hp2 n1 0 0 σ (r_lit rfl) (r_lit rfl) h
theorem dX2_difference_0 : decode cX2_difference 0 = .ok (.iload_n 2, 1) := by decide +kernel
theorem dX2_difference_1 : decode cX2_difference 1 = .ok (.iload_n 1, 1) := by decide +kernel
theorem dX2_difference_2 : decode cX2_difference 2 = .ok (.isub, 1) := by decide +kernel
theorem dX2_difference_3 : decode cX2_difference 3 = .ok (.istore 4, 2) := by decide +kernel
theorem dX2_difference_5 : decode cX2_difference 5 = .ok (.iload_n 3, 1) := by decide +kernel
theorem dX2_difference_6 : decode cX2_difference 6 = .ok (.iload_n 2, 1) := by decide +kernel
theorem dX2_difference_7 : decode cX2_difference 7 = .ok (.isub, 1) := by decide +kernel
theorem dX2_difference_8 : decode cX2_difference 8 = .ok (.istore 5, 2) := by decide +kernel
theorem dX2_difference_10 : decode cX2_difference 10 = .ok (.iload_n 1, 1) := by decide +kernel
theorem dX2_difference_11 : decode cX2_difference 11 = .ok (.iload 4, 2) := by decide +kernel
theorem dX2_difference_13 : decode cX2_difference 13 = .ok (.iload 5, 2) := by decide +kernel
theorem dX2_difference_15 : decode cX2_difference 15 = .ok (.invokestatic 91, 3) := by decide +kernel
theorem dX2_difference_18 : decode cX2_difference 18 = .ok (.invokestatic 91, 3) := by decide +kernel
theorem dX2_difference_21 : decode cX2_difference 21 = .ok (.istore 6, 2) := by decide +kernel
theorem dX2_difference_23 : decode cX2_difference 23 = .ok (.iload 6, 2) := by decide +kernel
theorem dX2_difference_25 : decode cX2_difference 25 = .ok (.iload_n 1, 1) := by decide +kernel
theorem dX2_difference_26 : decode cX2_difference 26 = .ok (.iload 4, 2) := by decide +kernel
theorem dX2_difference_28 : decode cX2_difference 28 = .ok (.iload 5, 2) := by decide +kernel
theorem dX2_difference_30 : decode cX2_difference 30 = .ok (.invokestatic 94, 3) := by decide +kernel
theorem dX2_difference_33 : decode cX2_difference 33 = .ok (.invokestatic 94, 3) := by decide +kernel
theorem dX2_difference_36 : decode cX2_difference 36 = .ok (.isub, 1) := by decide +kernel
theorem dX2_difference_37 : decode cX2_difference 37 = .ok (.ireturn, 1) := by decide +kernel
set_option maxRecDepth 100000 in
set_option maxHeartbeats 4000000 in
theorem c_X2_difference (X : XE) (p1 : Int) (p2 : Int) (p3 : Int) (hp1 : inR p1) (hp2 : inR p2) (hp3 : inR p3) {σ : Mem} {Q : Int → Mem → Prop} (h : v_X2_difference p1 p2 p3 σ Q) : CT X yX2_difference cX2_difference 7 (some .int) rm_X2_difference 1 [.ref (xad X 105), vI p1, vI p2, vI p3] σ Q := by
  refine ct_of (own := RX2) (L := [(0, .ref (xad X 105)), (1, vI p1), (2, vI p2), (3, vI p3)]) rfl rfl (Nat.le_of_ble_eq_true rfl) rfl ?_
  refine ok_iload_n 2 (pc := 0) dX2_difference_0 rfl rfl ?_
  refine ok_iload_n 1 (pc := 1) dX2_difference_1 rfl rfl ?_
  refine ok_isub (pc := 2) dX2_difference_2 ?_
  refine ok_istore (L' := [(4, vI (p2 - p1)), (0, .ref (xad X 105)), (1, vI p1), (2, vI p2), (3, vI p3)]) (pc := 3) dX2_difference_3 rfl rfl ?_
  refine ok_iload_n 4 (pc := 5) dX2_difference_5 rfl rfl ?_
  refine ok_iload_n 3 (pc := 6) dX2_difference_6 rfl rfl ?_
  refine ok_isub (pc := 7) dX2_difference_7 ?_
  refine ok_istore (L' := [(5, vI (p3 - p2)), (4, vI (p2 - p1)), (0, .ref (xad X 105)), (1, vI p1), (2, vI p2), (3, vI p3)]) (pc := 8) dX2_difference_8 rfl rfl ?_
  refine ok_iload_n 3 (pc := 10) dX2_difference_10 rfl rfl ?_
  refine ok_iload 1 (pc := 11) dX2_difference_11 rfl ?_
  refine ok_iload 0 (pc := 13) dX2_difference_13 rfl ?_
  obtain ⟨h1, h⟩ := h
  obtain ⟨h2, h⟩ := h
  refine ok_max (pc := 15) dX2_difference_15 ml_X2_91 ⟨rfl, rfl⟩ h1 h2 ?_
  refine ok_max (pc := 18) dX2_difference_18 ml_X2_91 ⟨rfl, rfl⟩ hp1 (r_max h1 h2) ?_
  refine ok_istore (L' := [(6, vI (imax p1 (imax (p2 - p1) (p3 - p2)))), (5, vI (p3 - p2)), (4, vI (p2 - p1)), (0, .ref (xad X 105)), (1, vI p1), (2, vI p2), (3, vI p3)]) (pc := 21) dX2_difference_21 rfl rfl ?_
  refine ok_iload 0 (pc := 23) dX2_difference_23 rfl ?_
  refine ok_iload_n 4 (pc := 25) dX2_difference_25 rfl rfl ?_
  refine ok_iload 2 (pc := 26) dX2_difference_26 rfl ?_
  refine ok_iload 1 (pc := 28) dX2_difference_28 rfl ?_
  refine ok_min (pc := 30) dX2_difference_30 ml_X2_94 ⟨rfl, rfl⟩ h1 h2 ?_
  refine ok_min (pc := 33) dX2_difference_33 ml_X2_94 ⟨rfl, rfl⟩ hp1 (r_min h1 h2) ?_
  refine ok_isub (pc := 36) dX2_difference_36 ?_
  obtain ⟨h3, h⟩ := h
  exact ok_iret (pc := 37) dX2_difference_37 rfl rfl rfl h3 h
theorem dX2_near_0 : decode cX2_near 0 = .ok (.iconst 0, 1) := by decide +kernel
theorem dX2_near_1 : decode cX2_near 1 = .ok (.istore_n 3, 1) := by decide +kernel
theorem dX2_near_2 : decode cX2_near 2 = .ok (.iconst 0, 1) := by decide +kernel
theorem dX2_near_3 : decode cX2_near 3 = .ok (.istore 4, 2) := by decide +kernel
theorem dX2_near_5 : decode cX2_near 5 = .ok (.iload 4, 2) := by decide +kernel
theorem dX2_near_7 : decode cX2_near 7 = .ok (.aload_n 0, 1) := by decide +kernel
theorem dX2_near_8 : decode cX2_near 8 = .ok (.getfield 18, 3) := by decide +kernel
theorem dX2_near_11 : decode cX2_near 11 = .ok (.getfield 67, 3) := by decide +kernel
theorem dX2_near_14 : decode cX2_near 14 = .ok (.if_icmp .ge 69, 3) := by decide +kernel
theorem dX2_near_17 : decode cX2_near 17 = .ok (.aload_n 0, 1) := by decide +kernel
theorem dX2_near_18 : decode cX2_near 18 = .ok (.getfield 18, 3) := by decide +kernel
theorem dX2_near_21 : decode cX2_near 21 = .ok (.getfield 52, 3) := by decide +kernel
theorem dX2_near_24 : decode cX2_near 24 = .ok (.iload 4, 2) := by decide +kernel
theorem dX2_near_26 : decode cX2_near 26 = .ok (.aaload, 1) := by decide +kernel
theorem dX2_near_27 : decode cX2_near 27 = .ok (.astore 5, 2) := by decide +kernel
theorem dX2_near_29 : decode cX2_near 29 = .ok (.aload 5, 2) := by decide +kernel
theorem dX2_near_31 : decode cX2_near 31 = .ok (.getfield 64, 3) := by decide +kernel
theorem dX2_near_34 : decode cX2_near 34 = .ok (.iload_n 1, 1) := by decide +kernel
theorem dX2_near_35 : decode cX2_near 35 = .ok (.iaload, 1) := by decide +kernel
theorem dX2_near_36 : decode cX2_near 36 = .ok (.iload_n 2, 1) := by decide +kernel
theorem dX2_near_37 : decode cX2_near 37 = .ok (.isub, 1) := by decide +kernel
theorem dX2_near_38 : decode cX2_near 38 = .ok (.invokestatic 78, 3) := by decide +kernel
theorem dX2_near_41 : decode cX2_near 41 = .ok (.istore 6, 2) := by decide +kernel
theorem dX2_near_43 : decode cX2_near 43 = .ok (.aload_n 0, 1) := by decide +kernel
theorem dX2_near_44 : decode cX2_near 44 = .ok (.iload 4, 2) := by decide +kernel
theorem dX2_near_46 : decode cX2_near 46 = .ok (.iload_n 1, 1) := by decide +kernel
theorem dX2_near_47 : decode cX2_near 47 = .ok (.invokevirtual 70, 3) := by decide +kernel
theorem dX2_near_50 : decode cX2_near 50 = .ok (.ifCond .eq 27, 3) := by decide +kernel
theorem dX2_near_53 : decode cX2_near 53 = .ok (.iload 6, 2) := by decide +kernel
theorem dX2_near_55 : decode cX2_near 55 = .ok (.aload 5, 2) := by decide +kernel
theorem dX2_near_57 : decode cX2_near 57 = .ok (.aload_n 0, 1) := by decide +kernel
theorem dX2_near_58 : decode cX2_near 58 = .ok (.getfield 18, 3) := by decide +kernel
theorem dX2_near_61 : decode cX2_near 61 = .ok (.getfield 83, 3) := by decide +kernel
theorem dX2_near_64 : decode cX2_near 64 = .ok (.invokevirtual 87, 3) := by decide +kernel
theorem dX2_near_67 : decode cX2_near 67 = .ok (.if_icmp .gt 10, 3) := by decide +kernel
theorem dX2_near_70 : decode cX2_near 70 = .ok (.iload_n 3, 1) := by decide +kernel
theorem dX2_near_71 : decode cX2_near 71 = .ok (.iconst 1, 1) := by decide +kernel
theorem dX2_near_72 : decode cX2_near 72 = .ok (.iload 4, 2) := by decide +kernel
theorem dX2_near_74 : decode cX2_near 74 = .ok (.ishl, 1) := by decide +kernel
theorem dX2_near_75 : decode cX2_near 75 = .ok (.ior, 1) := by decide +kernel
theorem dX2_near_76 : decode cX2_near 76 = .ok (.istore_n 3, 1) := by decide +kernel
theorem dX2_near_77 : decode cX2_near 77 = .ok (.iinc 4 1, 3) := by decide +kernel
theorem dX2_near_80 : decode cX2_near 80 = .ok (.goto (-75), 3) := by decide +kernel
theorem dX2_near_83 : decode cX2_near 83 = .ok (.iload_n 3, 1) := by decide +kernel
theorem dX2_near_84 : decode cX2_near 84 = .ok (.ireturn, 1) := by decide +kernel
set_option maxRecDepth 100000 in
set_option maxHeartbeats 4000000 in
theorem w_X2_near_5 (X : XE) (p1 : Int) (p2 : Int) (hp1 : inR p1) (hp2 : inR p2) {Q : Int → Mem → Prop} : ∀ (n : Nat) (x3 : Int) (x4 : Int) (σ : Mem), inR x3 → inR x4 → l_X2_near_5 p1 p2 Q n x3 x4 σ → ok X rm_X2_near RX2 cX2_near 7 (some .int) 1 Q 5 [(0, .ref (xad X 105)), (1, vI p1), (2, vI p2), (3, vI x3), (4, vI x4)] [] σ := by
  intro n
  induction n with
  | zero => intro x3 x4 σ hx3 hx4 h; exact False.elim h
  | succ n ih =>
    intro x3 x4 σ hx3 hx4 h
    refine ok_iload 4 (pc := 5) dX2_near_5 rfl ?_
    refine ok_aload_n 0 (pc := 7) dX2_near_7 rfl rfl ?_
    refine ok_getR (pc := 8) dX2_near_8 fl_X2_18 sh_105 (Nat.le_of_ble_eq_true rfl) rfl rfl ?_
    refine ok_wf (fun hw1 => ?_)
    refine ok_getI (pc := 11) dX2_near_11 fl_X2_67 sh_16 (Nat.le_of_ble_eq_true rfl) rfl rfl ?_
    refine ok_icmp_ge (tgt := 83) (pc := 14) dX2_near_14 rfl hx4 (hw1 _ _) (fun q2 => ?_) (fun q2 => ?_)
    · have h := iteF h q2
      refine ok_iload_n 3 (pc := 83) dX2_near_83 rfl rfl ?_
      exact ok_iret (pc := 84) dX2_near_84 rfl rfl rfl hx3 h
    · have h := iteT h q2
      refine ok_aload_n 0 (pc := 17) dX2_near_17 rfl rfl ?_
      refine ok_getR (pc := 18) dX2_near_18 fl_X2_18 sh_105 (Nat.le_of_ble_eq_true rfl) rfl rfl ?_
      refine ok_getR (pc := 21) dX2_near_21 fl_X2_52 sh_16 (Nat.le_of_ble_eq_true rfl) rfl rfl ?_
      refine ok_iload 4 (pc := 24) dX2_near_24 rfl ?_
      obtain ⟨h3, h⟩ := h
      obtain ⟨h4, h⟩ := h
      refine ok_cards (pc := 26) dX2_near_26 h3 h4 ?_
      have hc5 : x4.toNat < 24 := by omega
      refine ok_astore (L' := [(5, .ref (xad X (23 + 3 * (x4.toNat)))), (0, .ref (xad X 105)), (1, vI p1), (2, vI p2), (3, vI x3), (4, vI x4)]) (pc := 27) dX2_near_27 rfl rfl ?_
      refine ok_aload 0 (pc := 29) dX2_near_29 rfl ?_
      refine ok_getR (pc := 31) dX2_near_31 fl_X2_64 (sh_card (x4.toNat) hc5) (lt_card hc5).1 rfl rfl ?_
      refine ok_iload_n 2 (pc := 34) dX2_near_34 rfl rfl ?_
      obtain ⟨h6, h⟩ := h
      obtain ⟨h7, h⟩ := h
      refine ok_iald (pc := 35) dX2_near_35 (sh_cme (x4.toNat) hc5) (lt_card hc5).2.2 rfl h6 h7 ?_
      refine ok_iload_n 3 (pc := 36) dX2_near_36 rfl rfl ?_
      refine ok_isub (pc := 37) dX2_near_37 ?_
      obtain ⟨h8, h⟩ := h
      refine ok_abs (pc := 38) dX2_near_38 ml_X2_78 ⟨rfl, rfl⟩ h8 ?_
      refine ok_istore (L' := [(6, vI (iabs ((σ (25 + 3 * (x4.toNat)) p1.toNat) - p2))), (5, .ref (xad X (23 + 3 * (x4.toNat)))), (0, .ref (xad X 105)), (1, vI p1), (2, vI p2), (3, vI x3), (4, vI x4)]) (pc := 41) dX2_near_41 rfl rfl ?_
      refine ok_aload_n 2 (pc := 43) dX2_near_43 rfl rfl ?_
      refine ok_iload 6 (pc := 44) dX2_near_44 rfl ?_
      refine ok_iload_n 3 (pc := 46) dX2_near_46 rfl rfl ?_
      refine ok_callVi (As := [vI x4, vI p1]) (rest := []) (rm := rm_X2_isCounted) (pc := 47) dX2_near_47 me_X2_isCounted ml_X2_70 (ci := 2) rfl sh_105 (Nat.le_of_ble_eq_true rfl) rfl des_X2_isCounted rfl ⟨rfl, rfl, rfl, rfl⟩ rfl rfl (c_X2_isCounted X x4 p1 hx4 hp1 h) (fun r10 σ11 h9 h => ?_)
      refine ok_if_eq (tgt := 77) (pc := 50) dX2_near_50 rfl h9 (fun q12 => ?_) (fun q12 => ?_)
      · have h := iteT h q12
        refine ok_iinc (L' := [(4, vI (x4 + 1)), (6, vI (iabs ((σ (25 + 3 * (x4.toNat)) p1.toNat) - p2))), (5, .ref (xad X (23 + 3 * (x4.toNat)))), (0, .ref (xad X 105)), (1, vI p1), (2, vI p2), (3, vI x3)]) 6 (pc := 77) dX2_near_77 rfl rfl rfl ?_
        refine ok_goto (tgt := 5) (pc := 80) dX2_near_80 rfl ?_
        obtain ⟨h13, h⟩ := h
        refine ok_sub (L' := [(0, .ref (xad X 105)), (1, vI p1), (2, vI p2), (3, vI x3), (4, vI (x4 + 1))]) [3,4,5,6,0] rfl ?_
        exact ih x3 (x4 + 1) σ11 hx3 h13 h
      · have h := iteF h q12
        refine ok_iload 0 (pc := 53) dX2_near_53 rfl ?_
        refine ok_aload 1 (pc := 55) dX2_near_55 rfl ?_
        refine ok_aload_n 2 (pc := 57) dX2_near_57 rfl rfl ?_
        refine ok_getR (pc := 58) dX2_near_58 fl_X2_18 sh_105 (Nat.le_of_ble_eq_true rfl) rfl rfl ?_
        refine ok_getR (pc := 61) dX2_near_61 fl_X2_83 sh_16 (Nat.le_of_ble_eq_true rfl) rfl rfl ?_
        refine ok_callVi (As := [.ref (xad X 14)]) (rest := [vI (iabs ((σ (25 + 3 * (x4.toNat)) p1.toNat) - p2))]) (rm := rm_X1_spread) (pc := 64) dX2_near_64 me_X1_spread ml_X2_87 (ci := 1) rfl (sh_card (x4.toNat) hc5) (lt_card hc5).1 rfl des_X1_spread rfl ⟨rfl, rfl, rfl, rfl⟩ rfl rfl (c_X1_spread X (x4.toNat) hc5 h) (fun r15 σ16 h14 h => ?_)
        obtain ⟨h17, h⟩ := h
        refine ok_icmp_gt (tgt := 77) (pc := 67) dX2_near_67 rfl h17 h14 (fun q18 => ?_) (fun q18 => ?_)
        · have h := iteT h q18
          refine ok_iinc (L' := [(4, vI (x4 + 1)), (6, vI (iabs ((σ (25 + 3 * (x4.toNat)) p1.toNat) - p2))), (5, .ref (xad X (23 + 3 * (x4.toNat)))), (0, .ref (xad X 105)), (1, vI p1), (2, vI p2), (3, vI x3)]) 6 (pc := 77) dX2_near_77 rfl rfl rfl ?_
          refine ok_goto (tgt := 5) (pc := 80) dX2_near_80 rfl ?_
          obtain ⟨h19, h⟩ := h
          refine ok_sub (L' := [(0, .ref (xad X 105)), (1, vI p1), (2, vI p2), (3, vI x3), (4, vI (x4 + 1))]) [3,4,5,6,0] rfl ?_
          exact ih x3 (x4 + 1) σ16 hx3 h19 h
        · have h := iteF h q18
          refine ok_iload_n 5 (pc := 70) dX2_near_70 rfl rfl ?_
          refine ok_iconst (pc := 71) dX2_near_71 ?_
          refine ok_iload 6 (pc := 72) dX2_near_72 rfl ?_
          refine ok_ishl (pc := 74) dX2_near_74 ?_
          refine ok_ior (pc := 75) dX2_near_75 ?_
          refine ok_istore_n (L' := [(3, vI (ior x3 (ishl 1 x4))), (6, vI (iabs ((σ (25 + 3 * (x4.toNat)) p1.toNat) - p2))), (5, .ref (xad X (23 + 3 * (x4.toNat)))), (0, .ref (xad X 105)), (1, vI p1), (2, vI p2), (4, vI x4)]) (pc := 76) dX2_near_76 rfl rfl rfl ?_
          refine ok_iinc (L' := [(4, vI (x4 + 1)), (3, vI (ior x3 (ishl 1 x4))), (6, vI (iabs ((σ (25 + 3 * (x4.toNat)) p1.toNat) - p2))), (5, .ref (xad X (23 + 3 * (x4.toNat)))), (0, .ref (xad X 105)), (1, vI p1), (2, vI p2)]) 6 (pc := 77) dX2_near_77 rfl rfl rfl ?_
          refine ok_goto (tgt := 5) (pc := 80) dX2_near_80 rfl ?_
          obtain ⟨h20, h⟩ := h
          refine ok_sub (L' := [(0, .ref (xad X 105)), (1, vI p1), (2, vI p2), (3, vI (ior x3 (ishl 1 x4))), (4, vI (x4 + 1))]) [4,5,6,1,0] rfl ?_
          exact ih (ior x3 (ishl 1 x4)) (x4 + 1) σ16 (q_rng _) h20 h
set_option maxRecDepth 100000 in
set_option maxHeartbeats 4000000 in
theorem c_X2_near (X : XE) (p1 : Int) (p2 : Int) (hp1 : inR p1) (hp2 : inR p2) {σ : Mem} {Q : Int → Mem → Prop} (h : v_X2_near p1 p2 σ Q) : CT X yX2_near cX2_near 7 (some .int) rm_X2_near 1 [.ref (xad X 105), vI p1, vI p2] σ Q := by
  refine ct_of (own := RX2) (L := [(0, .ref (xad X 105)), (1, vI p1), (2, vI p2)]) rfl rfl (Nat.le_of_ble_eq_true rfl) rfl ?_
  refine ok_iconst (pc := 0) dX2_near_0 ?_
  refine ok_istore_n (L' := [(3, vI 0), (0, .ref (xad X 105)), (1, vI p1), (2, vI p2)]) (pc := 1) dX2_near_1 rfl rfl rfl ?_
  refine ok_iconst (pc := 2) dX2_near_2 ?_
  refine ok_istore (L' := [(4, vI 0), (3, vI 0), (0, .ref (xad X 105)), (1, vI p1), (2, vI p2)]) (pc := 3) dX2_near_3 rfl rfl ?_
  refine ok_sub (L' := [(0, .ref (xad X 105)), (1, vI p1), (2, vI p2), (3, vI 0), (4, vI 0)]) [2,3,4,1,0] rfl ?_
  obtain ⟨n1, h⟩ := h
  exact w_X2_near_5 X p1 p2 hp1 hp2 n1 0 0 σ (r_lit rfl) (r_lit rfl) h
theorem dX2_search_0 : decode cX2_search 0 = .ok (.aload_n 0, 1) := by decide +kernel
theorem dX2_search_1 : decode cX2_search 1 = .ok (.iload_n 1, 1) := by decide +kernel
theorem dX2_search_2 : decode cX2_search 2 = .ok (.sipush 1000, 3) := by decide +kernel
theorem dX2_search_5 : decode cX2_search 5 = .ok (.invokevirtual 22, 3) := by decide +kernel
theorem dX2_search_8 : decode cX2_search 8 = .ok (.istore_n 3, 1) := by decide +kernel
theorem dX2_search_9 : decode cX2_search 9 = .ok (.iload_n 2, 1) := by decide +kernel
theorem dX2_search_10 : decode cX2_search 10 = .ok (.bipush 10, 2) := by decide +kernel
theorem dX2_search_12 : decode cX2_search 12 = .ok (.if_icmp .lt 7, 3) := by decide +kernel
theorem dX2_search_15 : decode cX2_search 15 = .ok (.iload_n 3, 1) := by decide +kernel
theorem dX2_search_16 : decode cX2_search 16 = .ok (.ifCond .ne 5, 3) := by decide +kernel
theorem dX2_search_19 : decode cX2_search 19 = .ok (.iconst 0, 1) := by decide +kernel
theorem dX2_search_20 : decode cX2_search 20 = .ok (.ireturn, 1) := by decide +kernel
theorem dX2_search_21 : decode cX2_search 21 = .ok (.sipush 999, 3) := by decide +kernel
theorem dX2_search_24 : decode cX2_search 24 = .ok (.iload_n 2, 1) := by decide +kernel
theorem dX2_search_25 : decode cX2_search 25 = .ok (.idiv, 1) := by decide +kernel
theorem dX2_search_26 : decode cX2_search 26 = .ok (.istore 4, 2) := by decide +kernel
theorem dX2_search_28 : decode cX2_search 28 = .ok (.iconst 1, 1) := by decide +kernel
theorem dX2_search_29 : decode cX2_search 29 = .ok (.istore 5, 2) := by decide +kernel
theorem dX2_search_31 : decode cX2_search 31 = .ok (.iload 5, 2) := by decide +kernel
theorem dX2_search_33 : decode cX2_search 33 = .ok (.iload 4, 2) := by decide +kernel
theorem dX2_search_35 : decode cX2_search 35 = .ok (.if_icmp .gt 41, 3) := by decide +kernel
theorem dX2_search_38 : decode cX2_search 38 = .ok (.aload_n 0, 1) := by decide +kernel
theorem dX2_search_39 : decode cX2_search 39 = .ok (.getfield 11, 3) := by decide +kernel
theorem dX2_search_42 : decode cX2_search 42 = .ok (.iload 5, 2) := by decide +kernel
theorem dX2_search_44 : decode cX2_search 44 = .ok (.aload_n 0, 1) := by decide +kernel
theorem dX2_search_45 : decode cX2_search 45 = .ok (.iload_n 1, 1) := by decide +kernel
theorem dX2_search_46 : decode cX2_search 46 = .ok (.iload 5, 2) := by decide +kernel
theorem dX2_search_48 : decode cX2_search 48 = .ok (.iload_n 2, 1) := by decide +kernel
theorem dX2_search_49 : decode cX2_search 49 = .ok (.imul, 1) := by decide +kernel
theorem dX2_search_50 : decode cX2_search 50 = .ok (.invokevirtual 22, 3) := by decide +kernel
theorem dX2_search_53 : decode cX2_search 53 = .ok (.iastore, 1) := by decide +kernel
theorem dX2_search_54 : decode cX2_search 54 = .ok (.aload_n 0, 1) := by decide +kernel
theorem dX2_search_55 : decode cX2_search 55 = .ok (.getfield 15, 3) := by decide +kernel
theorem dX2_search_58 : decode cX2_search 58 = .ok (.iload 5, 2) := by decide +kernel
theorem dX2_search_60 : decode cX2_search 60 = .ok (.aload_n 0, 1) := by decide +kernel
theorem dX2_search_61 : decode cX2_search 61 = .ok (.iload_n 1, 1) := by decide +kernel
theorem dX2_search_62 : decode cX2_search 62 = .ok (.iload 5, 2) := by decide +kernel
theorem dX2_search_64 : decode cX2_search 64 = .ok (.iload_n 2, 1) := by decide +kernel
theorem dX2_search_65 : decode cX2_search 65 = .ok (.imul, 1) := by decide +kernel
theorem dX2_search_66 : decode cX2_search 66 = .ok (.invokevirtual 26, 3) := by decide +kernel
theorem dX2_search_69 : decode cX2_search 69 = .ok (.iastore, 1) := by decide +kernel
theorem dX2_search_70 : decode cX2_search 70 = .ok (.iinc 5 1, 3) := by decide +kernel
theorem dX2_search_73 : decode cX2_search 73 = .ok (.goto (-42), 3) := by decide +kernel
theorem dX2_search_76 : decode cX2_search 76 = .ok (.iconst 0, 1) := by decide +kernel
theorem dX2_search_77 : decode cX2_search 77 = .ok (.istore 5, 2) := by decide +kernel
theorem dX2_search_79 : decode cX2_search 79 = .ok (.iconst 1, 1) := by decide +kernel
theorem dX2_search_80 : decode cX2_search 80 = .ok (.istore 6, 2) := by decide +kernel
theorem dX2_search_82 : decode cX2_search 82 = .ok (.iload 6, 2) := by decide +kernel
theorem dX2_search_84 : decode cX2_search 84 = .ok (.iload 4, 2) := by decide +kernel
theorem dX2_search_86 : decode cX2_search 86 = .ok (.if_icmp .gt 144, 3) := by decide +kernel
theorem dX2_search_89 : decode cX2_search 89 = .ok (.iload 6, 2) := by decide +kernel
theorem dX2_search_91 : decode cX2_search 91 = .ok (.iconst 1, 1) := by decide +kernel
theorem dX2_search_92 : decode cX2_search 92 = .ok (.iadd, 1) := by decide +kernel
theorem dX2_search_93 : decode cX2_search 93 = .ok (.istore 7, 2) := by decide +kernel
theorem dX2_search_95 : decode cX2_search 95 = .ok (.iload 7, 2) := by decide +kernel
theorem dX2_search_97 : decode cX2_search 97 = .ok (.iload 4, 2) := by decide +kernel
theorem dX2_search_99 : decode cX2_search 99 = .ok (.if_icmp .gt 125, 3) := by decide +kernel
theorem dX2_search_102 : decode cX2_search 102 = .ok (.aload_n 0, 1) := by decide +kernel
theorem dX2_search_103 : decode cX2_search 103 = .ok (.aload_n 0, 1) := by decide +kernel
theorem dX2_search_104 : decode cX2_search 104 = .ok (.getfield 11, 3) := by decide +kernel
theorem dX2_search_107 : decode cX2_search 107 = .ok (.iload 6, 2) := by decide +kernel
theorem dX2_search_109 : decode cX2_search 109 = .ok (.iaload, 1) := by decide +kernel
theorem dX2_search_110 : decode cX2_search 110 = .ok (.aload_n 0, 1) := by decide +kernel
theorem dX2_search_111 : decode cX2_search 111 = .ok (.getfield 11, 3) := by decide +kernel
theorem dX2_search_114 : decode cX2_search 114 = .ok (.iload 7, 2) := by decide +kernel
theorem dX2_search_116 : decode cX2_search 116 = .ok (.iaload, 1) := by decide +kernel
theorem dX2_search_117 : decode cX2_search 117 = .ok (.iload_n 3, 1) := by decide +kernel
theorem dX2_search_118 : decode cX2_search 118 = .ok (.invokevirtual 29, 3) := by decide +kernel
theorem dX2_search_121 : decode cX2_search 121 = .ok (.istore 8, 2) := by decide +kernel
theorem dX2_search_123 : decode cX2_search 123 = .ok (.aload_n 0, 1) := by decide +kernel
theorem dX2_search_124 : decode cX2_search 124 = .ok (.getfield 15, 3) := by decide +kernel
theorem dX2_search_127 : decode cX2_search 127 = .ok (.iload 6, 2) := by decide +kernel
theorem dX2_search_129 : decode cX2_search 129 = .ok (.iaload, 1) := by decide +kernel
theorem dX2_search_130 : decode cX2_search 130 = .ok (.aload_n 0, 1) := by decide +kernel
theorem dX2_search_131 : decode cX2_search 131 = .ok (.getfield 15, 3) := by decide +kernel
theorem dX2_search_134 : decode cX2_search 134 = .ok (.iload 7, 2) := by decide +kernel
theorem dX2_search_136 : decode cX2_search 136 = .ok (.iaload, 1) := by decide +kernel
theorem dX2_search_137 : decode cX2_search 137 = .ok (.ior, 1) := by decide +kernel
theorem dX2_search_138 : decode cX2_search 138 = .ok (.invokestatic 33, 3) := by decide +kernel
theorem dX2_search_141 : decode cX2_search 141 = .ok (.istore 9, 2) := by decide +kernel
theorem dX2_search_143 : decode cX2_search 143 = .ok (.iload 8, 2) := by decide +kernel
theorem dX2_search_145 : decode cX2_search 145 = .ok (.aload_n 0, 1) := by decide +kernel
theorem dX2_search_146 : decode cX2_search 146 = .ok (.getfield 39, 3) := by decide +kernel
theorem dX2_search_149 : decode cX2_search 149 = .ok (.if_icmp .lt 21, 3) := by decide +kernel
theorem dX2_search_152 : decode cX2_search 152 = .ok (.iload 8, 2) := by decide +kernel
theorem dX2_search_154 : decode cX2_search 154 = .ok (.aload_n 0, 1) := by decide +kernel
theorem dX2_search_155 : decode cX2_search 155 = .ok (.getfield 39, 3) := by decide +kernel
theorem dX2_search_158 : decode cX2_search 158 = .ok (.if_icmp .ne 16, 3) := by decide +kernel
theorem dX2_search_161 : decode cX2_search 161 = .ok (.iload 9, 2) := by decide +kernel
theorem dX2_search_163 : decode cX2_search 163 = .ok (.aload_n 0, 1) := by decide +kernel
theorem dX2_search_164 : decode cX2_search 164 = .ok (.getfield 43, 3) := by decide +kernel
theorem dX2_search_167 : decode cX2_search 167 = .ok (.if_icmp .ge 7, 3) := by decide +kernel
theorem dX2_search_170 : decode cX2_search 170 = .ok (.iconst 1, 1) := by decide +kernel
theorem dX2_search_171 : decode cX2_search 171 = .ok (.goto 4, 3) := by decide +kernel
theorem dX2_search_174 : decode cX2_search 174 = .ok (.iconst 0, 1) := by decide +kernel
theorem dX2_search_175 : decode cX2_search 175 = .ok (.istore 10, 2) := by decide +kernel
theorem dX2_search_177 : decode cX2_search 177 = .ok (.iload 5, 2) := by decide +kernel
theorem dX2_search_179 : decode cX2_search 179 = .ok (.ifCond .eq 8, 3) := by decide +kernel
theorem dX2_search_182 : decode cX2_search 182 = .ok (.iload 10, 2) := by decide +kernel
theorem dX2_search_184 : decode cX2_search 184 = .ok (.ifCond .eq 34, 3) := by decide +kernel
theorem dX2_search_187 : decode cX2_search 187 = .ok (.iconst 1, 1) := by decide +kernel
theorem dX2_search_188 : decode cX2_search 188 = .ok (.istore 5, 2) := by decide +kernel
theorem dX2_search_190 : decode cX2_search 190 = .ok (.aload_n 0, 1) := by decide +kernel
theorem dX2_search_191 : decode cX2_search 191 = .ok (.iload 6, 2) := by decide +kernel
theorem dX2_search_193 : decode cX2_search 193 = .ok (.iload_n 2, 1) := by decide +kernel
theorem dX2_search_194 : decode cX2_search 194 = .ok (.imul, 1) := by decide +kernel
theorem dX2_search_195 : decode cX2_search 195 = .ok (.putfield 46, 3) := by decide +kernel
theorem dX2_search_198 : decode cX2_search 198 = .ok (.aload_n 0, 1) := by decide +kernel
theorem dX2_search_199 : decode cX2_search 199 = .ok (.iload 7, 2) := by decide +kernel
theorem dX2_search_201 : decode cX2_search 201 = .ok (.iload_n 2, 1) := by decide +kernel
theorem dX2_search_202 : decode cX2_search 202 = .ok (.imul, 1) := by decide +kernel
theorem dX2_search_203 : decode cX2_search 203 = .ok (.putfield 49, 3) := by decide +kernel
theorem dX2_search_206 : decode cX2_search 206 = .ok (.aload_n 0, 1) := by decide +kernel
theorem dX2_search_207 : decode cX2_search 207 = .ok (.iload 8, 2) := by decide +kernel
theorem dX2_search_209 : decode cX2_search 209 = .ok (.putfield 39, 3) := by decide +kernel
theorem dX2_search_212 : decode cX2_search 212 = .ok (.aload_n 0, 1) := by decide +kernel
theorem dX2_search_213 : decode cX2_search 213 = .ok (.iload 9, 2) := by decide +kernel
theorem dX2_search_215 : decode cX2_search 215 = .ok (.putfield 43, 3) := by decide +kernel
theorem dX2_search_218 : decode cX2_search 218 = .ok (.iinc 7 1, 3) := by decide +kernel
theorem dX2_search_221 : decode cX2_search 221 = .ok (.goto (-126), 3) := by decide +kernel
theorem dX2_search_224 : decode cX2_search 224 = .ok (.iinc 6 1, 3) := by decide +kernel
theorem dX2_search_227 : decode cX2_search 227 = .ok (.goto (-145), 3) := by decide +kernel
theorem dX2_search_230 : decode cX2_search 230 = .ok (.iload 5, 2) := by decide +kernel
theorem dX2_search_232 : decode cX2_search 232 = .ok (.ireturn, 1) := by decide +kernel
set_option maxRecDepth 100000 in
set_option maxHeartbeats 4000000 in
theorem w_X2_search_187 (X : XE) (p1 : Int) (p2 : Int) (hp1 : inR p1) (hp2 : inR p2) (x3 : Int) (x4 : Int) (x6 : Int) (x7 : Int) (x8 : Int) (x9 : Int) (hx3 : inR x3) (hx4 : inR x4) (hx6 : inR x6) (hx7 : inR x7) (hx8 : inR x8) (hx9 : inR x9) {K82 : Int → Int → Mem → Prop} {K95 : Int → Int → Mem → Prop} {Q : Int → Mem → Prop} (hK82 : ∀ (x5 : Int) (x6 : Int) (σ : Mem), inR x5 → inR x6 → K82 x5 x6 σ → ok X rm_X2_search RX2 cX2_search 11 (some .boolean) 1 Q 82 [(0, .ref (xad X 105)), (2, vI p2), (3, vI x3), (4, vI x4), (5, vI x5), (6, vI x6)] [] σ) (hK95 : ∀ (x5 : Int) (x7 : Int) (σ : Mem), inR x5 → inR x7 → K95 x5 x7 σ → ok X rm_X2_search RX2 cX2_search 11 (some .boolean) 1 Q 95 [(0, .ref (xad X 105)), (2, vI p2), (3, vI x3), (4, vI x4), (5, vI x5), (6, vI x6), (7, vI x7)] [] σ) {σ : Mem} (h : j_X2_search_187 p1 p2 K82 K95 Q x3 x4 x6 x7 x8 x9 σ) : ok X rm_X2_search RX2 cX2_search 11 (some .boolean) 1 Q 187 [(0, .ref (xad X 105)), (2, vI p2), (3, vI x3), (4, vI x4), (6, vI x6), (7, vI x7), (8, vI x8), (9, vI x9)] [] σ := by
  refine ok_iconst (pc := 187) dX2_search_187 ?_
  refine ok_istore (L' := [(5, vI 1), (0, .ref (xad X 105)), (2, vI p2), (3, vI x3), (4, vI x4), (6, vI x6), (7, vI x7), (8, vI x8), (9, vI x9)]) (pc := 188) dX2_search_188 rfl rfl ?_
  refine ok_aload_n 1 (pc := 190) dX2_search_190 rfl rfl ?_
  refine ok_iload 5 (pc := 191) dX2_search_191 rfl ?_
  refine ok_iload_n 2 (pc := 193) dX2_search_193 rfl rfl ?_
  refine ok_imul (pc := 194) dX2_search_194 ?_
  obtain ⟨h1, h⟩ := h
  refine ok_putI (pc := 195) dX2_search_195 fl_X2_46 fp_X2_1 sh_105 (Nat.le_of_ble_eq_true rfl) rfl rfl h1 rfl rfl ?_
  refine ok_aload_n 1 (pc := 198) dX2_search_198 rfl rfl ?_
  refine ok_iload 6 (pc := 199) dX2_search_199 rfl ?_
  refine ok_iload_n 2 (pc := 201) dX2_search_201 rfl rfl ?_
  refine ok_imul (pc := 202) dX2_search_202 ?_
  obtain ⟨h2, h⟩ := h
  refine ok_putI (pc := 203) dX2_search_203 fl_X2_49 fp_X2_2 sh_105 (Nat.le_of_ble_eq_true rfl) rfl rfl h2 rfl rfl ?_
  refine ok_aload_n 1 (pc := 206) dX2_search_206 rfl rfl ?_
  refine ok_iload 7 (pc := 207) dX2_search_207 rfl ?_
  refine ok_putI (pc := 209) dX2_search_209 fl_X2_39 fp_X2_3 sh_105 (Nat.le_of_ble_eq_true rfl) rfl rfl hx8 rfl rfl ?_
  refine ok_aload_n 1 (pc := 212) dX2_search_212 rfl rfl ?_
  refine ok_iload 8 (pc := 213) dX2_search_213 rfl ?_
  refine ok_putI (pc := 215) dX2_search_215 fl_X2_43 fp_X2_4 sh_105 (Nat.le_of_ble_eq_true rfl) rfl rfl hx9 rfl rfl ?_
  refine ok_iinc (L' := [(7, vI (x7 + 1)), (5, vI 1), (0, .ref (xad X 105)), (2, vI p2), (3, vI x3), (4, vI x4), (6, vI x6), (8, vI x8), (9, vI x9)]) 6 (pc := 218) dX2_search_218 rfl rfl rfl ?_
  refine ok_goto (tgt := 95) (pc := 221) dX2_search_221 rfl ?_
  obtain ⟨h3, h⟩ := h
  refine ok_sub (L' := [(0, .ref (xad X 105)), (2, vI p2), (3, vI x3), (4, vI x4), (5, vI 1), (6, vI x6), (7, vI (x7 + 1))]) [2,3,4,5,1,6,0] rfl ?_
  exact hK95 1 (x7 + 1) (mset (mset (mset (mset σ 105 1 (x6 * p2)) 105 2 (x7 * p2)) 105 3 x8) 105 4 x9) (r_lit rfl) h3 h
set_option maxRecDepth 100000 in
set_option maxHeartbeats 4000000 in
theorem w_X2_search_175 (X : XE) (p1 : Int) (p2 : Int) (hp1 : inR p1) (hp2 : inR p2) (x3 : Int) (x4 : Int) (x5 : Int) (x6 : Int) (x7 : Int) (x8 : Int) (x9 : Int) (s0 : Int) (hx3 : inR x3) (hx4 : inR x4) (hx5 : inR x5) (hx6 : inR x6) (hx7 : inR x7) (hx8 : inR x8) (hx9 : inR x9) (hs0 : inR s0) {K82 : Int → Int → Mem → Prop} {K95 : Int → Int → Mem → Prop} {Q : Int → Mem → Prop} (hK82 : ∀ (x5 : Int) (x6 : Int) (σ : Mem), inR x5 → inR x6 → K82 x5 x6 σ → ok X rm_X2_search RX2 cX2_search 11 (some .boolean) 1 Q 82 [(0, .ref (xad X 105)), (2, vI p2), (3, vI x3), (4, vI x4), (5, vI x5), (6, vI x6)] [] σ) (hK95 : ∀ (x5 : Int) (x7 : Int) (σ : Mem), inR x5 → inR x7 → K95 x5 x7 σ → ok X rm_X2_search RX2 cX2_search 11 (some .boolean) 1 Q 95 [(0, .ref (xad X 105)), (2, vI p2), (3, vI x3), (4, vI x4), (5, vI x5), (6, vI x6), (7, vI x7)] [] σ) {σ : Mem} (h : j_X2_search_175 p1 p2 K82 K95 Q x3 x4 x5 x6 x7 x8 x9 s0 σ) : ok X rm_X2_search RX2 cX2_search 11 (some .boolean) 1 Q 175 [(0, .ref (xad X 105)), (2, vI p2), (3, vI x3), (4, vI x4), (5, vI x5), (6, vI x6), (7, vI x7), (8, vI x8), (9, vI x9)] [vI s0] σ := by
  refine ok_istore (L' := [(10, vI s0), (0, .ref (xad X 105)), (2, vI p2), (3, vI x3), (4, vI x4), (5, vI x5), (6, vI x6), (7, vI x7), (8, vI x8), (9, vI x9)]) (pc := 175) dX2_search_175 rfl rfl ?_
  refine ok_iload 5 (pc := 177) dX2_search_177 rfl ?_
  refine ok_if_eq (tgt := 187) (pc := 179) dX2_search_179 rfl hx5 (fun q1 => ?_) (fun q1 => ?_)
  · have h := iteT h q1
    refine ok_sub (L' := [(0, .ref (xad X 105)), (2, vI p2), (3, vI x3), (4, vI x4), (6, vI x6), (7, vI x7), (8, vI x8), (9, vI x9)]) [1,2,3,4,6,7,8,9] rfl ?_
    exact w_X2_search_187 X p1 p2 hp1 hp2 x3 x4 x6 x7 x8 x9 hx3 hx4 hx6 hx7 hx8 hx9 hK82 hK95 h
  · have h := iteF h q1
    refine ok_iload 0 (pc := 182) dX2_search_182 rfl ?_
    refine ok_if_eq (tgt := 218) (pc := 184) dX2_search_184 rfl hs0 (fun q2 => ?_) (fun q2 => ?_)
    · have h := iteT h q2
      refine ok_iinc (L' := [(7, vI (x7 + 1)), (10, vI s0), (0, .ref (xad X 105)), (2, vI p2), (3, vI x3), (4, vI x4), (5, vI x5), (6, vI x6), (8, vI x8), (9, vI x9)]) 7 (pc := 218) dX2_search_218 rfl rfl rfl ?_
      refine ok_goto (tgt := 95) (pc := 221) dX2_search_221 rfl ?_
      obtain ⟨h3, h⟩ := h
      refine ok_sub (L' := [(0, .ref (xad X 105)), (2, vI p2), (3, vI x3), (4, vI x4), (5, vI x5), (6, vI x6), (7, vI (x7 + 1))]) [2,3,4,5,6,7,0] rfl ?_
      exact hK95 x5 (x7 + 1) σ hx5 h3 h
    · have h := iteF h q2
      refine ok_sub (L' := [(0, .ref (xad X 105)), (2, vI p2), (3, vI x3), (4, vI x4), (6, vI x6), (7, vI x7), (8, vI x8), (9, vI x9)]) [1,2,3,4,6,7,8,9] rfl ?_
      exact w_X2_search_187 X p1 p2 hp1 hp2 x3 x4 x6 x7 x8 x9 hx3 hx4 hx6 hx7 hx8 hx9 hK82 hK95 h
set_option maxRecDepth 100000 in
set_option maxHeartbeats 4000000 in
theorem w_X2_search_95 (X : XE) (p1 : Int) (p2 : Int) (hp1 : inR p1) (hp2 : inR p2) (x3 : Int) (x4 : Int) (x6 : Int) (hx3 : inR x3) (hx4 : inR x4) (hx6 : inR x6) {K82 : Int → Int → Mem → Prop} {Q : Int → Mem → Prop} (hK82 : ∀ (x5 : Int) (x6 : Int) (σ : Mem), inR x5 → inR x6 → K82 x5 x6 σ → ok X rm_X2_search RX2 cX2_search 11 (some .boolean) 1 Q 82 [(0, .ref (xad X 105)), (2, vI p2), (3, vI x3), (4, vI x4), (5, vI x5), (6, vI x6)] [] σ) : ∀ (n : Nat) (x5 : Int) (x7 : Int) (σ : Mem), inR x5 → inR x7 → l_X2_search_95 p1 p2 x3 x4 x6 K82 Q n x5 x7 σ → ok X rm_X2_search RX2 cX2_search 11 (some .boolean) 1 Q 95 [(0, .ref (xad X 105)), (2, vI p2), (3, vI x3), (4, vI x4), (5, vI x5), (6, vI x6), (7, vI x7)] [] σ := by
  intro n
  induction n with
  | zero => intro x5 x7 σ hx5 hx7 h; exact False.elim h
  | succ n ih =>
    intro x5 x7 σ hx5 hx7 h
    refine ok_iload 6 (pc := 95) dX2_search_95 rfl ?_
    refine ok_iload 3 (pc := 97) dX2_search_97 rfl ?_
    refine ok_icmp_gt (tgt := 224) (pc := 99) dX2_search_99 rfl hx7 hx4 (fun q1 => ?_) (fun q1 => ?_)
    · have h := iteT h q1
      refine ok_iinc (L' := [(6, vI (x6 + 1)), (0, .ref (xad X 105)), (2, vI p2), (3, vI x3), (4, vI x4), (5, vI x5), (7, vI x7)]) 5 (pc := 224) dX2_search_224 rfl rfl rfl ?_
      refine ok_goto (tgt := 82) (pc := 227) dX2_search_227 rfl ?_
      obtain ⟨h2, h⟩ := h
      refine ok_sub (L' := [(0, .ref (xad X 105)), (2, vI p2), (3, vI x3), (4, vI x4), (5, vI x5), (6, vI (x6 + 1))]) [1,2,3,4,5,0] rfl ?_
      exact hK82 x5 (x6 + 1) σ hx5 h2 h
    · have h := iteF h q1
      refine ok_aload_n 0 (pc := 102) dX2_search_102 rfl rfl ?_
      refine ok_aload_n 0 (pc := 103) dX2_search_103 rfl rfl ?_
      refine ok_getR (pc := 104) dX2_search_104 fl_X2_11 sh_105 (Nat.le_of_ble_eq_true rfl) rfl rfl ?_
      refine ok_iload 5 (pc := 107) dX2_search_107 rfl ?_
      obtain ⟨h3, h⟩ := h
      obtain ⟨h4, h⟩ := h
      refine ok_wf (fun hw5 => ?_)
      refine ok_iald (pc := 109) dX2_search_109 sh_106 (Nat.le_of_ble_eq_true rfl) rfl h3 h4 ?_
      refine ok_aload_n 0 (pc := 110) dX2_search_110 rfl rfl ?_
      refine ok_getR (pc := 111) dX2_search_111 fl_X2_11 sh_105 (Nat.le_of_ble_eq_true rfl) rfl rfl ?_
      refine ok_iload 6 (pc := 114) dX2_search_114 rfl ?_
      obtain ⟨h6, h⟩ := h
      obtain ⟨h7, h⟩ := h
      refine ok_iald (pc := 116) dX2_search_116 sh_106 (Nat.le_of_ble_eq_true rfl) rfl h6 h7 ?_
      refine ok_iload_n 2 (pc := 117) dX2_search_117 rfl rfl ?_
      refine ok_callVi (As := [vI (σ 106 x6.toNat), vI (σ 106 x7.toNat), vI x3]) (rest := []) (rm := rm_X2_difference) (pc := 118) dX2_search_118 me_X2_difference ml_X2_29 (ci := 2) rfl sh_105 (Nat.le_of_ble_eq_true rfl) rfl des_X2_difference rfl ⟨rfl, rfl, rfl, rfl⟩ rfl rfl (c_X2_difference X (σ 106 x6.toNat) (σ 106 x7.toNat) x3 (hw5 _ _) (hw5 _ _) hx3 h) (fun r9 σ10 h8 h => ?_)
      refine ok_istore (L' := [(8, vI r9), (0, .ref (xad X 105)), (2, vI p2), (3, vI x3), (4, vI x4), (5, vI x5), (6, vI x6), (7, vI x7)]) (pc := 121) dX2_search_121 rfl rfl ?_
      refine ok_aload_n 1 (pc := 123) dX2_search_123 rfl rfl ?_
      refine ok_getR (pc := 124) dX2_search_124 fl_X2_15 sh_105 (Nat.le_of_ble_eq_true rfl) rfl rfl ?_
      refine ok_iload 6 (pc := 127) dX2_search_127 rfl ?_
      refine ok_wf (fun hw11 => ?_)
      refine ok_iald (pc := 129) dX2_search_129 sh_107 (Nat.le_of_ble_eq_true rfl) rfl h3 h4 ?_
      refine ok_aload_n 1 (pc := 130) dX2_search_130 rfl rfl ?_
      refine ok_getR (pc := 131) dX2_search_131 fl_X2_15 sh_105 (Nat.le_of_ble_eq_true rfl) rfl rfl ?_
      refine ok_iload 7 (pc := 134) dX2_search_134 rfl ?_
      refine ok_iald (pc := 136) dX2_search_136 sh_107 (Nat.le_of_ble_eq_true rfl) rfl h6 h7 ?_
      refine ok_ior (pc := 137) dX2_search_137 ?_
      refine ok_callSi (As := [vI (ior (σ10 107 x6.toNat) (σ10 107 x7.toNat))]) (rest := []) (rm := rm_J6_bitCount_0f7a4) (pc := 138) dX2_search_138 me_J6_bitCount_0f7a4 ml_X2_33 des_J6_bitCount_0f7a4 rfl ⟨rfl, rfl, rfl, rfl⟩ rfl rfl (c_J6_bitCount_0f7a4 X (ior (σ10 107 x6.toNat) (σ10 107 x7.toNat)) (q_rng _) h) (fun r13 σ14 h12 h => ?_)
      refine ok_istore (L' := [(9, vI r13), (8, vI r9), (0, .ref (xad X 105)), (2, vI p2), (3, vI x3), (4, vI x4), (5, vI x5), (6, vI x6), (7, vI x7)]) (pc := 141) dX2_search_141 rfl rfl ?_
      refine ok_iload 1 (pc := 143) dX2_search_143 rfl ?_
      refine ok_aload_n 2 (pc := 145) dX2_search_145 rfl rfl ?_
      refine ok_wf (fun hw15 => ?_)
      refine ok_getI (pc := 146) dX2_search_146 fl_X2_39 sh_105 (Nat.le_of_ble_eq_true rfl) rfl rfl ?_
      refine ok_icmp_lt (tgt := 170) (pc := 149) dX2_search_149 rfl h8 (hw15 _ _) (fun q16 => ?_) (fun q16 => ?_)
      · simp only [if_pos q16] at h
        refine ok_iconst (pc := 170) dX2_search_170 ?_
        refine ok_goto (tgt := 175) (pc := 171) dX2_search_171 rfl ?_
        refine ok_sub (L' := [(0, .ref (xad X 105)), (2, vI p2), (3, vI x3), (4, vI x4), (5, vI x5), (6, vI x6), (7, vI x7), (8, vI r9), (9, vI r13)]) [2,3,4,5,6,7,8,1,0] rfl ?_
        exact w_X2_search_175 X p1 p2 hp1 hp2 x3 x4 x5 x6 x7 r9 r13 1 hx3 hx4 hx5 hx6 hx7 h8 h12 (r_lit rfl) hK82 (fun x5_ x7_ σ_ hx5_ hx7_ h_ => ih x5_ x7_ σ_ hx5_ hx7_ h_) h
      · simp only [if_neg q16] at h
        refine ok_iload 1 (pc := 152) dX2_search_152 rfl ?_
        refine ok_aload_n 2 (pc := 154) dX2_search_154 rfl rfl ?_
        refine ok_getI (pc := 155) dX2_search_155 fl_X2_39 sh_105 (Nat.le_of_ble_eq_true rfl) rfl rfl ?_
        refine ok_icmp_ne (tgt := 174) (pc := 158) dX2_search_158 rfl h8 (hw15 _ _) (fun q17 => ?_) (fun q17 => ?_)
        · simp only [if_neg q17] at h
          refine ok_iconst (pc := 174) dX2_search_174 ?_
          refine ok_sub (L' := [(0, .ref (xad X 105)), (2, vI p2), (3, vI x3), (4, vI x4), (5, vI x5), (6, vI x6), (7, vI x7), (8, vI r9), (9, vI r13)]) [2,3,4,5,6,7,8,1,0] rfl ?_
          exact w_X2_search_175 X p1 p2 hp1 hp2 x3 x4 x5 x6 x7 r9 r13 0 hx3 hx4 hx5 hx6 hx7 h8 h12 (r_lit rfl) hK82 (fun x5_ x7_ σ_ hx5_ hx7_ h_ => ih x5_ x7_ σ_ hx5_ hx7_ h_) h
        · simp only [if_pos q17] at h
          refine ok_iload 0 (pc := 161) dX2_search_161 rfl ?_
          refine ok_aload_n 2 (pc := 163) dX2_search_163 rfl rfl ?_
          refine ok_getI (pc := 164) dX2_search_164 fl_X2_43 sh_105 (Nat.le_of_ble_eq_true rfl) rfl rfl ?_
          refine ok_icmp_ge (tgt := 174) (pc := 167) dX2_search_167 rfl h12 (hw15 _ _) (fun q18 => ?_) (fun q18 => ?_)
          · simp only [if_neg q18] at h
            refine ok_iconst (pc := 174) dX2_search_174 ?_
            refine ok_sub (L' := [(0, .ref (xad X 105)), (2, vI p2), (3, vI x3), (4, vI x4), (5, vI x5), (6, vI x6), (7, vI x7), (8, vI r9), (9, vI r13)]) [2,3,4,5,6,7,8,1,0] rfl ?_
            exact w_X2_search_175 X p1 p2 hp1 hp2 x3 x4 x5 x6 x7 r9 r13 0 hx3 hx4 hx5 hx6 hx7 h8 h12 (r_lit rfl) hK82 (fun x5_ x7_ σ_ hx5_ hx7_ h_ => ih x5_ x7_ σ_ hx5_ hx7_ h_) h
          · simp only [if_pos q18] at h
            refine ok_iconst (pc := 170) dX2_search_170 ?_
            refine ok_goto (tgt := 175) (pc := 171) dX2_search_171 rfl ?_
            refine ok_sub (L' := [(0, .ref (xad X 105)), (2, vI p2), (3, vI x3), (4, vI x4), (5, vI x5), (6, vI x6), (7, vI x7), (8, vI r9), (9, vI r13)]) [2,3,4,5,6,7,8,1,0] rfl ?_
            exact w_X2_search_175 X p1 p2 hp1 hp2 x3 x4 x5 x6 x7 r9 r13 1 hx3 hx4 hx5 hx6 hx7 h8 h12 (r_lit rfl) hK82 (fun x5_ x7_ σ_ hx5_ hx7_ h_ => ih x5_ x7_ σ_ hx5_ hx7_ h_) h
set_option maxRecDepth 100000 in
set_option maxHeartbeats 4000000 in
theorem w_X2_search_82 (X : XE) (p1 : Int) (p2 : Int) (hp1 : inR p1) (hp2 : inR p2) (x3 : Int) (x4 : Int) (hx3 : inR x3) (hx4 : inR x4) {Q : Int → Mem → Prop} : ∀ (n : Nat) (x5 : Int) (x6 : Int) (σ : Mem), inR x5 → inR x6 → l_X2_search_82 p1 p2 x3 x4 Q n x5 x6 σ → ok X rm_X2_search RX2 cX2_search 11 (some .boolean) 1 Q 82 [(0, .ref (xad X 105)), (2, vI p2), (3, vI x3), (4, vI x4), (5, vI x5), (6, vI x6)] [] σ := by
  intro n
  induction n with
  | zero => intro x5 x6 σ hx5 hx6 h; exact False.elim h
  | succ n ih =>
    intro x5 x6 σ hx5 hx6 h
    refine ok_iload 5 (pc := 82) dX2_search_82 rfl ?_
    refine ok_iload 3 (pc := 84) dX2_search_84 rfl ?_
    refine ok_icmp_gt (tgt := 230) (pc := 86) dX2_search_86 rfl hx6 hx4 (fun q1 => ?_) (fun q1 => ?_)
    · have h := iteT h q1
      refine ok_iload 4 (pc := 230) dX2_search_230 rfl ?_
      obtain ⟨h2, h⟩ := h
      exact ok_iret (pc := 232) dX2_search_232 rfl rfl (nr_z h2) hx5 h
    · have h := iteF h q1
      refine ok_iload 5 (pc := 89) dX2_search_89 rfl ?_
      refine ok_iconst (pc := 91) dX2_search_91 ?_
      refine ok_iadd (pc := 92) dX2_search_92 ?_
      refine ok_istore (L' := [(7, vI (x6 + 1)), (0, .ref (xad X 105)), (2, vI p2), (3, vI x3), (4, vI x4), (5, vI x5), (6, vI x6)]) (pc := 93) dX2_search_93 rfl rfl ?_
      obtain ⟨h3, h⟩ := h
      refine ok_sub (L' := [(0, .ref (xad X 105)), (2, vI p2), (3, vI x3), (4, vI x4), (5, vI x5), (6, vI x6), (7, vI (x6 + 1))]) [1,2,3,4,5,6,0] rfl ?_
      obtain ⟨n4, h⟩ := h
      exact w_X2_search_95 X p1 p2 hp1 hp2 x3 x4 x6 hx3 hx4 hx6 (fun x5_ x6_ σ_ hx5_ hx6_ h_ => ih x5_ x6_ σ_ hx5_ hx6_ h_) n4 x5 (x6 + 1) σ hx5 h3 h
set_option maxRecDepth 100000 in
set_option maxHeartbeats 4000000 in
theorem w_X2_search_31 (X : XE) (p1 : Int) (p2 : Int) (hp1 : inR p1) (hp2 : inR p2) (x3 : Int) (x4 : Int) (hx3 : inR x3) (hx4 : inR x4) {Q : Int → Mem → Prop} : ∀ (n : Nat) (x5 : Int) (σ : Mem), inR x5 → l_X2_search_31 p1 p2 x3 x4 Q n x5 σ → ok X rm_X2_search RX2 cX2_search 11 (some .boolean) 1 Q 31 [(0, .ref (xad X 105)), (1, vI p1), (2, vI p2), (3, vI x3), (4, vI x4), (5, vI x5)] [] σ := by
  intro n
  induction n with
  | zero => intro x5 σ hx5 h; exact False.elim h
  | succ n ih =>
    intro x5 σ hx5 h
    refine ok_iload 5 (pc := 31) dX2_search_31 rfl ?_
    refine ok_iload 4 (pc := 33) dX2_search_33 rfl ?_
    refine ok_icmp_gt (tgt := 76) (pc := 35) dX2_search_35 rfl hx5 hx4 (fun q1 => ?_) (fun q1 => ?_)
    · have h := iteT h q1
      refine ok_iconst (pc := 76) dX2_search_76 ?_
      refine ok_istore (L' := [(5, vI 0), (0, .ref (xad X 105)), (1, vI p1), (2, vI p2), (3, vI x3), (4, vI x4)]) (pc := 77) dX2_search_77 rfl rfl ?_
      refine ok_iconst (pc := 79) dX2_search_79 ?_
      refine ok_istore (L' := [(6, vI 1), (5, vI 0), (0, .ref (xad X 105)), (1, vI p1), (2, vI p2), (3, vI x3), (4, vI x4)]) (pc := 80) dX2_search_80 rfl rfl ?_
      refine ok_sub (L' := [(0, .ref (xad X 105)), (2, vI p2), (3, vI x3), (4, vI x4), (5, vI 0), (6, vI 1)]) [2,4,5,6,1,0] rfl ?_
      obtain ⟨n2, h⟩ := h
      exact w_X2_search_82 X p1 p2 hp1 hp2 x3 x4 hx3 hx4 n2 0 1 σ (r_lit rfl) (r_lit rfl) h
    · have h := iteF h q1
      refine ok_aload_n 0 (pc := 38) dX2_search_38 rfl rfl ?_
      refine ok_getR (pc := 39) dX2_search_39 fl_X2_11 sh_105 (Nat.le_of_ble_eq_true rfl) rfl rfl ?_
      refine ok_iload 5 (pc := 42) dX2_search_42 rfl ?_
      refine ok_aload_n 0 (pc := 44) dX2_search_44 rfl rfl ?_
      refine ok_iload_n 1 (pc := 45) dX2_search_45 rfl rfl ?_
      refine ok_iload 5 (pc := 46) dX2_search_46 rfl ?_
      refine ok_iload_n 2 (pc := 48) dX2_search_48 rfl rfl ?_
      refine ok_imul (pc := 49) dX2_search_49 ?_
      obtain ⟨h3, h⟩ := h
      refine ok_callVi (As := [vI p1, vI (x5 * p2)]) (rest := [vI x5, .ref (xad X 106)]) (rm := rm_X2_below) (pc := 50) dX2_search_50 me_X2_below ml_X2_22 (ci := 2) rfl sh_105 (Nat.le_of_ble_eq_true rfl) rfl des_X2_below rfl ⟨rfl, rfl, rfl, rfl⟩ rfl rfl (c_X2_below X p1 (x5 * p2) hp1 h3 h) (fun r5 σ6 h4 h => ?_)
      obtain ⟨h7, h⟩ := h
      obtain ⟨h8, h⟩ := h
      refine ok_iast (pc := 53) dX2_search_53 sh_106 (Nat.le_of_ble_eq_true rfl) rfl h7 h8 h4 ?_
      refine ok_aload_n 0 (pc := 54) dX2_search_54 rfl rfl ?_
      refine ok_getR (pc := 55) dX2_search_55 fl_X2_15 sh_105 (Nat.le_of_ble_eq_true rfl) rfl rfl ?_
      refine ok_iload 5 (pc := 58) dX2_search_58 rfl ?_
      refine ok_aload_n 0 (pc := 60) dX2_search_60 rfl rfl ?_
      refine ok_iload_n 1 (pc := 61) dX2_search_61 rfl rfl ?_
      refine ok_iload 5 (pc := 62) dX2_search_62 rfl ?_
      refine ok_iload_n 2 (pc := 64) dX2_search_64 rfl rfl ?_
      refine ok_imul (pc := 65) dX2_search_65 ?_
      refine ok_callVi (As := [vI p1, vI (x5 * p2)]) (rest := [vI x5, .ref (xad X 107)]) (rm := rm_X2_near) (pc := 66) dX2_search_66 me_X2_near ml_X2_26 (ci := 2) rfl sh_105 (Nat.le_of_ble_eq_true rfl) rfl des_X2_near rfl ⟨rfl, rfl, rfl, rfl⟩ rfl rfl (c_X2_near X p1 (x5 * p2) hp1 h3 h) (fun r10 σ11 h9 h => ?_)
      refine ok_iast (pc := 69) dX2_search_69 sh_107 (Nat.le_of_ble_eq_true rfl) rfl h7 h8 h9 ?_
      refine ok_iinc (L' := [(5, vI (x5 + 1)), (0, .ref (xad X 105)), (1, vI p1), (2, vI p2), (3, vI x3), (4, vI x4)]) 5 (pc := 70) dX2_search_70 rfl rfl rfl ?_
      refine ok_goto (tgt := 31) (pc := 73) dX2_search_73 rfl ?_
      obtain ⟨h12, h⟩ := h
      refine ok_sub (L' := [(0, .ref (xad X 105)), (1, vI p1), (2, vI p2), (3, vI x3), (4, vI x4), (5, vI (x5 + 1))]) [1,2,3,4,5,0] rfl ?_
      exact ih (x5 + 1) (mset σ11 107 (x5.toNat) r10) h12 h
set_option maxRecDepth 100000 in
set_option maxHeartbeats 4000000 in
theorem c_X2_search (X : XE) (p1 : Int) (p2 : Int) (hp1 : inR p1) (hp2 : inR p2) {σ : Mem} {Q : Int → Mem → Prop} (h : v_X2_search p1 p2 σ Q) : CT X yX2_search cX2_search 11 (some .boolean) rm_X2_search 1 [.ref (xad X 105), vI p1, vI p2] σ Q := by
  refine ct_of (own := RX2) (L := [(0, .ref (xad X 105)), (1, vI p1), (2, vI p2)]) rfl rfl (Nat.le_of_ble_eq_true rfl) rfl ?_
  refine ok_aload_n 0 (pc := 0) dX2_search_0 rfl rfl ?_
  refine ok_iload_n 1 (pc := 1) dX2_search_1 rfl rfl ?_
  refine ok_sipush (pc := 2) dX2_search_2 rfl ?_
  refine ok_callVi (As := [vI p1, vI 1000]) (rest := []) (rm := rm_X2_below) (pc := 5) dX2_search_5 me_X2_below ml_X2_22 (ci := 2) rfl sh_105 (Nat.le_of_ble_eq_true rfl) rfl des_X2_below rfl ⟨rfl, rfl, rfl, rfl⟩ rfl rfl (c_X2_below X p1 1000 hp1 (r_lit rfl) h) (fun r2 σ3 h1 h => ?_)
  refine ok_istore_n (L' := [(3, vI r2), (0, .ref (xad X 105)), (1, vI p1), (2, vI p2)]) (pc := 8) dX2_search_8 rfl rfl rfl ?_
  refine ok_iload_n 3 (pc := 9) dX2_search_9 rfl rfl ?_
  refine ok_bipush (pc := 10) dX2_search_10 rfl ?_
  refine ok_icmp_lt (tgt := 19) (pc := 12) dX2_search_12 rfl hp2 (r_lit rfl) (fun q4 => ?_) (fun q4 => ?_)
  · have h := iteT h q4
    refine ok_iconst (pc := 19) dX2_search_19 ?_
    exact ok_iret (pc := 20) dX2_search_20 rfl rfl (nr_z (Or.inl rfl)) (r_lit rfl) h
  · have h := iteF h q4
    refine ok_iload_n 0 (pc := 15) dX2_search_15 rfl rfl ?_
    refine ok_if_ne (tgt := 21) (pc := 16) dX2_search_16 rfl h1 (fun q5 => ?_) (fun q5 => ?_)
    · have h := iteF h q5
      refine ok_sipush (pc := 21) dX2_search_21 rfl ?_
      refine ok_iload_n 3 (pc := 24) dX2_search_24 rfl rfl ?_
      obtain ⟨h6, h⟩ := h
      refine ok_idiv (pc := 25) dX2_search_25 (r_lit rfl) hp2 h6 ?_
      refine ok_istore (L' := [(4, vI (Int.tdiv 999 p2)), (3, vI r2), (0, .ref (xad X 105)), (1, vI p1), (2, vI p2)]) (pc := 26) dX2_search_26 rfl rfl ?_
      refine ok_iconst (pc := 28) dX2_search_28 ?_
      refine ok_istore (L' := [(5, vI 1), (4, vI (Int.tdiv 999 p2)), (3, vI r2), (0, .ref (xad X 105)), (1, vI p1), (2, vI p2)]) (pc := 29) dX2_search_29 rfl rfl ?_
      obtain ⟨h7, h⟩ := h
      refine ok_sub (L' := [(0, .ref (xad X 105)), (1, vI p1), (2, vI p2), (3, vI r2), (4, vI (Int.tdiv 999 p2)), (5, vI 1)]) [3,4,5,2,1,0] rfl ?_
      obtain ⟨n8, h⟩ := h
      exact w_X2_search_31 X p1 p2 hp1 hp2 r2 (Int.tdiv 999 p2) h1 h7 n8 1 σ3 (r_lit rfl) h
    · have h := iteT h q5
      refine ok_iconst (pc := 19) dX2_search_19 ?_
      exact ok_iret (pc := 20) dX2_search_20 rfl rfl (nr_z (Or.inl rfl)) (r_lit rfl) h
