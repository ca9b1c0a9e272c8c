theorem dX11_even_0 : decode cX11_even 0 = .ok (.iload_n 1, 1) := by decide +kernel
theorem dX11_even_1 : decode cX11_even 1 = .ok (.invokestatic 203, 3) := by decide +kernel
theorem dX11_even_4 : decode cX11_even 4 = .ok (.ifCond .eq 24, 3) := by decide +kernel
theorem dX11_even_7 : decode cX11_even 7 = .ok (.iload_n 2, 1) := by decide +kernel
theorem dX11_even_8 : decode cX11_even 8 = .ok (.bipush 10, 2) := by decide +kernel
theorem dX11_even_10 : decode cX11_even 10 = .ok (.if_icmp .lt 18, 3) := by decide +kernel
theorem dX11_even_13 : decode cX11_even 13 = .ok (.iload_n 2, 1) := by decide +kernel
theorem dX11_even_14 : decode cX11_even 14 = .ok (.bipush 100, 2) := by decide +kernel
theorem dX11_even_16 : decode cX11_even 16 = .ok (.if_icmp .gt 12, 3) := by decide +kernel
theorem dX11_even_19 : decode cX11_even 19 = .ok (.iload_n 3, 1) := by decide +kernel
theorem dX11_even_20 : decode cX11_even 20 = .ok (.ifCond .lt 8, 3) := by decide +kernel
theorem dX11_even_23 : decode cX11_even 23 = .ok (.iload_n 3, 1) := by decide +kernel
theorem dX11_even_24 : decode cX11_even 24 = .ok (.iconst 3, 1) := by decide +kernel
theorem dX11_even_25 : decode cX11_even 25 = .ok (.if_icmp .le 5, 3) := by decide +kernel
theorem dX11_even_28 : decode cX11_even 28 = .ok (.iconst (-1), 1) := by decide +kernel
theorem dX11_even_29 : decode cX11_even 29 = .ok (.ireturn, 1) := by decide +kernel
theorem dX11_even_30 : decode cX11_even 30 = .ok (.aload_n 0, 1) := by decide +kernel
theorem dX11_even_31 : decode cX11_even 31 = .ok (.getfield 76, 3) := by decide +kernel
theorem dX11_even_34 : decode cX11_even 34 = .ok (.iload_n 1, 1) := by decide +kernel
theorem dX11_even_35 : decode cX11_even 35 = .ok (.iload_n 2, 1) := by decide +kernel
theorem dX11_even_36 : decode cX11_even 36 = .ok (.invokevirtual 328, 3) := by decide +kernel
theorem dX11_even_39 : decode cX11_even 39 = .ok (.ifCond .ne 6, 3) := by decide +kernel
theorem dX11_even_42 : decode cX11_even 42 = .ok (.bipush (-4), 2) := by decide +kernel
theorem dX11_even_44 : decode cX11_even 44 = .ok (.ireturn, 1) := by decide +kernel
theorem dX11_even_45 : decode cX11_even 45 = .ok (.iload_n 3, 1) := by decide +kernel
theorem dX11_even_46 : decode cX11_even 46 = .ok (.tableswitch 50 0 2 #[26, 34, 42], 26) := by decide +kernel
theorem dX11_even_72 : decode cX11_even 72 = .ok (.aload_n 0, 1) := by decide +kernel
theorem dX11_even_73 : decode cX11_even 73 = .ok (.getfield 76, 3) := by decide +kernel
theorem dX11_even_76 : decode cX11_even 76 = .ok (.getfield 331, 3) := by decide +kernel
theorem dX11_even_79 : decode cX11_even 79 = .ok (.ireturn, 1) := by decide +kernel
theorem dX11_even_80 : decode cX11_even 80 = .ok (.aload_n 0, 1) := by decide +kernel
theorem dX11_even_81 : decode cX11_even 81 = .ok (.getfield 76, 3) := by decide +kernel
theorem dX11_even_84 : decode cX11_even 84 = .ok (.getfield 334, 3) := by decide +kernel
theorem dX11_even_87 : decode cX11_even 87 = .ok (.ireturn, 1) := by decide +kernel
theorem dX11_even_88 : decode cX11_even 88 = .ok (.aload_n 0, 1) := by decide +kernel
theorem dX11_even_89 : decode cX11_even 89 = .ok (.getfield 76, 3) := by decide +kernel
theorem dX11_even_92 : decode cX11_even 92 = .ok (.getfield 337, 3) := by decide +kernel
theorem dX11_even_95 : decode cX11_even 95 = .ok (.ireturn, 1) := by decide +kernel
theorem dX11_even_96 : decode cX11_even 96 = .ok (.aload_n 0, 1) := by decide +kernel
theorem dX11_even_97 : decode cX11_even 97 = .ok (.getfield 76, 3) := by decide +kernel
theorem dX11_even_100 : decode cX11_even 100 = .ok (.getfield 340, 3) := by decide +kernel
theorem dX11_even_103 : decode cX11_even 103 = .ok (.ireturn, 1) := by decide +kernel
set_option maxRecDepth 100000 in
set_option maxHeartbeats 4000000 in
theorem c_X11_even (X : XE) (p1 : Int) (p2 : Int) (p3 : Int) (hp1 : inR p1) (hp2 : inR p2) (hp3 : inR p3) {σ : Mem} {Q : Int → Mem → Prop} (h : v_X11_even p1 p2 p3 σ Q) : CT X yX11_even cX11_even 4 (some .int) rm_X11_even 1 [.ref (xad X 0), vI p1, vI p2, vI p3] σ Q := by
  refine ct_of (own := RX11) (L := [(0, .ref (xad X 0)), (1, vI p1), (2, vI p2), (3, vI p3)]) rfl rfl (Nat.le_of_ble_eq_true rfl) rfl ?_
  refine ok_iload_n 1 (pc := 0) dX11_even_0 rfl rfl ?_
  refine ok_callSi (As := [vI p1]) (rest := []) (rm := rm_X11_isMeasure) (pc := 1) dX11_even_1 me_X11_isMeasure ml_X11_203 des_X11_isMeasure rfl ⟨rfl, rfl, rfl, rfl⟩ rfl rfl (c_X11_isMeasure X p1 hp1 h) (fun r2 σ3 h1 h => ?_)
  refine ok_if_eq (tgt := 28) (pc := 4) dX11_even_4 rfl h1 (fun q4 => ?_) (fun q4 => ?_)
  · have h := iteT h q4
    refine ok_iconst (pc := 28) dX11_even_28 ?_
    exact ok_iret (pc := 29) dX11_even_29 rfl rfl rfl (r_lit rfl) h
  · have h := iteF h q4
    refine ok_iload_n 2 (pc := 7) dX11_even_7 rfl rfl ?_
    refine ok_bipush (pc := 8) dX11_even_8 rfl ?_
    refine ok_icmp_lt (tgt := 28) (pc := 10) dX11_even_10 rfl hp2 (r_lit rfl) (fun q5 => ?_) (fun q5 => ?_)
    · have h := iteT h q5
      refine ok_iconst (pc := 28) dX11_even_28 ?_
      exact ok_iret (pc := 29) dX11_even_29 rfl rfl rfl (r_lit rfl) h
    · have h := iteF h q5
      refine ok_iload_n 2 (pc := 13) dX11_even_13 rfl rfl ?_
      refine ok_bipush (pc := 14) dX11_even_14 rfl ?_
      refine ok_icmp_gt (tgt := 28) (pc := 16) dX11_even_16 rfl hp2 (r_lit rfl) (fun q6 => ?_) (fun q6 => ?_)
      · have h := iteT h q6
        refine ok_iconst (pc := 28) dX11_even_28 ?_
        exact ok_iret (pc := 29) dX11_even_29 rfl rfl rfl (r_lit rfl) h
      · have h := iteF h q6
        refine ok_iload_n 3 (pc := 19) dX11_even_19 rfl rfl ?_
        refine ok_if_lt (tgt := 28) (pc := 20) dX11_even_20 rfl hp3 (fun q7 => ?_) (fun q7 => ?_)
        · have h := iteT h q7
          refine ok_iconst (pc := 28) dX11_even_28 ?_
          exact ok_iret (pc := 29) dX11_even_29 rfl rfl rfl (r_lit rfl) h
        · have h := iteF h q7
          refine ok_iload_n 3 (pc := 23) dX11_even_23 rfl rfl ?_
          refine ok_iconst (pc := 24) dX11_even_24 ?_
          refine ok_icmp_le (tgt := 30) (pc := 25) dX11_even_25 rfl hp3 (r_lit rfl) (fun q8 => ?_) (fun q8 => ?_)
          · have h := iteF h q8
            refine ok_aload_n 0 (pc := 30) dX11_even_30 rfl rfl ?_
            refine ok_getR (pc := 31) dX11_even_31 fl_X11_76 sh_0 (Nat.le_of_ble_eq_true rfl) rfl rfl ?_
            refine ok_iload_n 1 (pc := 34) dX11_even_34 rfl rfl ?_
            refine ok_iload_n 2 (pc := 35) dX11_even_35 rfl rfl ?_
            refine ok_callVi (As := [vI p1, vI p2]) (rest := []) (rm := rm_X2_search) (pc := 36) dX11_even_36 me_X2_search ml_X11_328 (ci := 2) rfl sh_105 (Nat.le_of_ble_eq_true rfl) rfl des_X2_search rfl ⟨rfl, rfl, rfl, rfl⟩ rfl rfl (c_X2_search X p1 p2 hp1 hp2 h) (fun r10 σ11 h9 h => ?_)
            refine ok_if_ne (tgt := 45) (pc := 39) dX11_even_39 rfl h9 (fun q12 => ?_) (fun q12 => ?_)
            · have h := iteF h q12
              refine ok_iload_n 3 (pc := 45) dX11_even_45 rfl rfl ?_
              by_cases q13 : p3 = 0
              · have h := iteT h q13
                refine ok_tin (tgt := 72) (pc := 46) dX11_even_46 hp3 (by omega) (by omega) (by first | (rw [q13]; done) | (rw [q13]; rfl)) rfl ?_
                refine ok_aload_n 0 (pc := 72) dX11_even_72 rfl rfl ?_
                refine ok_getR (pc := 73) dX11_even_73 fl_X11_76 sh_0 (Nat.le_of_ble_eq_true rfl) rfl rfl ?_
                refine ok_wf (fun hw14 => ?_)
                refine ok_getI (pc := 76) dX11_even_76 fl_X11_331 sh_105 (Nat.le_of_ble_eq_true rfl) rfl rfl ?_
                exact ok_iret (pc := 79) dX11_even_79 rfl rfl rfl (hw14 _ _) h
              · have h := iteF h q13
                by_cases q15 : p3 = 1
                · have h := iteT h q15
                  refine ok_tin (tgt := 80) (pc := 46) dX11_even_46 hp3 (by omega) (by omega) (by first | (rw [q15]; done) | (rw [q15]; rfl)) rfl ?_
                  refine ok_aload_n 0 (pc := 80) dX11_even_80 rfl rfl ?_
                  refine ok_getR (pc := 81) dX11_even_81 fl_X11_76 sh_0 (Nat.le_of_ble_eq_true rfl) rfl rfl ?_
                  refine ok_wf (fun hw16 => ?_)
                  refine ok_getI (pc := 84) dX11_even_84 fl_X11_334 sh_105 (Nat.le_of_ble_eq_true rfl) rfl rfl ?_
                  exact ok_iret (pc := 87) dX11_even_87 rfl rfl rfl (hw16 _ _) h
                · have h := iteF h q15
                  by_cases q17 : p3 = 2
                  · have h := iteT h q17
                    refine ok_tin (tgt := 88) (pc := 46) dX11_even_46 hp3 (by omega) (by omega) (by first | (rw [q17]; done) | (rw [q17]; rfl)) rfl ?_
                    refine ok_aload_n 0 (pc := 88) dX11_even_88 rfl rfl ?_
                    refine ok_getR (pc := 89) dX11_even_89 fl_X11_76 sh_0 (Nat.le_of_ble_eq_true rfl) rfl rfl ?_
                    refine ok_wf (fun hw18 => ?_)
                    refine ok_getI (pc := 92) dX11_even_92 fl_X11_337 sh_105 (Nat.le_of_ble_eq_true rfl) rfl rfl ?_
                    exact ok_iret (pc := 95) dX11_even_95 rfl rfl rfl (hw18 _ _) h
                  · have h := iteF h q17
                    refine ok_tout (tgt := 96) (pc := 46) dX11_even_46 hp3 (by omega) rfl ?_
                    refine ok_aload_n 0 (pc := 96) dX11_even_96 rfl rfl ?_
                    refine ok_getR (pc := 97) dX11_even_97 fl_X11_76 sh_0 (Nat.le_of_ble_eq_true rfl) rfl rfl ?_
                    refine ok_wf (fun hw19 => ?_)
                    refine ok_getI (pc := 100) dX11_even_100 fl_X11_340 sh_105 (Nat.le_of_ble_eq_true rfl) rfl rfl ?_
                    exact ok_iret (pc := 103) dX11_even_103 rfl rfl rfl (hw19 _ _) h
            · have h := iteT h q12
              refine ok_bipush (pc := 42) dX11_even_42 rfl ?_
              exact ok_iret (pc := 44) dX11_even_44 rfl rfl rfl (r_lit rfl) h
          · have h := iteT h q8
            refine ok_iconst (pc := 28) dX11_even_28 ?_
            exact ok_iret (pc := 29) dX11_even_29 rfl rfl rfl (r_lit rfl) h
theorem dX11_judge_0 : decode cX11_judge 0 = .ok (.iload_n 2, 1) := by decide +kernel
theorem dX11_judge_1 : decode cX11_judge 1 = .ok (.iconst 1, 1) := by decide +kernel
theorem dX11_judge_2 : decode cX11_judge 2 = .ok (.if_icmp .lt 19, 3) := by decide +kernel
theorem dX11_judge_5 : decode cX11_judge 5 = .ok (.iload_n 2, 1) := by decide +kernel
theorem dX11_judge_6 : decode cX11_judge 6 = .ok (.iload_n 3, 1) := by decide +kernel
theorem dX11_judge_7 : decode cX11_judge 7 = .ok (.if_icmp .ge 14, 3) := by decide +kernel
theorem dX11_judge_10 : decode cX11_judge 10 = .ok (.iload_n 3, 1) := by decide +kernel
theorem dX11_judge_11 : decode cX11_judge 11 = .ok (.sipush 999, 3) := by decide +kernel
theorem dX11_judge_14 : decode cX11_judge 14 = .ok (.if_icmp .gt 7, 3) := by decide +kernel
theorem dX11_judge_17 : decode cX11_judge 17 = .ok (.iconst 1, 1) := by decide +kernel
theorem dX11_judge_18 : decode cX11_judge 18 = .ok (.goto 4, 3) := by decide +kernel
theorem dX11_judge_21 : decode cX11_judge 21 = .ok (.iconst 0, 1) := by decide +kernel
theorem dX11_judge_22 : decode cX11_judge 22 = .ok (.istore 5, 2) := by decide +kernel
theorem dX11_judge_24 : decode cX11_judge 24 = .ok (.iload_n 1, 1) := by decide +kernel
theorem dX11_judge_25 : decode cX11_judge 25 = .ok (.invokestatic 203, 3) := by decide +kernel
theorem dX11_judge_28 : decode cX11_judge 28 = .ok (.ifCond .eq 19, 3) := by decide +kernel
theorem dX11_judge_31 : decode cX11_judge 31 = .ok (.iload 5, 2) := by decide +kernel
theorem dX11_judge_33 : decode cX11_judge 33 = .ok (.ifCond .eq 14, 3) := by decide +kernel
theorem dX11_judge_36 : decode cX11_judge 36 = .ok (.iload 4, 2) := by decide +kernel
theorem dX11_judge_38 : decode cX11_judge 38 = .ok (.ifCond .lt 9, 3) := by decide +kernel
theorem dX11_judge_41 : decode cX11_judge 41 = .ok (.iload 4, 2) := by decide +kernel
theorem dX11_judge_43 : decode cX11_judge 43 = .ok (.iconst 1, 1) := by decide +kernel
theorem dX11_judge_44 : decode cX11_judge 44 = .ok (.if_icmp .le 5, 3) := by decide +kernel
theorem dX11_judge_47 : decode cX11_judge 47 = .ok (.iconst (-1), 1) := by decide +kernel
theorem dX11_judge_48 : decode cX11_judge 48 = .ok (.ireturn, 1) := by decide +kernel
theorem dX11_judge_49 : decode cX11_judge 49 = .ok (.iload 4, 2) := by decide +kernel
theorem dX11_judge_51 : decode cX11_judge 51 = .ok (.ifCond .ne 48, 3) := by decide +kernel
theorem dX11_judge_54 : decode cX11_judge 54 = .ok (.aload_n 0, 1) := by decide +kernel
theorem dX11_judge_55 : decode cX11_judge 55 = .ok (.getfield 76, 3) := by decide +kernel
theorem dX11_judge_58 : decode cX11_judge 58 = .ok (.iload_n 1, 1) := by decide +kernel
theorem dX11_judge_59 : decode cX11_judge 59 = .ok (.iload_n 2, 1) := by decide +kernel
theorem dX11_judge_60 : decode cX11_judge 60 = .ok (.invokevirtual 343, 3) := by decide +kernel
theorem dX11_judge_63 : decode cX11_judge 63 = .ok (.istore 6, 2) := by decide +kernel
theorem dX11_judge_65 : decode cX11_judge 65 = .ok (.aload_n 0, 1) := by decide +kernel
theorem dX11_judge_66 : decode cX11_judge 66 = .ok (.getfield 76, 3) := by decide +kernel
theorem dX11_judge_69 : decode cX11_judge 69 = .ok (.iload_n 1, 1) := by decide +kernel
theorem dX11_judge_70 : decode cX11_judge 70 = .ok (.iload_n 3, 1) := by decide +kernel
theorem dX11_judge_71 : decode cX11_judge 71 = .ok (.invokevirtual 343, 3) := by decide +kernel
theorem dX11_judge_74 : decode cX11_judge 74 = .ok (.istore 7, 2) := by decide +kernel
theorem dX11_judge_76 : decode cX11_judge 76 = .ok (.aload_n 0, 1) := by decide +kernel
theorem dX11_judge_77 : decode cX11_judge 77 = .ok (.getfield 76, 3) := by decide +kernel
theorem dX11_judge_80 : decode cX11_judge 80 = .ok (.iload 6, 2) := by decide +kernel
theorem dX11_judge_82 : decode cX11_judge 82 = .ok (.iload 7, 2) := by decide +kernel
theorem dX11_judge_84 : decode cX11_judge 84 = .ok (.aload_n 0, 1) := by decide +kernel
theorem dX11_judge_85 : decode cX11_judge 85 = .ok (.getfield 76, 3) := by decide +kernel
theorem dX11_judge_88 : decode cX11_judge 88 = .ok (.iload_n 1, 1) := by decide +kernel
theorem dX11_judge_89 : decode cX11_judge 89 = .ok (.sipush 1000, 3) := by decide +kernel
theorem dX11_judge_92 : decode cX11_judge 92 = .ok (.invokevirtual 343, 3) := by decide +kernel
theorem dX11_judge_95 : decode cX11_judge 95 = .ok (.invokevirtual 346, 3) := by decide +kernel
theorem dX11_judge_98 : decode cX11_judge 98 = .ok (.ireturn, 1) := by decide +kernel
theorem dX11_judge_99 : decode cX11_judge 99 = .ok (.aload_n 0, 1) := by decide +kernel
theorem dX11_judge_100 : decode cX11_judge 100 = .ok (.getfield 76, 3) := by decide +kernel
theorem dX11_judge_103 : decode cX11_judge 103 = .ok (.iload_n 1, 1) := by decide +kernel
theorem dX11_judge_104 : decode cX11_judge 104 = .ok (.iload_n 2, 1) := by decide +kernel
theorem dX11_judge_105 : decode cX11_judge 105 = .ok (.invokevirtual 349, 3) := by decide +kernel
theorem dX11_judge_108 : decode cX11_judge 108 = .ok (.aload_n 0, 1) := by decide +kernel
theorem dX11_judge_109 : decode cX11_judge 109 = .ok (.getfield 76, 3) := by decide +kernel
theorem dX11_judge_112 : decode cX11_judge 112 = .ok (.iload_n 1, 1) := by decide +kernel
theorem dX11_judge_113 : decode cX11_judge 113 = .ok (.iload_n 3, 1) := by decide +kernel
theorem dX11_judge_114 : decode cX11_judge 114 = .ok (.invokevirtual 349, 3) := by decide +kernel
theorem dX11_judge_117 : decode cX11_judge 117 = .ok (.ior, 1) := by decide +kernel
theorem dX11_judge_118 : decode cX11_judge 118 = .ok (.invokestatic 217, 3) := by decide +kernel
theorem dX11_judge_121 : decode cX11_judge 121 = .ok (.ireturn, 1) := by decide +kernel
set_option maxRecDepth 100000 in
set_option maxHeartbeats 4000000 in
theorem w_X11_judge_22 (X : XE) (p1 : Int) (p2 : Int) (p3 : Int) (p4 : Int) (hp1 : inR p1) (hp2 : inR p2) (hp3 : inR p3) (hp4 : inR p4) (s0 : Int) (hs0 : inR s0) {Q : Int → Mem → Prop} {σ : Mem} (h : j_X11_judge_22 p1 p2 p3 p4 Q s0 σ) : ok X rm_X11_judge RX11 cX11_judge 8 (some .int) 1 Q 22 [(0, .ref (xad X 0)), (1, vI p1), (2, vI p2), (3, vI p3), (4, vI p4)] [vI s0] σ := by
  refine ok_istore (L' := [(5, vI s0), (0, .ref (xad X 0)), (1, vI p1), (2, vI p2), (3, vI p3), (4, vI p4)]) (pc := 22) dX11_judge_22 rfl rfl ?_
  refine ok_iload_n 2 (pc := 24) dX11_judge_24 rfl rfl ?_
  refine ok_callSi (As := [vI p1]) (rest := []) (rm := rm_X11_isMeasure) (pc := 25) dX11_judge_25 me_X11_isMeasure ml_X11_203 des_X11_isMeasure rfl ⟨rfl, rfl, rfl, rfl⟩ rfl rfl (c_X11_isMeasure X p1 hp1 h) (fun r2 σ3 h1 h => ?_)
  refine ok_if_eq (tgt := 47) (pc := 28) dX11_judge_28 rfl h1 (fun q4 => ?_) (fun q4 => ?_)
  · have h := iteT h q4
    refine ok_iconst (pc := 47) dX11_judge_47 ?_
    exact ok_iret (pc := 48) dX11_judge_48 rfl rfl rfl (r_lit rfl) h
  · have h := iteF h q4
    refine ok_iload 0 (pc := 31) dX11_judge_31 rfl ?_
    refine ok_if_eq (tgt := 47) (pc := 33) dX11_judge_33 rfl hs0 (fun q5 => ?_) (fun q5 => ?_)
    · have h := iteT h q5
      refine ok_iconst (pc := 47) dX11_judge_47 ?_
      exact ok_iret (pc := 48) dX11_judge_48 rfl rfl rfl (r_lit rfl) h
    · have h := iteF h q5
      refine ok_iload 5 (pc := 36) dX11_judge_36 rfl ?_
      refine ok_if_lt (tgt := 47) (pc := 38) dX11_judge_38 rfl hp4 (fun q6 => ?_) (fun q6 => ?_)
      · have h := iteT h q6
        refine ok_iconst (pc := 47) dX11_judge_47 ?_
        exact ok_iret (pc := 48) dX11_judge_48 rfl rfl rfl (r_lit rfl) h
      · have h := iteF h q6
        refine ok_iload 5 (pc := 41) dX11_judge_41 rfl ?_
        refine ok_iconst (pc := 43) dX11_judge_43 ?_
        refine ok_icmp_le (tgt := 49) (pc := 44) dX11_judge_44 rfl hp4 (r_lit rfl) (fun q7 => ?_) (fun q7 => ?_)
        · have h := iteF h q7
          refine ok_iload 5 (pc := 49) dX11_judge_49 rfl ?_
          refine ok_if_ne (tgt := 99) (pc := 51) dX11_judge_51 rfl hp4 (fun q8 => ?_) (fun q8 => ?_)
          · have h := iteF h q8
            refine ok_aload_n 1 (pc := 99) dX11_judge_99 rfl rfl ?_
            refine ok_getR (pc := 100) dX11_judge_100 fl_X11_76 sh_0 (Nat.le_of_ble_eq_true rfl) rfl rfl ?_
            refine ok_iload_n 2 (pc := 103) dX11_judge_103 rfl rfl ?_
            refine ok_iload_n 3 (pc := 104) dX11_judge_104 rfl rfl ?_
            refine ok_callVi (As := [vI p1, vI p2]) (rest := []) (rm := rm_X2_near) (pc := 105) dX11_judge_105 me_X2_near ml_X11_349 (ci := 2) rfl sh_105 (Nat.le_of_ble_eq_true rfl) rfl des_X2_near rfl ⟨rfl, rfl, rfl, rfl⟩ rfl rfl (c_X2_near X p1 p2 hp1 hp2 h) (fun r10 σ11 h9 h => ?_)
            refine ok_aload_n 1 (pc := 108) dX11_judge_108 rfl rfl ?_
            refine ok_getR (pc := 109) dX11_judge_109 fl_X11_76 sh_0 (Nat.le_of_ble_eq_true rfl) rfl rfl ?_
            refine ok_iload_n 2 (pc := 112) dX11_judge_112 rfl rfl ?_
            refine ok_iload_n 4 (pc := 113) dX11_judge_113 rfl rfl ?_
            refine ok_callVi (As := [vI p1, vI p3]) (rest := [vI r10]) (rm := rm_X2_near) (pc := 114) dX11_judge_114 me_X2_near ml_X11_349 (ci := 2) rfl sh_105 (Nat.le_of_ble_eq_true rfl) rfl des_X2_near rfl ⟨rfl, rfl, rfl, rfl⟩ rfl rfl (c_X2_near X p1 p3 hp1 hp3 h) (fun r13 σ14 h12 h => ?_)
            refine ok_ior (pc := 117) dX11_judge_117 ?_
            refine ok_callSi (As := [vI (ior r10 r13)]) (rest := []) (rm := rm_J6_bitCount_0f7a4) (pc := 118) dX11_judge_118 me_J6_bitCount_0f7a4 ml_X11_217 des_J6_bitCount_0f7a4 rfl ⟨rfl, rfl, rfl, rfl⟩ rfl rfl (c_J6_bitCount_0f7a4 X (ior r10 r13) (q_rng _) h) (fun r16 σ17 h15 h => ?_)
            exact ok_iret (pc := 121) dX11_judge_121 rfl rfl rfl h15 h
          · have h := iteT h q8
            refine ok_aload_n 1 (pc := 54) dX11_judge_54 rfl rfl ?_
            refine ok_getR (pc := 55) dX11_judge_55 fl_X11_76 sh_0 (Nat.le_of_ble_eq_true rfl) rfl rfl ?_
            refine ok_iload_n 2 (pc := 58) dX11_judge_58 rfl rfl ?_
            refine ok_iload_n 3 (pc := 59) dX11_judge_59 rfl rfl ?_
            refine ok_callVi (As := [vI p1, vI p2]) (rest := []) (rm := rm_X2_below) (pc := 60) dX11_judge_60 me_X2_below ml_X11_343 (ci := 2) rfl sh_105 (Nat.le_of_ble_eq_true rfl) rfl des_X2_below rfl ⟨rfl, rfl, rfl, rfl⟩ rfl rfl (c_X2_below X p1 p2 hp1 hp2 h) (fun r19 σ20 h18 h => ?_)
            refine ok_istore (L' := [(6, vI r19), (5, vI s0), (0, .ref (xad X 0)), (1, vI p1), (2, vI p2), (3, vI p3), (4, vI p4)]) (pc := 63) dX11_judge_63 rfl rfl ?_
            refine ok_aload_n 2 (pc := 65) dX11_judge_65 rfl rfl ?_
            refine ok_getR (pc := 66) dX11_judge_66 fl_X11_76 sh_0 (Nat.le_of_ble_eq_true rfl) rfl rfl ?_
            refine ok_iload_n 3 (pc := 69) dX11_judge_69 rfl rfl ?_
            refine ok_iload_n 5 (pc := 70) dX11_judge_70 rfl rfl ?_
            refine ok_callVi (As := [vI p1, vI p3]) (rest := []) (rm := rm_X2_below) (pc := 71) dX11_judge_71 me_X2_below ml_X11_343 (ci := 2) rfl sh_105 (Nat.le_of_ble_eq_true rfl) rfl des_X2_below rfl ⟨rfl, rfl, rfl, rfl⟩ rfl rfl (c_X2_below X p1 p3 hp1 hp3 h) (fun r22 σ23 h21 h => ?_)
            refine ok_istore (L' := [(7, vI r22), (6, vI r19), (5, vI s0), (0, .ref (xad X 0)), (1, vI p1), (2, vI p2), (3, vI p3), (4, vI p4)]) (pc := 74) dX11_judge_74 rfl rfl ?_
            refine ok_aload_n 3 (pc := 76) dX11_judge_76 rfl rfl ?_
            refine ok_getR (pc := 77) dX11_judge_77 fl_X11_76 sh_0 (Nat.le_of_ble_eq_true rfl) rfl rfl ?_
            refine ok_iload 1 (pc := 80) dX11_judge_80 rfl ?_
            refine ok_iload 0 (pc := 82) dX11_judge_82 rfl ?_
            refine ok_aload_n 3 (pc := 84) dX11_judge_84 rfl rfl ?_
            refine ok_getR (pc := 85) dX11_judge_85 fl_X11_76 sh_0 (Nat.le_of_ble_eq_true rfl) rfl rfl ?_
            refine ok_iload_n 4 (pc := 88) dX11_judge_88 rfl rfl ?_
            refine ok_sipush (pc := 89) dX11_judge_89 rfl ?_
            refine ok_callVi (As := [vI p1, vI 1000]) (rest := [vI r22, vI r19, .ref (xad X 105)]) (rm := rm_X2_below) (pc := 92) dX11_judge_92 me_X2_below ml_X11_343 (ci := 2) rfl sh_105 (Nat.le_of_ble_eq_true rfl) rfl des_X2_below rfl ⟨rfl, rfl, rfl, rfl⟩ rfl rfl (c_X2_below X p1 1000 hp1 (r_lit rfl) h) (fun r25 σ26 h24 h => ?_)
            refine ok_callVi (As := [vI r19, vI r22, vI r25]) (rest := []) (rm := rm_X2_difference) (pc := 95) dX11_judge_95 me_X2_difference ml_X11_346 (ci := 2) rfl sh_105 (Nat.le_of_ble_eq_true rfl) rfl des_X2_difference rfl ⟨rfl, rfl, rfl, rfl⟩ rfl rfl (c_X2_difference X r19 r22 r25 h18 h21 h24 h) (fun r28 σ29 h27 h => ?_)
            exact ok_iret (pc := 98) dX11_judge_98 rfl rfl rfl h27 h
        · have h := iteT h q7
          refine ok_iconst (pc := 47) dX11_judge_47 ?_
          exact ok_iret (pc := 48) dX11_judge_48 rfl rfl rfl (r_lit rfl) h
set_option maxRecDepth 100000 in
set_option maxHeartbeats 4000000 in
theorem c_X11_judge (X : XE) (p1 : Int) (p2 : Int) (p3 : Int) (p4 : Int) (hp1 : inR p1) (hp2 : inR p2) (hp3 : inR p3) (hp4 : inR p4) {σ : Mem} {Q : Int → Mem → Prop} (h : v_X11_judge p1 p2 p3 p4 σ Q) : CT X yX11_judge cX11_judge 8 (some .int) rm_X11_judge 1 [.ref (xad X 0), vI p1, vI p2, vI p3, vI p4] σ Q := by
  refine ct_of (own := RX11) (L := [(0, .ref (xad X 0)), (1, vI p1), (2, vI p2), (3, vI p3), (4, vI p4)]) rfl rfl (Nat.le_of_ble_eq_true rfl) rfl ?_
  unfold v_X11_judge at h
  refine ok_iload_n 2 (pc := 0) dX11_judge_0 rfl rfl ?_
  refine ok_iconst (pc := 1) dX11_judge_1 ?_
  refine ok_icmp_lt (tgt := 21) (pc := 2) dX11_judge_2 rfl hp2 (r_lit rfl) (fun q1 => ?_) (fun q1 => ?_)
  · simp only [if_pos q1] at h
    refine ok_iconst (pc := 21) dX11_judge_21 ?_
    exact w_X11_judge_22 X p1 p2 p3 p4 hp1 hp2 hp3 hp4 0 (r_lit rfl) h
  · simp only [if_neg q1] at h
    refine ok_iload_n 2 (pc := 5) dX11_judge_5 rfl rfl ?_
    refine ok_iload_n 3 (pc := 6) dX11_judge_6 rfl rfl ?_
    refine ok_icmp_ge (tgt := 21) (pc := 7) dX11_judge_7 rfl hp2 hp3 (fun q2 => ?_) (fun q2 => ?_)
    · simp only [if_neg q2] at h
      refine ok_iconst (pc := 21) dX11_judge_21 ?_
      exact w_X11_judge_22 X p1 p2 p3 p4 hp1 hp2 hp3 hp4 0 (r_lit rfl) h
    · simp only [if_pos q2] at h
      refine ok_iload_n 3 (pc := 10) dX11_judge_10 rfl rfl ?_
      refine ok_sipush (pc := 11) dX11_judge_11 rfl ?_
      refine ok_icmp_gt (tgt := 21) (pc := 14) dX11_judge_14 rfl hp3 (r_lit rfl) (fun q3 => ?_) (fun q3 => ?_)
      · simp only [if_pos q3] at h
        refine ok_iconst (pc := 21) dX11_judge_21 ?_
        exact w_X11_judge_22 X p1 p2 p3 p4 hp1 hp2 hp3 hp4 0 (r_lit rfl) h
      · simp only [if_neg q3] at h
        refine ok_iconst (pc := 17) dX11_judge_17 ?_
        refine ok_goto (tgt := 22) (pc := 18) dX11_judge_18 rfl ?_
        exact w_X11_judge_22 X p1 p2 p3 p4 hp1 hp2 hp3 hp4 1 (r_lit rfl) h
theorem dX11_hold_0 : decode cX11_hold 0 = .ok (.aload_n 0, 1) := by decide +kernel
theorem dX11_hold_1 : decode cX11_hold 1 = .ok (.getfield 46, 3) := by decide +kernel
theorem dX11_hold_4 : decode cX11_hold 4 = .ok (.iload_n 1, 1) := by decide +kernel
theorem dX11_hold_5 : decode cX11_hold 5 = .ok (.invokevirtual 154, 3) := by decide +kernel
theorem dX11_hold_8 : decode cX11_hold 8 = .ok (.ifCond .ne 5, 3) := by decide +kernel
theorem dX11_hold_11 : decode cX11_hold 11 = .ok (.iconst (-1), 1) := by decide +kernel
theorem dX11_hold_12 : decode cX11_hold 12 = .ok (.ireturn, 1) := by decide +kernel
theorem dX11_hold_13 : decode cX11_hold 13 = .ok (.aload_n 0, 1) := by decide +kernel
theorem dX11_hold_14 : decode cX11_hold 14 = .ok (.getfield 53, 3) := by decide +kernel
theorem dX11_hold_17 : decode cX11_hold 17 = .ok (.getfield 225, 3) := by decide +kernel
theorem dX11_hold_20 : decode cX11_hold 20 = .ok (.ifCond .ne 6, 3) := by decide +kernel
theorem dX11_hold_23 : decode cX11_hold 23 = .ok (.bipush (-2), 2) := by decide +kernel
theorem dX11_hold_25 : decode cX11_hold 25 = .ok (.ireturn, 1) := by decide +kernel
theorem dX11_hold_26 : decode cX11_hold 26 = .ok (.aload_n 0, 1) := by decide +kernel
theorem dX11_hold_27 : decode cX11_hold 27 = .ok (.getfield 53, 3) := by decide +kernel
theorem dX11_hold_30 : decode cX11_hold 30 = .ok (.aload_n 0, 1) := by decide +kernel
theorem dX11_hold_31 : decode cX11_hold 31 = .ok (.getfield 46, 3) := by decide +kernel
theorem dX11_hold_34 : decode cX11_hold 34 = .ok (.invokevirtual 265, 3) := by decide +kernel
theorem dX11_hold_37 : decode cX11_hold 37 = .ok (.aload_n 0, 1) := by decide +kernel
theorem dX11_hold_38 : decode cX11_hold 38 = .ok (.getfield 53, 3) := by decide +kernel
theorem dX11_hold_41 : decode cX11_hold 41 = .ok (.getfield 272, 3) := by decide +kernel
theorem dX11_hold_44 : decode cX11_hold 44 = .ok (.iload_n 1, 1) := by decide +kernel
theorem dX11_hold_45 : decode cX11_hold 45 = .ok (.iaload, 1) := by decide +kernel
theorem dX11_hold_46 : decode cX11_hold 46 = .ok (.bipush (-4), 2) := by decide +kernel
theorem dX11_hold_48 : decode cX11_hold 48 = .ok (.if_icmp .ne 6, 3) := by decide +kernel
theorem dX11_hold_51 : decode cX11_hold 51 = .ok (.bipush (-2), 2) := by decide +kernel
theorem dX11_hold_53 : decode cX11_hold 53 = .ok (.ireturn, 1) := by decide +kernel
theorem dX11_hold_54 : decode cX11_hold 54 = .ok (.aload_n 0, 1) := by decide +kernel
theorem dX11_hold_55 : decode cX11_hold 55 = .ok (.getfield 351, 3) := by decide +kernel
theorem dX11_hold_58 : decode cX11_hold 58 = .ok (.bipush 12, 2) := by decide +kernel
theorem dX11_hold_60 : decode cX11_hold 60 = .ok (.if_icmp .lt 6, 3) := by decide +kernel
theorem dX11_hold_63 : decode cX11_hold 63 = .ok (.bipush (-3), 2) := by decide +kernel
theorem dX11_hold_65 : decode cX11_hold 65 = .ok (.ireturn, 1) := by decide +kernel
theorem dX11_hold_66 : decode cX11_hold 66 = .ok (.aload_n 0, 1) := by decide +kernel
theorem dX11_hold_67 : decode cX11_hold 67 = .ok (.getfield 91, 3) := by decide +kernel
theorem dX11_hold_70 : decode cX11_hold 70 = .ok (.aload_n 0, 1) := by decide +kernel
theorem dX11_hold_71 : decode cX11_hold 71 = .ok (.getfield 351, 3) := by decide +kernel
theorem dX11_hold_74 : decode cX11_hold 74 = .ok (.iload_n 1, 1) := by decide +kernel
theorem dX11_hold_75 : decode cX11_hold 75 = .ok (.iastore, 1) := by decide +kernel
theorem dX11_hold_76 : decode cX11_hold 76 = .ok (.aload_n 0, 1) := by decide +kernel
theorem dX11_hold_77 : decode cX11_hold 77 = .ok (.getfield 94, 3) := by decide +kernel
theorem dX11_hold_80 : decode cX11_hold 80 = .ok (.aload_n 0, 1) := by decide +kernel
theorem dX11_hold_81 : decode cX11_hold 81 = .ok (.getfield 351, 3) := by decide +kernel
theorem dX11_hold_84 : decode cX11_hold 84 = .ok (.aload_n 0, 1) := by decide +kernel
theorem dX11_hold_85 : decode cX11_hold 85 = .ok (.getfield 37, 3) := by decide +kernel
theorem dX11_hold_88 : decode cX11_hold 88 = .ok (.getfield 108, 3) := by decide +kernel
theorem dX11_hold_91 : decode cX11_hold 91 = .ok (.iastore, 1) := by decide +kernel
theorem dX11_hold_92 : decode cX11_hold 92 = .ok (.aload_n 0, 1) := by decide +kernel
theorem dX11_hold_93 : decode cX11_hold 93 = .ok (.getfield 97, 3) := by decide +kernel
theorem dX11_hold_96 : decode cX11_hold 96 = .ok (.aload_n 0, 1) := by decide +kernel
theorem dX11_hold_97 : decode cX11_hold 97 = .ok (.getfield 351, 3) := by decide +kernel
theorem dX11_hold_100 : decode cX11_hold 100 = .ok (.aload_n 0, 1) := by decide +kernel
theorem dX11_hold_101 : decode cX11_hold 101 = .ok (.getfield 53, 3) := by decide +kernel
theorem dX11_hold_104 : decode cX11_hold 104 = .ok (.getfield 229, 3) := by decide +kernel
theorem dX11_hold_107 : decode cX11_hold 107 = .ok (.iastore, 1) := by decide +kernel
theorem dX11_hold_108 : decode cX11_hold 108 = .ok (.aload_n 0, 1) := by decide +kernel
theorem dX11_hold_109 : decode cX11_hold 109 = .ok (.dup, 1) := by decide +kernel
theorem dX11_hold_110 : decode cX11_hold 110 = .ok (.getfield 351, 3) := by decide +kernel
theorem dX11_hold_113 : decode cX11_hold 113 = .ok (.iconst 1, 1) := by decide +kernel
theorem dX11_hold_114 : decode cX11_hold 114 = .ok (.iadd, 1) := by decide +kernel
theorem dX11_hold_115 : decode cX11_hold 115 = .ok (.putfield 351, 3) := by decide +kernel
theorem dX11_hold_118 : decode cX11_hold 118 = .ok (.aload_n 0, 1) := by decide +kernel
theorem dX11_hold_119 : decode cX11_hold 119 = .ok (.getfield 351, 3) := by decide +kernel
theorem dX11_hold_122 : decode cX11_hold 122 = .ok (.iconst 1, 1) := by decide +kernel
theorem dX11_hold_123 : decode cX11_hold 123 = .ok (.isub, 1) := by decide +kernel
theorem dX11_hold_124 : decode cX11_hold 124 = .ok (.ireturn, 1) := by decide +kernel
set_option maxRecDepth 100000 in
set_option maxHeartbeats 4000000 in
theorem c_X11_hold (X : XE) (p1 : Int) (hp1 : inR p1) {σ : Mem} {Q : Int → Mem → Prop} (h : v_X11_hold p1 σ Q) : CT X yX11_hold cX11_hold 2 (some .int) rm_X11_hold 1 [.ref (xad X 0), vI p1] σ Q := by
  refine ct_of (own := RX11) (L := [(0, .ref (xad X 0)), (1, vI p1)]) rfl rfl (Nat.le_of_ble_eq_true rfl) rfl ?_
  refine ok_aload_n 0 (pc := 0) dX11_hold_0 rfl rfl ?_
  refine ok_getR (pc := 1) dX11_hold_1 fl_X11_46 sh_0 (Nat.le_of_ble_eq_true rfl) rfl rfl ?_
  refine ok_iload_n 1 (pc := 4) dX11_hold_4 rfl rfl ?_
  refine ok_callVi (As := [vI p1]) (rest := []) (rm := rm_X0_has) (pc := 5) dX11_hold_5 me_X0_has ml_X11_154 (ci := 0) rfl sh_16 (Nat.le_of_ble_eq_true rfl) rfl des_X0_has rfl ⟨rfl, rfl, rfl, rfl⟩ rfl rfl (c_X0_has X p1 hp1 h) (fun r2 σ3 h1 h => ?_)
  refine ok_if_ne (tgt := 13) (pc := 8) dX11_hold_8 rfl h1 (fun q4 => ?_) (fun q4 => ?_)
  · have h := iteF h q4
    refine ok_aload_n 0 (pc := 13) dX11_hold_13 rfl rfl ?_
    refine ok_getR (pc := 14) dX11_hold_14 fl_X11_53 sh_0 (Nat.le_of_ble_eq_true rfl) rfl rfl ?_
    refine ok_wf (fun hw5 => ?_)
    refine ok_getI (pc := 17) dX11_hold_17 fl_X11_225 sh_95 (Nat.le_of_ble_eq_true rfl) rfl rfl ?_
    refine ok_if_ne (tgt := 26) (pc := 20) dX11_hold_20 rfl (hw5 _ _) (fun q6 => ?_) (fun q6 => ?_)
    · have h := iteF h q6
      refine ok_aload_n 0 (pc := 26) dX11_hold_26 rfl rfl ?_
      refine ok_getR (pc := 27) dX11_hold_27 fl_X11_53 sh_0 (Nat.le_of_ble_eq_true rfl) rfl rfl ?_
      refine ok_aload_n 0 (pc := 30) dX11_hold_30 rfl rfl ?_
      refine ok_getR (pc := 31) dX11_hold_31 fl_X11_46 sh_0 (Nat.le_of_ble_eq_true rfl) rfl rfl ?_
      refine ok_callVv (As := [.ref (xad X 16)]) (rest := []) (rm := rm_X10_findMatches) (pc := 34) dX11_hold_34 me_X10_findMatches ml_X11_265 (ci := 10) rfl sh_95 (Nat.le_of_ble_eq_true rfl) rfl des_X10_findMatches rfl ⟨rfl, rfl, rfl, rfl⟩ rfl rfl (c_X10_findMatches X h) (fun σ9 h => ?_)
      refine ok_aload_n 0 (pc := 37) dX11_hold_37 rfl rfl ?_
      refine ok_getR (pc := 38) dX11_hold_38 fl_X11_53 sh_0 (Nat.le_of_ble_eq_true rfl) rfl rfl ?_
      refine ok_getR (pc := 41) dX11_hold_41 fl_X11_272 sh_95 (Nat.le_of_ble_eq_true rfl) rfl rfl ?_
      refine ok_iload_n 1 (pc := 44) dX11_hold_44 rfl rfl ?_
      obtain ⟨h10, h⟩ := h
      obtain ⟨h11, h⟩ := h
      refine ok_wf (fun hw12 => ?_)
      refine ok_iald (pc := 45) dX11_hold_45 sh_97 (Nat.le_of_ble_eq_true rfl) rfl h10 h11 ?_
      refine ok_bipush (pc := 46) dX11_hold_46 rfl ?_
      refine ok_icmp_ne (tgt := 54) (pc := 48) dX11_hold_48 rfl (hw12 _ _) (r_lit rfl) (fun q13 => ?_) (fun q13 => ?_)
      · have h := iteF h q13
        refine ok_aload_n 0 (pc := 54) dX11_hold_54 rfl rfl ?_
        refine ok_getI (pc := 55) dX11_hold_55 fl_X11_351 sh_0 (Nat.le_of_ble_eq_true rfl) rfl rfl ?_
        refine ok_bipush (pc := 58) dX11_hold_58 rfl ?_
        refine ok_icmp_lt (tgt := 66) (pc := 60) dX11_hold_60 rfl (hw12 _ _) (r_lit rfl) (fun q14 => ?_) (fun q14 => ?_)
        · have h := iteT h q14
          refine ok_aload_n 0 (pc := 66) dX11_hold_66 rfl rfl ?_
          refine ok_getR (pc := 67) dX11_hold_67 fl_X11_91 sh_0 (Nat.le_of_ble_eq_true rfl) rfl rfl ?_
          refine ok_aload_n 0 (pc := 70) dX11_hold_70 rfl rfl ?_
          refine ok_getI (pc := 71) dX11_hold_71 fl_X11_351 sh_0 (Nat.le_of_ble_eq_true rfl) rfl rfl ?_
          refine ok_iload_n 1 (pc := 74) dX11_hold_74 rfl rfl ?_
          obtain ⟨h15, h⟩ := h
          obtain ⟨h16, h⟩ := h
          refine ok_iast (pc := 75) dX11_hold_75 sh_118 (Nat.le_of_ble_eq_true rfl) rfl h15 h16 hp1 ?_
          refine ok_aload_n 0 (pc := 76) dX11_hold_76 rfl rfl ?_
          refine ok_getR (pc := 77) dX11_hold_77 fl_X11_94 sh_0 (Nat.le_of_ble_eq_true rfl) rfl rfl ?_
          refine ok_aload_n 0 (pc := 80) dX11_hold_80 rfl rfl ?_
          refine ok_wf (fun hw17 => ?_)
          refine ok_getI (pc := 81) dX11_hold_81 fl_X11_351 sh_0 (Nat.le_of_ble_eq_true rfl) rfl rfl ?_
          have e18 : ((mset σ9 118 ((σ9 0 15).toNat) p1) 0 15) = (σ9 0 15) := (mset_ne (by omega))
          refine ok_top e18 ?_
          refine ok_aload_n 0 (pc := 84) dX11_hold_84 rfl rfl ?_
          refine ok_getR (pc := 85) dX11_hold_85 fl_X11_37 sh_0 (Nat.le_of_ble_eq_true rfl) rfl rfl ?_
          refine ok_getI (pc := 88) dX11_hold_88 fl_X11_108 sh_14 (Nat.le_of_ble_eq_true rfl) rfl rfl ?_
          have e20 : ((mset σ9 118 ((σ9 0 15).toNat) p1) 14 2) = (σ9 14 2) := (mset_ne (by omega))
          refine ok_top e20 ?_
          refine ok_iast (pc := 91) dX11_hold_91 sh_119 (Nat.le_of_ble_eq_true rfl) rfl h15 h16 (e20 ▸ hw17 _ _) ?_
          refine ok_aload_n 0 (pc := 92) dX11_hold_92 rfl rfl ?_
          refine ok_getR (pc := 93) dX11_hold_93 fl_X11_97 sh_0 (Nat.le_of_ble_eq_true rfl) rfl rfl ?_
          refine ok_aload_n 0 (pc := 96) dX11_hold_96 rfl rfl ?_
          refine ok_wf (fun hw22 => ?_)
          refine ok_getI (pc := 97) dX11_hold_97 fl_X11_351 sh_0 (Nat.le_of_ble_eq_true rfl) rfl rfl ?_
          have e23 : ((mset (mset σ9 118 ((σ9 0 15).toNat) p1) 119 ((σ9 0 15).toNat) (σ9 14 2)) 0 15) = (σ9 0 15) := (mset_ne (by omega)).trans (mset_ne (by omega))
          refine ok_top e23 ?_
          refine ok_aload_n 0 (pc := 100) dX11_hold_100 rfl rfl ?_
          refine ok_getR (pc := 101) dX11_hold_101 fl_X11_53 sh_0 (Nat.le_of_ble_eq_true rfl) rfl rfl ?_
          refine ok_getI (pc := 104) dX11_hold_104 fl_X11_229 sh_95 (Nat.le_of_ble_eq_true rfl) rfl rfl ?_
          have e25 : ((mset (mset σ9 118 ((σ9 0 15).toNat) p1) 119 ((σ9 0 15).toNat) (σ9 14 2)) 95 1) = (σ9 95 1) := (mset_ne (by omega)).trans (mset_ne (by omega))
          refine ok_top e25 ?_
          refine ok_iast (pc := 107) dX11_hold_107 sh_120 (Nat.le_of_ble_eq_true rfl) rfl h15 h16 (e25 ▸ hw22 _ _) ?_
          refine ok_aload_n 0 (pc := 108) dX11_hold_108 rfl rfl ?_
          refine ok_dup (pc := 109) dX11_hold_109 rfl ?_
          refine ok_wf (fun hw27 => ?_)
          refine ok_getI (pc := 110) dX11_hold_110 fl_X11_351 sh_0 (Nat.le_of_ble_eq_true rfl) rfl rfl ?_
          have e28 : ((mset (mset (mset σ9 118 ((σ9 0 15).toNat) p1) 119 ((σ9 0 15).toNat) (σ9 14 2)) 120 ((σ9 0 15).toNat) (σ9 95 1)) 0 15) = (σ9 0 15) := (mset_ne (by omega)).trans ((mset_ne (by omega)).trans (mset_ne (by omega)))
          refine ok_top e28 ?_
          refine ok_iconst (pc := 113) dX11_hold_113 ?_
          refine ok_iadd (pc := 114) dX11_hold_114 ?_
          obtain ⟨h30, h⟩ := h
          refine ok_putI (pc := 115) dX11_hold_115 fl_X11_351 fp_X11_15 sh_0 (Nat.le_of_ble_eq_true rfl) rfl rfl h30 rfl rfl ?_
          refine ok_aload_n 0 (pc := 118) dX11_hold_118 rfl rfl ?_
          refine ok_wf (fun hw31 => ?_)
          refine ok_getI (pc := 119) dX11_hold_119 fl_X11_351 sh_0 (Nat.le_of_ble_eq_true rfl) rfl rfl ?_
          have e32 : ((mset (mset (mset (mset σ9 118 ((σ9 0 15).toNat) p1) 119 ((σ9 0 15).toNat) (σ9 14 2)) 120 ((σ9 0 15).toNat) (σ9 95 1)) 0 15 ((σ9 0 15) + 1)) 0 15) = ((σ9 0 15) + 1) := mset_eq
          refine ok_top e32 ?_
          refine ok_iconst (pc := 122) dX11_hold_122 ?_
          refine ok_isub (pc := 123) dX11_hold_123 ?_
          obtain ⟨h33, h⟩ := h
          exact ok_iret (pc := 124) dX11_hold_124 rfl rfl rfl h33 h
        · have h := iteF h q14
          refine ok_bipush (pc := 63) dX11_hold_63 rfl ?_
          exact ok_iret (pc := 65) dX11_hold_65 rfl rfl rfl (r_lit rfl) h
      · have h := iteT h q13
        refine ok_bipush (pc := 51) dX11_hold_51 rfl ?_
        exact ok_iret (pc := 53) dX11_hold_53 rfl rfl rfl (r_lit rfl) h
    · have h := iteT h q6
      refine ok_bipush (pc := 23) dX11_hold_23 rfl ?_
      exact ok_iret (pc := 25) dX11_hold_25 rfl rfl rfl (r_lit rfl) h
  · have h := iteT h q4
    refine ok_iconst (pc := 11) dX11_hold_11 ?_
    exact ok_iret (pc := 12) dX11_hold_12 rfl rfl rfl (r_lit rfl) h
theorem dX11_isHold_0 : decode cX11_isHold 0 = .ok (.iload_n 1, 1) := by decide +kernel
theorem dX11_isHold_1 : decode cX11_isHold 1 = .ok (.ifCond .lt 15, 3) := by decide +kernel
theorem dX11_isHold_4 : decode cX11_isHold 4 = .ok (.iload_n 1, 1) := by decide +kernel
theorem dX11_isHold_5 : decode cX11_isHold 5 = .ok (.aload_n 0, 1) := by decide +kernel
theorem dX11_isHold_6 : decode cX11_isHold 6 = .ok (.getfield 351, 3) := by decide +kernel
theorem dX11_isHold_9 : decode cX11_isHold 9 = .ok (.if_icmp .ge 7, 3) := by decide +kernel
theorem dX11_isHold_12 : decode cX11_isHold 12 = .ok (.iconst 1, 1) := by decide +kernel
theorem dX11_isHold_13 : decode cX11_isHold 13 = .ok (.goto 4, 3) := by decide +kernel
theorem dX11_isHold_16 : decode cX11_isHold 16 = .ok (.iconst 0, 1) := by decide +kernel
theorem dX11_isHold_17 : decode cX11_isHold 17 = .ok (.ireturn, 1) := by decide +kernel
set_option maxRecDepth 100000 in
set_option maxHeartbeats 4000000 in
theorem c_X11_isHold (X : XE) (p1 : Int) (hp1 : inR p1) {σ : Mem} {Q : Int → Mem → Prop} (h : v_X11_isHold p1 σ Q) : CT X yX11_isHold cX11_isHold 2 (some .boolean) rm_X11_isHold 1 [.ref (xad X 0), vI p1] σ Q := by
  refine ct_of (own := RX11) (L := [(0, .ref (xad X 0)), (1, vI p1)]) rfl rfl (Nat.le_of_ble_eq_true rfl) rfl ?_
  refine ok_iload_n 1 (pc := 0) dX11_isHold_0 rfl rfl ?_
  refine ok_if_lt (tgt := 16) (pc := 1) dX11_isHold_1 rfl hp1 (fun q1 => ?_) (fun q1 => ?_)
  · have h := iteT h q1
    refine ok_iconst (pc := 16) dX11_isHold_16 ?_
    exact ok_iret (pc := 17) dX11_isHold_17 rfl rfl (nr_z (Or.inl rfl)) (r_lit rfl) h
  · have h := iteF h q1
    refine ok_iload_n 1 (pc := 4) dX11_isHold_4 rfl rfl ?_
    refine ok_aload_n 0 (pc := 5) dX11_isHold_5 rfl rfl ?_
    refine ok_wf (fun hw2 => ?_)
    refine ok_getI (pc := 6) dX11_isHold_6 fl_X11_351 sh_0 (Nat.le_of_ble_eq_true rfl) rfl rfl ?_
    refine ok_icmp_ge (tgt := 16) (pc := 9) dX11_isHold_9 rfl hp1 (hw2 _ _) (fun q3 => ?_) (fun q3 => ?_)
    · have h := iteF h q3
      refine ok_iconst (pc := 16) dX11_isHold_16 ?_
      exact ok_iret (pc := 17) dX11_isHold_17 rfl rfl (nr_z (Or.inl rfl)) (r_lit rfl) h
    · have h := iteT h q3
      refine ok_iconst (pc := 12) dX11_isHold_12 ?_
      refine ok_goto (tgt := 17) (pc := 13) dX11_isHold_13 rfl ?_
      exact ok_iret (pc := 17) dX11_isHold_17 rfl rfl (nr_z (Or.inr rfl)) (r_lit rfl) h
theorem dX11_leaned_0 : decode cX11_leaned 0 = .ok (.iconst 0, 1) := by decide +kernel
theorem dX11_leaned_1 : decode cX11_leaned 1 = .ok (.istore_n 2, 1) := by decide +kernel
theorem dX11_leaned_2 : decode cX11_leaned 2 = .ok (.iconst 0, 1) := by decide +kernel
theorem dX11_leaned_3 : decode cX11_leaned 3 = .ok (.istore_n 3, 1) := by decide +kernel
theorem dX11_leaned_4 : decode cX11_leaned 4 = .ok (.iload_n 3, 1) := by decide +kernel
theorem dX11_leaned_5 : decode cX11_leaned 5 = .ok (.aload_n 0, 1) := by decide +kernel
theorem dX11_leaned_6 : decode cX11_leaned 6 = .ok (.getfield 351, 3) := by decide +kernel
theorem dX11_leaned_9 : decode cX11_leaned 9 = .ok (.if_icmp .ge 96, 3) := by decide +kernel
theorem dX11_leaned_12 : decode cX11_leaned 12 = .ok (.iload_n 3, 1) := by decide +kernel
theorem dX11_leaned_13 : decode cX11_leaned 13 = .ok (.iload_n 1, 1) := by decide +kernel
theorem dX11_leaned_14 : decode cX11_leaned 14 = .ok (.if_icmp .eq 22, 3) := by decide +kernel
theorem dX11_leaned_17 : decode cX11_leaned 17 = .ok (.aload_n 0, 1) := by decide +kernel
theorem dX11_leaned_18 : decode cX11_leaned 18 = .ok (.getfield 94, 3) := by decide +kernel
theorem dX11_leaned_21 : decode cX11_leaned 21 = .ok (.iload_n 3, 1) := by decide +kernel
theorem dX11_leaned_22 : decode cX11_leaned 22 = .ok (.iaload, 1) := by decide +kernel
theorem dX11_leaned_23 : decode cX11_leaned 23 = .ok (.aload_n 0, 1) := by decide +kernel
theorem dX11_leaned_24 : decode cX11_leaned 24 = .ok (.getfield 94, 3) := by decide +kernel
theorem dX11_leaned_27 : decode cX11_leaned 27 = .ok (.iload_n 1, 1) := by decide +kernel
theorem dX11_leaned_28 : decode cX11_leaned 28 = .ok (.iaload, 1) := by decide +kernel
theorem dX11_leaned_29 : decode cX11_leaned 29 = .ok (.if_icmp .lt 7, 3) := by decide +kernel
theorem dX11_leaned_32 : decode cX11_leaned 32 = .ok (.iconst 1, 1) := by decide +kernel
theorem dX11_leaned_33 : decode cX11_leaned 33 = .ok (.goto 4, 3) := by decide +kernel
theorem dX11_leaned_36 : decode cX11_leaned 36 = .ok (.iconst 0, 1) := by decide +kernel
theorem dX11_leaned_37 : decode cX11_leaned 37 = .ok (.istore 4, 2) := by decide +kernel
theorem dX11_leaned_39 : decode cX11_leaned 39 = .ok (.aload_n 0, 1) := by decide +kernel
theorem dX11_leaned_40 : decode cX11_leaned 40 = .ok (.getfield 91, 3) := by decide +kernel
theorem dX11_leaned_43 : decode cX11_leaned 43 = .ok (.iload_n 3, 1) := by decide +kernel
theorem dX11_leaned_44 : decode cX11_leaned 44 = .ok (.iaload, 1) := by decide +kernel
theorem dX11_leaned_45 : decode cX11_leaned 45 = .ok (.aload_n 0, 1) := by decide +kernel
theorem dX11_leaned_46 : decode cX11_leaned 46 = .ok (.getfield 91, 3) := by decide +kernel
theorem dX11_leaned_49 : decode cX11_leaned 49 = .ok (.iload_n 1, 1) := by decide +kernel
theorem dX11_leaned_50 : decode cX11_leaned 50 = .ok (.iaload, 1) := by decide +kernel
theorem dX11_leaned_51 : decode cX11_leaned 51 = .ok (.if_icmp .ne 7, 3) := by decide +kernel
theorem dX11_leaned_54 : decode cX11_leaned 54 = .ok (.iconst 1, 1) := by decide +kernel
theorem dX11_leaned_55 : decode cX11_leaned 55 = .ok (.goto 4, 3) := by decide +kernel
theorem dX11_leaned_58 : decode cX11_leaned 58 = .ok (.iconst 0, 1) := by decide +kernel
theorem dX11_leaned_59 : decode cX11_leaned 59 = .ok (.istore 5, 2) := by decide +kernel
theorem dX11_leaned_61 : decode cX11_leaned 61 = .ok (.iload 4, 2) := by decide +kernel
theorem dX11_leaned_63 : decode cX11_leaned 63 = .ok (.ifCond .eq 36, 3) := by decide +kernel
theorem dX11_leaned_66 : decode cX11_leaned 66 = .ok (.iload 5, 2) := by decide +kernel
theorem dX11_leaned_68 : decode cX11_leaned 68 = .ok (.ifCond .ne 25, 3) := by decide +kernel
theorem dX11_leaned_71 : decode cX11_leaned 71 = .ok (.aload_n 0, 1) := by decide +kernel
theorem dX11_leaned_72 : decode cX11_leaned 72 = .ok (.getfield 46, 3) := by decide +kernel
theorem dX11_leaned_75 : decode cX11_leaned 75 = .ok (.aload_n 0, 1) := by decide +kernel
theorem dX11_leaned_76 : decode cX11_leaned 76 = .ok (.getfield 91, 3) := by decide +kernel
theorem dX11_leaned_79 : decode cX11_leaned 79 = .ok (.iload_n 1, 1) := by decide +kernel
theorem dX11_leaned_80 : decode cX11_leaned 80 = .ok (.iaload, 1) := by decide +kernel
theorem dX11_leaned_81 : decode cX11_leaned 81 = .ok (.aload_n 0, 1) := by decide +kernel
theorem dX11_leaned_82 : decode cX11_leaned 82 = .ok (.getfield 91, 3) := by decide +kernel
theorem dX11_leaned_85 : decode cX11_leaned 85 = .ok (.iload_n 3, 1) := by decide +kernel
theorem dX11_leaned_86 : decode cX11_leaned 86 = .ok (.iaload, 1) := by decide +kernel
theorem dX11_leaned_87 : decode cX11_leaned 87 = .ok (.invokevirtual 300, 3) := by decide +kernel
theorem dX11_leaned_90 : decode cX11_leaned 90 = .ok (.ifCond .eq 9, 3) := by decide +kernel
theorem dX11_leaned_93 : decode cX11_leaned 93 = .ok (.iload_n 2, 1) := by decide +kernel
theorem dX11_leaned_94 : decode cX11_leaned 94 = .ok (.iconst 1, 1) := by decide +kernel
theorem dX11_leaned_95 : decode cX11_leaned 95 = .ok (.iload_n 3, 1) := by decide +kernel
theorem dX11_leaned_96 : decode cX11_leaned 96 = .ok (.ishl, 1) := by decide +kernel
theorem dX11_leaned_97 : decode cX11_leaned 97 = .ok (.ior, 1) := by decide +kernel
theorem dX11_leaned_98 : decode cX11_leaned 98 = .ok (.istore_n 2, 1) := by decide +kernel
theorem dX11_leaned_99 : decode cX11_leaned 99 = .ok (.iinc 3 1, 3) := by decide +kernel
theorem dX11_leaned_102 : decode cX11_leaned 102 = .ok (.goto (-98), 3) := by decide +kernel
theorem dX11_leaned_105 : decode cX11_leaned 105 = .ok (.iload_n 2, 1) := by decide +kernel
theorem dX11_leaned_106 : decode cX11_leaned 106 = .ok (.ireturn, 1) := by decide +kernel
set_option maxRecDepth 100000 in
set_option maxHeartbeats 4000000 in
theorem w_X11_leaned_93 (X : XE) (p1 : Int) (hp1 : inR p1) (x2 : Int) (x3 : Int) (hx2 : inR x2) (hx3 : inR x3) {K4 : Int → Int → Mem → Prop} {Q : Int → Mem → Prop} (hK4 : ∀ (x2 : Int) (x3 : Int) (σ : Mem), inR x2 → inR x3 → K4 x2 x3 σ → ok X rm_X11_leaned RX11 cX11_leaned 6 (some .int) 1 Q 4 [(0, .ref (xad X 0)), (1, vI p1), (2, vI x2), (3, vI x3)] [] σ) {σ : Mem} (h : j_X11_leaned_93 p1 K4 Q x2 x3 σ) : ok X rm_X11_leaned RX11 cX11_leaned 6 (some .int) 1 Q 93 [(0, .ref (xad X 0)), (1, vI p1), (2, vI x2), (3, vI x3)] [] σ := by
  refine ok_iload_n 2 (pc := 93) dX11_leaned_93 rfl rfl ?_
  refine ok_iconst (pc := 94) dX11_leaned_94 ?_
  refine ok_iload_n 3 (pc := 95) dX11_leaned_95 rfl rfl ?_
  refine ok_ishl (pc := 96) dX11_leaned_96 ?_
  refine ok_ior (pc := 97) dX11_leaned_97 ?_
  refine ok_istore_n (L' := [(2, vI (ior x2 (ishl 1 x3))), (0, .ref (xad X 0)), (1, vI p1), (3, vI x3)]) (pc := 98) dX11_leaned_98 rfl rfl rfl ?_
  refine ok_iinc (L' := [(3, vI (x3 + 1)), (2, vI (ior x2 (ishl 1 x3))), (0, .ref (xad X 0)), (1, vI p1)]) 3 (pc := 99) dX11_leaned_99 rfl rfl rfl ?_
  refine ok_goto (tgt := 4) (pc := 102) dX11_leaned_102 rfl ?_
  obtain ⟨h1, h⟩ := h
  refine ok_sub (L' := [(0, .ref (xad X 0)), (1, vI p1), (2, vI (ior x2 (ishl 1 x3))), (3, vI (x3 + 1))]) [2,3,1,0] rfl ?_
  exact hK4 (ior x2 (ishl 1 x3)) (x3 + 1) σ (q_rng _) h1 h
set_option maxRecDepth 100000 in
set_option maxHeartbeats 4000000 in
theorem w_X11_leaned_59 (X : XE) (p1 : Int) (hp1 : inR p1) (x2 : Int) (x3 : Int) (x4 : Int) (s0 : Int) (hx2 : inR x2) (hx3 : inR x3) (hx4 : inR x4) (hs0 : inR s0) {K4 : Int → Int → Mem → Prop} {Q : Int → Mem → Prop} (hK4 : ∀ (x2 : Int) (x3 : Int) (σ : Mem), inR x2 → inR x3 → K4 x2 x3 σ → ok X rm_X11_leaned RX11 cX11_leaned 6 (some .int) 1 Q 4 [(0, .ref (xad X 0)), (1, vI p1), (2, vI x2), (3, vI x3)] [] σ) {σ : Mem} (h : j_X11_leaned_59 p1 K4 Q x2 x3 x4 s0 σ) : ok X rm_X11_leaned RX11 cX11_leaned 6 (some .int) 1 Q 59 [(0, .ref (xad X 0)), (1, vI p1), (2, vI x2), (3, vI x3), (4, vI x4)] [vI s0] σ := by
  refine ok_istore (L' := [(5, vI s0), (0, .ref (xad X 0)), (1, vI p1), (2, vI x2), (3, vI x3), (4, vI x4)]) (pc := 59) dX11_leaned_59 rfl rfl ?_
  refine ok_iload 5 (pc := 61) dX11_leaned_61 rfl ?_
  refine ok_if_eq (tgt := 99) (pc := 63) dX11_leaned_63 rfl hx4 (fun q1 => ?_) (fun q1 => ?_)
  · have h := iteT h q1
    refine ok_iinc (L' := [(3, vI (x3 + 1)), (5, vI s0), (0, .ref (xad X 0)), (1, vI p1), (2, vI x2), (4, vI x4)]) 4 (pc := 99) dX11_leaned_99 rfl rfl rfl ?_
    refine ok_goto (tgt := 4) (pc := 102) dX11_leaned_102 rfl ?_
    obtain ⟨h2, h⟩ := h
    refine ok_sub (L' := [(0, .ref (xad X 0)), (1, vI p1), (2, vI x2), (3, vI (x3 + 1))]) [2,3,4,0] rfl ?_
    exact hK4 x2 (x3 + 1) σ hx2 h2 h
  · have h := iteF h q1
    refine ok_iload 0 (pc := 66) dX11_leaned_66 rfl ?_
    refine ok_if_ne (tgt := 93) (pc := 68) dX11_leaned_68 rfl hs0 (fun q3 => ?_) (fun q3 => ?_)
    · have h := iteF h q3
      refine ok_sub (L' := [(0, .ref (xad X 0)), (1, vI p1), (2, vI x2), (3, vI x3)]) [1,2,3,4] rfl ?_
      exact w_X11_leaned_93 X p1 hp1 x2 x3 hx2 hx3 hK4 h
    · have h := iteT h q3
      refine ok_aload_n 1 (pc := 71) dX11_leaned_71 rfl rfl ?_
      refine ok_getR (pc := 72) dX11_leaned_72 fl_X11_46 sh_0 (Nat.le_of_ble_eq_true rfl) rfl rfl ?_
      refine ok_aload_n 1 (pc := 75) dX11_leaned_75 rfl rfl ?_
      refine ok_getR (pc := 76) dX11_leaned_76 fl_X11_91 sh_0 (Nat.le_of_ble_eq_true rfl) rfl rfl ?_
      refine ok_iload_n 2 (pc := 79) dX11_leaned_79 rfl rfl ?_
      obtain ⟨h4, h⟩ := h
      obtain ⟨h5, h⟩ := h
      refine ok_wf (fun hw6 => ?_)
      refine ok_iald (pc := 80) dX11_leaned_80 sh_118 (Nat.le_of_ble_eq_true rfl) rfl h4 h5 ?_
      refine ok_aload_n 1 (pc := 81) dX11_leaned_81 rfl rfl ?_
      refine ok_getR (pc := 82) dX11_leaned_82 fl_X11_91 sh_0 (Nat.le_of_ble_eq_true rfl) rfl rfl ?_
      refine ok_iload_n 4 (pc := 85) dX11_leaned_85 rfl rfl ?_
      obtain ⟨h7, h⟩ := h
      obtain ⟨h8, h⟩ := h
      refine ok_iald (pc := 86) dX11_leaned_86 sh_118 (Nat.le_of_ble_eq_true rfl) rfl h7 h8 ?_
      refine ok_callVi (As := [vI (σ 118 p1.toNat), vI (σ 118 x3.toNat)]) (rest := []) (rm := rm_X0_joined) (pc := 87) dX11_leaned_87 me_X0_joined ml_X11_300 (ci := 0) rfl sh_16 (Nat.le_of_ble_eq_true rfl) rfl des_X0_joined rfl ⟨rfl, rfl, rfl, rfl⟩ rfl rfl (c_X0_joined X (σ 118 p1.toNat) (σ 118 x3.toNat) (hw6 _ _) (hw6 _ _) h) (fun r10 σ11 h9 h => ?_)
      refine ok_if_eq (tgt := 99) (pc := 90) dX11_leaned_90 rfl h9 (fun q12 => ?_) (fun q12 => ?_)
      · have h := iteT h q12
        refine ok_iinc (L' := [(3, vI (x3 + 1)), (5, vI s0), (0, .ref (xad X 0)), (1, vI p1), (2, vI x2), (4, vI x4)]) 4 (pc := 99) dX11_leaned_99 rfl rfl rfl ?_
        refine ok_goto (tgt := 4) (pc := 102) dX11_leaned_102 rfl ?_
        obtain ⟨h13, h⟩ := h
        refine ok_sub (L' := [(0, .ref (xad X 0)), (1, vI p1), (2, vI x2), (3, vI (x3 + 1))]) [2,3,4,0] rfl ?_
        exact hK4 x2 (x3 + 1) σ11 hx2 h13 h
      · have h := iteF h q12
        refine ok_sub (L' := [(0, .ref (xad X 0)), (1, vI p1), (2, vI x2), (3, vI x3)]) [1,2,3,4] rfl ?_
        exact w_X11_leaned_93 X p1 hp1 x2 x3 hx2 hx3 hK4 h
set_option maxRecDepth 100000 in
set_option maxHeartbeats 4000000 in
theorem w_X11_leaned_37 (X : XE) (p1 : Int) (hp1 : inR p1) (x2 : Int) (x3 : Int) (s0 : Int) (hx2 : inR x2) (hx3 : inR x3) (hs0 : inR s0) {K4 : Int → Int → Mem → Prop} {Q : Int → Mem → Prop} (hK4 : ∀ (x2 : Int) (x3 : Int) (σ : Mem), inR x2 → inR x3 → K4 x2 x3 σ → ok X rm_X11_leaned RX11 cX11_leaned 6 (some .int) 1 Q 4 [(0, .ref (xad X 0)), (1, vI p1), (2, vI x2), (3, vI x3)] [] σ) {σ : Mem} (h : j_X11_leaned_37 p1 K4 Q x2 x3 s0 σ) : ok X rm_X11_leaned RX11 cX11_leaned 6 (some .int) 1 Q 37 [(0, .ref (xad X 0)), (1, vI p1), (2, vI x2), (3, vI x3)] [vI s0] σ := by
  refine ok_istore (L' := [(4, vI s0), (0, .ref (xad X 0)), (1, vI p1), (2, vI x2), (3, vI x3)]) (pc := 37) dX11_leaned_37 rfl rfl ?_
  refine ok_aload_n 1 (pc := 39) dX11_leaned_39 rfl rfl ?_
  refine ok_getR (pc := 40) dX11_leaned_40 fl_X11_91 sh_0 (Nat.le_of_ble_eq_true rfl) rfl rfl ?_
  refine ok_iload_n 4 (pc := 43) dX11_leaned_43 rfl rfl ?_
  obtain ⟨h1, h⟩ := h
  obtain ⟨h2, h⟩ := h
  refine ok_wf (fun hw3 => ?_)
  refine ok_iald (pc := 44) dX11_leaned_44 sh_118 (Nat.le_of_ble_eq_true rfl) rfl h1 h2 ?_
  refine ok_aload_n 1 (pc := 45) dX11_leaned_45 rfl rfl ?_
  refine ok_getR (pc := 46) dX11_leaned_46 fl_X11_91 sh_0 (Nat.le_of_ble_eq_true rfl) rfl rfl ?_
  refine ok_iload_n 2 (pc := 49) dX11_leaned_49 rfl rfl ?_
  obtain ⟨h4, h⟩ := h
  obtain ⟨h5, h⟩ := h
  refine ok_iald (pc := 50) dX11_leaned_50 sh_118 (Nat.le_of_ble_eq_true rfl) rfl h4 h5 ?_
  refine ok_icmp_ne (tgt := 58) (pc := 51) dX11_leaned_51 rfl (hw3 _ _) (hw3 _ _) (fun q6 => ?_) (fun q6 => ?_)
  · simp only [if_neg q6] at h
    refine ok_iconst (pc := 58) dX11_leaned_58 ?_
    refine ok_sub (L' := [(0, .ref (xad X 0)), (1, vI p1), (2, vI x2), (3, vI x3), (4, vI s0)]) [1,2,3,4,0] rfl ?_
    exact w_X11_leaned_59 X p1 hp1 x2 x3 s0 0 hx2 hx3 hs0 (r_lit rfl) hK4 h
  · simp only [if_pos q6] at h
    refine ok_iconst (pc := 54) dX11_leaned_54 ?_
    refine ok_goto (tgt := 59) (pc := 55) dX11_leaned_55 rfl ?_
    refine ok_sub (L' := [(0, .ref (xad X 0)), (1, vI p1), (2, vI x2), (3, vI x3), (4, vI s0)]) [1,2,3,4,0] rfl ?_
    exact w_X11_leaned_59 X p1 hp1 x2 x3 s0 1 hx2 hx3 hs0 (r_lit rfl) hK4 h
set_option maxRecDepth 100000 in
set_option maxHeartbeats 4000000 in
theorem w_X11_leaned_4 (X : XE) (p1 : Int) (hp1 : inR p1) {Q : Int → Mem → Prop} : ∀ (n : Nat) (x2 : Int) (x3 : Int) (σ : Mem), inR x2 → inR x3 → l_X11_leaned_4 p1 Q n x2 x3 σ → ok X rm_X11_leaned RX11 cX11_leaned 6 (some .int) 1 Q 4 [(0, .ref (xad X 0)), (1, vI p1), (2, vI x2), (3, vI x3)] [] σ := by
  intro n
  induction n with
  | zero => intro x2 x3 σ hx2 hx3 h; exact False.elim h
  | succ n ih =>
    intro x2 x3 σ hx2 hx3 h
    refine ok_iload_n 3 (pc := 4) dX11_leaned_4 rfl rfl ?_
    refine ok_aload_n 0 (pc := 5) dX11_leaned_5 rfl rfl ?_
    refine ok_wf (fun hw1 => ?_)
    refine ok_getI (pc := 6) dX11_leaned_6 fl_X11_351 sh_0 (Nat.le_of_ble_eq_true rfl) rfl rfl ?_
    refine ok_icmp_ge (tgt := 105) (pc := 9) dX11_leaned_9 rfl hx3 (hw1 _ _) (fun q2 => ?_) (fun q2 => ?_)
    · have h := iteF h q2
      refine ok_iload_n 2 (pc := 105) dX11_leaned_105 rfl rfl ?_
      exact ok_iret (pc := 106) dX11_leaned_106 rfl rfl rfl hx2 h
    · have h := iteT h q2
      refine ok_iload_n 3 (pc := 12) dX11_leaned_12 rfl rfl ?_
      refine ok_iload_n 1 (pc := 13) dX11_leaned_13 rfl rfl ?_
      refine ok_icmp_eq (tgt := 36) (pc := 14) dX11_leaned_14 rfl hx3 hp1 (fun q3 => ?_) (fun q3 => ?_)
      · have h := iteT h q3
        refine ok_iconst (pc := 36) dX11_leaned_36 ?_
        exact w_X11_leaned_37 X p1 hp1 x2 x3 0 hx2 hx3 (r_lit rfl) (fun x2_ x3_ σ_ hx2_ hx3_ h_ => ih x2_ x3_ σ_ hx2_ hx3_ h_) h
      · have h := iteF h q3
        refine ok_aload_n 0 (pc := 17) dX11_leaned_17 rfl rfl ?_
        refine ok_getR (pc := 18) dX11_leaned_18 fl_X11_94 sh_0 (Nat.le_of_ble_eq_true rfl) rfl rfl ?_
        refine ok_iload_n 3 (pc := 21) dX11_leaned_21 rfl rfl ?_
        obtain ⟨h4, h⟩ := h
        obtain ⟨h5, h⟩ := h
        refine ok_iald (pc := 22) dX11_leaned_22 sh_119 (Nat.le_of_ble_eq_true rfl) rfl h4 h5 ?_
        refine ok_aload_n 0 (pc := 23) dX11_leaned_23 rfl rfl ?_
        refine ok_getR (pc := 24) dX11_leaned_24 fl_X11_94 sh_0 (Nat.le_of_ble_eq_true rfl) rfl rfl ?_
        refine ok_iload_n 1 (pc := 27) dX11_leaned_27 rfl rfl ?_
        obtain ⟨h6, h⟩ := h
        obtain ⟨h7, h⟩ := h
        refine ok_iald (pc := 28) dX11_leaned_28 sh_119 (Nat.le_of_ble_eq_true rfl) rfl h6 h7 ?_
        refine ok_icmp_lt (tgt := 36) (pc := 29) dX11_leaned_29 rfl (hw1 _ _) (hw1 _ _) (fun q8 => ?_) (fun q8 => ?_)
        · simp only [if_pos q8] at h
          refine ok_iconst (pc := 36) dX11_leaned_36 ?_
          exact w_X11_leaned_37 X p1 hp1 x2 x3 0 hx2 hx3 (r_lit rfl) (fun x2_ x3_ σ_ hx2_ hx3_ h_ => ih x2_ x3_ σ_ hx2_ hx3_ h_) h
        · simp only [if_neg q8] at h
          refine ok_iconst (pc := 32) dX11_leaned_32 ?_
          refine ok_goto (tgt := 37) (pc := 33) dX11_leaned_33 rfl ?_
          exact w_X11_leaned_37 X p1 hp1 x2 x3 1 hx2 hx3 (r_lit rfl) (fun x2_ x3_ σ_ hx2_ hx3_ h_ => ih x2_ x3_ σ_ hx2_ hx3_ h_) h
set_option maxRecDepth 100000 in
set_option maxHeartbeats 4000000 in
theorem c_X11_leaned (X : XE) (p1 : Int) (hp1 : inR p1) {σ : Mem} {Q : Int → Mem → Prop} (h : v_X11_leaned p1 σ Q) : CT X yX11_leaned cX11_leaned 6 (some .int) rm_X11_leaned 1 [.ref (xad X 0), vI p1] σ Q := by
  refine ct_of (own := RX11) (L := [(0, .ref (xad X 0)), (1, vI p1)]) rfl rfl (Nat.le_of_ble_eq_true rfl) rfl ?_
  refine ok_iconst (pc := 0) dX11_leaned_0 ?_
  refine ok_istore_n (L' := [(2, vI 0), (0, .ref (xad X 0)), (1, vI p1)]) (pc := 1) dX11_leaned_1 rfl rfl rfl ?_
  refine ok_iconst (pc := 2) dX11_leaned_2 ?_
  refine ok_istore_n (L' := [(3, vI 0), (2, vI 0), (0, .ref (xad X 0)), (1, vI p1)]) (pc := 3) dX11_leaned_3 rfl rfl rfl ?_
  refine ok_sub (L' := [(0, .ref (xad X 0)), (1, vI p1), (2, vI 0), (3, vI 0)]) [2,3,1,0] rfl ?_
  obtain ⟨n1, h⟩ := h
  exact w_X11_leaned_4 X p1 hp1 n1 0 0 σ (r_lit rfl) (r_lit rfl) h
theorem dX11_held_0 : decode cX11_held 0 = .ok (.aload_n 0, 1) := by decide +kernel
theorem dX11_held_1 : decode cX11_held 1 = .ok (.iload_n 1, 1) := by decide +kernel
theorem dX11_held_2 : decode cX11_held 2 = .ok (.invokevirtual 354, 3) := by decide +kernel
theorem dX11_held_5 : decode cX11_held 5 = .ok (.ifCond .eq 12, 3) := by decide +kernel
theorem dX11_held_8 : decode cX11_held 8 = .ok (.iload_n 2, 1) := by decide +kernel
theorem dX11_held_9 : decode cX11_held 9 = .ok (.ifCond .lt 8, 3) := by decide +kernel
theorem dX11_held_12 : decode cX11_held 12 = .ok (.iload_n 2, 1) := by decide +kernel
theorem dX11_held_13 : decode cX11_held 13 = .ok (.iconst 5, 1) := by decide +kernel
theorem dX11_held_14 : decode cX11_held 14 = .ok (.if_icmp .le 5, 3) := by decide +kernel
theorem dX11_held_17 : decode cX11_held 17 = .ok (.iconst (-1), 1) := by decide +kernel
theorem dX11_held_18 : decode cX11_held 18 = .ok (.ireturn, 1) := by decide +kernel
theorem dX11_held_19 : decode cX11_held 19 = .ok (.iload_n 2, 1) := by decide +kernel
theorem dX11_held_20 : decode cX11_held 20 = .ok (.tableswitch 76 0 4 #[36, 43, 50, 57, 67], 36) := by decide +kernel
theorem dX11_held_56 : decode cX11_held 56 = .ok (.aload_n 0, 1) := by decide +kernel
theorem dX11_held_57 : decode cX11_held 57 = .ok (.getfield 91, 3) := by decide +kernel
theorem dX11_held_60 : decode cX11_held 60 = .ok (.iload_n 1, 1) := by decide +kernel
theorem dX11_held_61 : decode cX11_held 61 = .ok (.iaload, 1) := by decide +kernel
theorem dX11_held_62 : decode cX11_held 62 = .ok (.ireturn, 1) := by decide +kernel
theorem dX11_held_63 : decode cX11_held 63 = .ok (.aload_n 0, 1) := by decide +kernel
theorem dX11_held_64 : decode cX11_held 64 = .ok (.getfield 94, 3) := by decide +kernel
theorem dX11_held_67 : decode cX11_held 67 = .ok (.iload_n 1, 1) := by decide +kernel
theorem dX11_held_68 : decode cX11_held 68 = .ok (.iaload, 1) := by decide +kernel
theorem dX11_held_69 : decode cX11_held 69 = .ok (.ireturn, 1) := by decide +kernel
theorem dX11_held_70 : decode cX11_held 70 = .ok (.aload_n 0, 1) := by decide +kernel
theorem dX11_held_71 : decode cX11_held 71 = .ok (.getfield 97, 3) := by decide +kernel
theorem dX11_held_74 : decode cX11_held 74 = .ok (.iload_n 1, 1) := by decide +kernel
theorem dX11_held_75 : decode cX11_held 75 = .ok (.iaload, 1) := by decide +kernel
theorem dX11_held_76 : decode cX11_held 76 = .ok (.ireturn, 1) := by decide +kernel
theorem dX11_held_77 : decode cX11_held 77 = .ok (.aload_n 0, 1) := by decide +kernel
theorem dX11_held_78 : decode cX11_held 78 = .ok (.getfield 100, 3) := by decide +kernel
theorem dX11_held_81 : decode cX11_held 81 = .ok (.iload_n 1, 1) := by decide +kernel
theorem dX11_held_82 : decode cX11_held 82 = .ok (.baload, 1) := by decide +kernel
theorem dX11_held_83 : decode cX11_held 83 = .ok (.invokestatic 188, 3) := by decide +kernel
theorem dX11_held_86 : decode cX11_held 86 = .ok (.ireturn, 1) := by decide +kernel
theorem dX11_held_87 : decode cX11_held 87 = .ok (.aload_n 0, 1) := by decide +kernel
theorem dX11_held_88 : decode cX11_held 88 = .ok (.iload_n 1, 1) := by decide +kernel
theorem dX11_held_89 : decode cX11_held 89 = .ok (.invokevirtual 357, 3) := by decide +kernel
theorem dX11_held_92 : decode cX11_held 92 = .ok (.invokestatic 217, 3) := by decide +kernel
theorem dX11_held_95 : decode cX11_held 95 = .ok (.ireturn, 1) := by decide +kernel
theorem dX11_held_96 : decode cX11_held 96 = .ok (.aload_n 0, 1) := by decide +kernel
theorem dX11_held_97 : decode cX11_held 97 = .ok (.iload_n 1, 1) := by decide +kernel
theorem dX11_held_98 : decode cX11_held 98 = .ok (.invokevirtual 357, 3) := by decide +kernel
theorem dX11_held_101 : decode cX11_held 101 = .ok (.ireturn, 1) := by decide +kernel
set_option maxRecDepth 100000 in
set_option maxHeartbeats 4000000 in
theorem c_X11_held (X : XE) (p1 : Int) (p2 : Int) (hp1 : inR p1) (hp2 : inR p2) {σ : Mem} {Q : Int → Mem → Prop} (h : v_X11_held p1 p2 σ Q) : CT X yX11_held cX11_held 3 (some .int) rm_X11_held 1 [.ref (xad X 0), vI p1, vI p2] σ Q := by
  refine ct_of (own := RX11) (L := [(0, .ref (xad X 0)), (1, vI p1), (2, vI p2)]) rfl rfl (Nat.le_of_ble_eq_true rfl) rfl ?_
  refine ok_aload_n 0 (pc := 0) dX11_held_0 rfl rfl ?_
  refine ok_iload_n 1 (pc := 1) dX11_held_1 rfl rfl ?_
  refine ok_callVi (As := [vI p1]) (rest := []) (rm := rm_X11_isHold) (pc := 2) dX11_held_2 me_X11_isHold ml_X11_354 (ci := 11) rfl sh_0 (Nat.le_of_ble_eq_true rfl) rfl des_X11_isHold rfl ⟨rfl, rfl, rfl, rfl⟩ rfl rfl (c_X11_isHold X p1 hp1 h) (fun r2 σ3 h1 h => ?_)
  refine ok_if_eq (tgt := 17) (pc := 5) dX11_held_5 rfl h1 (fun q4 => ?_) (fun q4 => ?_)
  · have h := iteT h q4
    refine ok_iconst (pc := 17) dX11_held_17 ?_
    exact ok_iret (pc := 18) dX11_held_18 rfl rfl rfl (r_lit rfl) h
  · have h := iteF h q4
    refine ok_iload_n 2 (pc := 8) dX11_held_8 rfl rfl ?_
    refine ok_if_lt (tgt := 17) (pc := 9) dX11_held_9 rfl hp2 (fun q5 => ?_) (fun q5 => ?_)
    · have h := iteT h q5
      refine ok_iconst (pc := 17) dX11_held_17 ?_
      exact ok_iret (pc := 18) dX11_held_18 rfl rfl rfl (r_lit rfl) h
    · have h := iteF h q5
      refine ok_iload_n 2 (pc := 12) dX11_held_12 rfl rfl ?_
      refine ok_iconst (pc := 13) dX11_held_13 ?_
      refine ok_icmp_le (tgt := 19) (pc := 14) dX11_held_14 rfl hp2 (r_lit rfl) (fun q6 => ?_) (fun q6 => ?_)
      · have h := iteF h q6
        refine ok_iload_n 2 (pc := 19) dX11_held_19 rfl rfl ?_
        by_cases q7 : p2 = 0
        · have h := iteT h q7
          refine ok_tin (tgt := 56) (pc := 20) dX11_held_20 hp2 (by omega) (by omega) (by first | (rw [q7]; done) | (rw [q7]; rfl)) rfl ?_
          refine ok_aload_n 0 (pc := 56) dX11_held_56 rfl rfl ?_
          refine ok_getR (pc := 57) dX11_held_57 fl_X11_91 sh_0 (Nat.le_of_ble_eq_true rfl) rfl rfl ?_
          refine ok_iload_n 1 (pc := 60) dX11_held_60 rfl rfl ?_
          obtain ⟨h8, h⟩ := h
          obtain ⟨h9, h⟩ := h
          refine ok_wf (fun hw10 => ?_)
          refine ok_iald (pc := 61) dX11_held_61 sh_118 (Nat.le_of_ble_eq_true rfl) rfl h8 h9 ?_
          exact ok_iret (pc := 62) dX11_held_62 rfl rfl rfl (hw10 _ _) h
        · have h := iteF h q7
          by_cases q11 : p2 = 1
          · have h := iteT h q11
            refine ok_tin (tgt := 63) (pc := 20) dX11_held_20 hp2 (by omega) (by omega) (by first | (rw [q11]; done) | (rw [q11]; rfl)) rfl ?_
            refine ok_aload_n 0 (pc := 63) dX11_held_63 rfl rfl ?_
            refine ok_getR (pc := 64) dX11_held_64 fl_X11_94 sh_0 (Nat.le_of_ble_eq_true rfl) rfl rfl ?_
            refine ok_iload_n 1 (pc := 67) dX11_held_67 rfl rfl ?_
            obtain ⟨h12, h⟩ := h
            obtain ⟨h13, h⟩ := h
            refine ok_wf (fun hw14 => ?_)
            refine ok_iald (pc := 68) dX11_held_68 sh_119 (Nat.le_of_ble_eq_true rfl) rfl h12 h13 ?_
            exact ok_iret (pc := 69) dX11_held_69 rfl rfl rfl (hw14 _ _) h
          · have h := iteF h q11
            by_cases q15 : p2 = 2
            · have h := iteT h q15
              refine ok_tin (tgt := 70) (pc := 20) dX11_held_20 hp2 (by omega) (by omega) (by first | (rw [q15]; done) | (rw [q15]; rfl)) rfl ?_
              refine ok_aload_n 0 (pc := 70) dX11_held_70 rfl rfl ?_
              refine ok_getR (pc := 71) dX11_held_71 fl_X11_97 sh_0 (Nat.le_of_ble_eq_true rfl) rfl rfl ?_
              refine ok_iload_n 1 (pc := 74) dX11_held_74 rfl rfl ?_
              obtain ⟨h16, h⟩ := h
              obtain ⟨h17, h⟩ := h
              refine ok_wf (fun hw18 => ?_)
              refine ok_iald (pc := 75) dX11_held_75 sh_120 (Nat.le_of_ble_eq_true rfl) rfl h16 h17 ?_
              exact ok_iret (pc := 76) dX11_held_76 rfl rfl rfl (hw18 _ _) h
            · have h := iteF h q15
              by_cases q19 : p2 = 3
              · have h := iteT h q19
                refine ok_tin (tgt := 77) (pc := 20) dX11_held_20 hp2 (by omega) (by omega) (by first | (rw [q19]; done) | (rw [q19]; rfl)) rfl ?_
                refine ok_aload_n 0 (pc := 77) dX11_held_77 rfl rfl ?_
                refine ok_getR (pc := 78) dX11_held_78 fl_X11_100 sh_0 (Nat.le_of_ble_eq_true rfl) rfl rfl ?_
                refine ok_iload_n 1 (pc := 81) dX11_held_81 rfl rfl ?_
                obtain ⟨h20, h⟩ := h
                obtain ⟨h21, h⟩ := h
                refine ok_wf (fun hw22 => ?_)
                refine ok_zald (pc := 82) dX11_held_82 sh_121 (Nat.le_of_ble_eq_true rfl) rfl h20 h21 ?_
                refine ok_callSi (As := [vI (σ3 121 p1.toNat)]) (rest := []) (rm := rm_X11_bit) (pc := 83) dX11_held_83 me_X11_bit ml_X11_188 des_X11_bit rfl ⟨rfl, rfl, rfl, rfl⟩ rfl rfl (c_X11_bit X (σ3 121 p1.toNat) (hw22 _ _) h) (fun r24 σ25 h23 h => ?_)
                exact ok_iret (pc := 86) dX11_held_86 rfl rfl rfl h23 h
              · have h := iteF h q19
                by_cases q26 : p2 = 4
                · have h := iteT h q26
                  refine ok_tin (tgt := 87) (pc := 20) dX11_held_20 hp2 (by omega) (by omega) (by first | (rw [q26]; done) | (rw [q26]; rfl)) rfl ?_
                  refine ok_aload_n 0 (pc := 87) dX11_held_87 rfl rfl ?_
                  refine ok_iload_n 1 (pc := 88) dX11_held_88 rfl rfl ?_
                  refine ok_callVi (As := [vI p1]) (rest := []) (rm := rm_X11_leaned) (pc := 89) dX11_held_89 me_X11_leaned ml_X11_357 (ci := 11) rfl sh_0 (Nat.le_of_ble_eq_true rfl) rfl des_X11_leaned rfl ⟨rfl, rfl, rfl, rfl⟩ rfl rfl (c_X11_leaned X p1 hp1 h) (fun r28 σ29 h27 h => ?_)
                  refine ok_callSi (As := [vI r28]) (rest := []) (rm := rm_J6_bitCount_0f7a4) (pc := 92) dX11_held_92 me_J6_bitCount_0f7a4 ml_X11_217 des_J6_bitCount_0f7a4 rfl ⟨rfl, rfl, rfl, rfl⟩ rfl rfl (c_J6_bitCount_0f7a4 X r28 h27 h) (fun r31 σ32 h30 h => ?_)
                  exact ok_iret (pc := 95) dX11_held_95 rfl rfl rfl h30 h
                · have h := iteF h q26
                  refine ok_tout (tgt := 96) (pc := 20) dX11_held_20 hp2 (by omega) rfl ?_
                  refine ok_aload_n 0 (pc := 96) dX11_held_96 rfl rfl ?_
                  refine ok_iload_n 1 (pc := 97) dX11_held_97 rfl rfl ?_
                  refine ok_callVi (As := [vI p1]) (rest := []) (rm := rm_X11_leaned) (pc := 98) dX11_held_98 me_X11_leaned ml_X11_357 (ci := 11) rfl sh_0 (Nat.le_of_ble_eq_true rfl) rfl des_X11_leaned rfl ⟨rfl, rfl, rfl, rfl⟩ rfl rfl (c_X11_leaned X p1 hp1 h) (fun r34 σ35 h33 h => ?_)
                  exact ok_iret (pc := 101) dX11_held_101 rfl rfl rfl h33 h
      · have h := iteT h q6
        refine ok_iconst (pc := 17) dX11_held_17 ?_
        exact ok_iret (pc := 18) dX11_held_18 rfl rfl rfl (r_lit rfl) h
theorem dX11_wrong_0 : decode cX11_wrong 0 = .ok (.aload_n 0, 1) := by decide +kernel
theorem dX11_wrong_1 : decode cX11_wrong 1 = .ok (.iload_n 1, 1) := by decide +kernel
theorem dX11_wrong_2 : decode cX11_wrong 2 = .ok (.invokevirtual 354, 3) := by decide +kernel
theorem dX11_wrong_5 : decode cX11_wrong 5 = .ok (.ifCond .ne 5, 3) := by decide +kernel
theorem dX11_wrong_8 : decode cX11_wrong 8 = .ok (.iconst (-1), 1) := by decide +kernel
theorem dX11_wrong_9 : decode cX11_wrong 9 = .ok (.ireturn, 1) := by decide +kernel
theorem dX11_wrong_10 : decode cX11_wrong 10 = .ok (.aload_n 0, 1) := by decide +kernel
theorem dX11_wrong_11 : decode cX11_wrong 11 = .ok (.getfield 100, 3) := by decide +kernel
theorem dX11_wrong_14 : decode cX11_wrong 14 = .ok (.iload_n 1, 1) := by decide +kernel
theorem dX11_wrong_15 : decode cX11_wrong 15 = .ok (.baload, 1) := by decide +kernel
theorem dX11_wrong_16 : decode cX11_wrong 16 = .ok (.ifCond .eq 6, 3) := by decide +kernel
theorem dX11_wrong_19 : decode cX11_wrong 19 = .ok (.bipush (-2), 2) := by decide +kernel
theorem dX11_wrong_21 : decode cX11_wrong 21 = .ok (.ireturn, 1) := by decide +kernel
theorem dX11_wrong_22 : decode cX11_wrong 22 = .ok (.aload_n 0, 1) := by decide +kernel
theorem dX11_wrong_23 : decode cX11_wrong 23 = .ok (.getfield 100, 3) := by decide +kernel
theorem dX11_wrong_26 : decode cX11_wrong 26 = .ok (.iload_n 1, 1) := by decide +kernel
theorem dX11_wrong_27 : decode cX11_wrong 27 = .ok (.iconst 1, 1) := by decide +kernel
theorem dX11_wrong_28 : decode cX11_wrong 28 = .ok (.bastore, 1) := by decide +kernel
theorem dX11_wrong_29 : decode cX11_wrong 29 = .ok (.aload_n 0, 1) := by decide +kernel
theorem dX11_wrong_30 : decode cX11_wrong 30 = .ok (.iload_n 1, 1) := by decide +kernel
theorem dX11_wrong_31 : decode cX11_wrong 31 = .ok (.invokevirtual 357, 3) := by decide +kernel
theorem dX11_wrong_34 : decode cX11_wrong 34 = .ok (.invokestatic 217, 3) := by decide +kernel
theorem dX11_wrong_37 : decode cX11_wrong 37 = .ok (.ireturn, 1) := by decide +kernel
set_option maxRecDepth 100000 in
set_option maxHeartbeats 4000000 in
theorem c_X11_wrong (X : XE) (p1 : Int) (hp1 : inR p1) {σ : Mem} {Q : Int → Mem → Prop} (h : v_X11_wrong p1 σ Q) : CT X yX11_wrong cX11_wrong 2 (some .int) rm_X11_wrong 1 [.ref (xad X 0), vI p1] σ Q := by
  refine ct_of (own := RX11) (L := [(0, .ref (xad X 0)), (1, vI p1)]) rfl rfl (Nat.le_of_ble_eq_true rfl) rfl ?_
  refine ok_aload_n 0 (pc := 0) dX11_wrong_0 rfl rfl ?_
  refine ok_iload_n 1 (pc := 1) dX11_wrong_1 rfl rfl ?_
  refine ok_callVi (As := [vI p1]) (rest := []) (rm := rm_X11_isHold) (pc := 2) dX11_wrong_2 me_X11_isHold ml_X11_354 (ci := 11) rfl sh_0 (Nat.le_of_ble_eq_true rfl) rfl des_X11_isHold rfl ⟨rfl, rfl, rfl, rfl⟩ rfl rfl (c_X11_isHold X p1 hp1 h) (fun r2 σ3 h1 h => ?_)
  refine ok_if_ne (tgt := 10) (pc := 5) dX11_wrong_5 rfl h1 (fun q4 => ?_) (fun q4 => ?_)
  · have h := iteF h q4
    refine ok_aload_n 0 (pc := 10) dX11_wrong_10 rfl rfl ?_
    refine ok_getR (pc := 11) dX11_wrong_11 fl_X11_100 sh_0 (Nat.le_of_ble_eq_true rfl) rfl rfl ?_
    refine ok_iload_n 1 (pc := 14) dX11_wrong_14 rfl rfl ?_
    obtain ⟨h5, h⟩ := h
    obtain ⟨h6, h⟩ := h
    refine ok_wf (fun hw7 => ?_)
    refine ok_zald (pc := 15) dX11_wrong_15 sh_121 (Nat.le_of_ble_eq_true rfl) rfl h5 h6 ?_
    refine ok_if_eq (tgt := 22) (pc := 16) dX11_wrong_16 rfl (hw7 _ _) (fun q8 => ?_) (fun q8 => ?_)
    · have h := iteT h q8
      refine ok_aload_n 0 (pc := 22) dX11_wrong_22 rfl rfl ?_
      refine ok_getR (pc := 23) dX11_wrong_23 fl_X11_100 sh_0 (Nat.le_of_ble_eq_true rfl) rfl rfl ?_
      refine ok_iload_n 1 (pc := 26) dX11_wrong_26 rfl rfl ?_
      refine ok_iconst (pc := 27) dX11_wrong_27 ?_
      refine ok_zast (pc := 28) dX11_wrong_28 sh_121 (Nat.le_of_ble_eq_true rfl) rfl h5 h6 (Or.inr rfl) ?_
      refine ok_aload_n 0 (pc := 29) dX11_wrong_29 rfl rfl ?_
      refine ok_iload_n 1 (pc := 30) dX11_wrong_30 rfl rfl ?_
      refine ok_callVi (As := [vI p1]) (rest := []) (rm := rm_X11_leaned) (pc := 31) dX11_wrong_31 me_X11_leaned ml_X11_357 (ci := 11) rfl sh_0 (Nat.le_of_ble_eq_true rfl) rfl des_X11_leaned rfl ⟨rfl, rfl, rfl, rfl⟩ rfl rfl (c_X11_leaned X p1 hp1 h) (fun r10 σ11 h9 h => ?_)
      refine ok_callSi (As := [vI r10]) (rest := []) (rm := rm_J6_bitCount_0f7a4) (pc := 34) dX11_wrong_34 me_J6_bitCount_0f7a4 ml_X11_217 des_J6_bitCount_0f7a4 rfl ⟨rfl, rfl, rfl, rfl⟩ rfl rfl (c_J6_bitCount_0f7a4 X r10 h9 h) (fun r13 σ14 h12 h => ?_)
      exact ok_iret (pc := 37) dX11_wrong_37 rfl rfl rfl h12 h
    · have h := iteF h q8
      refine ok_bipush (pc := 19) dX11_wrong_19 rfl ?_
      exact ok_iret (pc := 21) dX11_wrong_21 rfl rfl rfl (r_lit rfl) h
  · have h := iteT h q4
    refine ok_iconst (pc := 8) dX11_wrong_8 ?_
    exact ok_iret (pc := 9) dX11_wrong_9 rfl rfl rfl (r_lit rfl) h
theorem dX11_isSheet_0 : decode cX11_isSheet 0 = .ok (.iload_n 0, 1) := by decide +kernel
theorem dX11_isSheet_1 : decode cX11_isSheet 1 = .ok (.ifCond .lt 12, 3) := by decide +kernel
theorem dX11_isSheet_4 : decode cX11_isSheet 4 = .ok (.iload_n 0, 1) := by decide +kernel
theorem dX11_isSheet_5 : decode cX11_isSheet 5 = .ok (.iconst 4, 1) := by decide +kernel
theorem dX11_isSheet_6 : decode cX11_isSheet 6 = .ok (.if_icmp .ge 7, 3) := by decide +kernel
theorem dX11_isSheet_9 : decode cX11_isSheet 9 = .ok (.iconst 1, 1) := by decide +kernel
theorem dX11_isSheet_10 : decode cX11_isSheet 10 = .ok (.goto 4, 3) := by decide +kernel
theorem dX11_isSheet_13 : decode cX11_isSheet 13 = .ok (.iconst 0, 1) := by decide +kernel
theorem dX11_isSheet_14 : decode cX11_isSheet 14 = .ok (.ireturn, 1) := by decide +kernel
set_option maxRecDepth 100000 in
set_option maxHeartbeats 4000000 in
theorem c_X11_isSheet (X : XE) (p0 : Int) (hp0 : inR p0) {σ : Mem} {Q : Int → Mem → Prop} (h : v_X11_isSheet p0 σ Q) : CT X yX11_isSheet cX11_isSheet 1 (some .boolean) rm_X11_isSheet 1 [vI p0] σ Q := by
  refine ct_of (own := RX11) (L := [(0, vI p0)]) rfl rfl (Nat.le_of_ble_eq_true rfl) rfl ?_
  refine ok_iload_n 0 (pc := 0) dX11_isSheet_0 rfl rfl ?_
  refine ok_if_lt (tgt := 13) (pc := 1) dX11_isSheet_1 rfl hp0 (fun q1 => ?_) (fun q1 => ?_)
  · have h := iteT h q1
    refine ok_iconst (pc := 13) dX11_isSheet_13 ?_
    exact ok_iret (pc := 14) dX11_isSheet_14 rfl rfl (nr_z (Or.inl rfl)) (r_lit rfl) h
  · have h := iteF h q1
    refine ok_iload_n 0 (pc := 4) dX11_isSheet_4 rfl rfl ?_
    refine ok_iconst (pc := 5) dX11_isSheet_5 ?_
    refine ok_icmp_ge (tgt := 13) (pc := 6) dX11_isSheet_6 rfl hp0 (r_lit rfl) (fun q2 => ?_) (fun q2 => ?_)
    · have h := iteF h q2
      refine ok_iconst (pc := 13) dX11_isSheet_13 ?_
      exact ok_iret (pc := 14) dX11_isSheet_14 rfl rfl (nr_z (Or.inl rfl)) (r_lit rfl) h
    · have h := iteT h q2
      refine ok_iconst (pc := 9) dX11_isSheet_9 ?_
      refine ok_goto (tgt := 14) (pc := 10) dX11_isSheet_10 rfl ?_
      exact ok_iret (pc := 14) dX11_isSheet_14 rfl rfl (nr_z (Or.inr rfl)) (r_lit rfl) h
theorem dX11_isLane_0 : decode cX11_isLane 0 = .ok (.iload_n 0, 1) := by decide +kernel
theorem dX11_isLane_1 : decode cX11_isLane 1 = .ok (.ifCond .lt 12, 3) := by decide +kernel
theorem dX11_isLane_4 : decode cX11_isLane 4 = .ok (.iload_n 0, 1) := by decide +kernel
theorem dX11_isLane_5 : decode cX11_isLane 5 = .ok (.iconst 2, 1) := by decide +kernel
theorem dX11_isLane_6 : decode cX11_isLane 6 = .ok (.if_icmp .gt 7, 3) := by decide +kernel
theorem dX11_isLane_9 : decode cX11_isLane 9 = .ok (.iconst 1, 1) := by decide +kernel
theorem dX11_isLane_10 : decode cX11_isLane 10 = .ok (.goto 4, 3) := by decide +kernel
theorem dX11_isLane_13 : decode cX11_isLane 13 = .ok (.iconst 0, 1) := by decide +kernel
theorem dX11_isLane_14 : decode cX11_isLane 14 = .ok (.ireturn, 1) := by decide +kernel
set_option maxRecDepth 100000 in
set_option maxHeartbeats 4000000 in
theorem c_X11_isLane (X : XE) (p0 : Int) (hp0 : inR p0) {σ : Mem} {Q : Int → Mem → Prop} (h : v_X11_isLane p0 σ Q) : CT X yX11_isLane cX11_isLane 1 (some .boolean) rm_X11_isLane 1 [vI p0] σ Q := by
  refine ct_of (own := RX11) (L := [(0, vI p0)]) rfl rfl (Nat.le_of_ble_eq_true rfl) rfl ?_
  refine ok_iload_n 0 (pc := 0) dX11_isLane_0 rfl rfl ?_
  refine ok_if_lt (tgt := 13) (pc := 1) dX11_isLane_1 rfl hp0 (fun q1 => ?_) (fun q1 => ?_)
  · have h := iteT h q1
    refine ok_iconst (pc := 13) dX11_isLane_13 ?_
    exact ok_iret (pc := 14) dX11_isLane_14 rfl rfl (nr_z (Or.inl rfl)) (r_lit rfl) h
  · have h := iteF h q1
    refine ok_iload_n 0 (pc := 4) dX11_isLane_4 rfl rfl ?_
    refine ok_iconst (pc := 5) dX11_isLane_5 ?_
    refine ok_icmp_gt (tgt := 13) (pc := 6) dX11_isLane_6 rfl hp0 (r_lit rfl) (fun q2 => ?_) (fun q2 => ?_)
    · have h := iteT h q2
      refine ok_iconst (pc := 13) dX11_isLane_13 ?_
      exact ok_iret (pc := 14) dX11_isLane_14 rfl rfl (nr_z (Or.inl rfl)) (r_lit rfl) h
    · have h := iteF h q2
      refine ok_iconst (pc := 9) dX11_isLane_9 ?_
      refine ok_goto (tgt := 14) (pc := 10) dX11_isLane_10 rfl ?_
      exact ok_iret (pc := 14) dX11_isLane_14 rfl rfl (nr_z (Or.inr rfl)) (r_lit rfl) h
theorem dX8_renew_0 : decode cX8_renew 0 = .ok (.aload_n 0, 1) := by decide +kernel
theorem dX8_renew_1 : decode cX8_renew 1 = .ok (.iconst 1, 1) := by decide +kernel
theorem dX8_renew_2 : decode cX8_renew 2 = .ok (.putfield 15, 3) := by decide +kernel
theorem dX8_renew_5 : decode cX8_renew 5 = .ok (.aload_n 0, 1) := by decide +kernel
theorem dX8_renew_6 : decode cX8_renew 6 = .ok (.iload_n 1, 1) := by decide +kernel
theorem dX8_renew_7 : decode cX8_renew 7 = .ok (.putfield 19, 3) := by decide +kernel
theorem dX8_renew_10 : decode cX8_renew 10 = .ok (.aload_n 0, 1) := by decide +kernel
theorem dX8_renew_11 : decode cX8_renew 11 = .ok (.iload_n 2, 1) := by decide +kernel
theorem dX8_renew_12 : decode cX8_renew 12 = .ok (.putfield 23, 3) := by decide +kernel
theorem dX8_renew_15 : decode cX8_renew 15 = .ok (.iconst 0, 1) := by decide +kernel
theorem dX8_renew_16 : decode cX8_renew 16 = .ok (.istore_n 3, 1) := by decide +kernel
theorem dX8_renew_17 : decode cX8_renew 17 = .ok (.iload_n 3, 1) := by decide +kernel
theorem dX8_renew_18 : decode cX8_renew 18 = .ok (.bipush 96, 2) := by decide +kernel
theorem dX8_renew_20 : decode cX8_renew 20 = .ok (.if_icmp .ge 16, 3) := by decide +kernel
theorem dX8_renew_23 : decode cX8_renew 23 = .ok (.aload_n 0, 1) := by decide +kernel
theorem dX8_renew_24 : decode cX8_renew 24 = .ok (.getfield 11, 3) := by decide +kernel
theorem dX8_renew_27 : decode cX8_renew 27 = .ok (.iload_n 3, 1) := by decide +kernel
theorem dX8_renew_28 : decode cX8_renew 28 = .ok (.iconst 0, 1) := by decide +kernel
theorem dX8_renew_29 : decode cX8_renew 29 = .ok (.iastore, 1) := by decide +kernel
theorem dX8_renew_30 : decode cX8_renew 30 = .ok (.iinc 3 1, 3) := by decide +kernel
theorem dX8_renew_33 : decode cX8_renew 33 = .ok (.goto (-16), 3) := by decide +kernel
theorem dX8_renew_36 : decode cX8_renew 36 = .ok (.return_, 1) := by decide +kernel
set_option maxRecDepth 100000 in
set_option maxHeartbeats 4000000 in
theorem w_X8_renew_17 (X : XE) (c0 : Nat) (p1 : Int) (p2 : Int) (hc0 : c0 < 4) (hp1 : inR p1) (hp2 : inR p2) {Q : Int → Mem → Prop} : ∀ (n : Nat) (x3 : Int) (σ : Mem), inR x3 → l_X8_renew_17 c0 p1 p2 Q n x3 σ → ok X rm_X8_renew RX8 cX8_renew 4 none 0 Q 17 [(0, .ref (xad X (109 + 2 * c0))), (3, vI x3)] [] σ := by
  intro n
  induction n with
  | zero => intro x3 σ hx3 h; exact False.elim h
  | succ n ih =>
    intro x3 σ hx3 h
    refine ok_iload_n 1 (pc := 17) dX8_renew_17 rfl rfl ?_
    refine ok_bipush (pc := 18) dX8_renew_18 rfl ?_
    refine ok_icmp_ge (tgt := 36) (pc := 20) dX8_renew_20 rfl hx3 (r_lit rfl) (fun q1 => ?_) (fun q1 => ?_)
    · have h := iteF h q1
      exact ok_vret (pc := 36) dX8_renew_36 rfl rfl h
    · have h := iteT h q1
      refine ok_aload_n 0 (pc := 23) dX8_renew_23 rfl rfl ?_
      refine ok_getR (pc := 24) dX8_renew_24 fl_X8_11 (sh_sheet c0 hc0) (lt_sheet hc0).1 rfl rfl ?_
      refine ok_iload_n 1 (pc := 27) dX8_renew_27 rfl rfl ?_
      refine ok_iconst (pc := 28) dX8_renew_28 ?_
      obtain ⟨h2, h⟩ := h
      obtain ⟨h3, h⟩ := h
      refine ok_iast (pc := 29) dX8_renew_29 (sh_scell c0 hc0) (lt_sheet hc0).2 rfl h2 h3 (r_lit rfl) ?_
      refine ok_iinc (L' := [(3, vI (x3 + 1)), (0, .ref (xad X (109 + 2 * c0)))]) 1 (pc := 30) dX8_renew_30 rfl rfl rfl ?_
      refine ok_goto (tgt := 17) (pc := 33) dX8_renew_33 rfl ?_
      obtain ⟨h4, h⟩ := h
      refine ok_sub (L' := [(0, .ref (xad X (109 + 2 * c0))), (3, vI (x3 + 1))]) [1,0] rfl ?_
      exact ih (x3 + 1) (mset σ (110 + 2 * c0) (x3.toNat) 0) h4 h
set_option maxRecDepth 100000 in
set_option maxHeartbeats 4000000 in
theorem c_X8_renew (X : XE) (c0 : Nat) (p1 : Int) (p2 : Int) (hc0 : c0 < 4) (hp1 : inR p1) (hp2 : inR p2) {σ : Mem} {Q : Int → Mem → Prop} (h : v_X8_renew c0 p1 p2 σ Q) : CT X yX8_renew cX8_renew 4 none rm_X8_renew 0 [.ref (xad X (109 + 2 * c0)), vI p1, vI p2] σ Q := by
  refine ct_of (own := RX8) (L := [(0, .ref (xad X (109 + 2 * c0))), (1, vI p1), (2, vI p2)]) rfl rfl (Nat.le_of_ble_eq_true rfl) rfl ?_
  refine ok_aload_n 0 (pc := 0) dX8_renew_0 rfl rfl ?_
  refine ok_iconst (pc := 1) dX8_renew_1 ?_
  refine ok_putI (pc := 2) dX8_renew_2 fl_X8_15 fp_X8_1 (sh_sheet c0 hc0) (lt_sheet hc0).1 rfl rfl (r_lit rfl) (nr_z (Or.inr rfl)) (fi_z (Or.inr rfl)) ?_
  refine ok_aload_n 0 (pc := 5) dX8_renew_5 rfl rfl ?_
  refine ok_iload_n 1 (pc := 6) dX8_renew_6 rfl rfl ?_
  refine ok_putI (pc := 7) dX8_renew_7 fl_X8_19 fp_X8_2 (sh_sheet c0 hc0) (lt_sheet hc0).1 rfl rfl hp1 rfl rfl ?_
  refine ok_aload_n 0 (pc := 10) dX8_renew_10 rfl rfl ?_
  refine ok_iload_n 2 (pc := 11) dX8_renew_11 rfl rfl ?_
  refine ok_putI (pc := 12) dX8_renew_12 fl_X8_23 fp_X8_3 (sh_sheet c0 hc0) (lt_sheet hc0).1 rfl rfl hp2 rfl rfl ?_
  refine ok_iconst (pc := 15) dX8_renew_15 ?_
  refine ok_istore_n (L' := [(3, vI 0), (0, .ref (xad X (109 + 2 * c0))), (1, vI p1), (2, vI p2)]) (pc := 16) dX8_renew_16 rfl rfl rfl ?_
  refine ok_sub (L' := [(0, .ref (xad X (109 + 2 * c0))), (3, vI 0)]) [1,0] rfl ?_
  obtain ⟨n1, h⟩ := h
  exact w_X8_renew_17 X c0 p1 p2 hc0 hp1 hp2 n1 0 (mset (mset (mset σ (109 + 2 * c0) 1 1) (109 + 2 * c0) 2 p1) (109 + 2 * c0) 3 p2) (r_lit rfl) h
theorem dX11_sheet_0 : decode cX11_sheet 0 = .ok (.iload_n 1, 1) := by decide +kernel
theorem dX11_sheet_1 : decode cX11_sheet 1 = .ok (.invokestatic 360, 3) := by decide +kernel
theorem dX11_sheet_4 : decode cX11_sheet 4 = .ok (.ifCond .eq 16, 3) := by decide +kernel
theorem dX11_sheet_7 : decode cX11_sheet 7 = .ok (.iload_n 2, 1) := by decide +kernel
theorem dX11_sheet_8 : decode cX11_sheet 8 = .ok (.invokestatic 363, 3) := by decide +kernel
theorem dX11_sheet_11 : decode cX11_sheet 11 = .ok (.ifCond .eq 9, 3) := by decide +kernel
theorem dX11_sheet_14 : decode cX11_sheet 14 = .ok (.iload_n 3, 1) := by decide +kernel
theorem dX11_sheet_15 : decode cX11_sheet 15 = .ok (.bipush 96, 2) := by decide +kernel
theorem dX11_sheet_17 : decode cX11_sheet 17 = .ok (.if_icmp .le 5, 3) := by decide +kernel
theorem dX11_sheet_20 : decode cX11_sheet 20 = .ok (.iconst (-1), 1) := by decide +kernel
theorem dX11_sheet_21 : decode cX11_sheet 21 = .ok (.ireturn, 1) := by decide +kernel
theorem dX11_sheet_22 : decode cX11_sheet 22 = .ok (.iload_n 3, 1) := by decide +kernel
theorem dX11_sheet_23 : decode cX11_sheet 23 = .ok (.ifCond .ge 6, 3) := by decide +kernel
theorem dX11_sheet_26 : decode cX11_sheet 26 = .ok (.bipush (-14), 2) := by decide +kernel
theorem dX11_sheet_28 : decode cX11_sheet 28 = .ok (.ireturn, 1) := by decide +kernel
theorem dX11_sheet_29 : decode cX11_sheet 29 = .ok (.aload_n 0, 1) := by decide +kernel
theorem dX11_sheet_30 : decode cX11_sheet 30 = .ok (.getfield 82, 3) := by decide +kernel
theorem dX11_sheet_33 : decode cX11_sheet 33 = .ok (.iload_n 1, 1) := by decide +kernel
theorem dX11_sheet_34 : decode cX11_sheet 34 = .ok (.aaload, 1) := by decide +kernel
theorem dX11_sheet_35 : decode cX11_sheet 35 = .ok (.iload_n 2, 1) := by decide +kernel
theorem dX11_sheet_36 : decode cX11_sheet 36 = .ok (.iload_n 3, 1) := by decide +kernel
theorem dX11_sheet_37 : decode cX11_sheet 37 = .ok (.invokevirtual 366, 3) := by decide +kernel
theorem dX11_sheet_40 : decode cX11_sheet 40 = .ok (.iconst 1, 1) := by decide +kernel
theorem dX11_sheet_41 : decode cX11_sheet 41 = .ok (.ireturn, 1) := by decide +kernel
set_option maxRecDepth 100000 in
set_option maxHeartbeats 4000000 in
theorem c_X11_sheet (X : XE) (p1 : Int) (p2 : Int) (p3 : Int) (hp1 : inR p1) (hp2 : inR p2) (hp3 : inR p3) {σ : Mem} {Q : Int → Mem → Prop} (h : v_X11_sheet p1 p2 p3 σ Q) : CT X yX11_sheet cX11_sheet 4 (some .int) rm_X11_sheet 1 [.ref (xad X 0), vI p1, vI p2, vI p3] σ Q := by
  refine ct_of (own := RX11) (L := [(0, .ref (xad X 0)), (1, vI p1), (2, vI p2), (3, vI p3)]) rfl rfl (Nat.le_of_ble_eq_true rfl) rfl ?_
  refine ok_iload_n 1 (pc := 0) dX11_sheet_0 rfl rfl ?_
  refine ok_callSi (As := [vI p1]) (rest := []) (rm := rm_X11_isSheet) (pc := 1) dX11_sheet_1 me_X11_isSheet ml_X11_360 des_X11_isSheet rfl ⟨rfl, rfl, rfl, rfl⟩ rfl rfl (c_X11_isSheet X p1 hp1 h) (fun r2 σ3 h1 h => ?_)
  refine ok_if_eq (tgt := 20) (pc := 4) dX11_sheet_4 rfl h1 (fun q4 => ?_) (fun q4 => ?_)
  · have h := iteT h q4
    refine ok_iconst (pc := 20) dX11_sheet_20 ?_
    exact ok_iret (pc := 21) dX11_sheet_21 rfl rfl rfl (r_lit rfl) h
  · have h := iteF h q4
    refine ok_iload_n 2 (pc := 7) dX11_sheet_7 rfl rfl ?_
    refine ok_callSi (As := [vI p2]) (rest := []) (rm := rm_X11_isLane) (pc := 8) dX11_sheet_8 me_X11_isLane ml_X11_363 des_X11_isLane rfl ⟨rfl, rfl, rfl, rfl⟩ rfl rfl (c_X11_isLane X p2 hp2 h) (fun r6 σ7 h5 h => ?_)
    refine ok_if_eq (tgt := 20) (pc := 11) dX11_sheet_11 rfl h5 (fun q8 => ?_) (fun q8 => ?_)
    · have h := iteT h q8
      refine ok_iconst (pc := 20) dX11_sheet_20 ?_
      exact ok_iret (pc := 21) dX11_sheet_21 rfl rfl rfl (r_lit rfl) h
    · have h := iteF h q8
      refine ok_iload_n 3 (pc := 14) dX11_sheet_14 rfl rfl ?_
      refine ok_bipush (pc := 15) dX11_sheet_15 rfl ?_
      refine ok_icmp_le (tgt := 22) (pc := 17) dX11_sheet_17 rfl hp3 (r_lit rfl) (fun q9 => ?_) (fun q9 => ?_)
      · have h := iteF h q9
        refine ok_iload_n 3 (pc := 22) dX11_sheet_22 rfl rfl ?_
        refine ok_if_ge (tgt := 29) (pc := 23) dX11_sheet_23 rfl hp3 (fun q10 => ?_) (fun q10 => ?_)
        · have h := iteF h q10
          refine ok_aload_n 0 (pc := 29) dX11_sheet_29 rfl rfl ?_
          refine ok_getR (pc := 30) dX11_sheet_30 fl_X11_82 sh_0 (Nat.le_of_ble_eq_true rfl) rfl rfl ?_
          refine ok_iload_n 1 (pc := 33) dX11_sheet_33 rfl rfl ?_
          obtain ⟨h11, h⟩ := h
          obtain ⟨h12, h⟩ := h
          refine ok_sheets (pc := 34) dX11_sheet_34 h11 h12 ?_
          have hc13 : p1.toNat < 4 := by omega
          refine ok_iload_n 2 (pc := 35) dX11_sheet_35 rfl rfl ?_
          refine ok_iload_n 3 (pc := 36) dX11_sheet_36 rfl rfl ?_
          refine ok_callVv (As := [vI p2, vI p3]) (rest := []) (rm := rm_X8_renew) (pc := 37) dX11_sheet_37 me_X8_renew ml_X11_366 (ci := 8) rfl (sh_sheet (p1.toNat) hc13) (lt_sheet hc13).1 rfl des_X8_renew rfl ⟨rfl, rfl, rfl, rfl⟩ rfl rfl (c_X8_renew X (p1.toNat) p2 p3 hc13 hp2 hp3 h) (fun σ16 h => ?_)
          refine ok_iconst (pc := 40) dX11_sheet_40 ?_
          exact ok_iret (pc := 41) dX11_sheet_41 rfl rfl rfl (r_lit rfl) h
        · have h := iteT h q10
          refine ok_bipush (pc := 26) dX11_sheet_26 rfl ?_
          exact ok_iret (pc := 28) dX11_sheet_28 rfl rfl rfl (r_lit rfl) h
      · have h := iteT h q9
        refine ok_iconst (pc := 20) dX11_sheet_20 ?_
        exact ok_iret (pc := 21) dX11_sheet_21 rfl rfl rfl (r_lit rfl) h
theorem dX8_has_0 : decode cX8_has 0 = .ok (.iload_n 1, 1) := by decide +kernel
theorem dX8_has_1 : decode cX8_has 1 = .ok (.ifCond .lt 15, 3) := by decide +kernel
theorem dX8_has_4 : decode cX8_has 4 = .ok (.iload_n 1, 1) := by decide +kernel
theorem dX8_has_5 : decode cX8_has 5 = .ok (.aload_n 0, 1) := by decide +kernel
theorem dX8_has_6 : decode cX8_has 6 = .ok (.getfield 23, 3) := by decide +kernel
theorem dX8_has_9 : decode cX8_has 9 = .ok (.if_icmp .ge 7, 3) := by decide +kernel
theorem dX8_has_12 : decode cX8_has 12 = .ok (.iconst 1, 1) := by decide +kernel
theorem dX8_has_13 : decode cX8_has 13 = .ok (.goto 4, 3) := by decide +kernel
theorem dX8_has_16 : decode cX8_has 16 = .ok (.iconst 0, 1) := by decide +kernel
theorem dX8_has_17 : decode cX8_has 17 = .ok (.ireturn, 1) := by decide +kernel
set_option maxRecDepth 100000 in
set_option maxHeartbeats 4000000 in
theorem c_X8_has (X : XE) (c0 : Nat) (p1 : Int) (hc0 : c0 < 4) (hp1 : inR p1) {σ : Mem} {Q : Int → Mem → Prop} (h : v_X8_has c0 p1 σ Q) : CT X yX8_has cX8_has 2 (some .boolean) rm_X8_has 1 [.ref (xad X (109 + 2 * c0)), vI p1] σ Q := by
  refine ct_of (own := RX8) (L := [(0, .ref (xad X (109 + 2 * c0))), (1, vI p1)]) rfl rfl (Nat.le_of_ble_eq_true rfl) rfl ?_
  refine ok_iload_n 1 (pc := 0) dX8_has_0 rfl rfl ?_
  refine ok_if_lt (tgt := 16) (pc := 1) dX8_has_1 rfl hp1 (fun q1 => ?_) (fun q1 => ?_)
  · have h := iteT h q1
    refine ok_iconst (pc := 16) dX8_has_16 ?_
    exact ok_iret (pc := 17) dX8_has_17 rfl rfl (nr_z (Or.inl rfl)) (r_lit rfl) h
  · have h := iteF h q1
    refine ok_iload_n 1 (pc := 4) dX8_has_4 rfl rfl ?_
    refine ok_aload_n 0 (pc := 5) dX8_has_5 rfl rfl ?_
    refine ok_wf (fun hw2 => ?_)
    refine ok_getI (pc := 6) dX8_has_6 fl_X8_23 (sh_sheet c0 hc0) (lt_sheet hc0).1 rfl rfl ?_
    refine ok_icmp_ge (tgt := 16) (pc := 9) dX8_has_9 rfl hp1 (hw2 _ _) (fun q3 => ?_) (fun q3 => ?_)
    · have h := iteF h q3
      refine ok_iconst (pc := 16) dX8_has_16 ?_
      exact ok_iret (pc := 17) dX8_has_17 rfl rfl (nr_z (Or.inl rfl)) (r_lit rfl) h
    · have h := iteT h q3
      refine ok_iconst (pc := 12) dX8_has_12 ?_
      refine ok_goto (tgt := 17) (pc := 13) dX8_has_13 rfl ?_
      exact ok_iret (pc := 17) dX8_has_17 rfl rfl (nr_z (Or.inr rfl)) (r_lit rfl) h
theorem dX8_put_0 : decode cX8_put 0 = .ok (.aload_n 0, 1) := by decide +kernel
theorem dX8_put_1 : decode cX8_put 1 = .ok (.getfield 19, 3) := by decide +kernel
theorem dX8_put_4 : decode cX8_put 4 = .ok (.lookupswitch 50 #[(0, 28), (1, 39)], 28) := by decide +kernel
theorem dX8_put_32 : decode cX8_put 32 = .ok (.aload_n 0, 1) := by decide +kernel
theorem dX8_put_33 : decode cX8_put 33 = .ok (.getfield 11, 3) := by decide +kernel
theorem dX8_put_36 : decode cX8_put 36 = .ok (.iload_n 1, 1) := by decide +kernel
theorem dX8_put_37 : decode cX8_put 37 = .ok (.iload_n 2, 1) := by decide +kernel
theorem dX8_put_38 : decode cX8_put 38 = .ok (.i2b, 1) := by decide +kernel
theorem dX8_put_39 : decode cX8_put 39 = .ok (.iastore, 1) := by decide +kernel
theorem dX8_put_40 : decode cX8_put 40 = .ok (.goto 21, 3) := by decide +kernel
theorem dX8_put_43 : decode cX8_put 43 = .ok (.aload_n 0, 1) := by decide +kernel
theorem dX8_put_44 : decode cX8_put 44 = .ok (.getfield 11, 3) := by decide +kernel
theorem dX8_put_47 : decode cX8_put 47 = .ok (.iload_n 1, 1) := by decide +kernel
theorem dX8_put_48 : decode cX8_put 48 = .ok (.iload_n 2, 1) := by decide +kernel
theorem dX8_put_49 : decode cX8_put 49 = .ok (.i2s, 1) := by decide +kernel
theorem dX8_put_50 : decode cX8_put 50 = .ok (.iastore, 1) := by decide +kernel
theorem dX8_put_51 : decode cX8_put 51 = .ok (.goto 10, 3) := by decide +kernel
theorem dX8_put_54 : decode cX8_put 54 = .ok (.aload_n 0, 1) := by decide +kernel
theorem dX8_put_55 : decode cX8_put 55 = .ok (.getfield 11, 3) := by decide +kernel
theorem dX8_put_58 : decode cX8_put 58 = .ok (.iload_n 1, 1) := by decide +kernel
theorem dX8_put_59 : decode cX8_put 59 = .ok (.iload_n 2, 1) := by decide +kernel
theorem dX8_put_60 : decode cX8_put 60 = .ok (.iastore, 1) := by decide +kernel
theorem dX8_put_61 : decode cX8_put 61 = .ok (.return_, 1) := by decide +kernel
set_option maxRecDepth 100000 in
set_option maxHeartbeats 4000000 in
theorem c_X8_put (X : XE) (c0 : Nat) (p1 : Int) (p2 : Int) (hc0 : c0 < 4) (hp1 : inR p1) (hp2 : inR p2) {σ : Mem} {Q : Int → Mem → Prop} (h : v_X8_put c0 p1 p2 σ Q) : CT X yX8_put cX8_put 3 none rm_X8_put 0 [.ref (xad X (109 + 2 * c0)), vI p1, vI p2] σ Q := by
  refine ct_of (own := RX8) (L := [(0, .ref (xad X (109 + 2 * c0))), (1, vI p1), (2, vI p2)]) rfl rfl (Nat.le_of_ble_eq_true rfl) rfl ?_
  refine ok_aload_n 0 (pc := 0) dX8_put_0 rfl rfl ?_
  refine ok_wf (fun hw1 => ?_)
  refine ok_getI (pc := 1) dX8_put_1 fl_X8_19 (sh_sheet c0 hc0) (lt_sheet hc0).1 rfl rfl ?_
  by_cases q2 : (σ (109 + 2 * c0) 2) = 0
  · have h := iteT h q2
    refine ok_lswitch (tgt := 32) (pc := 4) dX8_put_4 rfl (hw1 _ _) (by first | (rw [q2]; done) | (rw [q2]; rfl)) rfl ?_
    refine ok_aload_n 0 (pc := 32) dX8_put_32 rfl rfl ?_
    refine ok_getR (pc := 33) dX8_put_33 fl_X8_11 (sh_sheet c0 hc0) (lt_sheet hc0).1 rfl rfl ?_
    refine ok_iload_n 1 (pc := 36) dX8_put_36 rfl rfl ?_
    refine ok_iload_n 2 (pc := 37) dX8_put_37 rfl rfl ?_
    refine ok_i2b (pc := 38) dX8_put_38 ?_
    obtain ⟨h3, h⟩ := h
    obtain ⟨h4, h⟩ := h
    refine ok_iast (pc := 39) dX8_put_39 (sh_scell c0 hc0) (lt_sheet hc0).2 rfl h3 h4 (q_rng _) ?_
    refine ok_goto (tgt := 61) (pc := 40) dX8_put_40 rfl ?_
    exact ok_vret (pc := 61) dX8_put_61 rfl rfl h
  · have h := iteF h q2
    by_cases q5 : (σ (109 + 2 * c0) 2) = 1
    · have h := iteT h q5
      refine ok_lswitch (tgt := 43) (pc := 4) dX8_put_4 rfl (hw1 _ _) (by first | (rw [q5]; done) | (rw [q5]; rfl)) rfl ?_
      refine ok_aload_n 0 (pc := 43) dX8_put_43 rfl rfl ?_
      refine ok_getR (pc := 44) dX8_put_44 fl_X8_11 (sh_sheet c0 hc0) (lt_sheet hc0).1 rfl rfl ?_
      refine ok_iload_n 1 (pc := 47) dX8_put_47 rfl rfl ?_
      refine ok_iload_n 2 (pc := 48) dX8_put_48 rfl rfl ?_
      refine ok_i2s (pc := 49) dX8_put_49 ?_
      obtain ⟨h6, h⟩ := h
      obtain ⟨h7, h⟩ := h
      refine ok_iast (pc := 50) dX8_put_50 (sh_scell c0 hc0) (lt_sheet hc0).2 rfl h6 h7 (q_rng _) ?_
      refine ok_goto (tgt := 61) (pc := 51) dX8_put_51 rfl ?_
      exact ok_vret (pc := 61) dX8_put_61 rfl rfl h
    · have h := iteF h q5
      refine ok_lswitch (tgt := 54) (pc := 4) dX8_put_4 rfl (hw1 _ _) (ls_out2 q2 q5) rfl ?_
      refine ok_aload_n 0 (pc := 54) dX8_put_54 rfl rfl ?_
      refine ok_getR (pc := 55) dX8_put_55 fl_X8_11 (sh_sheet c0 hc0) (lt_sheet hc0).1 rfl rfl ?_
      refine ok_iload_n 1 (pc := 58) dX8_put_58 rfl rfl ?_
      refine ok_iload_n 2 (pc := 59) dX8_put_59 rfl rfl ?_
      obtain ⟨h8, h⟩ := h
      obtain ⟨h9, h⟩ := h
      refine ok_iast (pc := 60) dX8_put_60 (sh_scell c0 hc0) (lt_sheet hc0).2 rfl h8 h9 hp2 ?_
      exact ok_vret (pc := 61) dX8_put_61 rfl rfl h
theorem dX11_lay_0 : decode cX11_lay 0 = .ok (.iload_n 1, 1) := by decide +kernel
theorem dX11_lay_1 : decode cX11_lay 1 = .ok (.invokestatic 360, 3) := by decide +kernel
theorem dX11_lay_4 : decode cX11_lay 4 = .ok (.ifCond .ne 5, 3) := by decide +kernel
theorem dX11_lay_7 : decode cX11_lay 7 = .ok (.iconst (-1), 1) := by decide +kernel
theorem dX11_lay_8 : decode cX11_lay 8 = .ok (.ireturn, 1) := by decide +kernel
theorem dX11_lay_9 : decode cX11_lay 9 = .ok (.aload_n 0, 1) := by decide +kernel
theorem dX11_lay_10 : decode cX11_lay 10 = .ok (.getfield 82, 3) := by decide +kernel
theorem dX11_lay_13 : decode cX11_lay 13 = .ok (.iload_n 1, 1) := by decide +kernel
theorem dX11_lay_14 : decode cX11_lay 14 = .ok (.aaload, 1) := by decide +kernel
theorem dX11_lay_15 : decode cX11_lay 15 = .ok (.astore 4, 2) := by decide +kernel
theorem dX11_lay_17 : decode cX11_lay 17 = .ok (.aload 4, 2) := by decide +kernel
theorem dX11_lay_19 : decode cX11_lay 19 = .ok (.getfield 369, 3) := by decide +kernel
theorem dX11_lay_22 : decode cX11_lay 22 = .ok (.ifCond .ne 6, 3) := by decide +kernel
theorem dX11_lay_25 : decode cX11_lay 25 = .ok (.bipush (-11), 2) := by decide +kernel
theorem dX11_lay_27 : decode cX11_lay 27 = .ok (.ireturn, 1) := by decide +kernel
theorem dX11_lay_28 : decode cX11_lay 28 = .ok (.aload 4, 2) := by decide +kernel
theorem dX11_lay_30 : decode cX11_lay 30 = .ok (.iload_n 2, 1) := by decide +kernel
theorem dX11_lay_31 : decode cX11_lay 31 = .ok (.invokevirtual 370, 3) := by decide +kernel
theorem dX11_lay_34 : decode cX11_lay 34 = .ok (.ifCond .ne 6, 3) := by decide +kernel
theorem dX11_lay_37 : decode cX11_lay 37 = .ok (.bipush (-12), 2) := by decide +kernel
theorem dX11_lay_39 : decode cX11_lay 39 = .ok (.ireturn, 1) := by decide +kernel
theorem dX11_lay_40 : decode cX11_lay 40 = .ok (.aload 4, 2) := by decide +kernel
theorem dX11_lay_42 : decode cX11_lay 42 = .ok (.iload_n 2, 1) := by decide +kernel
theorem dX11_lay_43 : decode cX11_lay 43 = .ok (.iload_n 3, 1) := by decide +kernel
theorem dX11_lay_44 : decode cX11_lay 44 = .ok (.invokevirtual 371, 3) := by decide +kernel
theorem dX11_lay_47 : decode cX11_lay 47 = .ok (.iconst 1, 1) := by decide +kernel
theorem dX11_lay_48 : decode cX11_lay 48 = .ok (.ireturn, 1) := by decide +kernel
set_option maxRecDepth 100000 in
set_option maxHeartbeats 4000000 in
theorem c_X11_lay (X : XE) (p1 : Int) (p2 : Int) (p3 : Int) (hp1 : inR p1) (hp2 : inR p2) (hp3 : inR p3) {σ : Mem} {Q : Int → Mem → Prop} (h : v_X11_lay p1 p2 p3 σ Q) : CT X yX11_lay cX11_lay 5 (some .int) rm_X11_lay 1 [.ref (xad X 0), vI p1, vI p2, vI p3] σ Q := by
  refine ct_of (own := RX11) (L := [(0, .ref (xad X 0)), (1, vI p1), (2, vI p2), (3, vI p3)]) rfl rfl (Nat.le_of_ble_eq_true rfl) rfl ?_
  refine ok_iload_n 1 (pc := 0) dX11_lay_0 rfl rfl ?_
  refine ok_callSi (As := [vI p1]) (rest := []) (rm := rm_X11_isSheet) (pc := 1) dX11_lay_1 me_X11_isSheet ml_X11_360 des_X11_isSheet rfl ⟨rfl, rfl, rfl, rfl⟩ rfl rfl (c_X11_isSheet X p1 hp1 h) (fun r2 σ3 h1 h => ?_)
  refine ok_if_ne (tgt := 9) (pc := 4) dX11_lay_4 rfl h1 (fun q4 => ?_) (fun q4 => ?_)
  · have h := iteF h q4
    refine ok_aload_n 0 (pc := 9) dX11_lay_9 rfl rfl ?_
    refine ok_getR (pc := 10) dX11_lay_10 fl_X11_82 sh_0 (Nat.le_of_ble_eq_true rfl) rfl rfl ?_
    refine ok_iload_n 1 (pc := 13) dX11_lay_13 rfl rfl ?_
    obtain ⟨h5, h⟩ := h
    obtain ⟨h6, h⟩ := h
    refine ok_sheets (pc := 14) dX11_lay_14 h5 h6 ?_
    have hc7 : p1.toNat < 4 := by omega
    refine ok_astore (L' := [(4, .ref (xad X (109 + 2 * (p1.toNat)))), (0, .ref (xad X 0)), (1, vI p1), (2, vI p2), (3, vI p3)]) (pc := 15) dX11_lay_15 rfl rfl ?_
    refine ok_aload 0 (pc := 17) dX11_lay_17 rfl ?_
    refine ok_wf (fun hw8 => ?_)
    refine ok_getI (pc := 19) dX11_lay_19 fl_X11_369 (sh_sheet (p1.toNat) hc7) (lt_sheet hc7).1 rfl rfl ?_
    refine ok_if_ne (tgt := 28) (pc := 22) dX11_lay_22 rfl (hw8 _ _) (fun q9 => ?_) (fun q9 => ?_)
    · have h := iteF h q9
      refine ok_aload 0 (pc := 28) dX11_lay_28 rfl ?_
      refine ok_iload_n 3 (pc := 30) dX11_lay_30 rfl rfl ?_
      refine ok_callVi (As := [vI p2]) (rest := []) (rm := rm_X8_has) (pc := 31) dX11_lay_31 me_X8_has ml_X11_370 (ci := 8) rfl (sh_sheet (p1.toNat) hc7) (lt_sheet hc7).1 rfl des_X8_has rfl ⟨rfl, rfl, rfl, rfl⟩ rfl rfl (c_X8_has X (p1.toNat) p2 hc7 hp2 h) (fun r11 σ12 h10 h => ?_)
      refine ok_if_ne (tgt := 40) (pc := 34) dX11_lay_34 rfl h10 (fun q13 => ?_) (fun q13 => ?_)
      · have h := iteF h q13
        refine ok_aload 0 (pc := 40) dX11_lay_40 rfl ?_
        refine ok_iload_n 3 (pc := 42) dX11_lay_42 rfl rfl ?_
        refine ok_iload_n 4 (pc := 43) dX11_lay_43 rfl rfl ?_
        refine ok_callVv (As := [vI p2, vI p3]) (rest := []) (rm := rm_X8_put) (pc := 44) dX11_lay_44 me_X8_put ml_X11_371 (ci := 8) rfl (sh_sheet (p1.toNat) hc7) (lt_sheet hc7).1 rfl des_X8_put rfl ⟨rfl, rfl, rfl, rfl⟩ rfl rfl (c_X8_put X (p1.toNat) p2 p3 hc7 hp2 hp3 h) (fun σ16 h => ?_)
        refine ok_iconst (pc := 47) dX11_lay_47 ?_
        exact ok_iret (pc := 48) dX11_lay_48 rfl rfl rfl (r_lit rfl) h
      · have h := iteT h q13
        refine ok_bipush (pc := 37) dX11_lay_37 rfl ?_
        exact ok_iret (pc := 39) dX11_lay_39 rfl rfl rfl (r_lit rfl) h
    · have h := iteT h q9
      refine ok_bipush (pc := 25) dX11_lay_25 rfl ?_
      exact ok_iret (pc := 27) dX11_lay_27 rfl rfl rfl (r_lit rfl) h
  · have h := iteT h q4
    refine ok_iconst (pc := 7) dX11_lay_7 ?_
    exact ok_iret (pc := 8) dX11_lay_8 rfl rfl rfl (r_lit rfl) h
theorem dX8_refusal_0 : decode cX8_refusal 0 = .ok (.aload_n 0, 1) := by decide +kernel
theorem dX8_refusal_1 : decode cX8_refusal 1 = .ok (.getfield 15, 3) := by decide +kernel
theorem dX8_refusal_4 : decode cX8_refusal 4 = .ok (.ifCond .ne 5, 3) := by decide +kernel
theorem dX8_refusal_7 : decode cX8_refusal 7 = .ok (.iconst 1, 1) := by decide +kernel
theorem dX8_refusal_8 : decode cX8_refusal 8 = .ok (.ireturn, 1) := by decide +kernel
theorem dX8_refusal_9 : decode cX8_refusal 9 = .ok (.aload_n 0, 1) := by decide +kernel
theorem dX8_refusal_10 : decode cX8_refusal 10 = .ok (.getfield 19, 3) := by decide +kernel
theorem dX8_refusal_13 : decode cX8_refusal 13 = .ok (.iload_n 1, 1) := by decide +kernel
theorem dX8_refusal_14 : decode cX8_refusal 14 = .ok (.if_icmp .ne 7, 3) := by decide +kernel
theorem dX8_refusal_17 : decode cX8_refusal 17 = .ok (.iconst 0, 1) := by decide +kernel
theorem dX8_refusal_18 : decode cX8_refusal 18 = .ok (.goto 4, 3) := by decide +kernel
theorem dX8_refusal_21 : decode cX8_refusal 21 = .ok (.iconst 3, 1) := by decide +kernel
theorem dX8_refusal_22 : decode cX8_refusal 22 = .ok (.ireturn, 1) := by decide +kernel
set_option maxRecDepth 100000 in
set_option maxHeartbeats 4000000 in
theorem c_X8_refusal (X : XE) (c0 : Nat) (p1 : Int) (hc0 : c0 < 4) (hp1 : inR p1) {σ : Mem} {Q : Int → Mem → Prop} (h : v_X8_refusal c0 p1 σ Q) : CT X yX8_refusal cX8_refusal 2 (some .int) rm_X8_refusal 1 [.ref (xad X (109 + 2 * c0)), vI p1] σ Q := by
  refine ct_of (own := RX8) (L := [(0, .ref (xad X (109 + 2 * c0))), (1, vI p1)]) rfl rfl (Nat.le_of_ble_eq_true rfl) rfl ?_
  refine ok_aload_n 0 (pc := 0) dX8_refusal_0 rfl rfl ?_
  refine ok_wf (fun hw1 => ?_)
  refine ok_getI (pc := 1) dX8_refusal_1 fl_X8_15 (sh_sheet c0 hc0) (lt_sheet hc0).1 rfl rfl ?_
  refine ok_if_ne (tgt := 9) (pc := 4) dX8_refusal_4 rfl (hw1 _ _) (fun q2 => ?_) (fun q2 => ?_)
  · have h := iteF h q2
    refine ok_aload_n 0 (pc := 9) dX8_refusal_9 rfl rfl ?_
    refine ok_getI (pc := 10) dX8_refusal_10 fl_X8_19 (sh_sheet c0 hc0) (lt_sheet hc0).1 rfl rfl ?_
    refine ok_iload_n 1 (pc := 13) dX8_refusal_13 rfl rfl ?_
    refine ok_icmp_ne (tgt := 21) (pc := 14) dX8_refusal_14 rfl (hw1 _ _) hp1 (fun q3 => ?_) (fun q3 => ?_)
    · have h := iteF h q3
      refine ok_iconst (pc := 21) dX8_refusal_21 ?_
      exact ok_iret (pc := 22) dX8_refusal_22 rfl rfl rfl (r_lit rfl) h
    · have h := iteT h q3
      refine ok_iconst (pc := 17) dX8_refusal_17 ?_
      refine ok_goto (tgt := 22) (pc := 18) dX8_refusal_18 rfl ?_
      exact ok_iret (pc := 22) dX8_refusal_22 rfl rfl rfl (r_lit rfl) h
  · have h := iteT h q2
    refine ok_iconst (pc := 7) dX8_refusal_7 ?_
    exact ok_iret (pc := 8) dX8_refusal_8 rfl rfl rfl (r_lit rfl) h
theorem dX11_read_0 : decode cX11_read 0 = .ok (.iload_n 1, 1) := by decide +kernel
theorem dX11_read_1 : decode cX11_read 1 = .ok (.invokestatic 148, 3) := by decide +kernel
theorem dX11_read_4 : decode cX11_read 4 = .ok (.ifCond .eq 29, 3) := by decide +kernel
theorem dX11_read_7 : decode cX11_read 7 = .ok (.iload_n 2, 1) := by decide +kernel
theorem dX11_read_8 : decode cX11_read 8 = .ok (.invokestatic 360, 3) := by decide +kernel
theorem dX11_read_11 : decode cX11_read 11 = .ok (.ifCond .eq 22, 3) := by decide +kernel
theorem dX11_read_14 : decode cX11_read 14 = .ok (.iload_n 3, 1) := by decide +kernel
theorem dX11_read_15 : decode cX11_read 15 = .ok (.invokestatic 363, 3) := by decide +kernel
theorem dX11_read_18 : decode cX11_read 18 = .ok (.ifCond .eq 15, 3) := by decide +kernel
theorem dX11_read_21 : decode cX11_read 21 = .ok (.iload 5, 2) := by decide +kernel
theorem dX11_read_23 : decode cX11_read 23 = .ok (.ifCond .lt 10, 3) := by decide +kernel
theorem dX11_read_26 : decode cX11_read 26 = .ok (.iload 5, 2) := by decide +kernel
theorem dX11_read_28 : decode cX11_read 28 = .ok (.bipush 24, 2) := by decide +kernel
theorem dX11_read_30 : decode cX11_read 30 = .ok (.if_icmp .le 5, 3) := by decide +kernel
theorem dX11_read_33 : decode cX11_read 33 = .ok (.iconst (-1), 1) := by decide +kernel
theorem dX11_read_34 : decode cX11_read 34 = .ok (.ireturn, 1) := by decide +kernel
theorem dX11_read_35 : decode cX11_read 35 = .ok (.aload_n 0, 1) := by decide +kernel
theorem dX11_read_36 : decode cX11_read 36 = .ok (.getfield 82, 3) := by decide +kernel
theorem dX11_read_39 : decode cX11_read 39 = .ok (.iload_n 2, 1) := by decide +kernel
theorem dX11_read_40 : decode cX11_read 40 = .ok (.aaload, 1) := by decide +kernel
theorem dX11_read_41 : decode cX11_read 41 = .ok (.astore 6, 2) := by decide +kernel
theorem dX11_read_43 : decode cX11_read 43 = .ok (.iload 5, 2) := by decide +kernel
theorem dX11_read_45 : decode cX11_read 45 = .ok (.ifCond .ne 7, 3) := by decide +kernel
theorem dX11_read_48 : decode cX11_read 48 = .ok (.iconst 0, 1) := by decide +kernel
theorem dX11_read_49 : decode cX11_read 49 = .ok (.goto 9, 3) := by decide +kernel
theorem dX11_read_52 : decode cX11_read 52 = .ok (.aload 6, 2) := by decide +kernel
theorem dX11_read_54 : decode cX11_read 54 = .ok (.iload_n 3, 1) := by decide +kernel
theorem dX11_read_55 : decode cX11_read 55 = .ok (.invokevirtual 374, 3) := by decide +kernel
theorem dX11_read_58 : decode cX11_read 58 = .ok (.istore 7, 2) := by decide +kernel
theorem dX11_read_60 : decode cX11_read 60 = .ok (.iconst 0, 1) := by decide +kernel
theorem dX11_read_61 : decode cX11_read 61 = .ok (.istore 8, 2) := by decide +kernel
theorem dX11_read_63 : decode cX11_read 63 = .ok (.iconst 0, 1) := by decide +kernel
theorem dX11_read_64 : decode cX11_read 64 = .ok (.istore 9, 2) := by decide +kernel
theorem dX11_read_66 : decode cX11_read 66 = .ok (.iload 9, 2) := by decide +kernel
theorem dX11_read_68 : decode cX11_read 68 = .ok (.iload 5, 2) := by decide +kernel
theorem dX11_read_70 : decode cX11_read 70 = .ok (.iconst 4, 1) := by decide +kernel
theorem dX11_read_71 : decode cX11_read 71 = .ok (.imul, 1) := by decide +kernel
theorem dX11_read_72 : decode cX11_read 72 = .ok (.if_icmp .ge 104, 3) := by decide +kernel
theorem dX11_read_75 : decode cX11_read 75 = .ok (.iload 7, 2) := by decide +kernel
theorem dX11_read_77 : decode cX11_read 77 = .ok (.ifCond .ne 99, 3) := by decide +kernel
theorem dX11_read_80 : decode cX11_read 80 = .ok (.aload 6, 2) := by decide +kernel
theorem dX11_read_82 : decode cX11_read 82 = .ok (.iload 4, 2) := by decide +kernel
theorem dX11_read_84 : decode cX11_read 84 = .ok (.iload 9, 2) := by decide +kernel
theorem dX11_read_86 : decode cX11_read 86 = .ok (.iadd, 1) := by decide +kernel
theorem dX11_read_87 : decode cX11_read 87 = .ok (.invokevirtual 370, 3) := by decide +kernel
theorem dX11_read_90 : decode cX11_read 90 = .ok (.ifCond .ne 9, 3) := by decide +kernel
theorem dX11_read_93 : decode cX11_read 93 = .ok (.iconst 2, 1) := by decide +kernel
theorem dX11_read_94 : decode cX11_read 94 = .ok (.istore 7, 2) := by decide +kernel
theorem dX11_read_96 : decode cX11_read 96 = .ok (.goto 56, 3) := by decide +kernel
theorem dX11_read_99 : decode cX11_read 99 = .ok (.aload 6, 2) := by decide +kernel
theorem dX11_read_101 : decode cX11_read 101 = .ok (.getfield 377, 3) := by decide +kernel
theorem dX11_read_104 : decode cX11_read 104 = .ok (.iload 4, 2) := by decide +kernel
theorem dX11_read_106 : decode cX11_read 106 = .ok (.iload 9, 2) := by decide +kernel
theorem dX11_read_108 : decode cX11_read 108 = .ok (.iadd, 1) := by decide +kernel
theorem dX11_read_109 : decode cX11_read 109 = .ok (.iaload, 1) := by decide +kernel
theorem dX11_read_110 : decode cX11_read 110 = .ok (.sipush 999, 3) := by decide +kernel
theorem dX11_read_113 : decode cX11_read 113 = .ok (.if_icmp .le 9, 3) := by decide +kernel
theorem dX11_read_116 : decode cX11_read 116 = .ok (.bipush (-20), 2) := by decide +kernel
theorem dX11_read_118 : decode cX11_read 118 = .ok (.iload 9, 2) := by decide +kernel
theorem dX11_read_120 : decode cX11_read 120 = .ok (.isub, 1) := by decide +kernel
theorem dX11_read_121 : decode cX11_read 121 = .ok (.ireturn, 1) := by decide +kernel
theorem dX11_read_122 : decode cX11_read 122 = .ok (.aload_n 0, 1) := by decide +kernel
theorem dX11_read_123 : decode cX11_read 123 = .ok (.getfield 87, 3) := by decide +kernel
theorem dX11_read_126 : decode cX11_read 126 = .ok (.iload 9, 2) := by decide +kernel
theorem dX11_read_128 : decode cX11_read 128 = .ok (.aload 6, 2) := by decide +kernel
theorem dX11_read_130 : decode cX11_read 130 = .ok (.getfield 377, 3) := by decide +kernel
theorem dX11_read_133 : decode cX11_read 133 = .ok (.iload 4, 2) := by decide +kernel
theorem dX11_read_135 : decode cX11_read 135 = .ok (.iload 9, 2) := by decide +kernel
theorem dX11_read_137 : decode cX11_read 137 = .ok (.iadd, 1) := by decide +kernel
theorem dX11_read_138 : decode cX11_read 138 = .ok (.iaload, 1) := by decide +kernel
theorem dX11_read_139 : decode cX11_read 139 = .ok (.iconst 0, 1) := by decide +kernel
theorem dX11_read_140 : decode cX11_read 140 = .ok (.invokestatic 380, 3) := by decide +kernel
theorem dX11_read_143 : decode cX11_read 143 = .ok (.iastore, 1) := by decide +kernel
theorem dX11_read_144 : decode cX11_read 144 = .ok (.iload 9, 2) := by decide +kernel
theorem dX11_read_146 : decode cX11_read 146 = .ok (.iconst 1, 1) := by decide +kernel
theorem dX11_read_147 : decode cX11_read 147 = .ok (.iadd, 1) := by decide +kernel
theorem dX11_read_148 : decode cX11_read 148 = .ok (.iconst 4, 1) := by decide +kernel
theorem dX11_read_149 : decode cX11_read 149 = .ok (.idiv, 1) := by decide +kernel
theorem dX11_read_150 : decode cX11_read 150 = .ok (.istore 8, 2) := by decide +kernel
theorem dX11_read_152 : decode cX11_read 152 = .ok (.aload_n 0, 1) := by decide +kernel
theorem dX11_read_153 : decode cX11_read 153 = .ok (.getfield 46, 3) := by decide +kernel
theorem dX11_read_156 : decode cX11_read 156 = .ok (.getfield 385, 3) := by decide +kernel
theorem dX11_read_159 : decode cX11_read 159 = .ok (.iload 8, 2) := by decide +kernel
theorem dX11_read_161 : decode cX11_read 161 = .ok (.iadd, 1) := by decide +kernel
theorem dX11_read_162 : decode cX11_read 162 = .ok (.bipush 24, 2) := by decide +kernel
theorem dX11_read_164 : decode cX11_read 164 = .ok (.if_icmp .le 6, 3) := by decide +kernel
theorem dX11_read_167 : decode cX11_read 167 = .ok (.bipush (-3), 2) := by decide +kernel
theorem dX11_read_169 : decode cX11_read 169 = .ok (.ireturn, 1) := by decide +kernel
theorem dX11_read_170 : decode cX11_read 170 = .ok (.iinc 9 1, 3) := by decide +kernel
theorem dX11_read_173 : decode cX11_read 173 = .ok (.goto (-107), 3) := by decide +kernel
theorem dX11_read_176 : decode cX11_read 176 = .ok (.iconst 0, 1) := by decide +kernel
theorem dX11_read_177 : decode cX11_read 177 = .ok (.istore 9, 2) := by decide +kernel
theorem dX11_read_179 : decode cX11_read 179 = .ok (.iload 9, 2) := by decide +kernel
theorem dX11_read_181 : decode cX11_read 181 = .ok (.iload 8, 2) := by decide +kernel
theorem dX11_read_183 : decode cX11_read 183 = .ok (.if_icmp .ge 28, 3) := by decide +kernel
theorem dX11_read_186 : decode cX11_read 186 = .ok (.aload_n 0, 1) := by decide +kernel
theorem dX11_read_187 : decode cX11_read 187 = .ok (.getfield 46, 3) := by decide +kernel
theorem dX11_read_190 : decode cX11_read 190 = .ok (.iload_n 1, 1) := by decide +kernel
theorem dX11_read_191 : decode cX11_read 191 = .ok (.iconst 0, 1) := by decide +kernel
theorem dX11_read_192 : decode cX11_read 192 = .ok (.iconst 0, 1) := by decide +kernel
theorem dX11_read_193 : decode cX11_read 193 = .ok (.aload_n 0, 1) := by decide +kernel
theorem dX11_read_194 : decode cX11_read 194 = .ok (.getfield 87, 3) := by decide +kernel
theorem dX11_read_197 : decode cX11_read 197 = .ok (.iload 9, 2) := by decide +kernel
theorem dX11_read_199 : decode cX11_read 199 = .ok (.iconst 4, 1) := by decide +kernel
theorem dX11_read_200 : decode cX11_read 200 = .ok (.imul, 1) := by decide +kernel
theorem dX11_read_201 : decode cX11_read 201 = .ok (.invokevirtual 151, 3) := by decide +kernel
theorem dX11_read_204 : decode cX11_read 204 = .ok (.pop, 1) := by decide +kernel
theorem dX11_read_205 : decode cX11_read 205 = .ok (.iinc 9 1, 3) := by decide +kernel
theorem dX11_read_208 : decode cX11_read 208 = .ok (.goto (-29), 3) := by decide +kernel
theorem dX11_read_211 : decode cX11_read 211 = .ok (.aload_n 0, 1) := by decide +kernel
theorem dX11_read_212 : decode cX11_read 212 = .ok (.iload 7, 2) := by decide +kernel
theorem dX11_read_214 : decode cX11_read 214 = .ok (.putfield 387, 3) := by decide +kernel
theorem dX11_read_217 : decode cX11_read 217 = .ok (.iload 8, 2) := by decide +kernel
theorem dX11_read_219 : decode cX11_read 219 = .ok (.ireturn, 1) := by decide +kernel
set_option maxRecDepth 100000 in
set_option maxHeartbeats 4000000 in
theorem w_X11_read_179 (X : XE) (p1 : Int) (p2 : Int) (p3 : Int) (p4 : Int) (p5 : Int) (hp1 : inR p1) (hp2 : inR p2) (hp3 : inR p3) (hp4 : inR p4) (hp5 : inR p5) (x7 : Int) (x8 : Int) (hx7 : inR x7) (hx8 : inR x8) {Q : Int → Mem → Prop} : ∀ (n : Nat) (x9 : Int) (σ : Mem), inR x9 → l_X11_read_179 p1 p2 p3 p4 p5 x7 x8 Q n x9 σ → ok X rm_X11_read RX11 cX11_read 10 (some .int) 1 Q 179 [(0, .ref (xad X 0)), (1, vI p1), (7, vI x7), (8, vI x8), (9, vI x9)] [] σ := by
  intro n
  induction n with
  | zero => intro x9 σ hx9 h; exact False.elim h
  | succ n ih =>
    intro x9 σ hx9 h
    refine ok_iload 4 (pc := 179) dX11_read_179 rfl ?_
    refine ok_iload 3 (pc := 181) dX11_read_181 rfl ?_
    refine ok_icmp_ge (tgt := 211) (pc := 183) dX11_read_183 rfl hx9 hx8 (fun q1 => ?_) (fun q1 => ?_)
    · have h := iteF h q1
      refine ok_aload_n 0 (pc := 211) dX11_read_211 rfl rfl ?_
      refine ok_iload 2 (pc := 212) dX11_read_212 rfl ?_
      refine ok_putI (pc := 214) dX11_read_214 fl_X11_387 fp_X11_16 sh_0 (Nat.le_of_ble_eq_true rfl) rfl rfl hx7 rfl rfl ?_
      refine ok_iload 3 (pc := 217) dX11_read_217 rfl ?_
      exact ok_iret (pc := 219) dX11_read_219 rfl rfl rfl hx8 h
    · have h := iteT h q1
      refine ok_aload_n 0 (pc := 186) dX11_read_186 rfl rfl ?_
      refine ok_getR (pc := 187) dX11_read_187 fl_X11_46 sh_0 (Nat.le_of_ble_eq_true rfl) rfl rfl ?_
      refine ok_iload_n 1 (pc := 190) dX11_read_190 rfl rfl ?_
      refine ok_iconst (pc := 191) dX11_read_191 ?_
      refine ok_iconst (pc := 192) dX11_read_192 ?_
      refine ok_aload_n 0 (pc := 193) dX11_read_193 rfl rfl ?_
      refine ok_getR (pc := 194) dX11_read_194 fl_X11_87 sh_0 (Nat.le_of_ble_eq_true rfl) rfl rfl ?_
      refine ok_iload 4 (pc := 197) dX11_read_197 rfl ?_
      refine ok_iconst (pc := 199) dX11_read_199 ?_
      refine ok_imul (pc := 200) dX11_read_200 ?_
      obtain ⟨h2, h⟩ := h
      refine ok_callVi (As := [vI p1, vI 0, vI 0, .ref (xad X 117), vI (x9 * 4)]) (rest := []) (rm := rm_X0_add) (pc := 201) dX11_read_201 me_X0_add ml_X11_151 (ci := 0) rfl sh_16 (Nat.le_of_ble_eq_true rfl) rfl des_X0_add rfl ⟨rfl, rfl, rfl, rfl⟩ rfl rfl (c_X0_add X p1 0 0 (x9 * 4) hp1 (r_lit rfl) (r_lit rfl) h2 h) (fun r4 σ5 h3 h => ?_)
      refine ok_pop (pc := 204) dX11_read_204 rfl ?_
      refine ok_iinc (L' := [(9, vI (x9 + 1)), (0, .ref (xad X 0)), (1, vI p1), (7, vI x7), (8, vI x8)]) 4 (pc := 205) dX11_read_205 rfl rfl rfl ?_
      refine ok_goto (tgt := 179) (pc := 208) dX11_read_208 rfl ?_
      obtain ⟨h6, h⟩ := h
      refine ok_sub (L' := [(0, .ref (xad X 0)), (1, vI p1), (7, vI x7), (8, vI x8), (9, vI (x9 + 1))]) [1,2,3,4,0] rfl ?_
      exact ih (x9 + 1) σ5 h6 h
set_option maxRecDepth 100000 in
set_option maxHeartbeats 4000000 in
theorem w_X11_read_152 (X : XE) (p1 : Int) (p2 : Int) (p3 : Int) (p4 : Int) (p5 : Int) (hp1 : inR p1) (hp2 : inR p2) (hp3 : inR p3) (hp4 : inR p4) (hp5 : inR p5) (c6 : Nat) (x7 : Int) (x8 : Int) (x9 : Int) (hc6 : c6 < 4) (hx7 : inR x7) (hx8 : inR x8) (hx9 : inR x9) {K66 : Int → Int → Int → Mem → Prop} {Q : Int → Mem → Prop} (hK66 : ∀ (x7 : Int) (x8 : Int) (x9 : Int) (σ : Mem), inR x7 → inR x8 → inR x9 → K66 x7 x8 x9 σ → ok X rm_X11_read RX11 cX11_read 10 (some .int) 1 Q 66 [(0, .ref (xad X 0)), (1, vI p1), (4, vI p4), (5, vI p5), (6, .ref (xad X (109 + 2 * c6))), (7, vI x7), (8, vI x8), (9, vI x9)] [] σ) {σ : Mem} (h : j_X11_read_152 p1 p2 p3 p4 p5 K66 Q c6 x7 x8 x9 σ) : ok X rm_X11_read RX11 cX11_read 10 (some .int) 1 Q 152 [(0, .ref (xad X 0)), (1, vI p1), (4, vI p4), (5, vI p5), (6, .ref (xad X (109 + 2 * c6))), (7, vI x7), (8, vI x8), (9, vI x9)] [] σ := by
  refine ok_aload_n 0 (pc := 152) dX11_read_152 rfl rfl ?_
  refine ok_getR (pc := 153) dX11_read_153 fl_X11_46 sh_0 (Nat.le_of_ble_eq_true rfl) rfl rfl ?_
  refine ok_wf (fun hw1 => ?_)
  refine ok_getI (pc := 156) dX11_read_156 fl_X11_385 sh_16 (Nat.le_of_ble_eq_true rfl) rfl rfl ?_
  refine ok_iload 6 (pc := 159) dX11_read_159 rfl ?_
  refine ok_iadd (pc := 161) dX11_read_161 ?_
  refine ok_bipush (pc := 162) dX11_read_162 rfl ?_
  obtain ⟨h2, h⟩ := h
  refine ok_icmp_le (tgt := 170) (pc := 164) dX11_read_164 rfl h2 (r_lit rfl) (fun q3 => ?_) (fun q3 => ?_)
  · have h := iteF h q3
    refine ok_iinc (L' := [(9, vI (x9 + 1)), (0, .ref (xad X 0)), (1, vI p1), (4, vI p4), (5, vI p5), (6, .ref (xad X (109 + 2 * c6))), (7, vI x7), (8, vI x8)]) 7 (pc := 170) dX11_read_170 rfl rfl rfl ?_
    refine ok_goto (tgt := 66) (pc := 173) dX11_read_173 rfl ?_
    obtain ⟨h4, h⟩ := h
    refine ok_sub (L' := [(0, .ref (xad X 0)), (1, vI p1), (4, vI p4), (5, vI p5), (6, .ref (xad X (109 + 2 * c6))), (7, vI x7), (8, vI x8), (9, vI (x9 + 1))]) [1,2,3,4,5,6,7,0] rfl ?_
    exact hK66 x7 x8 (x9 + 1) σ hx7 hx8 h4 h
  · have h := iteT h q3
    refine ok_bipush (pc := 167) dX11_read_167 rfl ?_
    exact ok_iret (pc := 169) dX11_read_169 rfl rfl rfl (r_lit rfl) h
set_option maxRecDepth 100000 in
set_option maxHeartbeats 4000000 in
theorem w_X11_read_66 (X : XE) (p1 : Int) (p2 : Int) (p3 : Int) (p4 : Int) (p5 : Int) (hp1 : inR p1) (hp2 : inR p2) (hp3 : inR p3) (hp4 : inR p4) (hp5 : inR p5) (c6 : Nat) (hc6 : c6 < 4) {Q : Int → Mem → Prop} : ∀ (n : Nat) (x7 : Int) (x8 : Int) (x9 : Int) (σ : Mem), inR x7 → inR x8 → inR x9 → l_X11_read_66 p1 p2 p3 p4 p5 c6 Q n x7 x8 x9 σ → ok X rm_X11_read RX11 cX11_read 10 (some .int) 1 Q 66 [(0, .ref (xad X 0)), (1, vI p1), (4, vI p4), (5, vI p5), (6, .ref (xad X (109 + 2 * c6))), (7, vI x7), (8, vI x8), (9, vI x9)] [] σ := by
  intro n
  induction n with
  | zero => intro x7 x8 x9 σ hx7 hx8 hx9 h; exact False.elim h
  | succ n ih =>
    intro x7 x8 x9 σ hx7 hx8 hx9 h
    refine ok_iload 7 (pc := 66) dX11_read_66 rfl ?_
    refine ok_iload 3 (pc := 68) dX11_read_68 rfl ?_
    refine ok_iconst (pc := 70) dX11_read_70 ?_
    refine ok_imul (pc := 71) dX11_read_71 ?_
    obtain ⟨h1, h⟩ := h
    refine ok_icmp_ge (tgt := 176) (pc := 72) dX11_read_72 rfl hx9 h1 (fun q2 => ?_) (fun q2 => ?_)
    · have h := iteF h q2
      refine ok_iconst (pc := 176) dX11_read_176 ?_
      refine ok_istore (L' := [(9, vI 0), (0, .ref (xad X 0)), (1, vI p1), (4, vI p4), (5, vI p5), (6, .ref (xad X (109 + 2 * c6))), (7, vI x7), (8, vI x8)]) (pc := 177) dX11_read_177 rfl rfl ?_
      refine ok_sub (L' := [(0, .ref (xad X 0)), (1, vI p1), (7, vI x7), (8, vI x8), (9, vI 0)]) [1,2,6,7,0] rfl ?_
      obtain ⟨n3, h⟩ := h
      exact w_X11_read_179 X p1 p2 p3 p4 p5 hp1 hp2 hp3 hp4 hp5 x7 x8 hx7 hx8 n3 0 σ (r_lit rfl) h
    · have h := iteT h q2
      refine ok_iload 5 (pc := 75) dX11_read_75 rfl ?_
      refine ok_if_ne (tgt := 176) (pc := 77) dX11_read_77 rfl hx7 (fun q4 => ?_) (fun q4 => ?_)
      · have h := iteF h q4
        refine ok_iconst (pc := 176) dX11_read_176 ?_
        refine ok_istore (L' := [(9, vI 0), (0, .ref (xad X 0)), (1, vI p1), (4, vI p4), (5, vI p5), (6, .ref (xad X (109 + 2 * c6))), (7, vI x7), (8, vI x8)]) (pc := 177) dX11_read_177 rfl rfl ?_
        refine ok_sub (L' := [(0, .ref (xad X 0)), (1, vI p1), (7, vI x7), (8, vI x8), (9, vI 0)]) [1,2,6,7,0] rfl ?_
        obtain ⟨n5, h⟩ := h
        exact w_X11_read_179 X p1 p2 p3 p4 p5 hp1 hp2 hp3 hp4 hp5 x7 x8 hx7 hx8 n5 0 σ (r_lit rfl) h
      · have h := iteT h q4
        refine ok_aload 4 (pc := 80) dX11_read_80 rfl ?_
        refine ok_iload 2 (pc := 82) dX11_read_82 rfl ?_
        refine ok_iload 7 (pc := 84) dX11_read_84 rfl ?_
        refine ok_iadd (pc := 86) dX11_read_86 ?_
        refine ok_wr ?_
        refine ok_callVi (As := [vI (wr (p4 + x9))]) (rest := []) (rm := rm_X8_has) (pc := 87) dX11_read_87 me_X8_has ml_X11_370 (ci := 8) rfl (sh_sheet c6 hc6) (lt_sheet hc6).1 rfl des_X8_has rfl ⟨rfl, rfl, rfl, rfl⟩ rfl rfl (c_X8_has X c6 (wr (p4 + x9)) hc6 (q_rng _) h) (fun r7 σ8 h6 h => ?_)
        refine ok_if_ne (tgt := 99) (pc := 90) dX11_read_90 rfl h6 (fun q9 => ?_) (fun q9 => ?_)
        · have h := iteF h q9
          refine ok_aload 4 (pc := 99) dX11_read_99 rfl ?_
          refine ok_getR (pc := 101) dX11_read_101 fl_X11_377 (sh_sheet c6 hc6) (lt_sheet hc6).1 rfl rfl ?_
          refine ok_iload 2 (pc := 104) dX11_read_104 rfl ?_
          refine ok_iload 7 (pc := 106) dX11_read_106 rfl ?_
          refine ok_iadd (pc := 108) dX11_read_108 ?_
          refine ok_wr ?_
          obtain ⟨h10, h⟩ := h
          obtain ⟨h11, h⟩ := h
          refine ok_wf (fun hw12 => ?_)
          refine ok_iald (pc := 109) dX11_read_109 (sh_scell c6 hc6) (lt_sheet hc6).2 rfl h10 h11 ?_
          refine ok_sipush (pc := 110) dX11_read_110 rfl ?_
          refine ok_icmp_le (tgt := 122) (pc := 113) dX11_read_113 rfl (hw12 _ _) (r_lit rfl) (fun q13 => ?_) (fun q13 => ?_)
          · have h := iteF h q13
            refine ok_aload_n 0 (pc := 122) dX11_read_122 rfl rfl ?_
            refine ok_getR (pc := 123) dX11_read_123 fl_X11_87 sh_0 (Nat.le_of_ble_eq_true rfl) rfl rfl ?_
            refine ok_iload 7 (pc := 126) dX11_read_126 rfl ?_
            refine ok_aload 4 (pc := 128) dX11_read_128 rfl ?_
            refine ok_getR (pc := 130) dX11_read_130 fl_X11_377 (sh_sheet c6 hc6) (lt_sheet hc6).1 rfl rfl ?_
            refine ok_iload 2 (pc := 133) dX11_read_133 rfl ?_
            refine ok_iload 7 (pc := 135) dX11_read_135 rfl ?_
            refine ok_iadd (pc := 137) dX11_read_137 ?_
            refine ok_wr ?_
            refine ok_iald (pc := 138) dX11_read_138 (sh_scell c6 hc6) (lt_sheet hc6).2 rfl h10 h11 ?_
            refine ok_iconst (pc := 139) dX11_read_139 ?_
            refine ok_max (pc := 140) dX11_read_140 ml_X11_380 ⟨rfl, rfl⟩ (hw12 _ _) (r_lit rfl) ?_
            obtain ⟨h14, h⟩ := h
            obtain ⟨h15, h⟩ := h
            refine ok_iast (pc := 143) dX11_read_143 sh_117 (Nat.le_of_ble_eq_true rfl) rfl h14 h15 (r_max (hw12 _ _) (r_lit rfl)) ?_
            refine ok_iload 7 (pc := 144) dX11_read_144 rfl ?_
            refine ok_iconst (pc := 146) dX11_read_146 ?_
            refine ok_iadd (pc := 147) dX11_read_147 ?_
            refine ok_iconst (pc := 148) dX11_read_148 ?_
            obtain ⟨h16, h⟩ := h
            refine ok_idiv (pc := 149) dX11_read_149 h16 (r_lit rfl) (by decide) ?_
            refine ok_istore (L' := [(8, vI (Int.tdiv (x9 + 1) 4)), (0, .ref (xad X 0)), (1, vI p1), (4, vI p4), (5, vI p5), (6, .ref (xad X (109 + 2 * c6))), (7, vI x7), (9, vI x9)]) (pc := 150) dX11_read_150 rfl rfl ?_
            obtain ⟨h17, h⟩ := h
            refine ok_sub (L' := [(0, .ref (xad X 0)), (1, vI p1), (4, vI p4), (5, vI p5), (6, .ref (xad X (109 + 2 * c6))), (7, vI x7), (8, vI (Int.tdiv (x9 + 1) 4)), (9, vI x9)]) [1,2,3,4,5,6,0,7] rfl ?_
            exact w_X11_read_152 X p1 p2 p3 p4 p5 hp1 hp2 hp3 hp4 hp5 c6 x7 (Int.tdiv (x9 + 1) 4) x9 hc6 hx7 h17 hx9 (fun x7_ x8_ x9_ σ_ hx7_ hx8_ hx9_ h_ => ih x7_ x8_ x9_ σ_ hx7_ hx8_ hx9_ h_) h
          · have h := iteT h q13
            refine ok_bipush (pc := 116) dX11_read_116 rfl ?_
            refine ok_iload 7 (pc := 118) dX11_read_118 rfl ?_
            refine ok_isub (pc := 120) dX11_read_120 ?_
            obtain ⟨h18, h⟩ := h
            exact ok_iret (pc := 121) dX11_read_121 rfl rfl rfl h18 h
        · have h := iteT h q9
          refine ok_iconst (pc := 93) dX11_read_93 ?_
          refine ok_istore (L' := [(7, vI 2), (0, .ref (xad X 0)), (1, vI p1), (4, vI p4), (5, vI p5), (6, .ref (xad X (109 + 2 * c6))), (8, vI x8), (9, vI x9)]) (pc := 94) dX11_read_94 rfl rfl ?_
          refine ok_goto (tgt := 152) (pc := 96) dX11_read_96 rfl ?_
          refine ok_sub (L' := [(0, .ref (xad X 0)), (1, vI p1), (4, vI p4), (5, vI p5), (6, .ref (xad X (109 + 2 * c6))), (7, vI 2), (8, vI x8), (9, vI x9)]) [1,2,3,4,5,0,6,7] rfl ?_
          exact w_X11_read_152 X p1 p2 p3 p4 p5 hp1 hp2 hp3 hp4 hp5 c6 2 x8 x9 hc6 (r_lit rfl) hx8 hx9 (fun x7_ x8_ x9_ σ_ hx7_ hx8_ hx9_ h_ => ih x7_ x8_ x9_ σ_ hx7_ hx8_ hx9_ h_) h
set_option maxRecDepth 100000 in
set_option maxHeartbeats 4000000 in
theorem w_X11_read_58 (X : XE) (p1 : Int) (p2 : Int) (p3 : Int) (p4 : Int) (p5 : Int) (hp1 : inR p1) (hp2 : inR p2) (hp3 : inR p3) (hp4 : inR p4) (hp5 : inR p5) (c6 : Nat) (s0 : Int) (hc6 : c6 < 4) (hs0 : inR s0) {Q : Int → Mem → Prop} {σ : Mem} (h : j_X11_read_58 p1 p2 p3 p4 p5 Q c6 s0 σ) : ok X rm_X11_read RX11 cX11_read 10 (some .int) 1 Q 58 [(0, .ref (xad X 0)), (1, vI p1), (4, vI p4), (5, vI p5), (6, .ref (xad X (109 + 2 * c6)))] [vI s0] σ := by
  refine ok_istore (L' := [(7, vI s0), (0, .ref (xad X 0)), (1, vI p1), (4, vI p4), (5, vI p5), (6, .ref (xad X (109 + 2 * c6)))]) (pc := 58) dX11_read_58 rfl rfl ?_
  refine ok_iconst (pc := 60) dX11_read_60 ?_
  refine ok_istore (L' := [(8, vI 0), (7, vI s0), (0, .ref (xad X 0)), (1, vI p1), (4, vI p4), (5, vI p5), (6, .ref (xad X (109 + 2 * c6)))]) (pc := 61) dX11_read_61 rfl rfl ?_
  refine ok_iconst (pc := 63) dX11_read_63 ?_
  refine ok_istore (L' := [(9, vI 0), (8, vI 0), (7, vI s0), (0, .ref (xad X 0)), (1, vI p1), (4, vI p4), (5, vI p5), (6, .ref (xad X (109 + 2 * c6)))]) (pc := 64) dX11_read_64 rfl rfl ?_
  refine ok_sub (L' := [(0, .ref (xad X 0)), (1, vI p1), (4, vI p4), (5, vI p5), (6, .ref (xad X (109 + 2 * c6))), (7, vI s0), (8, vI 0), (9, vI 0)]) [3,4,5,6,7,2,1,0] rfl ?_
  obtain ⟨n1, h⟩ := h
  exact w_X11_read_66 X p1 p2 p3 p4 p5 hp1 hp2 hp3 hp4 hp5 c6 hc6 n1 s0 0 0 σ hs0 (r_lit rfl) (r_lit rfl) h
set_option maxRecDepth 100000 in
set_option maxHeartbeats 4000000 in
theorem c_X11_read (X : XE) (p1 : Int) (p2 : Int) (p3 : Int) (p4 : Int) (p5 : Int) (hp1 : inR p1) (hp2 : inR p2) (hp3 : inR p3) (hp4 : inR p4) (hp5 : inR p5) {σ : Mem} {Q : Int → Mem → Prop} (h : v_X11_read p1 p2 p3 p4 p5 σ Q) : CT X yX11_read cX11_read 10 (some .int) rm_X11_read 1 [.ref (xad X 0), vI p1, vI p2, vI p3, vI p4, vI p5] σ Q := by
  refine ct_of (own := RX11) (L := [(0, .ref (xad X 0)), (1, vI p1), (2, vI p2), (3, vI p3), (4, vI p4), (5, vI p5)]) rfl rfl (Nat.le_of_ble_eq_true rfl) rfl ?_
  refine ok_iload_n 1 (pc := 0) dX11_read_0 rfl rfl ?_
  refine ok_callSi (As := [vI p1]) (rest := []) (rm := rm_X11_isHand) (pc := 1) dX11_read_1 me_X11_isHand ml_X11_148 des_X11_isHand rfl ⟨rfl, rfl, rfl, rfl⟩ rfl rfl (c_X11_isHand X p1 hp1 h) (fun r2 σ3 h1 h => ?_)
  refine ok_if_eq (tgt := 33) (pc := 4) dX11_read_4 rfl h1 (fun q4 => ?_) (fun q4 => ?_)
  · have h := iteT h q4
    refine ok_iconst (pc := 33) dX11_read_33 ?_
    exact ok_iret (pc := 34) dX11_read_34 rfl rfl rfl (r_lit rfl) h
  · have h := iteF h q4
    refine ok_iload_n 2 (pc := 7) dX11_read_7 rfl rfl ?_
    refine ok_callSi (As := [vI p2]) (rest := []) (rm := rm_X11_isSheet) (pc := 8) dX11_read_8 me_X11_isSheet ml_X11_360 des_X11_isSheet rfl ⟨rfl, rfl, rfl, rfl⟩ rfl rfl (c_X11_isSheet X p2 hp2 h) (fun r6 σ7 h5 h => ?_)
    refine ok_if_eq (tgt := 33) (pc := 11) dX11_read_11 rfl h5 (fun q8 => ?_) (fun q8 => ?_)
    · have h := iteT h q8
      refine ok_iconst (pc := 33) dX11_read_33 ?_
      exact ok_iret (pc := 34) dX11_read_34 rfl rfl rfl (r_lit rfl) h
    · have h := iteF h q8
      refine ok_iload_n 3 (pc := 14) dX11_read_14 rfl rfl ?_
      refine ok_callSi (As := [vI p3]) (rest := []) (rm := rm_X11_isLane) (pc := 15) dX11_read_15 me_X11_isLane ml_X11_363 des_X11_isLane rfl ⟨rfl, rfl, rfl, rfl⟩ rfl rfl (c_X11_isLane X p3 hp3 h) (fun r10 σ11 h9 h => ?_)
      refine ok_if_eq (tgt := 33) (pc := 18) dX11_read_18 rfl h9 (fun q12 => ?_) (fun q12 => ?_)
      · have h := iteT h q12
        refine ok_iconst (pc := 33) dX11_read_33 ?_
        exact ok_iret (pc := 34) dX11_read_34 rfl rfl rfl (r_lit rfl) h
      · have h := iteF h q12
        refine ok_iload 5 (pc := 21) dX11_read_21 rfl ?_
        refine ok_if_lt (tgt := 33) (pc := 23) dX11_read_23 rfl hp5 (fun q13 => ?_) (fun q13 => ?_)
        · have h := iteT h q13
          refine ok_iconst (pc := 33) dX11_read_33 ?_
          exact ok_iret (pc := 34) dX11_read_34 rfl rfl rfl (r_lit rfl) h
        · have h := iteF h q13
          refine ok_iload 5 (pc := 26) dX11_read_26 rfl ?_
          refine ok_bipush (pc := 28) dX11_read_28 rfl ?_
          refine ok_icmp_le (tgt := 35) (pc := 30) dX11_read_30 rfl hp5 (r_lit rfl) (fun q14 => ?_) (fun q14 => ?_)
          · have h := iteF h q14
            refine ok_aload_n 0 (pc := 35) dX11_read_35 rfl rfl ?_
            refine ok_getR (pc := 36) dX11_read_36 fl_X11_82 sh_0 (Nat.le_of_ble_eq_true rfl) rfl rfl ?_
            refine ok_iload_n 2 (pc := 39) dX11_read_39 rfl rfl ?_
            obtain ⟨h15, h⟩ := h
            obtain ⟨h16, h⟩ := h
            refine ok_sheets (pc := 40) dX11_read_40 h15 h16 ?_
            have hc17 : p2.toNat < 4 := by omega
            refine ok_astore (L' := [(6, .ref (xad X (109 + 2 * (p2.toNat)))), (0, .ref (xad X 0)), (1, vI p1), (2, vI p2), (3, vI p3), (4, vI p4), (5, vI p5)]) (pc := 41) dX11_read_41 rfl rfl ?_
            refine ok_iload 6 (pc := 43) dX11_read_43 rfl ?_
            refine ok_if_ne (tgt := 52) (pc := 45) dX11_read_45 rfl hp5 (fun q18 => ?_) (fun q18 => ?_)
            · have h := iteF h q18
              refine ok_aload 0 (pc := 52) dX11_read_52 rfl ?_
              refine ok_iload_n 4 (pc := 54) dX11_read_54 rfl rfl ?_
              refine ok_callVi (As := [vI p3]) (rest := []) (rm := rm_X8_refusal) (pc := 55) dX11_read_55 me_X8_refusal ml_X11_374 (ci := 8) rfl (sh_sheet (p2.toNat) hc17) (lt_sheet hc17).1 rfl des_X8_refusal rfl ⟨rfl, rfl, rfl, rfl⟩ rfl rfl (c_X8_refusal X (p2.toNat) p3 hc17 hp3 h) (fun r20 σ21 h19 h => ?_)
              refine ok_sub (L' := [(0, .ref (xad X 0)), (1, vI p1), (4, vI p4), (5, vI p5), (6, .ref (xad X (109 + 2 * (p2.toNat))))]) [1,2,5,6,0] rfl ?_
              exact w_X11_read_58 X p1 p2 p3 p4 p5 hp1 hp2 hp3 hp4 hp5 (p2.toNat) r20 hc17 h19 h
            · have h := iteT h q18
              refine ok_iconst (pc := 48) dX11_read_48 ?_
              refine ok_goto (tgt := 58) (pc := 49) dX11_read_49 rfl ?_
              refine ok_sub (L' := [(0, .ref (xad X 0)), (1, vI p1), (4, vI p4), (5, vI p5), (6, .ref (xad X (109 + 2 * (p2.toNat))))]) [1,2,5,6,0] rfl ?_
              exact w_X11_read_58 X p1 p2 p3 p4 p5 hp1 hp2 hp3 hp4 hp5 (p2.toNat) 0 hc17 (r_lit rfl) h
          · have h := iteT h q14
            refine ok_iconst (pc := 33) dX11_read_33 ?_
            exact ok_iret (pc := 34) dX11_read_34 rfl rfl rfl (r_lit rfl) h
theorem dX11_torn_0 : decode cX11_torn 0 = .ok (.aload_n 0, 1) := by decide +kernel
theorem dX11_torn_1 : decode cX11_torn 1 = .ok (.getfield 387, 3) := by decide +kernel
theorem dX11_torn_4 : decode cX11_torn 4 = .ok (.ireturn, 1) := by decide +kernel
set_option maxRecDepth 100000 in
set_option maxHeartbeats 4000000 in
theorem c_X11_torn (X : XE) {σ : Mem} {Q : Int → Mem → Prop} (h : v_X11_torn σ Q) : CT X yX11_torn cX11_torn 1 (some .int) rm_X11_torn 1 [.ref (xad X 0)] σ Q := by
  refine ct_of (own := RX11) (L := [(0, .ref (xad X 0))]) rfl rfl (Nat.le_of_ble_eq_true rfl) rfl ?_
  refine ok_aload_n 0 (pc := 0) dX11_torn_0 rfl rfl ?_
  refine ok_wf (fun hw1 => ?_)
  refine ok_getI (pc := 1) dX11_torn_1 fl_X11_387 sh_0 (Nat.le_of_ble_eq_true rfl) rfl rfl ?_
  exact ok_iret (pc := 4) dX11_torn_4 rfl rfl rfl (hw1 _ _) h
theorem dX0_due_0 : decode cX0_due 0 = .ok (.iconst 0, 1) := by decide +kernel
theorem dX0_due_1 : decode cX0_due 1 = .ok (.istore_n 1, 1) := by decide +kernel
theorem dX0_due_2 : decode cX0_due 2 = .ok (.iconst 0, 1) := by decide +kernel
theorem dX0_due_3 : decode cX0_due 3 = .ok (.istore_n 2, 1) := by decide +kernel
theorem dX0_due_4 : decode cX0_due 4 = .ok (.iload_n 2, 1) := by decide +kernel
theorem dX0_due_5 : decode cX0_due 5 = .ok (.aload_n 0, 1) := by decide +kernel
theorem dX0_due_6 : decode cX0_due 6 = .ok (.getfield 39, 3) := by decide +kernel
theorem dX0_due_9 : decode cX0_due 9 = .ok (.if_icmp .ge 48, 3) := by decide +kernel
theorem dX0_due_12 : decode cX0_due 12 = .ok (.iload_n 1, 1) := by decide +kernel
theorem dX0_due_13 : decode cX0_due 13 = .ok (.aload_n 0, 1) := by decide +kernel
theorem dX0_due_14 : decode cX0_due 14 = .ok (.getfield 11, 3) := by decide +kernel
theorem dX0_due_17 : decode cX0_due 17 = .ok (.iload_n 2, 1) := by decide +kernel
theorem dX0_due_18 : decode cX0_due 18 = .ok (.aaload, 1) := by decide +kernel
theorem dX0_due_19 : decode cX0_due 19 = .ok (.invokevirtual 77, 3) := by decide +kernel
theorem dX0_due_22 : decode cX0_due 22 = .ok (.ifCond .ne 23, 3) := by decide +kernel
theorem dX0_due_25 : decode cX0_due 25 = .ok (.aload_n 0, 1) := by decide +kernel
theorem dX0_due_26 : decode cX0_due 26 = .ok (.getfield 11, 3) := by decide +kernel
theorem dX0_due_29 : decode cX0_due 29 = .ok (.iload_n 2, 1) := by decide +kernel
theorem dX0_due_30 : decode cX0_due 30 = .ok (.aaload, 1) := by decide +kernel
theorem dX0_due_31 : decode cX0_due 31 = .ok (.aload_n 0, 1) := by decide +kernel
theorem dX0_due_32 : decode cX0_due 32 = .ok (.getfield 34, 3) := by decide +kernel
theorem dX0_due_35 : decode cX0_due 35 = .ok (.invokevirtual 91, 3) := by decide +kernel
theorem dX0_due_38 : decode cX0_due 38 = .ok (.ifCond .eq 7, 3) := by decide +kernel
theorem dX0_due_41 : decode cX0_due 41 = .ok (.iconst 1, 1) := by decide +kernel
theorem dX0_due_42 : decode cX0_due 42 = .ok (.goto 4, 3) := by decide +kernel
theorem dX0_due_45 : decode cX0_due 45 = .ok (.iconst 0, 1) := by decide +kernel
theorem dX0_due_46 : decode cX0_due 46 = .ok (.invokestatic 81, 3) := by decide +kernel
theorem dX0_due_49 : decode cX0_due 49 = .ok (.iadd, 1) := by decide +kernel
theorem dX0_due_50 : decode cX0_due 50 = .ok (.istore_n 1, 1) := by decide +kernel
theorem dX0_due_51 : decode cX0_due 51 = .ok (.iinc 2 1, 3) := by decide +kernel
theorem dX0_due_54 : decode cX0_due 54 = .ok (.goto (-50), 3) := by decide +kernel
theorem dX0_due_57 : decode cX0_due 57 = .ok (.iload_n 1, 1) := by decide +kernel
theorem dX0_due_58 : decode cX0_due 58 = .ok (.ireturn, 1) := by decide +kernel
set_option maxRecDepth 100000 in
set_option maxHeartbeats 4000000 in
theorem w_X0_due_46 (X : XE) (x2 : Int) (s0 : Int) (s1 : Int) (hx2 : inR x2) (hs0 : inR s0) (hs1 : inR s1) {K4 : Int → Int → Mem → Prop} {Q : Int → Mem → Prop} (hK4 : ∀ (x1 : Int) (x2 : Int) (σ : Mem), inR x1 → inR x2 → K4 x1 x2 σ → ok X rm_X0_due RX0 cX0_due 3 (some .int) 1 Q 4 [(0, .ref (xad X 16)), (1, vI x1), (2, vI x2)] [] σ) {σ : Mem} (h : j_X0_due_46 K4 Q x2 s0 s1 σ) : ok X rm_X0_due RX0 cX0_due 3 (some .int) 1 Q 46 [(0, .ref (xad X 16)), (2, vI x2)] [vI s0, vI s1] σ := by
  refine ok_callNi (As := [vI s0]) (rest := [vI s1]) (rm := rm_X11_bit) (pc := 46) dX0_due_46 me_X11_bit xn_0 des_X11_bit rfl ⟨rfl, rfl, rfl, rfl⟩ rfl rfl (c_X11_bit X s0 hs0 h) (fun r2 σ3 h1 h => ?_)
  refine ok_iadd (pc := 49) dX0_due_49 ?_
  refine ok_istore_n (L' := [(1, vI (s1 + r2)), (0, .ref (xad X 16)), (2, vI x2)]) (pc := 50) dX0_due_50 rfl rfl rfl ?_
  refine ok_iinc (L' := [(2, vI (x2 + 1)), (1, vI (s1 + r2)), (0, .ref (xad X 16))]) 2 (pc := 51) dX0_due_51 rfl rfl rfl ?_
  refine ok_goto (tgt := 4) (pc := 54) dX0_due_54 rfl ?_
  obtain ⟨h4, h⟩ := h
  obtain ⟨h5, h⟩ := h
  refine ok_sub (L' := [(0, .ref (xad X 16)), (1, vI (s1 + r2)), (2, vI (x2 + 1))]) [2,1,0] rfl ?_
  exact hK4 (s1 + r2) (x2 + 1) σ3 h4 h5 h
set_option maxRecDepth 100000 in
set_option maxHeartbeats 4000000 in
theorem w_X0_due_4 (X : XE) {Q : Int → Mem → Prop} : ∀ (n : Nat) (x1 : Int) (x2 : Int) (σ : Mem), inR x1 → inR x2 → l_X0_due_4 Q n x1 x2 σ → ok X rm_X0_due RX0 cX0_due 3 (some .int) 1 Q 4 [(0, .ref (xad X 16)), (1, vI x1), (2, vI x2)] [] σ := by
  intro n
  induction n with
  | zero => intro x1 x2 σ hx1 hx2 h; exact False.elim h
  | succ n ih =>
    intro x1 x2 σ hx1 hx2 h
    refine ok_iload_n 2 (pc := 4) dX0_due_4 rfl rfl ?_
    refine ok_aload_n 0 (pc := 5) dX0_due_5 rfl rfl ?_
    refine ok_wf (fun hw1 => ?_)
    refine ok_getI (pc := 6) dX0_due_6 fl_X0_39 sh_16 (Nat.le_of_ble_eq_true rfl) rfl rfl ?_
    refine ok_icmp_ge (tgt := 57) (pc := 9) dX0_due_9 rfl hx2 (hw1 _ _) (fun q2 => ?_) (fun q2 => ?_)
    · have h := iteF h q2
      refine ok_iload_n 1 (pc := 57) dX0_due_57 rfl rfl ?_
      exact ok_iret (pc := 58) dX0_due_58 rfl rfl rfl hx1 h
    · have h := iteT h q2
      refine ok_iload_n 1 (pc := 12) dX0_due_12 rfl rfl ?_
      refine ok_aload_n 0 (pc := 13) dX0_due_13 rfl rfl ?_
      refine ok_getR (pc := 14) dX0_due_14 fl_X0_11 sh_16 (Nat.le_of_ble_eq_true rfl) rfl rfl ?_
      refine ok_iload_n 2 (pc := 17) dX0_due_17 rfl rfl ?_
      obtain ⟨h3, h⟩ := h
      obtain ⟨h4, h⟩ := h
      refine ok_cards (pc := 18) dX0_due_18 h3 h4 ?_
      have hc5 : x2.toNat < 24 := by omega
      refine ok_callVi (As := []) (rest := [vI x1]) (rm := rm_X1_isOut) (pc := 19) dX0_due_19 me_X1_isOut ml_X0_77 (ci := 1) rfl (sh_card (x2.toNat) hc5) (lt_card hc5).1 rfl des_X1_isOut rfl ⟨rfl, rfl, rfl, rfl⟩ rfl rfl (c_X1_isOut X (x2.toNat) hc5 h) (fun r7 σ8 h6 h => ?_)
      refine ok_if_ne (tgt := 45) (pc := 22) dX0_due_22 rfl h6 (fun q9 => ?_) (fun q9 => ?_)
      · have h := iteF h q9
        refine ok_iconst (pc := 45) dX0_due_45 ?_
        refine ok_sub (L' := [(0, .ref (xad X 16)), (2, vI x2)]) [0,2] rfl ?_
        exact w_X0_due_46 X x2 0 x1 hx2 (r_lit rfl) hx1 (fun x1_ x2_ σ_ hx1_ hx2_ h_ => ih x1_ x2_ σ_ hx1_ hx2_ h_) h
      · have h := iteT h q9
        refine ok_aload_n 0 (pc := 25) dX0_due_25 rfl rfl ?_
        refine ok_getR (pc := 26) dX0_due_26 fl_X0_11 sh_16 (Nat.le_of_ble_eq_true rfl) rfl rfl ?_
        refine ok_iload_n 2 (pc := 29) dX0_due_29 rfl rfl ?_
        refine ok_cards (pc := 30) dX0_due_30 h3 h4 ?_
        have hc10 : x2.toNat < 24 := by omega
        refine ok_aload_n 0 (pc := 31) dX0_due_31 rfl rfl ?_
        refine ok_getR (pc := 32) dX0_due_32 fl_X0_34 sh_16 (Nat.le_of_ble_eq_true rfl) rfl rfl ?_
        refine ok_callVi (As := [.ref (xad X 14)]) (rest := [vI x1]) (rm := rm_X1_isDue) (pc := 35) dX0_due_35 me_X1_isDue ml_X0_91 (ci := 1) rfl (sh_card (x2.toNat) hc10) (lt_card hc10).1 rfl des_X1_isDue rfl ⟨rfl, rfl, rfl, rfl⟩ rfl rfl (c_X1_isDue X (x2.toNat) hc10 h) (fun r12 σ13 h11 h => ?_)
        refine ok_if_eq (tgt := 45) (pc := 38) dX0_due_38 rfl h11 (fun q14 => ?_) (fun q14 => ?_)
        · simp only [if_pos q14] at h
          refine ok_iconst (pc := 45) dX0_due_45 ?_
          refine ok_sub (L' := [(0, .ref (xad X 16)), (2, vI x2)]) [0,2] rfl ?_
          exact w_X0_due_46 X x2 0 x1 hx2 (r_lit rfl) hx1 (fun x1_ x2_ σ_ hx1_ hx2_ h_ => ih x1_ x2_ σ_ hx1_ hx2_ h_) h
        · simp only [if_neg q14] at h
          refine ok_iconst (pc := 41) dX0_due_41 ?_
          refine ok_goto (tgt := 46) (pc := 42) dX0_due_42 rfl ?_
          refine ok_sub (L' := [(0, .ref (xad X 16)), (2, vI x2)]) [0,2] rfl ?_
          exact w_X0_due_46 X x2 1 x1 hx2 (r_lit rfl) hx1 (fun x1_ x2_ σ_ hx1_ hx2_ h_ => ih x1_ x2_ σ_ hx1_ hx2_ h_) h
set_option maxRecDepth 100000 in
set_option maxHeartbeats 4000000 in
theorem c_X0_due (X : XE) {σ : Mem} {Q : Int → Mem → Prop} (h : v_X0_due σ Q) : CT X yX0_due cX0_due 3 (some .int) rm_X0_due 1 [.ref (xad X 16)] σ Q := by
  refine ct_of (own := RX0) (L := [(0, .ref (xad X 16))]) rfl rfl (Nat.le_of_ble_eq_true rfl) rfl ?_
  refine ok_iconst (pc := 0) dX0_due_0 ?_
  refine ok_istore_n (L' := [(1, vI 0), (0, .ref (xad X 16))]) (pc := 1) dX0_due_1 rfl rfl rfl ?_
  refine ok_iconst (pc := 2) dX0_due_2 ?_
  refine ok_istore_n (L' := [(2, vI 0), (1, vI 0), (0, .ref (xad X 16))]) (pc := 3) dX0_due_3 rfl rfl rfl ?_
  refine ok_sub (L' := [(0, .ref (xad X 16)), (1, vI 0), (2, vI 0)]) [2,1,0] rfl ?_
  obtain ⟨n1, h⟩ := h
  exact w_X0_due_4 X n1 0 0 σ (r_lit rfl) (r_lit rfl) h
theorem dX11_wrongHolds_0 : decode cX11_wrongHolds 0 = .ok (.iconst 0, 1) := by decide +kernel
theorem dX11_wrongHolds_1 : decode cX11_wrongHolds 1 = .ok (.istore_n 1, 1) := by decide +kernel
theorem dX11_wrongHolds_2 : decode cX11_wrongHolds 2 = .ok (.iconst 0, 1) := by decide +kernel
theorem dX11_wrongHolds_3 : decode cX11_wrongHolds 3 = .ok (.istore_n 2, 1) := by decide +kernel
theorem dX11_wrongHolds_4 : decode cX11_wrongHolds 4 = .ok (.iload_n 2, 1) := by decide +kernel
theorem dX11_wrongHolds_5 : decode cX11_wrongHolds 5 = .ok (.aload_n 0, 1) := by decide +kernel
theorem dX11_wrongHolds_6 : decode cX11_wrongHolds 6 = .ok (.getfield 351, 3) := by decide +kernel
theorem dX11_wrongHolds_9 : decode cX11_wrongHolds 9 = .ok (.if_icmp .ge 21, 3) := by decide +kernel
theorem dX11_wrongHolds_12 : decode cX11_wrongHolds 12 = .ok (.iload_n 1, 1) := by decide +kernel
theorem dX11_wrongHolds_13 : decode cX11_wrongHolds 13 = .ok (.aload_n 0, 1) := by decide +kernel
theorem dX11_wrongHolds_14 : decode cX11_wrongHolds 14 = .ok (.getfield 100, 3) := by decide +kernel
theorem dX11_wrongHolds_17 : decode cX11_wrongHolds 17 = .ok (.iload_n 2, 1) := by decide +kernel
theorem dX11_wrongHolds_18 : decode cX11_wrongHolds 18 = .ok (.baload, 1) := by decide +kernel
theorem dX11_wrongHolds_19 : decode cX11_wrongHolds 19 = .ok (.invokestatic 188, 3) := by decide +kernel
theorem dX11_wrongHolds_22 : decode cX11_wrongHolds 22 = .ok (.iadd, 1) := by decide +kernel
theorem dX11_wrongHolds_23 : decode cX11_wrongHolds 23 = .ok (.istore_n 1, 1) := by decide +kernel
theorem dX11_wrongHolds_24 : decode cX11_wrongHolds 24 = .ok (.iinc 2 1, 3) := by decide +kernel
theorem dX11_wrongHolds_27 : decode cX11_wrongHolds 27 = .ok (.goto (-23), 3) := by decide +kernel
theorem dX11_wrongHolds_30 : decode cX11_wrongHolds 30 = .ok (.iload_n 1, 1) := by decide +kernel
theorem dX11_wrongHolds_31 : decode cX11_wrongHolds 31 = .ok (.ireturn, 1) := by decide +kernel
set_option maxRecDepth 100000 in
set_option maxHeartbeats 4000000 in
theorem w_X11_wrongHolds_4 (X : XE) {Q : Int → Mem → Prop} : ∀ (n : Nat) (x1 : Int) (x2 : Int) (σ : Mem), inR x1 → inR x2 → l_X11_wrongHolds_4 Q n x1 x2 σ → ok X rm_X11_wrongHolds RX11 cX11_wrongHolds 3 (some .int) 1 Q 4 [(0, .ref (xad X 0)), (1, vI x1), (2, vI x2)] [] σ := by
  intro n
  induction n with
  | zero => intro x1 x2 σ hx1 hx2 h; exact False.elim h
  | succ n ih =>
    intro x1 x2 σ hx1 hx2 h
    refine ok_iload_n 2 (pc := 4) dX11_wrongHolds_4 rfl rfl ?_
    refine ok_aload_n 0 (pc := 5) dX11_wrongHolds_5 rfl rfl ?_
    refine ok_wf (fun hw1 => ?_)
    refine ok_getI (pc := 6) dX11_wrongHolds_6 fl_X11_351 sh_0 (Nat.le_of_ble_eq_true rfl) rfl rfl ?_
    refine ok_icmp_ge (tgt := 30) (pc := 9) dX11_wrongHolds_9 rfl hx2 (hw1 _ _) (fun q2 => ?_) (fun q2 => ?_)
    · have h := iteF h q2
      refine ok_iload_n 1 (pc := 30) dX11_wrongHolds_30 rfl rfl ?_
      exact ok_iret (pc := 31) dX11_wrongHolds_31 rfl rfl rfl hx1 h
    · have h := iteT h q2
      refine ok_iload_n 1 (pc := 12) dX11_wrongHolds_12 rfl rfl ?_
      refine ok_aload_n 0 (pc := 13) dX11_wrongHolds_13 rfl rfl ?_
      refine ok_getR (pc := 14) dX11_wrongHolds_14 fl_X11_100 sh_0 (Nat.le_of_ble_eq_true rfl) rfl rfl ?_
      refine ok_iload_n 2 (pc := 17) dX11_wrongHolds_17 rfl rfl ?_
      obtain ⟨h3, h⟩ := h
      obtain ⟨h4, h⟩ := h
      refine ok_zald (pc := 18) dX11_wrongHolds_18 sh_121 (Nat.le_of_ble_eq_true rfl) rfl h3 h4 ?_
      refine ok_callSi (As := [vI (σ 121 x2.toNat)]) (rest := [vI x1]) (rm := rm_X11_bit) (pc := 19) dX11_wrongHolds_19 me_X11_bit ml_X11_188 des_X11_bit rfl ⟨rfl, rfl, rfl, rfl⟩ rfl rfl (c_X11_bit X (σ 121 x2.toNat) (hw1 _ _) h) (fun r6 σ7 h5 h => ?_)
      refine ok_iadd (pc := 22) dX11_wrongHolds_22 ?_
      refine ok_istore_n (L' := [(1, vI (x1 + r6)), (0, .ref (xad X 0)), (2, vI x2)]) (pc := 23) dX11_wrongHolds_23 rfl rfl rfl ?_
      refine ok_iinc (L' := [(2, vI (x2 + 1)), (1, vI (x1 + r6)), (0, .ref (xad X 0))]) 2 (pc := 24) dX11_wrongHolds_24 rfl rfl rfl ?_
      refine ok_goto (tgt := 4) (pc := 27) dX11_wrongHolds_27 rfl ?_
      obtain ⟨h8, h⟩ := h
      obtain ⟨h9, h⟩ := h
      refine ok_sub (L' := [(0, .ref (xad X 0)), (1, vI (x1 + r6)), (2, vI (x2 + 1))]) [2,1,0] rfl ?_
      exact ih (x1 + r6) (x2 + 1) σ7 h8 h9 h
set_option maxRecDepth 100000 in
set_option maxHeartbeats 4000000 in
theorem c_X11_wrongHolds (X : XE) {σ : Mem} {Q : Int → Mem → Prop} (h : v_X11_wrongHolds σ Q) : CT X yX11_wrongHolds cX11_wrongHolds 3 (some .int) rm_X11_wrongHolds 1 [.ref (xad X 0)] σ Q := by
  refine ct_of (own := RX11) (L := [(0, .ref (xad X 0))]) rfl rfl (Nat.le_of_ble_eq_true rfl) rfl ?_
  refine ok_iconst (pc := 0) dX11_wrongHolds_0 ?_
  refine ok_istore_n (L' := [(1, vI 0), (0, .ref (xad X 0))]) (pc := 1) dX11_wrongHolds_1 rfl rfl rfl ?_
  refine ok_iconst (pc := 2) dX11_wrongHolds_2 ?_
  refine ok_istore_n (L' := [(2, vI 0), (1, vI 0), (0, .ref (xad X 0))]) (pc := 3) dX11_wrongHolds_3 rfl rfl rfl ?_
  refine ok_sub (L' := [(0, .ref (xad X 0)), (1, vI 0), (2, vI 0)]) [2,1,0] rfl ?_
  obtain ⟨n1, h⟩ := h
  exact w_X11_wrongHolds_4 X n1 0 0 σ (r_lit rfl) (r_lit rfl) h
theorem dX11_count_0 : decode cX11_count 0 = .ok (.iload_n 1, 1) := by decide +kernel
theorem dX11_count_1 : decode cX11_count 1 = .ok (.tableswitch 190 0 11 #[63, 71, 87, 95, 113, 121, 129, 134, 139, 147, 155, 163], 63) := by decide +kernel
theorem dX11_count_64 : decode cX11_count 64 = .ok (.aload_n 0, 1) := by decide +kernel
theorem dX11_count_65 : decode cX11_count 65 = .ok (.getfield 46, 3) := by decide +kernel
theorem dX11_count_68 : decode cX11_count 68 = .ok (.getfield 385, 3) := by decide +kernel
theorem dX11_count_71 : decode cX11_count 71 = .ok (.ireturn, 1) := by decide +kernel
theorem dX11_count_72 : decode cX11_count 72 = .ok (.aload_n 0, 1) := by decide +kernel
theorem dX11_count_73 : decode cX11_count 73 = .ok (.getfield 46, 3) := by decide +kernel
theorem dX11_count_76 : decode cX11_count 76 = .ok (.getfield 385, 3) := by decide +kernel
theorem dX11_count_79 : decode cX11_count 79 = .ok (.aload_n 0, 1) := by decide +kernel
theorem dX11_count_80 : decode cX11_count 80 = .ok (.getfield 46, 3) := by decide +kernel
theorem dX11_count_83 : decode cX11_count 83 = .ok (.invokevirtual 276, 3) := by decide +kernel
theorem dX11_count_86 : decode cX11_count 86 = .ok (.isub, 1) := by decide +kernel
theorem dX11_count_87 : decode cX11_count 87 = .ok (.ireturn, 1) := by decide +kernel
theorem dX11_count_88 : decode cX11_count 88 = .ok (.aload_n 0, 1) := by decide +kernel
theorem dX11_count_89 : decode cX11_count 89 = .ok (.getfield 46, 3) := by decide +kernel
theorem dX11_count_92 : decode cX11_count 92 = .ok (.invokevirtual 390, 3) := by decide +kernel
theorem dX11_count_95 : decode cX11_count 95 = .ok (.ireturn, 1) := by decide +kernel
theorem dX11_count_96 : decode cX11_count 96 = .ok (.aload_n 0, 1) := by decide +kernel
theorem dX11_count_97 : decode cX11_count 97 = .ok (.getfield 46, 3) := by decide +kernel
theorem dX11_count_100 : decode cX11_count 100 = .ok (.aload_n 0, 1) := by decide +kernel
theorem dX11_count_101 : decode cX11_count 101 = .ok (.getfield 46, 3) := by decide +kernel
theorem dX11_count_104 : decode cX11_count 104 = .ok (.ldc_w 393, 3) := by decide +kernel
theorem dX11_count_107 : decode cX11_count 107 = .ok (.invokevirtual 213, 3) := by decide +kernel
theorem dX11_count_110 : decode cX11_count 110 = .ok (.invokevirtual 222, 3) := by decide +kernel
theorem dX11_count_113 : decode cX11_count 113 = .ok (.ireturn, 1) := by decide +kernel
theorem dX11_count_114 : decode cX11_count 114 = .ok (.aload_n 0, 1) := by decide +kernel
theorem dX11_count_115 : decode cX11_count 115 = .ok (.getfield 19, 3) := by decide +kernel
theorem dX11_count_118 : decode cX11_count 118 = .ok (.getfield 135, 3) := by decide +kernel
theorem dX11_count_121 : decode cX11_count 121 = .ok (.ireturn, 1) := by decide +kernel
theorem dX11_count_122 : decode cX11_count 122 = .ok (.aload_n 0, 1) := by decide +kernel
theorem dX11_count_123 : decode cX11_count 123 = .ok (.getfield 46, 3) := by decide +kernel
theorem dX11_count_126 : decode cX11_count 126 = .ok (.getfield 394, 3) := by decide +kernel
theorem dX11_count_129 : decode cX11_count 129 = .ok (.ireturn, 1) := by decide +kernel
theorem dX11_count_130 : decode cX11_count 130 = .ok (.aload_n 0, 1) := by decide +kernel
theorem dX11_count_131 : decode cX11_count 131 = .ok (.getfield 351, 3) := by decide +kernel
theorem dX11_count_134 : decode cX11_count 134 = .ok (.ireturn, 1) := by decide +kernel
theorem dX11_count_135 : decode cX11_count 135 = .ok (.aload_n 0, 1) := by decide +kernel
theorem dX11_count_136 : decode cX11_count 136 = .ok (.invokevirtual 395, 3) := by decide +kernel
theorem dX11_count_139 : decode cX11_count 139 = .ok (.ireturn, 1) := by decide +kernel
theorem dX11_count_140 : decode cX11_count 140 = .ok (.aload_n 0, 1) := by decide +kernel
theorem dX11_count_141 : decode cX11_count 141 = .ok (.getfield 46, 3) := by decide +kernel
theorem dX11_count_144 : decode cX11_count 144 = .ok (.getfield 398, 3) := by decide +kernel
theorem dX11_count_147 : decode cX11_count 147 = .ok (.ireturn, 1) := by decide +kernel
theorem dX11_count_148 : decode cX11_count 148 = .ok (.aload_n 0, 1) := by decide +kernel
theorem dX11_count_149 : decode cX11_count 149 = .ok (.getfield 37, 3) := by decide +kernel
theorem dX11_count_152 : decode cX11_count 152 = .ok (.getfield 108, 3) := by decide +kernel
theorem dX11_count_155 : decode cX11_count 155 = .ok (.ireturn, 1) := by decide +kernel
theorem dX11_count_156 : decode cX11_count 156 = .ok (.aload_n 0, 1) := by decide +kernel
theorem dX11_count_157 : decode cX11_count 157 = .ok (.getfield 10, 3) := by decide +kernel
theorem dX11_count_160 : decode cX11_count 160 = .ok (.getfield 119, 3) := by decide +kernel
theorem dX11_count_163 : decode cX11_count 163 = .ok (.ireturn, 1) := by decide +kernel
theorem dX11_count_164 : decode cX11_count 164 = .ok (.aload_n 0, 1) := by decide +kernel
theorem dX11_count_165 : decode cX11_count 165 = .ok (.getfield 82, 3) := by decide +kernel
theorem dX11_count_168 : decode cX11_count 168 = .ok (.iconst 0, 1) := by decide +kernel
theorem dX11_count_169 : decode cX11_count 169 = .ok (.aaload, 1) := by decide +kernel
theorem dX11_count_170 : decode cX11_count 170 = .ok (.getfield 369, 3) := by decide +kernel
theorem dX11_count_173 : decode cX11_count 173 = .ok (.ifCond .eq 15, 3) := by decide +kernel
theorem dX11_count_176 : decode cX11_count 176 = .ok (.aload_n 0, 1) := by decide +kernel
theorem dX11_count_177 : decode cX11_count 177 = .ok (.getfield 82, 3) := by decide +kernel
theorem dX11_count_180 : decode cX11_count 180 = .ok (.iconst 0, 1) := by decide +kernel
theorem dX11_count_181 : decode cX11_count 181 = .ok (.aaload, 1) := by decide +kernel
theorem dX11_count_182 : decode cX11_count 182 = .ok (.getfield 401, 3) := by decide +kernel
theorem dX11_count_185 : decode cX11_count 185 = .ok (.goto 5, 3) := by decide +kernel
theorem dX11_count_188 : decode cX11_count 188 = .ok (.bipush (-4), 2) := by decide +kernel
theorem dX11_count_190 : decode cX11_count 190 = .ok (.ireturn, 1) := by decide +kernel
theorem dX11_count_191 : decode cX11_count 191 = .ok (.iconst (-1), 1) := by decide +kernel
theorem dX11_count_192 : decode cX11_count 192 = .ok (.ireturn, 1) := by decide +kernel
set_option maxRecDepth 100000 in
set_option maxHeartbeats 4000000 in
theorem c_X11_count (X : XE) (p1 : Int) (hp1 : inR p1) {σ : Mem} {Q : Int → Mem → Prop} (h : v_X11_count p1 σ Q) : CT X yX11_count cX11_count 2 (some .int) rm_X11_count 1 [.ref (xad X 0), vI p1] σ Q := by
  refine ct_of (own := RX11) (L := [(0, .ref (xad X 0)), (1, vI p1)]) rfl rfl (Nat.le_of_ble_eq_true rfl) rfl ?_
  refine ok_iload_n 1 (pc := 0) dX11_count_0 rfl rfl ?_
  by_cases q1 : p1 = 0
  · have h := iteT h q1
    refine ok_tin (tgt := 64) (pc := 1) dX11_count_1 hp1 (by omega) (by omega) (by first | (rw [q1]; done) | (rw [q1]; rfl)) rfl ?_
    refine ok_aload_n 0 (pc := 64) dX11_count_64 rfl rfl ?_
    refine ok_getR (pc := 65) dX11_count_65 fl_X11_46 sh_0 (Nat.le_of_ble_eq_true rfl) rfl rfl ?_
    refine ok_wf (fun hw2 => ?_)
    refine ok_getI (pc := 68) dX11_count_68 fl_X11_385 sh_16 (Nat.le_of_ble_eq_true rfl) rfl rfl ?_
    exact ok_iret (pc := 71) dX11_count_71 rfl rfl rfl (hw2 _ _) h
  · have h := iteF h q1
    by_cases q3 : p1 = 1
    · have h := iteT h q3
      refine ok_tin (tgt := 72) (pc := 1) dX11_count_1 hp1 (by omega) (by omega) (by first | (rw [q3]; done) | (rw [q3]; rfl)) rfl ?_
      refine ok_aload_n 0 (pc := 72) dX11_count_72 rfl rfl ?_
      refine ok_getR (pc := 73) dX11_count_73 fl_X11_46 sh_0 (Nat.le_of_ble_eq_true rfl) rfl rfl ?_
      refine ok_wf (fun hw4 => ?_)
      refine ok_getI (pc := 76) dX11_count_76 fl_X11_385 sh_16 (Nat.le_of_ble_eq_true rfl) rfl rfl ?_
      refine ok_aload_n 0 (pc := 79) dX11_count_79 rfl rfl ?_
      refine ok_getR (pc := 80) dX11_count_80 fl_X11_46 sh_0 (Nat.le_of_ble_eq_true rfl) rfl rfl ?_
      refine ok_callVi (As := []) (rest := [vI (σ 16 2)]) (rm := rm_X0_kept) (pc := 83) dX11_count_83 me_X0_kept ml_X11_276 (ci := 0) rfl sh_16 (Nat.le_of_ble_eq_true rfl) rfl des_X0_kept rfl ⟨rfl, rfl, rfl, rfl⟩ rfl rfl (c_X0_kept X h) (fun r6 σ7 h5 h => ?_)
      refine ok_isub (pc := 86) dX11_count_86 ?_
      obtain ⟨h8, h⟩ := h
      exact ok_iret (pc := 87) dX11_count_87 rfl rfl rfl h8 h
    · have h := iteF h q3
      by_cases q9 : p1 = 2
      · have h := iteT h q9
        refine ok_tin (tgt := 88) (pc := 1) dX11_count_1 hp1 (by omega) (by omega) (by first | (rw [q9]; done) | (rw [q9]; rfl)) rfl ?_
        refine ok_aload_n 0 (pc := 88) dX11_count_88 rfl rfl ?_
        refine ok_getR (pc := 89) dX11_count_89 fl_X11_46 sh_0 (Nat.le_of_ble_eq_true rfl) rfl rfl ?_
        refine ok_callVi (As := []) (rest := []) (rm := rm_X0_due) (pc := 92) dX11_count_92 me_X0_due ml_X11_390 (ci := 0) rfl sh_16 (Nat.le_of_ble_eq_true rfl) rfl des_X0_due rfl ⟨rfl, rfl, rfl, rfl⟩ rfl rfl (c_X0_due X h) (fun r11 σ12 h10 h => ?_)
        exact ok_iret (pc := 95) dX11_count_95 rfl rfl rfl h10 h
      · have h := iteF h q9
        by_cases q13 : p1 = 3
        · have h := iteT h q13
          refine ok_tin (tgt := 96) (pc := 1) dX11_count_1 hp1 (by omega) (by omega) (by first | (rw [q13]; done) | (rw [q13]; rfl)) rfl ?_
          refine ok_aload_n 0 (pc := 96) dX11_count_96 rfl rfl ?_
          refine ok_getR (pc := 97) dX11_count_97 fl_X11_46 sh_0 (Nat.le_of_ble_eq_true rfl) rfl rfl ?_
          refine ok_aload_n 0 (pc := 100) dX11_count_100 rfl rfl ?_
          refine ok_getR (pc := 101) dX11_count_101 fl_X11_46 sh_0 (Nat.le_of_ble_eq_true rfl) rfl rfl ?_
          refine ok_ldcw (pc := 104) dX11_count_104 cn_X11_393 ?_
          refine ok_callVi (As := [vI 134217727]) (rest := [.ref (xad X 16)]) (rm := rm_X0_filedIn) (pc := 107) dX11_count_107 me_X0_filedIn ml_X11_213 (ci := 0) rfl sh_16 (Nat.le_of_ble_eq_true rfl) rfl des_X0_filedIn rfl ⟨rfl, rfl, rfl, rfl⟩ rfl rfl (c_X0_filedIn X 134217727 (r_lit rfl) h) (fun r15 σ16 h14 h => ?_)
          refine ok_callVi (As := [vI r15]) (rest := []) (rm := rm_X0_elsewhere) (pc := 110) dX11_count_110 me_X0_elsewhere ml_X11_222 (ci := 0) rfl sh_16 (Nat.le_of_ble_eq_true rfl) rfl des_X0_elsewhere rfl ⟨rfl, rfl, rfl, rfl⟩ rfl rfl (c_X0_elsewhere X r15 h14 h) (fun r18 σ19 h17 h => ?_)
          exact ok_iret (pc := 113) dX11_count_113 rfl rfl rfl h17 h
        · have h := iteF h q13
          by_cases q20 : p1 = 4
          · have h := iteT h q20
            refine ok_tin (tgt := 114) (pc := 1) dX11_count_1 hp1 (by omega) (by omega) (by first | (rw [q20]; done) | (rw [q20]; rfl)) rfl ?_
            refine ok_aload_n 0 (pc := 114) dX11_count_114 rfl rfl ?_
            refine ok_getR (pc := 115) dX11_count_115 fl_X11_19 sh_0 (Nat.le_of_ble_eq_true rfl) rfl rfl ?_
            refine ok_wf (fun hw21 => ?_)
            refine ok_getI (pc := 118) dX11_count_118 fl_X11_135 sh_3 (Nat.le_of_ble_eq_true rfl) rfl rfl ?_
            exact ok_iret (pc := 121) dX11_count_121 rfl rfl rfl (hw21 _ _) h
          · have h := iteF h q20
            by_cases q22 : p1 = 5
            · have h := iteT h q22
              refine ok_tin (tgt := 122) (pc := 1) dX11_count_1 hp1 (by omega) (by omega) (by first | (rw [q22]; done) | (rw [q22]; rfl)) rfl ?_
              refine ok_aload_n 0 (pc := 122) dX11_count_122 rfl rfl ?_
              refine ok_getR (pc := 123) dX11_count_123 fl_X11_46 sh_0 (Nat.le_of_ble_eq_true rfl) rfl rfl ?_
              refine ok_wf (fun hw23 => ?_)
              refine ok_getI (pc := 126) dX11_count_126 fl_X11_394 sh_16 (Nat.le_of_ble_eq_true rfl) rfl rfl ?_
              exact ok_iret (pc := 129) dX11_count_129 rfl rfl rfl (hw23 _ _) h
            · have h := iteF h q22
              by_cases q24 : p1 = 6
              · have h := iteT h q24
                refine ok_tin (tgt := 130) (pc := 1) dX11_count_1 hp1 (by omega) (by omega) (by first | (rw [q24]; done) | (rw [q24]; rfl)) rfl ?_
                refine ok_aload_n 0 (pc := 130) dX11_count_130 rfl rfl ?_
                refine ok_wf (fun hw25 => ?_)
                refine ok_getI (pc := 131) dX11_count_131 fl_X11_351 sh_0 (Nat.le_of_ble_eq_true rfl) rfl rfl ?_
                exact ok_iret (pc := 134) dX11_count_134 rfl rfl rfl (hw25 _ _) h
              · have h := iteF h q24
                by_cases q26 : p1 = 7
                · have h := iteT h q26
                  refine ok_tin (tgt := 135) (pc := 1) dX11_count_1 hp1 (by omega) (by omega) (by first | (rw [q26]; done) | (rw [q26]; rfl)) rfl ?_
                  refine ok_aload_n 0 (pc := 135) dX11_count_135 rfl rfl ?_
                  refine ok_callVi (As := []) (rest := []) (rm := rm_X11_wrongHolds) (pc := 136) dX11_count_136 me_X11_wrongHolds ml_X11_395 (ci := 11) rfl sh_0 (Nat.le_of_ble_eq_true rfl) rfl des_X11_wrongHolds rfl ⟨rfl, rfl, rfl, rfl⟩ rfl rfl (c_X11_wrongHolds X h) (fun r28 σ29 h27 h => ?_)
                  exact ok_iret (pc := 139) dX11_count_139 rfl rfl rfl h27 h
                · have h := iteF h q26
                  by_cases q30 : p1 = 8
                  · have h := iteT h q30
                    refine ok_tin (tgt := 140) (pc := 1) dX11_count_1 hp1 (by omega) (by omega) (by first | (rw [q30]; done) | (rw [q30]; rfl)) rfl ?_
                    refine ok_aload_n 0 (pc := 140) dX11_count_140 rfl rfl ?_
                    refine ok_getR (pc := 141) dX11_count_141 fl_X11_46 sh_0 (Nat.le_of_ble_eq_true rfl) rfl rfl ?_
                    refine ok_wf (fun hw31 => ?_)
                    refine ok_getI (pc := 144) dX11_count_144 fl_X11_398 sh_16 (Nat.le_of_ble_eq_true rfl) rfl rfl ?_
                    exact ok_iret (pc := 147) dX11_count_147 rfl rfl rfl (hw31 _ _) h
                  · have h := iteF h q30
                    by_cases q32 : p1 = 9
                    · have h := iteT h q32
                      refine ok_tin (tgt := 148) (pc := 1) dX11_count_1 hp1 (by omega) (by omega) (by first | (rw [q32]; done) | (rw [q32]; rfl)) rfl ?_
                      refine ok_aload_n 0 (pc := 148) dX11_count_148 rfl rfl ?_
                      refine ok_getR (pc := 149) dX11_count_149 fl_X11_37 sh_0 (Nat.le_of_ble_eq_true rfl) rfl rfl ?_
                      refine ok_wf (fun hw33 => ?_)
                      refine ok_getI (pc := 152) dX11_count_152 fl_X11_108 sh_14 (Nat.le_of_ble_eq_true rfl) rfl rfl ?_
                      exact ok_iret (pc := 155) dX11_count_155 rfl rfl rfl (hw33 _ _) h
                    · have h := iteF h q32
                      by_cases q34 : p1 = 10
                      · have h := iteT h q34
                        refine ok_tin (tgt := 156) (pc := 1) dX11_count_1 hp1 (by omega) (by omega) (by first | (rw [q34]; done) | (rw [q34]; rfl)) rfl ?_
                        refine ok_aload_n 0 (pc := 156) dX11_count_156 rfl rfl ?_
                        refine ok_getR (pc := 157) dX11_count_157 fl_X11_10 sh_0 (Nat.le_of_ble_eq_true rfl) rfl rfl ?_
                        refine ok_wf (fun hw35 => ?_)
                        refine ok_getI (pc := 160) dX11_count_160 fl_X11_119 sh_1 (Nat.le_of_ble_eq_true rfl) rfl rfl ?_
                        exact ok_iret (pc := 163) dX11_count_163 rfl rfl rfl (hw35 _ _) h
                      · have h := iteF h q34
                        by_cases q36 : p1 = 11
                        · have h := iteT h q36
                          refine ok_tin (tgt := 164) (pc := 1) dX11_count_1 hp1 (by omega) (by omega) (by first | (rw [q36]; done) | (rw [q36]; rfl)) rfl ?_
                          refine ok_aload_n 0 (pc := 164) dX11_count_164 rfl rfl ?_
                          refine ok_getR (pc := 165) dX11_count_165 fl_X11_82 sh_0 (Nat.le_of_ble_eq_true rfl) rfl rfl ?_
                          refine ok_iconst (pc := 168) dX11_count_168 ?_
                          refine ok_sheets (pc := 169) dX11_count_169 (by decide) (by decide) ?_
                          have hc37 : (0 : Int).toNat < 4 := by omega
                          refine ok_wf (fun hw38 => ?_)
                          refine ok_getI (pc := 170) dX11_count_170 fl_X11_369 (sh_sheet ((0 : Int).toNat) hc37) (lt_sheet hc37).1 rfl rfl ?_
                          refine ok_if_eq (tgt := 188) (pc := 173) dX11_count_173 rfl (hw38 _ _) (fun q39 => ?_) (fun q39 => ?_)
                          · have h := iteT h q39
                            refine ok_bipush (pc := 188) dX11_count_188 rfl ?_
                            exact ok_iret (pc := 190) dX11_count_190 rfl rfl rfl (r_lit rfl) h
                          · have h := iteF h q39
                            refine ok_aload_n 0 (pc := 176) dX11_count_176 rfl rfl ?_
                            refine ok_getR (pc := 177) dX11_count_177 fl_X11_82 sh_0 (Nat.le_of_ble_eq_true rfl) rfl rfl ?_
                            refine ok_iconst (pc := 180) dX11_count_180 ?_
                            refine ok_sheets (pc := 181) dX11_count_181 (by decide) (by decide) ?_
                            have hc40 : (0 : Int).toNat < 4 := by omega
                            refine ok_getI (pc := 182) dX11_count_182 fl_X11_401 (sh_sheet ((0 : Int).toNat) hc40) (lt_sheet hc40).1 rfl rfl ?_
                            refine ok_goto (tgt := 190) (pc := 185) dX11_count_185 rfl ?_
                            exact ok_iret (pc := 190) dX11_count_190 rfl rfl rfl (hw38 _ _) h
                        · have h := iteF h q36
                          refine ok_tout (tgt := 191) (pc := 1) dX11_count_1 hp1 (by omega) rfl ?_
                          refine ok_iconst (pc := 191) dX11_count_191 ?_
                          exact ok_iret (pc := 192) dX11_count_192 rfl rfl rfl (r_lit rfl) h
theorem dX12_in_0 : decode cX12_in 0 = .ok (.lload_n 0, 1) := by decide +kernel
theorem dX12_in_1 : decode cX12_in 1 = .ok (.lload_n 2, 1) := by decide +kernel
theorem dX12_in_2 : decode cX12_in 2 = .ok (.lcmp, 1) := by decide +kernel
theorem dX12_in_3 : decode cX12_in 3 = .ok (.ifCond .lt 14, 3) := by decide +kernel
theorem dX12_in_6 : decode cX12_in 6 = .ok (.lload_n 0, 1) := by decide +kernel
theorem dX12_in_7 : decode cX12_in 7 = .ok (.lload 4, 2) := by decide +kernel
theorem dX12_in_9 : decode cX12_in 9 = .ok (.lcmp, 1) := by decide +kernel
theorem dX12_in_10 : decode cX12_in 10 = .ok (.ifCond .gt 7, 3) := by decide +kernel
theorem dX12_in_13 : decode cX12_in 13 = .ok (.iconst 1, 1) := by decide +kernel
theorem dX12_in_14 : decode cX12_in 14 = .ok (.goto 4, 3) := by decide +kernel
theorem dX12_in_17 : decode cX12_in 17 = .ok (.iconst 0, 1) := by decide +kernel
theorem dX12_in_18 : decode cX12_in 18 = .ok (.ireturn, 1) := by decide +kernel
set_option maxRecDepth 100000 in
set_option maxHeartbeats 4000000 in
theorem c_X12_in (X : XE) (p0 : Int) (p2 : Int) (p4 : Int) (hp0 : inL p0) (hp2 : inL p2) (hp4 : inL p4) {σ : Mem} {Q : Int → Mem → Prop} (h : v_X12_in p0 p2 p4 σ Q) : CT X yX12_in cX12_in 6 (some .boolean) rm_X12_in 1 [vL p0, vL p2, vL p4] σ Q := by
  refine ct_of (own := RX12) (L := [(0, vL p0), (2, vL p2), (4, vL p4)]) rfl rfl (Nat.le_of_ble_eq_true rfl) rfl ?_
  refine ok_lload_n 0 (pc := 0) dX12_in_0 rfl rfl ?_
  refine ok_lload_n 1 (pc := 1) dX12_in_1 rfl rfl ?_
  refine ok_lcmp (pc := 2) dX12_in_2 hp0 hp2 ?_
  refine ok_if_lt (tgt := 17) (pc := 3) dX12_in_3 rfl r_lcmp (fun q1 => ?_) (fun q1 => ?_)
  · have h := iteT h q1
    refine ok_iconst (pc := 17) dX12_in_17 ?_
    exact ok_iret (pc := 18) dX12_in_18 rfl rfl (nr_z (Or.inl rfl)) (r_lit rfl) h
  · have h := iteF h q1
    refine ok_lload_n 0 (pc := 6) dX12_in_6 rfl rfl ?_
    refine ok_lload 2 (pc := 7) dX12_in_7 rfl ?_
    refine ok_lcmp (pc := 9) dX12_in_9 hp0 hp4 ?_
    refine ok_if_gt (tgt := 17) (pc := 10) dX12_in_10 rfl r_lcmp (fun q2 => ?_) (fun q2 => ?_)
    · have h := iteT h q2
      refine ok_iconst (pc := 17) dX12_in_17 ?_
      exact ok_iret (pc := 18) dX12_in_18 rfl rfl (nr_z (Or.inl rfl)) (r_lit rfl) h
    · have h := iteF h q2
      refine ok_iconst (pc := 13) dX12_in_13 ?_
      refine ok_goto (tgt := 18) (pc := 14) dX12_in_14 rfl ?_
      exact ok_iret (pc := 18) dX12_in_18 rfl rfl (nr_z (Or.inr rfl)) (r_lit rfl) h
theorem dX12_day_0 : decode cX12_day 0 = .ok (.iload_n 1, 1) := by decide +kernel
theorem dX12_day_1 : decode cX12_day 1 = .ok (.i2l, 1) := by decide +kernel
theorem dX12_day_2 : decode cX12_day 2 = .ok (.aload_n 0, 1) := by decide +kernel
theorem dX12_day_3 : decode cX12_day 3 = .ok (.getfield 132, 3) := by decide +kernel
theorem dX12_day_6 : decode cX12_day 6 = .ok (.i2l, 1) := by decide +kernel
theorem dX12_day_7 : decode cX12_day 7 = .ok (.ldc2_w 135, 3) := by decide +kernel
theorem dX12_day_10 : decode cX12_day 10 = .ok (.invokestatic 137, 3) := by decide +kernel
theorem dX12_day_13 : decode cX12_day 13 = .ok (.ifCond .ne 5, 3) := by decide +kernel
theorem dX12_day_16 : decode cX12_day 16 = .ok (.iconst (-1), 1) := by decide +kernel
theorem dX12_day_17 : decode cX12_day 17 = .ok (.ireturn, 1) := by decide +kernel
theorem dX12_day_18 : decode cX12_day 18 = .ok (.aload_n 0, 1) := by decide +kernel
theorem dX12_day_19 : decode cX12_day 19 = .ok (.getfield 132, 3) := by decide +kernel
theorem dX12_day_22 : decode cX12_day 22 = .ok (.istore_n 2, 1) := by decide +kernel
theorem dX12_day_23 : decode cX12_day 23 = .ok (.aload_n 0, 1) := by decide +kernel
theorem dX12_day_24 : decode cX12_day 24 = .ok (.iload_n 1, 1) := by decide +kernel
theorem dX12_day_25 : decode cX12_day 25 = .ok (.putfield 132, 3) := by decide +kernel
theorem dX12_day_28 : decode cX12_day 28 = .ok (.iload_n 2, 1) := by decide +kernel
theorem dX12_day_29 : decode cX12_day 29 = .ok (.ireturn, 1) := by decide +kernel
set_option maxRecDepth 100000 in
set_option maxHeartbeats 4000000 in
theorem c_X12_day (X : XE) (p1 : Int) (hp1 : inR p1) {σ : Mem} {Q : Int → Mem → Prop} (h : v_X12_day p1 σ Q) : CT X yX12_day cX12_day 3 (some .int) rm_X12_day 1 [.ref (xad X 122), vI p1] σ Q := by
  refine ct_of (own := RX12) (L := [(0, .ref (xad X 122)), (1, vI p1)]) rfl rfl (Nat.le_of_ble_eq_true rfl) rfl ?_
  refine ok_iload_n 1 (pc := 0) dX12_day_0 rfl rfl ?_
  refine ok_i2l (pc := 1) dX12_day_1 hp1 ?_
  refine ok_aload_n 0 (pc := 2) dX12_day_2 rfl rfl ?_
  refine ok_wf (fun hw1 => ?_)
  refine ok_getI (pc := 3) dX12_day_3 fl_X12_132 sh_122 (Nat.le_of_ble_eq_true rfl) rfl rfl ?_
  refine ok_i2l (pc := 6) dX12_day_6 (hw1 _ _) ?_
  refine ok_ldc2 (pc := 7) dX12_day_7 cn_X12_135 ?_
  refine ok_callSi (As := [vL p1, vL (σ 122 0), vL 9999]) (rest := []) (rm := rm_X12_in) (pc := 10) dX12_day_10 me_X12_in ml_X12_137 des_X12_in rfl ⟨rfl, rfl, rfl, rfl⟩ rfl rfl (c_X12_in X p1 (σ 122 0) 9999 (l_of_r hp1) (l_of_r (hw1 _ _)) (l_of_r (r_lit rfl)) h) (fun r3 σ4 h2 h => ?_)
  refine ok_if_ne (tgt := 18) (pc := 13) dX12_day_13 rfl h2 (fun q5 => ?_) (fun q5 => ?_)
  · have h := iteF h q5
    refine ok_aload_n 0 (pc := 18) dX12_day_18 rfl rfl ?_
    refine ok_wf (fun hw6 => ?_)
    refine ok_getI (pc := 19) dX12_day_19 fl_X12_132 sh_122 (Nat.le_of_ble_eq_true rfl) rfl rfl ?_
    refine ok_istore_n (L' := [(2, vI (σ4 122 0)), (0, .ref (xad X 122)), (1, vI p1)]) (pc := 22) dX12_day_22 rfl rfl rfl ?_
    refine ok_aload_n 1 (pc := 23) dX12_day_23 rfl rfl ?_
    refine ok_iload_n 2 (pc := 24) dX12_day_24 rfl rfl ?_
    refine ok_putI (pc := 25) dX12_day_25 fl_X12_132 fp_X12_0 sh_122 (Nat.le_of_ble_eq_true rfl) rfl rfl hp1 rfl rfl ?_
    refine ok_iload_n 0 (pc := 28) dX12_day_28 rfl rfl ?_
    exact ok_iret (pc := 29) dX12_day_29 rfl rfl rfl (hw6 _ _) h
  · have h := iteT h q5
    refine ok_iconst (pc := 16) dX12_day_16 ?_
    exact ok_iret (pc := 17) dX12_day_17 rfl rfl rfl (r_lit rfl) h
theorem dX12_feed_0 : decode cX12_feed 0 = .ok (.aload_n 0, 1) := by decide +kernel
theorem dX12_feed_1 : decode cX12_feed 1 = .ok (.getfield 141, 3) := by decide +kernel
theorem dX12_feed_4 : decode cX12_feed 4 = .ok (.bipush 8, 2) := by decide +kernel
theorem dX12_feed_6 : decode cX12_feed 6 = .ok (.iadd, 1) := by decide +kernel
theorem dX12_feed_7 : decode cX12_feed 7 = .ok (.sipush 240, 3) := by decide +kernel
theorem dX12_feed_10 : decode cX12_feed 10 = .ok (.if_icmp .le 6, 3) := by decide +kernel
theorem dX12_feed_13 : decode cX12_feed 13 = .ok (.bipush (-3), 2) := by decide +kernel
theorem dX12_feed_15 : decode cX12_feed 15 = .ok (.ireturn, 1) := by decide +kernel
theorem dX12_feed_16 : decode cX12_feed 16 = .ok (.bipush 56, 2) := by decide +kernel
theorem dX12_feed_18 : decode cX12_feed 18 = .ok (.istore_n 3, 1) := by decide +kernel
theorem dX12_feed_19 : decode cX12_feed 19 = .ok (.iload_n 3, 1) := by decide +kernel
theorem dX12_feed_20 : decode cX12_feed 20 = .ok (.ifCond .lt 36, 3) := by decide +kernel
theorem dX12_feed_23 : decode cX12_feed 23 = .ok (.aload_n 0, 1) := by decide +kernel
theorem dX12_feed_24 : decode cX12_feed 24 = .ok (.getfield 7, 3) := by decide +kernel
theorem dX12_feed_27 : decode cX12_feed 27 = .ok (.aload_n 0, 1) := by decide +kernel
theorem dX12_feed_28 : decode cX12_feed 28 = .ok (.getfield 141, 3) := by decide +kernel
theorem dX12_feed_31 : decode cX12_feed 31 = .ok (.lload_n 1, 1) := by decide +kernel
theorem dX12_feed_32 : decode cX12_feed 32 = .ok (.iload_n 3, 1) := by decide +kernel
theorem dX12_feed_33 : decode cX12_feed 33 = .ok (.lshr, 1) := by decide +kernel
theorem dX12_feed_34 : decode cX12_feed 34 = .ok (.l2i, 1) := by decide +kernel
theorem dX12_feed_35 : decode cX12_feed 35 = .ok (.sipush 255, 3) := by decide +kernel
theorem dX12_feed_38 : decode cX12_feed 38 = .ok (.iand, 1) := by decide +kernel
theorem dX12_feed_39 : decode cX12_feed 39 = .ok (.iastore, 1) := by decide +kernel
theorem dX12_feed_40 : decode cX12_feed 40 = .ok (.aload_n 0, 1) := by decide +kernel
theorem dX12_feed_41 : decode cX12_feed 41 = .ok (.dup, 1) := by decide +kernel
theorem dX12_feed_42 : decode cX12_feed 42 = .ok (.getfield 141, 3) := by decide +kernel
theorem dX12_feed_45 : decode cX12_feed 45 = .ok (.iconst 1, 1) := by decide +kernel
theorem dX12_feed_46 : decode cX12_feed 46 = .ok (.iadd, 1) := by decide +kernel
theorem dX12_feed_47 : decode cX12_feed 47 = .ok (.putfield 141, 3) := by decide +kernel
theorem dX12_feed_50 : decode cX12_feed 50 = .ok (.iinc 3 (-8), 3) := by decide +kernel
theorem dX12_feed_53 : decode cX12_feed 53 = .ok (.goto (-34), 3) := by decide +kernel
theorem dX12_feed_56 : decode cX12_feed 56 = .ok (.aload_n 0, 1) := by decide +kernel
theorem dX12_feed_57 : decode cX12_feed 57 = .ok (.getfield 141, 3) := by decide +kernel
theorem dX12_feed_60 : decode cX12_feed 60 = .ok (.ireturn, 1) := by decide +kernel
set_option maxRecDepth 100000 in
set_option maxHeartbeats 4000000 in
theorem w_X12_feed_19 (X : XE) (p1 : Int) (hp1 : inL p1) {Q : Int → Mem → Prop} : ∀ (n : Nat) (x3 : Int) (σ : Mem), inR x3 → l_X12_feed_19 p1 Q n x3 σ → ok X rm_X12_feed RX12 cX12_feed 4 (some .int) 1 Q 19 [(0, .ref (xad X 122)), (1, vL p1), (3, vI x3)] [] σ := by
  intro n
  induction n with
  | zero => intro x3 σ hx3 h; exact False.elim h
  | succ n ih =>
    intro x3 σ hx3 h
    refine ok_iload_n 2 (pc := 19) dX12_feed_19 rfl rfl ?_
    refine ok_if_lt (tgt := 56) (pc := 20) dX12_feed_20 rfl hx3 (fun q1 => ?_) (fun q1 => ?_)
    · have h := iteT h q1
      refine ok_aload_n 0 (pc := 56) dX12_feed_56 rfl rfl ?_
      refine ok_wf (fun hw2 => ?_)
      refine ok_getI (pc := 57) dX12_feed_57 fl_X12_141 sh_122 (Nat.le_of_ble_eq_true rfl) rfl rfl ?_
      exact ok_iret (pc := 60) dX12_feed_60 rfl rfl rfl (hw2 _ _) h
    · have h := iteF h q1
      refine ok_aload_n 0 (pc := 23) dX12_feed_23 rfl rfl ?_
      refine ok_getR (pc := 24) dX12_feed_24 fl_X12_7 sh_122 (Nat.le_of_ble_eq_true rfl) rfl rfl ?_
      refine ok_aload_n 0 (pc := 27) dX12_feed_27 rfl rfl ?_
      refine ok_wf (fun hw3 => ?_)
      refine ok_getI (pc := 28) dX12_feed_28 fl_X12_141 sh_122 (Nat.le_of_ble_eq_true rfl) rfl rfl ?_
      refine ok_lload_n 1 (pc := 31) dX12_feed_31 rfl rfl ?_
      refine ok_iload_n 2 (pc := 32) dX12_feed_32 rfl rfl ?_
      refine ok_lshr (pc := 33) dX12_feed_33 ?_
      refine ok_l2i (pc := 34) dX12_feed_34 ?_
      refine ok_sipush (pc := 35) dX12_feed_35 rfl ?_
      refine ok_iand (pc := 38) dX12_feed_38 ?_
      obtain ⟨h4, h⟩ := h
      obtain ⟨h5, h⟩ := h
      refine ok_iast (pc := 39) dX12_feed_39 sh_123 (Nat.le_of_ble_eq_true rfl) rfl h4 h5 (q_rng _) ?_
      refine ok_aload_n 0 (pc := 40) dX12_feed_40 rfl rfl ?_
      refine ok_dup (pc := 41) dX12_feed_41 rfl ?_
      refine ok_wf (fun hw6 => ?_)
      refine ok_getI (pc := 42) dX12_feed_42 fl_X12_141 sh_122 (Nat.le_of_ble_eq_true rfl) rfl rfl ?_
      have e7 : ((mset σ 123 ((σ 122 2).toNat) (iand (l2iI (lshrI p1 x3)) 255)) 122 2) = (σ 122 2) := (mset_ne (by omega))
      refine ok_top e7 ?_
      refine ok_iconst (pc := 45) dX12_feed_45 ?_
      refine ok_iadd (pc := 46) dX12_feed_46 ?_
      obtain ⟨h9, h⟩ := h
      refine ok_putI (pc := 47) dX12_feed_47 fl_X12_141 fp_X12_2 sh_122 (Nat.le_of_ble_eq_true rfl) rfl rfl h9 rfl rfl ?_
      refine ok_iinc (L' := [(3, vI (x3 + (-8))), (0, .ref (xad X 122)), (1, vL p1)]) 2 (pc := 50) dX12_feed_50 rfl rfl rfl ?_
      refine ok_goto (tgt := 19) (pc := 53) dX12_feed_53 rfl ?_
      obtain ⟨h10, h⟩ := h
      refine ok_sub (L' := [(0, .ref (xad X 122)), (1, vL p1), (3, vI (x3 + (-8)))]) [1,2,0] rfl ?_
      exact ih (x3 + (-8)) (mset (mset σ 123 ((σ 122 2).toNat) (iand (l2iI (lshrI p1 x3)) 255)) 122 2 ((σ 122 2) + 1)) h10 h
set_option maxRecDepth 100000 in
set_option maxHeartbeats 4000000 in
theorem c_X12_feed (X : XE) (p1 : Int) (hp1 : inL p1) {σ : Mem} {Q : Int → Mem → Prop} (h : v_X12_feed p1 σ Q) : CT X yX12_feed cX12_feed 4 (some .int) rm_X12_feed 1 [.ref (xad X 122), vL p1] σ Q := by
  refine ct_of (own := RX12) (L := [(0, .ref (xad X 122)), (1, vL p1)]) rfl rfl (Nat.le_of_ble_eq_true rfl) rfl ?_
  refine ok_aload_n 0 (pc := 0) dX12_feed_0 rfl rfl ?_
  refine ok_wf (fun hw1 => ?_)
  refine ok_getI (pc := 1) dX12_feed_1 fl_X12_141 sh_122 (Nat.le_of_ble_eq_true rfl) rfl rfl ?_
  refine ok_bipush (pc := 4) dX12_feed_4 rfl ?_
  refine ok_iadd (pc := 6) dX12_feed_6 ?_
  refine ok_sipush (pc := 7) dX12_feed_7 rfl ?_
  obtain ⟨h2, h⟩ := h
  refine ok_icmp_le (tgt := 16) (pc := 10) dX12_feed_10 rfl h2 (r_lit rfl) (fun q3 => ?_) (fun q3 => ?_)
  · have h := iteF h q3
    refine ok_bipush (pc := 16) dX12_feed_16 rfl ?_
    refine ok_istore_n (L' := [(3, vI 56), (0, .ref (xad X 122)), (1, vL p1)]) (pc := 18) dX12_feed_18 rfl rfl rfl ?_
    refine ok_sub (L' := [(0, .ref (xad X 122)), (1, vL p1), (3, vI 56)]) [1,2,0] rfl ?_
    obtain ⟨n4, h⟩ := h
    exact w_X12_feed_19 X p1 hp1 n4 56 σ (r_lit rfl) h
  · have h := iteT h q3
    refine ok_bipush (pc := 13) dX12_feed_13 rfl ?_
    exact ok_iret (pc := 15) dX12_feed_15 rfl rfl rfl (r_lit rfl) h
theorem dX12_end_0 : decode cX12_end 0 = .ok (.iload_n 1, 1) := by decide +kernel
theorem dX12_end_1 : decode cX12_end 1 = .ok (.i2l, 1) := by decide +kernel
theorem dX12_end_2 : decode cX12_end 2 = .ok (.lconst 0, 1) := by decide +kernel
theorem dX12_end_3 : decode cX12_end 3 = .ok (.aload_n 0, 1) := by decide +kernel
theorem dX12_end_4 : decode cX12_end 4 = .ok (.getfield 141, 3) := by decide +kernel
theorem dX12_end_7 : decode cX12_end 7 = .ok (.i2l, 1) := by decide +kernel
theorem dX12_end_8 : decode cX12_end 8 = .ok (.invokestatic 137, 3) := by decide +kernel
theorem dX12_end_11 : decode cX12_end 11 = .ok (.ifCond .ne 5, 3) := by decide +kernel
theorem dX12_end_14 : decode cX12_end 14 = .ok (.iconst (-1), 1) := by decide +kernel
theorem dX12_end_15 : decode cX12_end 15 = .ok (.ireturn, 1) := by decide +kernel
theorem dX12_end_16 : decode cX12_end 16 = .ok (.aload_n 0, 1) := by decide +kernel
theorem dX12_end_17 : decode cX12_end 17 = .ok (.getfield 141, 3) := by decide +kernel
theorem dX12_end_20 : decode cX12_end 20 = .ok (.istore_n 2, 1) := by decide +kernel
theorem dX12_end_21 : decode cX12_end 21 = .ok (.aload_n 0, 1) := by decide +kernel
theorem dX12_end_22 : decode cX12_end 22 = .ok (.iload_n 1, 1) := by decide +kernel
theorem dX12_end_23 : decode cX12_end 23 = .ok (.putfield 141, 3) := by decide +kernel
theorem dX12_end_26 : decode cX12_end 26 = .ok (.iload_n 2, 1) := by decide +kernel
theorem dX12_end_27 : decode cX12_end 27 = .ok (.ireturn, 1) := by decide +kernel
set_option maxRecDepth 100000 in
set_option maxHeartbeats 4000000 in
theorem c_X12_end (X : XE) (p1 : Int) (hp1 : inR p1) {σ : Mem} {Q : Int → Mem → Prop} (h : v_X12_end p1 σ Q) : CT X yX12_end cX12_end 3 (some .int) rm_X12_end 1 [.ref (xad X 122), vI p1] σ Q := by
  refine ct_of (own := RX12) (L := [(0, .ref (xad X 122)), (1, vI p1)]) rfl rfl (Nat.le_of_ble_eq_true rfl) rfl ?_
  refine ok_iload_n 1 (pc := 0) dX12_end_0 rfl rfl ?_
  refine ok_i2l (pc := 1) dX12_end_1 hp1 ?_
  refine ok_lconst (v := 0) (pc := 2) dX12_end_2 rfl ?_
  refine ok_aload_n 0 (pc := 3) dX12_end_3 rfl rfl ?_
  refine ok_wf (fun hw1 => ?_)
  refine ok_getI (pc := 4) dX12_end_4 fl_X12_141 sh_122 (Nat.le_of_ble_eq_true rfl) rfl rfl ?_
  refine ok_i2l (pc := 7) dX12_end_7 (hw1 _ _) ?_
  refine ok_callSi (As := [vL p1, vL 0, vL (σ 122 2)]) (rest := []) (rm := rm_X12_in) (pc := 8) dX12_end_8 me_X12_in ml_X12_137 des_X12_in rfl ⟨rfl, rfl, rfl, rfl⟩ rfl rfl (c_X12_in X p1 0 (σ 122 2) (l_of_r hp1) (l_of_r (r_lit rfl)) (l_of_r (hw1 _ _)) h) (fun r3 σ4 h2 h => ?_)
  refine ok_if_ne (tgt := 16) (pc := 11) dX12_end_11 rfl h2 (fun q5 => ?_) (fun q5 => ?_)
  · have h := iteF h q5
    refine ok_aload_n 0 (pc := 16) dX12_end_16 rfl rfl ?_
    refine ok_wf (fun hw6 => ?_)
    refine ok_getI (pc := 17) dX12_end_17 fl_X12_141 sh_122 (Nat.le_of_ble_eq_true rfl) rfl rfl ?_
    refine ok_istore_n (L' := [(2, vI (σ4 122 2)), (0, .ref (xad X 122)), (1, vI p1)]) (pc := 20) dX12_end_20 rfl rfl rfl ?_
    refine ok_aload_n 1 (pc := 21) dX12_end_21 rfl rfl ?_
    refine ok_iload_n 2 (pc := 22) dX12_end_22 rfl rfl ?_
    refine ok_putI (pc := 23) dX12_end_23 fl_X12_141 fp_X12_2 sh_122 (Nat.le_of_ble_eq_true rfl) rfl rfl hp1 rfl rfl ?_
    refine ok_iload_n 0 (pc := 26) dX12_end_26 rfl rfl ?_
    exact ok_iret (pc := 27) dX12_end_27 rfl rfl rfl (hw6 _ _) h
  · have h := iteT h q5
    refine ok_iconst (pc := 14) dX12_end_14 ?_
    exact ok_iret (pc := 15) dX12_end_15 rfl rfl rfl (r_lit rfl) h
theorem dX12_byteAt_0 : decode cX12_byteAt 0 = .ok (.iload_n 1, 1) := by decide +kernel
theorem dX12_byteAt_1 : decode cX12_byteAt 1 = .ok (.aload_n 0, 1) := by decide +kernel
theorem dX12_byteAt_2 : decode cX12_byteAt 2 = .ok (.getfield 141, 3) := by decide +kernel
theorem dX12_byteAt_5 : decode cX12_byteAt 5 = .ok (.if_icmp .ge 12, 3) := by decide +kernel
theorem dX12_byteAt_8 : decode cX12_byteAt 8 = .ok (.aload_n 0, 1) := by decide +kernel
theorem dX12_byteAt_9 : decode cX12_byteAt 9 = .ok (.getfield 7, 3) := by decide +kernel
theorem dX12_byteAt_12 : decode cX12_byteAt 12 = .ok (.iload_n 1, 1) := by decide +kernel
theorem dX12_byteAt_13 : decode cX12_byteAt 13 = .ok (.iaload, 1) := by decide +kernel
theorem dX12_byteAt_14 : decode cX12_byteAt 14 = .ok (.goto 5, 3) := by decide +kernel
theorem dX12_byteAt_17 : decode cX12_byteAt 17 = .ok (.bipush (-4), 2) := by decide +kernel
theorem dX12_byteAt_19 : decode cX12_byteAt 19 = .ok (.ireturn, 1) := by decide +kernel
set_option maxRecDepth 100000 in
set_option maxHeartbeats 4000000 in
theorem c_X12_byteAt (X : XE) (p1 : Int) (hp1 : inR p1) {σ : Mem} {Q : Int → Mem → Prop} (h : v_X12_byteAt p1 σ Q) : CT X yX12_byteAt cX12_byteAt 2 (some .int) rm_X12_byteAt 1 [.ref (xad X 122), vI p1] σ Q := by
  refine ct_of (own := RX12) (L := [(0, .ref (xad X 122)), (1, vI p1)]) rfl rfl (Nat.le_of_ble_eq_true rfl) rfl ?_
  refine ok_iload_n 1 (pc := 0) dX12_byteAt_0 rfl rfl ?_
  refine ok_aload_n 0 (pc := 1) dX12_byteAt_1 rfl rfl ?_
  refine ok_wf (fun hw1 => ?_)
  refine ok_getI (pc := 2) dX12_byteAt_2 fl_X12_141 sh_122 (Nat.le_of_ble_eq_true rfl) rfl rfl ?_
  refine ok_icmp_ge (tgt := 17) (pc := 5) dX12_byteAt_5 rfl hp1 (hw1 _ _) (fun q2 => ?_) (fun q2 => ?_)
  · have h := iteF h q2
    refine ok_bipush (pc := 17) dX12_byteAt_17 rfl ?_
    exact ok_iret (pc := 19) dX12_byteAt_19 rfl rfl rfl (r_lit rfl) h
  · have h := iteT h q2
    refine ok_aload_n 0 (pc := 8) dX12_byteAt_8 rfl rfl ?_
    refine ok_getR (pc := 9) dX12_byteAt_9 fl_X12_7 sh_122 (Nat.le_of_ble_eq_true rfl) rfl rfl ?_
    refine ok_iload_n 1 (pc := 12) dX12_byteAt_12 rfl rfl ?_
    obtain ⟨h3, h⟩ := h
    obtain ⟨h4, h⟩ := h
    refine ok_iald (pc := 13) dX12_byteAt_13 sh_123 (Nat.le_of_ble_eq_true rfl) rfl h3 h4 ?_
    refine ok_goto (tgt := 19) (pc := 14) dX12_byteAt_14 rfl ?_
    exact ok_iret (pc := 19) dX12_byteAt_19 rfl rfl rfl (hw1 _ _) h
theorem dX12_fails_0 : decode cX12_fails 0 = .ok (.aload_n 0, 1) := by decide +kernel
theorem dX12_fails_1 : decode cX12_fails 1 = .ok (.getfield 144, 3) := by decide +kernel
theorem dX12_fails_4 : decode cX12_fails 4 = .ok (.ifCond .ne 16, 3) := by decide +kernel
theorem dX12_fails_7 : decode cX12_fails 7 = .ok (.aload_n 0, 1) := by decide +kernel
theorem dX12_fails_8 : decode cX12_fails 8 = .ok (.iload_n 1, 1) := by decide +kernel
theorem dX12_fails_9 : decode cX12_fails 9 = .ok (.putfield 144, 3) := by decide +kernel
theorem dX12_fails_12 : decode cX12_fails 12 = .ok (.aload_n 0, 1) := by decide +kernel
theorem dX12_fails_13 : decode cX12_fails 13 = .ok (.aload_n 0, 1) := by decide +kernel
theorem dX12_fails_14 : decode cX12_fails 14 = .ok (.getfield 147, 3) := by decide +kernel
theorem dX12_fails_17 : decode cX12_fails 17 = .ok (.putfield 150, 3) := by decide +kernel
theorem dX12_fails_20 : decode cX12_fails 20 = .ok (.return_, 1) := by decide +kernel
set_option maxRecDepth 100000 in
set_option maxHeartbeats 4000000 in
theorem c_X12_fails (X : XE) (p1 : Int) (hp1 : inR p1) {σ : Mem} {Q : Int → Mem → Prop} (h : v_X12_fails p1 σ Q) : CT X yX12_fails cX12_fails 2 none rm_X12_fails 0 [.ref (xad X 122), vI p1] σ Q := by
  refine ct_of (own := RX12) (L := [(0, .ref (xad X 122)), (1, vI p1)]) rfl rfl (Nat.le_of_ble_eq_true rfl) rfl ?_
  refine ok_aload_n 0 (pc := 0) dX12_fails_0 rfl rfl ?_
  refine ok_wf (fun hw1 => ?_)
  refine ok_getI (pc := 1) dX12_fails_1 fl_X12_144 sh_122 (Nat.le_of_ble_eq_true rfl) rfl rfl ?_
  refine ok_if_ne (tgt := 20) (pc := 4) dX12_fails_4 rfl (hw1 _ _) (fun q2 => ?_) (fun q2 => ?_)
  · have h := iteF h q2
    exact ok_vret (pc := 20) dX12_fails_20 rfl rfl h
  · have h := iteT h q2
    refine ok_aload_n 0 (pc := 7) dX12_fails_7 rfl rfl ?_
    refine ok_iload_n 1 (pc := 8) dX12_fails_8 rfl rfl ?_
    refine ok_putI (pc := 9) dX12_fails_9 fl_X12_144 fp_X12_4 sh_122 (Nat.le_of_ble_eq_true rfl) rfl rfl hp1 rfl rfl ?_
    refine ok_aload_n 0 (pc := 12) dX12_fails_12 rfl rfl ?_
    refine ok_aload_n 0 (pc := 13) dX12_fails_13 rfl rfl ?_
    refine ok_wf (fun hw3 => ?_)
    refine ok_getI (pc := 14) dX12_fails_14 fl_X12_147 sh_122 (Nat.le_of_ble_eq_true rfl) rfl rfl ?_
    have e4 : ((mset σ 122 4 p1) 122 7) = (σ 122 7) := (mset_nei (by omega))
    refine ok_top e4 ?_
    refine ok_putI (pc := 17) dX12_fails_17 fl_X12_150 fp_X12_5 sh_122 (Nat.le_of_ble_eq_true rfl) rfl rfl (e4 ▸ hw3 _ _) rfl rfl ?_
    exact ok_vret (pc := 20) dX12_fails_20 rfl rfl h
theorem dX12_next_0 : decode cX12_next 0 = .ok (.aload_n 0, 1) := by decide +kernel
theorem dX12_next_1 : decode cX12_next 1 = .ok (.getfield 144, 3) := by decide +kernel
theorem dX12_next_4 : decode cX12_next 4 = .ok (.ifCond .le 4, 3) := by decide +kernel
theorem dX12_next_7 : decode cX12_next 7 = .ok (.return_, 1) := by decide +kernel
theorem dX12_next_8 : decode cX12_next 8 = .ok (.aload_n 0, 1) := by decide +kernel
theorem dX12_next_9 : decode cX12_next 9 = .ok (.aload_n 0, 1) := by decide +kernel
theorem dX12_next_10 : decode cX12_next 10 = .ok (.getfield 153, 3) := by decide +kernel
theorem dX12_next_13 : decode cX12_next 13 = .ok (.invokevirtual 156, 3) := by decide +kernel
theorem dX12_next_16 : decode cX12_next 16 = .ok (.bipush 32, 2) := by decide +kernel
theorem dX12_next_18 : decode cX12_next 18 = .ok (.if_icmp .ne 16, 3) := by decide +kernel
theorem dX12_next_21 : decode cX12_next 21 = .ok (.aload_n 0, 1) := by decide +kernel
theorem dX12_next_22 : decode cX12_next 22 = .ok (.dup, 1) := by decide +kernel
theorem dX12_next_23 : decode cX12_next 23 = .ok (.getfield 153, 3) := by decide +kernel
theorem dX12_next_26 : decode cX12_next 26 = .ok (.iconst 1, 1) := by decide +kernel
theorem dX12_next_27 : decode cX12_next 27 = .ok (.iadd, 1) := by decide +kernel
theorem dX12_next_28 : decode cX12_next 28 = .ok (.putfield 153, 3) := by decide +kernel
theorem dX12_next_31 : decode cX12_next 31 = .ok (.goto (-23), 3) := by decide +kernel
theorem dX12_next_34 : decode cX12_next 34 = .ok (.aload_n 0, 1) := by decide +kernel
theorem dX12_next_35 : decode cX12_next 35 = .ok (.aload_n 0, 1) := by decide +kernel
theorem dX12_next_36 : decode cX12_next 36 = .ok (.getfield 153, 3) := by decide +kernel
theorem dX12_next_39 : decode cX12_next 39 = .ok (.putfield 147, 3) := by decide +kernel
theorem dX12_next_42 : decode cX12_next 42 = .ok (.aload_n 0, 1) := by decide +kernel
theorem dX12_next_43 : decode cX12_next 43 = .ok (.aload_n 0, 1) := by decide +kernel
theorem dX12_next_44 : decode cX12_next 44 = .ok (.getfield 153, 3) := by decide +kernel
theorem dX12_next_47 : decode cX12_next 47 = .ok (.invokevirtual 156, 3) := by decide +kernel
theorem dX12_next_50 : decode cX12_next 50 = .ok (.istore_n 1, 1) := by decide +kernel
theorem dX12_next_51 : decode cX12_next 51 = .ok (.aload_n 0, 1) := by decide +kernel
theorem dX12_next_52 : decode cX12_next 52 = .ok (.iconst 0, 1) := by decide +kernel
theorem dX12_next_53 : decode cX12_next 53 = .ok (.putfield 160, 3) := by decide +kernel
theorem dX12_next_56 : decode cX12_next 56 = .ok (.iload_n 1, 1) := by decide +kernel
theorem dX12_next_57 : decode cX12_next 57 = .ok (.bipush (-4), 2) := by decide +kernel
theorem dX12_next_59 : decode cX12_next 59 = .ok (.if_icmp .ne 11, 3) := by decide +kernel
theorem dX12_next_62 : decode cX12_next 62 = .ok (.aload_n 0, 1) := by decide +kernel
theorem dX12_next_63 : decode cX12_next 63 = .ok (.iconst 0, 1) := by decide +kernel
theorem dX12_next_64 : decode cX12_next 64 = .ok (.putfield 163, 3) := by decide +kernel
theorem dX12_next_67 : decode cX12_next 67 = .ok (.goto 202, 3) := by decide +kernel
theorem dX12_next_70 : decode cX12_next 70 = .ok (.iload_n 1, 1) := by decide +kernel
theorem dX12_next_71 : decode cX12_next 71 = .ok (.i2l, 1) := by decide +kernel
theorem dX12_next_72 : decode cX12_next 72 = .ok (.ldc2_w 166, 3) := by decide +kernel
theorem dX12_next_75 : decode cX12_next 75 = .ok (.ldc2_w 168, 3) := by decide +kernel
theorem dX12_next_78 : decode cX12_next 78 = .ok (.invokestatic 137, 3) := by decide +kernel
theorem dX12_next_81 : decode cX12_next 81 = .ok (.ifCond .eq 45, 3) := by decide +kernel
theorem dX12_next_84 : decode cX12_next 84 = .ok (.aload_n 0, 1) := by decide +kernel
theorem dX12_next_85 : decode cX12_next 85 = .ok (.aload_n 0, 1) := by decide +kernel
theorem dX12_next_86 : decode cX12_next 86 = .ok (.getfield 153, 3) := by decide +kernel
theorem dX12_next_89 : decode cX12_next 89 = .ok (.invokevirtual 156, 3) := by decide +kernel
theorem dX12_next_92 : decode cX12_next 92 = .ok (.i2l, 1) := by decide +kernel
theorem dX12_next_93 : decode cX12_next 93 = .ok (.ldc2_w 166, 3) := by decide +kernel
theorem dX12_next_96 : decode cX12_next 96 = .ok (.ldc2_w 168, 3) := by decide +kernel
theorem dX12_next_99 : decode cX12_next 99 = .ok (.invokestatic 137, 3) := by decide +kernel
theorem dX12_next_102 : decode cX12_next 102 = .ok (.ifCond .eq 16, 3) := by decide +kernel
theorem dX12_next_105 : decode cX12_next 105 = .ok (.aload_n 0, 1) := by decide +kernel
theorem dX12_next_106 : decode cX12_next 106 = .ok (.dup, 1) := by decide +kernel
theorem dX12_next_107 : decode cX12_next 107 = .ok (.getfield 153, 3) := by decide +kernel
theorem dX12_next_110 : decode cX12_next 110 = .ok (.iconst 1, 1) := by decide +kernel
theorem dX12_next_111 : decode cX12_next 111 = .ok (.iadd, 1) := by decide +kernel
theorem dX12_next_112 : decode cX12_next 112 = .ok (.putfield 153, 3) := by decide +kernel
theorem dX12_next_115 : decode cX12_next 115 = .ok (.goto (-31), 3) := by decide +kernel
theorem dX12_next_118 : decode cX12_next 118 = .ok (.aload_n 0, 1) := by decide +kernel
theorem dX12_next_119 : decode cX12_next 119 = .ok (.iconst 1, 1) := by decide +kernel
theorem dX12_next_120 : decode cX12_next 120 = .ok (.putfield 163, 3) := by decide +kernel
theorem dX12_next_123 : decode cX12_next 123 = .ok (.goto 146, 3) := by decide +kernel
theorem dX12_next_126 : decode cX12_next 126 = .ok (.iload_n 1, 1) := by decide +kernel
theorem dX12_next_127 : decode cX12_next 127 = .ok (.i2l, 1) := by decide +kernel
theorem dX12_next_128 : decode cX12_next 128 = .ok (.ldc2_w 170, 3) := by decide +kernel
theorem dX12_next_131 : decode cX12_next 131 = .ok (.ldc2_w 172, 3) := by decide +kernel
theorem dX12_next_134 : decode cX12_next 134 = .ok (.invokestatic 137, 3) := by decide +kernel
theorem dX12_next_137 : decode cX12_next 137 = .ok (.ifCond .eq 106, 3) := by decide +kernel
theorem dX12_next_140 : decode cX12_next 140 = .ok (.aload_n 0, 1) := by decide +kernel
theorem dX12_next_141 : decode cX12_next 141 = .ok (.aload_n 0, 1) := by decide +kernel
theorem dX12_next_142 : decode cX12_next 142 = .ok (.getfield 153, 3) := by decide +kernel
theorem dX12_next_145 : decode cX12_next 145 = .ok (.invokevirtual 156, 3) := by decide +kernel
theorem dX12_next_148 : decode cX12_next 148 = .ok (.i2l, 1) := by decide +kernel
theorem dX12_next_149 : decode cX12_next 149 = .ok (.ldc2_w 170, 3) := by decide +kernel
theorem dX12_next_152 : decode cX12_next 152 = .ok (.ldc2_w 172, 3) := by decide +kernel
theorem dX12_next_155 : decode cX12_next 155 = .ok (.invokestatic 137, 3) := by decide +kernel
theorem dX12_next_158 : decode cX12_next 158 = .ok (.ifCond .eq 59, 3) := by decide +kernel
theorem dX12_next_161 : decode cX12_next 161 = .ok (.aload_n 0, 1) := by decide +kernel
theorem dX12_next_162 : decode cX12_next 162 = .ok (.aload_n 0, 1) := by decide +kernel
theorem dX12_next_163 : decode cX12_next 163 = .ok (.getfield 153, 3) := by decide +kernel
theorem dX12_next_166 : decode cX12_next 166 = .ok (.aload_n 0, 1) := by decide +kernel
theorem dX12_next_167 : decode cX12_next 167 = .ok (.getfield 147, 3) := by decide +kernel
theorem dX12_next_170 : decode cX12_next 170 = .ok (.isub, 1) := by decide +kernel
theorem dX12_next_171 : decode cX12_next 171 = .ok (.iconst 4, 1) := by decide +kernel
theorem dX12_next_172 : decode cX12_next 172 = .ok (.if_icmp .ge 25, 3) := by decide +kernel
theorem dX12_next_175 : decode cX12_next 175 = .ok (.bipush 10, 2) := by decide +kernel
theorem dX12_next_177 : decode cX12_next 177 = .ok (.aload_n 0, 1) := by decide +kernel
theorem dX12_next_178 : decode cX12_next 178 = .ok (.getfield 160, 3) := by decide +kernel
theorem dX12_next_181 : decode cX12_next 181 = .ok (.imul, 1) := by decide +kernel
theorem dX12_next_182 : decode cX12_next 182 = .ok (.aload_n 0, 1) := by decide +kernel
theorem dX12_next_183 : decode cX12_next 183 = .ok (.aload_n 0, 1) := by decide +kernel
theorem dX12_next_184 : decode cX12_next 184 = .ok (.getfield 153, 3) := by decide +kernel
theorem dX12_next_187 : decode cX12_next 187 = .ok (.invokevirtual 156, 3) := by decide +kernel
theorem dX12_next_190 : decode cX12_next 190 = .ok (.iadd, 1) := by decide +kernel
theorem dX12_next_191 : decode cX12_next 191 = .ok (.bipush 48, 2) := by decide +kernel
theorem dX12_next_193 : decode cX12_next 193 = .ok (.isub, 1) := by decide +kernel
theorem dX12_next_194 : decode cX12_next 194 = .ok (.goto 7, 3) := by decide +kernel
theorem dX12_next_197 : decode cX12_next 197 = .ok (.aload_n 0, 1) := by decide +kernel
theorem dX12_next_198 : decode cX12_next 198 = .ok (.getfield 160, 3) := by decide +kernel
theorem dX12_next_201 : decode cX12_next 201 = .ok (.putfield 160, 3) := by decide +kernel
theorem dX12_next_204 : decode cX12_next 204 = .ok (.aload_n 0, 1) := by decide +kernel
theorem dX12_next_205 : decode cX12_next 205 = .ok (.dup, 1) := by decide +kernel
theorem dX12_next_206 : decode cX12_next 206 = .ok (.getfield 153, 3) := by decide +kernel
theorem dX12_next_209 : decode cX12_next 209 = .ok (.iconst 1, 1) := by decide +kernel
theorem dX12_next_210 : decode cX12_next 210 = .ok (.iadd, 1) := by decide +kernel
theorem dX12_next_211 : decode cX12_next 211 = .ok (.putfield 153, 3) := by decide +kernel
theorem dX12_next_214 : decode cX12_next 214 = .ok (.goto (-74), 3) := by decide +kernel
theorem dX12_next_217 : decode cX12_next 217 = .ok (.aload_n 0, 1) := by decide +kernel
theorem dX12_next_218 : decode cX12_next 218 = .ok (.iconst 2, 1) := by decide +kernel
theorem dX12_next_219 : decode cX12_next 219 = .ok (.putfield 163, 3) := by decide +kernel
theorem dX12_next_222 : decode cX12_next 222 = .ok (.aload_n 0, 1) := by decide +kernel
theorem dX12_next_223 : decode cX12_next 223 = .ok (.getfield 153, 3) := by decide +kernel
theorem dX12_next_226 : decode cX12_next 226 = .ok (.aload_n 0, 1) := by decide +kernel
theorem dX12_next_227 : decode cX12_next 227 = .ok (.getfield 147, 3) := by decide +kernel
theorem dX12_next_230 : decode cX12_next 230 = .ok (.isub, 1) := by decide +kernel
theorem dX12_next_231 : decode cX12_next 231 = .ok (.iconst 4, 1) := by decide +kernel
theorem dX12_next_232 : decode cX12_next 232 = .ok (.if_icmp .le 37, 3) := by decide +kernel
theorem dX12_next_235 : decode cX12_next 235 = .ok (.aload_n 0, 1) := by decide +kernel
theorem dX12_next_236 : decode cX12_next 236 = .ok (.iconst 1, 1) := by decide +kernel
theorem dX12_next_237 : decode cX12_next 237 = .ok (.invokevirtual 174, 3) := by decide +kernel
theorem dX12_next_240 : decode cX12_next 240 = .ok (.goto 29, 3) := by decide +kernel
theorem dX12_next_243 : decode cX12_next 243 = .ok (.aload_n 0, 1) := by decide +kernel
theorem dX12_next_244 : decode cX12_next 244 = .ok (.iconst 3, 1) := by decide +kernel
theorem dX12_next_245 : decode cX12_next 245 = .ok (.putfield 163, 3) := by decide +kernel
theorem dX12_next_248 : decode cX12_next 248 = .ok (.aload_n 0, 1) := by decide +kernel
theorem dX12_next_249 : decode cX12_next 249 = .ok (.dup, 1) := by decide +kernel
theorem dX12_next_250 : decode cX12_next 250 = .ok (.getfield 153, 3) := by decide +kernel
theorem dX12_next_253 : decode cX12_next 253 = .ok (.iconst 1, 1) := by decide +kernel
theorem dX12_next_254 : decode cX12_next 254 = .ok (.iadd, 1) := by decide +kernel
theorem dX12_next_255 : decode cX12_next 255 = .ok (.putfield 153, 3) := by decide +kernel
theorem dX12_next_258 : decode cX12_next 258 = .ok (.iload_n 1, 1) := by decide +kernel
theorem dX12_next_259 : decode cX12_next 259 = .ok (.bipush 59, 2) := by decide +kernel
theorem dX12_next_261 : decode cX12_next 261 = .ok (.if_icmp .eq 8, 3) := by decide +kernel
theorem dX12_next_264 : decode cX12_next 264 = .ok (.aload_n 0, 1) := by decide +kernel
theorem dX12_next_265 : decode cX12_next 265 = .ok (.iconst 1, 1) := by decide +kernel
theorem dX12_next_266 : decode cX12_next 266 = .ok (.invokevirtual 174, 3) := by decide +kernel
theorem dX12_next_269 : decode cX12_next 269 = .ok (.return_, 1) := by decide +kernel
set_option maxRecDepth 100000 in
set_option maxHeartbeats 4000000 in
theorem w_X12_next_201 (X : XE) (s0 : Int) (hs0 : inR s0) {K140 : Mem → Prop} {Q : Int → Mem → Prop} (hK140 : ∀ (σ : Mem), K140 σ → ok X rm_X12_next RX12 cX12_next 2 none 0 Q 140 [(0, .ref (xad X 122))] [] σ) {σ : Mem} (h : j_X12_next_201 K140 Q s0 σ) : ok X rm_X12_next RX12 cX12_next 2 none 0 Q 201 [(0, .ref (xad X 122))] [vI s0, .ref (xad X 122)] σ := by
  refine ok_putI (pc := 201) dX12_next_201 fl_X12_160 fp_X12_9 sh_122 (Nat.le_of_ble_eq_true rfl) rfl rfl hs0 rfl rfl ?_
  refine ok_aload_n 0 (pc := 204) dX12_next_204 rfl rfl ?_
  refine ok_dup (pc := 205) dX12_next_205 rfl ?_
  refine ok_wf (fun hw1 => ?_)
  refine ok_getI (pc := 206) dX12_next_206 fl_X12_153 sh_122 (Nat.le_of_ble_eq_true rfl) rfl rfl ?_
  have e2 : ((mset σ 122 9 s0) 122 6) = (σ 122 6) := (mset_nei (by omega))
  refine ok_top e2 ?_
  refine ok_iconst (pc := 209) dX12_next_209 ?_
  refine ok_iadd (pc := 210) dX12_next_210 ?_
  obtain ⟨h4, h⟩ := h
  refine ok_putI (pc := 211) dX12_next_211 fl_X12_153 fp_X12_6 sh_122 (Nat.le_of_ble_eq_true rfl) rfl rfl h4 rfl rfl ?_
  refine ok_goto (tgt := 140) (pc := 214) dX12_next_214 rfl ?_
  exact hK140  (mset (mset σ 122 9 s0) 122 6 ((σ 122 6) + 1))  h
set_option maxRecDepth 100000 in
set_option maxHeartbeats 4000000 in
theorem w_X12_next_140 (X : XE) {Q : Int → Mem → Prop} : ∀ (n : Nat) (σ : Mem), l_X12_next_140 Q n σ → ok X rm_X12_next RX12 cX12_next 2 none 0 Q 140 [(0, .ref (xad X 122))] [] σ := by
  intro n
  induction n with
  | zero => intro σ h; exact False.elim h
  | succ n ih =>
    intro σ h
    refine ok_aload_n 0 (pc := 140) dX12_next_140 rfl rfl ?_
    refine ok_aload_n 0 (pc := 141) dX12_next_141 rfl rfl ?_
    refine ok_wf (fun hw1 => ?_)
    refine ok_getI (pc := 142) dX12_next_142 fl_X12_153 sh_122 (Nat.le_of_ble_eq_true rfl) rfl rfl ?_
    refine ok_callVi (As := [vI (σ 122 6)]) (rest := []) (rm := rm_X12_byteAt) (pc := 145) dX12_next_145 me_X12_byteAt ml_X12_156 (ci := 12) rfl sh_122 (Nat.le_of_ble_eq_true rfl) rfl des_X12_byteAt rfl ⟨rfl, rfl, rfl, rfl⟩ rfl rfl (c_X12_byteAt X (σ 122 6) (hw1 _ _) h) (fun r3 σ4 h2 h => ?_)
    refine ok_i2l (pc := 148) dX12_next_148 h2 ?_
    refine ok_ldc2 (pc := 149) dX12_next_149 cn_X12_170 ?_
    refine ok_ldc2 (pc := 152) dX12_next_152 cn_X12_172 ?_
    refine ok_callSi (As := [vL r3, vL 48, vL 57]) (rest := []) (rm := rm_X12_in) (pc := 155) dX12_next_155 me_X12_in ml_X12_137 des_X12_in rfl ⟨rfl, rfl, rfl, rfl⟩ rfl rfl (c_X12_in X r3 48 57 (l_of_r h2) (l_of_r (r_lit rfl)) (l_of_r (r_lit rfl)) h) (fun r6 σ7 h5 h => ?_)
    refine ok_if_eq (tgt := 217) (pc := 158) dX12_next_158 rfl h5 (fun q8 => ?_) (fun q8 => ?_)
    · have h := iteT h q8
      refine ok_aload_n 0 (pc := 217) dX12_next_217 rfl rfl ?_
      refine ok_iconst (pc := 218) dX12_next_218 ?_
      refine ok_putI (pc := 219) dX12_next_219 fl_X12_163 fp_X12_8 sh_122 (Nat.le_of_ble_eq_true rfl) rfl rfl (r_lit rfl) rfl rfl ?_
      refine ok_aload_n 0 (pc := 222) dX12_next_222 rfl rfl ?_
      refine ok_wf (fun hw9 => ?_)
      refine ok_getI (pc := 223) dX12_next_223 fl_X12_153 sh_122 (Nat.le_of_ble_eq_true rfl) rfl rfl ?_
      have e10 : ((mset σ7 122 8 2) 122 6) = (σ7 122 6) := (mset_nei (by omega))
      refine ok_top e10 ?_
      refine ok_aload_n 0 (pc := 226) dX12_next_226 rfl rfl ?_
      refine ok_getI (pc := 227) dX12_next_227 fl_X12_147 sh_122 (Nat.le_of_ble_eq_true rfl) rfl rfl ?_
      have e12 : ((mset σ7 122 8 2) 122 7) = (σ7 122 7) := (mset_nei (by omega))
      refine ok_top e12 ?_
      refine ok_isub (pc := 230) dX12_next_230 ?_
      refine ok_iconst (pc := 231) dX12_next_231 ?_
      obtain ⟨h14, h⟩ := h
      refine ok_icmp_le (tgt := 269) (pc := 232) dX12_next_232 rfl h14 (r_lit rfl) (fun q15 => ?_) (fun q15 => ?_)
      · have h := iteF h q15
        exact ok_vret (pc := 269) dX12_next_269 rfl rfl h
      · have h := iteT h q15
        refine ok_aload_n 0 (pc := 235) dX12_next_235 rfl rfl ?_
        refine ok_iconst (pc := 236) dX12_next_236 ?_
        refine ok_callVv (As := [vI 1]) (rest := []) (rm := rm_X12_fails) (pc := 237) dX12_next_237 me_X12_fails ml_X12_174 (ci := 12) rfl sh_122 (Nat.le_of_ble_eq_true rfl) rfl des_X12_fails rfl ⟨rfl, rfl, rfl, rfl⟩ rfl rfl (c_X12_fails X 1 (r_lit rfl) h) (fun σ18 h => ?_)
        refine ok_goto (tgt := 269) (pc := 240) dX12_next_240 rfl ?_
        exact ok_vret (pc := 269) dX12_next_269 rfl rfl h
    · have h := iteF h q8
      refine ok_aload_n 0 (pc := 161) dX12_next_161 rfl rfl ?_
      refine ok_aload_n 0 (pc := 162) dX12_next_162 rfl rfl ?_
      refine ok_wf (fun hw19 => ?_)
      refine ok_getI (pc := 163) dX12_next_163 fl_X12_153 sh_122 (Nat.le_of_ble_eq_true rfl) rfl rfl ?_
      refine ok_aload_n 0 (pc := 166) dX12_next_166 rfl rfl ?_
      refine ok_getI (pc := 167) dX12_next_167 fl_X12_147 sh_122 (Nat.le_of_ble_eq_true rfl) rfl rfl ?_
      refine ok_isub (pc := 170) dX12_next_170 ?_
      refine ok_iconst (pc := 171) dX12_next_171 ?_
      obtain ⟨h20, h⟩ := h
      refine ok_icmp_ge (tgt := 197) (pc := 172) dX12_next_172 rfl h20 (r_lit rfl) (fun q21 => ?_) (fun q21 => ?_)
      · have h := iteF h q21
        refine ok_aload_n 0 (pc := 197) dX12_next_197 rfl rfl ?_
        refine ok_getI (pc := 198) dX12_next_198 fl_X12_160 sh_122 (Nat.le_of_ble_eq_true rfl) rfl rfl ?_
        exact w_X12_next_201 X (σ7 122 9) (hw19 _ _) (fun  σ_  h_ => ih  σ_  h_) h
      · have h := iteT h q21
        refine ok_bipush (pc := 175) dX12_next_175 rfl ?_
        refine ok_aload_n 0 (pc := 177) dX12_next_177 rfl rfl ?_
        refine ok_getI (pc := 178) dX12_next_178 fl_X12_160 sh_122 (Nat.le_of_ble_eq_true rfl) rfl rfl ?_
        refine ok_imul (pc := 181) dX12_next_181 ?_
        refine ok_aload_n 0 (pc := 182) dX12_next_182 rfl rfl ?_
        refine ok_aload_n 0 (pc := 183) dX12_next_183 rfl rfl ?_
        refine ok_getI (pc := 184) dX12_next_184 fl_X12_153 sh_122 (Nat.le_of_ble_eq_true rfl) rfl rfl ?_
        refine ok_callVi (As := [vI (σ7 122 6)]) (rest := [vI (10 * (σ7 122 9)), .ref (xad X 122)]) (rm := rm_X12_byteAt) (pc := 187) dX12_next_187 me_X12_byteAt ml_X12_156 (ci := 12) rfl sh_122 (Nat.le_of_ble_eq_true rfl) rfl des_X12_byteAt rfl ⟨rfl, rfl, rfl, rfl⟩ rfl rfl (c_X12_byteAt X (σ7 122 6) (hw19 _ _) h) (fun r23 σ24 h22 h => ?_)
        refine ok_iadd (pc := 190) dX12_next_190 ?_
        refine ok_bipush (pc := 191) dX12_next_191 rfl ?_
        refine ok_isub (pc := 193) dX12_next_193 ?_
        refine ok_goto (tgt := 201) (pc := 194) dX12_next_194 rfl ?_
        obtain ⟨h25, h⟩ := h
        exact w_X12_next_201 X (((10 * (σ7 122 9)) + r23) - 48) h25 (fun  σ_  h_ => ih  σ_  h_) h
set_option maxRecDepth 100000 in
set_option maxHeartbeats 4000000 in
theorem w_X12_next_84 (X : XE) {Q : Int → Mem → Prop} : ∀ (n : Nat) (σ : Mem), l_X12_next_84 Q n σ → ok X rm_X12_next RX12 cX12_next 2 none 0 Q 84 [(0, .ref (xad X 122))] [] σ := by
  intro n
  induction n with
  | zero => intro σ h; exact False.elim h
  | succ n ih =>
    intro σ h
    refine ok_aload_n 0 (pc := 84) dX12_next_84 rfl rfl ?_
    refine ok_aload_n 0 (pc := 85) dX12_next_85 rfl rfl ?_
    refine ok_wf (fun hw1 => ?_)
    refine ok_getI (pc := 86) dX12_next_86 fl_X12_153 sh_122 (Nat.le_of_ble_eq_true rfl) rfl rfl ?_
    refine ok_callVi (As := [vI (σ 122 6)]) (rest := []) (rm := rm_X12_byteAt) (pc := 89) dX12_next_89 me_X12_byteAt ml_X12_156 (ci := 12) rfl sh_122 (Nat.le_of_ble_eq_true rfl) rfl des_X12_byteAt rfl ⟨rfl, rfl, rfl, rfl⟩ rfl rfl (c_X12_byteAt X (σ 122 6) (hw1 _ _) h) (fun r3 σ4 h2 h => ?_)
    refine ok_i2l (pc := 92) dX12_next_92 h2 ?_
    refine ok_ldc2 (pc := 93) dX12_next_93 cn_X12_166 ?_
    refine ok_ldc2 (pc := 96) dX12_next_96 cn_X12_168 ?_
    refine ok_callSi (As := [vL r3, vL 97, vL 122]) (rest := []) (rm := rm_X12_in) (pc := 99) dX12_next_99 me_X12_in ml_X12_137 des_X12_in rfl ⟨rfl, rfl, rfl, rfl⟩ rfl rfl (c_X12_in X r3 97 122 (l_of_r h2) (l_of_r (r_lit rfl)) (l_of_r (r_lit rfl)) h) (fun r6 σ7 h5 h => ?_)
    refine ok_if_eq (tgt := 118) (pc := 102) dX12_next_102 rfl h5 (fun q8 => ?_) (fun q8 => ?_)
    · have h := iteT h q8
      refine ok_aload_n 0 (pc := 118) dX12_next_118 rfl rfl ?_
      refine ok_iconst (pc := 119) dX12_next_119 ?_
      refine ok_putI (pc := 120) dX12_next_120 fl_X12_163 fp_X12_8 sh_122 (Nat.le_of_ble_eq_true rfl) rfl rfl (r_lit rfl) rfl rfl ?_
      refine ok_goto (tgt := 269) (pc := 123) dX12_next_123 rfl ?_
      exact ok_vret (pc := 269) dX12_next_269 rfl rfl h
    · have h := iteF h q8
      refine ok_aload_n 0 (pc := 105) dX12_next_105 rfl rfl ?_
      refine ok_dup (pc := 106) dX12_next_106 rfl ?_
      refine ok_wf (fun hw9 => ?_)
      refine ok_getI (pc := 107) dX12_next_107 fl_X12_153 sh_122 (Nat.le_of_ble_eq_true rfl) rfl rfl ?_
      refine ok_iconst (pc := 110) dX12_next_110 ?_
      refine ok_iadd (pc := 111) dX12_next_111 ?_
      obtain ⟨h10, h⟩ := h
      refine ok_putI (pc := 112) dX12_next_112 fl_X12_153 fp_X12_6 sh_122 (Nat.le_of_ble_eq_true rfl) rfl rfl h10 rfl rfl ?_
      refine ok_goto (tgt := 84) (pc := 115) dX12_next_115 rfl ?_
      exact ih  (mset σ7 122 6 ((σ7 122 6) + 1))  h
set_option maxRecDepth 100000 in
set_option maxHeartbeats 4000000 in
theorem w_X12_next_8 (X : XE) {Q : Int → Mem → Prop} : ∀ (n : Nat) (σ : Mem), l_X12_next_8 Q n σ → ok X rm_X12_next RX12 cX12_next 2 none 0 Q 8 [(0, .ref (xad X 122))] [] σ := by
  intro n
  induction n with
  | zero => intro σ h; exact False.elim h
  | succ n ih =>
    intro σ h
    refine ok_aload_n 0 (pc := 8) dX12_next_8 rfl rfl ?_
    refine ok_aload_n 0 (pc := 9) dX12_next_9 rfl rfl ?_
    refine ok_wf (fun hw1 => ?_)
    refine ok_getI (pc := 10) dX12_next_10 fl_X12_153 sh_122 (Nat.le_of_ble_eq_true rfl) rfl rfl ?_
    refine ok_callVi (As := [vI (σ 122 6)]) (rest := []) (rm := rm_X12_byteAt) (pc := 13) dX12_next_13 me_X12_byteAt ml_X12_156 (ci := 12) rfl sh_122 (Nat.le_of_ble_eq_true rfl) rfl des_X12_byteAt rfl ⟨rfl, rfl, rfl, rfl⟩ rfl rfl (c_X12_byteAt X (σ 122 6) (hw1 _ _) h) (fun r3 σ4 h2 h => ?_)
    refine ok_bipush (pc := 16) dX12_next_16 rfl ?_
    refine ok_icmp_ne (tgt := 34) (pc := 18) dX12_next_18 rfl h2 (r_lit rfl) (fun q5 => ?_) (fun q5 => ?_)
    · have h := iteF h q5
      refine ok_aload_n 0 (pc := 34) dX12_next_34 rfl rfl ?_
      refine ok_aload_n 0 (pc := 35) dX12_next_35 rfl rfl ?_
      refine ok_wf (fun hw6 => ?_)
      refine ok_getI (pc := 36) dX12_next_36 fl_X12_153 sh_122 (Nat.le_of_ble_eq_true rfl) rfl rfl ?_
      refine ok_putI (pc := 39) dX12_next_39 fl_X12_147 fp_X12_7 sh_122 (Nat.le_of_ble_eq_true rfl) rfl rfl (hw6 _ _) rfl rfl ?_
      refine ok_aload_n 0 (pc := 42) dX12_next_42 rfl rfl ?_
      refine ok_aload_n 0 (pc := 43) dX12_next_43 rfl rfl ?_
      refine ok_wf (fun hw7 => ?_)
      refine ok_getI (pc := 44) dX12_next_44 fl_X12_153 sh_122 (Nat.le_of_ble_eq_true rfl) rfl rfl ?_
      have e8 : ((mset σ4 122 7 (σ4 122 6)) 122 6) = (σ4 122 6) := (mset_nei (by omega))
      refine ok_top e8 ?_
      refine ok_callVi (As := [vI (σ4 122 6)]) (rest := []) (rm := rm_X12_byteAt) (pc := 47) dX12_next_47 me_X12_byteAt ml_X12_156 (ci := 12) rfl sh_122 (Nat.le_of_ble_eq_true rfl) rfl des_X12_byteAt rfl ⟨rfl, rfl, rfl, rfl⟩ rfl rfl (c_X12_byteAt X (σ4 122 6) (e8 ▸ hw7 _ _) h) (fun r11 σ12 h10 h => ?_)
      refine ok_istore_n (L' := [(1, vI r11), (0, .ref (xad X 122))]) (pc := 50) dX12_next_50 rfl rfl rfl ?_
      refine ok_aload_n 1 (pc := 51) dX12_next_51 rfl rfl ?_
      refine ok_iconst (pc := 52) dX12_next_52 ?_
      refine ok_putI (pc := 53) dX12_next_53 fl_X12_160 fp_X12_9 sh_122 (Nat.le_of_ble_eq_true rfl) rfl rfl (r_lit rfl) rfl rfl ?_
      refine ok_iload_n 0 (pc := 56) dX12_next_56 rfl rfl ?_
      refine ok_bipush (pc := 57) dX12_next_57 rfl ?_
      refine ok_icmp_ne (tgt := 70) (pc := 59) dX12_next_59 rfl h10 (r_lit rfl) (fun q13 => ?_) (fun q13 => ?_)
      · have h := iteF h q13
        refine ok_iload_n 0 (pc := 70) dX12_next_70 rfl rfl ?_
        refine ok_i2l (pc := 71) dX12_next_71 h10 ?_
        refine ok_ldc2 (pc := 72) dX12_next_72 cn_X12_166 ?_
        refine ok_ldc2 (pc := 75) dX12_next_75 cn_X12_168 ?_
        refine ok_callSi (As := [vL r11, vL 97, vL 122]) (rest := []) (rm := rm_X12_in) (pc := 78) dX12_next_78 me_X12_in ml_X12_137 des_X12_in rfl ⟨rfl, rfl, rfl, rfl⟩ rfl rfl (c_X12_in X r11 97 122 (l_of_r h10) (l_of_r (r_lit rfl)) (l_of_r (r_lit rfl)) h) (fun r15 σ16 h14 h => ?_)
        refine ok_if_eq (tgt := 126) (pc := 81) dX12_next_81 rfl h14 (fun q17 => ?_) (fun q17 => ?_)
        · have h := iteT h q17
          refine ok_iload_n 0 (pc := 126) dX12_next_126 rfl rfl ?_
          refine ok_i2l (pc := 127) dX12_next_127 h10 ?_
          refine ok_ldc2 (pc := 128) dX12_next_128 cn_X12_170 ?_
          refine ok_ldc2 (pc := 131) dX12_next_131 cn_X12_172 ?_
          refine ok_callSi (As := [vL r11, vL 48, vL 57]) (rest := []) (rm := rm_X12_in) (pc := 134) dX12_next_134 me_X12_in ml_X12_137 des_X12_in rfl ⟨rfl, rfl, rfl, rfl⟩ rfl rfl (c_X12_in X r11 48 57 (l_of_r h10) (l_of_r (r_lit rfl)) (l_of_r (r_lit rfl)) h) (fun r19 σ20 h18 h => ?_)
          refine ok_if_eq (tgt := 243) (pc := 137) dX12_next_137 rfl h18 (fun q21 => ?_) (fun q21 => ?_)
          · have h := iteT h q21
            refine ok_aload_n 1 (pc := 243) dX12_next_243 rfl rfl ?_
            refine ok_iconst (pc := 244) dX12_next_244 ?_
            refine ok_putI (pc := 245) dX12_next_245 fl_X12_163 fp_X12_8 sh_122 (Nat.le_of_ble_eq_true rfl) rfl rfl (r_lit rfl) rfl rfl ?_
            refine ok_aload_n 1 (pc := 248) dX12_next_248 rfl rfl ?_
            refine ok_dup (pc := 249) dX12_next_249 rfl ?_
            refine ok_wf (fun hw22 => ?_)
            refine ok_getI (pc := 250) dX12_next_250 fl_X12_153 sh_122 (Nat.le_of_ble_eq_true rfl) rfl rfl ?_
            have e23 : ((mset σ20 122 8 3) 122 6) = (σ20 122 6) := (mset_nei (by omega))
            refine ok_top e23 ?_
            refine ok_iconst (pc := 253) dX12_next_253 ?_
            refine ok_iadd (pc := 254) dX12_next_254 ?_
            obtain ⟨h25, h⟩ := h
            refine ok_putI (pc := 255) dX12_next_255 fl_X12_153 fp_X12_6 sh_122 (Nat.le_of_ble_eq_true rfl) rfl rfl h25 rfl rfl ?_
            refine ok_iload_n 0 (pc := 258) dX12_next_258 rfl rfl ?_
            refine ok_bipush (pc := 259) dX12_next_259 rfl ?_
            refine ok_icmp_eq (tgt := 269) (pc := 261) dX12_next_261 rfl h10 (r_lit rfl) (fun q26 => ?_) (fun q26 => ?_)
            · have h := iteT h q26
              exact ok_vret (pc := 269) dX12_next_269 rfl rfl h
            · have h := iteF h q26
              refine ok_aload_n 1 (pc := 264) dX12_next_264 rfl rfl ?_
              refine ok_iconst (pc := 265) dX12_next_265 ?_
              refine ok_callVv (As := [vI 1]) (rest := []) (rm := rm_X12_fails) (pc := 266) dX12_next_266 me_X12_fails ml_X12_174 (ci := 12) rfl sh_122 (Nat.le_of_ble_eq_true rfl) rfl des_X12_fails rfl ⟨rfl, rfl, rfl, rfl⟩ rfl rfl (c_X12_fails X 1 (r_lit rfl) h) (fun σ29 h => ?_)
              exact ok_vret (pc := 269) dX12_next_269 rfl rfl h
          · have h := iteF h q21
            refine ok_sub (L' := [(0, .ref (xad X 122))]) [1] rfl ?_
            obtain ⟨n30, h⟩ := h
            exact w_X12_next_140 X n30  σ20  h
        · have h := iteF h q17
          refine ok_sub (L' := [(0, .ref (xad X 122))]) [1] rfl ?_
          obtain ⟨n31, h⟩ := h
          exact w_X12_next_84 X n31  σ16  h
      · have h := iteT h q13
        refine ok_aload_n 1 (pc := 62) dX12_next_62 rfl rfl ?_
        refine ok_iconst (pc := 63) dX12_next_63 ?_
        refine ok_putI (pc := 64) dX12_next_64 fl_X12_163 fp_X12_8 sh_122 (Nat.le_of_ble_eq_true rfl) rfl rfl (r_lit rfl) rfl rfl ?_
        refine ok_goto (tgt := 269) (pc := 67) dX12_next_67 rfl ?_
        exact ok_vret (pc := 269) dX12_next_269 rfl rfl h
    · have h := iteT h q5
      refine ok_aload_n 0 (pc := 21) dX12_next_21 rfl rfl ?_
      refine ok_dup (pc := 22) dX12_next_22 rfl ?_
      refine ok_wf (fun hw32 => ?_)
      refine ok_getI (pc := 23) dX12_next_23 fl_X12_153 sh_122 (Nat.le_of_ble_eq_true rfl) rfl rfl ?_
      refine ok_iconst (pc := 26) dX12_next_26 ?_
      refine ok_iadd (pc := 27) dX12_next_27 ?_
      obtain ⟨h33, h⟩ := h
      refine ok_putI (pc := 28) dX12_next_28 fl_X12_153 fp_X12_6 sh_122 (Nat.le_of_ble_eq_true rfl) rfl rfl h33 rfl rfl ?_
      refine ok_goto (tgt := 8) (pc := 31) dX12_next_31 rfl ?_
      exact ih  (mset σ4 122 6 ((σ4 122 6) + 1))  h
set_option maxRecDepth 100000 in
set_option maxHeartbeats 4000000 in
theorem c_X12_next (X : XE) {σ : Mem} {Q : Int → Mem → Prop} (h : v_X12_next σ Q) : CT X yX12_next cX12_next 2 none rm_X12_next 0 [.ref (xad X 122)] σ Q := by
  refine ct_of (own := RX12) (L := [(0, .ref (xad X 122))]) rfl rfl (Nat.le_of_ble_eq_true rfl) rfl ?_
  refine ok_aload_n 0 (pc := 0) dX12_next_0 rfl rfl ?_
  refine ok_wf (fun hw1 => ?_)
  refine ok_getI (pc := 1) dX12_next_1 fl_X12_144 sh_122 (Nat.le_of_ble_eq_true rfl) rfl rfl ?_
  refine ok_if_le (tgt := 8) (pc := 4) dX12_next_4 rfl (hw1 _ _) (fun q2 => ?_) (fun q2 => ?_)
  · have h := iteF h q2
    obtain ⟨n3, h⟩ := h
    exact w_X12_next_8 X n3  σ  h
  · have h := iteT h q2
    exact ok_vret (pc := 7) dX12_next_7 rfl rfl h
theorem dX12_nameHere_0 : decode cX12_nameHere 0 = .ok (.iconst 0, 1) := by decide +kernel
theorem dX12_nameHere_1 : decode cX12_nameHere 1 = .ok (.istore_n 1, 1) := by decide +kernel
theorem dX12_nameHere_2 : decode cX12_nameHere 2 = .ok (.iload_n 1, 1) := by decide +kernel
theorem dX12_nameHere_3 : decode cX12_nameHere 3 = .ok (.bipush 6, 2) := by decide +kernel
theorem dX12_nameHere_5 : decode cX12_nameHere 5 = .ok (.if_icmp .ge 113, 3) := by decide +kernel
theorem dX12_nameHere_8 : decode cX12_nameHere 8 = .ok (.aload_n 0, 1) := by decide +kernel
theorem dX12_nameHere_9 : decode cX12_nameHere 9 = .ok (.getfield 163, 3) := by decide +kernel
theorem dX12_nameHere_12 : decode cX12_nameHere 12 = .ok (.iconst 1, 1) := by decide +kernel
theorem dX12_nameHere_13 : decode cX12_nameHere 13 = .ok (.if_icmp .ne 34, 3) := by decide +kernel
theorem dX12_nameHere_16 : decode cX12_nameHere 16 = .ok (.aload_n 0, 1) := by decide +kernel
theorem dX12_nameHere_17 : decode cX12_nameHere 17 = .ok (.getfield 153, 3) := by decide +kernel
theorem dX12_nameHere_20 : decode cX12_nameHere 20 = .ok (.aload_n 0, 1) := by decide +kernel
theorem dX12_nameHere_21 : decode cX12_nameHere 21 = .ok (.getfield 147, 3) := by decide +kernel
theorem dX12_nameHere_24 : decode cX12_nameHere 24 = .ok (.isub, 1) := by decide +kernel
theorem dX12_nameHere_25 : decode cX12_nameHere 25 = .ok (.aload_n 0, 1) := by decide +kernel
theorem dX12_nameHere_26 : decode cX12_nameHere 26 = .ok (.getfield 13, 3) := by decide +kernel
theorem dX12_nameHere_29 : decode cX12_nameHere 29 = .ok (.iload_n 1, 1) := by decide +kernel
theorem dX12_nameHere_30 : decode cX12_nameHere 30 = .ok (.iconst 1, 1) := by decide +kernel
theorem dX12_nameHere_31 : decode cX12_nameHere 31 = .ok (.iadd, 1) := by decide +kernel
theorem dX12_nameHere_32 : decode cX12_nameHere 32 = .ok (.iaload, 1) := by decide +kernel
theorem dX12_nameHere_33 : decode cX12_nameHere 33 = .ok (.aload_n 0, 1) := by decide +kernel
theorem dX12_nameHere_34 : decode cX12_nameHere 34 = .ok (.getfield 13, 3) := by decide +kernel
theorem dX12_nameHere_37 : decode cX12_nameHere 37 = .ok (.iload_n 1, 1) := by decide +kernel
theorem dX12_nameHere_38 : decode cX12_nameHere 38 = .ok (.iaload, 1) := by decide +kernel
theorem dX12_nameHere_39 : decode cX12_nameHere 39 = .ok (.isub, 1) := by decide +kernel
theorem dX12_nameHere_40 : decode cX12_nameHere 40 = .ok (.if_icmp .ne 7, 3) := by decide +kernel
theorem dX12_nameHere_43 : decode cX12_nameHere 43 = .ok (.iconst 1, 1) := by decide +kernel
theorem dX12_nameHere_44 : decode cX12_nameHere 44 = .ok (.goto 4, 3) := by decide +kernel
theorem dX12_nameHere_47 : decode cX12_nameHere 47 = .ok (.iconst 0, 1) := by decide +kernel
theorem dX12_nameHere_48 : decode cX12_nameHere 48 = .ok (.istore_n 2, 1) := by decide +kernel
theorem dX12_nameHere_49 : decode cX12_nameHere 49 = .ok (.iconst 0, 1) := by decide +kernel
theorem dX12_nameHere_50 : decode cX12_nameHere 50 = .ok (.istore_n 3, 1) := by decide +kernel
theorem dX12_nameHere_51 : decode cX12_nameHere 51 = .ok (.iload_n 2, 1) := by decide +kernel
theorem dX12_nameHere_52 : decode cX12_nameHere 52 = .ok (.ifCond .eq 54, 3) := by decide +kernel
theorem dX12_nameHere_55 : decode cX12_nameHere 55 = .ok (.iload_n 3, 1) := by decide +kernel
theorem dX12_nameHere_56 : decode cX12_nameHere 56 = .ok (.aload_n 0, 1) := by decide +kernel
theorem dX12_nameHere_57 : decode cX12_nameHere 57 = .ok (.getfield 153, 3) := by decide +kernel
theorem dX12_nameHere_60 : decode cX12_nameHere 60 = .ok (.aload_n 0, 1) := by decide +kernel
theorem dX12_nameHere_61 : decode cX12_nameHere 61 = .ok (.getfield 147, 3) := by decide +kernel
theorem dX12_nameHere_64 : decode cX12_nameHere 64 = .ok (.isub, 1) := by decide +kernel
theorem dX12_nameHere_65 : decode cX12_nameHere 65 = .ok (.if_icmp .ge 41, 3) := by decide +kernel
theorem dX12_nameHere_68 : decode cX12_nameHere 68 = .ok (.aload_n 0, 1) := by decide +kernel
theorem dX12_nameHere_69 : decode cX12_nameHere 69 = .ok (.aload_n 0, 1) := by decide +kernel
theorem dX12_nameHere_70 : decode cX12_nameHere 70 = .ok (.getfield 147, 3) := by decide +kernel
theorem dX12_nameHere_73 : decode cX12_nameHere 73 = .ok (.iload_n 3, 1) := by decide +kernel
theorem dX12_nameHere_74 : decode cX12_nameHere 74 = .ok (.iadd, 1) := by decide +kernel
theorem dX12_nameHere_75 : decode cX12_nameHere 75 = .ok (.invokevirtual 156, 3) := by decide +kernel
theorem dX12_nameHere_78 : decode cX12_nameHere 78 = .ok (.aload_n 0, 1) := by decide +kernel
theorem dX12_nameHere_79 : decode cX12_nameHere 79 = .ok (.getfield 16, 3) := by decide +kernel
theorem dX12_nameHere_82 : decode cX12_nameHere 82 = .ok (.aload_n 0, 1) := by decide +kernel
theorem dX12_nameHere_83 : decode cX12_nameHere 83 = .ok (.getfield 13, 3) := by decide +kernel
theorem dX12_nameHere_86 : decode cX12_nameHere 86 = .ok (.iload_n 1, 1) := by decide +kernel
theorem dX12_nameHere_87 : decode cX12_nameHere 87 = .ok (.iaload, 1) := by decide +kernel
theorem dX12_nameHere_88 : decode cX12_nameHere 88 = .ok (.iload_n 3, 1) := by decide +kernel
theorem dX12_nameHere_89 : decode cX12_nameHere 89 = .ok (.iadd, 1) := by decide +kernel
theorem dX12_nameHere_90 : decode cX12_nameHere 90 = .ok (.iaload, 1) := by decide +kernel
theorem dX12_nameHere_91 : decode cX12_nameHere 91 = .ok (.if_icmp .ne 7, 3) := by decide +kernel
theorem dX12_nameHere_94 : decode cX12_nameHere 94 = .ok (.iconst 1, 1) := by decide +kernel
theorem dX12_nameHere_95 : decode cX12_nameHere 95 = .ok (.goto 4, 3) := by decide +kernel
theorem dX12_nameHere_98 : decode cX12_nameHere 98 = .ok (.iconst 0, 1) := by decide +kernel
theorem dX12_nameHere_99 : decode cX12_nameHere 99 = .ok (.istore_n 2, 1) := by decide +kernel
theorem dX12_nameHere_100 : decode cX12_nameHere 100 = .ok (.iinc 3 1, 3) := by decide +kernel
theorem dX12_nameHere_103 : decode cX12_nameHere 103 = .ok (.goto (-52), 3) := by decide +kernel
theorem dX12_nameHere_106 : decode cX12_nameHere 106 = .ok (.iload_n 2, 1) := by decide +kernel
theorem dX12_nameHere_107 : decode cX12_nameHere 107 = .ok (.ifCond .eq 5, 3) := by decide +kernel
theorem dX12_nameHere_110 : decode cX12_nameHere 110 = .ok (.iload_n 1, 1) := by decide +kernel
theorem dX12_nameHere_111 : decode cX12_nameHere 111 = .ok (.ireturn, 1) := by decide +kernel
theorem dX12_nameHere_112 : decode cX12_nameHere 112 = .ok (.iinc 1 1, 3) := by decide +kernel
theorem dX12_nameHere_115 : decode cX12_nameHere 115 = .ok (.goto (-113), 3) := by decide +kernel
theorem dX12_nameHere_118 : decode cX12_nameHere 118 = .ok (.bipush (-4), 2) := by decide +kernel
theorem dX12_nameHere_120 : decode cX12_nameHere 120 = .ok (.ireturn, 1) := by decide +kernel
set_option maxRecDepth 100000 in
set_option maxHeartbeats 4000000 in
theorem w_X12_nameHere_106 (X : XE) (x1 : Int) (x2 : Int) (hx1 : inR x1) (hx2 : inR x2) {K2 : Int → Mem → Prop} {Q : Int → Mem → Prop} (hK2 : ∀ (x1 : Int) (σ : Mem), inR x1 → K2 x1 σ → ok X rm_X12_nameHere RX12 cX12_nameHere 4 (some .int) 1 Q 2 [(0, .ref (xad X 122)), (1, vI x1)] [] σ) {σ : Mem} (h : j_X12_nameHere_106 K2 Q x1 x2 σ) : ok X rm_X12_nameHere RX12 cX12_nameHere 4 (some .int) 1 Q 106 [(0, .ref (xad X 122)), (1, vI x1), (2, vI x2)] [] σ := by
  refine ok_iload_n 2 (pc := 106) dX12_nameHere_106 rfl rfl ?_
  refine ok_if_eq (tgt := 112) (pc := 107) dX12_nameHere_107 rfl hx2 (fun q1 => ?_) (fun q1 => ?_)
  · have h := iteT h q1
    refine ok_iinc (L' := [(1, vI (x1 + 1)), (0, .ref (xad X 122)), (2, vI x2)]) 1 (pc := 112) dX12_nameHere_112 rfl rfl rfl ?_
    refine ok_goto (tgt := 2) (pc := 115) dX12_nameHere_115 rfl ?_
    obtain ⟨h2, h⟩ := h
    refine ok_sub (L' := [(0, .ref (xad X 122)), (1, vI (x1 + 1))]) [1,0] rfl ?_
    exact hK2 (x1 + 1) σ h2 h
  · have h := iteF h q1
    refine ok_iload_n 1 (pc := 110) dX12_nameHere_110 rfl rfl ?_
    exact ok_iret (pc := 111) dX12_nameHere_111 rfl rfl rfl hx1 h
set_option maxRecDepth 100000 in
set_option maxHeartbeats 4000000 in
theorem w_X12_nameHere_51 (X : XE) (x1 : Int) (hx1 : inR x1) {K2 : Int → Mem → Prop} {Q : Int → Mem → Prop} (hK2 : ∀ (x1 : Int) (σ : Mem), inR x1 → K2 x1 σ → ok X rm_X12_nameHere RX12 cX12_nameHere 4 (some .int) 1 Q 2 [(0, .ref (xad X 122)), (1, vI x1)] [] σ) : ∀ (n : Nat) (x2 : Int) (x3 : Int) (σ : Mem), inR x2 → inR x3 → l_X12_nameHere_51 x1 K2 Q n x2 x3 σ → ok X rm_X12_nameHere RX12 cX12_nameHere 4 (some .int) 1 Q 51 [(0, .ref (xad X 122)), (1, vI x1), (2, vI x2), (3, vI x3)] [] σ := by
  intro n
  induction n with
  | zero => intro x2 x3 σ hx2 hx3 h; exact False.elim h
  | succ n ih =>
    intro x2 x3 σ hx2 hx3 h
    refine ok_iload_n 2 (pc := 51) dX12_nameHere_51 rfl rfl ?_
    refine ok_if_eq (tgt := 106) (pc := 52) dX12_nameHere_52 rfl hx2 (fun q1 => ?_) (fun q1 => ?_)
    · have h := iteT h q1
      refine ok_sub (L' := [(0, .ref (xad X 122)), (1, vI x1), (2, vI x2)]) [0,1,2] rfl ?_
      exact w_X12_nameHere_106 X x1 x2 hx1 hx2 hK2 h
    · have h := iteF h q1
      refine ok_iload_n 3 (pc := 55) dX12_nameHere_55 rfl rfl ?_
      refine ok_aload_n 0 (pc := 56) dX12_nameHere_56 rfl rfl ?_
      refine ok_wf (fun hw2 => ?_)
      refine ok_getI (pc := 57) dX12_nameHere_57 fl_X12_153 sh_122 (Nat.le_of_ble_eq_true rfl) rfl rfl ?_
      refine ok_aload_n 0 (pc := 60) dX12_nameHere_60 rfl rfl ?_
      refine ok_getI (pc := 61) dX12_nameHere_61 fl_X12_147 sh_122 (Nat.le_of_ble_eq_true rfl) rfl rfl ?_
      refine ok_isub (pc := 64) dX12_nameHere_64 ?_
      obtain ⟨h3, h⟩ := h
      refine ok_icmp_ge (tgt := 106) (pc := 65) dX12_nameHere_65 rfl hx3 h3 (fun q4 => ?_) (fun q4 => ?_)
      · have h := iteF h q4
        refine ok_sub (L' := [(0, .ref (xad X 122)), (1, vI x1), (2, vI x2)]) [0,1,2] rfl ?_
        exact w_X12_nameHere_106 X x1 x2 hx1 hx2 hK2 h
      · have h := iteT h q4
        refine ok_aload_n 0 (pc := 68) dX12_nameHere_68 rfl rfl ?_
        refine ok_aload_n 0 (pc := 69) dX12_nameHere_69 rfl rfl ?_
        refine ok_getI (pc := 70) dX12_nameHere_70 fl_X12_147 sh_122 (Nat.le_of_ble_eq_true rfl) rfl rfl ?_
        refine ok_iload_n 3 (pc := 73) dX12_nameHere_73 rfl rfl ?_
        refine ok_iadd (pc := 74) dX12_nameHere_74 ?_
        obtain ⟨h5, h⟩ := h
        refine ok_callVi (As := [vI ((σ 122 7) + x3)]) (rest := []) (rm := rm_X12_byteAt) (pc := 75) dX12_nameHere_75 me_X12_byteAt ml_X12_156 (ci := 12) rfl sh_122 (Nat.le_of_ble_eq_true rfl) rfl des_X12_byteAt rfl ⟨rfl, rfl, rfl, rfl⟩ rfl rfl (c_X12_byteAt X ((σ 122 7) + x3) h5 h) (fun r7 σ8 h6 h => ?_)
        refine ok_aload_n 0 (pc := 78) dX12_nameHere_78 rfl rfl ?_
        refine ok_getR (pc := 79) dX12_nameHere_79 fl_X12_16 sh_122 (Nat.le_of_ble_eq_true rfl) rfl rfl ?_
        refine ok_aload_n 0 (pc := 82) dX12_nameHere_82 rfl rfl ?_
        refine ok_getR (pc := 83) dX12_nameHere_83 fl_X12_13 sh_122 (Nat.le_of_ble_eq_true rfl) rfl rfl ?_
        refine ok_iload_n 1 (pc := 86) dX12_nameHere_86 rfl rfl ?_
        obtain ⟨h9, h⟩ := h
        obtain ⟨h10, h⟩ := h
        refine ok_wf (fun hw11 => ?_)
        refine ok_iald (pc := 87) dX12_nameHere_87 sh_124 (Nat.le_of_ble_eq_true rfl) rfl h9 h10 ?_
        refine ok_iload_n 3 (pc := 88) dX12_nameHere_88 rfl rfl ?_
        refine ok_iadd (pc := 89) dX12_nameHere_89 ?_
        obtain ⟨h12, h⟩ := h
        obtain ⟨h13, h⟩ := h
        refine ok_iald (pc := 90) dX12_nameHere_90 sh_125 (Nat.le_of_ble_eq_true rfl) rfl h12 h13 ?_
        refine ok_icmp_ne (tgt := 98) (pc := 91) dX12_nameHere_91 rfl h6 (hw11 _ _) (fun q14 => ?_) (fun q14 => ?_)
        · have h := iteF h q14
          refine ok_iconst (pc := 98) dX12_nameHere_98 ?_
          refine ok_istore_n (L' := [(2, vI 0), (0, .ref (xad X 122)), (1, vI x1), (3, vI x3)]) (pc := 99) dX12_nameHere_99 rfl rfl rfl ?_
          refine ok_iinc (L' := [(3, vI (x3 + 1)), (2, vI 0), (0, .ref (xad X 122)), (1, vI x1)]) 3 (pc := 100) dX12_nameHere_100 rfl rfl rfl ?_
          refine ok_goto (tgt := 51) (pc := 103) dX12_nameHere_103 rfl ?_
          obtain ⟨h15, h⟩ := h
          refine ok_sub (L' := [(0, .ref (xad X 122)), (1, vI x1), (2, vI 0), (3, vI (x3 + 1))]) [2,3,1,0] rfl ?_
          exact ih 0 (x3 + 1) σ8 (r_lit rfl) h15 h
        · have h := iteT h q14
          refine ok_iconst (pc := 94) dX12_nameHere_94 ?_
          refine ok_goto (tgt := 99) (pc := 95) dX12_nameHere_95 rfl ?_
          refine ok_istore_n (L' := [(2, vI 1), (0, .ref (xad X 122)), (1, vI x1), (3, vI x3)]) (pc := 99) dX12_nameHere_99 rfl rfl rfl ?_
          refine ok_iinc (L' := [(3, vI (x3 + 1)), (2, vI 1), (0, .ref (xad X 122)), (1, vI x1)]) 3 (pc := 100) dX12_nameHere_100 rfl rfl rfl ?_
          refine ok_goto (tgt := 51) (pc := 103) dX12_nameHere_103 rfl ?_
          obtain ⟨h16, h⟩ := h
          refine ok_sub (L' := [(0, .ref (xad X 122)), (1, vI x1), (2, vI 1), (3, vI (x3 + 1))]) [2,3,1,0] rfl ?_
          exact ih 1 (x3 + 1) σ8 (r_lit rfl) h16 h
set_option maxRecDepth 100000 in
set_option maxHeartbeats 4000000 in
theorem w_X12_nameHere_2 (X : XE) {Q : Int → Mem → Prop} : ∀ (n : Nat) (x1 : Int) (σ : Mem), inR x1 → l_X12_nameHere_2 Q n x1 σ → ok X rm_X12_nameHere RX12 cX12_nameHere 4 (some .int) 1 Q 2 [(0, .ref (xad X 122)), (1, vI x1)] [] σ := by
  intro n
  induction n with
  | zero => intro x1 σ hx1 h; exact False.elim h
  | succ n ih =>
    intro x1 σ hx1 h
    refine ok_iload_n 1 (pc := 2) dX12_nameHere_2 rfl rfl ?_
    refine ok_bipush (pc := 3) dX12_nameHere_3 rfl ?_
    refine ok_icmp_ge (tgt := 118) (pc := 5) dX12_nameHere_5 rfl hx1 (r_lit rfl) (fun q1 => ?_) (fun q1 => ?_)
    · have h := iteF h q1
      refine ok_bipush (pc := 118) dX12_nameHere_118 rfl ?_
      exact ok_iret (pc := 120) dX12_nameHere_120 rfl rfl rfl (r_lit rfl) h
    · have h := iteT h q1
      refine ok_aload_n 0 (pc := 8) dX12_nameHere_8 rfl rfl ?_
      refine ok_wf (fun hw2 => ?_)
      refine ok_getI (pc := 9) dX12_nameHere_9 fl_X12_163 sh_122 (Nat.le_of_ble_eq_true rfl) rfl rfl ?_
      refine ok_iconst (pc := 12) dX12_nameHere_12 ?_
      refine ok_icmp_ne (tgt := 47) (pc := 13) dX12_nameHere_13 rfl (hw2 _ _) (r_lit rfl) (fun q3 => ?_) (fun q3 => ?_)
      · have h := iteF h q3
        refine ok_iconst (pc := 47) dX12_nameHere_47 ?_
        refine ok_istore_n (L' := [(2, vI 0), (0, .ref (xad X 122)), (1, vI x1)]) (pc := 48) dX12_nameHere_48 rfl rfl rfl ?_
        refine ok_iconst (pc := 49) dX12_nameHere_49 ?_
        refine ok_istore_n (L' := [(3, vI 0), (2, vI 0), (0, .ref (xad X 122)), (1, vI x1)]) (pc := 50) dX12_nameHere_50 rfl rfl rfl ?_
        refine ok_sub (L' := [(0, .ref (xad X 122)), (1, vI x1), (2, vI 0), (3, vI 0)]) [2,3,1,0] rfl ?_
        obtain ⟨n4, h⟩ := h
        exact w_X12_nameHere_51 X x1 hx1 (fun x1_ σ_ hx1_ h_ => ih x1_ σ_ hx1_ h_) n4 0 0 σ (r_lit rfl) (r_lit rfl) h
      · have h := iteT h q3
        refine ok_aload_n 0 (pc := 16) dX12_nameHere_16 rfl rfl ?_
        refine ok_getI (pc := 17) dX12_nameHere_17 fl_X12_153 sh_122 (Nat.le_of_ble_eq_true rfl) rfl rfl ?_
        refine ok_aload_n 0 (pc := 20) dX12_nameHere_20 rfl rfl ?_
        refine ok_getI (pc := 21) dX12_nameHere_21 fl_X12_147 sh_122 (Nat.le_of_ble_eq_true rfl) rfl rfl ?_
        refine ok_isub (pc := 24) dX12_nameHere_24 ?_
        refine ok_aload_n 0 (pc := 25) dX12_nameHere_25 rfl rfl ?_
        refine ok_getR (pc := 26) dX12_nameHere_26 fl_X12_13 sh_122 (Nat.le_of_ble_eq_true rfl) rfl rfl ?_
        refine ok_iload_n 1 (pc := 29) dX12_nameHere_29 rfl rfl ?_
        refine ok_iconst (pc := 30) dX12_nameHere_30 ?_
        refine ok_iadd (pc := 31) dX12_nameHere_31 ?_
        obtain ⟨h5, h⟩ := h
        obtain ⟨h6, h⟩ := h
        refine ok_iald (pc := 32) dX12_nameHere_32 sh_124 (Nat.le_of_ble_eq_true rfl) rfl h5 h6 ?_
        refine ok_aload_n 0 (pc := 33) dX12_nameHere_33 rfl rfl ?_
        refine ok_getR (pc := 34) dX12_nameHere_34 fl_X12_13 sh_122 (Nat.le_of_ble_eq_true rfl) rfl rfl ?_
        refine ok_iload_n 1 (pc := 37) dX12_nameHere_37 rfl rfl ?_
        obtain ⟨h7, h⟩ := h
        obtain ⟨h8, h⟩ := h
        refine ok_iald (pc := 38) dX12_nameHere_38 sh_124 (Nat.le_of_ble_eq_true rfl) rfl h7 h8 ?_
        refine ok_isub (pc := 39) dX12_nameHere_39 ?_
        obtain ⟨h9, h⟩ := h
        obtain ⟨h10, h⟩ := h
        refine ok_icmp_ne (tgt := 47) (pc := 40) dX12_nameHere_40 rfl h9 h10 (fun q11 => ?_) (fun q11 => ?_)
        · have h := iteF h q11
          refine ok_iconst (pc := 47) dX12_nameHere_47 ?_
          refine ok_istore_n (L' := [(2, vI 0), (0, .ref (xad X 122)), (1, vI x1)]) (pc := 48) dX12_nameHere_48 rfl rfl rfl ?_
          refine ok_iconst (pc := 49) dX12_nameHere_49 ?_
          refine ok_istore_n (L' := [(3, vI 0), (2, vI 0), (0, .ref (xad X 122)), (1, vI x1)]) (pc := 50) dX12_nameHere_50 rfl rfl rfl ?_
          refine ok_sub (L' := [(0, .ref (xad X 122)), (1, vI x1), (2, vI 0), (3, vI 0)]) [2,3,1,0] rfl ?_
          obtain ⟨n12, h⟩ := h
          exact w_X12_nameHere_51 X x1 hx1 (fun x1_ σ_ hx1_ h_ => ih x1_ σ_ hx1_ h_) n12 0 0 σ (r_lit rfl) (r_lit rfl) h
        · have h := iteT h q11
          refine ok_iconst (pc := 43) dX12_nameHere_43 ?_
          refine ok_goto (tgt := 48) (pc := 44) dX12_nameHere_44 rfl ?_
          refine ok_istore_n (L' := [(2, vI 1), (0, .ref (xad X 122)), (1, vI x1)]) (pc := 48) dX12_nameHere_48 rfl rfl rfl ?_
          refine ok_iconst (pc := 49) dX12_nameHere_49 ?_
          refine ok_istore_n (L' := [(3, vI 0), (2, vI 1), (0, .ref (xad X 122)), (1, vI x1)]) (pc := 50) dX12_nameHere_50 rfl rfl rfl ?_
          refine ok_sub (L' := [(0, .ref (xad X 122)), (1, vI x1), (2, vI 1), (3, vI 0)]) [2,3,1,0] rfl ?_
          obtain ⟨n13, h⟩ := h
          exact w_X12_nameHere_51 X x1 hx1 (fun x1_ σ_ hx1_ h_ => ih x1_ σ_ hx1_ h_) n13 1 0 σ (r_lit rfl) (r_lit rfl) h
set_option maxRecDepth 100000 in
set_option maxHeartbeats 4000000 in
theorem c_X12_nameHere (X : XE) {σ : Mem} {Q : Int → Mem → Prop} (h : v_X12_nameHere σ Q) : CT X yX12_nameHere cX12_nameHere 4 (some .int) rm_X12_nameHere 1 [.ref (xad X 122)] σ Q := by
  refine ct_of (own := RX12) (L := [(0, .ref (xad X 122))]) rfl rfl (Nat.le_of_ble_eq_true rfl) rfl ?_
  refine ok_iconst (pc := 0) dX12_nameHere_0 ?_
  refine ok_istore_n (L' := [(1, vI 0), (0, .ref (xad X 122))]) (pc := 1) dX12_nameHere_1 rfl rfl rfl ?_
  refine ok_sub (L' := [(0, .ref (xad X 122)), (1, vI 0)]) [1,0] rfl ?_
  obtain ⟨n1, h⟩ := h
  exact w_X12_nameHere_2 X n1 0 σ (r_lit rfl) h
theorem dX12_number_0 : decode cX12_number 0 = .ok (.aload_n 0, 1) := by decide +kernel
theorem dX12_number_1 : decode cX12_number 1 = .ok (.getfield 144, 3) := by decide +kernel
theorem dX12_number_4 : decode cX12_number 4 = .ok (.ifCond .ne 16, 3) := by decide +kernel
theorem dX12_number_7 : decode cX12_number 7 = .ok (.aload_n 0, 1) := by decide +kernel
theorem dX12_number_8 : decode cX12_number 8 = .ok (.getfield 163, 3) := by decide +kernel
theorem dX12_number_11 : decode cX12_number 11 = .ok (.iconst 2, 1) := by decide +kernel
theorem dX12_number_12 : decode cX12_number 12 = .ok (.if_icmp .eq 8, 3) := by decide +kernel
theorem dX12_number_15 : decode cX12_number 15 = .ok (.aload_n 0, 1) := by decide +kernel
theorem dX12_number_16 : decode cX12_number 16 = .ok (.iconst 2, 1) := by decide +kernel
theorem dX12_number_17 : decode cX12_number 17 = .ok (.invokevirtual 174, 3) := by decide +kernel
theorem dX12_number_20 : decode cX12_number 20 = .ok (.aload_n 0, 1) := by decide +kernel
theorem dX12_number_21 : decode cX12_number 21 = .ok (.getfield 144, 3) := by decide +kernel
theorem dX12_number_24 : decode cX12_number 24 = .ok (.ifCond .ne 23, 3) := by decide +kernel
theorem dX12_number_27 : decode cX12_number 27 = .ok (.aload_n 0, 1) := by decide +kernel
theorem dX12_number_28 : decode cX12_number 28 = .ok (.getfield 160, 3) := by decide +kernel
theorem dX12_number_31 : decode cX12_number 31 = .ok (.i2l, 1) := by decide +kernel
theorem dX12_number_32 : decode cX12_number 32 = .ok (.iload_n 1, 1) := by decide +kernel
theorem dX12_number_33 : decode cX12_number 33 = .ok (.i2l, 1) := by decide +kernel
theorem dX12_number_34 : decode cX12_number 34 = .ok (.iload_n 2, 1) := by decide +kernel
theorem dX12_number_35 : decode cX12_number 35 = .ok (.i2l, 1) := by decide +kernel
theorem dX12_number_36 : decode cX12_number 36 = .ok (.invokestatic 137, 3) := by decide +kernel
theorem dX12_number_39 : decode cX12_number 39 = .ok (.ifCond .ne 8, 3) := by decide +kernel
theorem dX12_number_42 : decode cX12_number 42 = .ok (.aload_n 0, 1) := by decide +kernel
theorem dX12_number_43 : decode cX12_number 43 = .ok (.iconst 3, 1) := by decide +kernel
theorem dX12_number_44 : decode cX12_number 44 = .ok (.invokevirtual 174, 3) := by decide +kernel
theorem dX12_number_47 : decode cX12_number 47 = .ok (.aload_n 0, 1) := by decide +kernel
theorem dX12_number_48 : decode cX12_number 48 = .ok (.getfield 160, 3) := by decide +kernel
theorem dX12_number_51 : decode cX12_number 51 = .ok (.istore_n 3, 1) := by decide +kernel
theorem dX12_number_52 : decode cX12_number 52 = .ok (.aload_n 0, 1) := by decide +kernel
theorem dX12_number_53 : decode cX12_number 53 = .ok (.invokevirtual 178, 3) := by decide +kernel
theorem dX12_number_56 : decode cX12_number 56 = .ok (.iload_n 3, 1) := by decide +kernel
theorem dX12_number_57 : decode cX12_number 57 = .ok (.ireturn, 1) := by decide +kernel
set_option maxRecDepth 100000 in
set_option maxHeartbeats 4000000 in
theorem w_X12_number_47 (X : XE) (p1 : Int) (p2 : Int) (hp1 : inR p1) (hp2 : inR p2) {Q : Int → Mem → Prop} {σ : Mem} (h : j_X12_number_47 p1 p2 Q σ) : ok X rm_X12_number RX12 cX12_number 4 (some .int) 1 Q 47 [(0, .ref (xad X 122))] [] σ := by
  refine ok_aload_n 0 (pc := 47) dX12_number_47 rfl rfl ?_
  refine ok_wf (fun hw1 => ?_)
  refine ok_getI (pc := 48) dX12_number_48 fl_X12_160 sh_122 (Nat.le_of_ble_eq_true rfl) rfl rfl ?_
  refine ok_istore_n (L' := [(3, vI (σ 122 9)), (0, .ref (xad X 122))]) (pc := 51) dX12_number_51 rfl rfl rfl ?_
  refine ok_aload_n 1 (pc := 52) dX12_number_52 rfl rfl ?_
  refine ok_callVv (As := []) (rest := []) (rm := rm_X12_next) (pc := 53) dX12_number_53 me_X12_next ml_X12_178 (ci := 12) rfl sh_122 (Nat.le_of_ble_eq_true rfl) rfl des_X12_next rfl ⟨rfl, rfl, rfl, rfl⟩ rfl rfl (c_X12_next X h) (fun σ4 h => ?_)
  refine ok_iload_n 0 (pc := 56) dX12_number_56 rfl rfl ?_
  exact ok_iret (pc := 57) dX12_number_57 rfl rfl rfl (hw1 _ _) h
set_option maxRecDepth 100000 in
set_option maxHeartbeats 4000000 in
theorem w_X12_number_20 (X : XE) (p1 : Int) (p2 : Int) (hp1 : inR p1) (hp2 : inR p2) {Q : Int → Mem → Prop} {σ : Mem} (h : j_X12_number_20 p1 p2 Q σ) : ok X rm_X12_number RX12 cX12_number 4 (some .int) 1 Q 20 [(0, .ref (xad X 122)), (1, vI p1), (2, vI p2)] [] σ := by
  refine ok_aload_n 0 (pc := 20) dX12_number_20 rfl rfl ?_
  refine ok_wf (fun hw1 => ?_)
  refine ok_getI (pc := 21) dX12_number_21 fl_X12_144 sh_122 (Nat.le_of_ble_eq_true rfl) rfl rfl ?_
  refine ok_if_ne (tgt := 47) (pc := 24) dX12_number_24 rfl (hw1 _ _) (fun q2 => ?_) (fun q2 => ?_)
  · have h := iteF h q2
    refine ok_sub (L' := [(0, .ref (xad X 122))]) [0] rfl ?_
    exact w_X12_number_47 X p1 p2 hp1 hp2   h
  · have h := iteT h q2
    refine ok_aload_n 0 (pc := 27) dX12_number_27 rfl rfl ?_
    refine ok_getI (pc := 28) dX12_number_28 fl_X12_160 sh_122 (Nat.le_of_ble_eq_true rfl) rfl rfl ?_
    refine ok_i2l (pc := 31) dX12_number_31 (hw1 _ _) ?_
    refine ok_iload_n 1 (pc := 32) dX12_number_32 rfl rfl ?_
    refine ok_i2l (pc := 33) dX12_number_33 hp1 ?_
    refine ok_iload_n 2 (pc := 34) dX12_number_34 rfl rfl ?_
    refine ok_i2l (pc := 35) dX12_number_35 hp2 ?_
    refine ok_callSi (As := [vL (σ 122 9), vL p1, vL p2]) (rest := []) (rm := rm_X12_in) (pc := 36) dX12_number_36 me_X12_in ml_X12_137 des_X12_in rfl ⟨rfl, rfl, rfl, rfl⟩ rfl rfl (c_X12_in X (σ 122 9) p1 p2 (l_of_r (hw1 _ _)) (l_of_r hp1) (l_of_r hp2) h) (fun r4 σ5 h3 h => ?_)
    refine ok_if_ne (tgt := 47) (pc := 39) dX12_number_39 rfl h3 (fun q6 => ?_) (fun q6 => ?_)
    · have h := iteF h q6
      refine ok_sub (L' := [(0, .ref (xad X 122))]) [0] rfl ?_
      exact w_X12_number_47 X p1 p2 hp1 hp2   h
    · have h := iteT h q6
      refine ok_aload_n 0 (pc := 42) dX12_number_42 rfl rfl ?_
      refine ok_iconst (pc := 43) dX12_number_43 ?_
      refine ok_callVv (As := [vI 3]) (rest := []) (rm := rm_X12_fails) (pc := 44) dX12_number_44 me_X12_fails ml_X12_174 (ci := 12) rfl sh_122 (Nat.le_of_ble_eq_true rfl) rfl des_X12_fails rfl ⟨rfl, rfl, rfl, rfl⟩ rfl rfl (c_X12_fails X 3 (r_lit rfl) h) (fun σ9 h => ?_)
      refine ok_sub (L' := [(0, .ref (xad X 122))]) [0] rfl ?_
      exact w_X12_number_47 X p1 p2 hp1 hp2   h
set_option maxRecDepth 100000 in
set_option maxHeartbeats 4000000 in
theorem c_X12_number (X : XE) (p1 : Int) (p2 : Int) (hp1 : inR p1) (hp2 : inR p2) {σ : Mem} {Q : Int → Mem → Prop} (h : v_X12_number p1 p2 σ Q) : CT X yX12_number cX12_number 4 (some .int) rm_X12_number 1 [.ref (xad X 122), vI p1, vI p2] σ Q := by
  refine ct_of (own := RX12) (L := [(0, .ref (xad X 122)), (1, vI p1), (2, vI p2)]) rfl rfl (Nat.le_of_ble_eq_true rfl) rfl ?_
  refine ok_aload_n 0 (pc := 0) dX12_number_0 rfl rfl ?_
  refine ok_wf (fun hw1 => ?_)
  refine ok_getI (pc := 1) dX12_number_1 fl_X12_144 sh_122 (Nat.le_of_ble_eq_true rfl) rfl rfl ?_
  refine ok_if_ne (tgt := 20) (pc := 4) dX12_number_4 rfl (hw1 _ _) (fun q2 => ?_) (fun q2 => ?_)
  · have h := iteF h q2
    exact w_X12_number_20 X p1 p2 hp1 hp2   h
  · have h := iteT h q2
    refine ok_aload_n 0 (pc := 7) dX12_number_7 rfl rfl ?_
    refine ok_getI (pc := 8) dX12_number_8 fl_X12_163 sh_122 (Nat.le_of_ble_eq_true rfl) rfl rfl ?_
    refine ok_iconst (pc := 11) dX12_number_11 ?_
    refine ok_icmp_eq (tgt := 20) (pc := 12) dX12_number_12 rfl (hw1 _ _) (r_lit rfl) (fun q3 => ?_) (fun q3 => ?_)
    · have h := iteT h q3
      exact w_X12_number_20 X p1 p2 hp1 hp2   h
    · have h := iteF h q3
      refine ok_aload_n 0 (pc := 15) dX12_number_15 rfl rfl ?_
      refine ok_iconst (pc := 16) dX12_number_16 ?_
      refine ok_callVv (As := [vI 2]) (rest := []) (rm := rm_X12_fails) (pc := 17) dX12_number_17 me_X12_fails ml_X12_174 (ci := 12) rfl sh_122 (Nat.le_of_ble_eq_true rfl) rfl des_X12_fails rfl ⟨rfl, rfl, rfl, rfl⟩ rfl rfl (c_X12_fails X 2 (r_lit rfl) h) (fun σ6 h => ?_)
      exact w_X12_number_20 X p1 p2 hp1 hp2   h
theorem dX12_once_0 : decode cX12_once 0 = .ok (.iconst 0, 1) := by decide +kernel
theorem dX12_once_1 : decode cX12_once 1 = .ok (.istore 4, 2) := by decide +kernel
theorem dX12_once_3 : decode cX12_once 3 = .ok (.iload 4, 2) := by decide +kernel
theorem dX12_once_5 : decode cX12_once 5 = .ok (.aload_n 0, 1) := by decide +kernel
theorem dX12_once_6 : decode cX12_once 6 = .ok (.getfield 181, 3) := by decide +kernel
theorem dX12_once_9 : decode cX12_once 9 = .ok (.if_icmp .ge 54, 3) := by decide +kernel
theorem dX12_once_12 : decode cX12_once 12 = .ok (.aload_n 0, 1) := by decide +kernel
theorem dX12_once_13 : decode cX12_once 13 = .ok (.getfield 144, 3) := by decide +kernel
theorem dX12_once_16 : decode cX12_once 16 = .ok (.ifCond .ne 47, 3) := by decide +kernel
theorem dX12_once_19 : decode cX12_once 19 = .ok (.aload_n 0, 1) := by decide +kernel
theorem dX12_once_20 : decode cX12_once 20 = .ok (.getfield 34, 3) := by decide +kernel
theorem dX12_once_23 : decode cX12_once 23 = .ok (.iload 4, 2) := by decide +kernel
theorem dX12_once_25 : decode cX12_once 25 = .ok (.iaload, 1) := by decide +kernel
theorem dX12_once_26 : decode cX12_once 26 = .ok (.iload_n 1, 1) := by decide +kernel
theorem dX12_once_27 : decode cX12_once 27 = .ok (.if_icmp .ne 30, 3) := by decide +kernel
theorem dX12_once_30 : decode cX12_once 30 = .ok (.aload_n 0, 1) := by decide +kernel
theorem dX12_once_31 : decode cX12_once 31 = .ok (.getfield 37, 3) := by decide +kernel
theorem dX12_once_34 : decode cX12_once 34 = .ok (.iload 4, 2) := by decide +kernel
theorem dX12_once_36 : decode cX12_once 36 = .ok (.iaload, 1) := by decide +kernel
theorem dX12_once_37 : decode cX12_once 37 = .ok (.iload_n 2, 1) := by decide +kernel
theorem dX12_once_38 : decode cX12_once 38 = .ok (.if_icmp .ne 19, 3) := by decide +kernel
theorem dX12_once_41 : decode cX12_once 41 = .ok (.aload_n 0, 1) := by decide +kernel
theorem dX12_once_42 : decode cX12_once 42 = .ok (.getfield 40, 3) := by decide +kernel
theorem dX12_once_45 : decode cX12_once 45 = .ok (.iload 4, 2) := by decide +kernel
theorem dX12_once_47 : decode cX12_once 47 = .ok (.iaload, 1) := by decide +kernel
theorem dX12_once_48 : decode cX12_once 48 = .ok (.iload_n 3, 1) := by decide +kernel
theorem dX12_once_49 : decode cX12_once 49 = .ok (.if_icmp .ne 8, 3) := by decide +kernel
theorem dX12_once_52 : decode cX12_once 52 = .ok (.aload_n 0, 1) := by decide +kernel
theorem dX12_once_53 : decode cX12_once 53 = .ok (.iconst 5, 1) := by decide +kernel
theorem dX12_once_54 : decode cX12_once 54 = .ok (.invokevirtual 174, 3) := by decide +kernel
theorem dX12_once_57 : decode cX12_once 57 = .ok (.iinc 4 1, 3) := by decide +kernel
theorem dX12_once_60 : decode cX12_once 60 = .ok (.goto (-57), 3) := by decide +kernel
theorem dX12_once_63 : decode cX12_once 63 = .ok (.return_, 1) := by decide +kernel
set_option maxRecDepth 100000 in
set_option maxHeartbeats 4000000 in
theorem w_X12_once_3 (X : XE) (p1 : Int) (p2 : Int) (p3 : Int) (hp1 : inR p1) (hp2 : inR p2) (hp3 : inR p3) {Q : Int → Mem → Prop} : ∀ (n : Nat) (x4 : Int) (σ : Mem), inR x4 → l_X12_once_3 p1 p2 p3 Q n x4 σ → ok X rm_X12_once RX12 cX12_once 5 none 0 Q 3 [(0, .ref (xad X 122)), (1, vI p1), (2, vI p2), (3, vI p3), (4, vI x4)] [] σ := by
  intro n
  induction n with
  | zero => intro x4 σ hx4 h; exact False.elim h
  | succ n ih =>
    intro x4 σ hx4 h
    refine ok_iload 4 (pc := 3) dX12_once_3 rfl ?_
    refine ok_aload_n 0 (pc := 5) dX12_once_5 rfl rfl ?_
    refine ok_wf (fun hw1 => ?_)
    refine ok_getI (pc := 6) dX12_once_6 fl_X12_181 sh_122 (Nat.le_of_ble_eq_true rfl) rfl rfl ?_
    refine ok_icmp_ge (tgt := 63) (pc := 9) dX12_once_9 rfl hx4 (hw1 _ _) (fun q2 => ?_) (fun q2 => ?_)
    · have h := iteF h q2
      exact ok_vret (pc := 63) dX12_once_63 rfl rfl h
    · have h := iteT h q2
      refine ok_aload_n 0 (pc := 12) dX12_once_12 rfl rfl ?_
      refine ok_getI (pc := 13) dX12_once_13 fl_X12_144 sh_122 (Nat.le_of_ble_eq_true rfl) rfl rfl ?_
      refine ok_if_ne (tgt := 63) (pc := 16) dX12_once_16 rfl (hw1 _ _) (fun q3 => ?_) (fun q3 => ?_)
      · have h := iteF h q3
        exact ok_vret (pc := 63) dX12_once_63 rfl rfl h
      · have h := iteT h q3
        refine ok_aload_n 0 (pc := 19) dX12_once_19 rfl rfl ?_
        refine ok_getR (pc := 20) dX12_once_20 fl_X12_34 sh_122 (Nat.le_of_ble_eq_true rfl) rfl rfl ?_
        refine ok_iload 4 (pc := 23) dX12_once_23 rfl ?_
        obtain ⟨h4, h⟩ := h
        obtain ⟨h5, h⟩ := h
        refine ok_iald (pc := 25) dX12_once_25 sh_131 (Nat.le_of_ble_eq_true rfl) rfl h4 h5 ?_
        refine ok_iload_n 1 (pc := 26) dX12_once_26 rfl rfl ?_
        refine ok_icmp_ne (tgt := 57) (pc := 27) dX12_once_27 rfl (hw1 _ _) hp1 (fun q6 => ?_) (fun q6 => ?_)
        · have h := iteF h q6
          refine ok_iinc (L' := [(4, vI (x4 + 1)), (0, .ref (xad X 122)), (1, vI p1), (2, vI p2), (3, vI p3)]) 4 (pc := 57) dX12_once_57 rfl rfl rfl ?_
          refine ok_goto (tgt := 3) (pc := 60) dX12_once_60 rfl ?_
          obtain ⟨h7, h⟩ := h
          refine ok_sub (L' := [(0, .ref (xad X 122)), (1, vI p1), (2, vI p2), (3, vI p3), (4, vI (x4 + 1))]) [1,2,3,4,0] rfl ?_
          exact ih (x4 + 1) σ h7 h
        · have h := iteT h q6
          refine ok_aload_n 0 (pc := 30) dX12_once_30 rfl rfl ?_
          refine ok_getR (pc := 31) dX12_once_31 fl_X12_37 sh_122 (Nat.le_of_ble_eq_true rfl) rfl rfl ?_
          refine ok_iload 4 (pc := 34) dX12_once_34 rfl ?_
          refine ok_iald (pc := 36) dX12_once_36 sh_132 (Nat.le_of_ble_eq_true rfl) rfl h4 h5 ?_
          refine ok_iload_n 2 (pc := 37) dX12_once_37 rfl rfl ?_
          refine ok_icmp_ne (tgt := 57) (pc := 38) dX12_once_38 rfl (hw1 _ _) hp2 (fun q8 => ?_) (fun q8 => ?_)
          · have h := iteF h q8
            refine ok_iinc (L' := [(4, vI (x4 + 1)), (0, .ref (xad X 122)), (1, vI p1), (2, vI p2), (3, vI p3)]) 4 (pc := 57) dX12_once_57 rfl rfl rfl ?_
            refine ok_goto (tgt := 3) (pc := 60) dX12_once_60 rfl ?_
            obtain ⟨h9, h⟩ := h
            refine ok_sub (L' := [(0, .ref (xad X 122)), (1, vI p1), (2, vI p2), (3, vI p3), (4, vI (x4 + 1))]) [1,2,3,4,0] rfl ?_
            exact ih (x4 + 1) σ h9 h
          · have h := iteT h q8
            refine ok_aload_n 0 (pc := 41) dX12_once_41 rfl rfl ?_
            refine ok_getR (pc := 42) dX12_once_42 fl_X12_40 sh_122 (Nat.le_of_ble_eq_true rfl) rfl rfl ?_
            refine ok_iload 4 (pc := 45) dX12_once_45 rfl ?_
            refine ok_iald (pc := 47) dX12_once_47 sh_133 (Nat.le_of_ble_eq_true rfl) rfl h4 h5 ?_
            refine ok_iload_n 3 (pc := 48) dX12_once_48 rfl rfl ?_
            refine ok_icmp_ne (tgt := 57) (pc := 49) dX12_once_49 rfl (hw1 _ _) hp3 (fun q10 => ?_) (fun q10 => ?_)
            · have h := iteF h q10
              refine ok_iinc (L' := [(4, vI (x4 + 1)), (0, .ref (xad X 122)), (1, vI p1), (2, vI p2), (3, vI p3)]) 4 (pc := 57) dX12_once_57 rfl rfl rfl ?_
              refine ok_goto (tgt := 3) (pc := 60) dX12_once_60 rfl ?_
              obtain ⟨h11, h⟩ := h
              refine ok_sub (L' := [(0, .ref (xad X 122)), (1, vI p1), (2, vI p2), (3, vI p3), (4, vI (x4 + 1))]) [1,2,3,4,0] rfl ?_
              exact ih (x4 + 1) σ h11 h
            · have h := iteT h q10
              refine ok_aload_n 0 (pc := 52) dX12_once_52 rfl rfl ?_
              refine ok_iconst (pc := 53) dX12_once_53 ?_
              refine ok_callVv (As := [vI 5]) (rest := []) (rm := rm_X12_fails) (pc := 54) dX12_once_54 me_X12_fails ml_X12_174 (ci := 12) rfl sh_122 (Nat.le_of_ble_eq_true rfl) rfl des_X12_fails rfl ⟨rfl, rfl, rfl, rfl⟩ rfl rfl (c_X12_fails X 5 (r_lit rfl) h) (fun σ14 h => ?_)
              refine ok_iinc (L' := [(4, vI (x4 + 1)), (0, .ref (xad X 122)), (1, vI p1), (2, vI p2), (3, vI p3)]) 4 (pc := 57) dX12_once_57 rfl rfl rfl ?_
              refine ok_goto (tgt := 3) (pc := 60) dX12_once_60 rfl ?_
              obtain ⟨h15, h⟩ := h
              refine ok_sub (L' := [(0, .ref (xad X 122)), (1, vI p1), (2, vI p2), (3, vI p3), (4, vI (x4 + 1))]) [1,2,3,4,0] rfl ?_
              exact ih (x4 + 1) σ14 h15 h
set_option maxRecDepth 100000 in
set_option maxHeartbeats 4000000 in
theorem c_X12_once (X : XE) (p1 : Int) (p2 : Int) (p3 : Int) (hp1 : inR p1) (hp2 : inR p2) (hp3 : inR p3) {σ : Mem} {Q : Int → Mem → Prop} (h : v_X12_once p1 p2 p3 σ Q) : CT X yX12_once cX12_once 5 none rm_X12_once 0 [.ref (xad X 122), vI p1, vI p2, vI p3] σ Q := by
  refine ct_of (own := RX12) (L := [(0, .ref (xad X 122)), (1, vI p1), (2, vI p2), (3, vI p3)]) rfl rfl (Nat.le_of_ble_eq_true rfl) rfl ?_
  refine ok_iconst (pc := 0) dX12_once_0 ?_
  refine ok_istore (L' := [(4, vI 0), (0, .ref (xad X 122)), (1, vI p1), (2, vI p2), (3, vI p3)]) (pc := 1) dX12_once_1 rfl rfl ?_
  refine ok_sub (L' := [(0, .ref (xad X 122)), (1, vI p1), (2, vI p2), (3, vI p3), (4, vI 0)]) [1,2,3,4,0] rfl ?_
  obtain ⟨n1, h⟩ := h
  exact w_X12_once_3 X p1 p2 p3 hp1 hp2 hp3 n1 0 σ (r_lit rfl) h
theorem dX12_readOf_0 : decode cX12_readOf 0 = .ok (.iconst 0, 1) := by decide +kernel
theorem dX12_readOf_1 : decode cX12_readOf 1 = .ok (.istore_n 3, 1) := by decide +kernel
theorem dX12_readOf_2 : decode cX12_readOf 2 = .ok (.iload_n 1, 1) := by decide +kernel
theorem dX12_readOf_3 : decode cX12_readOf 3 = .ok (.ifCond .eq 8, 3) := by decide +kernel
theorem dX12_readOf_6 : decode cX12_readOf 6 = .ok (.iload_n 1, 1) := by decide +kernel
theorem dX12_readOf_7 : decode cX12_readOf 7 = .ok (.iconst 2, 1) := by decide +kernel
theorem dX12_readOf_8 : decode cX12_readOf 8 = .ok (.if_icmp .ne 87, 3) := by decide +kernel
theorem dX12_readOf_11 : decode cX12_readOf 11 = .ok (.aload_n 0, 1) := by decide +kernel
theorem dX12_readOf_12 : decode cX12_readOf 12 = .ok (.invokevirtual 178, 3) := by decide +kernel
theorem dX12_readOf_15 : decode cX12_readOf 15 = .ok (.aload_n 0, 1) := by decide +kernel
theorem dX12_readOf_16 : decode cX12_readOf 16 = .ok (.getfield 144, 3) := by decide +kernel
theorem dX12_readOf_19 : decode cX12_readOf 19 = .ok (.ifCond .ne 50, 3) := by decide +kernel
theorem dX12_readOf_22 : decode cX12_readOf 22 = .ok (.aload_n 0, 1) := by decide +kernel
theorem dX12_readOf_23 : decode cX12_readOf 23 = .ok (.getfield 163, 3) := by decide +kernel
theorem dX12_readOf_26 : decode cX12_readOf 26 = .ok (.iconst 1, 1) := by decide +kernel
theorem dX12_readOf_27 : decode cX12_readOf 27 = .ok (.if_icmp .ne 37, 3) := by decide +kernel
theorem dX12_readOf_30 : decode cX12_readOf 30 = .ok (.aload_n 0, 1) := by decide +kernel
theorem dX12_readOf_31 : decode cX12_readOf 31 = .ok (.getfield 153, 3) := by decide +kernel
theorem dX12_readOf_34 : decode cX12_readOf 34 = .ok (.aload_n 0, 1) := by decide +kernel
theorem dX12_readOf_35 : decode cX12_readOf 35 = .ok (.getfield 147, 3) := by decide +kernel
theorem dX12_readOf_38 : decode cX12_readOf 38 = .ok (.isub, 1) := by decide +kernel
theorem dX12_readOf_39 : decode cX12_readOf 39 = .ok (.iconst 1, 1) := by decide +kernel
theorem dX12_readOf_40 : decode cX12_readOf 40 = .ok (.if_icmp .ne 24, 3) := by decide +kernel
theorem dX12_readOf_43 : decode cX12_readOf 43 = .ok (.aload_n 0, 1) := by decide +kernel
theorem dX12_readOf_44 : decode cX12_readOf 44 = .ok (.aload_n 0, 1) := by decide +kernel
theorem dX12_readOf_45 : decode cX12_readOf 45 = .ok (.getfield 147, 3) := by decide +kernel
theorem dX12_readOf_48 : decode cX12_readOf 48 = .ok (.invokevirtual 156, 3) := by decide +kernel
theorem dX12_readOf_51 : decode cX12_readOf 51 = .ok (.i2l, 1) := by decide +kernel
theorem dX12_readOf_52 : decode cX12_readOf 52 = .ok (.ldc2_w 166, 3) := by decide +kernel
theorem dX12_readOf_55 : decode cX12_readOf 55 = .ok (.ldc2_w 184, 3) := by decide +kernel
theorem dX12_readOf_58 : decode cX12_readOf 58 = .ok (.invokestatic 137, 3) := by decide +kernel
theorem dX12_readOf_61 : decode cX12_readOf 61 = .ok (.ifCond .ne 8, 3) := by decide +kernel
theorem dX12_readOf_64 : decode cX12_readOf 64 = .ok (.aload_n 0, 1) := by decide +kernel
theorem dX12_readOf_65 : decode cX12_readOf 65 = .ok (.iconst 2, 1) := by decide +kernel
theorem dX12_readOf_66 : decode cX12_readOf 66 = .ok (.invokevirtual 174, 3) := by decide +kernel
theorem dX12_readOf_69 : decode cX12_readOf 69 = .ok (.aload_n 0, 1) := by decide +kernel
theorem dX12_readOf_70 : decode cX12_readOf 70 = .ok (.getfield 144, 3) := by decide +kernel
theorem dX12_readOf_73 : decode cX12_readOf 73 = .ok (.ifCond .ne 17, 3) := by decide +kernel
theorem dX12_readOf_76 : decode cX12_readOf 76 = .ok (.aload_n 0, 1) := by decide +kernel
theorem dX12_readOf_77 : decode cX12_readOf 77 = .ok (.aload_n 0, 1) := by decide +kernel
theorem dX12_readOf_78 : decode cX12_readOf 78 = .ok (.getfield 147, 3) := by decide +kernel
theorem dX12_readOf_81 : decode cX12_readOf 81 = .ok (.invokevirtual 156, 3) := by decide +kernel
theorem dX12_readOf_84 : decode cX12_readOf 84 = .ok (.bipush 97, 2) := by decide +kernel
theorem dX12_readOf_86 : decode cX12_readOf 86 = .ok (.isub, 1) := by decide +kernel
theorem dX12_readOf_87 : decode cX12_readOf 87 = .ok (.goto 4, 3) := by decide +kernel
theorem dX12_readOf_90 : decode cX12_readOf 90 = .ok (.iconst 0, 1) := by decide +kernel
theorem dX12_readOf_91 : decode cX12_readOf 91 = .ok (.istore_n 3, 1) := by decide +kernel
theorem dX12_readOf_92 : decode cX12_readOf 92 = .ok (.goto 57, 3) := by decide +kernel
theorem dX12_readOf_95 : decode cX12_readOf 95 = .ok (.iload_n 1, 1) := by decide +kernel
theorem dX12_readOf_96 : decode cX12_readOf 96 = .ok (.iconst 1, 1) := by decide +kernel
theorem dX12_readOf_97 : decode cX12_readOf 97 = .ok (.if_icmp .ne 52, 3) := by decide +kernel
theorem dX12_readOf_100 : decode cX12_readOf 100 = .ok (.aload_n 0, 1) := by decide +kernel
theorem dX12_readOf_101 : decode cX12_readOf 101 = .ok (.invokevirtual 178, 3) := by decide +kernel
theorem dX12_readOf_104 : decode cX12_readOf 104 = .ok (.aload_n 0, 1) := by decide +kernel
theorem dX12_readOf_105 : decode cX12_readOf 105 = .ok (.getfield 144, 3) := by decide +kernel
theorem dX12_readOf_108 : decode cX12_readOf 108 = .ok (.ifCond .ne 16, 3) := by decide +kernel
theorem dX12_readOf_111 : decode cX12_readOf 111 = .ok (.aload_n 0, 1) := by decide +kernel
theorem dX12_readOf_112 : decode cX12_readOf 112 = .ok (.getfield 163, 3) := by decide +kernel
theorem dX12_readOf_115 : decode cX12_readOf 115 = .ok (.iconst 2, 1) := by decide +kernel
theorem dX12_readOf_116 : decode cX12_readOf 116 = .ok (.if_icmp .eq 8, 3) := by decide +kernel
theorem dX12_readOf_119 : decode cX12_readOf 119 = .ok (.aload_n 0, 1) := by decide +kernel
theorem dX12_readOf_120 : decode cX12_readOf 120 = .ok (.iconst 2, 1) := by decide +kernel
theorem dX12_readOf_121 : decode cX12_readOf 121 = .ok (.invokevirtual 174, 3) := by decide +kernel
theorem dX12_readOf_124 : decode cX12_readOf 124 = .ok (.aload_n 0, 1) := by decide +kernel
theorem dX12_readOf_125 : decode cX12_readOf 125 = .ok (.getfield 144, 3) := by decide +kernel
theorem dX12_readOf_128 : decode cX12_readOf 128 = .ok (.ifCond .ne 16, 3) := by decide +kernel
theorem dX12_readOf_131 : decode cX12_readOf 131 = .ok (.aload_n 0, 1) := by decide +kernel
theorem dX12_readOf_132 : decode cX12_readOf 132 = .ok (.getfield 160, 3) := by decide +kernel
theorem dX12_readOf_135 : decode cX12_readOf 135 = .ok (.iconst 5, 1) := by decide +kernel
theorem dX12_readOf_136 : decode cX12_readOf 136 = .ok (.if_icmp .le 8, 3) := by decide +kernel
theorem dX12_readOf_139 : decode cX12_readOf 139 = .ok (.aload_n 0, 1) := by decide +kernel
theorem dX12_readOf_140 : decode cX12_readOf 140 = .ok (.iconst 3, 1) := by decide +kernel
theorem dX12_readOf_141 : decode cX12_readOf 141 = .ok (.invokevirtual 174, 3) := by decide +kernel
theorem dX12_readOf_144 : decode cX12_readOf 144 = .ok (.aload_n 0, 1) := by decide +kernel
theorem dX12_readOf_145 : decode cX12_readOf 145 = .ok (.getfield 160, 3) := by decide +kernel
theorem dX12_readOf_148 : decode cX12_readOf 148 = .ok (.istore_n 3, 1) := by decide +kernel
theorem dX12_readOf_149 : decode cX12_readOf 149 = .ok (.aload_n 0, 1) := by decide +kernel
theorem dX12_readOf_150 : decode cX12_readOf 150 = .ok (.iload_n 1, 1) := by decide +kernel
theorem dX12_readOf_151 : decode cX12_readOf 151 = .ok (.iload_n 3, 1) := by decide +kernel
theorem dX12_readOf_152 : decode cX12_readOf 152 = .ok (.iload_n 2, 1) := by decide +kernel
theorem dX12_readOf_153 : decode cX12_readOf 153 = .ok (.invokevirtual 186, 3) := by decide +kernel
theorem dX12_readOf_156 : decode cX12_readOf 156 = .ok (.aload_n 0, 1) := by decide +kernel
theorem dX12_readOf_157 : decode cX12_readOf 157 = .ok (.invokevirtual 178, 3) := by decide +kernel
theorem dX12_readOf_160 : decode cX12_readOf 160 = .ok (.iload_n 3, 1) := by decide +kernel
theorem dX12_readOf_161 : decode cX12_readOf 161 = .ok (.ireturn, 1) := by decide +kernel
set_option maxRecDepth 100000 in
set_option maxHeartbeats 4000000 in
theorem w_X12_readOf_149 (X : XE) (p1 : Int) (p2 : Int) (hp1 : inR p1) (hp2 : inR p2) (x3 : Int) (hx3 : inR x3) {Q : Int → Mem → Prop} {σ : Mem} (h : j_X12_readOf_149 p1 p2 Q x3 σ) : ok X rm_X12_readOf RX12 cX12_readOf 4 (some .int) 1 Q 149 [(0, .ref (xad X 122)), (1, vI p1), (2, vI p2), (3, vI x3)] [] σ := by
  refine ok_aload_n 0 (pc := 149) dX12_readOf_149 rfl rfl ?_
  refine ok_iload_n 1 (pc := 150) dX12_readOf_150 rfl rfl ?_
  refine ok_iload_n 3 (pc := 151) dX12_readOf_151 rfl rfl ?_
  refine ok_iload_n 2 (pc := 152) dX12_readOf_152 rfl rfl ?_
  refine ok_callVv (As := [vI p1, vI x3, vI p2]) (rest := []) (rm := rm_X12_once) (pc := 153) dX12_readOf_153 me_X12_once ml_X12_186 (ci := 12) rfl sh_122 (Nat.le_of_ble_eq_true rfl) rfl des_X12_once rfl ⟨rfl, rfl, rfl, rfl⟩ rfl rfl (c_X12_once X p1 x3 p2 hp1 hx3 hp2 h) (fun σ3 h => ?_)
  refine ok_aload_n 0 (pc := 156) dX12_readOf_156 rfl rfl ?_
  refine ok_callVv (As := []) (rest := []) (rm := rm_X12_next) (pc := 157) dX12_readOf_157 me_X12_next ml_X12_178 (ci := 12) rfl sh_122 (Nat.le_of_ble_eq_true rfl) rfl des_X12_next rfl ⟨rfl, rfl, rfl, rfl⟩ rfl rfl (c_X12_next X h) (fun σ6 h => ?_)
  refine ok_iload_n 3 (pc := 160) dX12_readOf_160 rfl rfl ?_
  exact ok_iret (pc := 161) dX12_readOf_161 rfl rfl rfl hx3 h
set_option maxRecDepth 100000 in
set_option maxHeartbeats 4000000 in
theorem w_X12_readOf_69 (X : XE) (p1 : Int) (p2 : Int) (hp1 : inR p1) (hp2 : inR p2) {Q : Int → Mem → Prop} {σ : Mem} (h : j_X12_readOf_69 p1 p2 Q σ) : ok X rm_X12_readOf RX12 cX12_readOf 4 (some .int) 1 Q 69 [(0, .ref (xad X 122)), (1, vI p1), (2, vI p2)] [] σ := by
  refine ok_aload_n 0 (pc := 69) dX12_readOf_69 rfl rfl ?_
  refine ok_wf (fun hw1 => ?_)
  refine ok_getI (pc := 70) dX12_readOf_70 fl_X12_144 sh_122 (Nat.le_of_ble_eq_true rfl) rfl rfl ?_
  refine ok_if_ne (tgt := 90) (pc := 73) dX12_readOf_73 rfl (hw1 _ _) (fun q2 => ?_) (fun q2 => ?_)
  · have h := iteF h q2
    refine ok_iconst (pc := 90) dX12_readOf_90 ?_
    refine ok_istore_n (L' := [(3, vI 0), (0, .ref (xad X 122)), (1, vI p1), (2, vI p2)]) (pc := 91) dX12_readOf_91 rfl rfl rfl ?_
    refine ok_goto (tgt := 149) (pc := 92) dX12_readOf_92 rfl ?_
    refine ok_sub (L' := [(0, .ref (xad X 122)), (1, vI p1), (2, vI p2), (3, vI 0)]) [1,2,3,0] rfl ?_
    exact w_X12_readOf_149 X p1 p2 hp1 hp2 0 (r_lit rfl) h
  · have h := iteT h q2
    refine ok_aload_n 0 (pc := 76) dX12_readOf_76 rfl rfl ?_
    refine ok_aload_n 0 (pc := 77) dX12_readOf_77 rfl rfl ?_
    refine ok_getI (pc := 78) dX12_readOf_78 fl_X12_147 sh_122 (Nat.le_of_ble_eq_true rfl) rfl rfl ?_
    refine ok_callVi (As := [vI (σ 122 7)]) (rest := []) (rm := rm_X12_byteAt) (pc := 81) dX12_readOf_81 me_X12_byteAt ml_X12_156 (ci := 12) rfl sh_122 (Nat.le_of_ble_eq_true rfl) rfl des_X12_byteAt rfl ⟨rfl, rfl, rfl, rfl⟩ rfl rfl (c_X12_byteAt X (σ 122 7) (hw1 _ _) h) (fun r4 σ5 h3 h => ?_)
    refine ok_bipush (pc := 84) dX12_readOf_84 rfl ?_
    refine ok_isub (pc := 86) dX12_readOf_86 ?_
    refine ok_goto (tgt := 91) (pc := 87) dX12_readOf_87 rfl ?_
    refine ok_istore_n (L' := [(3, vI (r4 - 97)), (0, .ref (xad X 122)), (1, vI p1), (2, vI p2)]) (pc := 91) dX12_readOf_91 rfl rfl rfl ?_
    refine ok_goto (tgt := 149) (pc := 92) dX12_readOf_92 rfl ?_
    obtain ⟨h6, h⟩ := h
    refine ok_sub (L' := [(0, .ref (xad X 122)), (1, vI p1), (2, vI p2), (3, vI (r4 - 97))]) [1,2,3,0] rfl ?_
    exact w_X12_readOf_149 X p1 p2 hp1 hp2 (r4 - 97) h6 h
set_option maxRecDepth 100000 in
set_option maxHeartbeats 4000000 in
theorem w_X12_readOf_64 (X : XE) (p1 : Int) (p2 : Int) (hp1 : inR p1) (hp2 : inR p2) {Q : Int → Mem → Prop} {σ : Mem} (h : j_X12_readOf_64 p1 p2 Q σ) : ok X rm_X12_readOf RX12 cX12_readOf 4 (some .int) 1 Q 64 [(0, .ref (xad X 122)), (1, vI p1), (2, vI p2)] [] σ := by
  refine ok_aload_n 0 (pc := 64) dX12_readOf_64 rfl rfl ?_
  refine ok_iconst (pc := 65) dX12_readOf_65 ?_
  refine ok_callVv (As := [vI 2]) (rest := []) (rm := rm_X12_fails) (pc := 66) dX12_readOf_66 me_X12_fails ml_X12_174 (ci := 12) rfl sh_122 (Nat.le_of_ble_eq_true rfl) rfl des_X12_fails rfl ⟨rfl, rfl, rfl, rfl⟩ rfl rfl (c_X12_fails X 2 (r_lit rfl) h) (fun σ3 h => ?_)
  exact w_X12_readOf_69 X p1 p2 hp1 hp2   h
set_option maxRecDepth 100000 in
set_option maxHeartbeats 4000000 in
theorem w_X12_readOf_11 (X : XE) (p1 : Int) (p2 : Int) (hp1 : inR p1) (hp2 : inR p2) {Q : Int → Mem → Prop} {σ : Mem} (h : j_X12_readOf_11 p1 p2 Q σ) : ok X rm_X12_readOf RX12 cX12_readOf 4 (some .int) 1 Q 11 [(0, .ref (xad X 122)), (1, vI p1), (2, vI p2)] [] σ := by
  refine ok_aload_n 0 (pc := 11) dX12_readOf_11 rfl rfl ?_
  refine ok_callVv (As := []) (rest := []) (rm := rm_X12_next) (pc := 12) dX12_readOf_12 me_X12_next ml_X12_178 (ci := 12) rfl sh_122 (Nat.le_of_ble_eq_true rfl) rfl des_X12_next rfl ⟨rfl, rfl, rfl, rfl⟩ rfl rfl (c_X12_next X h) (fun σ3 h => ?_)
  refine ok_aload_n 0 (pc := 15) dX12_readOf_15 rfl rfl ?_
  refine ok_wf (fun hw4 => ?_)
  refine ok_getI (pc := 16) dX12_readOf_16 fl_X12_144 sh_122 (Nat.le_of_ble_eq_true rfl) rfl rfl ?_
  refine ok_if_ne (tgt := 69) (pc := 19) dX12_readOf_19 rfl (hw4 _ _) (fun q5 => ?_) (fun q5 => ?_)
  · have h := iteF h q5
    exact w_X12_readOf_69 X p1 p2 hp1 hp2   h
  · have h := iteT h q5
    refine ok_aload_n 0 (pc := 22) dX12_readOf_22 rfl rfl ?_
    refine ok_getI (pc := 23) dX12_readOf_23 fl_X12_163 sh_122 (Nat.le_of_ble_eq_true rfl) rfl rfl ?_
    refine ok_iconst (pc := 26) dX12_readOf_26 ?_
    refine ok_icmp_ne (tgt := 64) (pc := 27) dX12_readOf_27 rfl (hw4 _ _) (r_lit rfl) (fun q6 => ?_) (fun q6 => ?_)
    · have h := iteF h q6
      exact w_X12_readOf_64 X p1 p2 hp1 hp2   h
    · have h := iteT h q6
      refine ok_aload_n 0 (pc := 30) dX12_readOf_30 rfl rfl ?_
      refine ok_getI (pc := 31) dX12_readOf_31 fl_X12_153 sh_122 (Nat.le_of_ble_eq_true rfl) rfl rfl ?_
      refine ok_aload_n 0 (pc := 34) dX12_readOf_34 rfl rfl ?_
      refine ok_getI (pc := 35) dX12_readOf_35 fl_X12_147 sh_122 (Nat.le_of_ble_eq_true rfl) rfl rfl ?_
      refine ok_isub (pc := 38) dX12_readOf_38 ?_
      refine ok_iconst (pc := 39) dX12_readOf_39 ?_
      obtain ⟨h7, h⟩ := h
      refine ok_icmp_ne (tgt := 64) (pc := 40) dX12_readOf_40 rfl h7 (r_lit rfl) (fun q8 => ?_) (fun q8 => ?_)
      · have h := iteF h q8
        exact w_X12_readOf_64 X p1 p2 hp1 hp2   h
      · have h := iteT h q8
        refine ok_aload_n 0 (pc := 43) dX12_readOf_43 rfl rfl ?_
        refine ok_aload_n 0 (pc := 44) dX12_readOf_44 rfl rfl ?_
        refine ok_getI (pc := 45) dX12_readOf_45 fl_X12_147 sh_122 (Nat.le_of_ble_eq_true rfl) rfl rfl ?_
        refine ok_callVi (As := [vI (σ3 122 7)]) (rest := []) (rm := rm_X12_byteAt) (pc := 48) dX12_readOf_48 me_X12_byteAt ml_X12_156 (ci := 12) rfl sh_122 (Nat.le_of_ble_eq_true rfl) rfl des_X12_byteAt rfl ⟨rfl, rfl, rfl, rfl⟩ rfl rfl (c_X12_byteAt X (σ3 122 7) (hw4 _ _) h) (fun r10 σ11 h9 h => ?_)
        refine ok_i2l (pc := 51) dX12_readOf_51 h9 ?_
        refine ok_ldc2 (pc := 52) dX12_readOf_52 cn_X12_166 ?_
        refine ok_ldc2 (pc := 55) dX12_readOf_55 cn_X12_184 ?_
        refine ok_callSi (As := [vL r10, vL 97, vL 100]) (rest := []) (rm := rm_X12_in) (pc := 58) dX12_readOf_58 me_X12_in ml_X12_137 des_X12_in rfl ⟨rfl, rfl, rfl, rfl⟩ rfl rfl (c_X12_in X r10 97 100 (l_of_r h9) (l_of_r (r_lit rfl)) (l_of_r (r_lit rfl)) h) (fun r13 σ14 h12 h => ?_)
        refine ok_if_ne (tgt := 69) (pc := 61) dX12_readOf_61 rfl h12 (fun q15 => ?_) (fun q15 => ?_)
        · have h := iteF h q15
          exact w_X12_readOf_69 X p1 p2 hp1 hp2   h
        · have h := iteT h q15
          exact w_X12_readOf_64 X p1 p2 hp1 hp2   h
set_option maxRecDepth 100000 in
set_option maxHeartbeats 4000000 in
theorem w_X12_readOf_124 (X : XE) (p1 : Int) (p2 : Int) (hp1 : inR p1) (hp2 : inR p2) {Q : Int → Mem → Prop} {σ : Mem} (h : j_X12_readOf_124 p1 p2 Q σ) : ok X rm_X12_readOf RX12 cX12_readOf 4 (some .int) 1 Q 124 [(0, .ref (xad X 122)), (1, vI p1), (2, vI p2)] [] σ := by
  refine ok_aload_n 0 (pc := 124) dX12_readOf_124 rfl rfl ?_
  refine ok_wf (fun hw1 => ?_)
  refine ok_getI (pc := 125) dX12_readOf_125 fl_X12_144 sh_122 (Nat.le_of_ble_eq_true rfl) rfl rfl ?_
  refine ok_if_ne (tgt := 144) (pc := 128) dX12_readOf_128 rfl (hw1 _ _) (fun q2 => ?_) (fun q2 => ?_)
  · have h := iteF h q2
    refine ok_aload_n 0 (pc := 144) dX12_readOf_144 rfl rfl ?_
    refine ok_getI (pc := 145) dX12_readOf_145 fl_X12_160 sh_122 (Nat.le_of_ble_eq_true rfl) rfl rfl ?_
    refine ok_istore_n (L' := [(3, vI (σ 122 9)), (0, .ref (xad X 122)), (1, vI p1), (2, vI p2)]) (pc := 148) dX12_readOf_148 rfl rfl rfl ?_
    refine ok_sub (L' := [(0, .ref (xad X 122)), (1, vI p1), (2, vI p2), (3, vI (σ 122 9))]) [1,2,3,0] rfl ?_
    exact w_X12_readOf_149 X p1 p2 hp1 hp2 (σ 122 9) (hw1 _ _) h
  · have h := iteT h q2
    refine ok_aload_n 0 (pc := 131) dX12_readOf_131 rfl rfl ?_
    refine ok_getI (pc := 132) dX12_readOf_132 fl_X12_160 sh_122 (Nat.le_of_ble_eq_true rfl) rfl rfl ?_
    refine ok_iconst (pc := 135) dX12_readOf_135 ?_
    refine ok_icmp_le (tgt := 144) (pc := 136) dX12_readOf_136 rfl (hw1 _ _) (r_lit rfl) (fun q3 => ?_) (fun q3 => ?_)
    · have h := iteF h q3
      refine ok_aload_n 0 (pc := 144) dX12_readOf_144 rfl rfl ?_
      refine ok_getI (pc := 145) dX12_readOf_145 fl_X12_160 sh_122 (Nat.le_of_ble_eq_true rfl) rfl rfl ?_
      refine ok_istore_n (L' := [(3, vI (σ 122 9)), (0, .ref (xad X 122)), (1, vI p1), (2, vI p2)]) (pc := 148) dX12_readOf_148 rfl rfl rfl ?_
      refine ok_sub (L' := [(0, .ref (xad X 122)), (1, vI p1), (2, vI p2), (3, vI (σ 122 9))]) [1,2,3,0] rfl ?_
      exact w_X12_readOf_149 X p1 p2 hp1 hp2 (σ 122 9) (hw1 _ _) h
    · have h := iteT h q3
      refine ok_aload_n 0 (pc := 139) dX12_readOf_139 rfl rfl ?_
      refine ok_iconst (pc := 140) dX12_readOf_140 ?_
      refine ok_callVv (As := [vI 3]) (rest := []) (rm := rm_X12_fails) (pc := 141) dX12_readOf_141 me_X12_fails ml_X12_174 (ci := 12) rfl sh_122 (Nat.le_of_ble_eq_true rfl) rfl des_X12_fails rfl ⟨rfl, rfl, rfl, rfl⟩ rfl rfl (c_X12_fails X 3 (r_lit rfl) h) (fun σ6 h => ?_)
      refine ok_aload_n 0 (pc := 144) dX12_readOf_144 rfl rfl ?_
      refine ok_wf (fun hw7 => ?_)
      refine ok_getI (pc := 145) dX12_readOf_145 fl_X12_160 sh_122 (Nat.le_of_ble_eq_true rfl) rfl rfl ?_
      refine ok_istore_n (L' := [(3, vI (σ6 122 9)), (0, .ref (xad X 122)), (1, vI p1), (2, vI p2)]) (pc := 148) dX12_readOf_148 rfl rfl rfl ?_
      refine ok_sub (L' := [(0, .ref (xad X 122)), (1, vI p1), (2, vI p2), (3, vI (σ6 122 9))]) [1,2,3,0] rfl ?_
      exact w_X12_readOf_149 X p1 p2 hp1 hp2 (σ6 122 9) (hw7 _ _) h
set_option maxRecDepth 100000 in
set_option maxHeartbeats 4000000 in
theorem c_X12_readOf (X : XE) (p1 : Int) (p2 : Int) (hp1 : inR p1) (hp2 : inR p2) {σ : Mem} {Q : Int → Mem → Prop} (h : v_X12_readOf p1 p2 σ Q) : CT X yX12_readOf cX12_readOf 4 (some .int) rm_X12_readOf 1 [.ref (xad X 122), vI p1, vI p2] σ Q := by
  refine ct_of (own := RX12) (L := [(0, .ref (xad X 122)), (1, vI p1), (2, vI p2)]) rfl rfl (Nat.le_of_ble_eq_true rfl) rfl ?_
  refine ok_iconst (pc := 0) dX12_readOf_0 ?_
  refine ok_istore_n (L' := [(3, vI 0), (0, .ref (xad X 122)), (1, vI p1), (2, vI p2)]) (pc := 1) dX12_readOf_1 rfl rfl rfl ?_
  refine ok_iload_n 2 (pc := 2) dX12_readOf_2 rfl rfl ?_
  refine ok_if_eq (tgt := 11) (pc := 3) dX12_readOf_3 rfl hp1 (fun q1 => ?_) (fun q1 => ?_)
  · have h := iteT h q1
    refine ok_sub (L' := [(0, .ref (xad X 122)), (1, vI p1), (2, vI p2)]) [1,2,3] rfl ?_
    exact w_X12_readOf_11 X p1 p2 hp1 hp2   h
  · have h := iteF h q1
    refine ok_iload_n 2 (pc := 6) dX12_readOf_6 rfl rfl ?_
    refine ok_iconst (pc := 7) dX12_readOf_7 ?_
    refine ok_icmp_ne (tgt := 95) (pc := 8) dX12_readOf_8 rfl hp1 (r_lit rfl) (fun q2 => ?_) (fun q2 => ?_)
    · have h := iteF h q2
      refine ok_iload_n 2 (pc := 95) dX12_readOf_95 rfl rfl ?_
      refine ok_iconst (pc := 96) dX12_readOf_96 ?_
      refine ok_icmp_ne (tgt := 149) (pc := 97) dX12_readOf_97 rfl hp1 (r_lit rfl) (fun q3 => ?_) (fun q3 => ?_)
      · have h := iteF h q3
        refine ok_sub (L' := [(0, .ref (xad X 122)), (1, vI p1), (2, vI p2), (3, vI 0)]) [1,2,3,0] rfl ?_
        exact w_X12_readOf_149 X p1 p2 hp1 hp2 0 (r_lit rfl) h
      · have h := iteT h q3
        refine ok_aload_n 1 (pc := 100) dX12_readOf_100 rfl rfl ?_
        refine ok_callVv (As := []) (rest := []) (rm := rm_X12_next) (pc := 101) dX12_readOf_101 me_X12_next ml_X12_178 (ci := 12) rfl sh_122 (Nat.le_of_ble_eq_true rfl) rfl des_X12_next rfl ⟨rfl, rfl, rfl, rfl⟩ rfl rfl (c_X12_next X h) (fun σ6 h => ?_)
        refine ok_aload_n 1 (pc := 104) dX12_readOf_104 rfl rfl ?_
        refine ok_wf (fun hw7 => ?_)
        refine ok_getI (pc := 105) dX12_readOf_105 fl_X12_144 sh_122 (Nat.le_of_ble_eq_true rfl) rfl rfl ?_
        refine ok_if_ne (tgt := 124) (pc := 108) dX12_readOf_108 rfl (hw7 _ _) (fun q8 => ?_) (fun q8 => ?_)
        · have h := iteF h q8
          refine ok_sub (L' := [(0, .ref (xad X 122)), (1, vI p1), (2, vI p2)]) [1,2,3] rfl ?_
          exact w_X12_readOf_124 X p1 p2 hp1 hp2   h
        · have h := iteT h q8
          refine ok_aload_n 1 (pc := 111) dX12_readOf_111 rfl rfl ?_
          refine ok_getI (pc := 112) dX12_readOf_112 fl_X12_163 sh_122 (Nat.le_of_ble_eq_true rfl) rfl rfl ?_
          refine ok_iconst (pc := 115) dX12_readOf_115 ?_
          refine ok_icmp_eq (tgt := 124) (pc := 116) dX12_readOf_116 rfl (hw7 _ _) (r_lit rfl) (fun q9 => ?_) (fun q9 => ?_)
          · have h := iteT h q9
            refine ok_sub (L' := [(0, .ref (xad X 122)), (1, vI p1), (2, vI p2)]) [1,2,3] rfl ?_
            exact w_X12_readOf_124 X p1 p2 hp1 hp2   h
          · have h := iteF h q9
            refine ok_aload_n 1 (pc := 119) dX12_readOf_119 rfl rfl ?_
            refine ok_iconst (pc := 120) dX12_readOf_120 ?_
            refine ok_callVv (As := [vI 2]) (rest := []) (rm := rm_X12_fails) (pc := 121) dX12_readOf_121 me_X12_fails ml_X12_174 (ci := 12) rfl sh_122 (Nat.le_of_ble_eq_true rfl) rfl des_X12_fails rfl ⟨rfl, rfl, rfl, rfl⟩ rfl rfl (c_X12_fails X 2 (r_lit rfl) h) (fun σ12 h => ?_)
            refine ok_sub (L' := [(0, .ref (xad X 122)), (1, vI p1), (2, vI p2)]) [1,2,3] rfl ?_
            exact w_X12_readOf_124 X p1 p2 hp1 hp2   h
    · have h := iteT h q2
      refine ok_sub (L' := [(0, .ref (xad X 122)), (1, vI p1), (2, vI p2)]) [1,2,3] rfl ?_
      exact w_X12_readOf_11 X p1 p2 hp1 hp2   h
theorem dX12_readLine_0 : decode cX12_readLine 0 = .ok (.aload_n 0, 1) := by decide +kernel
theorem dX12_readLine_1 : decode cX12_readLine 1 = .ok (.invokevirtual 190, 3) := by decide +kernel
theorem dX12_readLine_4 : decode cX12_readLine 4 = .ok (.istore_n 1, 1) := by decide +kernel
theorem dX12_readLine_5 : decode cX12_readLine 5 = .ok (.iload_n 1, 1) := by decide +kernel
theorem dX12_readLine_6 : decode cX12_readLine 6 = .ok (.bipush (-4), 2) := by decide +kernel
theorem dX12_readLine_8 : decode cX12_readLine 8 = .ok (.if_icmp .ne 11, 3) := by decide +kernel
theorem dX12_readLine_11 : decode cX12_readLine 11 = .ok (.aload_n 0, 1) := by decide +kernel
theorem dX12_readLine_12 : decode cX12_readLine 12 = .ok (.iconst 2, 1) := by decide +kernel
theorem dX12_readLine_13 : decode cX12_readLine 13 = .ok (.invokevirtual 174, 3) := by decide +kernel
theorem dX12_readLine_16 : decode cX12_readLine 16 = .ok (.goto 17, 3) := by decide +kernel
theorem dX12_readLine_19 : decode cX12_readLine 19 = .ok (.aload_n 0, 1) := by decide +kernel
theorem dX12_readLine_20 : decode cX12_readLine 20 = .ok (.getfield 181, 3) := by decide +kernel
theorem dX12_readLine_23 : decode cX12_readLine 23 = .ok (.bipush 16, 2) := by decide +kernel
theorem dX12_readLine_25 : decode cX12_readLine 25 = .ok (.if_icmp .ne 8, 3) := by decide +kernel
theorem dX12_readLine_28 : decode cX12_readLine 28 = .ok (.aload_n 0, 1) := by decide +kernel
theorem dX12_readLine_29 : decode cX12_readLine 29 = .ok (.iconst 4, 1) := by decide +kernel
theorem dX12_readLine_30 : decode cX12_readLine 30 = .ok (.invokevirtual 174, 3) := by decide +kernel
theorem dX12_readLine_33 : decode cX12_readLine 33 = .ok (.iconst 0, 1) := by decide +kernel
theorem dX12_readLine_34 : decode cX12_readLine 34 = .ok (.istore_n 2, 1) := by decide +kernel
theorem dX12_readLine_35 : decode cX12_readLine 35 = .ok (.aload_n 0, 1) := by decide +kernel
theorem dX12_readLine_36 : decode cX12_readLine 36 = .ok (.getfield 144, 3) := by decide +kernel
theorem dX12_readLine_39 : decode cX12_readLine 39 = .ok (.ifCond .ne 42, 3) := by decide +kernel
theorem dX12_readLine_42 : decode cX12_readLine 42 = .ok (.iload_n 1, 1) := by decide +kernel
theorem dX12_readLine_43 : decode cX12_readLine 43 = .ok (.iconst 5, 1) := by decide +kernel
theorem dX12_readLine_44 : decode cX12_readLine 44 = .ok (.if_icmp .ne 37, 3) := by decide +kernel
theorem dX12_readLine_47 : decode cX12_readLine 47 = .ok (.aload_n 0, 1) := by decide +kernel
theorem dX12_readLine_48 : decode cX12_readLine 48 = .ok (.invokevirtual 178, 3) := by decide +kernel
theorem dX12_readLine_51 : decode cX12_readLine 51 = .ok (.aload_n 0, 1) := by decide +kernel
theorem dX12_readLine_52 : decode cX12_readLine 52 = .ok (.iconst 0, 1) := by decide +kernel
theorem dX12_readLine_53 : decode cX12_readLine 53 = .ok (.sipush 9999, 3) := by decide +kernel
theorem dX12_readLine_56 : decode cX12_readLine 56 = .ok (.invokevirtual 194, 3) := by decide +kernel
theorem dX12_readLine_59 : decode cX12_readLine 59 = .ok (.istore_n 2, 1) := by decide +kernel
theorem dX12_readLine_60 : decode cX12_readLine 60 = .ok (.aload_n 0, 1) := by decide +kernel
theorem dX12_readLine_61 : decode cX12_readLine 61 = .ok (.invokevirtual 190, 3) := by decide +kernel
theorem dX12_readLine_64 : decode cX12_readLine 64 = .ok (.istore_n 1, 1) := by decide +kernel
theorem dX12_readLine_65 : decode cX12_readLine 65 = .ok (.iload_n 1, 1) := by decide +kernel
theorem dX12_readLine_66 : decode cX12_readLine 66 = .ok (.bipush (-4), 2) := by decide +kernel
theorem dX12_readLine_68 : decode cX12_readLine 68 = .ok (.if_icmp .eq 8, 3) := by decide +kernel
theorem dX12_readLine_71 : decode cX12_readLine 71 = .ok (.iload_n 1, 1) := by decide +kernel
theorem dX12_readLine_72 : decode cX12_readLine 72 = .ok (.iconst 5, 1) := by decide +kernel
theorem dX12_readLine_73 : decode cX12_readLine 73 = .ok (.if_icmp .ne 8, 3) := by decide +kernel
theorem dX12_readLine_76 : decode cX12_readLine 76 = .ok (.aload_n 0, 1) := by decide +kernel
theorem dX12_readLine_77 : decode cX12_readLine 77 = .ok (.iconst 2, 1) := by decide +kernel
theorem dX12_readLine_78 : decode cX12_readLine 78 = .ok (.invokevirtual 174, 3) := by decide +kernel
theorem dX12_readLine_81 : decode cX12_readLine 81 = .ok (.aload_n 0, 1) := by decide +kernel
theorem dX12_readLine_82 : decode cX12_readLine 82 = .ok (.getfield 144, 3) := by decide +kernel
theorem dX12_readLine_85 : decode cX12_readLine 85 = .ok (.ifCond .le 4, 3) := by decide +kernel
theorem dX12_readLine_88 : decode cX12_readLine 88 = .ok (.return_, 1) := by decide +kernel
theorem dX12_readLine_89 : decode cX12_readLine 89 = .ok (.aload_n 0, 1) := by decide +kernel
theorem dX12_readLine_90 : decode cX12_readLine 90 = .ok (.iload_n 1, 1) := by decide +kernel
theorem dX12_readLine_91 : decode cX12_readLine 91 = .ok (.iload_n 2, 1) := by decide +kernel
theorem dX12_readLine_92 : decode cX12_readLine 92 = .ok (.invokevirtual 198, 3) := by decide +kernel
theorem dX12_readLine_95 : decode cX12_readLine 95 = .ok (.istore_n 3, 1) := by decide +kernel
theorem dX12_readLine_96 : decode cX12_readLine 96 = .ok (.aload_n 0, 1) := by decide +kernel
theorem dX12_readLine_97 : decode cX12_readLine 97 = .ok (.iload_n 1, 1) := by decide +kernel
theorem dX12_readLine_98 : decode cX12_readLine 98 = .ok (.ifCond .eq 8, 3) := by decide +kernel
theorem dX12_readLine_101 : decode cX12_readLine 101 = .ok (.iload_n 1, 1) := by decide +kernel
theorem dX12_readLine_102 : decode cX12_readLine 102 = .ok (.iconst 3, 1) := by decide +kernel
theorem dX12_readLine_103 : decode cX12_readLine 103 = .ok (.if_icmp .ne 7, 3) := by decide +kernel
theorem dX12_readLine_106 : decode cX12_readLine 106 = .ok (.iconst 1, 1) := by decide +kernel
theorem dX12_readLine_107 : decode cX12_readLine 107 = .ok (.goto 4, 3) := by decide +kernel
theorem dX12_readLine_110 : decode cX12_readLine 110 = .ok (.iconst 0, 1) := by decide +kernel
theorem dX12_readLine_111 : decode cX12_readLine 111 = .ok (.iload_n 1, 1) := by decide +kernel
theorem dX12_readLine_112 : decode cX12_readLine 112 = .ok (.ifCond .ne 9, 3) := by decide +kernel
theorem dX12_readLine_115 : decode cX12_readLine 115 = .ok (.sipush 999, 3) := by decide +kernel
theorem dX12_readLine_118 : decode cX12_readLine 118 = .ok (.goto 26, 3) := by decide +kernel
theorem dX12_readLine_121 : decode cX12_readLine 121 = .ok (.iload_n 1, 1) := by decide +kernel
theorem dX12_readLine_122 : decode cX12_readLine 122 = .ok (.iconst 2, 1) := by decide +kernel
theorem dX12_readLine_123 : decode cX12_readLine 123 = .ok (.if_icmp .ne 8, 3) := by decide +kernel
theorem dX12_readLine_126 : decode cX12_readLine 126 = .ok (.bipush 50, 2) := by decide +kernel
theorem dX12_readLine_128 : decode cX12_readLine 128 = .ok (.goto 16, 3) := by decide +kernel
theorem dX12_readLine_131 : decode cX12_readLine 131 = .ok (.iload_n 1, 1) := by decide +kernel
theorem dX12_readLine_132 : decode cX12_readLine 132 = .ok (.iconst 3, 1) := by decide +kernel
theorem dX12_readLine_133 : decode cX12_readLine 133 = .ok (.if_icmp .ne 9, 3) := by decide +kernel
theorem dX12_readLine_136 : decode cX12_readLine 136 = .ok (.sipush 9999, 3) := by decide +kernel
theorem dX12_readLine_139 : decode cX12_readLine 139 = .ok (.goto 5, 3) := by decide +kernel
theorem dX12_readLine_142 : decode cX12_readLine 142 = .ok (.bipush 20, 2) := by decide +kernel
theorem dX12_readLine_144 : decode cX12_readLine 144 = .ok (.invokevirtual 194, 3) := by decide +kernel
theorem dX12_readLine_147 : decode cX12_readLine 147 = .ok (.istore 4, 2) := by decide +kernel
theorem dX12_readLine_149 : decode cX12_readLine 149 = .ok (.iload_n 1, 1) := by decide +kernel
theorem dX12_readLine_150 : decode cX12_readLine 150 = .ok (.ifCond .ne 17, 3) := by decide +kernel
theorem dX12_readLine_153 : decode cX12_readLine 153 = .ok (.aload_n 0, 1) := by decide +kernel
theorem dX12_readLine_154 : decode cX12_readLine 154 = .ok (.iload 4, 2) := by decide +kernel
theorem dX12_readLine_156 : decode cX12_readLine 156 = .ok (.iconst 1, 1) := by decide +kernel
theorem dX12_readLine_157 : decode cX12_readLine 157 = .ok (.iadd, 1) := by decide +kernel
theorem dX12_readLine_158 : decode cX12_readLine 158 = .ok (.sipush 999, 3) := by decide +kernel
theorem dX12_readLine_161 : decode cX12_readLine 161 = .ok (.invokevirtual 194, 3) := by decide +kernel
theorem dX12_readLine_164 : decode cX12_readLine 164 = .ok (.goto 4, 3) := by decide +kernel
theorem dX12_readLine_167 : decode cX12_readLine 167 = .ok (.iconst 0, 1) := by decide +kernel
theorem dX12_readLine_168 : decode cX12_readLine 168 = .ok (.istore 5, 2) := by decide +kernel
theorem dX12_readLine_170 : decode cX12_readLine 170 = .ok (.aload_n 0, 1) := by decide +kernel
theorem dX12_readLine_171 : decode cX12_readLine 171 = .ok (.getfield 144, 3) := by decide +kernel
theorem dX12_readLine_174 : decode cX12_readLine 174 = .ok (.ifCond .ne 16, 3) := by decide +kernel
theorem dX12_readLine_177 : decode cX12_readLine 177 = .ok (.aload_n 0, 1) := by decide +kernel
theorem dX12_readLine_178 : decode cX12_readLine 178 = .ok (.getfield 163, 3) := by decide +kernel
theorem dX12_readLine_181 : decode cX12_readLine 181 = .ok (.iconst 3, 1) := by decide +kernel
theorem dX12_readLine_182 : decode cX12_readLine 182 = .ok (.if_icmp .eq 8, 3) := by decide +kernel
theorem dX12_readLine_185 : decode cX12_readLine 185 = .ok (.aload_n 0, 1) := by decide +kernel
theorem dX12_readLine_186 : decode cX12_readLine 186 = .ok (.iconst 2, 1) := by decide +kernel
theorem dX12_readLine_187 : decode cX12_readLine 187 = .ok (.invokevirtual 174, 3) := by decide +kernel
theorem dX12_readLine_190 : decode cX12_readLine 190 = .ok (.aload_n 0, 1) := by decide +kernel
theorem dX12_readLine_191 : decode cX12_readLine 191 = .ok (.getfield 144, 3) := by decide +kernel
theorem dX12_readLine_194 : decode cX12_readLine 194 = .ok (.ifCond .ne 69, 3) := by decide +kernel
theorem dX12_readLine_197 : decode cX12_readLine 197 = .ok (.aload_n 0, 1) := by decide +kernel
theorem dX12_readLine_198 : decode cX12_readLine 198 = .ok (.getfield 34, 3) := by decide +kernel
theorem dX12_readLine_201 : decode cX12_readLine 201 = .ok (.aload_n 0, 1) := by decide +kernel
theorem dX12_readLine_202 : decode cX12_readLine 202 = .ok (.getfield 181, 3) := by decide +kernel
theorem dX12_readLine_205 : decode cX12_readLine 205 = .ok (.iload_n 1, 1) := by decide +kernel
theorem dX12_readLine_206 : decode cX12_readLine 206 = .ok (.iastore, 1) := by decide +kernel
theorem dX12_readLine_207 : decode cX12_readLine 207 = .ok (.aload_n 0, 1) := by decide +kernel
theorem dX12_readLine_208 : decode cX12_readLine 208 = .ok (.getfield 37, 3) := by decide +kernel
theorem dX12_readLine_211 : decode cX12_readLine 211 = .ok (.aload_n 0, 1) := by decide +kernel
theorem dX12_readLine_212 : decode cX12_readLine 212 = .ok (.getfield 181, 3) := by decide +kernel
theorem dX12_readLine_215 : decode cX12_readLine 215 = .ok (.iload_n 3, 1) := by decide +kernel
theorem dX12_readLine_216 : decode cX12_readLine 216 = .ok (.iastore, 1) := by decide +kernel
theorem dX12_readLine_217 : decode cX12_readLine 217 = .ok (.aload_n 0, 1) := by decide +kernel
theorem dX12_readLine_218 : decode cX12_readLine 218 = .ok (.getfield 40, 3) := by decide +kernel
theorem dX12_readLine_221 : decode cX12_readLine 221 = .ok (.aload_n 0, 1) := by decide +kernel
theorem dX12_readLine_222 : decode cX12_readLine 222 = .ok (.getfield 181, 3) := by decide +kernel
theorem dX12_readLine_225 : decode cX12_readLine 225 = .ok (.iload_n 2, 1) := by decide +kernel
theorem dX12_readLine_226 : decode cX12_readLine 226 = .ok (.iastore, 1) := by decide +kernel
theorem dX12_readLine_227 : decode cX12_readLine 227 = .ok (.aload_n 0, 1) := by decide +kernel
theorem dX12_readLine_228 : decode cX12_readLine 228 = .ok (.getfield 43, 3) := by decide +kernel
theorem dX12_readLine_231 : decode cX12_readLine 231 = .ok (.aload_n 0, 1) := by decide +kernel
theorem dX12_readLine_232 : decode cX12_readLine 232 = .ok (.getfield 181, 3) := by decide +kernel
theorem dX12_readLine_235 : decode cX12_readLine 235 = .ok (.iload 4, 2) := by decide +kernel
theorem dX12_readLine_237 : decode cX12_readLine 237 = .ok (.iastore, 1) := by decide +kernel
theorem dX12_readLine_238 : decode cX12_readLine 238 = .ok (.aload_n 0, 1) := by decide +kernel
theorem dX12_readLine_239 : decode cX12_readLine 239 = .ok (.getfield 46, 3) := by decide +kernel
theorem dX12_readLine_242 : decode cX12_readLine 242 = .ok (.aload_n 0, 1) := by decide +kernel
theorem dX12_readLine_243 : decode cX12_readLine 243 = .ok (.getfield 181, 3) := by decide +kernel
theorem dX12_readLine_246 : decode cX12_readLine 246 = .ok (.iload 5, 2) := by decide +kernel
theorem dX12_readLine_248 : decode cX12_readLine 248 = .ok (.iastore, 1) := by decide +kernel
theorem dX12_readLine_249 : decode cX12_readLine 249 = .ok (.aload_n 0, 1) := by decide +kernel
theorem dX12_readLine_250 : decode cX12_readLine 250 = .ok (.dup, 1) := by decide +kernel
theorem dX12_readLine_251 : decode cX12_readLine 251 = .ok (.getfield 181, 3) := by decide +kernel
theorem dX12_readLine_254 : decode cX12_readLine 254 = .ok (.iconst 1, 1) := by decide +kernel
theorem dX12_readLine_255 : decode cX12_readLine 255 = .ok (.iadd, 1) := by decide +kernel
theorem dX12_readLine_256 : decode cX12_readLine 256 = .ok (.putfield 181, 3) := by decide +kernel
theorem dX12_readLine_259 : decode cX12_readLine 259 = .ok (.aload_n 0, 1) := by decide +kernel
theorem dX12_readLine_260 : decode cX12_readLine 260 = .ok (.invokevirtual 178, 3) := by decide +kernel
theorem dX12_readLine_263 : decode cX12_readLine 263 = .ok (.return_, 1) := by decide +kernel
set_option maxRecDepth 100000 in
set_option maxHeartbeats 4000000 in
theorem w_X12_readLine_190 (X : XE) (x1 : Int) (x2 : Int) (x3 : Int) (x4 : Int) (x5 : Int) (hx1 : inR x1) (hx2 : inR x2) (hx3 : inR x3) (hx4 : inR x4) (hx5 : inR x5) {Q : Int → Mem → Prop} {σ : Mem} (h : j_X12_readLine_190 Q x1 x2 x3 x4 x5 σ) : ok X rm_X12_readLine RX12 cX12_readLine 6 none 0 Q 190 [(0, .ref (xad X 122)), (1, vI x1), (2, vI x2), (3, vI x3), (4, vI x4), (5, vI x5)] [] σ := by
  refine ok_aload_n 0 (pc := 190) dX12_readLine_190 rfl rfl ?_
  refine ok_wf (fun hw1 => ?_)
  refine ok_getI (pc := 191) dX12_readLine_191 fl_X12_144 sh_122 (Nat.le_of_ble_eq_true rfl) rfl rfl ?_
  refine ok_if_ne (tgt := 263) (pc := 194) dX12_readLine_194 rfl (hw1 _ _) (fun q2 => ?_) (fun q2 => ?_)
  · have h := iteF h q2
    exact ok_vret (pc := 263) dX12_readLine_263 rfl rfl h
  · have h := iteT h q2
    refine ok_aload_n 0 (pc := 197) dX12_readLine_197 rfl rfl ?_
    refine ok_getR (pc := 198) dX12_readLine_198 fl_X12_34 sh_122 (Nat.le_of_ble_eq_true rfl) rfl rfl ?_
    refine ok_aload_n 0 (pc := 201) dX12_readLine_201 rfl rfl ?_
    refine ok_getI (pc := 202) dX12_readLine_202 fl_X12_181 sh_122 (Nat.le_of_ble_eq_true rfl) rfl rfl ?_
    refine ok_iload_n 1 (pc := 205) dX12_readLine_205 rfl rfl ?_
    obtain ⟨h3, h⟩ := h
    obtain ⟨h4, h⟩ := h
    refine ok_iast (pc := 206) dX12_readLine_206 sh_131 (Nat.le_of_ble_eq_true rfl) rfl h3 h4 hx1 ?_
    refine ok_aload_n 0 (pc := 207) dX12_readLine_207 rfl rfl ?_
    refine ok_getR (pc := 208) dX12_readLine_208 fl_X12_37 sh_122 (Nat.le_of_ble_eq_true rfl) rfl rfl ?_
    refine ok_aload_n 0 (pc := 211) dX12_readLine_211 rfl rfl ?_
    refine ok_wf (fun hw5 => ?_)
    refine ok_getI (pc := 212) dX12_readLine_212 fl_X12_181 sh_122 (Nat.le_of_ble_eq_true rfl) rfl rfl ?_
    have e6 : ((mset σ 131 ((σ 122 18).toNat) x1) 122 18) = (σ 122 18) := (mset_ne (by omega))
    refine ok_top e6 ?_
    refine ok_iload_n 3 (pc := 215) dX12_readLine_215 rfl rfl ?_
    refine ok_iast (pc := 216) dX12_readLine_216 sh_132 (Nat.le_of_ble_eq_true rfl) rfl h3 h4 hx3 ?_
    refine ok_aload_n 0 (pc := 217) dX12_readLine_217 rfl rfl ?_
    refine ok_getR (pc := 218) dX12_readLine_218 fl_X12_40 sh_122 (Nat.le_of_ble_eq_true rfl) rfl rfl ?_
    refine ok_aload_n 0 (pc := 221) dX12_readLine_221 rfl rfl ?_
    refine ok_wf (fun hw8 => ?_)
    refine ok_getI (pc := 222) dX12_readLine_222 fl_X12_181 sh_122 (Nat.le_of_ble_eq_true rfl) rfl rfl ?_
    have e9 : ((mset (mset σ 131 ((σ 122 18).toNat) x1) 132 ((σ 122 18).toNat) x3) 122 18) = (σ 122 18) := (mset_ne (by omega)).trans (mset_ne (by omega))
    refine ok_top e9 ?_
    refine ok_iload_n 2 (pc := 225) dX12_readLine_225 rfl rfl ?_
    refine ok_iast (pc := 226) dX12_readLine_226 sh_133 (Nat.le_of_ble_eq_true rfl) rfl h3 h4 hx2 ?_
    refine ok_aload_n 0 (pc := 227) dX12_readLine_227 rfl rfl ?_
    refine ok_getR (pc := 228) dX12_readLine_228 fl_X12_43 sh_122 (Nat.le_of_ble_eq_true rfl) rfl rfl ?_
    refine ok_aload_n 0 (pc := 231) dX12_readLine_231 rfl rfl ?_
    refine ok_wf (fun hw11 => ?_)
    refine ok_getI (pc := 232) dX12_readLine_232 fl_X12_181 sh_122 (Nat.le_of_ble_eq_true rfl) rfl rfl ?_
    have e12 : ((mset (mset (mset σ 131 ((σ 122 18).toNat) x1) 132 ((σ 122 18).toNat) x3) 133 ((σ 122 18).toNat) x2) 122 18) = (σ 122 18) := (mset_ne (by omega)).trans ((mset_ne (by omega)).trans (mset_ne (by omega)))
    refine ok_top e12 ?_
    refine ok_iload 4 (pc := 235) dX12_readLine_235 rfl ?_
    refine ok_iast (pc := 237) dX12_readLine_237 sh_134 (Nat.le_of_ble_eq_true rfl) rfl h3 h4 hx4 ?_
    refine ok_aload_n 0 (pc := 238) dX12_readLine_238 rfl rfl ?_
    refine ok_getR (pc := 239) dX12_readLine_239 fl_X12_46 sh_122 (Nat.le_of_ble_eq_true rfl) rfl rfl ?_
    refine ok_aload_n 0 (pc := 242) dX12_readLine_242 rfl rfl ?_
    refine ok_wf (fun hw14 => ?_)
    refine ok_getI (pc := 243) dX12_readLine_243 fl_X12_181 sh_122 (Nat.le_of_ble_eq_true rfl) rfl rfl ?_
    have e15 : ((mset (mset (mset (mset σ 131 ((σ 122 18).toNat) x1) 132 ((σ 122 18).toNat) x3) 133 ((σ 122 18).toNat) x2) 134 ((σ 122 18).toNat) x4) 122 18) = (σ 122 18) := (mset_ne (by omega)).trans ((mset_ne (by omega)).trans ((mset_ne (by omega)).trans (mset_ne (by omega))))
    refine ok_top e15 ?_
    refine ok_iload 5 (pc := 246) dX12_readLine_246 rfl ?_
    refine ok_iast (pc := 248) dX12_readLine_248 sh_135 (Nat.le_of_ble_eq_true rfl) rfl h3 h4 hx5 ?_
    refine ok_aload_n 0 (pc := 249) dX12_readLine_249 rfl rfl ?_
    refine ok_dup (pc := 250) dX12_readLine_250 rfl ?_
    refine ok_wf (fun hw17 => ?_)
    refine ok_getI (pc := 251) dX12_readLine_251 fl_X12_181 sh_122 (Nat.le_of_ble_eq_true rfl) rfl rfl ?_
    have e18 : ((mset (mset (mset (mset (mset σ 131 ((σ 122 18).toNat) x1) 132 ((σ 122 18).toNat) x3) 133 ((σ 122 18).toNat) x2) 134 ((σ 122 18).toNat) x4) 135 ((σ 122 18).toNat) x5) 122 18) = (σ 122 18) := (mset_ne (by omega)).trans ((mset_ne (by omega)).trans ((mset_ne (by omega)).trans ((mset_ne (by omega)).trans (mset_ne (by omega)))))
    refine ok_top e18 ?_
    refine ok_iconst (pc := 254) dX12_readLine_254 ?_
    refine ok_iadd (pc := 255) dX12_readLine_255 ?_
    obtain ⟨h20, h⟩ := h
    refine ok_putI (pc := 256) dX12_readLine_256 fl_X12_181 fp_X12_18 sh_122 (Nat.le_of_ble_eq_true rfl) rfl rfl h20 rfl rfl ?_
    refine ok_aload_n 0 (pc := 259) dX12_readLine_259 rfl rfl ?_
    refine ok_callVv (As := []) (rest := []) (rm := rm_X12_next) (pc := 260) dX12_readLine_260 me_X12_next ml_X12_178 (ci := 12) rfl sh_122 (Nat.le_of_ble_eq_true rfl) rfl des_X12_next rfl ⟨rfl, rfl, rfl, rfl⟩ rfl rfl (c_X12_next X h) (fun σ23 h => ?_)
    exact ok_vret (pc := 263) dX12_readLine_263 rfl rfl h
set_option maxRecDepth 100000 in
set_option maxHeartbeats 4000000 in
theorem w_X12_readLine_168 (X : XE) (x1 : Int) (x2 : Int) (x3 : Int) (x4 : Int) (s0 : Int) (hx1 : inR x1) (hx2 : inR x2) (hx3 : inR x3) (hx4 : inR x4) (hs0 : inR s0) {Q : Int → Mem → Prop} {σ : Mem} (h : j_X12_readLine_168 Q x1 x2 x3 x4 s0 σ) : ok X rm_X12_readLine RX12 cX12_readLine 6 none 0 Q 168 [(0, .ref (xad X 122)), (1, vI x1), (2, vI x2), (3, vI x3), (4, vI x4)] [vI s0] σ := by
  refine ok_istore (L' := [(5, vI s0), (0, .ref (xad X 122)), (1, vI x1), (2, vI x2), (3, vI x3), (4, vI x4)]) (pc := 168) dX12_readLine_168 rfl rfl ?_
  refine ok_aload_n 1 (pc := 170) dX12_readLine_170 rfl rfl ?_
  refine ok_wf (fun hw1 => ?_)
  refine ok_getI (pc := 171) dX12_readLine_171 fl_X12_144 sh_122 (Nat.le_of_ble_eq_true rfl) rfl rfl ?_
  refine ok_if_ne (tgt := 190) (pc := 174) dX12_readLine_174 rfl (hw1 _ _) (fun q2 => ?_) (fun q2 => ?_)
  · have h := iteF h q2
    refine ok_sub (L' := [(0, .ref (xad X 122)), (1, vI x1), (2, vI x2), (3, vI x3), (4, vI x4), (5, vI s0)]) [1,2,3,4,5,0] rfl ?_
    exact w_X12_readLine_190 X x1 x2 x3 x4 s0 hx1 hx2 hx3 hx4 hs0 h
  · have h := iteT h q2
    refine ok_aload_n 1 (pc := 177) dX12_readLine_177 rfl rfl ?_
    refine ok_getI (pc := 178) dX12_readLine_178 fl_X12_163 sh_122 (Nat.le_of_ble_eq_true rfl) rfl rfl ?_
    refine ok_iconst (pc := 181) dX12_readLine_181 ?_
    refine ok_icmp_eq (tgt := 190) (pc := 182) dX12_readLine_182 rfl (hw1 _ _) (r_lit rfl) (fun q3 => ?_) (fun q3 => ?_)
    · have h := iteT h q3
      refine ok_sub (L' := [(0, .ref (xad X 122)), (1, vI x1), (2, vI x2), (3, vI x3), (4, vI x4), (5, vI s0)]) [1,2,3,4,5,0] rfl ?_
      exact w_X12_readLine_190 X x1 x2 x3 x4 s0 hx1 hx2 hx3 hx4 hs0 h
    · have h := iteF h q3
      refine ok_aload_n 1 (pc := 185) dX12_readLine_185 rfl rfl ?_
      refine ok_iconst (pc := 186) dX12_readLine_186 ?_
      refine ok_callVv (As := [vI 2]) (rest := []) (rm := rm_X12_fails) (pc := 187) dX12_readLine_187 me_X12_fails ml_X12_174 (ci := 12) rfl sh_122 (Nat.le_of_ble_eq_true rfl) rfl des_X12_fails rfl ⟨rfl, rfl, rfl, rfl⟩ rfl rfl (c_X12_fails X 2 (r_lit rfl) h) (fun σ6 h => ?_)
      refine ok_sub (L' := [(0, .ref (xad X 122)), (1, vI x1), (2, vI x2), (3, vI x3), (4, vI x4), (5, vI s0)]) [1,2,3,4,5,0] rfl ?_
      exact w_X12_readLine_190 X x1 x2 x3 x4 s0 hx1 hx2 hx3 hx4 hs0 h
set_option maxRecDepth 100000 in
set_option maxHeartbeats 4000000 in
theorem w_X12_readLine_144 (X : XE) (x1 : Int) (x2 : Int) (x3 : Int) (s0 : Int) (s1 : Int) (hx1 : inR x1) (hx2 : inR x2) (hx3 : inR x3) (hs0 : inR s0) (hs1 : inR s1) {Q : Int → Mem → Prop} {σ : Mem} (h : j_X12_readLine_144 Q x1 x2 x3 s0 s1 σ) : ok X rm_X12_readLine RX12 cX12_readLine 6 none 0 Q 144 [(0, .ref (xad X 122)), (1, vI x1), (2, vI x2), (3, vI x3)] [vI s0, vI s1, .ref (xad X 122)] σ := by
  refine ok_callVi (As := [vI s1, vI s0]) (rest := []) (rm := rm_X12_number) (pc := 144) dX12_readLine_144 me_X12_number ml_X12_194 (ci := 12) rfl sh_122 (Nat.le_of_ble_eq_true rfl) rfl des_X12_number rfl ⟨rfl, rfl, rfl, rfl⟩ rfl rfl (c_X12_number X s1 s0 hs1 hs0 h) (fun r2 σ3 h1 h => ?_)
  refine ok_istore (L' := [(4, vI r2), (0, .ref (xad X 122)), (1, vI x1), (2, vI x2), (3, vI x3)]) (pc := 147) dX12_readLine_147 rfl rfl ?_
  refine ok_iload_n 2 (pc := 149) dX12_readLine_149 rfl rfl ?_
  refine ok_if_ne (tgt := 167) (pc := 150) dX12_readLine_150 rfl hx1 (fun q4 => ?_) (fun q4 => ?_)
  · have h := iteF h q4
    refine ok_iconst (pc := 167) dX12_readLine_167 ?_
    refine ok_sub (L' := [(0, .ref (xad X 122)), (1, vI x1), (2, vI x2), (3, vI x3), (4, vI r2)]) [1,2,3,4,0] rfl ?_
    exact w_X12_readLine_168 X x1 x2 x3 r2 0 hx1 hx2 hx3 h1 (r_lit rfl) h
  · have h := iteT h q4
    refine ok_aload_n 1 (pc := 153) dX12_readLine_153 rfl rfl ?_
    refine ok_iload 0 (pc := 154) dX12_readLine_154 rfl ?_
    refine ok_iconst (pc := 156) dX12_readLine_156 ?_
    refine ok_iadd (pc := 157) dX12_readLine_157 ?_
    refine ok_sipush (pc := 158) dX12_readLine_158 rfl ?_
    obtain ⟨h5, h⟩ := h
    refine ok_callVi (As := [vI (r2 + 1), vI 999]) (rest := []) (rm := rm_X12_number) (pc := 161) dX12_readLine_161 me_X12_number ml_X12_194 (ci := 12) rfl sh_122 (Nat.le_of_ble_eq_true rfl) rfl des_X12_number rfl ⟨rfl, rfl, rfl, rfl⟩ rfl rfl (c_X12_number X (r2 + 1) 999 h5 (r_lit rfl) h) (fun r7 σ8 h6 h => ?_)
    refine ok_goto (tgt := 168) (pc := 164) dX12_readLine_164 rfl ?_
    refine ok_sub (L' := [(0, .ref (xad X 122)), (1, vI x1), (2, vI x2), (3, vI x3), (4, vI r2)]) [1,2,3,4,0] rfl ?_
    exact w_X12_readLine_168 X x1 x2 x3 r2 r7 hx1 hx2 hx3 h1 h6 h
set_option maxRecDepth 100000 in
set_option maxHeartbeats 4000000 in
theorem w_X12_readLine_111 (X : XE) (x1 : Int) (x2 : Int) (x3 : Int) (s0 : Int) (hx1 : inR x1) (hx2 : inR x2) (hx3 : inR x3) (hs0 : inR s0) {Q : Int → Mem → Prop} {σ : Mem} (h : j_X12_readLine_111 Q x1 x2 x3 s0 σ) : ok X rm_X12_readLine RX12 cX12_readLine 6 none 0 Q 111 [(0, .ref (xad X 122)), (1, vI x1), (2, vI x2), (3, vI x3)] [vI s0, .ref (xad X 122)] σ := by
  unfold j_X12_readLine_111 at h
  refine ok_iload_n 1 (pc := 111) dX12_readLine_111 rfl rfl ?_
  refine ok_if_ne (tgt := 121) (pc := 112) dX12_readLine_112 rfl hx1 (fun q1 => ?_) (fun q1 => ?_)
  · simp only [if_neg q1] at h
    refine ok_iload_n 1 (pc := 121) dX12_readLine_121 rfl rfl ?_
    refine ok_iconst (pc := 122) dX12_readLine_122 ?_
    refine ok_icmp_ne (tgt := 131) (pc := 123) dX12_readLine_123 rfl hx1 (r_lit rfl) (fun q2 => ?_) (fun q2 => ?_)
    · simp only [if_neg q2] at h
      refine ok_iload_n 1 (pc := 131) dX12_readLine_131 rfl rfl ?_
      refine ok_iconst (pc := 132) dX12_readLine_132 ?_
      refine ok_icmp_ne (tgt := 142) (pc := 133) dX12_readLine_133 rfl hx1 (r_lit rfl) (fun q3 => ?_) (fun q3 => ?_)
      · simp only [if_neg q3] at h
        refine ok_bipush (pc := 142) dX12_readLine_142 rfl ?_
        exact w_X12_readLine_144 X x1 x2 x3 20 s0 hx1 hx2 hx3 (r_lit rfl) hs0 h
      · simp only [if_pos q3] at h
        refine ok_sipush (pc := 136) dX12_readLine_136 rfl ?_
        refine ok_goto (tgt := 144) (pc := 139) dX12_readLine_139 rfl ?_
        exact w_X12_readLine_144 X x1 x2 x3 9999 s0 hx1 hx2 hx3 (r_lit rfl) hs0 h
    · simp only [if_pos q2] at h
      refine ok_bipush (pc := 126) dX12_readLine_126 rfl ?_
      refine ok_goto (tgt := 144) (pc := 128) dX12_readLine_128 rfl ?_
      exact w_X12_readLine_144 X x1 x2 x3 50 s0 hx1 hx2 hx3 (r_lit rfl) hs0 h
  · simp only [if_pos q1] at h
    refine ok_sipush (pc := 115) dX12_readLine_115 rfl ?_
    refine ok_goto (tgt := 144) (pc := 118) dX12_readLine_118 rfl ?_
    exact w_X12_readLine_144 X x1 x2 x3 999 s0 hx1 hx2 hx3 (r_lit rfl) hs0 h
set_option maxRecDepth 100000 in
set_option maxHeartbeats 4000000 in
theorem w_X12_readLine_81 (X : XE) (x1 : Int) (x2 : Int) (hx1 : inR x1) (hx2 : inR x2) {Q : Int → Mem → Prop} {σ : Mem} (h : j_X12_readLine_81 Q x1 x2 σ) : ok X rm_X12_readLine RX12 cX12_readLine 6 none 0 Q 81 [(0, .ref (xad X 122)), (1, vI x1), (2, vI x2)] [] σ := by
  refine ok_aload_n 0 (pc := 81) dX12_readLine_81 rfl rfl ?_
  refine ok_wf (fun hw1 => ?_)
  refine ok_getI (pc := 82) dX12_readLine_82 fl_X12_144 sh_122 (Nat.le_of_ble_eq_true rfl) rfl rfl ?_
  refine ok_if_le (tgt := 89) (pc := 85) dX12_readLine_85 rfl (hw1 _ _) (fun q2 => ?_) (fun q2 => ?_)
  · have h := iteF h q2
    refine ok_aload_n 0 (pc := 89) dX12_readLine_89 rfl rfl ?_
    refine ok_iload_n 1 (pc := 90) dX12_readLine_90 rfl rfl ?_
    refine ok_iload_n 2 (pc := 91) dX12_readLine_91 rfl rfl ?_
    refine ok_callVi (As := [vI x1, vI x2]) (rest := []) (rm := rm_X12_readOf) (pc := 92) dX12_readLine_92 me_X12_readOf ml_X12_198 (ci := 12) rfl sh_122 (Nat.le_of_ble_eq_true rfl) rfl des_X12_readOf rfl ⟨rfl, rfl, rfl, rfl⟩ rfl rfl (c_X12_readOf X x1 x2 hx1 hx2 h) (fun r4 σ5 h3 h => ?_)
    refine ok_istore_n (L' := [(3, vI r4), (0, .ref (xad X 122)), (1, vI x1), (2, vI x2)]) (pc := 95) dX12_readLine_95 rfl rfl rfl ?_
    refine ok_aload_n 1 (pc := 96) dX12_readLine_96 rfl rfl ?_
    refine ok_iload_n 2 (pc := 97) dX12_readLine_97 rfl rfl ?_
    refine ok_if_eq (tgt := 106) (pc := 98) dX12_readLine_98 rfl hx1 (fun q6 => ?_) (fun q6 => ?_)
    · simp only [if_pos q6] at h
      refine ok_iconst (pc := 106) dX12_readLine_106 ?_
      refine ok_goto (tgt := 111) (pc := 107) dX12_readLine_107 rfl ?_
      refine ok_sub (L' := [(0, .ref (xad X 122)), (1, vI x1), (2, vI x2), (3, vI r4)]) [1,2,3,0] rfl ?_
      exact w_X12_readLine_111 X x1 x2 r4 1 hx1 hx2 h3 (r_lit rfl) h
    · simp only [if_neg q6] at h
      refine ok_iload_n 2 (pc := 101) dX12_readLine_101 rfl rfl ?_
      refine ok_iconst (pc := 102) dX12_readLine_102 ?_
      refine ok_icmp_ne (tgt := 110) (pc := 103) dX12_readLine_103 rfl hx1 (r_lit rfl) (fun q7 => ?_) (fun q7 => ?_)
      · simp only [if_neg q7] at h
        refine ok_iconst (pc := 110) dX12_readLine_110 ?_
        refine ok_sub (L' := [(0, .ref (xad X 122)), (1, vI x1), (2, vI x2), (3, vI r4)]) [1,2,3,0] rfl ?_
        exact w_X12_readLine_111 X x1 x2 r4 0 hx1 hx2 h3 (r_lit rfl) h
      · simp only [if_pos q7] at h
        refine ok_iconst (pc := 106) dX12_readLine_106 ?_
        refine ok_goto (tgt := 111) (pc := 107) dX12_readLine_107 rfl ?_
        refine ok_sub (L' := [(0, .ref (xad X 122)), (1, vI x1), (2, vI x2), (3, vI r4)]) [1,2,3,0] rfl ?_
        exact w_X12_readLine_111 X x1 x2 r4 1 hx1 hx2 h3 (r_lit rfl) h
  · have h := iteT h q2
    exact ok_vret (pc := 88) dX12_readLine_88 rfl rfl h
set_option maxRecDepth 100000 in
set_option maxHeartbeats 4000000 in
theorem w_X12_readLine_76 (X : XE) (x1 : Int) (x2 : Int) (hx1 : inR x1) (hx2 : inR x2) {Q : Int → Mem → Prop} {σ : Mem} (h : j_X12_readLine_76 Q x1 x2 σ) : ok X rm_X12_readLine RX12 cX12_readLine 6 none 0 Q 76 [(0, .ref (xad X 122)), (1, vI x1), (2, vI x2)] [] σ := by
  refine ok_aload_n 0 (pc := 76) dX12_readLine_76 rfl rfl ?_
  refine ok_iconst (pc := 77) dX12_readLine_77 ?_
  refine ok_callVv (As := [vI 2]) (rest := []) (rm := rm_X12_fails) (pc := 78) dX12_readLine_78 me_X12_fails ml_X12_174 (ci := 12) rfl sh_122 (Nat.le_of_ble_eq_true rfl) rfl des_X12_fails rfl ⟨rfl, rfl, rfl, rfl⟩ rfl rfl (c_X12_fails X 2 (r_lit rfl) h) (fun σ3 h => ?_)
  exact w_X12_readLine_81 X x1 x2 hx1 hx2 h
set_option maxRecDepth 100000 in
set_option maxHeartbeats 4000000 in
theorem w_X12_readLine_33 (X : XE) (x1 : Int) (hx1 : inR x1) {Q : Int → Mem → Prop} {σ : Mem} (h : j_X12_readLine_33 Q x1 σ) : ok X rm_X12_readLine RX12 cX12_readLine 6 none 0 Q 33 [(0, .ref (xad X 122)), (1, vI x1)] [] σ := by
  refine ok_iconst (pc := 33) dX12_readLine_33 ?_
  refine ok_istore_n (L' := [(2, vI 0), (0, .ref (xad X 122)), (1, vI x1)]) (pc := 34) dX12_readLine_34 rfl rfl rfl ?_
  refine ok_aload_n 1 (pc := 35) dX12_readLine_35 rfl rfl ?_
  refine ok_wf (fun hw1 => ?_)
  refine ok_getI (pc := 36) dX12_readLine_36 fl_X12_144 sh_122 (Nat.le_of_ble_eq_true rfl) rfl rfl ?_
  refine ok_if_ne (tgt := 81) (pc := 39) dX12_readLine_39 rfl (hw1 _ _) (fun q2 => ?_) (fun q2 => ?_)
  · have h := iteF h q2
    refine ok_sub (L' := [(0, .ref (xad X 122)), (1, vI x1), (2, vI 0)]) [1,2,0] rfl ?_
    exact w_X12_readLine_81 X x1 0 hx1 (r_lit rfl) h
  · have h := iteT h q2
    refine ok_iload_n 2 (pc := 42) dX12_readLine_42 rfl rfl ?_
    refine ok_iconst (pc := 43) dX12_readLine_43 ?_
    refine ok_icmp_ne (tgt := 81) (pc := 44) dX12_readLine_44 rfl hx1 (r_lit rfl) (fun q3 => ?_) (fun q3 => ?_)
    · have h := iteF h q3
      refine ok_sub (L' := [(0, .ref (xad X 122)), (1, vI x1), (2, vI 0)]) [1,2,0] rfl ?_
      exact w_X12_readLine_81 X x1 0 hx1 (r_lit rfl) h
    · have h := iteT h q3
      refine ok_aload_n 1 (pc := 47) dX12_readLine_47 rfl rfl ?_
      refine ok_callVv (As := []) (rest := []) (rm := rm_X12_next) (pc := 48) dX12_readLine_48 me_X12_next ml_X12_178 (ci := 12) rfl sh_122 (Nat.le_of_ble_eq_true rfl) rfl des_X12_next rfl ⟨rfl, rfl, rfl, rfl⟩ rfl rfl (c_X12_next X h) (fun σ6 h => ?_)
      refine ok_aload_n 1 (pc := 51) dX12_readLine_51 rfl rfl ?_
      refine ok_iconst (pc := 52) dX12_readLine_52 ?_
      refine ok_sipush (pc := 53) dX12_readLine_53 rfl ?_
      refine ok_callVi (As := [vI 0, vI 9999]) (rest := []) (rm := rm_X12_number) (pc := 56) dX12_readLine_56 me_X12_number ml_X12_194 (ci := 12) rfl sh_122 (Nat.le_of_ble_eq_true rfl) rfl des_X12_number rfl ⟨rfl, rfl, rfl, rfl⟩ rfl rfl (c_X12_number X 0 9999 (r_lit rfl) (r_lit rfl) h) (fun r8 σ9 h7 h => ?_)
      refine ok_istore_n (L' := [(2, vI r8), (0, .ref (xad X 122)), (1, vI x1)]) (pc := 59) dX12_readLine_59 rfl rfl rfl ?_
      refine ok_aload_n 1 (pc := 60) dX12_readLine_60 rfl rfl ?_
      refine ok_callVi (As := []) (rest := []) (rm := rm_X12_nameHere) (pc := 61) dX12_readLine_61 me_X12_nameHere ml_X12_190 (ci := 12) rfl sh_122 (Nat.le_of_ble_eq_true rfl) rfl des_X12_nameHere rfl ⟨rfl, rfl, rfl, rfl⟩ rfl rfl (c_X12_nameHere X h) (fun r11 σ12 h10 h => ?_)
      refine ok_istore_n (L' := [(1, vI r11), (2, vI r8), (0, .ref (xad X 122))]) (pc := 64) dX12_readLine_64 rfl rfl rfl ?_
      refine ok_iload_n 0 (pc := 65) dX12_readLine_65 rfl rfl ?_
      refine ok_bipush (pc := 66) dX12_readLine_66 rfl ?_
      refine ok_icmp_eq (tgt := 76) (pc := 68) dX12_readLine_68 rfl h10 (r_lit rfl) (fun q13 => ?_) (fun q13 => ?_)
      · have h := iteT h q13
        refine ok_sub (L' := [(0, .ref (xad X 122)), (1, vI r11), (2, vI r8)]) [2,0,1] rfl ?_
        exact w_X12_readLine_76 X r11 r8 h10 h7 h
      · have h := iteF h q13
        refine ok_iload_n 0 (pc := 71) dX12_readLine_71 rfl rfl ?_
        refine ok_iconst (pc := 72) dX12_readLine_72 ?_
        refine ok_icmp_ne (tgt := 81) (pc := 73) dX12_readLine_73 rfl h10 (r_lit rfl) (fun q14 => ?_) (fun q14 => ?_)
        · have h := iteF h q14
          refine ok_sub (L' := [(0, .ref (xad X 122)), (1, vI r11), (2, vI r8)]) [2,0,1] rfl ?_
          exact w_X12_readLine_81 X r11 r8 h10 h7 h
        · have h := iteT h q14
          refine ok_sub (L' := [(0, .ref (xad X 122)), (1, vI r11), (2, vI r8)]) [2,0,1] rfl ?_
          exact w_X12_readLine_76 X r11 r8 h10 h7 h
set_option maxRecDepth 100000 in
set_option maxHeartbeats 4000000 in
theorem c_X12_readLine (X : XE) {σ : Mem} {Q : Int → Mem → Prop} (h : v_X12_readLine σ Q) : CT X yX12_readLine cX12_readLine 6 none rm_X12_readLine 0 [.ref (xad X 122)] σ Q := by
  refine ct_of (own := RX12) (L := [(0, .ref (xad X 122))]) rfl rfl (Nat.le_of_ble_eq_true rfl) rfl ?_
  refine ok_aload_n 0 (pc := 0) dX12_readLine_0 rfl rfl ?_
  refine ok_callVi (As := []) (rest := []) (rm := rm_X12_nameHere) (pc := 1) dX12_readLine_1 me_X12_nameHere ml_X12_190 (ci := 12) rfl sh_122 (Nat.le_of_ble_eq_true rfl) rfl des_X12_nameHere rfl ⟨rfl, rfl, rfl, rfl⟩ rfl rfl (c_X12_nameHere X h) (fun r2 σ3 h1 h => ?_)
  refine ok_istore_n (L' := [(1, vI r2), (0, .ref (xad X 122))]) (pc := 4) dX12_readLine_4 rfl rfl rfl ?_
  refine ok_iload_n 0 (pc := 5) dX12_readLine_5 rfl rfl ?_
  refine ok_bipush (pc := 6) dX12_readLine_6 rfl ?_
  refine ok_icmp_ne (tgt := 19) (pc := 8) dX12_readLine_8 rfl h1 (r_lit rfl) (fun q4 => ?_) (fun q4 => ?_)
  · have h := iteF h q4
    refine ok_aload_n 1 (pc := 19) dX12_readLine_19 rfl rfl ?_
    refine ok_wf (fun hw5 => ?_)
    refine ok_getI (pc := 20) dX12_readLine_20 fl_X12_181 sh_122 (Nat.le_of_ble_eq_true rfl) rfl rfl ?_
    refine ok_bipush (pc := 23) dX12_readLine_23 rfl ?_
    refine ok_icmp_ne (tgt := 33) (pc := 25) dX12_readLine_25 rfl (hw5 _ _) (r_lit rfl) (fun q6 => ?_) (fun q6 => ?_)
    · have h := iteF h q6
      refine ok_sub (L' := [(0, .ref (xad X 122)), (1, vI r2)]) [1,0] rfl ?_
      exact w_X12_readLine_33 X r2 h1 h
    · have h := iteT h q6
      refine ok_aload_n 1 (pc := 28) dX12_readLine_28 rfl rfl ?_
      refine ok_iconst (pc := 29) dX12_readLine_29 ?_
      refine ok_callVv (As := [vI 4]) (rest := []) (rm := rm_X12_fails) (pc := 30) dX12_readLine_30 me_X12_fails ml_X12_174 (ci := 12) rfl sh_122 (Nat.le_of_ble_eq_true rfl) rfl des_X12_fails rfl ⟨rfl, rfl, rfl, rfl⟩ rfl rfl (c_X12_fails X 4 (r_lit rfl) h) (fun σ9 h => ?_)
      refine ok_sub (L' := [(0, .ref (xad X 122)), (1, vI r2)]) [1,0] rfl ?_
      exact w_X12_readLine_33 X r2 h1 h
  · have h := iteT h q4
    refine ok_aload_n 1 (pc := 11) dX12_readLine_11 rfl rfl ?_
    refine ok_iconst (pc := 12) dX12_readLine_12 ?_
    refine ok_callVv (As := [vI 2]) (rest := []) (rm := rm_X12_fails) (pc := 13) dX12_readLine_13 me_X12_fails ml_X12_174 (ci := 12) rfl sh_122 (Nat.le_of_ble_eq_true rfl) rfl des_X12_fails rfl ⟨rfl, rfl, rfl, rfl⟩ rfl rfl (c_X12_fails X 2 (r_lit rfl) h) (fun σ12 h => ?_)
    refine ok_goto (tgt := 33) (pc := 16) dX12_readLine_16 rfl ?_
    refine ok_sub (L' := [(0, .ref (xad X 122)), (1, vI r2)]) [1,0] rfl ?_
    exact w_X12_readLine_33 X r2 h1 h
theorem dX12_text_0 : decode cX12_text 0 = .ok (.aload_n 0, 1) := by decide +kernel
theorem dX12_text_1 : decode cX12_text 1 = .ok (.iconst 0, 1) := by decide +kernel
theorem dX12_text_2 : decode cX12_text 2 = .ok (.putfield 144, 3) := by decide +kernel
theorem dX12_text_5 : decode cX12_text 5 = .ok (.aload_n 0, 1) := by decide +kernel
theorem dX12_text_6 : decode cX12_text 6 = .ok (.iconst 0, 1) := by decide +kernel
theorem dX12_text_7 : decode cX12_text 7 = .ok (.putfield 153, 3) := by decide +kernel
theorem dX12_text_10 : decode cX12_text 10 = .ok (.aload_n 0, 1) := by decide +kernel
theorem dX12_text_11 : decode cX12_text 11 = .ok (.iconst 0, 1) := by decide +kernel
theorem dX12_text_12 : decode cX12_text 12 = .ok (.putfield 181, 3) := by decide +kernel
theorem dX12_text_15 : decode cX12_text 15 = .ok (.aload_n 0, 1) := by decide +kernel
theorem dX12_text_16 : decode cX12_text 16 = .ok (.invokevirtual 178, 3) := by decide +kernel
theorem dX12_text_19 : decode cX12_text 19 = .ok (.aload_n 0, 1) := by decide +kernel
theorem dX12_text_20 : decode cX12_text 20 = .ok (.getfield 144, 3) := by decide +kernel
theorem dX12_text_23 : decode cX12_text 23 = .ok (.ifCond .ne 17, 3) := by decide +kernel
theorem dX12_text_26 : decode cX12_text 26 = .ok (.aload_n 0, 1) := by decide +kernel
theorem dX12_text_27 : decode cX12_text 27 = .ok (.getfield 163, 3) := by decide +kernel
theorem dX12_text_30 : decode cX12_text 30 = .ok (.ifCond .eq 10, 3) := by decide +kernel
theorem dX12_text_33 : decode cX12_text 33 = .ok (.aload_n 0, 1) := by decide +kernel
theorem dX12_text_34 : decode cX12_text 34 = .ok (.invokevirtual 201, 3) := by decide +kernel
theorem dX12_text_37 : decode cX12_text 37 = .ok (.goto (-18), 3) := by decide +kernel
theorem dX12_text_40 : decode cX12_text 40 = .ok (.aload_n 0, 1) := by decide +kernel
theorem dX12_text_41 : decode cX12_text 41 = .ok (.iconst 0, 1) := by decide +kernel
theorem dX12_text_42 : decode cX12_text 42 = .ok (.putfield 141, 3) := by decide +kernel
theorem dX12_text_45 : decode cX12_text 45 = .ok (.aload_n 0, 1) := by decide +kernel
theorem dX12_text_46 : decode cX12_text 46 = .ok (.aload_n 0, 1) := by decide +kernel
theorem dX12_text_47 : decode cX12_text 47 = .ok (.getfield 144, 3) := by decide +kernel
theorem dX12_text_50 : decode cX12_text 50 = .ok (.putfield 204, 3) := by decide +kernel
theorem dX12_text_53 : decode cX12_text 53 = .ok (.aload_n 0, 1) := by decide +kernel
theorem dX12_text_54 : decode cX12_text 54 = .ok (.getfield 144, 3) := by decide +kernel
theorem dX12_text_57 : decode cX12_text 57 = .ok (.ifCond .le 11, 3) := by decide +kernel
theorem dX12_text_60 : decode cX12_text 60 = .ok (.bipush (-10), 2) := by decide +kernel
theorem dX12_text_62 : decode cX12_text 62 = .ok (.aload_n 0, 1) := by decide +kernel
theorem dX12_text_63 : decode cX12_text 63 = .ok (.getfield 150, 3) := by decide +kernel
theorem dX12_text_66 : decode cX12_text 66 = .ok (.isub, 1) := by decide +kernel
theorem dX12_text_67 : decode cX12_text 67 = .ok (.ireturn, 1) := by decide +kernel
theorem dX12_text_68 : decode cX12_text 68 = .ok (.aload_n 0, 1) := by decide +kernel
theorem dX12_text_69 : decode cX12_text 69 = .ok (.aload_n 0, 1) := by decide +kernel
theorem dX12_text_70 : decode cX12_text 70 = .ok (.getfield 181, 3) := by decide +kernel
theorem dX12_text_73 : decode cX12_text 73 = .ok (.putfield 207, 3) := by decide +kernel
theorem dX12_text_76 : decode cX12_text 76 = .ok (.iconst 0, 1) := by decide +kernel
theorem dX12_text_77 : decode cX12_text 77 = .ok (.istore_n 1, 1) := by decide +kernel
theorem dX12_text_78 : decode cX12_text 78 = .ok (.iload_n 1, 1) := by decide +kernel
theorem dX12_text_79 : decode cX12_text 79 = .ok (.bipush 16, 2) := by decide +kernel
theorem dX12_text_81 : decode cX12_text 81 = .ok (.if_icmp .ge 69, 3) := by decide +kernel
theorem dX12_text_84 : decode cX12_text 84 = .ok (.aload_n 0, 1) := by decide +kernel
theorem dX12_text_85 : decode cX12_text 85 = .ok (.getfield 19, 3) := by decide +kernel
theorem dX12_text_88 : decode cX12_text 88 = .ok (.iload_n 1, 1) := by decide +kernel
theorem dX12_text_89 : decode cX12_text 89 = .ok (.aload_n 0, 1) := by decide +kernel
theorem dX12_text_90 : decode cX12_text 90 = .ok (.getfield 34, 3) := by decide +kernel
theorem dX12_text_93 : decode cX12_text 93 = .ok (.iload_n 1, 1) := by decide +kernel
theorem dX12_text_94 : decode cX12_text 94 = .ok (.iaload, 1) := by decide +kernel
theorem dX12_text_95 : decode cX12_text 95 = .ok (.iastore, 1) := by decide +kernel
theorem dX12_text_96 : decode cX12_text 96 = .ok (.aload_n 0, 1) := by decide +kernel
theorem dX12_text_97 : decode cX12_text 97 = .ok (.getfield 22, 3) := by decide +kernel
theorem dX12_text_100 : decode cX12_text 100 = .ok (.iload_n 1, 1) := by decide +kernel
theorem dX12_text_101 : decode cX12_text 101 = .ok (.aload_n 0, 1) := by decide +kernel
theorem dX12_text_102 : decode cX12_text 102 = .ok (.getfield 37, 3) := by decide +kernel
theorem dX12_text_105 : decode cX12_text 105 = .ok (.iload_n 1, 1) := by decide +kernel
theorem dX12_text_106 : decode cX12_text 106 = .ok (.iaload, 1) := by decide +kernel
theorem dX12_text_107 : decode cX12_text 107 = .ok (.iastore, 1) := by decide +kernel
theorem dX12_text_108 : decode cX12_text 108 = .ok (.aload_n 0, 1) := by decide +kernel
theorem dX12_text_109 : decode cX12_text 109 = .ok (.getfield 25, 3) := by decide +kernel
theorem dX12_text_112 : decode cX12_text 112 = .ok (.iload_n 1, 1) := by decide +kernel
theorem dX12_text_113 : decode cX12_text 113 = .ok (.aload_n 0, 1) := by decide +kernel
theorem dX12_text_114 : decode cX12_text 114 = .ok (.getfield 40, 3) := by decide +kernel
theorem dX12_text_117 : decode cX12_text 117 = .ok (.iload_n 1, 1) := by decide +kernel
theorem dX12_text_118 : decode cX12_text 118 = .ok (.iaload, 1) := by decide +kernel
theorem dX12_text_119 : decode cX12_text 119 = .ok (.iastore, 1) := by decide +kernel
theorem dX12_text_120 : decode cX12_text 120 = .ok (.aload_n 0, 1) := by decide +kernel
theorem dX12_text_121 : decode cX12_text 121 = .ok (.getfield 28, 3) := by decide +kernel
theorem dX12_text_124 : decode cX12_text 124 = .ok (.iload_n 1, 1) := by decide +kernel
theorem dX12_text_125 : decode cX12_text 125 = .ok (.aload_n 0, 1) := by decide +kernel
theorem dX12_text_126 : decode cX12_text 126 = .ok (.getfield 43, 3) := by decide +kernel
theorem dX12_text_129 : decode cX12_text 129 = .ok (.iload_n 1, 1) := by decide +kernel
theorem dX12_text_130 : decode cX12_text 130 = .ok (.iaload, 1) := by decide +kernel
theorem dX12_text_131 : decode cX12_text 131 = .ok (.iastore, 1) := by decide +kernel
theorem dX12_text_132 : decode cX12_text 132 = .ok (.aload_n 0, 1) := by decide +kernel
theorem dX12_text_133 : decode cX12_text 133 = .ok (.getfield 31, 3) := by decide +kernel
theorem dX12_text_136 : decode cX12_text 136 = .ok (.iload_n 1, 1) := by decide +kernel
theorem dX12_text_137 : decode cX12_text 137 = .ok (.aload_n 0, 1) := by decide +kernel
theorem dX12_text_138 : decode cX12_text 138 = .ok (.getfield 46, 3) := by decide +kernel
theorem dX12_text_141 : decode cX12_text 141 = .ok (.iload_n 1, 1) := by decide +kernel
theorem dX12_text_142 : decode cX12_text 142 = .ok (.iaload, 1) := by decide +kernel
theorem dX12_text_143 : decode cX12_text 143 = .ok (.iastore, 1) := by decide +kernel
theorem dX12_text_144 : decode cX12_text 144 = .ok (.iinc 1 1, 3) := by decide +kernel
theorem dX12_text_147 : decode cX12_text 147 = .ok (.goto (-69), 3) := by decide +kernel
theorem dX12_text_150 : decode cX12_text 150 = .ok (.aload_n 0, 1) := by decide +kernel
theorem dX12_text_151 : decode cX12_text 151 = .ok (.getfield 207, 3) := by decide +kernel
theorem dX12_text_154 : decode cX12_text 154 = .ok (.ireturn, 1) := by decide +kernel
set_option maxRecDepth 100000 in
set_option maxHeartbeats 4000000 in
theorem w_X12_text_78 (X : XE) {Q : Int → Mem → Prop} : ∀ (n : Nat) (x1 : Int) (σ : Mem), inR x1 → l_X12_text_78 Q n x1 σ → ok X rm_X12_text RX12 cX12_text 2 (some .int) 1 Q 78 [(0, .ref (xad X 122)), (1, vI x1)] [] σ := by
  intro n
  induction n with
  | zero => intro x1 σ hx1 h; exact False.elim h
  | succ n ih =>
    intro x1 σ hx1 h
    refine ok_iload_n 1 (pc := 78) dX12_text_78 rfl rfl ?_
    refine ok_bipush (pc := 79) dX12_text_79 rfl ?_
    refine ok_icmp_ge (tgt := 150) (pc := 81) dX12_text_81 rfl hx1 (r_lit rfl) (fun q1 => ?_) (fun q1 => ?_)
    · have h := iteF h q1
      refine ok_aload_n 0 (pc := 150) dX12_text_150 rfl rfl ?_
      refine ok_wf (fun hw2 => ?_)
      refine ok_getI (pc := 151) dX12_text_151 fl_X12_207 sh_122 (Nat.le_of_ble_eq_true rfl) rfl rfl ?_
      exact ok_iret (pc := 154) dX12_text_154 rfl rfl rfl (hw2 _ _) h
    · have h := iteT h q1
      refine ok_aload_n 0 (pc := 84) dX12_text_84 rfl rfl ?_
      refine ok_getR (pc := 85) dX12_text_85 fl_X12_19 sh_122 (Nat.le_of_ble_eq_true rfl) rfl rfl ?_
      refine ok_iload_n 1 (pc := 88) dX12_text_88 rfl rfl ?_
      refine ok_aload_n 0 (pc := 89) dX12_text_89 rfl rfl ?_
      refine ok_getR (pc := 90) dX12_text_90 fl_X12_34 sh_122 (Nat.le_of_ble_eq_true rfl) rfl rfl ?_
      refine ok_iload_n 1 (pc := 93) dX12_text_93 rfl rfl ?_
      obtain ⟨h3, h⟩ := h
      obtain ⟨h4, h⟩ := h
      refine ok_wf (fun hw5 => ?_)
      refine ok_iald (pc := 94) dX12_text_94 sh_131 (Nat.le_of_ble_eq_true rfl) rfl h3 h4 ?_
      refine ok_iast (pc := 95) dX12_text_95 sh_126 (Nat.le_of_ble_eq_true rfl) rfl h3 h4 (hw5 _ _) ?_
      refine ok_aload_n 0 (pc := 96) dX12_text_96 rfl rfl ?_
      refine ok_getR (pc := 97) dX12_text_97 fl_X12_22 sh_122 (Nat.le_of_ble_eq_true rfl) rfl rfl ?_
      refine ok_iload_n 1 (pc := 100) dX12_text_100 rfl rfl ?_
      refine ok_aload_n 0 (pc := 101) dX12_text_101 rfl rfl ?_
      refine ok_getR (pc := 102) dX12_text_102 fl_X12_37 sh_122 (Nat.le_of_ble_eq_true rfl) rfl rfl ?_
      refine ok_iload_n 1 (pc := 105) dX12_text_105 rfl rfl ?_
      refine ok_wf (fun hw6 => ?_)
      refine ok_iald (pc := 106) dX12_text_106 sh_132 (Nat.le_of_ble_eq_true rfl) rfl h3 h4 ?_
      have e7 : ((mset σ 126 (x1.toNat) (σ 131 x1.toNat)) 132 x1.toNat) = (σ 132 x1.toNat) := (mset_ne (by omega))
      refine ok_top e7 ?_
      refine ok_iast (pc := 107) dX12_text_107 sh_127 (Nat.le_of_ble_eq_true rfl) rfl h3 h4 (e7 ▸ hw6 _ _) ?_
      refine ok_aload_n 0 (pc := 108) dX12_text_108 rfl rfl ?_
      refine ok_getR (pc := 109) dX12_text_109 fl_X12_25 sh_122 (Nat.le_of_ble_eq_true rfl) rfl rfl ?_
      refine ok_iload_n 1 (pc := 112) dX12_text_112 rfl rfl ?_
      refine ok_aload_n 0 (pc := 113) dX12_text_113 rfl rfl ?_
      refine ok_getR (pc := 114) dX12_text_114 fl_X12_40 sh_122 (Nat.le_of_ble_eq_true rfl) rfl rfl ?_
      refine ok_iload_n 1 (pc := 117) dX12_text_117 rfl rfl ?_
      refine ok_wf (fun hw9 => ?_)
      refine ok_iald (pc := 118) dX12_text_118 sh_133 (Nat.le_of_ble_eq_true rfl) rfl h3 h4 ?_
      have e10 : ((mset (mset σ 126 (x1.toNat) (σ 131 x1.toNat)) 127 (x1.toNat) (σ 132 x1.toNat)) 133 x1.toNat) = (σ 133 x1.toNat) := (mset_ne (by omega)).trans (mset_ne (by omega))
      refine ok_top e10 ?_
      refine ok_iast (pc := 119) dX12_text_119 sh_128 (Nat.le_of_ble_eq_true rfl) rfl h3 h4 (e10 ▸ hw9 _ _) ?_
      refine ok_aload_n 0 (pc := 120) dX12_text_120 rfl rfl ?_
      refine ok_getR (pc := 121) dX12_text_121 fl_X12_28 sh_122 (Nat.le_of_ble_eq_true rfl) rfl rfl ?_
      refine ok_iload_n 1 (pc := 124) dX12_text_124 rfl rfl ?_
      refine ok_aload_n 0 (pc := 125) dX12_text_125 rfl rfl ?_
      refine ok_getR (pc := 126) dX12_text_126 fl_X12_43 sh_122 (Nat.le_of_ble_eq_true rfl) rfl rfl ?_
      refine ok_iload_n 1 (pc := 129) dX12_text_129 rfl rfl ?_
      refine ok_wf (fun hw12 => ?_)
      refine ok_iald (pc := 130) dX12_text_130 sh_134 (Nat.le_of_ble_eq_true rfl) rfl h3 h4 ?_
      have e13 : ((mset (mset (mset σ 126 (x1.toNat) (σ 131 x1.toNat)) 127 (x1.toNat) (σ 132 x1.toNat)) 128 (x1.toNat) (σ 133 x1.toNat)) 134 x1.toNat) = (σ 134 x1.toNat) := (mset_ne (by omega)).trans ((mset_ne (by omega)).trans (mset_ne (by omega)))
      refine ok_top e13 ?_
      refine ok_iast (pc := 131) dX12_text_131 sh_129 (Nat.le_of_ble_eq_true rfl) rfl h3 h4 (e13 ▸ hw12 _ _) ?_
      refine ok_aload_n 0 (pc := 132) dX12_text_132 rfl rfl ?_
      refine ok_getR (pc := 133) dX12_text_133 fl_X12_31 sh_122 (Nat.le_of_ble_eq_true rfl) rfl rfl ?_
      refine ok_iload_n 1 (pc := 136) dX12_text_136 rfl rfl ?_
      refine ok_aload_n 0 (pc := 137) dX12_text_137 rfl rfl ?_
      refine ok_getR (pc := 138) dX12_text_138 fl_X12_46 sh_122 (Nat.le_of_ble_eq_true rfl) rfl rfl ?_
      refine ok_iload_n 1 (pc := 141) dX12_text_141 rfl rfl ?_
      refine ok_wf (fun hw15 => ?_)
      refine ok_iald (pc := 142) dX12_text_142 sh_135 (Nat.le_of_ble_eq_true rfl) rfl h3 h4 ?_
      have e16 : ((mset (mset (mset (mset σ 126 (x1.toNat) (σ 131 x1.toNat)) 127 (x1.toNat) (σ 132 x1.toNat)) 128 (x1.toNat) (σ 133 x1.toNat)) 129 (x1.toNat) (σ 134 x1.toNat)) 135 x1.toNat) = (σ 135 x1.toNat) := (mset_ne (by omega)).trans ((mset_ne (by omega)).trans ((mset_ne (by omega)).trans (mset_ne (by omega))))
      refine ok_top e16 ?_
      refine ok_iast (pc := 143) dX12_text_143 sh_130 (Nat.le_of_ble_eq_true rfl) rfl h3 h4 (e16 ▸ hw15 _ _) ?_
      refine ok_iinc (L' := [(1, vI (x1 + 1)), (0, .ref (xad X 122))]) 1 (pc := 144) dX12_text_144 rfl rfl rfl ?_
      refine ok_goto (tgt := 78) (pc := 147) dX12_text_147 rfl ?_
      obtain ⟨h18, h⟩ := h
      refine ok_sub (L' := [(0, .ref (xad X 122)), (1, vI (x1 + 1))]) [1,0] rfl ?_
      exact ih (x1 + 1) (mset (mset (mset (mset (mset σ 126 (x1.toNat) (σ 131 x1.toNat)) 127 (x1.toNat) (σ 132 x1.toNat)) 128 (x1.toNat) (σ 133 x1.toNat)) 129 (x1.toNat) (σ 134 x1.toNat)) 130 (x1.toNat) (σ 135 x1.toNat)) h18 h
set_option maxRecDepth 100000 in
set_option maxHeartbeats 4000000 in
theorem w_X12_text_40 (X : XE) {Q : Int → Mem → Prop} {σ : Mem} (h : j_X12_text_40 Q σ) : ok X rm_X12_text RX12 cX12_text 2 (some .int) 1 Q 40 [(0, .ref (xad X 122))] [] σ := by
  refine ok_aload_n 0 (pc := 40) dX12_text_40 rfl rfl ?_
  refine ok_iconst (pc := 41) dX12_text_41 ?_
  refine ok_putI (pc := 42) dX12_text_42 fl_X12_141 fp_X12_2 sh_122 (Nat.le_of_ble_eq_true rfl) rfl rfl (r_lit rfl) rfl rfl ?_
  refine ok_aload_n 0 (pc := 45) dX12_text_45 rfl rfl ?_
  refine ok_aload_n 0 (pc := 46) dX12_text_46 rfl rfl ?_
  refine ok_wf (fun hw1 => ?_)
  refine ok_getI (pc := 47) dX12_text_47 fl_X12_144 sh_122 (Nat.le_of_ble_eq_true rfl) rfl rfl ?_
  have e2 : ((mset σ 122 2 0) 122 4) = (σ 122 4) := (mset_nei (by omega))
  refine ok_top e2 ?_
  refine ok_putI (pc := 50) dX12_text_50 fl_X12_204 fp_X12_3 sh_122 (Nat.le_of_ble_eq_true rfl) rfl rfl (e2 ▸ hw1 _ _) rfl rfl ?_
  refine ok_aload_n 0 (pc := 53) dX12_text_53 rfl rfl ?_
  refine ok_wf (fun hw4 => ?_)
  refine ok_getI (pc := 54) dX12_text_54 fl_X12_144 sh_122 (Nat.le_of_ble_eq_true rfl) rfl rfl ?_
  have e5 : ((mset (mset σ 122 2 0) 122 3 (σ 122 4)) 122 4) = (σ 122 4) := (mset_nei (by omega)).trans (mset_nei (by omega))
  refine ok_top e5 ?_
  refine ok_if_le (tgt := 68) (pc := 57) dX12_text_57 rfl (e5 ▸ hw4 _ _) (fun q7 => ?_) (fun q7 => ?_)
  · have h := iteF h q7
    refine ok_aload_n 0 (pc := 68) dX12_text_68 rfl rfl ?_
    refine ok_aload_n 0 (pc := 69) dX12_text_69 rfl rfl ?_
    refine ok_getI (pc := 70) dX12_text_70 fl_X12_181 sh_122 (Nat.le_of_ble_eq_true rfl) rfl rfl ?_
    have e8 : ((mset (mset σ 122 2 0) 122 3 (σ 122 4)) 122 18) = (σ 122 18) := (mset_nei (by omega)).trans (mset_nei (by omega))
    refine ok_top e8 ?_
    refine ok_putI (pc := 73) dX12_text_73 fl_X12_207 fp_X12_12 sh_122 (Nat.le_of_ble_eq_true rfl) rfl rfl (e8 ▸ hw4 _ _) rfl rfl ?_
    refine ok_iconst (pc := 76) dX12_text_76 ?_
    refine ok_istore_n (L' := [(1, vI 0), (0, .ref (xad X 122))]) (pc := 77) dX12_text_77 rfl rfl rfl ?_
    refine ok_sub (L' := [(0, .ref (xad X 122)), (1, vI 0)]) [1,0] rfl ?_
    obtain ⟨n10, h⟩ := h
    exact w_X12_text_78 X n10 0 (mset (mset (mset σ 122 2 0) 122 3 (σ 122 4)) 122 12 (σ 122 18)) (r_lit rfl) h
  · have h := iteT h q7
    refine ok_bipush (pc := 60) dX12_text_60 rfl ?_
    refine ok_aload_n 0 (pc := 62) dX12_text_62 rfl rfl ?_
    refine ok_getI (pc := 63) dX12_text_63 fl_X12_150 sh_122 (Nat.le_of_ble_eq_true rfl) rfl rfl ?_
    have e11 : ((mset (mset σ 122 2 0) 122 3 (σ 122 4)) 122 5) = (σ 122 5) := (mset_nei (by omega)).trans (mset_nei (by omega))
    refine ok_top e11 ?_
    refine ok_isub (pc := 66) dX12_text_66 ?_
    obtain ⟨h13, h⟩ := h
    exact ok_iret (pc := 67) dX12_text_67 rfl rfl rfl h13 h
set_option maxRecDepth 100000 in
set_option maxHeartbeats 4000000 in
theorem w_X12_text_19 (X : XE) {Q : Int → Mem → Prop} : ∀ (n : Nat) (σ : Mem), l_X12_text_19 Q n σ → ok X rm_X12_text RX12 cX12_text 2 (some .int) 1 Q 19 [(0, .ref (xad X 122))] [] σ := by
  intro n
  induction n with
  | zero => intro σ h; exact False.elim h
  | succ n ih =>
    intro σ h
    refine ok_aload_n 0 (pc := 19) dX12_text_19 rfl rfl ?_
    refine ok_wf (fun hw1 => ?_)
    refine ok_getI (pc := 20) dX12_text_20 fl_X12_144 sh_122 (Nat.le_of_ble_eq_true rfl) rfl rfl ?_
    refine ok_if_ne (tgt := 40) (pc := 23) dX12_text_23 rfl (hw1 _ _) (fun q2 => ?_) (fun q2 => ?_)
    · have h := iteF h q2
      exact w_X12_text_40 X   h
    · have h := iteT h q2
      refine ok_aload_n 0 (pc := 26) dX12_text_26 rfl rfl ?_
      refine ok_getI (pc := 27) dX12_text_27 fl_X12_163 sh_122 (Nat.le_of_ble_eq_true rfl) rfl rfl ?_
      refine ok_if_eq (tgt := 40) (pc := 30) dX12_text_30 rfl (hw1 _ _) (fun q3 => ?_) (fun q3 => ?_)
      · have h := iteT h q3
        exact w_X12_text_40 X   h
      · have h := iteF h q3
        refine ok_aload_n 0 (pc := 33) dX12_text_33 rfl rfl ?_
        refine ok_callVv (As := []) (rest := []) (rm := rm_X12_readLine) (pc := 34) dX12_text_34 me_X12_readLine ml_X12_201 (ci := 12) rfl sh_122 (Nat.le_of_ble_eq_true rfl) rfl des_X12_readLine rfl ⟨rfl, rfl, rfl, rfl⟩ rfl rfl (c_X12_readLine X h) (fun σ6 h => ?_)
        refine ok_goto (tgt := 19) (pc := 37) dX12_text_37 rfl ?_
        exact ih  σ6  h
set_option maxRecDepth 100000 in
set_option maxHeartbeats 4000000 in
theorem c_X12_text (X : XE) {σ : Mem} {Q : Int → Mem → Prop} (h : v_X12_text σ Q) : CT X yX12_text cX12_text 2 (some .int) rm_X12_text 1 [.ref (xad X 122)] σ Q := by
  refine ct_of (own := RX12) (L := [(0, .ref (xad X 122))]) rfl rfl (Nat.le_of_ble_eq_true rfl) rfl ?_
  refine ok_aload_n 0 (pc := 0) dX12_text_0 rfl rfl ?_
  refine ok_iconst (pc := 1) dX12_text_1 ?_
  refine ok_putI (pc := 2) dX12_text_2 fl_X12_144 fp_X12_4 sh_122 (Nat.le_of_ble_eq_true rfl) rfl rfl (r_lit rfl) rfl rfl ?_
  refine ok_aload_n 0 (pc := 5) dX12_text_5 rfl rfl ?_
  refine ok_iconst (pc := 6) dX12_text_6 ?_
  refine ok_putI (pc := 7) dX12_text_7 fl_X12_153 fp_X12_6 sh_122 (Nat.le_of_ble_eq_true rfl) rfl rfl (r_lit rfl) rfl rfl ?_
  refine ok_aload_n 0 (pc := 10) dX12_text_10 rfl rfl ?_
  refine ok_iconst (pc := 11) dX12_text_11 ?_
  refine ok_putI (pc := 12) dX12_text_12 fl_X12_181 fp_X12_18 sh_122 (Nat.le_of_ble_eq_true rfl) rfl rfl (r_lit rfl) rfl rfl ?_
  refine ok_aload_n 0 (pc := 15) dX12_text_15 rfl rfl ?_
  refine ok_callVv (As := []) (rest := []) (rm := rm_X12_next) (pc := 16) dX12_text_16 me_X12_next ml_X12_178 (ci := 12) rfl sh_122 (Nat.le_of_ble_eq_true rfl) rfl des_X12_next rfl ⟨rfl, rfl, rfl, rfl⟩ rfl rfl (c_X12_next X h) (fun σ3 h => ?_)
  obtain ⟨n4, h⟩ := h
  exact w_X12_text_19 X n4  σ3  h
theorem dX12_fault_0 : decode cX12_fault 0 = .ok (.aload_n 0, 1) := by decide +kernel
theorem dX12_fault_1 : decode cX12_fault 1 = .ok (.getfield 204, 3) := by decide +kernel
theorem dX12_fault_4 : decode cX12_fault 4 = .ok (.ireturn, 1) := by decide +kernel
set_option maxRecDepth 100000 in
set_option maxHeartbeats 4000000 in
theorem c_X12_fault (X : XE) {σ : Mem} {Q : Int → Mem → Prop} (h : v_X12_fault σ Q) : CT X yX12_fault cX12_fault 1 (some .int) rm_X12_fault 1 [.ref (xad X 122)] σ Q := by
  refine ct_of (own := RX12) (L := [(0, .ref (xad X 122))]) rfl rfl (Nat.le_of_ble_eq_true rfl) rfl ?_
  refine ok_aload_n 0 (pc := 0) dX12_fault_0 rfl rfl ?_
  refine ok_wf (fun hw1 => ?_)
  refine ok_getI (pc := 1) dX12_fault_1 fl_X12_204 sh_122 (Nat.le_of_ble_eq_true rfl) rfl rfl ?_
  exact ok_iret (pc := 4) dX12_fault_4 rfl rfl rfl (hw1 _ _) h
theorem dX12_lineAt_0 : decode cX12_lineAt 0 = .ok (.bipush (-4), 2) := by decide +kernel
theorem dX12_lineAt_2 : decode cX12_lineAt 2 = .ok (.istore 4, 2) := by decide +kernel
theorem dX12_lineAt_4 : decode cX12_lineAt 4 = .ok (.iconst 0, 1) := by decide +kernel
theorem dX12_lineAt_5 : decode cX12_lineAt 5 = .ok (.istore 5, 2) := by decide +kernel
theorem dX12_lineAt_7 : decode cX12_lineAt 7 = .ok (.iload 5, 2) := by decide +kernel
theorem dX12_lineAt_9 : decode cX12_lineAt 9 = .ok (.aload_n 0, 1) := by decide +kernel
theorem dX12_lineAt_10 : decode cX12_lineAt 10 = .ok (.getfield 207, 3) := by decide +kernel
theorem dX12_lineAt_13 : decode cX12_lineAt 13 = .ok (.if_icmp .ge 70, 3) := by decide +kernel
theorem dX12_lineAt_16 : decode cX12_lineAt 16 = .ok (.aload_n 0, 1) := by decide +kernel
theorem dX12_lineAt_17 : decode cX12_lineAt 17 = .ok (.getfield 19, 3) := by decide +kernel
theorem dX12_lineAt_20 : decode cX12_lineAt 20 = .ok (.iload 5, 2) := by decide +kernel
theorem dX12_lineAt_22 : decode cX12_lineAt 22 = .ok (.iaload, 1) := by decide +kernel
theorem dX12_lineAt_23 : decode cX12_lineAt 23 = .ok (.iload_n 1, 1) := by decide +kernel
theorem dX12_lineAt_24 : decode cX12_lineAt 24 = .ok (.if_icmp .ne 53, 3) := by decide +kernel
theorem dX12_lineAt_27 : decode cX12_lineAt 27 = .ok (.aload_n 0, 1) := by decide +kernel
theorem dX12_lineAt_28 : decode cX12_lineAt 28 = .ok (.getfield 22, 3) := by decide +kernel
theorem dX12_lineAt_31 : decode cX12_lineAt 31 = .ok (.iload 5, 2) := by decide +kernel
theorem dX12_lineAt_33 : decode cX12_lineAt 33 = .ok (.iaload, 1) := by decide +kernel
theorem dX12_lineAt_34 : decode cX12_lineAt 34 = .ok (.iload_n 2, 1) := by decide +kernel
theorem dX12_lineAt_35 : decode cX12_lineAt 35 = .ok (.if_icmp .ne 42, 3) := by decide +kernel
theorem dX12_lineAt_38 : decode cX12_lineAt 38 = .ok (.aload_n 0, 1) := by decide +kernel
theorem dX12_lineAt_39 : decode cX12_lineAt 39 = .ok (.getfield 25, 3) := by decide +kernel
theorem dX12_lineAt_42 : decode cX12_lineAt 42 = .ok (.iload 5, 2) := by decide +kernel
theorem dX12_lineAt_44 : decode cX12_lineAt 44 = .ok (.iaload, 1) := by decide +kernel
theorem dX12_lineAt_45 : decode cX12_lineAt 45 = .ok (.iload_n 3, 1) := by decide +kernel
theorem dX12_lineAt_46 : decode cX12_lineAt 46 = .ok (.if_icmp .gt 31, 3) := by decide +kernel
theorem dX12_lineAt_49 : decode cX12_lineAt 49 = .ok (.iload 4, 2) := by decide +kernel
theorem dX12_lineAt_51 : decode cX12_lineAt 51 = .ok (.bipush (-4), 2) := by decide +kernel
theorem dX12_lineAt_53 : decode cX12_lineAt 53 = .ok (.if_icmp .eq 20, 3) := by decide +kernel
theorem dX12_lineAt_56 : decode cX12_lineAt 56 = .ok (.aload_n 0, 1) := by decide +kernel
theorem dX12_lineAt_57 : decode cX12_lineAt 57 = .ok (.getfield 25, 3) := by decide +kernel
theorem dX12_lineAt_60 : decode cX12_lineAt 60 = .ok (.iload 5, 2) := by decide +kernel
theorem dX12_lineAt_62 : decode cX12_lineAt 62 = .ok (.iaload, 1) := by decide +kernel
theorem dX12_lineAt_63 : decode cX12_lineAt 63 = .ok (.aload_n 0, 1) := by decide +kernel
theorem dX12_lineAt_64 : decode cX12_lineAt 64 = .ok (.getfield 25, 3) := by decide +kernel
theorem dX12_lineAt_67 : decode cX12_lineAt 67 = .ok (.iload 4, 2) := by decide +kernel
theorem dX12_lineAt_69 : decode cX12_lineAt 69 = .ok (.iaload, 1) := by decide +kernel
theorem dX12_lineAt_70 : decode cX12_lineAt 70 = .ok (.if_icmp .le 7, 3) := by decide +kernel
theorem dX12_lineAt_73 : decode cX12_lineAt 73 = .ok (.iload 5, 2) := by decide +kernel
theorem dX12_lineAt_75 : decode cX12_lineAt 75 = .ok (.istore 4, 2) := by decide +kernel
theorem dX12_lineAt_77 : decode cX12_lineAt 77 = .ok (.iinc 5 1, 3) := by decide +kernel
theorem dX12_lineAt_80 : decode cX12_lineAt 80 = .ok (.goto (-73), 3) := by decide +kernel
theorem dX12_lineAt_83 : decode cX12_lineAt 83 = .ok (.iload 4, 2) := by decide +kernel
theorem dX12_lineAt_85 : decode cX12_lineAt 85 = .ok (.ireturn, 1) := by decide +kernel
set_option maxRecDepth 100000 in
set_option maxHeartbeats 4000000 in
theorem w_X12_lineAt_7 (X : XE) (p1 : Int) (p2 : Int) (p3 : Int) (hp1 : inR p1) (hp2 : inR p2) (hp3 : inR p3) {Q : Int → Mem → Prop} : ∀ (n : Nat) (x4 : Int) (x5 : Int) (σ : Mem), inR x4 → inR x5 → l_X12_lineAt_7 p1 p2 p3 Q n x4 x5 σ → ok X rm_X12_lineAt RX12 cX12_lineAt 6 (some .int) 1 Q 7 [(0, .ref (xad X 122)), (1, vI p1), (2, vI p2), (3, vI p3), (4, vI x4), (5, vI x5)] [] σ := by
  intro n
  induction n with
  | zero => intro x4 x5 σ hx4 hx5 h; exact False.elim h
  | succ n ih =>
    intro x4 x5 σ hx4 hx5 h
    refine ok_iload 5 (pc := 7) dX12_lineAt_7 rfl ?_
    refine ok_aload_n 0 (pc := 9) dX12_lineAt_9 rfl rfl ?_
    refine ok_wf (fun hw1 => ?_)
    refine ok_getI (pc := 10) dX12_lineAt_10 fl_X12_207 sh_122 (Nat.le_of_ble_eq_true rfl) rfl rfl ?_
    refine ok_icmp_ge (tgt := 83) (pc := 13) dX12_lineAt_13 rfl hx5 (hw1 _ _) (fun q2 => ?_) (fun q2 => ?_)
    · have h := iteF h q2
      refine ok_iload 4 (pc := 83) dX12_lineAt_83 rfl ?_
      exact ok_iret (pc := 85) dX12_lineAt_85 rfl rfl rfl hx4 h
    · have h := iteT h q2
      refine ok_aload_n 0 (pc := 16) dX12_lineAt_16 rfl rfl ?_
      refine ok_getR (pc := 17) dX12_lineAt_17 fl_X12_19 sh_122 (Nat.le_of_ble_eq_true rfl) rfl rfl ?_
      refine ok_iload 5 (pc := 20) dX12_lineAt_20 rfl ?_
      obtain ⟨h3, h⟩ := h
      obtain ⟨h4, h⟩ := h
      refine ok_iald (pc := 22) dX12_lineAt_22 sh_126 (Nat.le_of_ble_eq_true rfl) rfl h3 h4 ?_
      refine ok_iload_n 1 (pc := 23) dX12_lineAt_23 rfl rfl ?_
      refine ok_icmp_ne (tgt := 77) (pc := 24) dX12_lineAt_24 rfl (hw1 _ _) hp1 (fun q5 => ?_) (fun q5 => ?_)
      · have h := iteF h q5
        refine ok_iinc (L' := [(5, vI (x5 + 1)), (0, .ref (xad X 122)), (1, vI p1), (2, vI p2), (3, vI p3), (4, vI x4)]) 5 (pc := 77) dX12_lineAt_77 rfl rfl rfl ?_
        refine ok_goto (tgt := 7) (pc := 80) dX12_lineAt_80 rfl ?_
        obtain ⟨h6, h⟩ := h
        refine ok_sub (L' := [(0, .ref (xad X 122)), (1, vI p1), (2, vI p2), (3, vI p3), (4, vI x4), (5, vI (x5 + 1))]) [1,2,3,4,5,0] rfl ?_
        exact ih x4 (x5 + 1) σ hx4 h6 h
      · have h := iteT h q5
        refine ok_aload_n 0 (pc := 27) dX12_lineAt_27 rfl rfl ?_
        refine ok_getR (pc := 28) dX12_lineAt_28 fl_X12_22 sh_122 (Nat.le_of_ble_eq_true rfl) rfl rfl ?_
        refine ok_iload 5 (pc := 31) dX12_lineAt_31 rfl ?_
        refine ok_iald (pc := 33) dX12_lineAt_33 sh_127 (Nat.le_of_ble_eq_true rfl) rfl h3 h4 ?_
        refine ok_iload_n 2 (pc := 34) dX12_lineAt_34 rfl rfl ?_
        refine ok_icmp_ne (tgt := 77) (pc := 35) dX12_lineAt_35 rfl (hw1 _ _) hp2 (fun q7 => ?_) (fun q7 => ?_)
        · have h := iteF h q7
          refine ok_iinc (L' := [(5, vI (x5 + 1)), (0, .ref (xad X 122)), (1, vI p1), (2, vI p2), (3, vI p3), (4, vI x4)]) 5 (pc := 77) dX12_lineAt_77 rfl rfl rfl ?_
          refine ok_goto (tgt := 7) (pc := 80) dX12_lineAt_80 rfl ?_
          obtain ⟨h8, h⟩ := h
          refine ok_sub (L' := [(0, .ref (xad X 122)), (1, vI p1), (2, vI p2), (3, vI p3), (4, vI x4), (5, vI (x5 + 1))]) [1,2,3,4,5,0] rfl ?_
          exact ih x4 (x5 + 1) σ hx4 h8 h
        · have h := iteT h q7
          refine ok_aload_n 0 (pc := 38) dX12_lineAt_38 rfl rfl ?_
          refine ok_getR (pc := 39) dX12_lineAt_39 fl_X12_25 sh_122 (Nat.le_of_ble_eq_true rfl) rfl rfl ?_
          refine ok_iload 5 (pc := 42) dX12_lineAt_42 rfl ?_
          refine ok_iald (pc := 44) dX12_lineAt_44 sh_128 (Nat.le_of_ble_eq_true rfl) rfl h3 h4 ?_
          refine ok_iload_n 3 (pc := 45) dX12_lineAt_45 rfl rfl ?_
          refine ok_icmp_gt (tgt := 77) (pc := 46) dX12_lineAt_46 rfl (hw1 _ _) hp3 (fun q9 => ?_) (fun q9 => ?_)
          · have h := iteT h q9
            refine ok_iinc (L' := [(5, vI (x5 + 1)), (0, .ref (xad X 122)), (1, vI p1), (2, vI p2), (3, vI p3), (4, vI x4)]) 5 (pc := 77) dX12_lineAt_77 rfl rfl rfl ?_
            refine ok_goto (tgt := 7) (pc := 80) dX12_lineAt_80 rfl ?_
            obtain ⟨h10, h⟩ := h
            refine ok_sub (L' := [(0, .ref (xad X 122)), (1, vI p1), (2, vI p2), (3, vI p3), (4, vI x4), (5, vI (x5 + 1))]) [1,2,3,4,5,0] rfl ?_
            exact ih x4 (x5 + 1) σ hx4 h10 h
          · have h := iteF h q9
            refine ok_iload 4 (pc := 49) dX12_lineAt_49 rfl ?_
            refine ok_bipush (pc := 51) dX12_lineAt_51 rfl ?_
            refine ok_icmp_eq (tgt := 73) (pc := 53) dX12_lineAt_53 rfl hx4 (r_lit rfl) (fun q11 => ?_) (fun q11 => ?_)
            · have h := iteT h q11
              refine ok_iload 5 (pc := 73) dX12_lineAt_73 rfl ?_
              refine ok_istore (L' := [(4, vI x5), (0, .ref (xad X 122)), (1, vI p1), (2, vI p2), (3, vI p3), (5, vI x5)]) (pc := 75) dX12_lineAt_75 rfl rfl ?_
              refine ok_iinc (L' := [(5, vI (x5 + 1)), (4, vI x5), (0, .ref (xad X 122)), (1, vI p1), (2, vI p2), (3, vI p3)]) 5 (pc := 77) dX12_lineAt_77 rfl rfl rfl ?_
              refine ok_goto (tgt := 7) (pc := 80) dX12_lineAt_80 rfl ?_
              obtain ⟨h12, h⟩ := h
              refine ok_sub (L' := [(0, .ref (xad X 122)), (1, vI p1), (2, vI p2), (3, vI p3), (4, vI x5), (5, vI (x5 + 1))]) [2,3,4,5,1,0] rfl ?_
              exact ih x5 (x5 + 1) σ hx5 h12 h
            · have h := iteF h q11
              refine ok_aload_n 0 (pc := 56) dX12_lineAt_56 rfl rfl ?_
              refine ok_getR (pc := 57) dX12_lineAt_57 fl_X12_25 sh_122 (Nat.le_of_ble_eq_true rfl) rfl rfl ?_
              refine ok_iload 5 (pc := 60) dX12_lineAt_60 rfl ?_
              refine ok_iald (pc := 62) dX12_lineAt_62 sh_128 (Nat.le_of_ble_eq_true rfl) rfl h3 h4 ?_
              refine ok_aload_n 0 (pc := 63) dX12_lineAt_63 rfl rfl ?_
              refine ok_getR (pc := 64) dX12_lineAt_64 fl_X12_25 sh_122 (Nat.le_of_ble_eq_true rfl) rfl rfl ?_
              refine ok_iload 4 (pc := 67) dX12_lineAt_67 rfl ?_
              obtain ⟨h13, h⟩ := h
              obtain ⟨h14, h⟩ := h
              refine ok_iald (pc := 69) dX12_lineAt_69 sh_128 (Nat.le_of_ble_eq_true rfl) rfl h13 h14 ?_
              refine ok_icmp_le (tgt := 77) (pc := 70) dX12_lineAt_70 rfl (hw1 _ _) (hw1 _ _) (fun q15 => ?_) (fun q15 => ?_)
              · have h := iteF h q15
                refine ok_iinc (L' := [(5, vI (x5 + 1)), (0, .ref (xad X 122)), (1, vI p1), (2, vI p2), (3, vI p3), (4, vI x4)]) 5 (pc := 77) dX12_lineAt_77 rfl rfl rfl ?_
                refine ok_goto (tgt := 7) (pc := 80) dX12_lineAt_80 rfl ?_
                obtain ⟨h16, h⟩ := h
                refine ok_sub (L' := [(0, .ref (xad X 122)), (1, vI p1), (2, vI p2), (3, vI p3), (4, vI x4), (5, vI (x5 + 1))]) [1,2,3,4,5,0] rfl ?_
                exact ih x4 (x5 + 1) σ hx4 h16 h
              · have h := iteT h q15
                refine ok_iload 5 (pc := 73) dX12_lineAt_73 rfl ?_
                refine ok_istore (L' := [(4, vI x5), (0, .ref (xad X 122)), (1, vI p1), (2, vI p2), (3, vI p3), (5, vI x5)]) (pc := 75) dX12_lineAt_75 rfl rfl ?_
                refine ok_iinc (L' := [(5, vI (x5 + 1)), (4, vI x5), (0, .ref (xad X 122)), (1, vI p1), (2, vI p2), (3, vI p3)]) 5 (pc := 77) dX12_lineAt_77 rfl rfl rfl ?_
                refine ok_goto (tgt := 7) (pc := 80) dX12_lineAt_80 rfl ?_
                obtain ⟨h17, h⟩ := h
                refine ok_sub (L' := [(0, .ref (xad X 122)), (1, vI p1), (2, vI p2), (3, vI p3), (4, vI x5), (5, vI (x5 + 1))]) [2,3,4,5,1,0] rfl ?_
                exact ih x5 (x5 + 1) σ hx5 h17 h
set_option maxRecDepth 100000 in
set_option maxHeartbeats 4000000 in
theorem c_X12_lineAt (X : XE) (p1 : Int) (p2 : Int) (p3 : Int) (hp1 : inR p1) (hp2 : inR p2) (hp3 : inR p3) {σ : Mem} {Q : Int → Mem → Prop} (h : v_X12_lineAt p1 p2 p3 σ Q) : CT X yX12_lineAt cX12_lineAt 6 (some .int) rm_X12_lineAt 1 [.ref (xad X 122), vI p1, vI p2, vI p3] σ Q := by
  refine ct_of (own := RX12) (L := [(0, .ref (xad X 122)), (1, vI p1), (2, vI p2), (3, vI p3)]) rfl rfl (Nat.le_of_ble_eq_true rfl) rfl ?_
  refine ok_bipush (pc := 0) dX12_lineAt_0 rfl ?_
  refine ok_istore (L' := [(4, vI (-4)), (0, .ref (xad X 122)), (1, vI p1), (2, vI p2), (3, vI p3)]) (pc := 2) dX12_lineAt_2 rfl rfl ?_
  refine ok_iconst (pc := 4) dX12_lineAt_4 ?_
  refine ok_istore (L' := [(5, vI 0), (4, vI (-4)), (0, .ref (xad X 122)), (1, vI p1), (2, vI p2), (3, vI p3)]) (pc := 5) dX12_lineAt_5 rfl rfl ?_
  refine ok_sub (L' := [(0, .ref (xad X 122)), (1, vI p1), (2, vI p2), (3, vI p3), (4, vI (-4)), (5, vI 0)]) [2,3,4,5,1,0] rfl ?_
  obtain ⟨n1, h⟩ := h
  exact w_X12_lineAt_7 X p1 p2 p3 hp1 hp2 hp3 n1 (-4) 0 σ (r_lit rfl) (r_lit rfl) h
theorem dX12_holdsThen_0 : decode cX12_holdsThen 0 = .ok (.aload_n 0, 1) := by decide +kernel
theorem dX12_holdsThen_1 : decode cX12_holdsThen 1 = .ok (.iload_n 1, 1) := by decide +kernel
theorem dX12_holdsThen_2 : decode cX12_holdsThen 2 = .ok (.iload_n 2, 1) := by decide +kernel
theorem dX12_holdsThen_3 : decode cX12_holdsThen 3 = .ok (.iload_n 3, 1) := by decide +kernel
theorem dX12_holdsThen_4 : decode cX12_holdsThen 4 = .ok (.invokevirtual 210, 3) := by decide +kernel
theorem dX12_holdsThen_7 : decode cX12_holdsThen 7 = .ok (.istore 5, 2) := by decide +kernel
theorem dX12_holdsThen_9 : decode cX12_holdsThen 9 = .ok (.iload 5, 2) := by decide +kernel
theorem dX12_holdsThen_11 : decode cX12_holdsThen 11 = .ok (.bipush (-4), 2) := by decide +kernel
theorem dX12_holdsThen_13 : decode cX12_holdsThen 13 = .ok (.if_icmp .ne 8, 3) := by decide +kernel
theorem dX12_holdsThen_16 : decode cX12_holdsThen 16 = .ok (.iload 4, 2) := by decide +kernel
theorem dX12_holdsThen_18 : decode cX12_holdsThen 18 = .ok (.goto 10, 3) := by decide +kernel
theorem dX12_holdsThen_21 : decode cX12_holdsThen 21 = .ok (.aload_n 0, 1) := by decide +kernel
theorem dX12_holdsThen_22 : decode cX12_holdsThen 22 = .ok (.getfield 28, 3) := by decide +kernel
theorem dX12_holdsThen_25 : decode cX12_holdsThen 25 = .ok (.iload 5, 2) := by decide +kernel
theorem dX12_holdsThen_27 : decode cX12_holdsThen 27 = .ok (.iaload, 1) := by decide +kernel
theorem dX12_holdsThen_28 : decode cX12_holdsThen 28 = .ok (.ireturn, 1) := by decide +kernel
set_option maxRecDepth 100000 in
set_option maxHeartbeats 4000000 in
theorem c_X12_holdsThen (X : XE) (p1 : Int) (p2 : Int) (p3 : Int) (p4 : Int) (hp1 : inR p1) (hp2 : inR p2) (hp3 : inR p3) (hp4 : inR p4) {σ : Mem} {Q : Int → Mem → Prop} (h : v_X12_holdsThen p1 p2 p3 p4 σ Q) : CT X yX12_holdsThen cX12_holdsThen 6 (some .int) rm_X12_holdsThen 1 [.ref (xad X 122), vI p1, vI p2, vI p3, vI p4] σ Q := by
  refine ct_of (own := RX12) (L := [(0, .ref (xad X 122)), (1, vI p1), (2, vI p2), (3, vI p3), (4, vI p4)]) rfl rfl (Nat.le_of_ble_eq_true rfl) rfl ?_
  refine ok_aload_n 0 (pc := 0) dX12_holdsThen_0 rfl rfl ?_
  refine ok_iload_n 1 (pc := 1) dX12_holdsThen_1 rfl rfl ?_
  refine ok_iload_n 2 (pc := 2) dX12_holdsThen_2 rfl rfl ?_
  refine ok_iload_n 3 (pc := 3) dX12_holdsThen_3 rfl rfl ?_
  refine ok_callVi (As := [vI p1, vI p2, vI p3]) (rest := []) (rm := rm_X12_lineAt) (pc := 4) dX12_holdsThen_4 me_X12_lineAt ml_X12_210 (ci := 12) rfl sh_122 (Nat.le_of_ble_eq_true rfl) rfl des_X12_lineAt rfl ⟨rfl, rfl, rfl, rfl⟩ rfl rfl (c_X12_lineAt X p1 p2 p3 hp1 hp2 hp3 h) (fun r2 σ3 h1 h => ?_)
  refine ok_istore (L' := [(5, vI r2), (0, .ref (xad X 122)), (1, vI p1), (2, vI p2), (3, vI p3), (4, vI p4)]) (pc := 7) dX12_holdsThen_7 rfl rfl ?_
  refine ok_iload 0 (pc := 9) dX12_holdsThen_9 rfl ?_
  refine ok_bipush (pc := 11) dX12_holdsThen_11 rfl ?_
  refine ok_icmp_ne (tgt := 21) (pc := 13) dX12_holdsThen_13 rfl h1 (r_lit rfl) (fun q4 => ?_) (fun q4 => ?_)
  · have h := iteF h q4
    refine ok_aload_n 1 (pc := 21) dX12_holdsThen_21 rfl rfl ?_
    refine ok_getR (pc := 22) dX12_holdsThen_22 fl_X12_28 sh_122 (Nat.le_of_ble_eq_true rfl) rfl rfl ?_
    refine ok_iload 0 (pc := 25) dX12_holdsThen_25 rfl ?_
    obtain ⟨h5, h⟩ := h
    obtain ⟨h6, h⟩ := h
    refine ok_wf (fun hw7 => ?_)
    refine ok_iald (pc := 27) dX12_holdsThen_27 sh_129 (Nat.le_of_ble_eq_true rfl) rfl h5 h6 ?_
    exact ok_iret (pc := 28) dX12_holdsThen_28 rfl rfl rfl (hw7 _ _) h
  · have h := iteT h q4
    refine ok_iload 5 (pc := 16) dX12_holdsThen_16 rfl ?_
    refine ok_goto (tgt := 28) (pc := 18) dX12_holdsThen_18 rfl ?_
    exact ok_iret (pc := 28) dX12_holdsThen_28 rfl rfl rfl hp4 h
theorem dX12_firstEdge_0 : decode cX12_firstEdge 0 = .ok (.aload_n 0, 1) := by decide +kernel
theorem dX12_firstEdge_1 : decode cX12_firstEdge 1 = .ok (.iconst 0, 1) := by decide +kernel
theorem dX12_firstEdge_2 : decode cX12_firstEdge 2 = .ok (.iload_n 1, 1) := by decide +kernel
theorem dX12_firstEdge_3 : decode cX12_firstEdge 3 = .ok (.iload_n 2, 1) := by decide +kernel
theorem dX12_firstEdge_4 : decode cX12_firstEdge 4 = .ok (.sipush 333, 3) := by decide +kernel
theorem dX12_firstEdge_7 : decode cX12_firstEdge 7 = .ok (.invokevirtual 214, 3) := by decide +kernel
theorem dX12_firstEdge_10 : decode cX12_firstEdge 10 = .ok (.ireturn, 1) := by decide +kernel
set_option maxRecDepth 100000 in
set_option maxHeartbeats 4000000 in
theorem c_X12_firstEdge (X : XE) (p1 : Int) (p2 : Int) (hp1 : inR p1) (hp2 : inR p2) {σ : Mem} {Q : Int → Mem → Prop} (h : v_X12_firstEdge p1 p2 σ Q) : CT X yX12_firstEdge cX12_firstEdge 3 (some .int) rm_X12_firstEdge 1 [.ref (xad X 122), vI p1, vI p2] σ Q := by
  refine ct_of (own := RX12) (L := [(0, .ref (xad X 122)), (1, vI p1), (2, vI p2)]) rfl rfl (Nat.le_of_ble_eq_true rfl) rfl ?_
  refine ok_aload_n 0 (pc := 0) dX12_firstEdge_0 rfl rfl ?_
  refine ok_iconst (pc := 1) dX12_firstEdge_1 ?_
  refine ok_iload_n 1 (pc := 2) dX12_firstEdge_2 rfl rfl ?_
  refine ok_iload_n 2 (pc := 3) dX12_firstEdge_3 rfl rfl ?_
  refine ok_sipush (pc := 4) dX12_firstEdge_4 rfl ?_
  refine ok_callVi (As := [vI 0, vI p1, vI p2, vI 333]) (rest := []) (rm := rm_X12_holdsThen) (pc := 7) dX12_firstEdge_7 me_X12_holdsThen ml_X12_214 (ci := 12) rfl sh_122 (Nat.le_of_ble_eq_true rfl) rfl des_X12_holdsThen rfl ⟨rfl, rfl, rfl, rfl⟩ rfl rfl (c_X12_holdsThen X 0 p1 p2 333 (r_lit rfl) hp1 hp2 (r_lit rfl) h) (fun r2 σ3 h1 h => ?_)
  exact ok_iret (pc := 10) dX12_firstEdge_10 rfl rfl rfl h1 h
theorem dX12_secondEdge_0 : decode cX12_secondEdge 0 = .ok (.aload_n 0, 1) := by decide +kernel
theorem dX12_secondEdge_1 : decode cX12_secondEdge 1 = .ok (.iconst 0, 1) := by decide +kernel
theorem dX12_secondEdge_2 : decode cX12_secondEdge 2 = .ok (.iload_n 1, 1) := by decide +kernel
theorem dX12_secondEdge_3 : decode cX12_secondEdge 3 = .ok (.iload_n 2, 1) := by decide +kernel
theorem dX12_secondEdge_4 : decode cX12_secondEdge 4 = .ok (.invokevirtual 210, 3) := by decide +kernel
theorem dX12_secondEdge_7 : decode cX12_secondEdge 7 = .ok (.istore_n 3, 1) := by decide +kernel
theorem dX12_secondEdge_8 : decode cX12_secondEdge 8 = .ok (.iload_n 3, 1) := by decide +kernel
theorem dX12_secondEdge_9 : decode cX12_secondEdge 9 = .ok (.bipush (-4), 2) := by decide +kernel
theorem dX12_secondEdge_11 : decode cX12_secondEdge 11 = .ok (.if_icmp .ne 9, 3) := by decide +kernel
theorem dX12_secondEdge_14 : decode cX12_secondEdge 14 = .ok (.sipush 667, 3) := by decide +kernel
theorem dX12_secondEdge_17 : decode cX12_secondEdge 17 = .ok (.goto 9, 3) := by decide +kernel
theorem dX12_secondEdge_20 : decode cX12_secondEdge 20 = .ok (.aload_n 0, 1) := by decide +kernel
theorem dX12_secondEdge_21 : decode cX12_secondEdge 21 = .ok (.getfield 31, 3) := by decide +kernel
theorem dX12_secondEdge_24 : decode cX12_secondEdge 24 = .ok (.iload_n 3, 1) := by decide +kernel
theorem dX12_secondEdge_25 : decode cX12_secondEdge 25 = .ok (.iaload, 1) := by decide +kernel
theorem dX12_secondEdge_26 : decode cX12_secondEdge 26 = .ok (.ireturn, 1) := by decide +kernel
set_option maxRecDepth 100000 in
set_option maxHeartbeats 4000000 in
theorem c_X12_secondEdge (X : XE) (p1 : Int) (p2 : Int) (hp1 : inR p1) (hp2 : inR p2) {σ : Mem} {Q : Int → Mem → Prop} (h : v_X12_secondEdge p1 p2 σ Q) : CT X yX12_secondEdge cX12_secondEdge 4 (some .int) rm_X12_secondEdge 1 [.ref (xad X 122), vI p1, vI p2] σ Q := by
  refine ct_of (own := RX12) (L := [(0, .ref (xad X 122)), (1, vI p1), (2, vI p2)]) rfl rfl (Nat.le_of_ble_eq_true rfl) rfl ?_
  refine ok_aload_n 0 (pc := 0) dX12_secondEdge_0 rfl rfl ?_
  refine ok_iconst (pc := 1) dX12_secondEdge_1 ?_
  refine ok_iload_n 1 (pc := 2) dX12_secondEdge_2 rfl rfl ?_
  refine ok_iload_n 2 (pc := 3) dX12_secondEdge_3 rfl rfl ?_
  refine ok_callVi (As := [vI 0, vI p1, vI p2]) (rest := []) (rm := rm_X12_lineAt) (pc := 4) dX12_secondEdge_4 me_X12_lineAt ml_X12_210 (ci := 12) rfl sh_122 (Nat.le_of_ble_eq_true rfl) rfl des_X12_lineAt rfl ⟨rfl, rfl, rfl, rfl⟩ rfl rfl (c_X12_lineAt X 0 p1 p2 (r_lit rfl) hp1 hp2 h) (fun r2 σ3 h1 h => ?_)
  refine ok_istore_n (L' := [(3, vI r2), (0, .ref (xad X 122)), (1, vI p1), (2, vI p2)]) (pc := 7) dX12_secondEdge_7 rfl rfl rfl ?_
  refine ok_iload_n 0 (pc := 8) dX12_secondEdge_8 rfl rfl ?_
  refine ok_bipush (pc := 9) dX12_secondEdge_9 rfl ?_
  refine ok_icmp_ne (tgt := 20) (pc := 11) dX12_secondEdge_11 rfl h1 (r_lit rfl) (fun q4 => ?_) (fun q4 => ?_)
  · have h := iteF h q4
    refine ok_aload_n 1 (pc := 20) dX12_secondEdge_20 rfl rfl ?_
    refine ok_getR (pc := 21) dX12_secondEdge_21 fl_X12_31 sh_122 (Nat.le_of_ble_eq_true rfl) rfl rfl ?_
    refine ok_iload_n 0 (pc := 24) dX12_secondEdge_24 rfl rfl ?_
    obtain ⟨h5, h⟩ := h
    obtain ⟨h6, h⟩ := h
    refine ok_wf (fun hw7 => ?_)
    refine ok_iald (pc := 25) dX12_secondEdge_25 sh_130 (Nat.le_of_ble_eq_true rfl) rfl h5 h6 ?_
    exact ok_iret (pc := 26) dX12_secondEdge_26 rfl rfl rfl (hw7 _ _) h
  · have h := iteT h q4
    refine ok_sipush (pc := 14) dX12_secondEdge_14 rfl ?_
    refine ok_goto (tgt := 26) (pc := 17) dX12_secondEdge_17 rfl ?_
    exact ok_iret (pc := 26) dX12_secondEdge_26 rfl rfl rfl (r_lit rfl) h
theorem dX12_spreadOf_0 : decode cX12_spreadOf 0 = .ok (.aload_n 0, 1) := by decide +kernel
theorem dX12_spreadOf_1 : decode cX12_spreadOf 1 = .ok (.iconst 1, 1) := by decide +kernel
theorem dX12_spreadOf_2 : decode cX12_spreadOf 2 = .ok (.iload_n 1, 1) := by decide +kernel
theorem dX12_spreadOf_3 : decode cX12_spreadOf 3 = .ok (.iload_n 2, 1) := by decide +kernel
theorem dX12_spreadOf_4 : decode cX12_spreadOf 4 = .ok (.iconst 3, 1) := by decide +kernel
theorem dX12_spreadOf_5 : decode cX12_spreadOf 5 = .ok (.invokevirtual 214, 3) := by decide +kernel
theorem dX12_spreadOf_8 : decode cX12_spreadOf 8 = .ok (.ireturn, 1) := by decide +kernel
set_option maxRecDepth 100000 in
set_option maxHeartbeats 4000000 in
theorem c_X12_spreadOf (X : XE) (p1 : Int) (p2 : Int) (hp1 : inR p1) (hp2 : inR p2) {σ : Mem} {Q : Int → Mem → Prop} (h : v_X12_spreadOf p1 p2 σ Q) : CT X yX12_spreadOf cX12_spreadOf 3 (some .int) rm_X12_spreadOf 1 [.ref (xad X 122), vI p1, vI p2] σ Q := by
  refine ct_of (own := RX12) (L := [(0, .ref (xad X 122)), (1, vI p1), (2, vI p2)]) rfl rfl (Nat.le_of_ble_eq_true rfl) rfl ?_
  refine ok_aload_n 0 (pc := 0) dX12_spreadOf_0 rfl rfl ?_
  refine ok_iconst (pc := 1) dX12_spreadOf_1 ?_
  refine ok_iload_n 1 (pc := 2) dX12_spreadOf_2 rfl rfl ?_
  refine ok_iload_n 2 (pc := 3) dX12_spreadOf_3 rfl rfl ?_
  refine ok_iconst (pc := 4) dX12_spreadOf_4 ?_
  refine ok_callVi (As := [vI 1, vI p1, vI p2, vI 3]) (rest := []) (rm := rm_X12_holdsThen) (pc := 5) dX12_spreadOf_5 me_X12_holdsThen ml_X12_214 (ci := 12) rfl sh_122 (Nat.le_of_ble_eq_true rfl) rfl des_X12_holdsThen rfl ⟨rfl, rfl, rfl, rfl⟩ rfl rfl (c_X12_holdsThen X 1 p1 p2 3 (r_lit rfl) hp1 hp2 (r_lit rfl) h) (fun r2 σ3 h1 h => ?_)
  exact ok_iret (pc := 8) dX12_spreadOf_8 rfl rfl rfl h1 h
theorem dX12_growOf_0 : decode cX12_growOf 0 = .ok (.aload_n 0, 1) := by decide +kernel
theorem dX12_growOf_1 : decode cX12_growOf 1 = .ok (.iconst 2, 1) := by decide +kernel
theorem dX12_growOf_2 : decode cX12_growOf 2 = .ok (.iload_n 1, 1) := by decide +kernel
theorem dX12_growOf_3 : decode cX12_growOf 3 = .ok (.iload_n 2, 1) := by decide +kernel
theorem dX12_growOf_4 : decode cX12_growOf 4 = .ok (.iconst 0, 1) := by decide +kernel
theorem dX12_growOf_5 : decode cX12_growOf 5 = .ok (.invokevirtual 214, 3) := by decide +kernel
theorem dX12_growOf_8 : decode cX12_growOf 8 = .ok (.ireturn, 1) := by decide +kernel
set_option maxRecDepth 100000 in
set_option maxHeartbeats 4000000 in
theorem c_X12_growOf (X : XE) (p1 : Int) (p2 : Int) (hp1 : inR p1) (hp2 : inR p2) {σ : Mem} {Q : Int → Mem → Prop} (h : v_X12_growOf p1 p2 σ Q) : CT X yX12_growOf cX12_growOf 3 (some .int) rm_X12_growOf 1 [.ref (xad X 122), vI p1, vI p2] σ Q := by
  refine ct_of (own := RX12) (L := [(0, .ref (xad X 122)), (1, vI p1), (2, vI p2)]) rfl rfl (Nat.le_of_ble_eq_true rfl) rfl ?_
  refine ok_aload_n 0 (pc := 0) dX12_growOf_0 rfl rfl ?_
  refine ok_iconst (pc := 1) dX12_growOf_1 ?_
  refine ok_iload_n 1 (pc := 2) dX12_growOf_2 rfl rfl ?_
  refine ok_iload_n 2 (pc := 3) dX12_growOf_3 rfl rfl ?_
  refine ok_iconst (pc := 4) dX12_growOf_4 ?_
  refine ok_callVi (As := [vI 2, vI p1, vI p2, vI 0]) (rest := []) (rm := rm_X12_holdsThen) (pc := 5) dX12_growOf_5 me_X12_holdsThen ml_X12_214 (ci := 12) rfl sh_122 (Nat.le_of_ble_eq_true rfl) rfl des_X12_holdsThen rfl ⟨rfl, rfl, rfl, rfl⟩ rfl rfl (c_X12_holdsThen X 2 p1 p2 0 (r_lit rfl) hp1 hp2 (r_lit rfl) h) (fun r2 σ3 h1 h => ?_)
  exact ok_iret (pc := 8) dX12_growOf_8 rfl rfl rfl h1 h
theorem dX12_rule_0 : decode cX12_rule 0 = .ok (.iload_n 1, 1) := by decide +kernel
theorem dX12_rule_1 : decode cX12_rule 1 = .ok (.i2l, 1) := by decide +kernel
theorem dX12_rule_2 : decode cX12_rule 2 = .ok (.lconst 0, 1) := by decide +kernel
theorem dX12_rule_3 : decode cX12_rule 3 = .ok (.ldc2_w 218, 3) := by decide +kernel
theorem dX12_rule_6 : decode cX12_rule 6 = .ok (.invokestatic 137, 3) := by decide +kernel
theorem dX12_rule_9 : decode cX12_rule 9 = .ok (.ifCond .eq 15, 3) := by decide +kernel
theorem dX12_rule_12 : decode cX12_rule 12 = .ok (.iload_n 2, 1) := by decide +kernel
theorem dX12_rule_13 : decode cX12_rule 13 = .ok (.i2l, 1) := by decide +kernel
theorem dX12_rule_14 : decode cX12_rule 14 = .ok (.lconst 0, 1) := by decide +kernel
theorem dX12_rule_15 : decode cX12_rule 15 = .ok (.ldc2_w 135, 3) := by decide +kernel
theorem dX12_rule_18 : decode cX12_rule 18 = .ok (.invokestatic 137, 3) := by decide +kernel
theorem dX12_rule_21 : decode cX12_rule 21 = .ok (.ifCond .ne 5, 3) := by decide +kernel
theorem dX12_rule_24 : decode cX12_rule 24 = .ok (.iconst (-1), 1) := by decide +kernel
theorem dX12_rule_25 : decode cX12_rule 25 = .ok (.ireturn, 1) := by decide +kernel
theorem dX12_rule_26 : decode cX12_rule 26 = .ok (.iload_n 1, 1) := by decide +kernel
theorem dX12_rule_27 : decode cX12_rule 27 = .ok (.iconst 4, 1) := by decide +kernel
theorem dX12_rule_28 : decode cX12_rule 28 = .ok (.if_icmp .ge 12, 3) := by decide +kernel
theorem dX12_rule_31 : decode cX12_rule 31 = .ok (.aload_n 0, 1) := by decide +kernel
theorem dX12_rule_32 : decode cX12_rule 32 = .ok (.iload_n 1, 1) := by decide +kernel
theorem dX12_rule_33 : decode cX12_rule 33 = .ok (.iload_n 2, 1) := by decide +kernel
theorem dX12_rule_34 : decode cX12_rule 34 = .ok (.invokevirtual 220, 3) := by decide +kernel
theorem dX12_rule_37 : decode cX12_rule 37 = .ok (.goto 83, 3) := by decide +kernel
theorem dX12_rule_40 : decode cX12_rule 40 = .ok (.iload_n 1, 1) := by decide +kernel
theorem dX12_rule_41 : decode cX12_rule 41 = .ok (.bipush 8, 2) := by decide +kernel
theorem dX12_rule_43 : decode cX12_rule 43 = .ok (.if_icmp .ge 14, 3) := by decide +kernel
theorem dX12_rule_46 : decode cX12_rule 46 = .ok (.aload_n 0, 1) := by decide +kernel
theorem dX12_rule_47 : decode cX12_rule 47 = .ok (.iload_n 1, 1) := by decide +kernel
theorem dX12_rule_48 : decode cX12_rule 48 = .ok (.iconst 4, 1) := by decide +kernel
theorem dX12_rule_49 : decode cX12_rule 49 = .ok (.isub, 1) := by decide +kernel
theorem dX12_rule_50 : decode cX12_rule 50 = .ok (.iload_n 2, 1) := by decide +kernel
theorem dX12_rule_51 : decode cX12_rule 51 = .ok (.invokevirtual 223, 3) := by decide +kernel
theorem dX12_rule_54 : decode cX12_rule 54 = .ok (.goto 66, 3) := by decide +kernel
theorem dX12_rule_57 : decode cX12_rule 57 = .ok (.iload_n 1, 1) := by decide +kernel
theorem dX12_rule_58 : decode cX12_rule 58 = .ok (.bipush 14, 2) := by decide +kernel
theorem dX12_rule_60 : decode cX12_rule 60 = .ok (.if_icmp .ge 15, 3) := by decide +kernel
theorem dX12_rule_63 : decode cX12_rule 63 = .ok (.aload_n 0, 1) := by decide +kernel
theorem dX12_rule_64 : decode cX12_rule 64 = .ok (.iload_n 1, 1) := by decide +kernel
theorem dX12_rule_65 : decode cX12_rule 65 = .ok (.bipush 8, 2) := by decide +kernel
theorem dX12_rule_67 : decode cX12_rule 67 = .ok (.isub, 1) := by decide +kernel
theorem dX12_rule_68 : decode cX12_rule 68 = .ok (.iload_n 2, 1) := by decide +kernel
theorem dX12_rule_69 : decode cX12_rule 69 = .ok (.invokevirtual 226, 3) := by decide +kernel
theorem dX12_rule_72 : decode cX12_rule 72 = .ok (.goto 48, 3) := by decide +kernel
theorem dX12_rule_75 : decode cX12_rule 75 = .ok (.iload_n 1, 1) := by decide +kernel
theorem dX12_rule_76 : decode cX12_rule 76 = .ok (.bipush 18, 2) := by decide +kernel
theorem dX12_rule_78 : decode cX12_rule 78 = .ok (.if_icmp .ge 15, 3) := by decide +kernel
theorem dX12_rule_81 : decode cX12_rule 81 = .ok (.aload_n 0, 1) := by decide +kernel
theorem dX12_rule_82 : decode cX12_rule 82 = .ok (.iload_n 1, 1) := by decide +kernel
theorem dX12_rule_83 : decode cX12_rule 83 = .ok (.bipush 14, 2) := by decide +kernel
theorem dX12_rule_85 : decode cX12_rule 85 = .ok (.isub, 1) := by decide +kernel
theorem dX12_rule_86 : decode cX12_rule 86 = .ok (.iload_n 2, 1) := by decide +kernel
theorem dX12_rule_87 : decode cX12_rule 87 = .ok (.invokevirtual 229, 3) := by decide +kernel
theorem dX12_rule_90 : decode cX12_rule 90 = .ok (.goto 30, 3) := by decide +kernel
theorem dX12_rule_93 : decode cX12_rule 93 = .ok (.iload_n 1, 1) := by decide +kernel
theorem dX12_rule_94 : decode cX12_rule 94 = .ok (.bipush 18, 2) := by decide +kernel
theorem dX12_rule_96 : decode cX12_rule 96 = .ok (.if_icmp .ne 16, 3) := by decide +kernel
theorem dX12_rule_99 : decode cX12_rule 99 = .ok (.aload_n 0, 1) := by decide +kernel
theorem dX12_rule_100 : decode cX12_rule 100 = .ok (.iconst 3, 1) := by decide +kernel
theorem dX12_rule_101 : decode cX12_rule 101 = .ok (.iconst 0, 1) := by decide +kernel
theorem dX12_rule_102 : decode cX12_rule 102 = .ok (.iload_n 2, 1) := by decide +kernel
theorem dX12_rule_103 : decode cX12_rule 103 = .ok (.sipush 9999, 3) := by decide +kernel
theorem dX12_rule_106 : decode cX12_rule 106 = .ok (.invokevirtual 214, 3) := by decide +kernel
theorem dX12_rule_109 : decode cX12_rule 109 = .ok (.goto 11, 3) := by decide +kernel
theorem dX12_rule_112 : decode cX12_rule 112 = .ok (.aload_n 0, 1) := by decide +kernel
theorem dX12_rule_113 : decode cX12_rule 113 = .ok (.iconst 4, 1) := by decide +kernel
theorem dX12_rule_114 : decode cX12_rule 114 = .ok (.iconst 0, 1) := by decide +kernel
theorem dX12_rule_115 : decode cX12_rule 115 = .ok (.iload_n 2, 1) := by decide +kernel
theorem dX12_rule_116 : decode cX12_rule 116 = .ok (.iconst 2, 1) := by decide +kernel
theorem dX12_rule_117 : decode cX12_rule 117 = .ok (.invokevirtual 214, 3) := by decide +kernel
theorem dX12_rule_120 : decode cX12_rule 120 = .ok (.ireturn, 1) := by decide +kernel
set_option maxRecDepth 100000 in
set_option maxHeartbeats 4000000 in
theorem c_X12_rule (X : XE) (p1 : Int) (p2 : Int) (hp1 : inR p1) (hp2 : inR p2) {σ : Mem} {Q : Int → Mem → Prop} (h : v_X12_rule p1 p2 σ Q) : CT X yX12_rule cX12_rule 3 (some .int) rm_X12_rule 1 [.ref (xad X 122), vI p1, vI p2] σ Q := by
  refine ct_of (own := RX12) (L := [(0, .ref (xad X 122)), (1, vI p1), (2, vI p2)]) rfl rfl (Nat.le_of_ble_eq_true rfl) rfl ?_
  refine ok_iload_n 1 (pc := 0) dX12_rule_0 rfl rfl ?_
  refine ok_i2l (pc := 1) dX12_rule_1 hp1 ?_
  refine ok_lconst (v := 0) (pc := 2) dX12_rule_2 rfl ?_
  refine ok_ldc2 (pc := 3) dX12_rule_3 cn_X12_218 ?_
  refine ok_callSi (As := [vL p1, vL 0, vL 19]) (rest := []) (rm := rm_X12_in) (pc := 6) dX12_rule_6 me_X12_in ml_X12_137 des_X12_in rfl ⟨rfl, rfl, rfl, rfl⟩ rfl rfl (c_X12_in X p1 0 19 (l_of_r hp1) (l_of_r (r_lit rfl)) (l_of_r (r_lit rfl)) h) (fun r2 σ3 h1 h => ?_)
  refine ok_if_eq (tgt := 24) (pc := 9) dX12_rule_9 rfl h1 (fun q4 => ?_) (fun q4 => ?_)
  · have h := iteT h q4
    refine ok_iconst (pc := 24) dX12_rule_24 ?_
    exact ok_iret (pc := 25) dX12_rule_25 rfl rfl rfl (r_lit rfl) h
  · have h := iteF h q4
    refine ok_iload_n 2 (pc := 12) dX12_rule_12 rfl rfl ?_
    refine ok_i2l (pc := 13) dX12_rule_13 hp2 ?_
    refine ok_lconst (v := 0) (pc := 14) dX12_rule_14 rfl ?_
    refine ok_ldc2 (pc := 15) dX12_rule_15 cn_X12_135 ?_
    refine ok_callSi (As := [vL p2, vL 0, vL 9999]) (rest := []) (rm := rm_X12_in) (pc := 18) dX12_rule_18 me_X12_in ml_X12_137 des_X12_in rfl ⟨rfl, rfl, rfl, rfl⟩ rfl rfl (c_X12_in X p2 0 9999 (l_of_r hp2) (l_of_r (r_lit rfl)) (l_of_r (r_lit rfl)) h) (fun r6 σ7 h5 h => ?_)
    refine ok_if_ne (tgt := 26) (pc := 21) dX12_rule_21 rfl h5 (fun q8 => ?_) (fun q8 => ?_)
    · have h := iteF h q8
      refine ok_iload_n 1 (pc := 26) dX12_rule_26 rfl rfl ?_
      refine ok_iconst (pc := 27) dX12_rule_27 ?_
      refine ok_icmp_ge (tgt := 40) (pc := 28) dX12_rule_28 rfl hp1 (r_lit rfl) (fun q9 => ?_) (fun q9 => ?_)
      · have h := iteF h q9
        refine ok_iload_n 1 (pc := 40) dX12_rule_40 rfl rfl ?_
        refine ok_bipush (pc := 41) dX12_rule_41 rfl ?_
        refine ok_icmp_ge (tgt := 57) (pc := 43) dX12_rule_43 rfl hp1 (r_lit rfl) (fun q10 => ?_) (fun q10 => ?_)
        · have h := iteF h q10
          refine ok_iload_n 1 (pc := 57) dX12_rule_57 rfl rfl ?_
          refine ok_bipush (pc := 58) dX12_rule_58 rfl ?_
          refine ok_icmp_ge (tgt := 75) (pc := 60) dX12_rule_60 rfl hp1 (r_lit rfl) (fun q11 => ?_) (fun q11 => ?_)
          · have h := iteF h q11
            refine ok_iload_n 1 (pc := 75) dX12_rule_75 rfl rfl ?_
            refine ok_bipush (pc := 76) dX12_rule_76 rfl ?_
            refine ok_icmp_ge (tgt := 93) (pc := 78) dX12_rule_78 rfl hp1 (r_lit rfl) (fun q12 => ?_) (fun q12 => ?_)
            · have h := iteF h q12
              refine ok_iload_n 1 (pc := 93) dX12_rule_93 rfl rfl ?_
              refine ok_bipush (pc := 94) dX12_rule_94 rfl ?_
              refine ok_icmp_ne (tgt := 112) (pc := 96) dX12_rule_96 rfl hp1 (r_lit rfl) (fun q13 => ?_) (fun q13 => ?_)
              · have h := iteF h q13
                refine ok_aload_n 0 (pc := 112) dX12_rule_112 rfl rfl ?_
                refine ok_iconst (pc := 113) dX12_rule_113 ?_
                refine ok_iconst (pc := 114) dX12_rule_114 ?_
                refine ok_iload_n 2 (pc := 115) dX12_rule_115 rfl rfl ?_
                refine ok_iconst (pc := 116) dX12_rule_116 ?_
                refine ok_callVi (As := [vI 4, vI 0, vI p2, vI 2]) (rest := []) (rm := rm_X12_holdsThen) (pc := 117) dX12_rule_117 me_X12_holdsThen ml_X12_214 (ci := 12) rfl sh_122 (Nat.le_of_ble_eq_true rfl) rfl des_X12_holdsThen rfl ⟨rfl, rfl, rfl, rfl⟩ rfl rfl (c_X12_holdsThen X 4 0 p2 2 (r_lit rfl) (r_lit rfl) hp2 (r_lit rfl) h) (fun r15 σ16 h14 h => ?_)
                exact ok_iret (pc := 120) dX12_rule_120 rfl rfl rfl h14 h
              · have h := iteT h q13
                refine ok_aload_n 0 (pc := 99) dX12_rule_99 rfl rfl ?_
                refine ok_iconst (pc := 100) dX12_rule_100 ?_
                refine ok_iconst (pc := 101) dX12_rule_101 ?_
                refine ok_iload_n 2 (pc := 102) dX12_rule_102 rfl rfl ?_
                refine ok_sipush (pc := 103) dX12_rule_103 rfl ?_
                refine ok_callVi (As := [vI 3, vI 0, vI p2, vI 9999]) (rest := []) (rm := rm_X12_holdsThen) (pc := 106) dX12_rule_106 me_X12_holdsThen ml_X12_214 (ci := 12) rfl sh_122 (Nat.le_of_ble_eq_true rfl) rfl des_X12_holdsThen rfl ⟨rfl, rfl, rfl, rfl⟩ rfl rfl (c_X12_holdsThen X 3 0 p2 9999 (r_lit rfl) (r_lit rfl) hp2 (r_lit rfl) h) (fun r18 σ19 h17 h => ?_)
                refine ok_goto (tgt := 120) (pc := 109) dX12_rule_109 rfl ?_
                exact ok_iret (pc := 120) dX12_rule_120 rfl rfl rfl h17 h
            · have h := iteT h q12
              refine ok_aload_n 0 (pc := 81) dX12_rule_81 rfl rfl ?_
              refine ok_iload_n 1 (pc := 82) dX12_rule_82 rfl rfl ?_
              refine ok_bipush (pc := 83) dX12_rule_83 rfl ?_
              refine ok_isub (pc := 85) dX12_rule_85 ?_
              refine ok_iload_n 2 (pc := 86) dX12_rule_86 rfl rfl ?_
              obtain ⟨h20, h⟩ := h
              refine ok_callVi (As := [vI (p1 - 14), vI p2]) (rest := []) (rm := rm_X12_growOf) (pc := 87) dX12_rule_87 me_X12_growOf ml_X12_229 (ci := 12) rfl sh_122 (Nat.le_of_ble_eq_true rfl) rfl des_X12_growOf rfl ⟨rfl, rfl, rfl, rfl⟩ rfl rfl (c_X12_growOf X (p1 - 14) p2 h20 hp2 h) (fun r22 σ23 h21 h => ?_)
              refine ok_goto (tgt := 120) (pc := 90) dX12_rule_90 rfl ?_
              exact ok_iret (pc := 120) dX12_rule_120 rfl rfl rfl h21 h
          · have h := iteT h q11
            refine ok_aload_n 0 (pc := 63) dX12_rule_63 rfl rfl ?_
            refine ok_iload_n 1 (pc := 64) dX12_rule_64 rfl rfl ?_
            refine ok_bipush (pc := 65) dX12_rule_65 rfl ?_
            refine ok_isub (pc := 67) dX12_rule_67 ?_
            refine ok_iload_n 2 (pc := 68) dX12_rule_68 rfl rfl ?_
            obtain ⟨h24, h⟩ := h
            refine ok_callVi (As := [vI (p1 - 8), vI p2]) (rest := []) (rm := rm_X12_spreadOf) (pc := 69) dX12_rule_69 me_X12_spreadOf ml_X12_226 (ci := 12) rfl sh_122 (Nat.le_of_ble_eq_true rfl) rfl des_X12_spreadOf rfl ⟨rfl, rfl, rfl, rfl⟩ rfl rfl (c_X12_spreadOf X (p1 - 8) p2 h24 hp2 h) (fun r26 σ27 h25 h => ?_)
            refine ok_goto (tgt := 120) (pc := 72) dX12_rule_72 rfl ?_
            exact ok_iret (pc := 120) dX12_rule_120 rfl rfl rfl h25 h
        · have h := iteT h q10
          refine ok_aload_n 0 (pc := 46) dX12_rule_46 rfl rfl ?_
          refine ok_iload_n 1 (pc := 47) dX12_rule_47 rfl rfl ?_
          refine ok_iconst (pc := 48) dX12_rule_48 ?_
          refine ok_isub (pc := 49) dX12_rule_49 ?_
          refine ok_iload_n 2 (pc := 50) dX12_rule_50 rfl rfl ?_
          obtain ⟨h28, h⟩ := h
          refine ok_callVi (As := [vI (p1 - 4), vI p2]) (rest := []) (rm := rm_X12_secondEdge) (pc := 51) dX12_rule_51 me_X12_secondEdge ml_X12_223 (ci := 12) rfl sh_122 (Nat.le_of_ble_eq_true rfl) rfl des_X12_secondEdge rfl ⟨rfl, rfl, rfl, rfl⟩ rfl rfl (c_X12_secondEdge X (p1 - 4) p2 h28 hp2 h) (fun r30 σ31 h29 h => ?_)
          refine ok_goto (tgt := 120) (pc := 54) dX12_rule_54 rfl ?_
          exact ok_iret (pc := 120) dX12_rule_120 rfl rfl rfl h29 h
      · have h := iteT h q9
        refine ok_aload_n 0 (pc := 31) dX12_rule_31 rfl rfl ?_
        refine ok_iload_n 1 (pc := 32) dX12_rule_32 rfl rfl ?_
        refine ok_iload_n 2 (pc := 33) dX12_rule_33 rfl rfl ?_
        refine ok_callVi (As := [vI p1, vI p2]) (rest := []) (rm := rm_X12_firstEdge) (pc := 34) dX12_rule_34 me_X12_firstEdge ml_X12_220 (ci := 12) rfl sh_122 (Nat.le_of_ble_eq_true rfl) rfl des_X12_firstEdge rfl ⟨rfl, rfl, rfl, rfl⟩ rfl rfl (c_X12_firstEdge X p1 p2 hp1 hp2 h) (fun r33 σ34 h32 h => ?_)
        refine ok_goto (tgt := 120) (pc := 37) dX12_rule_37 rfl ?_
        exact ok_iret (pc := 120) dX12_rule_120 rfl rfl rfl h32 h
    · have h := iteT h q8
      refine ok_iconst (pc := 24) dX12_rule_24 ?_
      exact ok_iret (pc := 25) dX12_rule_25 rfl rfl rfl (r_lit rfl) h
theorem dX12_isCard_0 : decode cX12_isCard 0 = .ok (.iload_n 1, 1) := by decide +kernel
theorem dX12_isCard_1 : decode cX12_isCard 1 = .ok (.i2l, 1) := by decide +kernel
theorem dX12_isCard_2 : decode cX12_isCard 2 = .ok (.lconst 0, 1) := by decide +kernel
theorem dX12_isCard_3 : decode cX12_isCard 3 = .ok (.aload_n 0, 1) := by decide +kernel
theorem dX12_isCard_4 : decode cX12_isCard 4 = .ok (.getfield 232, 3) := by decide +kernel
theorem dX12_isCard_7 : decode cX12_isCard 7 = .ok (.iconst 1, 1) := by decide +kernel
theorem dX12_isCard_8 : decode cX12_isCard 8 = .ok (.isub, 1) := by decide +kernel
theorem dX12_isCard_9 : decode cX12_isCard 9 = .ok (.i2l, 1) := by decide +kernel
theorem dX12_isCard_10 : decode cX12_isCard 10 = .ok (.invokestatic 137, 3) := by decide +kernel
theorem dX12_isCard_13 : decode cX12_isCard 13 = .ok (.ireturn, 1) := by decide +kernel
set_option maxRecDepth 100000 in
set_option maxHeartbeats 4000000 in
theorem c_X12_isCard (X : XE) (p1 : Int) (hp1 : inR p1) {σ : Mem} {Q : Int → Mem → Prop} (h : v_X12_isCard p1 σ Q) : CT X yX12_isCard cX12_isCard 2 (some .boolean) rm_X12_isCard 1 [.ref (xad X 122), vI p1] σ Q := by
  refine ct_of (own := RX12) (L := [(0, .ref (xad X 122)), (1, vI p1)]) rfl rfl (Nat.le_of_ble_eq_true rfl) rfl ?_
  refine ok_iload_n 1 (pc := 0) dX12_isCard_0 rfl rfl ?_
  refine ok_i2l (pc := 1) dX12_isCard_1 hp1 ?_
  refine ok_lconst (v := 0) (pc := 2) dX12_isCard_2 rfl ?_
  refine ok_aload_n 0 (pc := 3) dX12_isCard_3 rfl rfl ?_
  refine ok_wf (fun hw1 => ?_)
  refine ok_getI (pc := 4) dX12_isCard_4 fl_X12_232 sh_122 (Nat.le_of_ble_eq_true rfl) rfl rfl ?_
  refine ok_iconst (pc := 7) dX12_isCard_7 ?_
  refine ok_isub (pc := 8) dX12_isCard_8 ?_
  obtain ⟨h2, h⟩ := h
  refine ok_i2l (pc := 9) dX12_isCard_9 h2 ?_
  refine ok_callSi (As := [vL p1, vL 0, vL ((σ 122 24) - 1)]) (rest := []) (rm := rm_X12_in) (pc := 10) dX12_isCard_10 me_X12_in ml_X12_137 des_X12_in rfl ⟨rfl, rfl, rfl, rfl⟩ rfl rfl (c_X12_in X p1 0 ((σ 122 24) - 1) (l_of_r hp1) (l_of_r (r_lit rfl)) (l_of_r h2) h) (fun r4 σ5 h3 h => ?_)
  obtain ⟨h6, h⟩ := h
  exact ok_iret (pc := 13) dX12_isCard_13 rfl rfl (nr_z h6) h3 h
theorem dX12_isMeasure_0 : decode cX12_isMeasure 0 = .ok (.iload_n 0, 1) := by decide +kernel
theorem dX12_isMeasure_1 : decode cX12_isMeasure 1 = .ok (.i2l, 1) := by decide +kernel
theorem dX12_isMeasure_2 : decode cX12_isMeasure 2 = .ok (.lconst 0, 1) := by decide +kernel
theorem dX12_isMeasure_3 : decode cX12_isMeasure 3 = .ok (.ldc2_w 235, 3) := by decide +kernel
theorem dX12_isMeasure_6 : decode cX12_isMeasure 6 = .ok (.invokestatic 137, 3) := by decide +kernel
theorem dX12_isMeasure_9 : decode cX12_isMeasure 9 = .ok (.ireturn, 1) := by decide +kernel
set_option maxRecDepth 100000 in
set_option maxHeartbeats 4000000 in
theorem c_X12_isMeasure (X : XE) (p0 : Int) (hp0 : inR p0) {σ : Mem} {Q : Int → Mem → Prop} (h : v_X12_isMeasure p0 σ Q) : CT X yX12_isMeasure cX12_isMeasure 1 (some .boolean) rm_X12_isMeasure 1 [vI p0] σ Q := by
  refine ct_of (own := RX12) (L := [(0, vI p0)]) rfl rfl (Nat.le_of_ble_eq_true rfl) rfl ?_
  refine ok_iload_n 0 (pc := 0) dX12_isMeasure_0 rfl rfl ?_
  refine ok_i2l (pc := 1) dX12_isMeasure_1 hp0 ?_
  refine ok_lconst (v := 0) (pc := 2) dX12_isMeasure_2 rfl ?_
  refine ok_ldc2 (pc := 3) dX12_isMeasure_3 cn_X12_235 ?_
  refine ok_callSi (As := [vL p0, vL 0, vL 999]) (rest := []) (rm := rm_X12_in) (pc := 6) dX12_isMeasure_6 me_X12_in ml_X12_137 des_X12_in rfl ⟨rfl, rfl, rfl, rfl⟩ rfl rfl (c_X12_in X p0 0 999 (l_of_r hp0) (l_of_r (r_lit rfl)) (l_of_r (r_lit rfl)) h) (fun r2 σ3 h1 h => ?_)
  obtain ⟨h4, h⟩ := h
  exact ok_iret (pc := 9) dX12_isMeasure_9 rfl rfl (nr_z h4) h1 h
theorem dX12_isOut_0 : decode cX12_isOut 0 = .ok (.aload_n 0, 1) := by decide +kernel
theorem dX12_isOut_1 : decode cX12_isOut 1 = .ok (.getfield 67, 3) := by decide +kernel
theorem dX12_isOut_4 : decode cX12_isOut 4 = .ok (.iload_n 1, 1) := by decide +kernel
theorem dX12_isOut_5 : decode cX12_isOut 5 = .ok (.iaload, 1) := by decide +kernel
theorem dX12_isOut_6 : decode cX12_isOut 6 = .ok (.bipush (-4), 2) := by decide +kernel
theorem dX12_isOut_8 : decode cX12_isOut 8 = .ok (.if_icmp .ne 7, 3) := by decide +kernel
theorem dX12_isOut_11 : decode cX12_isOut 11 = .ok (.iconst 1, 1) := by decide +kernel
theorem dX12_isOut_12 : decode cX12_isOut 12 = .ok (.goto 4, 3) := by decide +kernel
theorem dX12_isOut_15 : decode cX12_isOut 15 = .ok (.iconst 0, 1) := by decide +kernel
theorem dX12_isOut_16 : decode cX12_isOut 16 = .ok (.ireturn, 1) := by decide +kernel
set_option maxRecDepth 100000 in
set_option maxHeartbeats 4000000 in
theorem c_X12_isOut (X : XE) (p1 : Int) (hp1 : inR p1) {σ : Mem} {Q : Int → Mem → Prop} (h : v_X12_isOut p1 σ Q) : CT X yX12_isOut cX12_isOut 2 (some .boolean) rm_X12_isOut 1 [.ref (xad X 122), vI p1] σ Q := by
  refine ct_of (own := RX12) (L := [(0, .ref (xad X 122)), (1, vI p1)]) rfl rfl (Nat.le_of_ble_eq_true rfl) rfl ?_
  refine ok_aload_n 0 (pc := 0) dX12_isOut_0 rfl rfl ?_
  refine ok_getR (pc := 1) dX12_isOut_1 fl_X12_67 sh_122 (Nat.le_of_ble_eq_true rfl) rfl rfl ?_
  refine ok_iload_n 1 (pc := 4) dX12_isOut_4 rfl rfl ?_
  obtain ⟨h1, h⟩ := h
  obtain ⟨h2, h⟩ := h
  refine ok_wf (fun hw3 => ?_)
  refine ok_iald (pc := 5) dX12_isOut_5 sh_142 (Nat.le_of_ble_eq_true rfl) rfl h1 h2 ?_
  refine ok_bipush (pc := 6) dX12_isOut_6 rfl ?_
  refine ok_icmp_ne (tgt := 15) (pc := 8) dX12_isOut_8 rfl (hw3 _ _) (r_lit rfl) (fun q4 => ?_) (fun q4 => ?_)
  · have h := iteF h q4
    refine ok_iconst (pc := 15) dX12_isOut_15 ?_
    exact ok_iret (pc := 16) dX12_isOut_16 rfl rfl (nr_z (Or.inl rfl)) (r_lit rfl) h
  · have h := iteT h q4
    refine ok_iconst (pc := 11) dX12_isOut_11 ?_
    refine ok_goto (tgt := 16) (pc := 12) dX12_isOut_12 rfl ?_
    exact ok_iret (pc := 16) dX12_isOut_16 rfl rfl (nr_z (Or.inr rfl)) (r_lit rfl) h
theorem dX12_thirdOf_0 : decode cX12_thirdOf 0 = .ok (.iload_n 2, 1) := by decide +kernel
theorem dX12_thirdOf_1 : decode cX12_thirdOf 1 = .ok (.ifCond .ne 7, 3) := by decide +kernel
theorem dX12_thirdOf_4 : decode cX12_thirdOf 4 = .ok (.iconst 1, 1) := by decide +kernel
theorem dX12_thirdOf_5 : decode cX12_thirdOf 5 = .ok (.goto 32, 3) := by decide +kernel
theorem dX12_thirdOf_8 : decode cX12_thirdOf 8 = .ok (.iload_n 2, 1) := by decide +kernel
theorem dX12_thirdOf_9 : decode cX12_thirdOf 9 = .ok (.aload_n 0, 1) := by decide +kernel
theorem dX12_thirdOf_10 : decode cX12_thirdOf 10 = .ok (.iload_n 1, 1) := by decide +kernel
theorem dX12_thirdOf_11 : decode cX12_thirdOf 11 = .ok (.iload_n 3, 1) := by decide +kernel
theorem dX12_thirdOf_12 : decode cX12_thirdOf 12 = .ok (.invokevirtual 220, 3) := by decide +kernel
theorem dX12_thirdOf_15 : decode cX12_thirdOf 15 = .ok (.if_icmp .ge 7, 3) := by decide +kernel
theorem dX12_thirdOf_18 : decode cX12_thirdOf 18 = .ok (.iconst 0, 1) := by decide +kernel
theorem dX12_thirdOf_19 : decode cX12_thirdOf 19 = .ok (.goto 18, 3) := by decide +kernel
theorem dX12_thirdOf_22 : decode cX12_thirdOf 22 = .ok (.iload_n 2, 1) := by decide +kernel
theorem dX12_thirdOf_23 : decode cX12_thirdOf 23 = .ok (.aload_n 0, 1) := by decide +kernel
theorem dX12_thirdOf_24 : decode cX12_thirdOf 24 = .ok (.iload_n 1, 1) := by decide +kernel
theorem dX12_thirdOf_25 : decode cX12_thirdOf 25 = .ok (.iload_n 3, 1) := by decide +kernel
theorem dX12_thirdOf_26 : decode cX12_thirdOf 26 = .ok (.invokevirtual 223, 3) := by decide +kernel
theorem dX12_thirdOf_29 : decode cX12_thirdOf 29 = .ok (.if_icmp .lt 7, 3) := by decide +kernel
theorem dX12_thirdOf_32 : decode cX12_thirdOf 32 = .ok (.iconst 2, 1) := by decide +kernel
theorem dX12_thirdOf_33 : decode cX12_thirdOf 33 = .ok (.goto 4, 3) := by decide +kernel
theorem dX12_thirdOf_36 : decode cX12_thirdOf 36 = .ok (.iconst 1, 1) := by decide +kernel
theorem dX12_thirdOf_37 : decode cX12_thirdOf 37 = .ok (.ireturn, 1) := by decide +kernel
set_option maxRecDepth 100000 in
set_option maxHeartbeats 4000000 in
theorem c_X12_thirdOf (X : XE) (p1 : Int) (p2 : Int) (p3 : Int) (hp1 : inR p1) (hp2 : inR p2) (hp3 : inR p3) {σ : Mem} {Q : Int → Mem → Prop} (h : v_X12_thirdOf p1 p2 p3 σ Q) : CT X yX12_thirdOf cX12_thirdOf 4 (some .int) rm_X12_thirdOf 1 [.ref (xad X 122), vI p1, vI p2, vI p3] σ Q := by
  refine ct_of (own := RX12) (L := [(0, .ref (xad X 122)), (1, vI p1), (2, vI p2), (3, vI p3)]) rfl rfl (Nat.le_of_ble_eq_true rfl) rfl ?_
  refine ok_iload_n 2 (pc := 0) dX12_thirdOf_0 rfl rfl ?_
  refine ok_if_ne (tgt := 8) (pc := 1) dX12_thirdOf_1 rfl hp2 (fun q1 => ?_) (fun q1 => ?_)
  · have h := iteF h q1
    refine ok_iload_n 2 (pc := 8) dX12_thirdOf_8 rfl rfl ?_
    refine ok_aload_n 0 (pc := 9) dX12_thirdOf_9 rfl rfl ?_
    refine ok_iload_n 1 (pc := 10) dX12_thirdOf_10 rfl rfl ?_
    refine ok_iload_n 3 (pc := 11) dX12_thirdOf_11 rfl rfl ?_
    refine ok_callVi (As := [vI p1, vI p3]) (rest := [vI p2]) (rm := rm_X12_firstEdge) (pc := 12) dX12_thirdOf_12 me_X12_firstEdge ml_X12_220 (ci := 12) rfl sh_122 (Nat.le_of_ble_eq_true rfl) rfl des_X12_firstEdge rfl ⟨rfl, rfl, rfl, rfl⟩ rfl rfl (c_X12_firstEdge X p1 p3 hp1 hp3 h) (fun r3 σ4 h2 h => ?_)
    refine ok_icmp_ge (tgt := 22) (pc := 15) dX12_thirdOf_15 rfl hp2 h2 (fun q5 => ?_) (fun q5 => ?_)
    · have h := iteF h q5
      refine ok_iload_n 2 (pc := 22) dX12_thirdOf_22 rfl rfl ?_
      refine ok_aload_n 0 (pc := 23) dX12_thirdOf_23 rfl rfl ?_
      refine ok_iload_n 1 (pc := 24) dX12_thirdOf_24 rfl rfl ?_
      refine ok_iload_n 3 (pc := 25) dX12_thirdOf_25 rfl rfl ?_
      refine ok_callVi (As := [vI p1, vI p3]) (rest := [vI p2]) (rm := rm_X12_secondEdge) (pc := 26) dX12_thirdOf_26 me_X12_secondEdge ml_X12_223 (ci := 12) rfl sh_122 (Nat.le_of_ble_eq_true rfl) rfl des_X12_secondEdge rfl ⟨rfl, rfl, rfl, rfl⟩ rfl rfl (c_X12_secondEdge X p1 p3 hp1 hp3 h) (fun r7 σ8 h6 h => ?_)
      refine ok_icmp_lt (tgt := 36) (pc := 29) dX12_thirdOf_29 rfl hp2 h6 (fun q9 => ?_) (fun q9 => ?_)
      · have h := iteT h q9
        refine ok_iconst (pc := 36) dX12_thirdOf_36 ?_
        exact ok_iret (pc := 37) dX12_thirdOf_37 rfl rfl rfl (r_lit rfl) h
      · have h := iteF h q9
        refine ok_iconst (pc := 32) dX12_thirdOf_32 ?_
        refine ok_goto (tgt := 37) (pc := 33) dX12_thirdOf_33 rfl ?_
        exact ok_iret (pc := 37) dX12_thirdOf_37 rfl rfl rfl (r_lit rfl) h
    · have h := iteT h q5
      refine ok_iconst (pc := 18) dX12_thirdOf_18 ?_
      refine ok_goto (tgt := 37) (pc := 19) dX12_thirdOf_19 rfl ?_
      exact ok_iret (pc := 37) dX12_thirdOf_37 rfl rfl rfl (r_lit rfl) h
  · have h := iteT h q1
    refine ok_iconst (pc := 4) dX12_thirdOf_4 ?_
    refine ok_goto (tgt := 37) (pc := 5) dX12_thirdOf_5 rfl ?_
    exact ok_iret (pc := 37) dX12_thirdOf_37 rfl rfl rfl (r_lit rfl) h
theorem dX12_drawerOf_0 : decode cX12_drawerOf 0 = .ok (.bipush 9, 2) := by decide +kernel
theorem dX12_drawerOf_2 : decode cX12_drawerOf 2 = .ok (.aload_n 0, 1) := by decide +kernel
theorem dX12_drawerOf_3 : decode cX12_drawerOf 3 = .ok (.iconst 0, 1) := by decide +kernel
theorem dX12_drawerOf_4 : decode cX12_drawerOf 4 = .ok (.aload_n 0, 1) := by decide +kernel
theorem dX12_drawerOf_5 : decode cX12_drawerOf 5 = .ok (.getfield 55, 3) := by decide +kernel
theorem dX12_drawerOf_8 : decode cX12_drawerOf 8 = .ok (.iconst 4, 1) := by decide +kernel
theorem dX12_drawerOf_9 : decode cX12_drawerOf 9 = .ok (.iload_n 1, 1) := by decide +kernel
theorem dX12_drawerOf_10 : decode cX12_drawerOf 10 = .ok (.imul, 1) := by decide +kernel
theorem dX12_drawerOf_11 : decode cX12_drawerOf 11 = .ok (.iaload, 1) := by decide +kernel
theorem dX12_drawerOf_12 : decode cX12_drawerOf 12 = .ok (.aload_n 0, 1) := by decide +kernel
theorem dX12_drawerOf_13 : decode cX12_drawerOf 13 = .ok (.getfield 132, 3) := by decide +kernel
theorem dX12_drawerOf_16 : decode cX12_drawerOf 16 = .ok (.invokevirtual 237, 3) := by decide +kernel
theorem dX12_drawerOf_19 : decode cX12_drawerOf 19 = .ok (.imul, 1) := by decide +kernel
theorem dX12_drawerOf_20 : decode cX12_drawerOf 20 = .ok (.iconst 3, 1) := by decide +kernel
theorem dX12_drawerOf_21 : decode cX12_drawerOf 21 = .ok (.aload_n 0, 1) := by decide +kernel
theorem dX12_drawerOf_22 : decode cX12_drawerOf 22 = .ok (.iconst 1, 1) := by decide +kernel
theorem dX12_drawerOf_23 : decode cX12_drawerOf 23 = .ok (.aload_n 0, 1) := by decide +kernel
theorem dX12_drawerOf_24 : decode cX12_drawerOf 24 = .ok (.getfield 55, 3) := by decide +kernel
theorem dX12_drawerOf_27 : decode cX12_drawerOf 27 = .ok (.iconst 4, 1) := by decide +kernel
theorem dX12_drawerOf_28 : decode cX12_drawerOf 28 = .ok (.iload_n 1, 1) := by decide +kernel
theorem dX12_drawerOf_29 : decode cX12_drawerOf 29 = .ok (.imul, 1) := by decide +kernel
theorem dX12_drawerOf_30 : decode cX12_drawerOf 30 = .ok (.iconst 1, 1) := by decide +kernel
theorem dX12_drawerOf_31 : decode cX12_drawerOf 31 = .ok (.iadd, 1) := by decide +kernel
theorem dX12_drawerOf_32 : decode cX12_drawerOf 32 = .ok (.iaload, 1) := by decide +kernel
theorem dX12_drawerOf_33 : decode cX12_drawerOf 33 = .ok (.aload_n 0, 1) := by decide +kernel
theorem dX12_drawerOf_34 : decode cX12_drawerOf 34 = .ok (.getfield 132, 3) := by decide +kernel
theorem dX12_drawerOf_37 : decode cX12_drawerOf 37 = .ok (.invokevirtual 237, 3) := by decide +kernel
theorem dX12_drawerOf_40 : decode cX12_drawerOf 40 = .ok (.imul, 1) := by decide +kernel
theorem dX12_drawerOf_41 : decode cX12_drawerOf 41 = .ok (.iadd, 1) := by decide +kernel
theorem dX12_drawerOf_42 : decode cX12_drawerOf 42 = .ok (.aload_n 0, 1) := by decide +kernel
theorem dX12_drawerOf_43 : decode cX12_drawerOf 43 = .ok (.iconst 2, 1) := by decide +kernel
theorem dX12_drawerOf_44 : decode cX12_drawerOf 44 = .ok (.aload_n 0, 1) := by decide +kernel
theorem dX12_drawerOf_45 : decode cX12_drawerOf 45 = .ok (.getfield 55, 3) := by decide +kernel
theorem dX12_drawerOf_48 : decode cX12_drawerOf 48 = .ok (.iconst 4, 1) := by decide +kernel
theorem dX12_drawerOf_49 : decode cX12_drawerOf 49 = .ok (.iload_n 1, 1) := by decide +kernel
theorem dX12_drawerOf_50 : decode cX12_drawerOf 50 = .ok (.imul, 1) := by decide +kernel
theorem dX12_drawerOf_51 : decode cX12_drawerOf 51 = .ok (.iconst 2, 1) := by decide +kernel
theorem dX12_drawerOf_52 : decode cX12_drawerOf 52 = .ok (.iadd, 1) := by decide +kernel
theorem dX12_drawerOf_53 : decode cX12_drawerOf 53 = .ok (.iaload, 1) := by decide +kernel
theorem dX12_drawerOf_54 : decode cX12_drawerOf 54 = .ok (.aload_n 0, 1) := by decide +kernel
theorem dX12_drawerOf_55 : decode cX12_drawerOf 55 = .ok (.getfield 132, 3) := by decide +kernel
theorem dX12_drawerOf_58 : decode cX12_drawerOf 58 = .ok (.invokevirtual 237, 3) := by decide +kernel
theorem dX12_drawerOf_61 : decode cX12_drawerOf 61 = .ok (.iadd, 1) := by decide +kernel
theorem dX12_drawerOf_62 : decode cX12_drawerOf 62 = .ok (.ireturn, 1) := by decide +kernel
set_option maxRecDepth 100000 in
set_option maxHeartbeats 4000000 in
theorem c_X12_drawerOf (X : XE) (p1 : Int) (hp1 : inR p1) {σ : Mem} {Q : Int → Mem → Prop} (h : v_X12_drawerOf p1 σ Q) : CT X yX12_drawerOf cX12_drawerOf 2 (some .int) rm_X12_drawerOf 1 [.ref (xad X 122), vI p1] σ Q := by
  refine ct_of (own := RX12) (L := [(0, .ref (xad X 122)), (1, vI p1)]) rfl rfl (Nat.le_of_ble_eq_true rfl) rfl ?_
  refine ok_bipush (pc := 0) dX12_drawerOf_0 rfl ?_
  refine ok_aload_n 0 (pc := 2) dX12_drawerOf_2 rfl rfl ?_
  refine ok_iconst (pc := 3) dX12_drawerOf_3 ?_
  refine ok_aload_n 0 (pc := 4) dX12_drawerOf_4 rfl rfl ?_
  refine ok_getR (pc := 5) dX12_drawerOf_5 fl_X12_55 sh_122 (Nat.le_of_ble_eq_true rfl) rfl rfl ?_
  refine ok_iconst (pc := 8) dX12_drawerOf_8 ?_
  refine ok_iload_n 1 (pc := 9) dX12_drawerOf_9 rfl rfl ?_
  refine ok_imul (pc := 10) dX12_drawerOf_10 ?_
  obtain ⟨h1, h⟩ := h
  obtain ⟨h2, h⟩ := h
  refine ok_wf (fun hw3 => ?_)
  refine ok_iald (pc := 11) dX12_drawerOf_11 sh_138 (Nat.le_of_ble_eq_true rfl) rfl h1 h2 ?_
  refine ok_aload_n 0 (pc := 12) dX12_drawerOf_12 rfl rfl ?_
  refine ok_getI (pc := 13) dX12_drawerOf_13 fl_X12_132 sh_122 (Nat.le_of_ble_eq_true rfl) rfl rfl ?_
  refine ok_callVi (As := [vI 0, vI (σ 138 (4 * p1).toNat), vI (σ 122 0)]) (rest := [vI 9]) (rm := rm_X12_thirdOf) (pc := 16) dX12_drawerOf_16 me_X12_thirdOf ml_X12_237 (ci := 12) rfl sh_122 (Nat.le_of_ble_eq_true rfl) rfl des_X12_thirdOf rfl ⟨rfl, rfl, rfl, rfl⟩ rfl rfl (c_X12_thirdOf X 0 (σ 138 (4 * p1).toNat) (σ 122 0) (r_lit rfl) (hw3 _ _) (hw3 _ _) h) (fun r5 σ6 h4 h => ?_)
  refine ok_imul (pc := 19) dX12_drawerOf_19 ?_
  refine ok_iconst (pc := 20) dX12_drawerOf_20 ?_
  refine ok_aload_n 0 (pc := 21) dX12_drawerOf_21 rfl rfl ?_
  refine ok_iconst (pc := 22) dX12_drawerOf_22 ?_
  refine ok_aload_n 0 (pc := 23) dX12_drawerOf_23 rfl rfl ?_
  refine ok_getR (pc := 24) dX12_drawerOf_24 fl_X12_55 sh_122 (Nat.le_of_ble_eq_true rfl) rfl rfl ?_
  refine ok_iconst (pc := 27) dX12_drawerOf_27 ?_
  refine ok_iload_n 1 (pc := 28) dX12_drawerOf_28 rfl rfl ?_
  refine ok_imul (pc := 29) dX12_drawerOf_29 ?_
  refine ok_iconst (pc := 30) dX12_drawerOf_30 ?_
  refine ok_iadd (pc := 31) dX12_drawerOf_31 ?_
  obtain ⟨h7, h⟩ := h
  obtain ⟨h8, h⟩ := h
  refine ok_wf (fun hw9 => ?_)
  refine ok_iald (pc := 32) dX12_drawerOf_32 sh_138 (Nat.le_of_ble_eq_true rfl) rfl h7 h8 ?_
  refine ok_aload_n 0 (pc := 33) dX12_drawerOf_33 rfl rfl ?_
  refine ok_getI (pc := 34) dX12_drawerOf_34 fl_X12_132 sh_122 (Nat.le_of_ble_eq_true rfl) rfl rfl ?_
  refine ok_callVi (As := [vI 1, vI (σ6 138 ((4 * p1) + 1).toNat), vI (σ6 122 0)]) (rest := [vI 3, vI (9 * r5)]) (rm := rm_X12_thirdOf) (pc := 37) dX12_drawerOf_37 me_X12_thirdOf ml_X12_237 (ci := 12) rfl sh_122 (Nat.le_of_ble_eq_true rfl) rfl des_X12_thirdOf rfl ⟨rfl, rfl, rfl, rfl⟩ rfl rfl (c_X12_thirdOf X 1 (σ6 138 ((4 * p1) + 1).toNat) (σ6 122 0) (r_lit rfl) (hw9 _ _) (hw9 _ _) h) (fun r11 σ12 h10 h => ?_)
  refine ok_imul (pc := 40) dX12_drawerOf_40 ?_
  refine ok_iadd (pc := 41) dX12_drawerOf_41 ?_
  refine ok_aload_n 0 (pc := 42) dX12_drawerOf_42 rfl rfl ?_
  refine ok_iconst (pc := 43) dX12_drawerOf_43 ?_
  refine ok_aload_n 0 (pc := 44) dX12_drawerOf_44 rfl rfl ?_
  refine ok_getR (pc := 45) dX12_drawerOf_45 fl_X12_55 sh_122 (Nat.le_of_ble_eq_true rfl) rfl rfl ?_
  refine ok_iconst (pc := 48) dX12_drawerOf_48 ?_
  refine ok_iload_n 1 (pc := 49) dX12_drawerOf_49 rfl rfl ?_
  refine ok_imul (pc := 50) dX12_drawerOf_50 ?_
  refine ok_iconst (pc := 51) dX12_drawerOf_51 ?_
  refine ok_iadd (pc := 52) dX12_drawerOf_52 ?_
  obtain ⟨h13, h⟩ := h
  obtain ⟨h14, h⟩ := h
  refine ok_wf (fun hw15 => ?_)
  refine ok_iald (pc := 53) dX12_drawerOf_53 sh_138 (Nat.le_of_ble_eq_true rfl) rfl h13 h14 ?_
  refine ok_aload_n 0 (pc := 54) dX12_drawerOf_54 rfl rfl ?_
  refine ok_getI (pc := 55) dX12_drawerOf_55 fl_X12_132 sh_122 (Nat.le_of_ble_eq_true rfl) rfl rfl ?_
  refine ok_callVi (As := [vI 2, vI (σ12 138 ((4 * p1) + 2).toNat), vI (σ12 122 0)]) (rest := [vI ((9 * r5) + (3 * r11))]) (rm := rm_X12_thirdOf) (pc := 58) dX12_drawerOf_58 me_X12_thirdOf ml_X12_237 (ci := 12) rfl sh_122 (Nat.le_of_ble_eq_true rfl) rfl des_X12_thirdOf rfl ⟨rfl, rfl, rfl, rfl⟩ rfl rfl (c_X12_thirdOf X 2 (σ12 138 ((4 * p1) + 2).toNat) (σ12 122 0) (r_lit rfl) (hw15 _ _) (hw15 _ _) h) (fun r17 σ18 h16 h => ?_)
  refine ok_iadd (pc := 61) dX12_drawerOf_61 ?_
  obtain ⟨h19, h⟩ := h
  exact ok_iret (pc := 62) dX12_drawerOf_62 rfl rfl rfl h19 h
theorem dX12_addCard_0 : decode cX12_addCard 0 = .ok (.aload_n 0, 1) := by decide +kernel
theorem dX12_addCard_1 : decode cX12_addCard 1 = .ok (.getfield 232, 3) := by decide +kernel
theorem dX12_addCard_4 : decode cX12_addCard 4 = .ok (.istore 8, 2) := by decide +kernel
theorem dX12_addCard_6 : decode cX12_addCard 6 = .ok (.aload_n 0, 1) := by decide +kernel
theorem dX12_addCard_7 : decode cX12_addCard 7 = .ok (.getfield 49, 3) := by decide +kernel
theorem dX12_addCard_10 : decode cX12_addCard 10 = .ok (.iload 8, 2) := by decide +kernel
theorem dX12_addCard_12 : decode cX12_addCard 12 = .ok (.iload_n 1, 1) := by decide +kernel
theorem dX12_addCard_13 : decode cX12_addCard 13 = .ok (.iastore, 1) := by decide +kernel
theorem dX12_addCard_14 : decode cX12_addCard 14 = .ok (.aload_n 0, 1) := by decide +kernel
theorem dX12_addCard_15 : decode cX12_addCard 15 = .ok (.getfield 52, 3) := by decide +kernel
theorem dX12_addCard_18 : decode cX12_addCard 18 = .ok (.iload 8, 2) := by decide +kernel
theorem dX12_addCard_20 : decode cX12_addCard 20 = .ok (.iload_n 2, 1) := by decide +kernel
theorem dX12_addCard_21 : decode cX12_addCard 21 = .ok (.iastore, 1) := by decide +kernel
theorem dX12_addCard_22 : decode cX12_addCard 22 = .ok (.aload_n 0, 1) := by decide +kernel
theorem dX12_addCard_23 : decode cX12_addCard 23 = .ok (.getfield 55, 3) := by decide +kernel
theorem dX12_addCard_26 : decode cX12_addCard 26 = .ok (.iconst 4, 1) := by decide +kernel
theorem dX12_addCard_27 : decode cX12_addCard 27 = .ok (.iload 8, 2) := by decide +kernel
theorem dX12_addCard_29 : decode cX12_addCard 29 = .ok (.imul, 1) := by decide +kernel
theorem dX12_addCard_30 : decode cX12_addCard 30 = .ok (.iload_n 3, 1) := by decide +kernel
theorem dX12_addCard_31 : decode cX12_addCard 31 = .ok (.iastore, 1) := by decide +kernel
theorem dX12_addCard_32 : decode cX12_addCard 32 = .ok (.aload_n 0, 1) := by decide +kernel
theorem dX12_addCard_33 : decode cX12_addCard 33 = .ok (.getfield 55, 3) := by decide +kernel
theorem dX12_addCard_36 : decode cX12_addCard 36 = .ok (.iconst 4, 1) := by decide +kernel
theorem dX12_addCard_37 : decode cX12_addCard 37 = .ok (.iload 8, 2) := by decide +kernel
theorem dX12_addCard_39 : decode cX12_addCard 39 = .ok (.imul, 1) := by decide +kernel
theorem dX12_addCard_40 : decode cX12_addCard 40 = .ok (.iconst 1, 1) := by decide +kernel
theorem dX12_addCard_41 : decode cX12_addCard 41 = .ok (.iadd, 1) := by decide +kernel
theorem dX12_addCard_42 : decode cX12_addCard 42 = .ok (.iload 4, 2) := by decide +kernel
theorem dX12_addCard_44 : decode cX12_addCard 44 = .ok (.iastore, 1) := by decide +kernel
theorem dX12_addCard_45 : decode cX12_addCard 45 = .ok (.aload_n 0, 1) := by decide +kernel
theorem dX12_addCard_46 : decode cX12_addCard 46 = .ok (.getfield 55, 3) := by decide +kernel
theorem dX12_addCard_49 : decode cX12_addCard 49 = .ok (.iconst 4, 1) := by decide +kernel
theorem dX12_addCard_50 : decode cX12_addCard 50 = .ok (.iload 8, 2) := by decide +kernel
theorem dX12_addCard_52 : decode cX12_addCard 52 = .ok (.imul, 1) := by decide +kernel
theorem dX12_addCard_53 : decode cX12_addCard 53 = .ok (.iconst 2, 1) := by decide +kernel
theorem dX12_addCard_54 : decode cX12_addCard 54 = .ok (.iadd, 1) := by decide +kernel
theorem dX12_addCard_55 : decode cX12_addCard 55 = .ok (.iload 5, 2) := by decide +kernel
theorem dX12_addCard_57 : decode cX12_addCard 57 = .ok (.iastore, 1) := by decide +kernel
theorem dX12_addCard_58 : decode cX12_addCard 58 = .ok (.aload_n 0, 1) := by decide +kernel
theorem dX12_addCard_59 : decode cX12_addCard 59 = .ok (.getfield 55, 3) := by decide +kernel
theorem dX12_addCard_62 : decode cX12_addCard 62 = .ok (.iconst 4, 1) := by decide +kernel
theorem dX12_addCard_63 : decode cX12_addCard 63 = .ok (.iload 8, 2) := by decide +kernel
theorem dX12_addCard_65 : decode cX12_addCard 65 = .ok (.imul, 1) := by decide +kernel
theorem dX12_addCard_66 : decode cX12_addCard 66 = .ok (.iconst 3, 1) := by decide +kernel
theorem dX12_addCard_67 : decode cX12_addCard 67 = .ok (.iadd, 1) := by decide +kernel
theorem dX12_addCard_68 : decode cX12_addCard 68 = .ok (.iload 6, 2) := by decide +kernel
theorem dX12_addCard_70 : decode cX12_addCard 70 = .ok (.iastore, 1) := by decide +kernel
theorem dX12_addCard_71 : decode cX12_addCard 71 = .ok (.iconst 0, 1) := by decide +kernel
theorem dX12_addCard_72 : decode cX12_addCard 72 = .ok (.istore 9, 2) := by decide +kernel
theorem dX12_addCard_74 : decode cX12_addCard 74 = .ok (.iload 9, 2) := by decide +kernel
theorem dX12_addCard_76 : decode cX12_addCard 76 = .ok (.iconst 4, 1) := by decide +kernel
theorem dX12_addCard_77 : decode cX12_addCard 77 = .ok (.if_icmp .ge 33, 3) := by decide +kernel
theorem dX12_addCard_80 : decode cX12_addCard 80 = .ok (.aload_n 0, 1) := by decide +kernel
theorem dX12_addCard_81 : decode cX12_addCard 81 = .ok (.getfield 58, 3) := by decide +kernel
theorem dX12_addCard_84 : decode cX12_addCard 84 = .ok (.iconst 4, 1) := by decide +kernel
theorem dX12_addCard_85 : decode cX12_addCard 85 = .ok (.iload 8, 2) := by decide +kernel
theorem dX12_addCard_87 : decode cX12_addCard 87 = .ok (.imul, 1) := by decide +kernel
theorem dX12_addCard_88 : decode cX12_addCard 88 = .ok (.iload 9, 2) := by decide +kernel
theorem dX12_addCard_90 : decode cX12_addCard 90 = .ok (.iadd, 1) := by decide +kernel
theorem dX12_addCard_91 : decode cX12_addCard 91 = .ok (.aload_n 0, 1) := by decide +kernel
theorem dX12_addCard_92 : decode cX12_addCard 92 = .ok (.getfield 55, 3) := by decide +kernel
theorem dX12_addCard_95 : decode cX12_addCard 95 = .ok (.iconst 4, 1) := by decide +kernel
theorem dX12_addCard_96 : decode cX12_addCard 96 = .ok (.iload 8, 2) := by decide +kernel
theorem dX12_addCard_98 : decode cX12_addCard 98 = .ok (.imul, 1) := by decide +kernel
theorem dX12_addCard_99 : decode cX12_addCard 99 = .ok (.iload 9, 2) := by decide +kernel
theorem dX12_addCard_101 : decode cX12_addCard 101 = .ok (.iadd, 1) := by decide +kernel
theorem dX12_addCard_102 : decode cX12_addCard 102 = .ok (.iaload, 1) := by decide +kernel
theorem dX12_addCard_103 : decode cX12_addCard 103 = .ok (.iastore, 1) := by decide +kernel
theorem dX12_addCard_104 : decode cX12_addCard 104 = .ok (.iinc 9 1, 3) := by decide +kernel
theorem dX12_addCard_107 : decode cX12_addCard 107 = .ok (.goto (-33), 3) := by decide +kernel
theorem dX12_addCard_110 : decode cX12_addCard 110 = .ok (.aload_n 0, 1) := by decide +kernel
theorem dX12_addCard_111 : decode cX12_addCard 111 = .ok (.getfield 61, 3) := by decide +kernel
theorem dX12_addCard_114 : decode cX12_addCard 114 = .ok (.iload 8, 2) := by decide +kernel
theorem dX12_addCard_116 : decode cX12_addCard 116 = .ok (.iload 7, 2) := by decide +kernel
theorem dX12_addCard_118 : decode cX12_addCard 118 = .ok (.iastore, 1) := by decide +kernel
theorem dX12_addCard_119 : decode cX12_addCard 119 = .ok (.aload_n 0, 1) := by decide +kernel
theorem dX12_addCard_120 : decode cX12_addCard 120 = .ok (.getfield 64, 3) := by decide +kernel
theorem dX12_addCard_123 : decode cX12_addCard 123 = .ok (.iload 8, 2) := by decide +kernel
theorem dX12_addCard_125 : decode cX12_addCard 125 = .ok (.aload_n 0, 1) := by decide +kernel
theorem dX12_addCard_126 : decode cX12_addCard 126 = .ok (.getfield 132, 3) := by decide +kernel
theorem dX12_addCard_129 : decode cX12_addCard 129 = .ok (.iastore, 1) := by decide +kernel
theorem dX12_addCard_130 : decode cX12_addCard 130 = .ok (.aload_n 0, 1) := by decide +kernel
theorem dX12_addCard_131 : decode cX12_addCard 131 = .ok (.getfield 70, 3) := by decide +kernel
theorem dX12_addCard_134 : decode cX12_addCard 134 = .ok (.iload 8, 2) := by decide +kernel
theorem dX12_addCard_136 : decode cX12_addCard 136 = .ok (.iconst 0, 1) := by decide +kernel
theorem dX12_addCard_137 : decode cX12_addCard 137 = .ok (.iastore, 1) := by decide +kernel
theorem dX12_addCard_138 : decode cX12_addCard 138 = .ok (.aload_n 0, 1) := by decide +kernel
theorem dX12_addCard_139 : decode cX12_addCard 139 = .ok (.getfield 67, 3) := by decide +kernel
theorem dX12_addCard_142 : decode cX12_addCard 142 = .ok (.iload 8, 2) := by decide +kernel
theorem dX12_addCard_144 : decode cX12_addCard 144 = .ok (.aload_n 0, 1) := by decide +kernel
theorem dX12_addCard_145 : decode cX12_addCard 145 = .ok (.iload 8, 2) := by decide +kernel
theorem dX12_addCard_147 : decode cX12_addCard 147 = .ok (.invokevirtual 240, 3) := by decide +kernel
theorem dX12_addCard_150 : decode cX12_addCard 150 = .ok (.iastore, 1) := by decide +kernel
theorem dX12_addCard_151 : decode cX12_addCard 151 = .ok (.aload_n 0, 1) := by decide +kernel
theorem dX12_addCard_152 : decode cX12_addCard 152 = .ok (.dup, 1) := by decide +kernel
theorem dX12_addCard_153 : decode cX12_addCard 153 = .ok (.getfield 232, 3) := by decide +kernel
theorem dX12_addCard_156 : decode cX12_addCard 156 = .ok (.iconst 1, 1) := by decide +kernel
theorem dX12_addCard_157 : decode cX12_addCard 157 = .ok (.iadd, 1) := by decide +kernel
theorem dX12_addCard_158 : decode cX12_addCard 158 = .ok (.putfield 232, 3) := by decide +kernel
theorem dX12_addCard_161 : decode cX12_addCard 161 = .ok (.return_, 1) := by decide +kernel
set_option maxRecDepth 100000 in
set_option maxHeartbeats 4000000 in
theorem w_X12_addCard_74 (X : XE) (p1 : Int) (p2 : Int) (p3 : Int) (p4 : Int) (p5 : Int) (p6 : Int) (p7 : Int) (hp1 : inR p1) (hp2 : inR p2) (hp3 : inR p3) (hp4 : inR p4) (hp5 : inR p5) (hp6 : inR p6) (hp7 : inR p7) (x8 : Int) (hx8 : inR x8) {Q : Int → Mem → Prop} : ∀ (n : Nat) (x9 : Int) (σ : Mem), inR x9 → l_X12_addCard_74 p1 p2 p3 p4 p5 p6 p7 x8 Q n x9 σ → ok X rm_X12_addCard RX12 cX12_addCard 10 none 0 Q 74 [(0, .ref (xad X 122)), (7, vI p7), (8, vI x8), (9, vI x9)] [] σ := by
  intro n
  induction n with
  | zero => intro x9 σ hx9 h; exact False.elim h
  | succ n ih =>
    intro x9 σ hx9 h
    refine ok_iload 3 (pc := 74) dX12_addCard_74 rfl ?_
    refine ok_iconst (pc := 76) dX12_addCard_76 ?_
    refine ok_icmp_ge (tgt := 110) (pc := 77) dX12_addCard_77 rfl hx9 (r_lit rfl) (fun q1 => ?_) (fun q1 => ?_)
    · have h := iteF h q1
      refine ok_aload_n 0 (pc := 110) dX12_addCard_110 rfl rfl ?_
      refine ok_getR (pc := 111) dX12_addCard_111 fl_X12_61 sh_122 (Nat.le_of_ble_eq_true rfl) rfl rfl ?_
      refine ok_iload 2 (pc := 114) dX12_addCard_114 rfl ?_
      refine ok_iload 1 (pc := 116) dX12_addCard_116 rfl ?_
      obtain ⟨h2, h⟩ := h
      obtain ⟨h3, h⟩ := h
      refine ok_iast (pc := 118) dX12_addCard_118 sh_140 (Nat.le_of_ble_eq_true rfl) rfl h2 h3 hp7 ?_
      refine ok_aload_n 0 (pc := 119) dX12_addCard_119 rfl rfl ?_
      refine ok_getR (pc := 120) dX12_addCard_120 fl_X12_64 sh_122 (Nat.le_of_ble_eq_true rfl) rfl rfl ?_
      refine ok_iload 2 (pc := 123) dX12_addCard_123 rfl ?_
      refine ok_aload_n 0 (pc := 125) dX12_addCard_125 rfl rfl ?_
      refine ok_wf (fun hw4 => ?_)
      refine ok_getI (pc := 126) dX12_addCard_126 fl_X12_132 sh_122 (Nat.le_of_ble_eq_true rfl) rfl rfl ?_
      have e5 : ((mset σ 140 (x8.toNat) p7) 122 0) = (σ 122 0) := (mset_ne (by omega))
      refine ok_top e5 ?_
      refine ok_iast (pc := 129) dX12_addCard_129 sh_141 (Nat.le_of_ble_eq_true rfl) rfl h2 h3 (e5 ▸ hw4 _ _) ?_
      refine ok_aload_n 0 (pc := 130) dX12_addCard_130 rfl rfl ?_
      refine ok_getR (pc := 131) dX12_addCard_131 fl_X12_70 sh_122 (Nat.le_of_ble_eq_true rfl) rfl rfl ?_
      refine ok_iload 2 (pc := 134) dX12_addCard_134 rfl ?_
      refine ok_iconst (pc := 136) dX12_addCard_136 ?_
      refine ok_iast (pc := 137) dX12_addCard_137 sh_143 (Nat.le_of_ble_eq_true rfl) rfl h2 h3 (r_lit rfl) ?_
      refine ok_aload_n 0 (pc := 138) dX12_addCard_138 rfl rfl ?_
      refine ok_getR (pc := 139) dX12_addCard_139 fl_X12_67 sh_122 (Nat.le_of_ble_eq_true rfl) rfl rfl ?_
      refine ok_iload 2 (pc := 142) dX12_addCard_142 rfl ?_
      refine ok_aload_n 0 (pc := 144) dX12_addCard_144 rfl rfl ?_
      refine ok_iload 2 (pc := 145) dX12_addCard_145 rfl ?_
      refine ok_callVi (As := [vI x8]) (rest := [vI x8, .ref (xad X 142)]) (rm := rm_X12_drawerOf) (pc := 147) dX12_addCard_147 me_X12_drawerOf ml_X12_240 (ci := 12) rfl sh_122 (Nat.le_of_ble_eq_true rfl) rfl des_X12_drawerOf rfl ⟨rfl, rfl, rfl, rfl⟩ rfl rfl (c_X12_drawerOf X x8 hx8 h) (fun r8 σ9 h7 h => ?_)
      refine ok_iast (pc := 150) dX12_addCard_150 sh_142 (Nat.le_of_ble_eq_true rfl) rfl h2 h3 h7 ?_
      refine ok_aload_n 0 (pc := 151) dX12_addCard_151 rfl rfl ?_
      refine ok_dup (pc := 152) dX12_addCard_152 rfl ?_
      refine ok_wf (fun hw10 => ?_)
      refine ok_getI (pc := 153) dX12_addCard_153 fl_X12_232 sh_122 (Nat.le_of_ble_eq_true rfl) rfl rfl ?_
      have e11 : ((mset σ9 142 (x8.toNat) r8) 122 24) = (σ9 122 24) := (mset_ne (by omega))
      refine ok_top e11 ?_
      refine ok_iconst (pc := 156) dX12_addCard_156 ?_
      refine ok_iadd (pc := 157) dX12_addCard_157 ?_
      obtain ⟨h13, h⟩ := h
      refine ok_putI (pc := 158) dX12_addCard_158 fl_X12_232 fp_X12_24 sh_122 (Nat.le_of_ble_eq_true rfl) rfl rfl h13 rfl rfl ?_
      exact ok_vret (pc := 161) dX12_addCard_161 rfl rfl h
    · have h := iteT h q1
      refine ok_aload_n 0 (pc := 80) dX12_addCard_80 rfl rfl ?_
      refine ok_getR (pc := 81) dX12_addCard_81 fl_X12_58 sh_122 (Nat.le_of_ble_eq_true rfl) rfl rfl ?_
      refine ok_iconst (pc := 84) dX12_addCard_84 ?_
      refine ok_iload 2 (pc := 85) dX12_addCard_85 rfl ?_
      refine ok_imul (pc := 87) dX12_addCard_87 ?_
      refine ok_iload 3 (pc := 88) dX12_addCard_88 rfl ?_
      refine ok_iadd (pc := 90) dX12_addCard_90 ?_
      refine ok_aload_n 0 (pc := 91) dX12_addCard_91 rfl rfl ?_
      refine ok_getR (pc := 92) dX12_addCard_92 fl_X12_55 sh_122 (Nat.le_of_ble_eq_true rfl) rfl rfl ?_
      refine ok_iconst (pc := 95) dX12_addCard_95 ?_
      refine ok_iload 2 (pc := 96) dX12_addCard_96 rfl ?_
      refine ok_imul (pc := 98) dX12_addCard_98 ?_
      refine ok_iload 3 (pc := 99) dX12_addCard_99 rfl ?_
      refine ok_iadd (pc := 101) dX12_addCard_101 ?_
      obtain ⟨h14, h⟩ := h
      obtain ⟨h15, h⟩ := h
      refine ok_wf (fun hw16 => ?_)
      refine ok_iald (pc := 102) dX12_addCard_102 sh_138 (Nat.le_of_ble_eq_true rfl) rfl h14 h15 ?_
      refine ok_iast (pc := 103) dX12_addCard_103 sh_139 (Nat.le_of_ble_eq_true rfl) rfl h14 h15 (hw16 _ _) ?_
      refine ok_iinc (L' := [(9, vI (x9 + 1)), (0, .ref (xad X 122)), (7, vI p7), (8, vI x8)]) 3 (pc := 104) dX12_addCard_104 rfl rfl rfl ?_
      refine ok_goto (tgt := 74) (pc := 107) dX12_addCard_107 rfl ?_
      obtain ⟨h17, h⟩ := h
      refine ok_sub (L' := [(0, .ref (xad X 122)), (7, vI p7), (8, vI x8), (9, vI (x9 + 1))]) [1,2,3,0] rfl ?_
      exact ih (x9 + 1) (mset σ 139 (((4 * x8) + x9).toNat) (σ 138 ((4 * x8) + x9).toNat)) h17 h
set_option maxRecDepth 100000 in
set_option maxHeartbeats 4000000 in
theorem c_X12_addCard (X : XE) (p1 : Int) (p2 : Int) (p3 : Int) (p4 : Int) (p5 : Int) (p6 : Int) (p7 : Int) (hp1 : inR p1) (hp2 : inR p2) (hp3 : inR p3) (hp4 : inR p4) (hp5 : inR p5) (hp6 : inR p6) (hp7 : inR p7) {σ : Mem} {Q : Int → Mem → Prop} (h : v_X12_addCard p1 p2 p3 p4 p5 p6 p7 σ Q) : CT X yX12_addCard cX12_addCard 10 none rm_X12_addCard 0 [.ref (xad X 122), vI p1, vI p2, vI p3, vI p4, vI p5, vI p6, vI p7] σ Q := by
  refine ct_of (own := RX12) (L := [(0, .ref (xad X 122)), (1, vI p1), (2, vI p2), (3, vI p3), (4, vI p4), (5, vI p5), (6, vI p6), (7, vI p7)]) rfl rfl (Nat.le_of_ble_eq_true rfl) rfl ?_
  refine ok_aload_n 0 (pc := 0) dX12_addCard_0 rfl rfl ?_
  refine ok_wf (fun hw1 => ?_)
  refine ok_getI (pc := 1) dX12_addCard_1 fl_X12_232 sh_122 (Nat.le_of_ble_eq_true rfl) rfl rfl ?_
  refine ok_istore (L' := [(8, vI (σ 122 24)), (0, .ref (xad X 122)), (1, vI p1), (2, vI p2), (3, vI p3), (4, vI p4), (5, vI p5), (6, vI p6), (7, vI p7)]) (pc := 4) dX12_addCard_4 rfl rfl ?_
  refine ok_aload_n 1 (pc := 6) dX12_addCard_6 rfl rfl ?_
  refine ok_getR (pc := 7) dX12_addCard_7 fl_X12_49 sh_122 (Nat.le_of_ble_eq_true rfl) rfl rfl ?_
  refine ok_iload 0 (pc := 10) dX12_addCard_10 rfl ?_
  refine ok_iload_n 2 (pc := 12) dX12_addCard_12 rfl rfl ?_
  obtain ⟨h2, h⟩ := h
  obtain ⟨h3, h⟩ := h
  refine ok_iast (pc := 13) dX12_addCard_13 sh_136 (Nat.le_of_ble_eq_true rfl) rfl h2 h3 hp1 ?_
  refine ok_aload_n 1 (pc := 14) dX12_addCard_14 rfl rfl ?_
  refine ok_getR (pc := 15) dX12_addCard_15 fl_X12_52 sh_122 (Nat.le_of_ble_eq_true rfl) rfl rfl ?_
  refine ok_iload 0 (pc := 18) dX12_addCard_18 rfl ?_
  refine ok_iload_n 3 (pc := 20) dX12_addCard_20 rfl rfl ?_
  refine ok_iast (pc := 21) dX12_addCard_21 sh_137 (Nat.le_of_ble_eq_true rfl) rfl h2 h3 hp2 ?_
  refine ok_aload_n 1 (pc := 22) dX12_addCard_22 rfl rfl ?_
  refine ok_getR (pc := 23) dX12_addCard_23 fl_X12_55 sh_122 (Nat.le_of_ble_eq_true rfl) rfl rfl ?_
  refine ok_iconst (pc := 26) dX12_addCard_26 ?_
  refine ok_iload 0 (pc := 27) dX12_addCard_27 rfl ?_
  refine ok_imul (pc := 29) dX12_addCard_29 ?_
  refine ok_iload_n 4 (pc := 30) dX12_addCard_30 rfl rfl ?_
  obtain ⟨h4, h⟩ := h
  obtain ⟨h5, h⟩ := h
  refine ok_iast (pc := 31) dX12_addCard_31 sh_138 (Nat.le_of_ble_eq_true rfl) rfl h4 h5 hp3 ?_
  refine ok_aload_n 1 (pc := 32) dX12_addCard_32 rfl rfl ?_
  refine ok_getR (pc := 33) dX12_addCard_33 fl_X12_55 sh_122 (Nat.le_of_ble_eq_true rfl) rfl rfl ?_
  refine ok_iconst (pc := 36) dX12_addCard_36 ?_
  refine ok_iload 0 (pc := 37) dX12_addCard_37 rfl ?_
  refine ok_imul (pc := 39) dX12_addCard_39 ?_
  refine ok_iconst (pc := 40) dX12_addCard_40 ?_
  refine ok_iadd (pc := 41) dX12_addCard_41 ?_
  refine ok_iload 5 (pc := 42) dX12_addCard_42 rfl ?_
  obtain ⟨h6, h⟩ := h
  obtain ⟨h7, h⟩ := h
  refine ok_iast (pc := 44) dX12_addCard_44 sh_138 (Nat.le_of_ble_eq_true rfl) rfl h6 h7 hp4 ?_
  refine ok_aload_n 1 (pc := 45) dX12_addCard_45 rfl rfl ?_
  refine ok_getR (pc := 46) dX12_addCard_46 fl_X12_55 sh_122 (Nat.le_of_ble_eq_true rfl) rfl rfl ?_
  refine ok_iconst (pc := 49) dX12_addCard_49 ?_
  refine ok_iload 0 (pc := 50) dX12_addCard_50 rfl ?_
  refine ok_imul (pc := 52) dX12_addCard_52 ?_
  refine ok_iconst (pc := 53) dX12_addCard_53 ?_
  refine ok_iadd (pc := 54) dX12_addCard_54 ?_
  refine ok_iload 6 (pc := 55) dX12_addCard_55 rfl ?_
  obtain ⟨h8, h⟩ := h
  obtain ⟨h9, h⟩ := h
  refine ok_iast (pc := 57) dX12_addCard_57 sh_138 (Nat.le_of_ble_eq_true rfl) rfl h8 h9 hp5 ?_
  refine ok_aload_n 1 (pc := 58) dX12_addCard_58 rfl rfl ?_
  refine ok_getR (pc := 59) dX12_addCard_59 fl_X12_55 sh_122 (Nat.le_of_ble_eq_true rfl) rfl rfl ?_
  refine ok_iconst (pc := 62) dX12_addCard_62 ?_
  refine ok_iload 0 (pc := 63) dX12_addCard_63 rfl ?_
  refine ok_imul (pc := 65) dX12_addCard_65 ?_
  refine ok_iconst (pc := 66) dX12_addCard_66 ?_
  refine ok_iadd (pc := 67) dX12_addCard_67 ?_
  refine ok_iload 7 (pc := 68) dX12_addCard_68 rfl ?_
  obtain ⟨h10, h⟩ := h
  obtain ⟨h11, h⟩ := h
  refine ok_iast (pc := 70) dX12_addCard_70 sh_138 (Nat.le_of_ble_eq_true rfl) rfl h10 h11 hp6 ?_
  refine ok_iconst (pc := 71) dX12_addCard_71 ?_
  refine ok_istore (L' := [(9, vI 0), (8, vI (σ 122 24)), (0, .ref (xad X 122)), (1, vI p1), (2, vI p2), (3, vI p3), (4, vI p4), (5, vI p5), (6, vI p6), (7, vI p7)]) (pc := 72) dX12_addCard_72 rfl rfl ?_
  refine ok_sub (L' := [(0, .ref (xad X 122)), (7, vI p7), (8, vI (σ 122 24)), (9, vI 0)]) [2,9,1,0] rfl ?_
  obtain ⟨n12, h⟩ := h
  exact w_X12_addCard_74 X p1 p2 p3 p4 p5 p6 p7 hp1 hp2 hp3 hp4 hp5 hp6 hp7 (σ 122 24) (hw1 _ _) n12 0 (mset (mset (mset (mset (mset (mset σ 136 ((σ 122 24).toNat) p1) 137 ((σ 122 24).toNat) p2) 138 ((4 * (σ 122 24)).toNat) p3) 138 (((4 * (σ 122 24)) + 1).toNat) p4) 138 (((4 * (σ 122 24)) + 2).toNat) p5) 138 (((4 * (σ 122 24)) + 3).toNat) p6) (r_lit rfl) h
theorem dX12_card_0 : decode cX12_card 0 = .ok (.iload_n 1, 1) := by decide +kernel
theorem dX12_card_1 : decode cX12_card 1 = .ok (.i2l, 1) := by decide +kernel
theorem dX12_card_2 : decode cX12_card 2 = .ok (.lconst 0, 1) := by decide +kernel
theorem dX12_card_3 : decode cX12_card 3 = .ok (.ldc2_w 243, 3) := by decide +kernel
theorem dX12_card_6 : decode cX12_card 6 = .ok (.invokestatic 137, 3) := by decide +kernel
theorem dX12_card_9 : decode cX12_card 9 = .ok (.ifCond .eq 59, 3) := by decide +kernel
theorem dX12_card_12 : decode cX12_card 12 = .ok (.iload_n 2, 1) := by decide +kernel
theorem dX12_card_13 : decode cX12_card 13 = .ok (.i2l, 1) := by decide +kernel
theorem dX12_card_14 : decode cX12_card 14 = .ok (.lconst 0, 1) := by decide +kernel
theorem dX12_card_15 : decode cX12_card 15 = .ok (.ldc2_w 245, 3) := by decide +kernel
theorem dX12_card_18 : decode cX12_card 18 = .ok (.invokestatic 137, 3) := by decide +kernel
theorem dX12_card_21 : decode cX12_card 21 = .ok (.ifCond .eq 47, 3) := by decide +kernel
theorem dX12_card_24 : decode cX12_card 24 = .ok (.iload_n 3, 1) := by decide +kernel
theorem dX12_card_25 : decode cX12_card 25 = .ok (.invokestatic 247, 3) := by decide +kernel
theorem dX12_card_28 : decode cX12_card 28 = .ok (.ifCond .eq 40, 3) := by decide +kernel
theorem dX12_card_31 : decode cX12_card 31 = .ok (.iload 4, 2) := by decide +kernel
theorem dX12_card_33 : decode cX12_card 33 = .ok (.invokestatic 247, 3) := by decide +kernel
theorem dX12_card_36 : decode cX12_card 36 = .ok (.ifCond .eq 32, 3) := by decide +kernel
theorem dX12_card_39 : decode cX12_card 39 = .ok (.iload 5, 2) := by decide +kernel
theorem dX12_card_41 : decode cX12_card 41 = .ok (.invokestatic 247, 3) := by decide +kernel
theorem dX12_card_44 : decode cX12_card 44 = .ok (.ifCond .eq 24, 3) := by decide +kernel
theorem dX12_card_47 : decode cX12_card 47 = .ok (.iload 6, 2) := by decide +kernel
theorem dX12_card_49 : decode cX12_card 49 = .ok (.invokestatic 247, 3) := by decide +kernel
theorem dX12_card_52 : decode cX12_card 52 = .ok (.ifCond .eq 16, 3) := by decide +kernel
theorem dX12_card_55 : decode cX12_card 55 = .ok (.iload 7, 2) := by decide +kernel
theorem dX12_card_57 : decode cX12_card 57 = .ok (.i2l, 1) := by decide +kernel
theorem dX12_card_58 : decode cX12_card 58 = .ok (.lconst 0, 1) := by decide +kernel
theorem dX12_card_59 : decode cX12_card 59 = .ok (.ldc2_w 251, 3) := by decide +kernel
theorem dX12_card_62 : decode cX12_card 62 = .ok (.invokestatic 137, 3) := by decide +kernel
theorem dX12_card_65 : decode cX12_card 65 = .ok (.ifCond .ne 5, 3) := by decide +kernel
theorem dX12_card_68 : decode cX12_card 68 = .ok (.iconst (-1), 1) := by decide +kernel
theorem dX12_card_69 : decode cX12_card 69 = .ok (.ireturn, 1) := by decide +kernel
theorem dX12_card_70 : decode cX12_card 70 = .ok (.aload_n 0, 1) := by decide +kernel
theorem dX12_card_71 : decode cX12_card 71 = .ok (.getfield 232, 3) := by decide +kernel
theorem dX12_card_74 : decode cX12_card 74 = .ok (.bipush 24, 2) := by decide +kernel
theorem dX12_card_76 : decode cX12_card 76 = .ok (.if_icmp .ne 6, 3) := by decide +kernel
theorem dX12_card_79 : decode cX12_card 79 = .ok (.bipush (-3), 2) := by decide +kernel
theorem dX12_card_81 : decode cX12_card 81 = .ok (.ireturn, 1) := by decide +kernel
theorem dX12_card_82 : decode cX12_card 82 = .ok (.aload_n 0, 1) := by decide +kernel
theorem dX12_card_83 : decode cX12_card 83 = .ok (.iload_n 1, 1) := by decide +kernel
theorem dX12_card_84 : decode cX12_card 84 = .ok (.iload_n 2, 1) := by decide +kernel
theorem dX12_card_85 : decode cX12_card 85 = .ok (.iload_n 3, 1) := by decide +kernel
theorem dX12_card_86 : decode cX12_card 86 = .ok (.iload 4, 2) := by decide +kernel
theorem dX12_card_88 : decode cX12_card 88 = .ok (.iload 5, 2) := by decide +kernel
theorem dX12_card_90 : decode cX12_card 90 = .ok (.iload 6, 2) := by decide +kernel
theorem dX12_card_92 : decode cX12_card 92 = .ok (.iload 7, 2) := by decide +kernel
theorem dX12_card_94 : decode cX12_card 94 = .ok (.invokevirtual 253, 3) := by decide +kernel
theorem dX12_card_97 : decode cX12_card 97 = .ok (.aload_n 0, 1) := by decide +kernel
theorem dX12_card_98 : decode cX12_card 98 = .ok (.getfield 232, 3) := by decide +kernel
theorem dX12_card_101 : decode cX12_card 101 = .ok (.iconst 1, 1) := by decide +kernel
theorem dX12_card_102 : decode cX12_card 102 = .ok (.isub, 1) := by decide +kernel
theorem dX12_card_103 : decode cX12_card 103 = .ok (.ireturn, 1) := by decide +kernel
set_option maxRecDepth 100000 in
set_option maxHeartbeats 4000000 in
theorem c_X12_card (X : XE) (p1 : Int) (p2 : Int) (p3 : Int) (p4 : Int) (p5 : Int) (p6 : Int) (p7 : Int) (hp1 : inR p1) (hp2 : inR p2) (hp3 : inR p3) (hp4 : inR p4) (hp5 : inR p5) (hp6 : inR p6) (hp7 : inR p7) {σ : Mem} {Q : Int → Mem → Prop} (h : v_X12_card p1 p2 p3 p4 p5 p6 p7 σ Q) : CT X yX12_card cX12_card 8 (some .int) rm_X12_card 1 [.ref (xad X 122), vI p1, vI p2, vI p3, vI p4, vI p5, vI p6, vI p7] σ Q := by
  refine ct_of (own := RX12) (L := [(0, .ref (xad X 122)), (1, vI p1), (2, vI p2), (3, vI p3), (4, vI p4), (5, vI p5), (6, vI p6), (7, vI p7)]) rfl rfl (Nat.le_of_ble_eq_true rfl) rfl ?_
  refine ok_iload_n 1 (pc := 0) dX12_card_0 rfl rfl ?_
  refine ok_i2l (pc := 1) dX12_card_1 hp1 ?_
  refine ok_lconst (v := 0) (pc := 2) dX12_card_2 rfl ?_
  refine ok_ldc2 (pc := 3) dX12_card_3 cn_X12_243 ?_
  refine ok_callSi (As := [vL p1, vL 0, vL 5]) (rest := []) (rm := rm_X12_in) (pc := 6) dX12_card_6 me_X12_in ml_X12_137 des_X12_in rfl ⟨rfl, rfl, rfl, rfl⟩ rfl rfl (c_X12_in X p1 0 5 (l_of_r hp1) (l_of_r (r_lit rfl)) (l_of_r (r_lit rfl)) h) (fun r2 σ3 h1 h => ?_)
  refine ok_if_eq (tgt := 68) (pc := 9) dX12_card_9 rfl h1 (fun q4 => ?_) (fun q4 => ?_)
  · have h := iteT h q4
    refine ok_iconst (pc := 68) dX12_card_68 ?_
    exact ok_iret (pc := 69) dX12_card_69 rfl rfl rfl (r_lit rfl) h
  · have h := iteF h q4
    refine ok_iload_n 2 (pc := 12) dX12_card_12 rfl rfl ?_
    refine ok_i2l (pc := 13) dX12_card_13 hp2 ?_
    refine ok_lconst (v := 0) (pc := 14) dX12_card_14 rfl ?_
    refine ok_ldc2 (pc := 15) dX12_card_15 cn_X12_245 ?_
    refine ok_callSi (As := [vL p2, vL 0, vL 2]) (rest := []) (rm := rm_X12_in) (pc := 18) dX12_card_18 me_X12_in ml_X12_137 des_X12_in rfl ⟨rfl, rfl, rfl, rfl⟩ rfl rfl (c_X12_in X p2 0 2 (l_of_r hp2) (l_of_r (r_lit rfl)) (l_of_r (r_lit rfl)) h) (fun r6 σ7 h5 h => ?_)
    refine ok_if_eq (tgt := 68) (pc := 21) dX12_card_21 rfl h5 (fun q8 => ?_) (fun q8 => ?_)
    · have h := iteT h q8
      refine ok_iconst (pc := 68) dX12_card_68 ?_
      exact ok_iret (pc := 69) dX12_card_69 rfl rfl rfl (r_lit rfl) h
    · have h := iteF h q8
      refine ok_iload_n 3 (pc := 24) dX12_card_24 rfl rfl ?_
      refine ok_callSi (As := [vI p3]) (rest := []) (rm := rm_X12_isMeasure) (pc := 25) dX12_card_25 me_X12_isMeasure ml_X12_247 des_X12_isMeasure rfl ⟨rfl, rfl, rfl, rfl⟩ rfl rfl (c_X12_isMeasure X p3 hp3 h) (fun r10 σ11 h9 h => ?_)
      refine ok_if_eq (tgt := 68) (pc := 28) dX12_card_28 rfl h9 (fun q12 => ?_) (fun q12 => ?_)
      · have h := iteT h q12
        refine ok_iconst (pc := 68) dX12_card_68 ?_
        exact ok_iret (pc := 69) dX12_card_69 rfl rfl rfl (r_lit rfl) h
      · have h := iteF h q12
        refine ok_iload 4 (pc := 31) dX12_card_31 rfl ?_
        refine ok_callSi (As := [vI p4]) (rest := []) (rm := rm_X12_isMeasure) (pc := 33) dX12_card_33 me_X12_isMeasure ml_X12_247 des_X12_isMeasure rfl ⟨rfl, rfl, rfl, rfl⟩ rfl rfl (c_X12_isMeasure X p4 hp4 h) (fun r14 σ15 h13 h => ?_)
        refine ok_if_eq (tgt := 68) (pc := 36) dX12_card_36 rfl h13 (fun q16 => ?_) (fun q16 => ?_)
        · have h := iteT h q16
          refine ok_iconst (pc := 68) dX12_card_68 ?_
          exact ok_iret (pc := 69) dX12_card_69 rfl rfl rfl (r_lit rfl) h
        · have h := iteF h q16
          refine ok_iload 5 (pc := 39) dX12_card_39 rfl ?_
          refine ok_callSi (As := [vI p5]) (rest := []) (rm := rm_X12_isMeasure) (pc := 41) dX12_card_41 me_X12_isMeasure ml_X12_247 des_X12_isMeasure rfl ⟨rfl, rfl, rfl, rfl⟩ rfl rfl (c_X12_isMeasure X p5 hp5 h) (fun r18 σ19 h17 h => ?_)
          refine ok_if_eq (tgt := 68) (pc := 44) dX12_card_44 rfl h17 (fun q20 => ?_) (fun q20 => ?_)
          · have h := iteT h q20
            refine ok_iconst (pc := 68) dX12_card_68 ?_
            exact ok_iret (pc := 69) dX12_card_69 rfl rfl rfl (r_lit rfl) h
          · have h := iteF h q20
            refine ok_iload 6 (pc := 47) dX12_card_47 rfl ?_
            refine ok_callSi (As := [vI p6]) (rest := []) (rm := rm_X12_isMeasure) (pc := 49) dX12_card_49 me_X12_isMeasure ml_X12_247 des_X12_isMeasure rfl ⟨rfl, rfl, rfl, rfl⟩ rfl rfl (c_X12_isMeasure X p6 hp6 h) (fun r22 σ23 h21 h => ?_)
            refine ok_if_eq (tgt := 68) (pc := 52) dX12_card_52 rfl h21 (fun q24 => ?_) (fun q24 => ?_)
            · have h := iteT h q24
              refine ok_iconst (pc := 68) dX12_card_68 ?_
              exact ok_iret (pc := 69) dX12_card_69 rfl rfl rfl (r_lit rfl) h
            · have h := iteF h q24
              refine ok_iload 7 (pc := 55) dX12_card_55 rfl ?_
              refine ok_i2l (pc := 57) dX12_card_57 hp7 ?_
              refine ok_lconst (v := 0) (pc := 58) dX12_card_58 rfl ?_
              refine ok_ldc2 (pc := 59) dX12_card_59 cn_X12_251 ?_
              refine ok_callSi (As := [vL p7, vL 0, vL 1023]) (rest := []) (rm := rm_X12_in) (pc := 62) dX12_card_62 me_X12_in ml_X12_137 des_X12_in rfl ⟨rfl, rfl, rfl, rfl⟩ rfl rfl (c_X12_in X p7 0 1023 (l_of_r hp7) (l_of_r (r_lit rfl)) (l_of_r (r_lit rfl)) h) (fun r26 σ27 h25 h => ?_)
              refine ok_if_ne (tgt := 70) (pc := 65) dX12_card_65 rfl h25 (fun q28 => ?_) (fun q28 => ?_)
              · have h := iteF h q28
                refine ok_aload_n 0 (pc := 70) dX12_card_70 rfl rfl ?_
                refine ok_wf (fun hw29 => ?_)
                refine ok_getI (pc := 71) dX12_card_71 fl_X12_232 sh_122 (Nat.le_of_ble_eq_true rfl) rfl rfl ?_
                refine ok_bipush (pc := 74) dX12_card_74 rfl ?_
                refine ok_icmp_ne (tgt := 82) (pc := 76) dX12_card_76 rfl (hw29 _ _) (r_lit rfl) (fun q30 => ?_) (fun q30 => ?_)
                · have h := iteF h q30
                  refine ok_aload_n 0 (pc := 82) dX12_card_82 rfl rfl ?_
                  refine ok_iload_n 1 (pc := 83) dX12_card_83 rfl rfl ?_
                  refine ok_iload_n 2 (pc := 84) dX12_card_84 rfl rfl ?_
                  refine ok_iload_n 3 (pc := 85) dX12_card_85 rfl rfl ?_
                  refine ok_iload 4 (pc := 86) dX12_card_86 rfl ?_
                  refine ok_iload 5 (pc := 88) dX12_card_88 rfl ?_
                  refine ok_iload 6 (pc := 90) dX12_card_90 rfl ?_
                  refine ok_iload 7 (pc := 92) dX12_card_92 rfl ?_
                  refine ok_callVv (As := [vI p1, vI p2, vI p3, vI p4, vI p5, vI p6, vI p7]) (rest := []) (rm := rm_X12_addCard) (pc := 94) dX12_card_94 me_X12_addCard ml_X12_253 (ci := 12) rfl sh_122 (Nat.le_of_ble_eq_true rfl) rfl des_X12_addCard rfl ⟨rfl, rfl, rfl, rfl⟩ rfl rfl (c_X12_addCard X p1 p2 p3 p4 p5 p6 p7 hp1 hp2 hp3 hp4 hp5 hp6 hp7 h) (fun σ33 h => ?_)
                  refine ok_aload_n 0 (pc := 97) dX12_card_97 rfl rfl ?_
                  refine ok_wf (fun hw34 => ?_)
                  refine ok_getI (pc := 98) dX12_card_98 fl_X12_232 sh_122 (Nat.le_of_ble_eq_true rfl) rfl rfl ?_
                  refine ok_iconst (pc := 101) dX12_card_101 ?_
                  refine ok_isub (pc := 102) dX12_card_102 ?_
                  obtain ⟨h35, h⟩ := h
                  exact ok_iret (pc := 103) dX12_card_103 rfl rfl rfl h35 h
                · have h := iteT h q30
                  refine ok_bipush (pc := 79) dX12_card_79 rfl ?_
                  exact ok_iret (pc := 81) dX12_card_81 rfl rfl rfl (r_lit rfl) h
              · have h := iteT h q28
                refine ok_iconst (pc := 68) dX12_card_68 ?_
                exact ok_iret (pc := 69) dX12_card_69 rfl rfl rfl (r_lit rfl) h
