theorem dX11_isDay_0 : decode cX11_isDay 0 = .ok (.iload_n 0, 1) := by decide +kernel
theorem dX11_isDay_1 : decode cX11_isDay 1 = .ok (.ifCond .lt 14, 3) := by decide +kernel
theorem dX11_isDay_4 : decode cX11_isDay 4 = .ok (.iload_n 0, 1) := by decide +kernel
theorem dX11_isDay_5 : decode cX11_isDay 5 = .ok (.sipush 9999, 3) := by decide +kernel
theorem dX11_isDay_8 : decode cX11_isDay 8 = .ok (.if_icmp .gt 7, 3) := by decide +kernel
theorem dX11_isDay_11 : decode cX11_isDay 11 = .ok (.iconst 1, 1) := by decide +kernel
theorem dX11_isDay_12 : decode cX11_isDay 12 = .ok (.goto 4, 3) := by decide +kernel
theorem dX11_isDay_15 : decode cX11_isDay 15 = .ok (.iconst 0, 1) := by decide +kernel
theorem dX11_isDay_16 : decode cX11_isDay 16 = .ok (.ireturn, 1) := by decide +kernel
set_option maxRecDepth 100000 in
set_option maxHeartbeats 4000000 in
theorem c_X11_isDay (X : XE) (p0 : Int) (hp0 : inR p0) {σ : Mem} {Q : Int → Mem → Prop} (h : v_X11_isDay p0 σ Q) : CT X yX11_isDay cX11_isDay 1 (some .boolean) rm_X11_isDay 1 [vI p0] σ Q := by
  refine ct_of (own := RX11) (L := [(0, vI p0)]) rfl rfl (Nat.le_of_ble_eq_true rfl) rfl ?_
  refine ok_iload_n 0 (pc := 0) dX11_isDay_0 rfl rfl ?_
  refine ok_if_lt (tgt := 15) (pc := 1) dX11_isDay_1 rfl hp0 (fun q1 => ?_) (fun q1 => ?_)
  · have h := iteT h q1
    refine ok_iconst (pc := 15) dX11_isDay_15 ?_
    exact ok_iret (pc := 16) dX11_isDay_16 rfl rfl (nr_z (Or.inl rfl)) (r_lit rfl) h
  · have h := iteF h q1
    refine ok_iload_n 0 (pc := 4) dX11_isDay_4 rfl rfl ?_
    refine ok_sipush (pc := 5) dX11_isDay_5 rfl ?_
    refine ok_icmp_gt (tgt := 15) (pc := 8) dX11_isDay_8 rfl hp0 (r_lit rfl) (fun q2 => ?_) (fun q2 => ?_)
    · have h := iteT h q2
      refine ok_iconst (pc := 15) dX11_isDay_15 ?_
      exact ok_iret (pc := 16) dX11_isDay_16 rfl rfl (nr_z (Or.inl rfl)) (r_lit rfl) h
    · have h := iteF h q2
      refine ok_iconst (pc := 11) dX11_isDay_11 ?_
      refine ok_goto (tgt := 16) (pc := 12) dX11_isDay_12 rfl ?_
      exact ok_iret (pc := 16) dX11_isDay_16 rfl rfl (nr_z (Or.inr rfl)) (r_lit rfl) h
theorem dX7_latest_0 : decode cX7_latest 0 = .ok (.iconst (-1), 1) := by decide +kernel
theorem dX7_latest_1 : decode cX7_latest 1 = .ok (.istore_n 3, 1) := by decide +kernel
theorem dX7_latest_2 : decode cX7_latest 2 = .ok (.iconst 0, 1) := by decide +kernel
theorem dX7_latest_3 : decode cX7_latest 3 = .ok (.istore 4, 2) := by decide +kernel
theorem dX7_latest_5 : decode cX7_latest 5 = .ok (.iload 4, 2) := by decide +kernel
theorem dX7_latest_7 : decode cX7_latest 7 = .ok (.aload_n 0, 1) := by decide +kernel
theorem dX7_latest_8 : decode cX7_latest 8 = .ok (.getfield 24, 3) := by decide +kernel
theorem dX7_latest_11 : decode cX7_latest 11 = .ok (.if_icmp .ge 66, 3) := by decide +kernel
theorem dX7_latest_14 : decode cX7_latest 14 = .ok (.aload_n 0, 1) := by decide +kernel
theorem dX7_latest_15 : decode cX7_latest 15 = .ok (.getfield 11, 3) := by decide +kernel
theorem dX7_latest_18 : decode cX7_latest 18 = .ok (.iload 4, 2) := by decide +kernel
theorem dX7_latest_20 : decode cX7_latest 20 = .ok (.iaload, 1) := by decide +kernel
theorem dX7_latest_21 : decode cX7_latest 21 = .ok (.iload_n 1, 1) := by decide +kernel
theorem dX7_latest_22 : decode cX7_latest 22 = .ok (.if_icmp .ne 18, 3) := by decide +kernel
theorem dX7_latest_25 : decode cX7_latest 25 = .ok (.aload_n 0, 1) := by decide +kernel
theorem dX7_latest_26 : decode cX7_latest 26 = .ok (.getfield 15, 3) := by decide +kernel
theorem dX7_latest_29 : decode cX7_latest 29 = .ok (.iload 4, 2) := by decide +kernel
theorem dX7_latest_31 : decode cX7_latest 31 = .ok (.iaload, 1) := by decide +kernel
theorem dX7_latest_32 : decode cX7_latest 32 = .ok (.iload_n 2, 1) := by decide +kernel
theorem dX7_latest_33 : decode cX7_latest 33 = .ok (.if_icmp .gt 7, 3) := by decide +kernel
theorem dX7_latest_36 : decode cX7_latest 36 = .ok (.iconst 1, 1) := by decide +kernel
theorem dX7_latest_37 : decode cX7_latest 37 = .ok (.goto 4, 3) := by decide +kernel
theorem dX7_latest_40 : decode cX7_latest 40 = .ok (.iconst 0, 1) := by decide +kernel
theorem dX7_latest_41 : decode cX7_latest 41 = .ok (.istore 5, 2) := by decide +kernel
theorem dX7_latest_43 : decode cX7_latest 43 = .ok (.iload 5, 2) := by decide +kernel
theorem dX7_latest_45 : decode cX7_latest 45 = .ok (.ifCond .eq 26, 3) := by decide +kernel
theorem dX7_latest_48 : decode cX7_latest 48 = .ok (.iload_n 3, 1) := by decide +kernel
theorem dX7_latest_49 : decode cX7_latest 49 = .ok (.ifCond .lt 19, 3) := by decide +kernel
theorem dX7_latest_52 : decode cX7_latest 52 = .ok (.aload_n 0, 1) := by decide +kernel
theorem dX7_latest_53 : decode cX7_latest 53 = .ok (.getfield 15, 3) := by decide +kernel
theorem dX7_latest_56 : decode cX7_latest 56 = .ok (.iload 4, 2) := by decide +kernel
theorem dX7_latest_58 : decode cX7_latest 58 = .ok (.iaload, 1) := by decide +kernel
theorem dX7_latest_59 : decode cX7_latest 59 = .ok (.aload_n 0, 1) := by decide +kernel
theorem dX7_latest_60 : decode cX7_latest 60 = .ok (.getfield 15, 3) := by decide +kernel
theorem dX7_latest_63 : decode cX7_latest 63 = .ok (.iload_n 3, 1) := by decide +kernel
theorem dX7_latest_64 : decode cX7_latest 64 = .ok (.iaload, 1) := by decide +kernel
theorem dX7_latest_65 : decode cX7_latest 65 = .ok (.if_icmp .le 6, 3) := by decide +kernel
theorem dX7_latest_68 : decode cX7_latest 68 = .ok (.iload 4, 2) := by decide +kernel
theorem dX7_latest_70 : decode cX7_latest 70 = .ok (.istore_n 3, 1) := by decide +kernel
theorem dX7_latest_71 : decode cX7_latest 71 = .ok (.iinc 4 1, 3) := by decide +kernel
theorem dX7_latest_74 : decode cX7_latest 74 = .ok (.goto (-69), 3) := by decide +kernel
theorem dX7_latest_77 : decode cX7_latest 77 = .ok (.iload_n 3, 1) := by decide +kernel
theorem dX7_latest_78 : decode cX7_latest 78 = .ok (.ireturn, 1) := by decide +kernel
set_option maxRecDepth 100000 in
set_option maxHeartbeats 4000000 in
theorem w_X7_latest_3_41 (X : XE) (p1 : Int) (p2 : Int) (hp1 : inR p1) (hp2 : inR p2) (x3 : Int) (x4 : Int) (s0 : Int) (hx3 : inR x3) (hx4 : inR x4) (hs0 : inR s0) {K5 : Int → Int → Mem → Prop} {Q : Int → Mem → Prop} (hK5 : ∀ (x3 : Int) (x4 : Int) (σ : Mem), inR x3 → inR x4 → K5 x3 x4 σ → ok X rm_X7_latest_3 RX7 cX7_latest 6 (some .int) 1 Q 5 [(0, .ref (xad X 3)), (1, vI p1), (2, vI p2), (3, vI x3), (4, vI x4)] [] σ) {σ : Mem} (h : j_X7_latest_3_41 p1 p2 K5 Q x3 x4 s0 σ) : ok X rm_X7_latest_3 RX7 cX7_latest 6 (some .int) 1 Q 41 [(0, .ref (xad X 3)), (1, vI p1), (2, vI p2), (3, vI x3), (4, vI x4)] [vI s0] σ := by
  refine ok_istore (L' := [(5, vI s0), (0, .ref (xad X 3)), (1, vI p1), (2, vI p2), (3, vI x3), (4, vI x4)]) (pc := 41) dX7_latest_41 rfl rfl ?_
  refine ok_iload 0 (pc := 43) dX7_latest_43 rfl ?_
  refine ok_if_eq (tgt := 71) (pc := 45) dX7_latest_45 rfl hs0 (fun q1 => ?_) (fun q1 => ?_)
  · have h := iteT h q1
    refine ok_iinc (L' := [(4, vI (x4 + 1)), (5, vI s0), (0, .ref (xad X 3)), (1, vI p1), (2, vI p2), (3, vI x3)]) 5 (pc := 71) dX7_latest_71 rfl rfl rfl ?_
    refine ok_goto (tgt := 5) (pc := 74) dX7_latest_74 rfl ?_
    obtain ⟨h2, h⟩ := h
    refine ok_sub (L' := [(0, .ref (xad X 3)), (1, vI p1), (2, vI p2), (3, vI x3), (4, vI (x4 + 1))]) [2,3,4,5,0] rfl ?_
    exact hK5 x3 (x4 + 1) σ hx3 h2 h
  · have h := iteF h q1
    refine ok_iload_n 4 (pc := 48) dX7_latest_48 rfl rfl ?_
    refine ok_if_lt (tgt := 68) (pc := 49) dX7_latest_49 rfl hx3 (fun q3 => ?_) (fun q3 => ?_)
    · have h := iteT h q3
      refine ok_iload 5 (pc := 68) dX7_latest_68 rfl ?_
      refine ok_istore_n (L' := [(3, vI x4), (5, vI s0), (0, .ref (xad X 3)), (1, vI p1), (2, vI p2), (4, vI x4)]) (pc := 70) dX7_latest_70 rfl rfl rfl ?_
      refine ok_iinc (L' := [(4, vI (x4 + 1)), (3, vI x4), (5, vI s0), (0, .ref (xad X 3)), (1, vI p1), (2, vI p2)]) 5 (pc := 71) dX7_latest_71 rfl rfl rfl ?_
      refine ok_goto (tgt := 5) (pc := 74) dX7_latest_74 rfl ?_
      obtain ⟨h4, h⟩ := h
      refine ok_sub (L' := [(0, .ref (xad X 3)), (1, vI p1), (2, vI p2), (3, vI x4), (4, vI (x4 + 1))]) [3,4,5,1,0] rfl ?_
      exact hK5 x4 (x4 + 1) σ hx4 h4 h
    · have h := iteF h q3
      refine ok_aload_n 1 (pc := 52) dX7_latest_52 rfl rfl ?_
      refine ok_getR (pc := 53) dX7_latest_53 fl_X7_15 sh_3 (Nat.le_of_ble_eq_true rfl) rfl rfl ?_
      refine ok_iload 5 (pc := 56) dX7_latest_56 rfl ?_
      obtain ⟨h5, h⟩ := h
      obtain ⟨h6, h⟩ := h
      refine ok_wf (fun hw7 => ?_)
      refine ok_iald (pc := 58) dX7_latest_58 sh_5 (Nat.le_of_ble_eq_true rfl) rfl h5 h6 ?_
      refine ok_aload_n 1 (pc := 59) dX7_latest_59 rfl rfl ?_
      refine ok_getR (pc := 60) dX7_latest_60 fl_X7_15 sh_3 (Nat.le_of_ble_eq_true rfl) rfl rfl ?_
      refine ok_iload_n 4 (pc := 63) dX7_latest_63 rfl rfl ?_
      obtain ⟨h8, h⟩ := h
      obtain ⟨h9, h⟩ := h
      refine ok_iald (pc := 64) dX7_latest_64 sh_5 (Nat.le_of_ble_eq_true rfl) rfl h8 h9 ?_
      refine ok_icmp_le (tgt := 71) (pc := 65) dX7_latest_65 rfl (hw7 _ _) (hw7 _ _) (fun q10 => ?_) (fun q10 => ?_)
      · have h := iteF h q10
        refine ok_iinc (L' := [(4, vI (x4 + 1)), (5, vI s0), (0, .ref (xad X 3)), (1, vI p1), (2, vI p2), (3, vI x3)]) 5 (pc := 71) dX7_latest_71 rfl rfl rfl ?_
        refine ok_goto (tgt := 5) (pc := 74) dX7_latest_74 rfl ?_
        obtain ⟨h11, h⟩ := h
        refine ok_sub (L' := [(0, .ref (xad X 3)), (1, vI p1), (2, vI p2), (3, vI x3), (4, vI (x4 + 1))]) [2,3,4,5,0] rfl ?_
        exact hK5 x3 (x4 + 1) σ hx3 h11 h
      · have h := iteT h q10
        refine ok_iload 5 (pc := 68) dX7_latest_68 rfl ?_
        refine ok_istore_n (L' := [(3, vI x4), (5, vI s0), (0, .ref (xad X 3)), (1, vI p1), (2, vI p2), (4, vI x4)]) (pc := 70) dX7_latest_70 rfl rfl rfl ?_
        refine ok_iinc (L' := [(4, vI (x4 + 1)), (3, vI x4), (5, vI s0), (0, .ref (xad X 3)), (1, vI p1), (2, vI p2)]) 5 (pc := 71) dX7_latest_71 rfl rfl rfl ?_
        refine ok_goto (tgt := 5) (pc := 74) dX7_latest_74 rfl ?_
        obtain ⟨h12, h⟩ := h
        refine ok_sub (L' := [(0, .ref (xad X 3)), (1, vI p1), (2, vI p2), (3, vI x4), (4, vI (x4 + 1))]) [3,4,5,1,0] rfl ?_
        exact hK5 x4 (x4 + 1) σ hx4 h12 h
set_option maxRecDepth 100000 in
set_option maxHeartbeats 4000000 in
theorem w_X7_latest_3_5 (X : XE) (p1 : Int) (p2 : Int) (hp1 : inR p1) (hp2 : inR p2) {Q : Int → Mem → Prop} : ∀ (n : Nat) (x3 : Int) (x4 : Int) (σ : Mem), inR x3 → inR x4 → l_X7_latest_3_5 p1 p2 Q n x3 x4 σ → ok X rm_X7_latest_3 RX7 cX7_latest 6 (some .int) 1 Q 5 [(0, .ref (xad X 3)), (1, vI p1), (2, vI p2), (3, vI x3), (4, vI x4)] [] σ := by
  intro n
  induction n with
  | zero => intro x3 x4 σ hx3 hx4 h; exact False.elim h
  | succ n ih =>
    intro x3 x4 σ hx3 hx4 h
    refine ok_iload 4 (pc := 5) dX7_latest_5 rfl ?_
    refine ok_aload_n 0 (pc := 7) dX7_latest_7 rfl rfl ?_
    refine ok_wf (fun hw1 => ?_)
    refine ok_getI (pc := 8) dX7_latest_8 fl_X7_24 sh_3 (Nat.le_of_ble_eq_true rfl) rfl rfl ?_
    refine ok_icmp_ge (tgt := 77) (pc := 11) dX7_latest_11 rfl hx4 (hw1 _ _) (fun q2 => ?_) (fun q2 => ?_)
    · have h := iteF h q2
      refine ok_iload_n 3 (pc := 77) dX7_latest_77 rfl rfl ?_
      exact ok_iret (pc := 78) dX7_latest_78 rfl rfl rfl hx3 h
    · have h := iteT h q2
      refine ok_aload_n 0 (pc := 14) dX7_latest_14 rfl rfl ?_
      refine ok_getR (pc := 15) dX7_latest_15 fl_X7_11 sh_3 (Nat.le_of_ble_eq_true rfl) rfl rfl ?_
      refine ok_iload 4 (pc := 18) dX7_latest_18 rfl ?_
      obtain ⟨h3, h⟩ := h
      obtain ⟨h4, h⟩ := h
      refine ok_iald (pc := 20) dX7_latest_20 sh_4 (Nat.le_of_ble_eq_true rfl) rfl h3 h4 ?_
      refine ok_iload_n 1 (pc := 21) dX7_latest_21 rfl rfl ?_
      refine ok_icmp_ne (tgt := 40) (pc := 22) dX7_latest_22 rfl (hw1 _ _) hp1 (fun q5 => ?_) (fun q5 => ?_)
      · simp only [if_neg q5] at h
        refine ok_iconst (pc := 40) dX7_latest_40 ?_
        exact w_X7_latest_3_41 X p1 p2 hp1 hp2 x3 x4 0 hx3 hx4 (r_lit rfl) (fun x3_ x4_ σ_ hx3_ hx4_ h_ => ih x3_ x4_ σ_ hx3_ hx4_ h_) h
      · simp only [if_pos q5] at h
        refine ok_aload_n 0 (pc := 25) dX7_latest_25 rfl rfl ?_
        refine ok_getR (pc := 26) dX7_latest_26 fl_X7_15 sh_3 (Nat.le_of_ble_eq_true rfl) rfl rfl ?_
        refine ok_iload 4 (pc := 29) dX7_latest_29 rfl ?_
        refine ok_iald (pc := 31) dX7_latest_31 sh_5 (Nat.le_of_ble_eq_true rfl) rfl h3 h4 ?_
        refine ok_iload_n 2 (pc := 32) dX7_latest_32 rfl rfl ?_
        refine ok_icmp_gt (tgt := 40) (pc := 33) dX7_latest_33 rfl (hw1 _ _) hp2 (fun q6 => ?_) (fun q6 => ?_)
        · simp only [if_pos q6] at h
          refine ok_iconst (pc := 40) dX7_latest_40 ?_
          exact w_X7_latest_3_41 X p1 p2 hp1 hp2 x3 x4 0 hx3 hx4 (r_lit rfl) (fun x3_ x4_ σ_ hx3_ hx4_ h_ => ih x3_ x4_ σ_ hx3_ hx4_ h_) h
        · simp only [if_neg q6] at h
          refine ok_iconst (pc := 36) dX7_latest_36 ?_
          refine ok_goto (tgt := 41) (pc := 37) dX7_latest_37 rfl ?_
          exact w_X7_latest_3_41 X p1 p2 hp1 hp2 x3 x4 1 hx3 hx4 (r_lit rfl) (fun x3_ x4_ σ_ hx3_ hx4_ h_ => ih x3_ x4_ σ_ hx3_ hx4_ h_) h
set_option maxRecDepth 100000 in
set_option maxHeartbeats 4000000 in
theorem c_X7_latest_3 (X : XE) (p1 : Int) (p2 : Int) (hp1 : inR p1) (hp2 : inR p2) {σ : Mem} {Q : Int → Mem → Prop} (h : v_X7_latest_3 p1 p2 σ Q) : CT X yX7_latest cX7_latest 6 (some .int) rm_X7_latest_3 1 [.ref (xad X 3), vI p1, vI p2] σ Q := by
  refine ct_of (own := RX7) (L := [(0, .ref (xad X 3)), (1, vI p1), (2, vI p2)]) rfl rfl (Nat.le_of_ble_eq_true rfl) rfl ?_
  refine ok_iconst (pc := 0) dX7_latest_0 ?_
  refine ok_istore_n (L' := [(3, vI (-1)), (0, .ref (xad X 3)), (1, vI p1), (2, vI p2)]) (pc := 1) dX7_latest_1 rfl rfl rfl ?_
  refine ok_iconst (pc := 2) dX7_latest_2 ?_
  refine ok_istore (L' := [(4, vI 0), (3, vI (-1)), (0, .ref (xad X 3)), (1, vI p1), (2, vI p2)]) (pc := 3) dX7_latest_3 rfl rfl ?_
  refine ok_sub (L' := [(0, .ref (xad X 3)), (1, vI p1), (2, vI p2), (3, vI (-1)), (4, vI 0)]) [2,3,4,1,0] rfl ?_
  obtain ⟨n1, h⟩ := h
  exact w_X7_latest_3_5 X p1 p2 hp1 hp2 n1 (-1) 0 σ (r_lit rfl) (r_lit rfl) h
theorem dX7_usual_0 : decode cX7_usual 0 = .ok (.iload_n 0, 1) := by decide +kernel
theorem dX7_usual_1 : decode cX7_usual 1 = .ok (.iconst 4, 1) := by decide +kernel
theorem dX7_usual_2 : decode cX7_usual 2 = .ok (.if_icmp .ge 7, 3) := by decide +kernel
theorem dX7_usual_5 : decode cX7_usual 5 = .ok (.sipush 333, 3) := by decide +kernel
theorem dX7_usual_8 : decode cX7_usual 8 = .ok (.ireturn, 1) := by decide +kernel
theorem dX7_usual_9 : decode cX7_usual 9 = .ok (.iload_n 0, 1) := by decide +kernel
theorem dX7_usual_10 : decode cX7_usual 10 = .ok (.bipush 8, 2) := by decide +kernel
theorem dX7_usual_12 : decode cX7_usual 12 = .ok (.if_icmp .ge 7, 3) := by decide +kernel
theorem dX7_usual_15 : decode cX7_usual 15 = .ok (.sipush 667, 3) := by decide +kernel
theorem dX7_usual_18 : decode cX7_usual 18 = .ok (.ireturn, 1) := by decide +kernel
theorem dX7_usual_19 : decode cX7_usual 19 = .ok (.iload_n 0, 1) := by decide +kernel
theorem dX7_usual_20 : decode cX7_usual 20 = .ok (.bipush 14, 2) := by decide +kernel
theorem dX7_usual_22 : decode cX7_usual 22 = .ok (.if_icmp .ge 5, 3) := by decide +kernel
theorem dX7_usual_25 : decode cX7_usual 25 = .ok (.iconst 3, 1) := by decide +kernel
theorem dX7_usual_26 : decode cX7_usual 26 = .ok (.ireturn, 1) := by decide +kernel
theorem dX7_usual_27 : decode cX7_usual 27 = .ok (.iload_n 0, 1) := by decide +kernel
theorem dX7_usual_28 : decode cX7_usual 28 = .ok (.bipush 18, 2) := by decide +kernel
theorem dX7_usual_30 : decode cX7_usual 30 = .ok (.if_icmp .ge 5, 3) := by decide +kernel
theorem dX7_usual_33 : decode cX7_usual 33 = .ok (.iconst 0, 1) := by decide +kernel
theorem dX7_usual_34 : decode cX7_usual 34 = .ok (.ireturn, 1) := by decide +kernel
theorem dX7_usual_35 : decode cX7_usual 35 = .ok (.iload_n 0, 1) := by decide +kernel
theorem dX7_usual_36 : decode cX7_usual 36 = .ok (.bipush 18, 2) := by decide +kernel
theorem dX7_usual_38 : decode cX7_usual 38 = .ok (.if_icmp .ne 9, 3) := by decide +kernel
theorem dX7_usual_41 : decode cX7_usual 41 = .ok (.sipush 9999, 3) := by decide +kernel
theorem dX7_usual_44 : decode cX7_usual 44 = .ok (.goto 4, 3) := by decide +kernel
theorem dX7_usual_47 : decode cX7_usual 47 = .ok (.iconst 2, 1) := by decide +kernel
theorem dX7_usual_48 : decode cX7_usual 48 = .ok (.ireturn, 1) := by decide +kernel
set_option maxRecDepth 100000 in
set_option maxHeartbeats 4000000 in
theorem c_X7_usual (X : XE) (p0 : Int) (hp0 : inR p0) {σ : Mem} {Q : Int → Mem → Prop} (h : v_X7_usual p0 σ Q) : CT X yX7_usual cX7_usual 1 (some .int) rm_X7_usual 1 [vI p0] σ Q := by
  refine ct_of (own := RX7) (L := [(0, vI p0)]) rfl rfl (Nat.le_of_ble_eq_true rfl) rfl ?_
  refine ok_iload_n 0 (pc := 0) dX7_usual_0 rfl rfl ?_
  refine ok_iconst (pc := 1) dX7_usual_1 ?_
  refine ok_icmp_ge (tgt := 9) (pc := 2) dX7_usual_2 rfl hp0 (r_lit rfl) (fun q1 => ?_) (fun q1 => ?_)
  · have h := iteF h q1
    refine ok_iload_n 0 (pc := 9) dX7_usual_9 rfl rfl ?_
    refine ok_bipush (pc := 10) dX7_usual_10 rfl ?_
    refine ok_icmp_ge (tgt := 19) (pc := 12) dX7_usual_12 rfl hp0 (r_lit rfl) (fun q2 => ?_) (fun q2 => ?_)
    · have h := iteF h q2
      refine ok_iload_n 0 (pc := 19) dX7_usual_19 rfl rfl ?_
      refine ok_bipush (pc := 20) dX7_usual_20 rfl ?_
      refine ok_icmp_ge (tgt := 27) (pc := 22) dX7_usual_22 rfl hp0 (r_lit rfl) (fun q3 => ?_) (fun q3 => ?_)
      · have h := iteF h q3
        refine ok_iload_n 0 (pc := 27) dX7_usual_27 rfl rfl ?_
        refine ok_bipush (pc := 28) dX7_usual_28 rfl ?_
        refine ok_icmp_ge (tgt := 35) (pc := 30) dX7_usual_30 rfl hp0 (r_lit rfl) (fun q4 => ?_) (fun q4 => ?_)
        · have h := iteF h q4
          refine ok_iload_n 0 (pc := 35) dX7_usual_35 rfl rfl ?_
          refine ok_bipush (pc := 36) dX7_usual_36 rfl ?_
          refine ok_icmp_ne (tgt := 47) (pc := 38) dX7_usual_38 rfl hp0 (r_lit rfl) (fun q5 => ?_) (fun q5 => ?_)
          · have h := iteF h q5
            refine ok_iconst (pc := 47) dX7_usual_47 ?_
            exact ok_iret (pc := 48) dX7_usual_48 rfl rfl rfl (r_lit rfl) h
          · have h := iteT h q5
            refine ok_sipush (pc := 41) dX7_usual_41 rfl ?_
            refine ok_goto (tgt := 48) (pc := 44) dX7_usual_44 rfl ?_
            exact ok_iret (pc := 48) dX7_usual_48 rfl rfl rfl (r_lit rfl) h
        · have h := iteT h q4
          refine ok_iconst (pc := 33) dX7_usual_33 ?_
          exact ok_iret (pc := 34) dX7_usual_34 rfl rfl rfl (r_lit rfl) h
      · have h := iteT h q3
        refine ok_iconst (pc := 25) dX7_usual_25 ?_
        exact ok_iret (pc := 26) dX7_usual_26 rfl rfl rfl (r_lit rfl) h
    · have h := iteT h q2
      refine ok_sipush (pc := 15) dX7_usual_15 rfl ?_
      exact ok_iret (pc := 18) dX7_usual_18 rfl rfl rfl (r_lit rfl) h
  · have h := iteT h q1
    refine ok_sipush (pc := 5) dX7_usual_5 rfl ?_
    exact ok_iret (pc := 8) dX7_usual_8 rfl rfl rfl (r_lit rfl) h
theorem dX7_value_0 : decode cX7_value 0 = .ok (.iload_n 1, 1) := by decide +kernel
theorem dX7_value_1 : decode cX7_value 1 = .ok (.iconst 4, 1) := by decide +kernel
theorem dX7_value_2 : decode cX7_value 2 = .ok (.if_icmp .lt 13, 3) := by decide +kernel
theorem dX7_value_5 : decode cX7_value 5 = .ok (.iload_n 1, 1) := by decide +kernel
theorem dX7_value_6 : decode cX7_value 6 = .ok (.bipush 8, 2) := by decide +kernel
theorem dX7_value_8 : decode cX7_value 8 = .ok (.if_icmp .ge 7, 3) := by decide +kernel
theorem dX7_value_11 : decode cX7_value 11 = .ok (.iconst 1, 1) := by decide +kernel
theorem dX7_value_12 : decode cX7_value 12 = .ok (.goto 4, 3) := by decide +kernel
theorem dX7_value_15 : decode cX7_value 15 = .ok (.iconst 0, 1) := by decide +kernel
theorem dX7_value_16 : decode cX7_value 16 = .ok (.istore_n 3, 1) := by decide +kernel
theorem dX7_value_17 : decode cX7_value 17 = .ok (.aload_n 0, 1) := by decide +kernel
theorem dX7_value_18 : decode cX7_value 18 = .ok (.iload_n 3, 1) := by decide +kernel
theorem dX7_value_19 : decode cX7_value 19 = .ok (.ifCond .eq 9, 3) := by decide +kernel
theorem dX7_value_22 : decode cX7_value 22 = .ok (.iload_n 1, 1) := by decide +kernel
theorem dX7_value_23 : decode cX7_value 23 = .ok (.iconst 4, 1) := by decide +kernel
theorem dX7_value_24 : decode cX7_value 24 = .ok (.isub, 1) := by decide +kernel
theorem dX7_value_25 : decode cX7_value 25 = .ok (.goto 4, 3) := by decide +kernel
theorem dX7_value_28 : decode cX7_value 28 = .ok (.iload_n 1, 1) := by decide +kernel
theorem dX7_value_29 : decode cX7_value 29 = .ok (.iload_n 2, 1) := by decide +kernel
theorem dX7_value_30 : decode cX7_value 30 = .ok (.invokevirtual 32, 3) := by decide +kernel
theorem dX7_value_33 : decode cX7_value 33 = .ok (.istore 4, 2) := by decide +kernel
theorem dX7_value_35 : decode cX7_value 35 = .ok (.iload 4, 2) := by decide +kernel
theorem dX7_value_37 : decode cX7_value 37 = .ok (.ifCond .ge 8, 3) := by decide +kernel
theorem dX7_value_40 : decode cX7_value 40 = .ok (.iload_n 1, 1) := by decide +kernel
theorem dX7_value_41 : decode cX7_value 41 = .ok (.invokestatic 36, 3) := by decide +kernel
theorem dX7_value_44 : decode cX7_value 44 = .ok (.ireturn, 1) := by decide +kernel
theorem dX7_value_45 : decode cX7_value 45 = .ok (.iload_n 3, 1) := by decide +kernel
theorem dX7_value_46 : decode cX7_value 46 = .ok (.ifCond .eq 13, 3) := by decide +kernel
theorem dX7_value_49 : decode cX7_value 49 = .ok (.aload_n 0, 1) := by decide +kernel
theorem dX7_value_50 : decode cX7_value 50 = .ok (.getfield 21, 3) := by decide +kernel
theorem dX7_value_53 : decode cX7_value 53 = .ok (.iload 4, 2) := by decide +kernel
theorem dX7_value_55 : decode cX7_value 55 = .ok (.iaload, 1) := by decide +kernel
theorem dX7_value_56 : decode cX7_value 56 = .ok (.goto 10, 3) := by decide +kernel
theorem dX7_value_59 : decode cX7_value 59 = .ok (.aload_n 0, 1) := by decide +kernel
theorem dX7_value_60 : decode cX7_value 60 = .ok (.getfield 18, 3) := by decide +kernel
theorem dX7_value_63 : decode cX7_value 63 = .ok (.iload 4, 2) := by decide +kernel
theorem dX7_value_65 : decode cX7_value 65 = .ok (.iaload, 1) := by decide +kernel
theorem dX7_value_66 : decode cX7_value 66 = .ok (.ireturn, 1) := by decide +kernel
set_option maxRecDepth 100000 in
set_option maxHeartbeats 4000000 in
theorem w_X7_value_3_29 (X : XE) (p1 : Int) (p2 : Int) (hp1 : inR p1) (hp2 : inR p2) (x3 : Int) (s0 : Int) (hx3 : inR x3) (hs0 : inR s0) {Q : Int → Mem → Prop} {σ : Mem} (h : j_X7_value_3_29 p1 p2 Q x3 s0 σ) : ok X rm_X7_value_3 RX7 cX7_value 5 (some .int) 1 Q 29 [(0, .ref (xad X 3)), (1, vI p1), (2, vI p2), (3, vI x3)] [vI s0, .ref (xad X 3)] σ := by
  refine ok_iload_n 2 (pc := 29) dX7_value_29 rfl rfl ?_
  refine ok_callVi (As := [vI s0, vI p2]) (rest := []) (rm := rm_X7_latest_3) (pc := 30) dX7_value_30 me_X7_latest ml_X7_32 (ci := 7) rfl sh_3 (Nat.le_of_ble_eq_true rfl) rfl des_X7_latest rfl ⟨rfl, rfl, rfl, rfl⟩ rfl rfl (c_X7_latest_3 X s0 p2 hs0 hp2 h) (fun r2 σ3 h1 h => ?_)
  refine ok_istore (L' := [(4, vI r2), (0, .ref (xad X 3)), (1, vI p1), (2, vI p2), (3, vI x3)]) (pc := 33) dX7_value_33 rfl rfl ?_
  refine ok_iload 0 (pc := 35) dX7_value_35 rfl ?_
  refine ok_if_ge (tgt := 45) (pc := 37) dX7_value_37 rfl h1 (fun q4 => ?_) (fun q4 => ?_)
  · have h := iteF h q4
    refine ok_iload_n 4 (pc := 45) dX7_value_45 rfl rfl ?_
    refine ok_if_eq (tgt := 59) (pc := 46) dX7_value_46 rfl hx3 (fun q5 => ?_) (fun q5 => ?_)
    · have h := iteT h q5
      refine ok_aload_n 1 (pc := 59) dX7_value_59 rfl rfl ?_
      refine ok_getR (pc := 60) dX7_value_60 fl_X7_18 sh_3 (Nat.le_of_ble_eq_true rfl) rfl rfl ?_
      refine ok_iload 0 (pc := 63) dX7_value_63 rfl ?_
      obtain ⟨h6, h⟩ := h
      obtain ⟨h7, h⟩ := h
      refine ok_wf (fun hw8 => ?_)
      refine ok_iald (pc := 65) dX7_value_65 sh_6 (Nat.le_of_ble_eq_true rfl) rfl h6 h7 ?_
      exact ok_iret (pc := 66) dX7_value_66 rfl rfl rfl (hw8 _ _) h
    · have h := iteF h q5
      refine ok_aload_n 1 (pc := 49) dX7_value_49 rfl rfl ?_
      refine ok_getR (pc := 50) dX7_value_50 fl_X7_21 sh_3 (Nat.le_of_ble_eq_true rfl) rfl rfl ?_
      refine ok_iload 0 (pc := 53) dX7_value_53 rfl ?_
      obtain ⟨h9, h⟩ := h
      obtain ⟨h10, h⟩ := h
      refine ok_wf (fun hw11 => ?_)
      refine ok_iald (pc := 55) dX7_value_55 sh_7 (Nat.le_of_ble_eq_true rfl) rfl h9 h10 ?_
      refine ok_goto (tgt := 66) (pc := 56) dX7_value_56 rfl ?_
      exact ok_iret (pc := 66) dX7_value_66 rfl rfl rfl (hw11 _ _) h
  · have h := iteT h q4
    refine ok_iload_n 2 (pc := 40) dX7_value_40 rfl rfl ?_
    refine ok_callSi (As := [vI p1]) (rest := []) (rm := rm_X7_usual) (pc := 41) dX7_value_41 me_X7_usual ml_X7_36 des_X7_usual rfl ⟨rfl, rfl, rfl, rfl⟩ rfl rfl (c_X7_usual X p1 hp1 h) (fun r13 σ14 h12 h => ?_)
    exact ok_iret (pc := 44) dX7_value_44 rfl rfl rfl h12 h
set_option maxRecDepth 100000 in
set_option maxHeartbeats 4000000 in
theorem w_X7_value_3_16 (X : XE) (p1 : Int) (p2 : Int) (hp1 : inR p1) (hp2 : inR p2) (s0 : Int) (hs0 : inR s0) {Q : Int → Mem → Prop} {σ : Mem} (h : j_X7_value_3_16 p1 p2 Q s0 σ) : ok X rm_X7_value_3 RX7 cX7_value 5 (some .int) 1 Q 16 [(0, .ref (xad X 3)), (1, vI p1), (2, vI p2)] [vI s0] σ := by
  refine ok_istore_n (L' := [(3, vI s0), (0, .ref (xad X 3)), (1, vI p1), (2, vI p2)]) (pc := 16) dX7_value_16 rfl rfl rfl ?_
  refine ok_aload_n 1 (pc := 17) dX7_value_17 rfl rfl ?_
  refine ok_iload_n 0 (pc := 18) dX7_value_18 rfl rfl ?_
  refine ok_if_eq (tgt := 28) (pc := 19) dX7_value_19 rfl hs0 (fun q1 => ?_) (fun q1 => ?_)
  · have h := iteT h q1
    refine ok_iload_n 2 (pc := 28) dX7_value_28 rfl rfl ?_
    refine ok_sub (L' := [(0, .ref (xad X 3)), (1, vI p1), (2, vI p2), (3, vI s0)]) [1,2,3,0] rfl ?_
    exact w_X7_value_3_29 X p1 p2 hp1 hp2 s0 p1 hs0 hp1 h
  · have h := iteF h q1
    refine ok_iload_n 2 (pc := 22) dX7_value_22 rfl rfl ?_
    refine ok_iconst (pc := 23) dX7_value_23 ?_
    refine ok_isub (pc := 24) dX7_value_24 ?_
    refine ok_goto (tgt := 29) (pc := 25) dX7_value_25 rfl ?_
    obtain ⟨h2, h⟩ := h
    refine ok_sub (L' := [(0, .ref (xad X 3)), (1, vI p1), (2, vI p2), (3, vI s0)]) [1,2,3,0] rfl ?_
    exact w_X7_value_3_29 X p1 p2 hp1 hp2 s0 (p1 - 4) hs0 h2 h
set_option maxRecDepth 100000 in
set_option maxHeartbeats 4000000 in
theorem c_X7_value_3 (X : XE) (p1 : Int) (p2 : Int) (hp1 : inR p1) (hp2 : inR p2) {σ : Mem} {Q : Int → Mem → Prop} (h : v_X7_value_3 p1 p2 σ Q) : CT X yX7_value cX7_value 5 (some .int) rm_X7_value_3 1 [.ref (xad X 3), vI p1, vI p2] σ Q := by
  refine ct_of (own := RX7) (L := [(0, .ref (xad X 3)), (1, vI p1), (2, vI p2)]) rfl rfl (Nat.le_of_ble_eq_true rfl) rfl ?_
  unfold v_X7_value_3 at h
  refine ok_iload_n 1 (pc := 0) dX7_value_0 rfl rfl ?_
  refine ok_iconst (pc := 1) dX7_value_1 ?_
  refine ok_icmp_lt (tgt := 15) (pc := 2) dX7_value_2 rfl hp1 (r_lit rfl) (fun q1 => ?_) (fun q1 => ?_)
  · simp only [if_pos q1] at h
    refine ok_iconst (pc := 15) dX7_value_15 ?_
    exact w_X7_value_3_16 X p1 p2 hp1 hp2 0 (r_lit rfl) h
  · simp only [if_neg q1] at h
    refine ok_iload_n 1 (pc := 5) dX7_value_5 rfl rfl ?_
    refine ok_bipush (pc := 6) dX7_value_6 rfl ?_
    refine ok_icmp_ge (tgt := 15) (pc := 8) dX7_value_8 rfl hp1 (r_lit rfl) (fun q2 => ?_) (fun q2 => ?_)
    · simp only [if_neg q2] at h
      refine ok_iconst (pc := 15) dX7_value_15 ?_
      exact w_X7_value_3_16 X p1 p2 hp1 hp2 0 (r_lit rfl) h
    · simp only [if_pos q2] at h
      refine ok_iconst (pc := 11) dX7_value_11 ?_
      refine ok_goto (tgt := 16) (pc := 12) dX7_value_12 rfl ?_
      exact w_X7_value_3_16 X p1 p2 hp1 hp2 1 (r_lit rfl) h
theorem dX5_refresh_0 : decode cX5_refresh 0 = .ok (.iconst 0, 1) := by decide +kernel
theorem dX5_refresh_1 : decode cX5_refresh 1 = .ok (.istore_n 1, 1) := by decide +kernel
theorem dX5_refresh_2 : decode cX5_refresh 2 = .ok (.iload_n 1, 1) := by decide +kernel
theorem dX5_refresh_3 : decode cX5_refresh 3 = .ok (.bipush 20, 2) := by decide +kernel
theorem dX5_refresh_5 : decode cX5_refresh 5 = .ok (.if_icmp .ge 27, 3) := by decide +kernel
theorem dX5_refresh_8 : decode cX5_refresh 8 = .ok (.aload_n 0, 1) := by decide +kernel
theorem dX5_refresh_9 : decode cX5_refresh 9 = .ok (.getfield 9, 3) := by decide +kernel
theorem dX5_refresh_12 : decode cX5_refresh 12 = .ok (.iload_n 1, 1) := by decide +kernel
theorem dX5_refresh_13 : decode cX5_refresh 13 = .ok (.aload_n 0, 1) := by decide +kernel
theorem dX5_refresh_14 : decode cX5_refresh 14 = .ok (.getfield 15, 3) := by decide +kernel
theorem dX5_refresh_17 : decode cX5_refresh 17 = .ok (.iload_n 1, 1) := by decide +kernel
theorem dX5_refresh_18 : decode cX5_refresh 18 = .ok (.aload_n 0, 1) := by decide +kernel
theorem dX5_refresh_19 : decode cX5_refresh 19 = .ok (.getfield 22, 3) := by decide +kernel
theorem dX5_refresh_22 : decode cX5_refresh 22 = .ok (.invokevirtual 26, 3) := by decide +kernel
theorem dX5_refresh_25 : decode cX5_refresh 25 = .ok (.iastore, 1) := by decide +kernel
theorem dX5_refresh_26 : decode cX5_refresh 26 = .ok (.iinc 1 1, 3) := by decide +kernel
theorem dX5_refresh_29 : decode cX5_refresh 29 = .ok (.goto (-27), 3) := by decide +kernel
theorem dX5_refresh_32 : decode cX5_refresh 32 = .ok (.return_, 1) := by decide +kernel
set_option maxRecDepth 100000 in
set_option maxHeartbeats 4000000 in
theorem w_X5_refresh_2 (X : XE) {Q : Int → Mem → Prop} : ∀ (n : Nat) (x1 : Int) (σ : Mem), inR x1 → l_X5_refresh_2 Q n x1 σ → ok X rm_X5_refresh RX5 cX5_refresh 2 none 0 Q 2 [(0, .ref (xad X 14)), (1, vI x1)] [] σ := by
  intro n
  induction n with
  | zero => intro x1 σ hx1 h; exact False.elim h
  | succ n ih =>
    intro x1 σ hx1 h
    refine ok_iload_n 1 (pc := 2) dX5_refresh_2 rfl rfl ?_
    refine ok_bipush (pc := 3) dX5_refresh_3 rfl ?_
    refine ok_icmp_ge (tgt := 32) (pc := 5) dX5_refresh_5 rfl hx1 (r_lit rfl) (fun q1 => ?_) (fun q1 => ?_)
    · have h := iteF h q1
      exact ok_vret (pc := 32) dX5_refresh_32 rfl rfl h
    · have h := iteT h q1
      refine ok_aload_n 0 (pc := 8) dX5_refresh_8 rfl rfl ?_
      refine ok_getR (pc := 9) dX5_refresh_9 fl_X5_9 sh_14 (Nat.le_of_ble_eq_true rfl) rfl rfl ?_
      refine ok_iload_n 1 (pc := 12) dX5_refresh_12 rfl rfl ?_
      refine ok_aload_n 0 (pc := 13) dX5_refresh_13 rfl rfl ?_
      refine ok_getR (pc := 14) dX5_refresh_14 fl_X5_15 sh_14 (Nat.le_of_ble_eq_true rfl) rfl rfl ?_
      refine ok_iload_n 1 (pc := 17) dX5_refresh_17 rfl rfl ?_
      refine ok_aload_n 0 (pc := 18) dX5_refresh_18 rfl rfl ?_
      refine ok_wf (fun hw2 => ?_)
      refine ok_getI (pc := 19) dX5_refresh_19 fl_X5_22 sh_14 (Nat.le_of_ble_eq_true rfl) rfl rfl ?_
      refine ok_callVi (As := [vI x1, vI (σ 14 2)]) (rest := [vI x1, .ref (xad X 15)]) (rm := rm_X7_value_3) (pc := 22) dX5_refresh_22 me_X7_value ml_X5_26 (ci := 7) rfl sh_3 (Nat.le_of_ble_eq_true rfl) rfl des_X7_value rfl ⟨rfl, rfl, rfl, rfl⟩ rfl rfl (c_X7_value_3 X x1 (σ 14 2) hx1 (hw2 _ _) h) (fun r4 σ5 h3 h => ?_)
      obtain ⟨h6, h⟩ := h
      obtain ⟨h7, h⟩ := h
      refine ok_iast (pc := 25) dX5_refresh_25 sh_15 (Nat.le_of_ble_eq_true rfl) rfl h6 h7 h3 ?_
      refine ok_iinc (L' := [(1, vI (x1 + 1)), (0, .ref (xad X 14))]) 1 (pc := 26) dX5_refresh_26 rfl rfl rfl ?_
      refine ok_goto (tgt := 2) (pc := 29) dX5_refresh_29 rfl ?_
      obtain ⟨h8, h⟩ := h
      refine ok_sub (L' := [(0, .ref (xad X 14)), (1, vI (x1 + 1))]) [1,0] rfl ?_
      exact ih (x1 + 1) (mset σ5 15 (x1.toNat) r4) h8 h
set_option maxRecDepth 100000 in
set_option maxHeartbeats 4000000 in
theorem c_X5_refresh (X : XE) {σ : Mem} {Q : Int → Mem → Prop} (h : v_X5_refresh σ Q) : CT X yX5_refresh cX5_refresh 2 none rm_X5_refresh 0 [.ref (xad X 14)] σ Q := by
  refine ct_of (own := RX5) (L := [(0, .ref (xad X 14))]) rfl rfl (Nat.le_of_ble_eq_true rfl) rfl ?_
  refine ok_iconst (pc := 0) dX5_refresh_0 ?_
  refine ok_istore_n (L' := [(1, vI 0), (0, .ref (xad X 14))]) (pc := 1) dX5_refresh_1 rfl rfl rfl ?_
  refine ok_sub (L' := [(0, .ref (xad X 14)), (1, vI 0)]) [1,0] rfl ?_
  obtain ⟨n1, h⟩ := h
  exact w_X5_refresh_2 X n1 0 σ (r_lit rfl) h
theorem dX11_day_0 : decode cX11_day 0 = .ok (.iload_n 1, 1) := by decide +kernel
theorem dX11_day_1 : decode cX11_day 1 = .ok (.invokestatic 104, 3) := by decide +kernel
theorem dX11_day_4 : decode cX11_day 4 = .ok (.ifCond .eq 14, 3) := by decide +kernel
theorem dX11_day_7 : decode cX11_day 7 = .ok (.iload_n 1, 1) := by decide +kernel
theorem dX11_day_8 : decode cX11_day 8 = .ok (.aload_n 0, 1) := by decide +kernel
theorem dX11_day_9 : decode cX11_day 9 = .ok (.getfield 37, 3) := by decide +kernel
theorem dX11_day_12 : decode cX11_day 12 = .ok (.getfield 108, 3) := by decide +kernel
theorem dX11_day_15 : decode cX11_day 15 = .ok (.if_icmp .ge 5, 3) := by decide +kernel
theorem dX11_day_18 : decode cX11_day 18 = .ok (.iconst (-1), 1) := by decide +kernel
theorem dX11_day_19 : decode cX11_day 19 = .ok (.ireturn, 1) := by decide +kernel
theorem dX11_day_20 : decode cX11_day 20 = .ok (.aload_n 0, 1) := by decide +kernel
theorem dX11_day_21 : decode cX11_day 21 = .ok (.getfield 37, 3) := by decide +kernel
theorem dX11_day_24 : decode cX11_day 24 = .ok (.getfield 108, 3) := by decide +kernel
theorem dX11_day_27 : decode cX11_day 27 = .ok (.istore_n 2, 1) := by decide +kernel
theorem dX11_day_28 : decode cX11_day 28 = .ok (.aload_n 0, 1) := by decide +kernel
theorem dX11_day_29 : decode cX11_day 29 = .ok (.getfield 37, 3) := by decide +kernel
theorem dX11_day_32 : decode cX11_day 32 = .ok (.iload_n 1, 1) := by decide +kernel
theorem dX11_day_33 : decode cX11_day 33 = .ok (.putfield 108, 3) := by decide +kernel
theorem dX11_day_36 : decode cX11_day 36 = .ok (.aload_n 0, 1) := by decide +kernel
theorem dX11_day_37 : decode cX11_day 37 = .ok (.getfield 37, 3) := by decide +kernel
theorem dX11_day_40 : decode cX11_day 40 = .ok (.invokevirtual 112, 3) := by decide +kernel
theorem dX11_day_43 : decode cX11_day 43 = .ok (.iload_n 2, 1) := by decide +kernel
theorem dX11_day_44 : decode cX11_day 44 = .ok (.ireturn, 1) := by decide +kernel
set_option maxRecDepth 100000 in
set_option maxHeartbeats 4000000 in
theorem c_X11_day (X : XE) (p1 : Int) (hp1 : inR p1) {σ : Mem} {Q : Int → Mem → Prop} (h : v_X11_day p1 σ Q) : CT X yX11_day cX11_day 3 (some .int) rm_X11_day 1 [.ref (xad X 0), vI p1] σ Q := by
  refine ct_of (own := RX11) (L := [(0, .ref (xad X 0)), (1, vI p1)]) rfl rfl (Nat.le_of_ble_eq_true rfl) rfl ?_
  refine ok_iload_n 1 (pc := 0) dX11_day_0 rfl rfl ?_
  refine ok_callSi (As := [vI p1]) (rest := []) (rm := rm_X11_isDay) (pc := 1) dX11_day_1 me_X11_isDay ml_X11_104 des_X11_isDay rfl ⟨rfl, rfl, rfl, rfl⟩ rfl rfl (c_X11_isDay X p1 hp1 h) (fun r2 σ3 h1 h => ?_)
  refine ok_if_eq (tgt := 18) (pc := 4) dX11_day_4 rfl h1 (fun q4 => ?_) (fun q4 => ?_)
  · have h := iteT h q4
    refine ok_iconst (pc := 18) dX11_day_18 ?_
    exact ok_iret (pc := 19) dX11_day_19 rfl rfl rfl (r_lit rfl) h
  · have h := iteF h q4
    refine ok_iload_n 1 (pc := 7) dX11_day_7 rfl rfl ?_
    refine ok_aload_n 0 (pc := 8) dX11_day_8 rfl rfl ?_
    refine ok_getR (pc := 9) dX11_day_9 fl_X11_37 sh_0 (Nat.le_of_ble_eq_true rfl) rfl rfl ?_
    refine ok_wf (fun hw5 => ?_)
    refine ok_getI (pc := 12) dX11_day_12 fl_X11_108 sh_14 (Nat.le_of_ble_eq_true rfl) rfl rfl ?_
    refine ok_icmp_ge (tgt := 20) (pc := 15) dX11_day_15 rfl hp1 (hw5 _ _) (fun q6 => ?_) (fun q6 => ?_)
    · have h := iteF h q6
      refine ok_aload_n 0 (pc := 20) dX11_day_20 rfl rfl ?_
      refine ok_getR (pc := 21) dX11_day_21 fl_X11_37 sh_0 (Nat.le_of_ble_eq_true rfl) rfl rfl ?_
      refine ok_getI (pc := 24) dX11_day_24 fl_X11_108 sh_14 (Nat.le_of_ble_eq_true rfl) rfl rfl ?_
      refine ok_istore_n (L' := [(2, vI (σ3 14 2)), (0, .ref (xad X 0)), (1, vI p1)]) (pc := 27) dX11_day_27 rfl rfl rfl ?_
      refine ok_aload_n 1 (pc := 28) dX11_day_28 rfl rfl ?_
      refine ok_getR (pc := 29) dX11_day_29 fl_X11_37 sh_0 (Nat.le_of_ble_eq_true rfl) rfl rfl ?_
      refine ok_iload_n 2 (pc := 32) dX11_day_32 rfl rfl ?_
      refine ok_putI (pc := 33) dX11_day_33 fl_X11_108 fp_X5_2 sh_14 (Nat.le_of_ble_eq_true rfl) rfl rfl hp1 rfl rfl ?_
      refine ok_aload_n 1 (pc := 36) dX11_day_36 rfl rfl ?_
      refine ok_getR (pc := 37) dX11_day_37 fl_X11_37 sh_0 (Nat.le_of_ble_eq_true rfl) rfl rfl ?_
      refine ok_callVv (As := []) (rest := []) (rm := rm_X5_refresh) (pc := 40) dX11_day_40 me_X5_refresh ml_X11_112 (ci := 5) rfl sh_14 (Nat.le_of_ble_eq_true rfl) rfl des_X5_refresh rfl ⟨rfl, rfl, rfl, rfl⟩ rfl rfl (c_X5_refresh X h) (fun σ9 h => ?_)
      refine ok_iload_n 0 (pc := 43) dX11_day_43 rfl rfl ?_
      exact ok_iret (pc := 44) dX11_day_44 rfl rfl rfl (hw5 _ _) h
    · have h := iteT h q6
      refine ok_iconst (pc := 18) dX11_day_18 ?_
      exact ok_iret (pc := 19) dX11_day_19 rfl rfl rfl (r_lit rfl) h
theorem dX9_add_0 : decode cX9_add 0 = .ok (.aload_n 0, 1) := by decide +kernel
theorem dX9_add_1 : decode cX9_add 1 = .ok (.getfield 13, 3) := by decide +kernel
theorem dX9_add_4 : decode cX9_add 4 = .ok (.sipush 232, 3) := by decide +kernel
theorem dX9_add_7 : decode cX9_add 7 = .ok (.if_icmp .le 5, 3) := by decide +kernel
theorem dX9_add_10 : decode cX9_add 10 = .ok (.iconst 0, 1) := by decide +kernel
theorem dX9_add_11 : decode cX9_add 11 = .ok (.ireturn, 1) := by decide +kernel
theorem dX9_add_12 : decode cX9_add 12 = .ok (.iconst 0, 1) := by decide +kernel
theorem dX9_add_13 : decode cX9_add 13 = .ok (.istore_n 3, 1) := by decide +kernel
theorem dX9_add_14 : decode cX9_add 14 = .ok (.iload_n 3, 1) := by decide +kernel
theorem dX9_add_15 : decode cX9_add 15 = .ok (.bipush 8, 2) := by decide +kernel
theorem dX9_add_17 : decode cX9_add 17 = .ok (.if_icmp .ge 31, 3) := by decide +kernel
theorem dX9_add_20 : decode cX9_add 20 = .ok (.aload_n 0, 1) := by decide +kernel
theorem dX9_add_21 : decode cX9_add 21 = .ok (.getfield 9, 3) := by decide +kernel
theorem dX9_add_24 : decode cX9_add 24 = .ok (.aload_n 0, 1) := by decide +kernel
theorem dX9_add_25 : decode cX9_add 25 = .ok (.getfield 13, 3) := by decide +kernel
theorem dX9_add_28 : decode cX9_add 28 = .ok (.iload_n 3, 1) := by decide +kernel
theorem dX9_add_29 : decode cX9_add 29 = .ok (.iadd, 1) := by decide +kernel
theorem dX9_add_30 : decode cX9_add 30 = .ok (.lload_n 1, 1) := by decide +kernel
theorem dX9_add_31 : decode cX9_add 31 = .ok (.bipush 8, 2) := by decide +kernel
theorem dX9_add_33 : decode cX9_add 33 = .ok (.bipush 7, 2) := by decide +kernel
theorem dX9_add_35 : decode cX9_add 35 = .ok (.iload_n 3, 1) := by decide +kernel
theorem dX9_add_36 : decode cX9_add 36 = .ok (.isub, 1) := by decide +kernel
theorem dX9_add_37 : decode cX9_add 37 = .ok (.imul, 1) := by decide +kernel
theorem dX9_add_38 : decode cX9_add 38 = .ok (.lshr, 1) := by decide +kernel
theorem dX9_add_39 : decode cX9_add 39 = .ok (.l2i, 1) := by decide +kernel
theorem dX9_add_40 : decode cX9_add 40 = .ok (.i2b, 1) := by decide +kernel
theorem dX9_add_41 : decode cX9_add 41 = .ok (.bastore, 1) := by decide +kernel
theorem dX9_add_42 : decode cX9_add 42 = .ok (.iinc 3 1, 3) := by decide +kernel
theorem dX9_add_45 : decode cX9_add 45 = .ok (.goto (-31), 3) := by decide +kernel
theorem dX9_add_48 : decode cX9_add 48 = .ok (.aload_n 0, 1) := by decide +kernel
theorem dX9_add_49 : decode cX9_add 49 = .ok (.dup, 1) := by decide +kernel
theorem dX9_add_50 : decode cX9_add 50 = .ok (.getfield 13, 3) := by decide +kernel
theorem dX9_add_53 : decode cX9_add 53 = .ok (.bipush 8, 2) := by decide +kernel
theorem dX9_add_55 : decode cX9_add 55 = .ok (.iadd, 1) := by decide +kernel
theorem dX9_add_56 : decode cX9_add 56 = .ok (.putfield 13, 3) := by decide +kernel
theorem dX9_add_59 : decode cX9_add 59 = .ok (.iconst 1, 1) := by decide +kernel
theorem dX9_add_60 : decode cX9_add 60 = .ok (.ireturn, 1) := by decide +kernel
set_option maxRecDepth 100000 in
set_option maxHeartbeats 4000000 in
theorem w_X9_add_14 (X : XE) (p1 : Int) (hp1 : inL p1) {Q : Int → Mem → Prop} : ∀ (n : Nat) (x3 : Int) (σ : Mem), inR x3 → l_X9_add_14 p1 Q n x3 σ → ok X rm_X9_add RX9 cX9_add 4 (some .boolean) 1 Q 14 [(0, .ref (xad X 1)), (1, vL p1), (3, vI x3)] [] σ := by
  intro n
  induction n with
  | zero => intro x3 σ hx3 h; exact False.elim h
  | succ n ih =>
    intro x3 σ hx3 h
    refine ok_iload_n 2 (pc := 14) dX9_add_14 rfl rfl ?_
    refine ok_bipush (pc := 15) dX9_add_15 rfl ?_
    refine ok_icmp_ge (tgt := 48) (pc := 17) dX9_add_17 rfl hx3 (r_lit rfl) (fun q1 => ?_) (fun q1 => ?_)
    · have h := iteF h q1
      refine ok_aload_n 0 (pc := 48) dX9_add_48 rfl rfl ?_
      refine ok_dup (pc := 49) dX9_add_49 rfl ?_
      refine ok_wf (fun hw2 => ?_)
      refine ok_getI (pc := 50) dX9_add_50 fl_X9_13 sh_1 (Nat.le_of_ble_eq_true rfl) rfl rfl ?_
      refine ok_bipush (pc := 53) dX9_add_53 rfl ?_
      refine ok_iadd (pc := 55) dX9_add_55 ?_
      obtain ⟨h3, h⟩ := h
      refine ok_putI (pc := 56) dX9_add_56 fl_X9_13 fp_X9_1 sh_1 (Nat.le_of_ble_eq_true rfl) rfl rfl h3 rfl rfl ?_
      refine ok_iconst (pc := 59) dX9_add_59 ?_
      exact ok_iret (pc := 60) dX9_add_60 rfl rfl (nr_z (Or.inr rfl)) (r_lit rfl) h
    · have h := iteT h q1
      refine ok_aload_n 0 (pc := 20) dX9_add_20 rfl rfl ?_
      refine ok_getR (pc := 21) dX9_add_21 fl_X9_9 sh_1 (Nat.le_of_ble_eq_true rfl) rfl rfl ?_
      refine ok_aload_n 0 (pc := 24) dX9_add_24 rfl rfl ?_
      refine ok_wf (fun hw4 => ?_)
      refine ok_getI (pc := 25) dX9_add_25 fl_X9_13 sh_1 (Nat.le_of_ble_eq_true rfl) rfl rfl ?_
      refine ok_iload_n 2 (pc := 28) dX9_add_28 rfl rfl ?_
      refine ok_iadd (pc := 29) dX9_add_29 ?_
      refine ok_lload_n 1 (pc := 30) dX9_add_30 rfl rfl ?_
      refine ok_bipush (pc := 31) dX9_add_31 rfl ?_
      refine ok_bipush (pc := 33) dX9_add_33 rfl ?_
      refine ok_iload_n 2 (pc := 35) dX9_add_35 rfl rfl ?_
      refine ok_isub (pc := 36) dX9_add_36 ?_
      refine ok_imul (pc := 37) dX9_add_37 ?_
      refine ok_lshr (pc := 38) dX9_add_38 ?_
      refine ok_l2i (pc := 39) dX9_add_39 ?_
      refine ok_i2b (pc := 40) dX9_add_40 ?_
      obtain ⟨h5, h⟩ := h
      obtain ⟨h6, h⟩ := h
      refine ok_bast (pc := 41) dX9_add_41 sh_2 (Nat.le_of_ble_eq_true rfl) rfl h5 h6 (r_i2b _) ?_
      refine ok_iinc (L' := [(3, vI (x3 + 1)), (0, .ref (xad X 1)), (1, vL p1)]) 2 (pc := 42) dX9_add_42 rfl rfl rfl ?_
      refine ok_goto (tgt := 14) (pc := 45) dX9_add_45 rfl ?_
      obtain ⟨h7, h⟩ := h
      refine ok_sub (L' := [(0, .ref (xad X 1)), (1, vL p1), (3, vI (x3 + 1))]) [1,2,0] rfl ?_
      exact ih (x3 + 1) (mset σ 2 (((σ 1 1) + x3).toNat) (i2bI (l2iI (lshrI p1 (8 * (7 - x3)))))) h7 h
set_option maxRecDepth 100000 in
set_option maxHeartbeats 4000000 in
theorem c_X9_add (X : XE) (p1 : Int) (hp1 : inL p1) {σ : Mem} {Q : Int → Mem → Prop} (h : v_X9_add p1 σ Q) : CT X yX9_add cX9_add 4 (some .boolean) rm_X9_add 1 [.ref (xad X 1), vL p1] σ Q := by
  refine ct_of (own := RX9) (L := [(0, .ref (xad X 1)), (1, vL p1)]) rfl rfl (Nat.le_of_ble_eq_true rfl) rfl ?_
  refine ok_aload_n 0 (pc := 0) dX9_add_0 rfl rfl ?_
  refine ok_wf (fun hw1 => ?_)
  refine ok_getI (pc := 1) dX9_add_1 fl_X9_13 sh_1 (Nat.le_of_ble_eq_true rfl) rfl rfl ?_
  refine ok_sipush (pc := 4) dX9_add_4 rfl ?_
  refine ok_icmp_le (tgt := 12) (pc := 7) dX9_add_7 rfl (hw1 _ _) (r_lit rfl) (fun q2 => ?_) (fun q2 => ?_)
  · have h := iteF h q2
    refine ok_iconst (pc := 12) dX9_add_12 ?_
    refine ok_istore_n (L' := [(3, vI 0), (0, .ref (xad X 1)), (1, vL p1)]) (pc := 13) dX9_add_13 rfl rfl rfl ?_
    refine ok_sub (L' := [(0, .ref (xad X 1)), (1, vL p1), (3, vI 0)]) [1,2,0] rfl ?_
    obtain ⟨n3, h⟩ := h
    exact w_X9_add_14 X p1 hp1 n3 0 σ (r_lit rfl) h
  · have h := iteT h q2
    refine ok_iconst (pc := 10) dX9_add_10 ?_
    exact ok_iret (pc := 11) dX9_add_11 rfl rfl (nr_z (Or.inl rfl)) (r_lit rfl) h
theorem dX11_feed_0 : decode cX11_feed 0 = .ok (.aload_n 0, 1) := by decide +kernel
theorem dX11_feed_1 : decode cX11_feed 1 = .ok (.getfield 10, 3) := by decide +kernel
theorem dX11_feed_4 : decode cX11_feed 4 = .ok (.lload_n 1, 1) := by decide +kernel
theorem dX11_feed_5 : decode cX11_feed 5 = .ok (.invokevirtual 115, 3) := by decide +kernel
theorem dX11_feed_8 : decode cX11_feed 8 = .ok (.ifCond .eq 13, 3) := by decide +kernel
theorem dX11_feed_11 : decode cX11_feed 11 = .ok (.aload_n 0, 1) := by decide +kernel
theorem dX11_feed_12 : decode cX11_feed 12 = .ok (.getfield 10, 3) := by decide +kernel
theorem dX11_feed_15 : decode cX11_feed 15 = .ok (.getfield 119, 3) := by decide +kernel
theorem dX11_feed_18 : decode cX11_feed 18 = .ok (.goto 5, 3) := by decide +kernel
theorem dX11_feed_21 : decode cX11_feed 21 = .ok (.bipush (-3), 2) := by decide +kernel
theorem dX11_feed_23 : decode cX11_feed 23 = .ok (.ireturn, 1) := by decide +kernel
set_option maxRecDepth 100000 in
set_option maxHeartbeats 4000000 in
theorem c_X11_feed (X : XE) (p1 : Int) (hp1 : inL p1) {σ : Mem} {Q : Int → Mem → Prop} (h : v_X11_feed p1 σ Q) : CT X yX11_feed cX11_feed 3 (some .int) rm_X11_feed 1 [.ref (xad X 0), vL p1] σ Q := by
  refine ct_of (own := RX11) (L := [(0, .ref (xad X 0)), (1, vL p1)]) rfl rfl (Nat.le_of_ble_eq_true rfl) rfl ?_
  refine ok_aload_n 0 (pc := 0) dX11_feed_0 rfl rfl ?_
  refine ok_getR (pc := 1) dX11_feed_1 fl_X11_10 sh_0 (Nat.le_of_ble_eq_true rfl) rfl rfl ?_
  refine ok_lload_n 1 (pc := 4) dX11_feed_4 rfl rfl ?_
  refine ok_callVi (As := [vL p1]) (rest := []) (rm := rm_X9_add) (pc := 5) dX11_feed_5 me_X9_add ml_X11_115 (ci := 9) rfl sh_1 (Nat.le_of_ble_eq_true rfl) rfl des_X9_add rfl ⟨rfl, rfl, rfl, rfl⟩ rfl rfl (c_X9_add X p1 hp1 h) (fun r2 σ3 h1 h => ?_)
  refine ok_if_eq (tgt := 21) (pc := 8) dX11_feed_8 rfl h1 (fun q4 => ?_) (fun q4 => ?_)
  · have h := iteT h q4
    refine ok_bipush (pc := 21) dX11_feed_21 rfl ?_
    exact ok_iret (pc := 23) dX11_feed_23 rfl rfl rfl (r_lit rfl) h
  · have h := iteF h q4
    refine ok_aload_n 0 (pc := 11) dX11_feed_11 rfl rfl ?_
    refine ok_getR (pc := 12) dX11_feed_12 fl_X11_10 sh_0 (Nat.le_of_ble_eq_true rfl) rfl rfl ?_
    refine ok_wf (fun hw5 => ?_)
    refine ok_getI (pc := 15) dX11_feed_15 fl_X11_119 sh_1 (Nat.le_of_ble_eq_true rfl) rfl rfl ?_
    refine ok_goto (tgt := 23) (pc := 18) dX11_feed_18 rfl ?_
    exact ok_iret (pc := 23) dX11_feed_23 rfl rfl rfl (hw5 _ _) h
theorem dX11_end_0 : decode cX11_end 0 = .ok (.iload_n 1, 1) := by decide +kernel
theorem dX11_end_1 : decode cX11_end 1 = .ok (.ifCond .lt 14, 3) := by decide +kernel
theorem dX11_end_4 : decode cX11_end 4 = .ok (.iload_n 1, 1) := by decide +kernel
theorem dX11_end_5 : decode cX11_end 5 = .ok (.aload_n 0, 1) := by decide +kernel
theorem dX11_end_6 : decode cX11_end 6 = .ok (.getfield 10, 3) := by decide +kernel
theorem dX11_end_9 : decode cX11_end 9 = .ok (.getfield 119, 3) := by decide +kernel
theorem dX11_end_12 : decode cX11_end 12 = .ok (.if_icmp .le 5, 3) := by decide +kernel
theorem dX11_end_15 : decode cX11_end 15 = .ok (.iconst (-1), 1) := by decide +kernel
theorem dX11_end_16 : decode cX11_end 16 = .ok (.ireturn, 1) := by decide +kernel
theorem dX11_end_17 : decode cX11_end 17 = .ok (.aload_n 0, 1) := by decide +kernel
theorem dX11_end_18 : decode cX11_end 18 = .ok (.getfield 10, 3) := by decide +kernel
theorem dX11_end_21 : decode cX11_end 21 = .ok (.getfield 119, 3) := by decide +kernel
theorem dX11_end_24 : decode cX11_end 24 = .ok (.istore_n 2, 1) := by decide +kernel
theorem dX11_end_25 : decode cX11_end 25 = .ok (.aload_n 0, 1) := by decide +kernel
theorem dX11_end_26 : decode cX11_end 26 = .ok (.getfield 10, 3) := by decide +kernel
theorem dX11_end_29 : decode cX11_end 29 = .ok (.iload_n 1, 1) := by decide +kernel
theorem dX11_end_30 : decode cX11_end 30 = .ok (.putfield 119, 3) := by decide +kernel
theorem dX11_end_33 : decode cX11_end 33 = .ok (.iload_n 2, 1) := by decide +kernel
theorem dX11_end_34 : decode cX11_end 34 = .ok (.ireturn, 1) := by decide +kernel
set_option maxRecDepth 100000 in
set_option maxHeartbeats 4000000 in
theorem c_X11_end (X : XE) (p1 : Int) (hp1 : inR p1) {σ : Mem} {Q : Int → Mem → Prop} (h : v_X11_end p1 σ Q) : CT X yX11_end cX11_end 3 (some .int) rm_X11_end 1 [.ref (xad X 0), vI p1] σ Q := by
  refine ct_of (own := RX11) (L := [(0, .ref (xad X 0)), (1, vI p1)]) rfl rfl (Nat.le_of_ble_eq_true rfl) rfl ?_
  refine ok_iload_n 1 (pc := 0) dX11_end_0 rfl rfl ?_
  refine ok_if_lt (tgt := 15) (pc := 1) dX11_end_1 rfl hp1 (fun q1 => ?_) (fun q1 => ?_)
  · have h := iteT h q1
    refine ok_iconst (pc := 15) dX11_end_15 ?_
    exact ok_iret (pc := 16) dX11_end_16 rfl rfl rfl (r_lit rfl) h
  · have h := iteF h q1
    refine ok_iload_n 1 (pc := 4) dX11_end_4 rfl rfl ?_
    refine ok_aload_n 0 (pc := 5) dX11_end_5 rfl rfl ?_
    refine ok_getR (pc := 6) dX11_end_6 fl_X11_10 sh_0 (Nat.le_of_ble_eq_true rfl) rfl rfl ?_
    refine ok_wf (fun hw2 => ?_)
    refine ok_getI (pc := 9) dX11_end_9 fl_X11_119 sh_1 (Nat.le_of_ble_eq_true rfl) rfl rfl ?_
    refine ok_icmp_le (tgt := 17) (pc := 12) dX11_end_12 rfl hp1 (hw2 _ _) (fun q3 => ?_) (fun q3 => ?_)
    · have h := iteF h q3
      refine ok_aload_n 0 (pc := 17) dX11_end_17 rfl rfl ?_
      refine ok_getR (pc := 18) dX11_end_18 fl_X11_10 sh_0 (Nat.le_of_ble_eq_true rfl) rfl rfl ?_
      refine ok_getI (pc := 21) dX11_end_21 fl_X11_119 sh_1 (Nat.le_of_ble_eq_true rfl) rfl rfl ?_
      refine ok_istore_n (L' := [(2, vI (σ 1 1)), (0, .ref (xad X 0)), (1, vI p1)]) (pc := 24) dX11_end_24 rfl rfl rfl ?_
      refine ok_aload_n 1 (pc := 25) dX11_end_25 rfl rfl ?_
      refine ok_getR (pc := 26) dX11_end_26 fl_X11_10 sh_0 (Nat.le_of_ble_eq_true rfl) rfl rfl ?_
      refine ok_iload_n 2 (pc := 29) dX11_end_29 rfl rfl ?_
      refine ok_putI (pc := 30) dX11_end_30 fl_X11_119 fp_X9_1 sh_1 (Nat.le_of_ble_eq_true rfl) rfl rfl hp1 rfl rfl ?_
      refine ok_iload_n 0 (pc := 33) dX11_end_33 rfl rfl ?_
      exact ok_iret (pc := 34) dX11_end_34 rfl rfl rfl (hw2 _ _) h
    · have h := iteT h q3
      refine ok_iconst (pc := 15) dX11_end_15 ?_
      exact ok_iret (pc := 16) dX11_end_16 rfl rfl rfl (r_lit rfl) h
theorem dX9_signAt_0 : decode cX9_signAt 0 = .ok (.iload_n 1, 1) := by decide +kernel
theorem dX9_signAt_1 : decode cX9_signAt 1 = .ok (.ifCond .lt 24, 3) := by decide +kernel
theorem dX9_signAt_4 : decode cX9_signAt 4 = .ok (.iload_n 1, 1) := by decide +kernel
theorem dX9_signAt_5 : decode cX9_signAt 5 = .ok (.aload_n 0, 1) := by decide +kernel
theorem dX9_signAt_6 : decode cX9_signAt 6 = .ok (.getfield 13, 3) := by decide +kernel
theorem dX9_signAt_9 : decode cX9_signAt 9 = .ok (.if_icmp .ge 16, 3) := by decide +kernel
theorem dX9_signAt_12 : decode cX9_signAt 12 = .ok (.aload_n 0, 1) := by decide +kernel
theorem dX9_signAt_13 : decode cX9_signAt 13 = .ok (.getfield 9, 3) := by decide +kernel
theorem dX9_signAt_16 : decode cX9_signAt 16 = .ok (.iload_n 1, 1) := by decide +kernel
theorem dX9_signAt_17 : decode cX9_signAt 17 = .ok (.baload, 1) := by decide +kernel
theorem dX9_signAt_18 : decode cX9_signAt 18 = .ok (.sipush 255, 3) := by decide +kernel
theorem dX9_signAt_21 : decode cX9_signAt 21 = .ok (.iand, 1) := by decide +kernel
theorem dX9_signAt_22 : decode cX9_signAt 22 = .ok (.goto 4, 3) := by decide +kernel
theorem dX9_signAt_25 : decode cX9_signAt 25 = .ok (.iconst (-1), 1) := by decide +kernel
theorem dX9_signAt_26 : decode cX9_signAt 26 = .ok (.ireturn, 1) := by decide +kernel
set_option maxRecDepth 100000 in
set_option maxHeartbeats 4000000 in
theorem c_X9_signAt (X : XE) (p1 : Int) (hp1 : inR p1) {σ : Mem} {Q : Int → Mem → Prop} (h : v_X9_signAt p1 σ Q) : CT X yX9_signAt cX9_signAt 2 (some .int) rm_X9_signAt 1 [.ref (xad X 1), vI p1] σ Q := by
  refine ct_of (own := RX9) (L := [(0, .ref (xad X 1)), (1, vI p1)]) rfl rfl (Nat.le_of_ble_eq_true rfl) rfl ?_
  refine ok_iload_n 1 (pc := 0) dX9_signAt_0 rfl rfl ?_
  refine ok_if_lt (tgt := 25) (pc := 1) dX9_signAt_1 rfl hp1 (fun q1 => ?_) (fun q1 => ?_)
  · have h := iteT h q1
    refine ok_iconst (pc := 25) dX9_signAt_25 ?_
    exact ok_iret (pc := 26) dX9_signAt_26 rfl rfl rfl (r_lit rfl) h
  · have h := iteF h q1
    refine ok_iload_n 1 (pc := 4) dX9_signAt_4 rfl rfl ?_
    refine ok_aload_n 0 (pc := 5) dX9_signAt_5 rfl rfl ?_
    refine ok_wf (fun hw2 => ?_)
    refine ok_getI (pc := 6) dX9_signAt_6 fl_X9_13 sh_1 (Nat.le_of_ble_eq_true rfl) rfl rfl ?_
    refine ok_icmp_ge (tgt := 25) (pc := 9) dX9_signAt_9 rfl hp1 (hw2 _ _) (fun q3 => ?_) (fun q3 => ?_)
    · have h := iteF h q3
      refine ok_iconst (pc := 25) dX9_signAt_25 ?_
      exact ok_iret (pc := 26) dX9_signAt_26 rfl rfl rfl (r_lit rfl) h
    · have h := iteT h q3
      refine ok_aload_n 0 (pc := 12) dX9_signAt_12 rfl rfl ?_
      refine ok_getR (pc := 13) dX9_signAt_13 fl_X9_9 sh_1 (Nat.le_of_ble_eq_true rfl) rfl rfl ?_
      refine ok_iload_n 1 (pc := 16) dX9_signAt_16 rfl rfl ?_
      obtain ⟨h4, h⟩ := h
      obtain ⟨h5, h⟩ := h
      refine ok_bald (pc := 17) dX9_signAt_17 sh_2 (Nat.le_of_ble_eq_true rfl) rfl h4 h5 ?_
      refine ok_sipush (pc := 18) dX9_signAt_18 rfl ?_
      refine ok_iand (pc := 21) dX9_signAt_21 ?_
      refine ok_goto (tgt := 26) (pc := 22) dX9_signAt_22 rfl ?_
      exact ok_iret (pc := 26) dX9_signAt_26 rfl rfl rfl (q_rng _) h
theorem dX6_isLow_0 : decode cX6_isLow 0 = .ok (.iload_n 0, 1) := by decide +kernel
theorem dX6_isLow_1 : decode cX6_isLow 1 = .ok (.bipush 97, 2) := by decide +kernel
theorem dX6_isLow_3 : decode cX6_isLow 3 = .ok (.if_icmp .lt 13, 3) := by decide +kernel
theorem dX6_isLow_6 : decode cX6_isLow 6 = .ok (.iload_n 0, 1) := by decide +kernel
theorem dX6_isLow_7 : decode cX6_isLow 7 = .ok (.bipush 122, 2) := by decide +kernel
theorem dX6_isLow_9 : decode cX6_isLow 9 = .ok (.if_icmp .gt 7, 3) := by decide +kernel
theorem dX6_isLow_12 : decode cX6_isLow 12 = .ok (.iconst 1, 1) := by decide +kernel
theorem dX6_isLow_13 : decode cX6_isLow 13 = .ok (.goto 4, 3) := by decide +kernel
theorem dX6_isLow_16 : decode cX6_isLow 16 = .ok (.iconst 0, 1) := by decide +kernel
theorem dX6_isLow_17 : decode cX6_isLow 17 = .ok (.ireturn, 1) := by decide +kernel
set_option maxRecDepth 100000 in
set_option maxHeartbeats 4000000 in
theorem c_X6_isLow (X : XE) (p0 : Int) (hp0 : inR p0) {σ : Mem} {Q : Int → Mem → Prop} (h : v_X6_isLow p0 σ Q) : CT X yX6_isLow cX6_isLow 1 (some .boolean) rm_X6_isLow 1 [vI p0] σ Q := by
  refine ct_of (own := RX6) (L := [(0, vI p0)]) rfl rfl (Nat.le_of_ble_eq_true rfl) rfl ?_
  refine ok_iload_n 0 (pc := 0) dX6_isLow_0 rfl rfl ?_
  refine ok_bipush (pc := 1) dX6_isLow_1 rfl ?_
  refine ok_icmp_lt (tgt := 16) (pc := 3) dX6_isLow_3 rfl hp0 (r_lit rfl) (fun q1 => ?_) (fun q1 => ?_)
  · have h := iteT h q1
    refine ok_iconst (pc := 16) dX6_isLow_16 ?_
    exact ok_iret (pc := 17) dX6_isLow_17 rfl rfl (nr_z (Or.inl rfl)) (r_lit rfl) h
  · have h := iteF h q1
    refine ok_iload_n 0 (pc := 6) dX6_isLow_6 rfl rfl ?_
    refine ok_bipush (pc := 7) dX6_isLow_7 rfl ?_
    refine ok_icmp_gt (tgt := 16) (pc := 9) dX6_isLow_9 rfl hp0 (r_lit rfl) (fun q2 => ?_) (fun q2 => ?_)
    · have h := iteT h q2
      refine ok_iconst (pc := 16) dX6_isLow_16 ?_
      exact ok_iret (pc := 17) dX6_isLow_17 rfl rfl (nr_z (Or.inl rfl)) (r_lit rfl) h
    · have h := iteF h q2
      refine ok_iconst (pc := 12) dX6_isLow_12 ?_
      refine ok_goto (tgt := 17) (pc := 13) dX6_isLow_13 rfl ?_
      exact ok_iret (pc := 17) dX6_isLow_17 rfl rfl (nr_z (Or.inr rfl)) (r_lit rfl) h
theorem dX6_isFigure_0 : decode cX6_isFigure 0 = .ok (.iload_n 0, 1) := by decide +kernel
theorem dX6_isFigure_1 : decode cX6_isFigure 1 = .ok (.bipush 48, 2) := by decide +kernel
theorem dX6_isFigure_3 : decode cX6_isFigure 3 = .ok (.if_icmp .lt 13, 3) := by decide +kernel
theorem dX6_isFigure_6 : decode cX6_isFigure 6 = .ok (.iload_n 0, 1) := by decide +kernel
theorem dX6_isFigure_7 : decode cX6_isFigure 7 = .ok (.bipush 57, 2) := by decide +kernel
theorem dX6_isFigure_9 : decode cX6_isFigure 9 = .ok (.if_icmp .gt 7, 3) := by decide +kernel
theorem dX6_isFigure_12 : decode cX6_isFigure 12 = .ok (.iconst 1, 1) := by decide +kernel
theorem dX6_isFigure_13 : decode cX6_isFigure 13 = .ok (.goto 4, 3) := by decide +kernel
theorem dX6_isFigure_16 : decode cX6_isFigure 16 = .ok (.iconst 0, 1) := by decide +kernel
theorem dX6_isFigure_17 : decode cX6_isFigure 17 = .ok (.ireturn, 1) := by decide +kernel
set_option maxRecDepth 100000 in
set_option maxHeartbeats 4000000 in
theorem c_X6_isFigure (X : XE) (p0 : Int) (hp0 : inR p0) {σ : Mem} {Q : Int → Mem → Prop} (h : v_X6_isFigure p0 σ Q) : CT X yX6_isFigure cX6_isFigure 1 (some .boolean) rm_X6_isFigure 1 [vI p0] σ Q := by
  refine ct_of (own := RX6) (L := [(0, vI p0)]) rfl rfl (Nat.le_of_ble_eq_true rfl) rfl ?_
  refine ok_iload_n 0 (pc := 0) dX6_isFigure_0 rfl rfl ?_
  refine ok_bipush (pc := 1) dX6_isFigure_1 rfl ?_
  refine ok_icmp_lt (tgt := 16) (pc := 3) dX6_isFigure_3 rfl hp0 (r_lit rfl) (fun q1 => ?_) (fun q1 => ?_)
  · have h := iteT h q1
    refine ok_iconst (pc := 16) dX6_isFigure_16 ?_
    exact ok_iret (pc := 17) dX6_isFigure_17 rfl rfl (nr_z (Or.inl rfl)) (r_lit rfl) h
  · have h := iteF h q1
    refine ok_iload_n 0 (pc := 6) dX6_isFigure_6 rfl rfl ?_
    refine ok_bipush (pc := 7) dX6_isFigure_7 rfl ?_
    refine ok_icmp_gt (tgt := 16) (pc := 9) dX6_isFigure_9 rfl hp0 (r_lit rfl) (fun q2 => ?_) (fun q2 => ?_)
    · have h := iteT h q2
      refine ok_iconst (pc := 16) dX6_isFigure_16 ?_
      exact ok_iret (pc := 17) dX6_isFigure_17 rfl rfl (nr_z (Or.inl rfl)) (r_lit rfl) h
    · have h := iteF h q2
      refine ok_iconst (pc := 12) dX6_isFigure_12 ?_
      refine ok_goto (tgt := 17) (pc := 13) dX6_isFigure_13 rfl ?_
      exact ok_iret (pc := 17) dX6_isFigure_17 rfl rfl (nr_z (Or.inr rfl)) (r_lit rfl) h
theorem dX6_fail_0 : decode cX6_fail 0 = .ok (.aload_n 0, 1) := by decide +kernel
theorem dX6_fail_1 : decode cX6_fail 1 = .ok (.getfield 26, 3) := by decide +kernel
theorem dX6_fail_4 : decode cX6_fail 4 = .ok (.ifCond .ne 8, 3) := by decide +kernel
theorem dX6_fail_7 : decode cX6_fail 7 = .ok (.aload_n 0, 1) := by decide +kernel
theorem dX6_fail_8 : decode cX6_fail 8 = .ok (.iload_n 1, 1) := by decide +kernel
theorem dX6_fail_9 : decode cX6_fail 9 = .ok (.putfield 26, 3) := by decide +kernel
theorem dX6_fail_12 : decode cX6_fail 12 = .ok (.return_, 1) := by decide +kernel
set_option maxRecDepth 100000 in
set_option maxHeartbeats 4000000 in
theorem c_X6_fail (X : XE) (p1 : Int) (hp1 : inR p1) {σ : Mem} {Q : Int → Mem → Prop} (h : v_X6_fail p1 σ Q) : CT X yX6_fail cX6_fail 2 none rm_X6_fail 0 [.ref (xad X 8), vI p1] σ Q := by
  refine ct_of (own := RX6) (L := [(0, .ref (xad X 8)), (1, vI p1)]) rfl rfl (Nat.le_of_ble_eq_true rfl) rfl ?_
  refine ok_aload_n 0 (pc := 0) dX6_fail_0 rfl rfl ?_
  refine ok_wf (fun hw1 => ?_)
  refine ok_getI (pc := 1) dX6_fail_1 fl_X6_26 sh_8 (Nat.le_of_ble_eq_true rfl) rfl rfl ?_
  refine ok_if_ne (tgt := 12) (pc := 4) dX6_fail_4 rfl (hw1 _ _) (fun q2 => ?_) (fun q2 => ?_)
  · have h := iteF h q2
    exact ok_vret (pc := 12) dX6_fail_12 rfl rfl h
  · have h := iteT h q2
    refine ok_aload_n 0 (pc := 7) dX6_fail_7 rfl rfl ?_
    refine ok_iload_n 1 (pc := 8) dX6_fail_8 rfl rfl ?_
    refine ok_putI (pc := 9) dX6_fail_9 fl_X6_26 fp_X6_2 sh_8 (Nat.le_of_ble_eq_true rfl) rfl rfl hp1 rfl rfl ?_
    exact ok_vret (pc := 12) dX6_fail_12 rfl rfl h
theorem dX6_stepNumber_0 : decode cX6_stepNumber 0 = .ok (.aload_n 0, 1) := by decide +kernel
theorem dX6_stepNumber_1 : decode cX6_stepNumber 1 = .ok (.iconst 2, 1) := by decide +kernel
theorem dX6_stepNumber_2 : decode cX6_stepNumber 2 = .ok (.putfield 35, 3) := by decide +kernel
theorem dX6_stepNumber_5 : decode cX6_stepNumber 5 = .ok (.aload_n 0, 1) := by decide +kernel
theorem dX6_stepNumber_6 : decode cX6_stepNumber 6 = .ok (.iconst 0, 1) := by decide +kernel
theorem dX6_stepNumber_7 : decode cX6_stepNumber 7 = .ok (.putfield 96, 3) := by decide +kernel
theorem dX6_stepNumber_10 : decode cX6_stepNumber 10 = .ok (.aload_n 0, 1) := by decide +kernel
theorem dX6_stepNumber_11 : decode cX6_stepNumber 11 = .ok (.getfield 29, 3) := by decide +kernel
theorem dX6_stepNumber_14 : decode cX6_stepNumber 14 = .ok (.aload_n 0, 1) := by decide +kernel
theorem dX6_stepNumber_15 : decode cX6_stepNumber 15 = .ok (.getfield 18, 3) := by decide +kernel
theorem dX6_stepNumber_18 : decode cX6_stepNumber 18 = .ok (.getfield 116, 3) := by decide +kernel
theorem dX6_stepNumber_21 : decode cX6_stepNumber 21 = .ok (.if_icmp .ge 72, 3) := by decide +kernel
theorem dX6_stepNumber_24 : decode cX6_stepNumber 24 = .ok (.aload_n 0, 1) := by decide +kernel
theorem dX6_stepNumber_25 : decode cX6_stepNumber 25 = .ok (.getfield 18, 3) := by decide +kernel
theorem dX6_stepNumber_28 : decode cX6_stepNumber 28 = .ok (.aload_n 0, 1) := by decide +kernel
theorem dX6_stepNumber_29 : decode cX6_stepNumber 29 = .ok (.getfield 29, 3) := by decide +kernel
theorem dX6_stepNumber_32 : decode cX6_stepNumber 32 = .ok (.invokevirtual 86, 3) := by decide +kernel
theorem dX6_stepNumber_35 : decode cX6_stepNumber 35 = .ok (.invokestatic 124, 3) := by decide +kernel
theorem dX6_stepNumber_38 : decode cX6_stepNumber 38 = .ok (.ifCond .eq 55, 3) := by decide +kernel
theorem dX6_stepNumber_41 : decode cX6_stepNumber 41 = .ok (.aload_n 0, 1) := by decide +kernel
theorem dX6_stepNumber_42 : decode cX6_stepNumber 42 = .ok (.getfield 29, 3) := by decide +kernel
theorem dX6_stepNumber_45 : decode cX6_stepNumber 45 = .ok (.aload_n 0, 1) := by decide +kernel
theorem dX6_stepNumber_46 : decode cX6_stepNumber 46 = .ok (.getfield 83, 3) := by decide +kernel
theorem dX6_stepNumber_49 : decode cX6_stepNumber 49 = .ok (.isub, 1) := by decide +kernel
theorem dX6_stepNumber_50 : decode cX6_stepNumber 50 = .ok (.iconst 4, 1) := by decide +kernel
theorem dX6_stepNumber_51 : decode cX6_stepNumber 51 = .ok (.if_icmp .ge 29, 3) := by decide +kernel
theorem dX6_stepNumber_54 : decode cX6_stepNumber 54 = .ok (.aload_n 0, 1) := by decide +kernel
theorem dX6_stepNumber_55 : decode cX6_stepNumber 55 = .ok (.aload_n 0, 1) := by decide +kernel
theorem dX6_stepNumber_56 : decode cX6_stepNumber 56 = .ok (.getfield 96, 3) := by decide +kernel
theorem dX6_stepNumber_59 : decode cX6_stepNumber 59 = .ok (.bipush 10, 2) := by decide +kernel
theorem dX6_stepNumber_61 : decode cX6_stepNumber 61 = .ok (.imul, 1) := by decide +kernel
theorem dX6_stepNumber_62 : decode cX6_stepNumber 62 = .ok (.aload_n 0, 1) := by decide +kernel
theorem dX6_stepNumber_63 : decode cX6_stepNumber 63 = .ok (.getfield 18, 3) := by decide +kernel
theorem dX6_stepNumber_66 : decode cX6_stepNumber 66 = .ok (.aload_n 0, 1) := by decide +kernel
theorem dX6_stepNumber_67 : decode cX6_stepNumber 67 = .ok (.getfield 29, 3) := by decide +kernel
theorem dX6_stepNumber_70 : decode cX6_stepNumber 70 = .ok (.invokevirtual 86, 3) := by decide +kernel
theorem dX6_stepNumber_73 : decode cX6_stepNumber 73 = .ok (.iadd, 1) := by decide +kernel
theorem dX6_stepNumber_74 : decode cX6_stepNumber 74 = .ok (.bipush 48, 2) := by decide +kernel
theorem dX6_stepNumber_76 : decode cX6_stepNumber 76 = .ok (.isub, 1) := by decide +kernel
theorem dX6_stepNumber_77 : decode cX6_stepNumber 77 = .ok (.putfield 96, 3) := by decide +kernel
theorem dX6_stepNumber_80 : decode cX6_stepNumber 80 = .ok (.aload_n 0, 1) := by decide +kernel
theorem dX6_stepNumber_81 : decode cX6_stepNumber 81 = .ok (.dup, 1) := by decide +kernel
theorem dX6_stepNumber_82 : decode cX6_stepNumber 82 = .ok (.getfield 29, 3) := by decide +kernel
theorem dX6_stepNumber_85 : decode cX6_stepNumber 85 = .ok (.iconst 1, 1) := by decide +kernel
theorem dX6_stepNumber_86 : decode cX6_stepNumber 86 = .ok (.iadd, 1) := by decide +kernel
theorem dX6_stepNumber_87 : decode cX6_stepNumber 87 = .ok (.putfield 29, 3) := by decide +kernel
theorem dX6_stepNumber_90 : decode cX6_stepNumber 90 = .ok (.goto (-80), 3) := by decide +kernel
theorem dX6_stepNumber_93 : decode cX6_stepNumber 93 = .ok (.aload_n 0, 1) := by decide +kernel
theorem dX6_stepNumber_94 : decode cX6_stepNumber 94 = .ok (.getfield 29, 3) := by decide +kernel
theorem dX6_stepNumber_97 : decode cX6_stepNumber 97 = .ok (.aload_n 0, 1) := by decide +kernel
theorem dX6_stepNumber_98 : decode cX6_stepNumber 98 = .ok (.getfield 83, 3) := by decide +kernel
theorem dX6_stepNumber_101 : decode cX6_stepNumber 101 = .ok (.isub, 1) := by decide +kernel
theorem dX6_stepNumber_102 : decode cX6_stepNumber 102 = .ok (.iconst 4, 1) := by decide +kernel
theorem dX6_stepNumber_103 : decode cX6_stepNumber 103 = .ok (.if_icmp .le 13, 3) := by decide +kernel
theorem dX6_stepNumber_106 : decode cX6_stepNumber 106 = .ok (.aload_n 0, 1) := by decide +kernel
theorem dX6_stepNumber_107 : decode cX6_stepNumber 107 = .ok (.iconst 4, 1) := by decide +kernel
theorem dX6_stepNumber_108 : decode cX6_stepNumber 108 = .ok (.putfield 35, 3) := by decide +kernel
theorem dX6_stepNumber_111 : decode cX6_stepNumber 111 = .ok (.aload_n 0, 1) := by decide +kernel
theorem dX6_stepNumber_112 : decode cX6_stepNumber 112 = .ok (.iconst 1, 1) := by decide +kernel
theorem dX6_stepNumber_113 : decode cX6_stepNumber 113 = .ok (.invokevirtual 48, 3) := by decide +kernel
theorem dX6_stepNumber_116 : decode cX6_stepNumber 116 = .ok (.return_, 1) := by decide +kernel
set_option maxRecDepth 100000 in
set_option maxHeartbeats 4000000 in
theorem w_X6_stepNumber_93 (X : XE) {Q : Int → Mem → Prop} {σ : Mem} (h : j_X6_stepNumber_93 Q σ) : ok X rm_X6_stepNumber RX6 cX6_stepNumber 1 none 0 Q 93 [(0, .ref (xad X 8))] [] σ := by
  refine ok_aload_n 0 (pc := 93) dX6_stepNumber_93 rfl rfl ?_
  refine ok_wf (fun hw1 => ?_)
  refine ok_getI (pc := 94) dX6_stepNumber_94 fl_X6_29 sh_8 (Nat.le_of_ble_eq_true rfl) rfl rfl ?_
  refine ok_aload_n 0 (pc := 97) dX6_stepNumber_97 rfl rfl ?_
  refine ok_getI (pc := 98) dX6_stepNumber_98 fl_X6_83 sh_8 (Nat.le_of_ble_eq_true rfl) rfl rfl ?_
  refine ok_isub (pc := 101) dX6_stepNumber_101 ?_
  refine ok_iconst (pc := 102) dX6_stepNumber_102 ?_
  obtain ⟨h2, h⟩ := h
  refine ok_icmp_le (tgt := 116) (pc := 103) dX6_stepNumber_103 rfl h2 (r_lit rfl) (fun q3 => ?_) (fun q3 => ?_)
  · have h := iteF h q3
    exact ok_vret (pc := 116) dX6_stepNumber_116 rfl rfl h
  · have h := iteT h q3
    refine ok_aload_n 0 (pc := 106) dX6_stepNumber_106 rfl rfl ?_
    refine ok_iconst (pc := 107) dX6_stepNumber_107 ?_
    refine ok_putI (pc := 108) dX6_stepNumber_108 fl_X6_35 fp_X6_5 sh_8 (Nat.le_of_ble_eq_true rfl) rfl rfl (r_lit rfl) rfl rfl ?_
    refine ok_aload_n 0 (pc := 111) dX6_stepNumber_111 rfl rfl ?_
    refine ok_iconst (pc := 112) dX6_stepNumber_112 ?_
    refine ok_callVv (As := [vI 1]) (rest := []) (rm := rm_X6_fail) (pc := 113) dX6_stepNumber_113 me_X6_fail ml_X6_48 (ci := 6) rfl sh_8 (Nat.le_of_ble_eq_true rfl) rfl des_X6_fail rfl ⟨rfl, rfl, rfl, rfl⟩ rfl rfl (c_X6_fail X 1 (r_lit rfl) h) (fun σ6 h => ?_)
    exact ok_vret (pc := 116) dX6_stepNumber_116 rfl rfl h
set_option maxRecDepth 100000 in
set_option maxHeartbeats 4000000 in
theorem w_X6_stepNumber_80 (X : XE) {K10 : Mem → Prop} {Q : Int → Mem → Prop} (hK10 : ∀ (σ : Mem), K10 σ → ok X rm_X6_stepNumber RX6 cX6_stepNumber 1 none 0 Q 10 [(0, .ref (xad X 8))] [] σ) {σ : Mem} (h : j_X6_stepNumber_80 K10 Q σ) : ok X rm_X6_stepNumber RX6 cX6_stepNumber 1 none 0 Q 80 [(0, .ref (xad X 8))] [] σ := by
  refine ok_aload_n 0 (pc := 80) dX6_stepNumber_80 rfl rfl ?_
  refine ok_dup (pc := 81) dX6_stepNumber_81 rfl ?_
  refine ok_wf (fun hw1 => ?_)
  refine ok_getI (pc := 82) dX6_stepNumber_82 fl_X6_29 sh_8 (Nat.le_of_ble_eq_true rfl) rfl rfl ?_
  refine ok_iconst (pc := 85) dX6_stepNumber_85 ?_
  refine ok_iadd (pc := 86) dX6_stepNumber_86 ?_
  obtain ⟨h2, h⟩ := h
  refine ok_putI (pc := 87) dX6_stepNumber_87 fl_X6_29 fp_X6_4 sh_8 (Nat.le_of_ble_eq_true rfl) rfl rfl h2 rfl rfl ?_
  refine ok_goto (tgt := 10) (pc := 90) dX6_stepNumber_90 rfl ?_
  exact hK10  (mset σ 8 4 ((σ 8 4) + 1))  h
set_option maxRecDepth 100000 in
set_option maxHeartbeats 4000000 in
theorem w_X6_stepNumber_10 (X : XE) {Q : Int → Mem → Prop} : ∀ (n : Nat) (σ : Mem), l_X6_stepNumber_10 Q n σ → ok X rm_X6_stepNumber RX6 cX6_stepNumber 1 none 0 Q 10 [(0, .ref (xad X 8))] [] σ := by
  intro n
  induction n with
  | zero => intro σ h; exact False.elim h
  | succ n ih =>
    intro σ h
    refine ok_aload_n 0 (pc := 10) dX6_stepNumber_10 rfl rfl ?_
    refine ok_wf (fun hw1 => ?_)
    refine ok_getI (pc := 11) dX6_stepNumber_11 fl_X6_29 sh_8 (Nat.le_of_ble_eq_true rfl) rfl rfl ?_
    refine ok_aload_n 0 (pc := 14) dX6_stepNumber_14 rfl rfl ?_
    refine ok_getR (pc := 15) dX6_stepNumber_15 fl_X6_18 sh_8 (Nat.le_of_ble_eq_true rfl) rfl rfl ?_
    refine ok_getI (pc := 18) dX6_stepNumber_18 fl_X6_116 sh_1 (Nat.le_of_ble_eq_true rfl) rfl rfl ?_
    refine ok_icmp_ge (tgt := 93) (pc := 21) dX6_stepNumber_21 rfl (hw1 _ _) (hw1 _ _) (fun q2 => ?_) (fun q2 => ?_)
    · have h := iteF h q2
      exact w_X6_stepNumber_93 X   h
    · have h := iteT h q2
      refine ok_aload_n 0 (pc := 24) dX6_stepNumber_24 rfl rfl ?_
      refine ok_getR (pc := 25) dX6_stepNumber_25 fl_X6_18 sh_8 (Nat.le_of_ble_eq_true rfl) rfl rfl ?_
      refine ok_aload_n 0 (pc := 28) dX6_stepNumber_28 rfl rfl ?_
      refine ok_getI (pc := 29) dX6_stepNumber_29 fl_X6_29 sh_8 (Nat.le_of_ble_eq_true rfl) rfl rfl ?_
      refine ok_callVi (As := [vI (σ 8 4)]) (rest := []) (rm := rm_X9_signAt) (pc := 32) dX6_stepNumber_32 me_X9_signAt ml_X6_86 (ci := 9) rfl sh_1 (Nat.le_of_ble_eq_true rfl) rfl des_X9_signAt rfl ⟨rfl, rfl, rfl, rfl⟩ rfl rfl (c_X9_signAt X (σ 8 4) (hw1 _ _) h) (fun r4 σ5 h3 h => ?_)
      refine ok_callSi (As := [vI r4]) (rest := []) (rm := rm_X6_isFigure) (pc := 35) dX6_stepNumber_35 me_X6_isFigure ml_X6_124 des_X6_isFigure rfl ⟨rfl, rfl, rfl, rfl⟩ rfl rfl (c_X6_isFigure X r4 h3 h) (fun r7 σ8 h6 h => ?_)
      refine ok_if_eq (tgt := 93) (pc := 38) dX6_stepNumber_38 rfl h6 (fun q9 => ?_) (fun q9 => ?_)
      · have h := iteT h q9
        exact w_X6_stepNumber_93 X   h
      · have h := iteF h q9
        refine ok_aload_n 0 (pc := 41) dX6_stepNumber_41 rfl rfl ?_
        refine ok_wf (fun hw10 => ?_)
        refine ok_getI (pc := 42) dX6_stepNumber_42 fl_X6_29 sh_8 (Nat.le_of_ble_eq_true rfl) rfl rfl ?_
        refine ok_aload_n 0 (pc := 45) dX6_stepNumber_45 rfl rfl ?_
        refine ok_getI (pc := 46) dX6_stepNumber_46 fl_X6_83 sh_8 (Nat.le_of_ble_eq_true rfl) rfl rfl ?_
        refine ok_isub (pc := 49) dX6_stepNumber_49 ?_
        refine ok_iconst (pc := 50) dX6_stepNumber_50 ?_
        obtain ⟨h11, h⟩ := h
        refine ok_icmp_ge (tgt := 80) (pc := 51) dX6_stepNumber_51 rfl h11 (r_lit rfl) (fun q12 => ?_) (fun q12 => ?_)
        · have h := iteF h q12
          exact w_X6_stepNumber_80 X   (fun  σ_  h_ => ih  σ_  h_) h
        · have h := iteT h q12
          refine ok_aload_n 0 (pc := 54) dX6_stepNumber_54 rfl rfl ?_
          refine ok_aload_n 0 (pc := 55) dX6_stepNumber_55 rfl rfl ?_
          refine ok_getI (pc := 56) dX6_stepNumber_56 fl_X6_96 sh_8 (Nat.le_of_ble_eq_true rfl) rfl rfl ?_
          refine ok_bipush (pc := 59) dX6_stepNumber_59 rfl ?_
          refine ok_imul (pc := 61) dX6_stepNumber_61 ?_
          refine ok_aload_n 0 (pc := 62) dX6_stepNumber_62 rfl rfl ?_
          refine ok_getR (pc := 63) dX6_stepNumber_63 fl_X6_18 sh_8 (Nat.le_of_ble_eq_true rfl) rfl rfl ?_
          refine ok_aload_n 0 (pc := 66) dX6_stepNumber_66 rfl rfl ?_
          refine ok_getI (pc := 67) dX6_stepNumber_67 fl_X6_29 sh_8 (Nat.le_of_ble_eq_true rfl) rfl rfl ?_
          refine ok_callVi (As := [vI (σ8 8 4)]) (rest := [vI ((σ8 8 6) * 10), .ref (xad X 8)]) (rm := rm_X9_signAt) (pc := 70) dX6_stepNumber_70 me_X9_signAt ml_X6_86 (ci := 9) rfl sh_1 (Nat.le_of_ble_eq_true rfl) rfl des_X9_signAt rfl ⟨rfl, rfl, rfl, rfl⟩ rfl rfl (c_X9_signAt X (σ8 8 4) (hw10 _ _) h) (fun r14 σ15 h13 h => ?_)
          refine ok_iadd (pc := 73) dX6_stepNumber_73 ?_
          refine ok_bipush (pc := 74) dX6_stepNumber_74 rfl ?_
          refine ok_isub (pc := 76) dX6_stepNumber_76 ?_
          obtain ⟨h16, h⟩ := h
          refine ok_putI (pc := 77) dX6_stepNumber_77 fl_X6_96 fp_X6_6 sh_8 (Nat.le_of_ble_eq_true rfl) rfl rfl h16 rfl rfl ?_
          exact w_X6_stepNumber_80 X   (fun  σ_  h_ => ih  σ_  h_) h
set_option maxRecDepth 100000 in
set_option maxHeartbeats 4000000 in
theorem c_X6_stepNumber (X : XE) {σ : Mem} {Q : Int → Mem → Prop} (h : v_X6_stepNumber σ Q) : CT X yX6_stepNumber cX6_stepNumber 1 none rm_X6_stepNumber 0 [.ref (xad X 8)] σ Q := by
  refine ct_of (own := RX6) (L := [(0, .ref (xad X 8))]) rfl rfl (Nat.le_of_ble_eq_true rfl) rfl ?_
  refine ok_aload_n 0 (pc := 0) dX6_stepNumber_0 rfl rfl ?_
  refine ok_iconst (pc := 1) dX6_stepNumber_1 ?_
  refine ok_putI (pc := 2) dX6_stepNumber_2 fl_X6_35 fp_X6_5 sh_8 (Nat.le_of_ble_eq_true rfl) rfl rfl (r_lit rfl) rfl rfl ?_
  refine ok_aload_n 0 (pc := 5) dX6_stepNumber_5 rfl rfl ?_
  refine ok_iconst (pc := 6) dX6_stepNumber_6 ?_
  refine ok_putI (pc := 7) dX6_stepNumber_7 fl_X6_96 fp_X6_6 sh_8 (Nat.le_of_ble_eq_true rfl) rfl rfl (r_lit rfl) rfl rfl ?_
  obtain ⟨n1, h⟩ := h
  exact w_X6_stepNumber_10 X n1  (mset (mset σ 8 5 2) 8 6 0)  h
theorem dX6_stepName_0 : decode cX6_stepName 0 = .ok (.aload_n 0, 1) := by decide +kernel
theorem dX6_stepName_1 : decode cX6_stepName 1 = .ok (.iconst 1, 1) := by decide +kernel
theorem dX6_stepName_2 : decode cX6_stepName 2 = .ok (.putfield 35, 3) := by decide +kernel
theorem dX6_stepName_5 : decode cX6_stepName 5 = .ok (.aload_n 0, 1) := by decide +kernel
theorem dX6_stepName_6 : decode cX6_stepName 6 = .ok (.getfield 29, 3) := by decide +kernel
theorem dX6_stepName_9 : decode cX6_stepName 9 = .ok (.aload_n 0, 1) := by decide +kernel
theorem dX6_stepName_10 : decode cX6_stepName 10 = .ok (.getfield 18, 3) := by decide +kernel
theorem dX6_stepName_13 : decode cX6_stepName 13 = .ok (.getfield 116, 3) := by decide +kernel
theorem dX6_stepName_16 : decode cX6_stepName 16 = .ok (.if_icmp .ge 33, 3) := by decide +kernel
theorem dX6_stepName_19 : decode cX6_stepName 19 = .ok (.aload_n 0, 1) := by decide +kernel
theorem dX6_stepName_20 : decode cX6_stepName 20 = .ok (.getfield 18, 3) := by decide +kernel
theorem dX6_stepName_23 : decode cX6_stepName 23 = .ok (.aload_n 0, 1) := by decide +kernel
theorem dX6_stepName_24 : decode cX6_stepName 24 = .ok (.getfield 29, 3) := by decide +kernel
theorem dX6_stepName_27 : decode cX6_stepName 27 = .ok (.invokevirtual 86, 3) := by decide +kernel
theorem dX6_stepName_30 : decode cX6_stepName 30 = .ok (.invokestatic 118, 3) := by decide +kernel
theorem dX6_stepName_33 : decode cX6_stepName 33 = .ok (.ifCond .eq 16, 3) := by decide +kernel
theorem dX6_stepName_36 : decode cX6_stepName 36 = .ok (.aload_n 0, 1) := by decide +kernel
theorem dX6_stepName_37 : decode cX6_stepName 37 = .ok (.dup, 1) := by decide +kernel
theorem dX6_stepName_38 : decode cX6_stepName 38 = .ok (.getfield 29, 3) := by decide +kernel
theorem dX6_stepName_41 : decode cX6_stepName 41 = .ok (.iconst 1, 1) := by decide +kernel
theorem dX6_stepName_42 : decode cX6_stepName 42 = .ok (.iadd, 1) := by decide +kernel
theorem dX6_stepName_43 : decode cX6_stepName 43 = .ok (.putfield 29, 3) := by decide +kernel
theorem dX6_stepName_46 : decode cX6_stepName 46 = .ok (.goto (-41), 3) := by decide +kernel
theorem dX6_stepName_49 : decode cX6_stepName 49 = .ok (.return_, 1) := by decide +kernel
set_option maxRecDepth 100000 in
set_option maxHeartbeats 4000000 in
theorem w_X6_stepName_5 (X : XE) {Q : Int → Mem → Prop} : ∀ (n : Nat) (σ : Mem), l_X6_stepName_5 Q n σ → ok X rm_X6_stepName RX6 cX6_stepName 1 none 0 Q 5 [(0, .ref (xad X 8))] [] σ := by
  intro n
  induction n with
  | zero => intro σ h; exact False.elim h
  | succ n ih =>
    intro σ h
    refine ok_aload_n 0 (pc := 5) dX6_stepName_5 rfl rfl ?_
    refine ok_wf (fun hw1 => ?_)
    refine ok_getI (pc := 6) dX6_stepName_6 fl_X6_29 sh_8 (Nat.le_of_ble_eq_true rfl) rfl rfl ?_
    refine ok_aload_n 0 (pc := 9) dX6_stepName_9 rfl rfl ?_
    refine ok_getR (pc := 10) dX6_stepName_10 fl_X6_18 sh_8 (Nat.le_of_ble_eq_true rfl) rfl rfl ?_
    refine ok_getI (pc := 13) dX6_stepName_13 fl_X6_116 sh_1 (Nat.le_of_ble_eq_true rfl) rfl rfl ?_
    refine ok_icmp_ge (tgt := 49) (pc := 16) dX6_stepName_16 rfl (hw1 _ _) (hw1 _ _) (fun q2 => ?_) (fun q2 => ?_)
    · have h := iteF h q2
      exact ok_vret (pc := 49) dX6_stepName_49 rfl rfl h
    · have h := iteT h q2
      refine ok_aload_n 0 (pc := 19) dX6_stepName_19 rfl rfl ?_
      refine ok_getR (pc := 20) dX6_stepName_20 fl_X6_18 sh_8 (Nat.le_of_ble_eq_true rfl) rfl rfl ?_
      refine ok_aload_n 0 (pc := 23) dX6_stepName_23 rfl rfl ?_
      refine ok_getI (pc := 24) dX6_stepName_24 fl_X6_29 sh_8 (Nat.le_of_ble_eq_true rfl) rfl rfl ?_
      refine ok_callVi (As := [vI (σ 8 4)]) (rest := []) (rm := rm_X9_signAt) (pc := 27) dX6_stepName_27 me_X9_signAt ml_X6_86 (ci := 9) rfl sh_1 (Nat.le_of_ble_eq_true rfl) rfl des_X9_signAt rfl ⟨rfl, rfl, rfl, rfl⟩ rfl rfl (c_X9_signAt X (σ 8 4) (hw1 _ _) h) (fun r4 σ5 h3 h => ?_)
      refine ok_callSi (As := [vI r4]) (rest := []) (rm := rm_X6_isLow) (pc := 30) dX6_stepName_30 me_X6_isLow ml_X6_118 des_X6_isLow rfl ⟨rfl, rfl, rfl, rfl⟩ rfl rfl (c_X6_isLow X r4 h3 h) (fun r7 σ8 h6 h => ?_)
      refine ok_if_eq (tgt := 49) (pc := 33) dX6_stepName_33 rfl h6 (fun q9 => ?_) (fun q9 => ?_)
      · have h := iteT h q9
        exact ok_vret (pc := 49) dX6_stepName_49 rfl rfl h
      · have h := iteF h q9
        refine ok_aload_n 0 (pc := 36) dX6_stepName_36 rfl rfl ?_
        refine ok_dup (pc := 37) dX6_stepName_37 rfl ?_
        refine ok_wf (fun hw10 => ?_)
        refine ok_getI (pc := 38) dX6_stepName_38 fl_X6_29 sh_8 (Nat.le_of_ble_eq_true rfl) rfl rfl ?_
        refine ok_iconst (pc := 41) dX6_stepName_41 ?_
        refine ok_iadd (pc := 42) dX6_stepName_42 ?_
        obtain ⟨h11, h⟩ := h
        refine ok_putI (pc := 43) dX6_stepName_43 fl_X6_29 fp_X6_4 sh_8 (Nat.le_of_ble_eq_true rfl) rfl rfl h11 rfl rfl ?_
        refine ok_goto (tgt := 5) (pc := 46) dX6_stepName_46 rfl ?_
        exact ih  (mset σ8 8 4 ((σ8 8 4) + 1))  h
set_option maxRecDepth 100000 in
set_option maxHeartbeats 4000000 in
theorem c_X6_stepName (X : XE) {σ : Mem} {Q : Int → Mem → Prop} (h : v_X6_stepName σ Q) : CT X yX6_stepName cX6_stepName 1 none rm_X6_stepName 0 [.ref (xad X 8)] σ Q := by
  refine ct_of (own := RX6) (L := [(0, .ref (xad X 8))]) rfl rfl (Nat.le_of_ble_eq_true rfl) rfl ?_
  refine ok_aload_n 0 (pc := 0) dX6_stepName_0 rfl rfl ?_
  refine ok_iconst (pc := 1) dX6_stepName_1 ?_
  refine ok_putI (pc := 2) dX6_stepName_2 fl_X6_35 fp_X6_5 sh_8 (Nat.le_of_ble_eq_true rfl) rfl rfl (r_lit rfl) rfl rfl ?_
  obtain ⟨n1, h⟩ := h
  exact w_X6_stepName_5 X n1  (mset σ 8 5 1)  h
theorem dX6_step_0 : decode cX6_step 0 = .ok (.aload_n 0, 1) := by decide +kernel
theorem dX6_step_1 : decode cX6_step 1 = .ok (.getfield 26, 3) := by decide +kernel
theorem dX6_step_4 : decode cX6_step 4 = .ok (.ifCond .eq 4, 3) := by decide +kernel
theorem dX6_step_7 : decode cX6_step 7 = .ok (.return_, 1) := by decide +kernel
theorem dX6_step_8 : decode cX6_step 8 = .ok (.aload_n 0, 1) := by decide +kernel
theorem dX6_step_9 : decode cX6_step 9 = .ok (.aload_n 0, 1) := by decide +kernel
theorem dX6_step_10 : decode cX6_step 10 = .ok (.getfield 29, 3) := by decide +kernel
theorem dX6_step_13 : decode cX6_step 13 = .ok (.putfield 83, 3) := by decide +kernel
theorem dX6_step_16 : decode cX6_step 16 = .ok (.aload_n 0, 1) := by decide +kernel
theorem dX6_step_17 : decode cX6_step 17 = .ok (.getfield 83, 3) := by decide +kernel
theorem dX6_step_20 : decode cX6_step 20 = .ok (.aload_n 0, 1) := by decide +kernel
theorem dX6_step_21 : decode cX6_step 21 = .ok (.getfield 18, 3) := by decide +kernel
theorem dX6_step_24 : decode cX6_step 24 = .ok (.getfield 116, 3) := by decide +kernel
theorem dX6_step_27 : decode cX6_step 27 = .ok (.if_icmp .ge 32, 3) := by decide +kernel
theorem dX6_step_30 : decode cX6_step 30 = .ok (.aload_n 0, 1) := by decide +kernel
theorem dX6_step_31 : decode cX6_step 31 = .ok (.getfield 18, 3) := by decide +kernel
theorem dX6_step_34 : decode cX6_step 34 = .ok (.aload_n 0, 1) := by decide +kernel
theorem dX6_step_35 : decode cX6_step 35 = .ok (.getfield 83, 3) := by decide +kernel
theorem dX6_step_38 : decode cX6_step 38 = .ok (.invokevirtual 86, 3) := by decide +kernel
theorem dX6_step_41 : decode cX6_step 41 = .ok (.bipush 32, 2) := by decide +kernel
theorem dX6_step_43 : decode cX6_step 43 = .ok (.if_icmp .ne 16, 3) := by decide +kernel
theorem dX6_step_46 : decode cX6_step 46 = .ok (.aload_n 0, 1) := by decide +kernel
theorem dX6_step_47 : decode cX6_step 47 = .ok (.dup, 1) := by decide +kernel
theorem dX6_step_48 : decode cX6_step 48 = .ok (.getfield 83, 3) := by decide +kernel
theorem dX6_step_51 : decode cX6_step 51 = .ok (.iconst 1, 1) := by decide +kernel
theorem dX6_step_52 : decode cX6_step 52 = .ok (.iadd, 1) := by decide +kernel
theorem dX6_step_53 : decode cX6_step 53 = .ok (.putfield 83, 3) := by decide +kernel
theorem dX6_step_56 : decode cX6_step 56 = .ok (.goto (-40), 3) := by decide +kernel
theorem dX6_step_59 : decode cX6_step 59 = .ok (.aload_n 0, 1) := by decide +kernel
theorem dX6_step_60 : decode cX6_step 60 = .ok (.aload_n 0, 1) := by decide +kernel
theorem dX6_step_61 : decode cX6_step 61 = .ok (.getfield 83, 3) := by decide +kernel
theorem dX6_step_64 : decode cX6_step 64 = .ok (.putfield 29, 3) := by decide +kernel
theorem dX6_step_67 : decode cX6_step 67 = .ok (.aload_n 0, 1) := by decide +kernel
theorem dX6_step_68 : decode cX6_step 68 = .ok (.getfield 18, 3) := by decide +kernel
theorem dX6_step_71 : decode cX6_step 71 = .ok (.aload_n 0, 1) := by decide +kernel
theorem dX6_step_72 : decode cX6_step 72 = .ok (.getfield 83, 3) := by decide +kernel
theorem dX6_step_75 : decode cX6_step 75 = .ok (.invokevirtual 86, 3) := by decide +kernel
theorem dX6_step_78 : decode cX6_step 78 = .ok (.istore_n 1, 1) := by decide +kernel
theorem dX6_step_79 : decode cX6_step 79 = .ok (.iload_n 1, 1) := by decide +kernel
theorem dX6_step_80 : decode cX6_step 80 = .ok (.ifCond .ge 11, 3) := by decide +kernel
theorem dX6_step_83 : decode cX6_step 83 = .ok (.aload_n 0, 1) := by decide +kernel
theorem dX6_step_84 : decode cX6_step 84 = .ok (.iconst 0, 1) := by decide +kernel
theorem dX6_step_85 : decode cX6_step 85 = .ok (.putfield 35, 3) := by decide +kernel
theorem dX6_step_88 : decode cX6_step 88 = .ok (.goto 65, 3) := by decide +kernel
theorem dX6_step_91 : decode cX6_step 91 = .ok (.iload_n 1, 1) := by decide +kernel
theorem dX6_step_92 : decode cX6_step 92 = .ok (.invokestatic 118, 3) := by decide +kernel
theorem dX6_step_95 : decode cX6_step 95 = .ok (.ifCond .eq 10, 3) := by decide +kernel
theorem dX6_step_98 : decode cX6_step 98 = .ok (.aload_n 0, 1) := by decide +kernel
theorem dX6_step_99 : decode cX6_step 99 = .ok (.invokevirtual 121, 3) := by decide +kernel
theorem dX6_step_102 : decode cX6_step 102 = .ok (.goto 51, 3) := by decide +kernel
theorem dX6_step_105 : decode cX6_step 105 = .ok (.iload_n 1, 1) := by decide +kernel
theorem dX6_step_106 : decode cX6_step 106 = .ok (.invokestatic 124, 3) := by decide +kernel
theorem dX6_step_109 : decode cX6_step 109 = .ok (.ifCond .eq 10, 3) := by decide +kernel
theorem dX6_step_112 : decode cX6_step 112 = .ok (.aload_n 0, 1) := by decide +kernel
theorem dX6_step_113 : decode cX6_step 113 = .ok (.invokevirtual 127, 3) := by decide +kernel
theorem dX6_step_116 : decode cX6_step 116 = .ok (.goto 37, 3) := by decide +kernel
theorem dX6_step_119 : decode cX6_step 119 = .ok (.iload_n 1, 1) := by decide +kernel
theorem dX6_step_120 : decode cX6_step 120 = .ok (.bipush 59, 2) := by decide +kernel
theorem dX6_step_122 : decode cX6_step 122 = .ok (.if_icmp .ne 21, 3) := by decide +kernel
theorem dX6_step_125 : decode cX6_step 125 = .ok (.aload_n 0, 1) := by decide +kernel
theorem dX6_step_126 : decode cX6_step 126 = .ok (.iconst 3, 1) := by decide +kernel
theorem dX6_step_127 : decode cX6_step 127 = .ok (.putfield 35, 3) := by decide +kernel
theorem dX6_step_130 : decode cX6_step 130 = .ok (.aload_n 0, 1) := by decide +kernel
theorem dX6_step_131 : decode cX6_step 131 = .ok (.dup, 1) := by decide +kernel
theorem dX6_step_132 : decode cX6_step 132 = .ok (.getfield 29, 3) := by decide +kernel
theorem dX6_step_135 : decode cX6_step 135 = .ok (.iconst 1, 1) := by decide +kernel
theorem dX6_step_136 : decode cX6_step 136 = .ok (.iadd, 1) := by decide +kernel
theorem dX6_step_137 : decode cX6_step 137 = .ok (.putfield 29, 3) := by decide +kernel
theorem dX6_step_140 : decode cX6_step 140 = .ok (.goto 13, 3) := by decide +kernel
theorem dX6_step_143 : decode cX6_step 143 = .ok (.aload_n 0, 1) := by decide +kernel
theorem dX6_step_144 : decode cX6_step 144 = .ok (.iconst 4, 1) := by decide +kernel
theorem dX6_step_145 : decode cX6_step 145 = .ok (.putfield 35, 3) := by decide +kernel
theorem dX6_step_148 : decode cX6_step 148 = .ok (.aload_n 0, 1) := by decide +kernel
theorem dX6_step_149 : decode cX6_step 149 = .ok (.iconst 1, 1) := by decide +kernel
theorem dX6_step_150 : decode cX6_step 150 = .ok (.invokevirtual 48, 3) := by decide +kernel
theorem dX6_step_153 : decode cX6_step 153 = .ok (.return_, 1) := by decide +kernel
set_option maxRecDepth 100000 in
set_option maxHeartbeats 4000000 in
theorem w_X6_step_59 (X : XE) {Q : Int → Mem → Prop} {σ : Mem} (h : j_X6_step_59 Q σ) : ok X rm_X6_step RX6 cX6_step 2 none 0 Q 59 [(0, .ref (xad X 8))] [] σ := by
  refine ok_aload_n 0 (pc := 59) dX6_step_59 rfl rfl ?_
  refine ok_aload_n 0 (pc := 60) dX6_step_60 rfl rfl ?_
  refine ok_wf (fun hw1 => ?_)
  refine ok_getI (pc := 61) dX6_step_61 fl_X6_83 sh_8 (Nat.le_of_ble_eq_true rfl) rfl rfl ?_
  refine ok_putI (pc := 64) dX6_step_64 fl_X6_29 fp_X6_4 sh_8 (Nat.le_of_ble_eq_true rfl) rfl rfl (hw1 _ _) rfl rfl ?_
  refine ok_aload_n 0 (pc := 67) dX6_step_67 rfl rfl ?_
  refine ok_getR (pc := 68) dX6_step_68 fl_X6_18 sh_8 (Nat.le_of_ble_eq_true rfl) rfl rfl ?_
  refine ok_aload_n 0 (pc := 71) dX6_step_71 rfl rfl ?_
  refine ok_wf (fun hw2 => ?_)
  refine ok_getI (pc := 72) dX6_step_72 fl_X6_83 sh_8 (Nat.le_of_ble_eq_true rfl) rfl rfl ?_
  have e3 : ((mset σ 8 4 (σ 8 3)) 8 3) = (σ 8 3) := (mset_nei (by omega))
  refine ok_top e3 ?_
  refine ok_callVi (As := [vI (σ 8 3)]) (rest := []) (rm := rm_X9_signAt) (pc := 75) dX6_step_75 me_X9_signAt ml_X6_86 (ci := 9) rfl sh_1 (Nat.le_of_ble_eq_true rfl) rfl des_X9_signAt rfl ⟨rfl, rfl, rfl, rfl⟩ rfl rfl (c_X9_signAt X (σ 8 3) (e3 ▸ hw2 _ _) h) (fun r6 σ7 h5 h => ?_)
  refine ok_istore_n (L' := [(1, vI r6), (0, .ref (xad X 8))]) (pc := 78) dX6_step_78 rfl rfl rfl ?_
  refine ok_iload_n 0 (pc := 79) dX6_step_79 rfl rfl ?_
  refine ok_if_ge (tgt := 91) (pc := 80) dX6_step_80 rfl h5 (fun q8 => ?_) (fun q8 => ?_)
  · have h := iteF h q8
    refine ok_iload_n 0 (pc := 91) dX6_step_91 rfl rfl ?_
    refine ok_callSi (As := [vI r6]) (rest := []) (rm := rm_X6_isLow) (pc := 92) dX6_step_92 me_X6_isLow ml_X6_118 des_X6_isLow rfl ⟨rfl, rfl, rfl, rfl⟩ rfl rfl (c_X6_isLow X r6 h5 h) (fun r10 σ11 h9 h => ?_)
    refine ok_if_eq (tgt := 105) (pc := 95) dX6_step_95 rfl h9 (fun q12 => ?_) (fun q12 => ?_)
    · have h := iteT h q12
      refine ok_iload_n 0 (pc := 105) dX6_step_105 rfl rfl ?_
      refine ok_callSi (As := [vI r6]) (rest := []) (rm := rm_X6_isFigure) (pc := 106) dX6_step_106 me_X6_isFigure ml_X6_124 des_X6_isFigure rfl ⟨rfl, rfl, rfl, rfl⟩ rfl rfl (c_X6_isFigure X r6 h5 h) (fun r14 σ15 h13 h => ?_)
      refine ok_if_eq (tgt := 119) (pc := 109) dX6_step_109 rfl h13 (fun q16 => ?_) (fun q16 => ?_)
      · have h := iteT h q16
        refine ok_iload_n 0 (pc := 119) dX6_step_119 rfl rfl ?_
        refine ok_bipush (pc := 120) dX6_step_120 rfl ?_
        refine ok_icmp_ne (tgt := 143) (pc := 122) dX6_step_122 rfl h5 (r_lit rfl) (fun q17 => ?_) (fun q17 => ?_)
        · have h := iteF h q17
          refine ok_aload_n 1 (pc := 143) dX6_step_143 rfl rfl ?_
          refine ok_iconst (pc := 144) dX6_step_144 ?_
          refine ok_putI (pc := 145) dX6_step_145 fl_X6_35 fp_X6_5 sh_8 (Nat.le_of_ble_eq_true rfl) rfl rfl (r_lit rfl) rfl rfl ?_
          refine ok_aload_n 1 (pc := 148) dX6_step_148 rfl rfl ?_
          refine ok_iconst (pc := 149) dX6_step_149 ?_
          refine ok_callVv (As := [vI 1]) (rest := []) (rm := rm_X6_fail) (pc := 150) dX6_step_150 me_X6_fail ml_X6_48 (ci := 6) rfl sh_8 (Nat.le_of_ble_eq_true rfl) rfl des_X6_fail rfl ⟨rfl, rfl, rfl, rfl⟩ rfl rfl (c_X6_fail X 1 (r_lit rfl) h) (fun σ20 h => ?_)
          exact ok_vret (pc := 153) dX6_step_153 rfl rfl h
        · have h := iteT h q17
          refine ok_aload_n 1 (pc := 125) dX6_step_125 rfl rfl ?_
          refine ok_iconst (pc := 126) dX6_step_126 ?_
          refine ok_putI (pc := 127) dX6_step_127 fl_X6_35 fp_X6_5 sh_8 (Nat.le_of_ble_eq_true rfl) rfl rfl (r_lit rfl) rfl rfl ?_
          refine ok_aload_n 1 (pc := 130) dX6_step_130 rfl rfl ?_
          refine ok_dup (pc := 131) dX6_step_131 rfl ?_
          refine ok_wf (fun hw21 => ?_)
          refine ok_getI (pc := 132) dX6_step_132 fl_X6_29 sh_8 (Nat.le_of_ble_eq_true rfl) rfl rfl ?_
          have e22 : ((mset σ15 8 5 3) 8 4) = (σ15 8 4) := (mset_nei (by omega))
          refine ok_top e22 ?_
          refine ok_iconst (pc := 135) dX6_step_135 ?_
          refine ok_iadd (pc := 136) dX6_step_136 ?_
          obtain ⟨h24, h⟩ := h
          refine ok_putI (pc := 137) dX6_step_137 fl_X6_29 fp_X6_4 sh_8 (Nat.le_of_ble_eq_true rfl) rfl rfl h24 rfl rfl ?_
          refine ok_goto (tgt := 153) (pc := 140) dX6_step_140 rfl ?_
          exact ok_vret (pc := 153) dX6_step_153 rfl rfl h
      · have h := iteF h q16
        refine ok_aload_n 1 (pc := 112) dX6_step_112 rfl rfl ?_
        refine ok_callVv (As := []) (rest := []) (rm := rm_X6_stepNumber) (pc := 113) dX6_step_113 me_X6_stepNumber ml_X6_127 (ci := 6) rfl sh_8 (Nat.le_of_ble_eq_true rfl) rfl des_X6_stepNumber rfl ⟨rfl, rfl, rfl, rfl⟩ rfl rfl (c_X6_stepNumber X h) (fun σ27 h => ?_)
        refine ok_goto (tgt := 153) (pc := 116) dX6_step_116 rfl ?_
        exact ok_vret (pc := 153) dX6_step_153 rfl rfl h
    · have h := iteF h q12
      refine ok_aload_n 1 (pc := 98) dX6_step_98 rfl rfl ?_
      refine ok_callVv (As := []) (rest := []) (rm := rm_X6_stepName) (pc := 99) dX6_step_99 me_X6_stepName ml_X6_121 (ci := 6) rfl sh_8 (Nat.le_of_ble_eq_true rfl) rfl des_X6_stepName rfl ⟨rfl, rfl, rfl, rfl⟩ rfl rfl (c_X6_stepName X h) (fun σ30 h => ?_)
      refine ok_goto (tgt := 153) (pc := 102) dX6_step_102 rfl ?_
      exact ok_vret (pc := 153) dX6_step_153 rfl rfl h
  · have h := iteT h q8
    refine ok_aload_n 1 (pc := 83) dX6_step_83 rfl rfl ?_
    refine ok_iconst (pc := 84) dX6_step_84 ?_
    refine ok_putI (pc := 85) dX6_step_85 fl_X6_35 fp_X6_5 sh_8 (Nat.le_of_ble_eq_true rfl) rfl rfl (r_lit rfl) rfl rfl ?_
    refine ok_goto (tgt := 153) (pc := 88) dX6_step_88 rfl ?_
    exact ok_vret (pc := 153) dX6_step_153 rfl rfl h
set_option maxRecDepth 100000 in
set_option maxHeartbeats 4000000 in
theorem w_X6_step_16 (X : XE) {Q : Int → Mem → Prop} : ∀ (n : Nat) (σ : Mem), l_X6_step_16 Q n σ → ok X rm_X6_step RX6 cX6_step 2 none 0 Q 16 [(0, .ref (xad X 8))] [] σ := by
  intro n
  induction n with
  | zero => intro σ h; exact False.elim h
  | succ n ih =>
    intro σ h
    refine ok_aload_n 0 (pc := 16) dX6_step_16 rfl rfl ?_
    refine ok_wf (fun hw1 => ?_)
    refine ok_getI (pc := 17) dX6_step_17 fl_X6_83 sh_8 (Nat.le_of_ble_eq_true rfl) rfl rfl ?_
    refine ok_aload_n 0 (pc := 20) dX6_step_20 rfl rfl ?_
    refine ok_getR (pc := 21) dX6_step_21 fl_X6_18 sh_8 (Nat.le_of_ble_eq_true rfl) rfl rfl ?_
    refine ok_getI (pc := 24) dX6_step_24 fl_X6_116 sh_1 (Nat.le_of_ble_eq_true rfl) rfl rfl ?_
    refine ok_icmp_ge (tgt := 59) (pc := 27) dX6_step_27 rfl (hw1 _ _) (hw1 _ _) (fun q2 => ?_) (fun q2 => ?_)
    · have h := iteF h q2
      exact w_X6_step_59 X   h
    · have h := iteT h q2
      refine ok_aload_n 0 (pc := 30) dX6_step_30 rfl rfl ?_
      refine ok_getR (pc := 31) dX6_step_31 fl_X6_18 sh_8 (Nat.le_of_ble_eq_true rfl) rfl rfl ?_
      refine ok_aload_n 0 (pc := 34) dX6_step_34 rfl rfl ?_
      refine ok_getI (pc := 35) dX6_step_35 fl_X6_83 sh_8 (Nat.le_of_ble_eq_true rfl) rfl rfl ?_
      refine ok_callVi (As := [vI (σ 8 3)]) (rest := []) (rm := rm_X9_signAt) (pc := 38) dX6_step_38 me_X9_signAt ml_X6_86 (ci := 9) rfl sh_1 (Nat.le_of_ble_eq_true rfl) rfl des_X9_signAt rfl ⟨rfl, rfl, rfl, rfl⟩ rfl rfl (c_X9_signAt X (σ 8 3) (hw1 _ _) h) (fun r4 σ5 h3 h => ?_)
      refine ok_bipush (pc := 41) dX6_step_41 rfl ?_
      refine ok_icmp_ne (tgt := 59) (pc := 43) dX6_step_43 rfl h3 (r_lit rfl) (fun q6 => ?_) (fun q6 => ?_)
      · have h := iteF h q6
        exact w_X6_step_59 X   h
      · have h := iteT h q6
        refine ok_aload_n 0 (pc := 46) dX6_step_46 rfl rfl ?_
        refine ok_dup (pc := 47) dX6_step_47 rfl ?_
        refine ok_wf (fun hw7 => ?_)
        refine ok_getI (pc := 48) dX6_step_48 fl_X6_83 sh_8 (Nat.le_of_ble_eq_true rfl) rfl rfl ?_
        refine ok_iconst (pc := 51) dX6_step_51 ?_
        refine ok_iadd (pc := 52) dX6_step_52 ?_
        obtain ⟨h8, h⟩ := h
        refine ok_putI (pc := 53) dX6_step_53 fl_X6_83 fp_X6_3 sh_8 (Nat.le_of_ble_eq_true rfl) rfl rfl h8 rfl rfl ?_
        refine ok_goto (tgt := 16) (pc := 56) dX6_step_56 rfl ?_
        exact ih  (mset σ5 8 3 ((σ5 8 3) + 1))  h
set_option maxRecDepth 100000 in
set_option maxHeartbeats 4000000 in
theorem c_X6_step (X : XE) {σ : Mem} {Q : Int → Mem → Prop} (h : v_X6_step σ Q) : CT X yX6_step cX6_step 2 none rm_X6_step 0 [.ref (xad X 8)] σ Q := by
  refine ct_of (own := RX6) (L := [(0, .ref (xad X 8))]) rfl rfl (Nat.le_of_ble_eq_true rfl) rfl ?_
  refine ok_aload_n 0 (pc := 0) dX6_step_0 rfl rfl ?_
  refine ok_wf (fun hw1 => ?_)
  refine ok_getI (pc := 1) dX6_step_1 fl_X6_26 sh_8 (Nat.le_of_ble_eq_true rfl) rfl rfl ?_
  refine ok_if_eq (tgt := 8) (pc := 4) dX6_step_4 rfl (hw1 _ _) (fun q2 => ?_) (fun q2 => ?_)
  · have h := iteT h q2
    refine ok_aload_n 0 (pc := 8) dX6_step_8 rfl rfl ?_
    refine ok_aload_n 0 (pc := 9) dX6_step_9 rfl rfl ?_
    refine ok_getI (pc := 10) dX6_step_10 fl_X6_29 sh_8 (Nat.le_of_ble_eq_true rfl) rfl rfl ?_
    refine ok_putI (pc := 13) dX6_step_13 fl_X6_83 fp_X6_3 sh_8 (Nat.le_of_ble_eq_true rfl) rfl rfl (hw1 _ _) rfl rfl ?_
    obtain ⟨n3, h⟩ := h
    exact w_X6_step_16 X n3  (mset σ 8 3 (σ 8 4))  h
  · have h := iteF h q2
    exact ok_vret (pc := 7) dX6_step_7 rfl rfl h
theorem dX6_isName_0 : decode cX6_isName 0 = .ok (.aload_n 0, 1) := by decide +kernel
theorem dX6_isName_1 : decode cX6_isName 1 = .ok (.getfield 35, 3) := by decide +kernel
theorem dX6_isName_4 : decode cX6_isName 4 = .ok (.iconst 1, 1) := by decide +kernel
theorem dX6_isName_5 : decode cX6_isName 5 = .ok (.if_icmp .ne 19, 3) := by decide +kernel
theorem dX6_isName_8 : decode cX6_isName 8 = .ok (.aload_n 0, 1) := by decide +kernel
theorem dX6_isName_9 : decode cX6_isName 9 = .ok (.getfield 29, 3) := by decide +kernel
theorem dX6_isName_12 : decode cX6_isName 12 = .ok (.aload_n 0, 1) := by decide +kernel
theorem dX6_isName_13 : decode cX6_isName 13 = .ok (.getfield 83, 3) := by decide +kernel
theorem dX6_isName_16 : decode cX6_isName 16 = .ok (.isub, 1) := by decide +kernel
theorem dX6_isName_17 : decode cX6_isName 17 = .ok (.aload_n 1, 1) := by decide +kernel
theorem dX6_isName_18 : decode cX6_isName 18 = .ok (.invokevirtual 106, 3) := by decide +kernel
theorem dX6_isName_21 : decode cX6_isName 21 = .ok (.if_icmp .eq 5, 3) := by decide +kernel
theorem dX6_isName_24 : decode cX6_isName 24 = .ok (.iconst 0, 1) := by decide +kernel
theorem dX6_isName_25 : decode cX6_isName 25 = .ok (.ireturn, 1) := by decide +kernel
theorem dX6_isName_26 : decode cX6_isName 26 = .ok (.iconst 0, 1) := by decide +kernel
theorem dX6_isName_27 : decode cX6_isName 27 = .ok (.istore_n 2, 1) := by decide +kernel
theorem dX6_isName_28 : decode cX6_isName 28 = .ok (.iload_n 2, 1) := by decide +kernel
theorem dX6_isName_29 : decode cX6_isName 29 = .ok (.aload_n 1, 1) := by decide +kernel
theorem dX6_isName_30 : decode cX6_isName 30 = .ok (.invokevirtual 106, 3) := by decide +kernel
theorem dX6_isName_33 : decode cX6_isName 33 = .ok (.if_icmp .ge 32, 3) := by decide +kernel
theorem dX6_isName_36 : decode cX6_isName 36 = .ok (.aload_n 0, 1) := by decide +kernel
theorem dX6_isName_37 : decode cX6_isName 37 = .ok (.getfield 18, 3) := by decide +kernel
theorem dX6_isName_40 : decode cX6_isName 40 = .ok (.aload_n 0, 1) := by decide +kernel
theorem dX6_isName_41 : decode cX6_isName 41 = .ok (.getfield 83, 3) := by decide +kernel
theorem dX6_isName_44 : decode cX6_isName 44 = .ok (.iload_n 2, 1) := by decide +kernel
theorem dX6_isName_45 : decode cX6_isName 45 = .ok (.iadd, 1) := by decide +kernel
theorem dX6_isName_46 : decode cX6_isName 46 = .ok (.invokevirtual 86, 3) := by decide +kernel
theorem dX6_isName_49 : decode cX6_isName 49 = .ok (.aload_n 1, 1) := by decide +kernel
theorem dX6_isName_50 : decode cX6_isName 50 = .ok (.iload_n 2, 1) := by decide +kernel
theorem dX6_isName_51 : decode cX6_isName 51 = .ok (.invokevirtual 112, 3) := by decide +kernel
theorem dX6_isName_54 : decode cX6_isName 54 = .ok (.if_icmp .eq 5, 3) := by decide +kernel
theorem dX6_isName_57 : decode cX6_isName 57 = .ok (.iconst 0, 1) := by decide +kernel
theorem dX6_isName_58 : decode cX6_isName 58 = .ok (.ireturn, 1) := by decide +kernel
theorem dX6_isName_59 : decode cX6_isName 59 = .ok (.iinc 2 1, 3) := by decide +kernel
theorem dX6_isName_62 : decode cX6_isName 62 = .ok (.goto (-34), 3) := by decide +kernel
theorem dX6_isName_65 : decode cX6_isName 65 = .ok (.iconst 1, 1) := by decide +kernel
theorem dX6_isName_66 : decode cX6_isName 66 = .ok (.ireturn, 1) := by decide +kernel
set_option maxRecDepth 100000 in
set_option maxHeartbeats 4000000 in
theorem w_X6_isName_28 (X : XE) (c1 : Nat) (hc1 : c1 < 6) {Q : Int → Mem → Prop} : ∀ (n : Nat) (x2 : Int) (σ : Mem), inR x2 → l_X6_isName_28 c1 Q n x2 σ → ok X rm_X6_isName RX6 cX6_isName 3 (some .boolean) 1 Q 28 [(0, .ref (xad X 8)), (1, .ref (X.2.2.2.1 c1)), (2, vI x2)] [] σ := by
  intro n
  induction n with
  | zero => intro x2 σ hx2 h; exact False.elim h
  | succ n ih =>
    intro x2 σ hx2 h
    refine ok_iload_n 2 (pc := 28) dX6_isName_28 rfl rfl ?_
    refine ok_aload_n 1 (pc := 29) dX6_isName_29 rfl rfl ?_
    refine ok_strlen (pc := 30) dX6_isName_30 ml_X6_106 hc1 rfl ?_
    refine ok_icmp_ge (tgt := 65) (pc := 33) dX6_isName_33 rfl hx2 (r_strL c1) (fun q1 => ?_) (fun q1 => ?_)
    · have h := iteF h q1
      refine ok_iconst (pc := 65) dX6_isName_65 ?_
      exact ok_iret (pc := 66) dX6_isName_66 rfl rfl (nr_z (Or.inr rfl)) (r_lit rfl) h
    · have h := iteT h q1
      refine ok_aload_n 0 (pc := 36) dX6_isName_36 rfl rfl ?_
      refine ok_getR (pc := 37) dX6_isName_37 fl_X6_18 sh_8 (Nat.le_of_ble_eq_true rfl) rfl rfl ?_
      refine ok_aload_n 0 (pc := 40) dX6_isName_40 rfl rfl ?_
      refine ok_wf (fun hw2 => ?_)
      refine ok_getI (pc := 41) dX6_isName_41 fl_X6_83 sh_8 (Nat.le_of_ble_eq_true rfl) rfl rfl ?_
      refine ok_iload_n 2 (pc := 44) dX6_isName_44 rfl rfl ?_
      refine ok_iadd (pc := 45) dX6_isName_45 ?_
      obtain ⟨h3, h⟩ := h
      refine ok_callVi (As := [vI ((σ 8 3) + x2)]) (rest := []) (rm := rm_X9_signAt) (pc := 46) dX6_isName_46 me_X9_signAt ml_X6_86 (ci := 9) rfl sh_1 (Nat.le_of_ble_eq_true rfl) rfl des_X9_signAt rfl ⟨rfl, rfl, rfl, rfl⟩ rfl rfl (c_X9_signAt X ((σ 8 3) + x2) h3 h) (fun r5 σ6 h4 h => ?_)
      refine ok_aload_n 1 (pc := 49) dX6_isName_49 rfl rfl ?_
      refine ok_iload_n 2 (pc := 50) dX6_isName_50 rfl rfl ?_
      obtain ⟨h7, h⟩ := h
      obtain ⟨h8, h⟩ := h
      refine ok_charAt (pc := 51) dX6_isName_51 ml_X6_112 hc1 h7 h8 rfl ?_
      refine ok_icmp_eq (tgt := 59) (pc := 54) dX6_isName_54 rfl h4 (r_strC c1 _) (fun q9 => ?_) (fun q9 => ?_)
      · have h := iteT h q9
        refine ok_iinc (L' := [(2, vI (x2 + 1)), (0, .ref (xad X 8)), (1, .ref (X.2.2.2.1 c1))]) 2 (pc := 59) dX6_isName_59 rfl rfl rfl ?_
        refine ok_goto (tgt := 28) (pc := 62) dX6_isName_62 rfl ?_
        obtain ⟨h10, h⟩ := h
        refine ok_sub (L' := [(0, .ref (xad X 8)), (1, .ref (X.2.2.2.1 c1)), (2, vI (x2 + 1))]) [1,2,0] rfl ?_
        exact ih (x2 + 1) σ6 h10 h
      · have h := iteF h q9
        refine ok_iconst (pc := 57) dX6_isName_57 ?_
        exact ok_iret (pc := 58) dX6_isName_58 rfl rfl (nr_z (Or.inl rfl)) (r_lit rfl) h
set_option maxRecDepth 100000 in
set_option maxHeartbeats 4000000 in
theorem c_X6_isName (X : XE) (c1 : Nat) (hc1 : c1 < 6) {σ : Mem} {Q : Int → Mem → Prop} (h : v_X6_isName c1 σ Q) : CT X yX6_isName cX6_isName 3 (some .boolean) rm_X6_isName 1 [.ref (xad X 8), .ref (X.2.2.2.1 c1)] σ Q := by
  refine ct_of (own := RX6) (L := [(0, .ref (xad X 8)), (1, .ref (X.2.2.2.1 c1))]) rfl rfl (Nat.le_of_ble_eq_true rfl) rfl ?_
  refine ok_aload_n 0 (pc := 0) dX6_isName_0 rfl rfl ?_
  refine ok_wf (fun hw1 => ?_)
  refine ok_getI (pc := 1) dX6_isName_1 fl_X6_35 sh_8 (Nat.le_of_ble_eq_true rfl) rfl rfl ?_
  refine ok_iconst (pc := 4) dX6_isName_4 ?_
  refine ok_icmp_ne (tgt := 24) (pc := 5) dX6_isName_5 rfl (hw1 _ _) (r_lit rfl) (fun q2 => ?_) (fun q2 => ?_)
  · have h := iteF h q2
    refine ok_iconst (pc := 24) dX6_isName_24 ?_
    exact ok_iret (pc := 25) dX6_isName_25 rfl rfl (nr_z (Or.inl rfl)) (r_lit rfl) h
  · have h := iteT h q2
    refine ok_aload_n 0 (pc := 8) dX6_isName_8 rfl rfl ?_
    refine ok_getI (pc := 9) dX6_isName_9 fl_X6_29 sh_8 (Nat.le_of_ble_eq_true rfl) rfl rfl ?_
    refine ok_aload_n 0 (pc := 12) dX6_isName_12 rfl rfl ?_
    refine ok_getI (pc := 13) dX6_isName_13 fl_X6_83 sh_8 (Nat.le_of_ble_eq_true rfl) rfl rfl ?_
    refine ok_isub (pc := 16) dX6_isName_16 ?_
    refine ok_aload_n 1 (pc := 17) dX6_isName_17 rfl rfl ?_
    refine ok_strlen (pc := 18) dX6_isName_18 ml_X6_106 hc1 rfl ?_
    obtain ⟨h3, h⟩ := h
    refine ok_icmp_eq (tgt := 26) (pc := 21) dX6_isName_21 rfl h3 (r_strL c1) (fun q4 => ?_) (fun q4 => ?_)
    · have h := iteT h q4
      refine ok_iconst (pc := 26) dX6_isName_26 ?_
      refine ok_istore_n (L' := [(2, vI 0), (0, .ref (xad X 8)), (1, .ref (X.2.2.2.1 c1))]) (pc := 27) dX6_isName_27 rfl rfl rfl ?_
      refine ok_sub (L' := [(0, .ref (xad X 8)), (1, .ref (X.2.2.2.1 c1)), (2, vI 0)]) [1,2,0] rfl ?_
      obtain ⟨n5, h⟩ := h
      exact w_X6_isName_28 X c1 hc1 n5 0 σ (r_lit rfl) h
    · have h := iteF h q4
      refine ok_iconst (pc := 24) dX6_isName_24 ?_
      exact ok_iret (pc := 25) dX6_isName_25 rfl rfl (nr_z (Or.inl rfl)) (r_lit rfl) h
theorem dX7_isThere_0 : decode cX7_isThere 0 = .ok (.iconst 0, 1) := by decide +kernel
theorem dX7_isThere_1 : decode cX7_isThere 1 = .ok (.istore_n 3, 1) := by decide +kernel
theorem dX7_isThere_2 : decode cX7_isThere 2 = .ok (.iload_n 3, 1) := by decide +kernel
theorem dX7_isThere_3 : decode cX7_isThere 3 = .ok (.aload_n 0, 1) := by decide +kernel
theorem dX7_isThere_4 : decode cX7_isThere 4 = .ok (.getfield 24, 3) := by decide +kernel
theorem dX7_isThere_7 : decode cX7_isThere 7 = .ok (.if_icmp .ge 31, 3) := by decide +kernel
theorem dX7_isThere_10 : decode cX7_isThere 10 = .ok (.aload_n 0, 1) := by decide +kernel
theorem dX7_isThere_11 : decode cX7_isThere 11 = .ok (.getfield 11, 3) := by decide +kernel
theorem dX7_isThere_14 : decode cX7_isThere 14 = .ok (.iload_n 3, 1) := by decide +kernel
theorem dX7_isThere_15 : decode cX7_isThere 15 = .ok (.iaload, 1) := by decide +kernel
theorem dX7_isThere_16 : decode cX7_isThere 16 = .ok (.iload_n 1, 1) := by decide +kernel
theorem dX7_isThere_17 : decode cX7_isThere 17 = .ok (.if_icmp .ne 15, 3) := by decide +kernel
theorem dX7_isThere_20 : decode cX7_isThere 20 = .ok (.aload_n 0, 1) := by decide +kernel
theorem dX7_isThere_21 : decode cX7_isThere 21 = .ok (.getfield 15, 3) := by decide +kernel
theorem dX7_isThere_24 : decode cX7_isThere 24 = .ok (.iload_n 3, 1) := by decide +kernel
theorem dX7_isThere_25 : decode cX7_isThere 25 = .ok (.iaload, 1) := by decide +kernel
theorem dX7_isThere_26 : decode cX7_isThere 26 = .ok (.iload_n 2, 1) := by decide +kernel
theorem dX7_isThere_27 : decode cX7_isThere 27 = .ok (.if_icmp .ne 5, 3) := by decide +kernel
theorem dX7_isThere_30 : decode cX7_isThere 30 = .ok (.iconst 1, 1) := by decide +kernel
theorem dX7_isThere_31 : decode cX7_isThere 31 = .ok (.ireturn, 1) := by decide +kernel
theorem dX7_isThere_32 : decode cX7_isThere 32 = .ok (.iinc 3 1, 3) := by decide +kernel
theorem dX7_isThere_35 : decode cX7_isThere 35 = .ok (.goto (-33), 3) := by decide +kernel
theorem dX7_isThere_38 : decode cX7_isThere 38 = .ok (.iconst 0, 1) := by decide +kernel
theorem dX7_isThere_39 : decode cX7_isThere 39 = .ok (.ireturn, 1) := by decide +kernel
set_option maxRecDepth 100000 in
set_option maxHeartbeats 4000000 in
theorem w_X7_isThere_9_2 (X : XE) (p1 : Int) (p2 : Int) (hp1 : inR p1) (hp2 : inR p2) {Q : Int → Mem → Prop} : ∀ (n : Nat) (x3 : Int) (σ : Mem), inR x3 → l_X7_isThere_9_2 p1 p2 Q n x3 σ → ok X rm_X7_isThere_9 RX7 cX7_isThere 4 (some .boolean) 1 Q 2 [(0, .ref (xad X 9)), (1, vI p1), (2, vI p2), (3, vI x3)] [] σ := by
  intro n
  induction n with
  | zero => intro x3 σ hx3 h; exact False.elim h
  | succ n ih =>
    intro x3 σ hx3 h
    refine ok_iload_n 3 (pc := 2) dX7_isThere_2 rfl rfl ?_
    refine ok_aload_n 0 (pc := 3) dX7_isThere_3 rfl rfl ?_
    refine ok_wf (fun hw1 => ?_)
    refine ok_getI (pc := 4) dX7_isThere_4 fl_X7_24 sh_9 (Nat.le_of_ble_eq_true rfl) rfl rfl ?_
    refine ok_icmp_ge (tgt := 38) (pc := 7) dX7_isThere_7 rfl hx3 (hw1 _ _) (fun q2 => ?_) (fun q2 => ?_)
    · have h := iteF h q2
      refine ok_iconst (pc := 38) dX7_isThere_38 ?_
      exact ok_iret (pc := 39) dX7_isThere_39 rfl rfl (nr_z (Or.inl rfl)) (r_lit rfl) h
    · have h := iteT h q2
      refine ok_aload_n 0 (pc := 10) dX7_isThere_10 rfl rfl ?_
      refine ok_getR (pc := 11) dX7_isThere_11 fl_X7_11 sh_9 (Nat.le_of_ble_eq_true rfl) rfl rfl ?_
      refine ok_iload_n 3 (pc := 14) dX7_isThere_14 rfl rfl ?_
      obtain ⟨h3, h⟩ := h
      obtain ⟨h4, h⟩ := h
      refine ok_iald (pc := 15) dX7_isThere_15 sh_10 (Nat.le_of_ble_eq_true rfl) rfl h3 h4 ?_
      refine ok_iload_n 1 (pc := 16) dX7_isThere_16 rfl rfl ?_
      refine ok_icmp_ne (tgt := 32) (pc := 17) dX7_isThere_17 rfl (hw1 _ _) hp1 (fun q5 => ?_) (fun q5 => ?_)
      · have h := iteF h q5
        refine ok_iinc (L' := [(3, vI (x3 + 1)), (0, .ref (xad X 9)), (1, vI p1), (2, vI p2)]) 3 (pc := 32) dX7_isThere_32 rfl rfl rfl ?_
        refine ok_goto (tgt := 2) (pc := 35) dX7_isThere_35 rfl ?_
        obtain ⟨h6, h⟩ := h
        refine ok_sub (L' := [(0, .ref (xad X 9)), (1, vI p1), (2, vI p2), (3, vI (x3 + 1))]) [1,2,3,0] rfl ?_
        exact ih (x3 + 1) σ h6 h
      · have h := iteT h q5
        refine ok_aload_n 0 (pc := 20) dX7_isThere_20 rfl rfl ?_
        refine ok_getR (pc := 21) dX7_isThere_21 fl_X7_15 sh_9 (Nat.le_of_ble_eq_true rfl) rfl rfl ?_
        refine ok_iload_n 3 (pc := 24) dX7_isThere_24 rfl rfl ?_
        refine ok_iald (pc := 25) dX7_isThere_25 sh_11 (Nat.le_of_ble_eq_true rfl) rfl h3 h4 ?_
        refine ok_iload_n 2 (pc := 26) dX7_isThere_26 rfl rfl ?_
        refine ok_icmp_ne (tgt := 32) (pc := 27) dX7_isThere_27 rfl (hw1 _ _) hp2 (fun q7 => ?_) (fun q7 => ?_)
        · have h := iteF h q7
          refine ok_iinc (L' := [(3, vI (x3 + 1)), (0, .ref (xad X 9)), (1, vI p1), (2, vI p2)]) 3 (pc := 32) dX7_isThere_32 rfl rfl rfl ?_
          refine ok_goto (tgt := 2) (pc := 35) dX7_isThere_35 rfl ?_
          obtain ⟨h8, h⟩ := h
          refine ok_sub (L' := [(0, .ref (xad X 9)), (1, vI p1), (2, vI p2), (3, vI (x3 + 1))]) [1,2,3,0] rfl ?_
          exact ih (x3 + 1) σ h8 h
        · have h := iteT h q7
          refine ok_iconst (pc := 30) dX7_isThere_30 ?_
          exact ok_iret (pc := 31) dX7_isThere_31 rfl rfl (nr_z (Or.inr rfl)) (r_lit rfl) h
set_option maxRecDepth 100000 in
set_option maxHeartbeats 4000000 in
theorem c_X7_isThere_9 (X : XE) (p1 : Int) (p2 : Int) (hp1 : inR p1) (hp2 : inR p2) {σ : Mem} {Q : Int → Mem → Prop} (h : v_X7_isThere_9 p1 p2 σ Q) : CT X yX7_isThere cX7_isThere 4 (some .boolean) rm_X7_isThere_9 1 [.ref (xad X 9), vI p1, vI p2] σ Q := by
  refine ct_of (own := RX7) (L := [(0, .ref (xad X 9)), (1, vI p1), (2, vI p2)]) rfl rfl (Nat.le_of_ble_eq_true rfl) rfl ?_
  refine ok_iconst (pc := 0) dX7_isThere_0 ?_
  refine ok_istore_n (L' := [(3, vI 0), (0, .ref (xad X 9)), (1, vI p1), (2, vI p2)]) (pc := 1) dX7_isThere_1 rfl rfl rfl ?_
  refine ok_sub (L' := [(0, .ref (xad X 9)), (1, vI p1), (2, vI p2), (3, vI 0)]) [1,2,3,0] rfl ?_
  obtain ⟨n1, h⟩ := h
  exact w_X7_isThere_9_2 X p1 p2 hp1 hp2 n1 0 σ (r_lit rfl) h
theorem dX6_needNew_0 : decode cX6_needNew 0 = .ok (.aload_n 0, 1) := by decide +kernel
theorem dX6_needNew_1 : decode cX6_needNew 1 = .ok (.getfield 12, 3) := by decide +kernel
theorem dX6_needNew_4 : decode cX6_needNew 4 = .ok (.iload_n 1, 1) := by decide +kernel
theorem dX6_needNew_5 : decode cX6_needNew 5 = .ok (.iload_n 2, 1) := by decide +kernel
theorem dX6_needNew_6 : decode cX6_needNew 6 = .ok (.invokevirtual 99, 3) := by decide +kernel
theorem dX6_needNew_9 : decode cX6_needNew 9 = .ok (.ifCond .eq 8, 3) := by decide +kernel
theorem dX6_needNew_12 : decode cX6_needNew 12 = .ok (.aload_n 0, 1) := by decide +kernel
theorem dX6_needNew_13 : decode cX6_needNew 13 = .ok (.iconst 5, 1) := by decide +kernel
theorem dX6_needNew_14 : decode cX6_needNew 14 = .ok (.invokevirtual 48, 3) := by decide +kernel
theorem dX6_needNew_17 : decode cX6_needNew 17 = .ok (.return_, 1) := by decide +kernel
set_option maxRecDepth 100000 in
set_option maxHeartbeats 4000000 in
theorem c_X6_needNew (X : XE) (p1 : Int) (p2 : Int) (hp1 : inR p1) (hp2 : inR p2) {σ : Mem} {Q : Int → Mem → Prop} (h : v_X6_needNew p1 p2 σ Q) : CT X yX6_needNew cX6_needNew 3 none rm_X6_needNew 0 [.ref (xad X 8), vI p1, vI p2] σ Q := by
  refine ct_of (own := RX6) (L := [(0, .ref (xad X 8)), (1, vI p1), (2, vI p2)]) rfl rfl (Nat.le_of_ble_eq_true rfl) rfl ?_
  refine ok_aload_n 0 (pc := 0) dX6_needNew_0 rfl rfl ?_
  refine ok_getR (pc := 1) dX6_needNew_1 fl_X6_12 sh_8 (Nat.le_of_ble_eq_true rfl) rfl rfl ?_
  refine ok_iload_n 1 (pc := 4) dX6_needNew_4 rfl rfl ?_
  refine ok_iload_n 2 (pc := 5) dX6_needNew_5 rfl rfl ?_
  refine ok_callVi (As := [vI p1, vI p2]) (rest := []) (rm := rm_X7_isThere_9) (pc := 6) dX6_needNew_6 me_X7_isThere ml_X6_99 (ci := 7) rfl sh_9 (Nat.le_of_ble_eq_true rfl) rfl des_X7_isThere rfl ⟨rfl, rfl, rfl, rfl⟩ rfl rfl (c_X7_isThere_9 X p1 p2 hp1 hp2 h) (fun r2 σ3 h1 h => ?_)
  refine ok_if_eq (tgt := 17) (pc := 9) dX6_needNew_9 rfl h1 (fun q4 => ?_) (fun q4 => ?_)
  · have h := iteT h q4
    exact ok_vret (pc := 17) dX6_needNew_17 rfl rfl h
  · have h := iteF h q4
    refine ok_aload_n 0 (pc := 12) dX6_needNew_12 rfl rfl ?_
    refine ok_iconst (pc := 13) dX6_needNew_13 ?_
    refine ok_callVv (As := [vI 5]) (rest := []) (rm := rm_X6_fail) (pc := 14) dX6_needNew_14 me_X6_fail ml_X6_48 (ci := 6) rfl sh_8 (Nat.le_of_ble_eq_true rfl) rfl des_X6_fail rfl ⟨rfl, rfl, rfl, rfl⟩ rfl rfl (c_X6_fail X 5 (r_lit rfl) h) (fun σ7 h => ?_)
    exact ok_vret (pc := 17) dX6_needNew_17 rfl rfl h
theorem dX6_needNumber_0 : decode cX6_needNumber 0 = .ok (.aload_n 0, 1) := by decide +kernel
theorem dX6_needNumber_1 : decode cX6_needNumber 1 = .ok (.getfield 35, 3) := by decide +kernel
theorem dX6_needNumber_4 : decode cX6_needNumber 4 = .ok (.iconst 2, 1) := by decide +kernel
theorem dX6_needNumber_5 : decode cX6_needNumber 5 = .ok (.if_icmp .eq 11, 3) := by decide +kernel
theorem dX6_needNumber_8 : decode cX6_needNumber 8 = .ok (.aload_n 0, 1) := by decide +kernel
theorem dX6_needNumber_9 : decode cX6_needNumber 9 = .ok (.iconst 2, 1) := by decide +kernel
theorem dX6_needNumber_10 : decode cX6_needNumber 10 = .ok (.invokevirtual 48, 3) := by decide +kernel
theorem dX6_needNumber_13 : decode cX6_needNumber 13 = .ok (.goto 24, 3) := by decide +kernel
theorem dX6_needNumber_16 : decode cX6_needNumber 16 = .ok (.aload_n 0, 1) := by decide +kernel
theorem dX6_needNumber_17 : decode cX6_needNumber 17 = .ok (.getfield 96, 3) := by decide +kernel
theorem dX6_needNumber_20 : decode cX6_needNumber 20 = .ok (.iload_n 1, 1) := by decide +kernel
theorem dX6_needNumber_21 : decode cX6_needNumber 21 = .ok (.if_icmp .lt 11, 3) := by decide +kernel
theorem dX6_needNumber_24 : decode cX6_needNumber 24 = .ok (.aload_n 0, 1) := by decide +kernel
theorem dX6_needNumber_25 : decode cX6_needNumber 25 = .ok (.getfield 96, 3) := by decide +kernel
theorem dX6_needNumber_28 : decode cX6_needNumber 28 = .ok (.iload_n 2, 1) := by decide +kernel
theorem dX6_needNumber_29 : decode cX6_needNumber 29 = .ok (.if_icmp .le 8, 3) := by decide +kernel
theorem dX6_needNumber_32 : decode cX6_needNumber 32 = .ok (.aload_n 0, 1) := by decide +kernel
theorem dX6_needNumber_33 : decode cX6_needNumber 33 = .ok (.iconst 3, 1) := by decide +kernel
theorem dX6_needNumber_34 : decode cX6_needNumber 34 = .ok (.invokevirtual 48, 3) := by decide +kernel
theorem dX6_needNumber_37 : decode cX6_needNumber 37 = .ok (.aload_n 0, 1) := by decide +kernel
theorem dX6_needNumber_38 : decode cX6_needNumber 38 = .ok (.getfield 96, 3) := by decide +kernel
theorem dX6_needNumber_41 : decode cX6_needNumber 41 = .ok (.ireturn, 1) := by decide +kernel
set_option maxRecDepth 100000 in
set_option maxHeartbeats 4000000 in
theorem w_X6_needNumber_32 (X : XE) (p1 : Int) (p2 : Int) (hp1 : inR p1) (hp2 : inR p2) {Q : Int → Mem → Prop} {σ : Mem} (h : j_X6_needNumber_32 p1 p2 Q σ) : ok X rm_X6_needNumber RX6 cX6_needNumber 3 (some .int) 1 Q 32 [(0, .ref (xad X 8))] [] σ := by
  refine ok_aload_n 0 (pc := 32) dX6_needNumber_32 rfl rfl ?_
  refine ok_iconst (pc := 33) dX6_needNumber_33 ?_
  refine ok_callVv (As := [vI 3]) (rest := []) (rm := rm_X6_fail) (pc := 34) dX6_needNumber_34 me_X6_fail ml_X6_48 (ci := 6) rfl sh_8 (Nat.le_of_ble_eq_true rfl) rfl des_X6_fail rfl ⟨rfl, rfl, rfl, rfl⟩ rfl rfl (c_X6_fail X 3 (r_lit rfl) h) (fun σ3 h => ?_)
  refine ok_aload_n 0 (pc := 37) dX6_needNumber_37 rfl rfl ?_
  refine ok_wf (fun hw4 => ?_)
  refine ok_getI (pc := 38) dX6_needNumber_38 fl_X6_96 sh_8 (Nat.le_of_ble_eq_true rfl) rfl rfl ?_
  exact ok_iret (pc := 41) dX6_needNumber_41 rfl rfl rfl (hw4 _ _) h
set_option maxRecDepth 100000 in
set_option maxHeartbeats 4000000 in
theorem c_X6_needNumber (X : XE) (p1 : Int) (p2 : Int) (hp1 : inR p1) (hp2 : inR p2) {σ : Mem} {Q : Int → Mem → Prop} (h : v_X6_needNumber p1 p2 σ Q) : CT X yX6_needNumber cX6_needNumber 3 (some .int) rm_X6_needNumber 1 [.ref (xad X 8), vI p1, vI p2] σ Q := by
  refine ct_of (own := RX6) (L := [(0, .ref (xad X 8)), (1, vI p1), (2, vI p2)]) rfl rfl (Nat.le_of_ble_eq_true rfl) rfl ?_
  refine ok_aload_n 0 (pc := 0) dX6_needNumber_0 rfl rfl ?_
  refine ok_wf (fun hw1 => ?_)
  refine ok_getI (pc := 1) dX6_needNumber_1 fl_X6_35 sh_8 (Nat.le_of_ble_eq_true rfl) rfl rfl ?_
  refine ok_iconst (pc := 4) dX6_needNumber_4 ?_
  refine ok_icmp_eq (tgt := 16) (pc := 5) dX6_needNumber_5 rfl (hw1 _ _) (r_lit rfl) (fun q2 => ?_) (fun q2 => ?_)
  · have h := iteT h q2
    refine ok_aload_n 0 (pc := 16) dX6_needNumber_16 rfl rfl ?_
    refine ok_getI (pc := 17) dX6_needNumber_17 fl_X6_96 sh_8 (Nat.le_of_ble_eq_true rfl) rfl rfl ?_
    refine ok_iload_n 1 (pc := 20) dX6_needNumber_20 rfl rfl ?_
    refine ok_icmp_lt (tgt := 32) (pc := 21) dX6_needNumber_21 rfl (hw1 _ _) hp1 (fun q3 => ?_) (fun q3 => ?_)
    · have h := iteT h q3
      refine ok_sub (L' := [(0, .ref (xad X 8))]) [0] rfl ?_
      exact w_X6_needNumber_32 X p1 p2 hp1 hp2   h
    · have h := iteF h q3
      refine ok_aload_n 0 (pc := 24) dX6_needNumber_24 rfl rfl ?_
      refine ok_getI (pc := 25) dX6_needNumber_25 fl_X6_96 sh_8 (Nat.le_of_ble_eq_true rfl) rfl rfl ?_
      refine ok_iload_n 2 (pc := 28) dX6_needNumber_28 rfl rfl ?_
      refine ok_icmp_le (tgt := 37) (pc := 29) dX6_needNumber_29 rfl (hw1 _ _) hp2 (fun q4 => ?_) (fun q4 => ?_)
      · have h := iteF h q4
        refine ok_aload_n 0 (pc := 37) dX6_needNumber_37 rfl rfl ?_
        refine ok_getI (pc := 38) dX6_needNumber_38 fl_X6_96 sh_8 (Nat.le_of_ble_eq_true rfl) rfl rfl ?_
        exact ok_iret (pc := 41) dX6_needNumber_41 rfl rfl rfl (hw1 _ _) h
      · have h := iteT h q4
        refine ok_sub (L' := [(0, .ref (xad X 8))]) [0] rfl ?_
        exact w_X6_needNumber_32 X p1 p2 hp1 hp2   h
  · have h := iteF h q2
    refine ok_aload_n 0 (pc := 8) dX6_needNumber_8 rfl rfl ?_
    refine ok_iconst (pc := 9) dX6_needNumber_9 ?_
    refine ok_callVv (As := [vI 2]) (rest := []) (rm := rm_X6_fail) (pc := 10) dX6_needNumber_10 me_X6_fail ml_X6_48 (ci := 6) rfl sh_8 (Nat.le_of_ble_eq_true rfl) rfl des_X6_fail rfl ⟨rfl, rfl, rfl, rfl⟩ rfl rfl (c_X6_fail X 2 (r_lit rfl) h) (fun σ7 h => ?_)
    refine ok_goto (tgt := 37) (pc := 13) dX6_needNumber_13 rfl ?_
    refine ok_aload_n 0 (pc := 37) dX6_needNumber_37 rfl rfl ?_
    refine ok_wf (fun hw8 => ?_)
    refine ok_getI (pc := 38) dX6_needNumber_38 fl_X6_96 sh_8 (Nat.le_of_ble_eq_true rfl) rfl rfl ?_
    exact ok_iret (pc := 41) dX6_needNumber_41 rfl rfl rfl (hw8 _ _) h
theorem dX6_takeNumber_0 : decode cX6_takeNumber 0 = .ok (.aload_n 0, 1) := by decide +kernel
theorem dX6_takeNumber_1 : decode cX6_takeNumber 1 = .ok (.iload_n 1, 1) := by decide +kernel
theorem dX6_takeNumber_2 : decode cX6_takeNumber 2 = .ok (.iload_n 2, 1) := by decide +kernel
theorem dX6_takeNumber_3 : decode cX6_takeNumber 3 = .ok (.invokevirtual 76, 3) := by decide +kernel
theorem dX6_takeNumber_6 : decode cX6_takeNumber 6 = .ok (.istore_n 3, 1) := by decide +kernel
theorem dX6_takeNumber_7 : decode cX6_takeNumber 7 = .ok (.aload_n 0, 1) := by decide +kernel
theorem dX6_takeNumber_8 : decode cX6_takeNumber 8 = .ok (.invokevirtual 32, 3) := by decide +kernel
theorem dX6_takeNumber_11 : decode cX6_takeNumber 11 = .ok (.iload_n 3, 1) := by decide +kernel
theorem dX6_takeNumber_12 : decode cX6_takeNumber 12 = .ok (.ireturn, 1) := by decide +kernel
set_option maxRecDepth 100000 in
set_option maxHeartbeats 4000000 in
theorem c_X6_takeNumber (X : XE) (p1 : Int) (p2 : Int) (hp1 : inR p1) (hp2 : inR p2) {σ : Mem} {Q : Int → Mem → Prop} (h : v_X6_takeNumber p1 p2 σ Q) : CT X yX6_takeNumber cX6_takeNumber 4 (some .int) rm_X6_takeNumber 1 [.ref (xad X 8), vI p1, vI p2] σ Q := by
  refine ct_of (own := RX6) (L := [(0, .ref (xad X 8)), (1, vI p1), (2, vI p2)]) rfl rfl (Nat.le_of_ble_eq_true rfl) rfl ?_
  refine ok_aload_n 0 (pc := 0) dX6_takeNumber_0 rfl rfl ?_
  refine ok_iload_n 1 (pc := 1) dX6_takeNumber_1 rfl rfl ?_
  refine ok_iload_n 2 (pc := 2) dX6_takeNumber_2 rfl rfl ?_
  refine ok_callVi (As := [vI p1, vI p2]) (rest := []) (rm := rm_X6_needNumber) (pc := 3) dX6_takeNumber_3 me_X6_needNumber ml_X6_76 (ci := 6) rfl sh_8 (Nat.le_of_ble_eq_true rfl) rfl des_X6_needNumber rfl ⟨rfl, rfl, rfl, rfl⟩ rfl rfl (c_X6_needNumber X p1 p2 hp1 hp2 h) (fun r2 σ3 h1 h => ?_)
  refine ok_istore_n (L' := [(3, vI r2), (0, .ref (xad X 8)), (1, vI p1), (2, vI p2)]) (pc := 6) dX6_takeNumber_6 rfl rfl rfl ?_
  refine ok_aload_n 1 (pc := 7) dX6_takeNumber_7 rfl rfl ?_
  refine ok_callVv (As := []) (rest := []) (rm := rm_X6_step) (pc := 8) dX6_takeNumber_8 me_X6_step ml_X6_32 (ci := 6) rfl sh_8 (Nat.le_of_ble_eq_true rfl) rfl des_X6_step rfl ⟨rfl, rfl, rfl, rfl⟩ rfl rfl (c_X6_step X h) (fun σ6 h => ?_)
  refine ok_iload_n 0 (pc := 11) dX6_takeNumber_11 rfl rfl ?_
  exact ok_iret (pc := 12) dX6_takeNumber_12 rfl rfl rfl h1 h
theorem dX7_add_0 : decode cX7_add 0 = .ok (.aload_n 0, 1) := by decide +kernel
theorem dX7_add_1 : decode cX7_add 1 = .ok (.getfield 24, 3) := by decide +kernel
theorem dX7_add_4 : decode cX7_add 4 = .ok (.bipush 16, 2) := by decide +kernel
theorem dX7_add_6 : decode cX7_add 6 = .ok (.if_icmp .ge 54, 3) := by decide +kernel
theorem dX7_add_9 : decode cX7_add 9 = .ok (.aload_n 0, 1) := by decide +kernel
theorem dX7_add_10 : decode cX7_add 10 = .ok (.getfield 11, 3) := by decide +kernel
theorem dX7_add_13 : decode cX7_add 13 = .ok (.aload_n 0, 1) := by decide +kernel
theorem dX7_add_14 : decode cX7_add 14 = .ok (.getfield 24, 3) := by decide +kernel
theorem dX7_add_17 : decode cX7_add 17 = .ok (.iload_n 1, 1) := by decide +kernel
theorem dX7_add_18 : decode cX7_add 18 = .ok (.iastore, 1) := by decide +kernel
theorem dX7_add_19 : decode cX7_add 19 = .ok (.aload_n 0, 1) := by decide +kernel
theorem dX7_add_20 : decode cX7_add 20 = .ok (.getfield 15, 3) := by decide +kernel
theorem dX7_add_23 : decode cX7_add 23 = .ok (.aload_n 0, 1) := by decide +kernel
theorem dX7_add_24 : decode cX7_add 24 = .ok (.getfield 24, 3) := by decide +kernel
theorem dX7_add_27 : decode cX7_add 27 = .ok (.iload_n 2, 1) := by decide +kernel
theorem dX7_add_28 : decode cX7_add 28 = .ok (.iastore, 1) := by decide +kernel
theorem dX7_add_29 : decode cX7_add 29 = .ok (.aload_n 0, 1) := by decide +kernel
theorem dX7_add_30 : decode cX7_add 30 = .ok (.getfield 18, 3) := by decide +kernel
theorem dX7_add_33 : decode cX7_add 33 = .ok (.aload_n 0, 1) := by decide +kernel
theorem dX7_add_34 : decode cX7_add 34 = .ok (.getfield 24, 3) := by decide +kernel
theorem dX7_add_37 : decode cX7_add 37 = .ok (.iload_n 3, 1) := by decide +kernel
theorem dX7_add_38 : decode cX7_add 38 = .ok (.iastore, 1) := by decide +kernel
theorem dX7_add_39 : decode cX7_add 39 = .ok (.aload_n 0, 1) := by decide +kernel
theorem dX7_add_40 : decode cX7_add 40 = .ok (.getfield 21, 3) := by decide +kernel
theorem dX7_add_43 : decode cX7_add 43 = .ok (.aload_n 0, 1) := by decide +kernel
theorem dX7_add_44 : decode cX7_add 44 = .ok (.getfield 24, 3) := by decide +kernel
theorem dX7_add_47 : decode cX7_add 47 = .ok (.iload 4, 2) := by decide +kernel
theorem dX7_add_49 : decode cX7_add 49 = .ok (.iastore, 1) := by decide +kernel
theorem dX7_add_50 : decode cX7_add 50 = .ok (.aload_n 0, 1) := by decide +kernel
theorem dX7_add_51 : decode cX7_add 51 = .ok (.dup, 1) := by decide +kernel
theorem dX7_add_52 : decode cX7_add 52 = .ok (.getfield 24, 3) := by decide +kernel
theorem dX7_add_55 : decode cX7_add 55 = .ok (.iconst 1, 1) := by decide +kernel
theorem dX7_add_56 : decode cX7_add 56 = .ok (.iadd, 1) := by decide +kernel
theorem dX7_add_57 : decode cX7_add 57 = .ok (.putfield 24, 3) := by decide +kernel
theorem dX7_add_60 : decode cX7_add 60 = .ok (.return_, 1) := by decide +kernel
set_option maxRecDepth 100000 in
set_option maxHeartbeats 4000000 in
theorem c_X7_add_9 (X : XE) (p1 : Int) (p2 : Int) (p3 : Int) (p4 : Int) (hp1 : inR p1) (hp2 : inR p2) (hp3 : inR p3) (hp4 : inR p4) {σ : Mem} {Q : Int → Mem → Prop} (h : v_X7_add_9 p1 p2 p3 p4 σ Q) : CT X yX7_add cX7_add 5 none rm_X7_add_9 0 [.ref (xad X 9), vI p1, vI p2, vI p3, vI p4] σ Q := by
  refine ct_of (own := RX7) (L := [(0, .ref (xad X 9)), (1, vI p1), (2, vI p2), (3, vI p3), (4, vI p4)]) rfl rfl (Nat.le_of_ble_eq_true rfl) rfl ?_
  refine ok_aload_n 0 (pc := 0) dX7_add_0 rfl rfl ?_
  refine ok_wf (fun hw1 => ?_)
  refine ok_getI (pc := 1) dX7_add_1 fl_X7_24 sh_9 (Nat.le_of_ble_eq_true rfl) rfl rfl ?_
  refine ok_bipush (pc := 4) dX7_add_4 rfl ?_
  refine ok_icmp_ge (tgt := 60) (pc := 6) dX7_add_6 rfl (hw1 _ _) (r_lit rfl) (fun q2 => ?_) (fun q2 => ?_)
  · have h := iteF h q2
    exact ok_vret (pc := 60) dX7_add_60 rfl rfl h
  · have h := iteT h q2
    refine ok_aload_n 0 (pc := 9) dX7_add_9 rfl rfl ?_
    refine ok_getR (pc := 10) dX7_add_10 fl_X7_11 sh_9 (Nat.le_of_ble_eq_true rfl) rfl rfl ?_
    refine ok_aload_n 0 (pc := 13) dX7_add_13 rfl rfl ?_
    refine ok_getI (pc := 14) dX7_add_14 fl_X7_24 sh_9 (Nat.le_of_ble_eq_true rfl) rfl rfl ?_
    refine ok_iload_n 1 (pc := 17) dX7_add_17 rfl rfl ?_
    obtain ⟨h3, h⟩ := h
    obtain ⟨h4, h⟩ := h
    refine ok_iast (pc := 18) dX7_add_18 sh_10 (Nat.le_of_ble_eq_true rfl) rfl h3 h4 hp1 ?_
    refine ok_aload_n 0 (pc := 19) dX7_add_19 rfl rfl ?_
    refine ok_getR (pc := 20) dX7_add_20 fl_X7_15 sh_9 (Nat.le_of_ble_eq_true rfl) rfl rfl ?_
    refine ok_aload_n 0 (pc := 23) dX7_add_23 rfl rfl ?_
    refine ok_wf (fun hw5 => ?_)
    refine ok_getI (pc := 24) dX7_add_24 fl_X7_24 sh_9 (Nat.le_of_ble_eq_true rfl) rfl rfl ?_
    have e6 : ((mset σ 10 ((σ 9 4).toNat) p1) 9 4) = (σ 9 4) := (mset_ne (by omega))
    refine ok_top e6 ?_
    refine ok_iload_n 2 (pc := 27) dX7_add_27 rfl rfl ?_
    refine ok_iast (pc := 28) dX7_add_28 sh_11 (Nat.le_of_ble_eq_true rfl) rfl h3 h4 hp2 ?_
    refine ok_aload_n 0 (pc := 29) dX7_add_29 rfl rfl ?_
    refine ok_getR (pc := 30) dX7_add_30 fl_X7_18 sh_9 (Nat.le_of_ble_eq_true rfl) rfl rfl ?_
    refine ok_aload_n 0 (pc := 33) dX7_add_33 rfl rfl ?_
    refine ok_wf (fun hw8 => ?_)
    refine ok_getI (pc := 34) dX7_add_34 fl_X7_24 sh_9 (Nat.le_of_ble_eq_true rfl) rfl rfl ?_
    have e9 : ((mset (mset σ 10 ((σ 9 4).toNat) p1) 11 ((σ 9 4).toNat) p2) 9 4) = (σ 9 4) := (mset_ne (by omega)).trans (mset_ne (by omega))
    refine ok_top e9 ?_
    refine ok_iload_n 3 (pc := 37) dX7_add_37 rfl rfl ?_
    refine ok_iast (pc := 38) dX7_add_38 sh_12 (Nat.le_of_ble_eq_true rfl) rfl h3 h4 hp3 ?_
    refine ok_aload_n 0 (pc := 39) dX7_add_39 rfl rfl ?_
    refine ok_getR (pc := 40) dX7_add_40 fl_X7_21 sh_9 (Nat.le_of_ble_eq_true rfl) rfl rfl ?_
    refine ok_aload_n 0 (pc := 43) dX7_add_43 rfl rfl ?_
    refine ok_wf (fun hw11 => ?_)
    refine ok_getI (pc := 44) dX7_add_44 fl_X7_24 sh_9 (Nat.le_of_ble_eq_true rfl) rfl rfl ?_
    have e12 : ((mset (mset (mset σ 10 ((σ 9 4).toNat) p1) 11 ((σ 9 4).toNat) p2) 12 ((σ 9 4).toNat) p3) 9 4) = (σ 9 4) := (mset_ne (by omega)).trans ((mset_ne (by omega)).trans (mset_ne (by omega)))
    refine ok_top e12 ?_
    refine ok_iload 4 (pc := 47) dX7_add_47 rfl ?_
    refine ok_iast (pc := 49) dX7_add_49 sh_13 (Nat.le_of_ble_eq_true rfl) rfl h3 h4 hp4 ?_
    refine ok_aload_n 0 (pc := 50) dX7_add_50 rfl rfl ?_
    refine ok_dup (pc := 51) dX7_add_51 rfl ?_
    refine ok_wf (fun hw14 => ?_)
    refine ok_getI (pc := 52) dX7_add_52 fl_X7_24 sh_9 (Nat.le_of_ble_eq_true rfl) rfl rfl ?_
    have e15 : ((mset (mset (mset (mset σ 10 ((σ 9 4).toNat) p1) 11 ((σ 9 4).toNat) p2) 12 ((σ 9 4).toNat) p3) 13 ((σ 9 4).toNat) p4) 9 4) = (σ 9 4) := (mset_ne (by omega)).trans ((mset_ne (by omega)).trans ((mset_ne (by omega)).trans (mset_ne (by omega))))
    refine ok_top e15 ?_
    refine ok_iconst (pc := 55) dX7_add_55 ?_
    refine ok_iadd (pc := 56) dX7_add_56 ?_
    obtain ⟨h17, h⟩ := h
    refine ok_putI (pc := 57) dX7_add_57 fl_X7_24 fp_X7_4 sh_9 (Nat.le_of_ble_eq_true rfl) rfl rfl h17 rfl rfl ?_
    exact ok_vret (pc := 60) dX7_add_60 rfl rfl h
theorem dX6_takeStop_0 : decode cX6_takeStop 0 = .ok (.aload_n 0, 1) := by decide +kernel
theorem dX6_takeStop_1 : decode cX6_takeStop 1 = .ok (.getfield 35, 3) := by decide +kernel
theorem dX6_takeStop_4 : decode cX6_takeStop 4 = .ok (.iconst 3, 1) := by decide +kernel
theorem dX6_takeStop_5 : decode cX6_takeStop 5 = .ok (.if_icmp .eq 8, 3) := by decide +kernel
theorem dX6_takeStop_8 : decode cX6_takeStop 8 = .ok (.aload_n 0, 1) := by decide +kernel
theorem dX6_takeStop_9 : decode cX6_takeStop 9 = .ok (.iconst 2, 1) := by decide +kernel
theorem dX6_takeStop_10 : decode cX6_takeStop 10 = .ok (.invokevirtual 48, 3) := by decide +kernel
theorem dX6_takeStop_13 : decode cX6_takeStop 13 = .ok (.aload_n 0, 1) := by decide +kernel
theorem dX6_takeStop_14 : decode cX6_takeStop 14 = .ok (.getfield 26, 3) := by decide +kernel
theorem dX6_takeStop_17 : decode cX6_takeStop 17 = .ok (.ifCond .ne 15, 3) := by decide +kernel
theorem dX6_takeStop_20 : decode cX6_takeStop 20 = .ok (.aload_n 0, 1) := by decide +kernel
theorem dX6_takeStop_21 : decode cX6_takeStop 21 = .ok (.getfield 12, 3) := by decide +kernel
theorem dX6_takeStop_24 : decode cX6_takeStop 24 = .ok (.iload_n 1, 1) := by decide +kernel
theorem dX6_takeStop_25 : decode cX6_takeStop 25 = .ok (.iload_n 2, 1) := by decide +kernel
theorem dX6_takeStop_26 : decode cX6_takeStop 26 = .ok (.iload_n 3, 1) := by decide +kernel
theorem dX6_takeStop_27 : decode cX6_takeStop 27 = .ok (.iload 4, 2) := by decide +kernel
theorem dX6_takeStop_29 : decode cX6_takeStop 29 = .ok (.invokevirtual 103, 3) := by decide +kernel
theorem dX6_takeStop_32 : decode cX6_takeStop 32 = .ok (.aload_n 0, 1) := by decide +kernel
theorem dX6_takeStop_33 : decode cX6_takeStop 33 = .ok (.invokevirtual 32, 3) := by decide +kernel
theorem dX6_takeStop_36 : decode cX6_takeStop 36 = .ok (.return_, 1) := by decide +kernel
set_option maxRecDepth 100000 in
set_option maxHeartbeats 4000000 in
theorem w_X6_takeStop_32 (X : XE) (p1 : Int) (p2 : Int) (p3 : Int) (p4 : Int) (hp1 : inR p1) (hp2 : inR p2) (hp3 : inR p3) (hp4 : inR p4) {Q : Int → Mem → Prop} {σ : Mem} (h : j_X6_takeStop_32 p1 p2 p3 p4 Q σ) : ok X rm_X6_takeStop RX6 cX6_takeStop 5 none 0 Q 32 [(0, .ref (xad X 8))] [] σ := by
  refine ok_aload_n 0 (pc := 32) dX6_takeStop_32 rfl rfl ?_
  refine ok_callVv (As := []) (rest := []) (rm := rm_X6_step) (pc := 33) dX6_takeStop_33 me_X6_step ml_X6_32 (ci := 6) rfl sh_8 (Nat.le_of_ble_eq_true rfl) rfl des_X6_step rfl ⟨rfl, rfl, rfl, rfl⟩ rfl rfl (c_X6_step X h) (fun σ3 h => ?_)
  exact ok_vret (pc := 36) dX6_takeStop_36 rfl rfl h
set_option maxRecDepth 100000 in
set_option maxHeartbeats 4000000 in
theorem w_X6_takeStop_13 (X : XE) (p1 : Int) (p2 : Int) (p3 : Int) (p4 : Int) (hp1 : inR p1) (hp2 : inR p2) (hp3 : inR p3) (hp4 : inR p4) {Q : Int → Mem → Prop} {σ : Mem} (h : j_X6_takeStop_13 p1 p2 p3 p4 Q σ) : ok X rm_X6_takeStop RX6 cX6_takeStop 5 none 0 Q 13 [(0, .ref (xad X 8)), (1, vI p1), (2, vI p2), (3, vI p3), (4, vI p4)] [] σ := by
  refine ok_aload_n 0 (pc := 13) dX6_takeStop_13 rfl rfl ?_
  refine ok_wf (fun hw1 => ?_)
  refine ok_getI (pc := 14) dX6_takeStop_14 fl_X6_26 sh_8 (Nat.le_of_ble_eq_true rfl) rfl rfl ?_
  refine ok_if_ne (tgt := 32) (pc := 17) dX6_takeStop_17 rfl (hw1 _ _) (fun q2 => ?_) (fun q2 => ?_)
  · have h := iteF h q2
    refine ok_sub (L' := [(0, .ref (xad X 8))]) [0] rfl ?_
    exact w_X6_takeStop_32 X p1 p2 p3 p4 hp1 hp2 hp3 hp4   h
  · have h := iteT h q2
    refine ok_aload_n 0 (pc := 20) dX6_takeStop_20 rfl rfl ?_
    refine ok_getR (pc := 21) dX6_takeStop_21 fl_X6_12 sh_8 (Nat.le_of_ble_eq_true rfl) rfl rfl ?_
    refine ok_iload_n 1 (pc := 24) dX6_takeStop_24 rfl rfl ?_
    refine ok_iload_n 2 (pc := 25) dX6_takeStop_25 rfl rfl ?_
    refine ok_iload_n 3 (pc := 26) dX6_takeStop_26 rfl rfl ?_
    refine ok_iload 4 (pc := 27) dX6_takeStop_27 rfl ?_
    refine ok_callVv (As := [vI p1, vI p2, vI p3, vI p4]) (rest := []) (rm := rm_X7_add_9) (pc := 29) dX6_takeStop_29 me_X7_add ml_X6_103 (ci := 7) rfl sh_9 (Nat.le_of_ble_eq_true rfl) rfl des_X7_add rfl ⟨rfl, rfl, rfl, rfl⟩ rfl rfl (c_X7_add_9 X p1 p2 p3 p4 hp1 hp2 hp3 hp4 h) (fun σ5 h => ?_)
    refine ok_sub (L' := [(0, .ref (xad X 8))]) [0] rfl ?_
    exact w_X6_takeStop_32 X p1 p2 p3 p4 hp1 hp2 hp3 hp4   h
set_option maxRecDepth 100000 in
set_option maxHeartbeats 4000000 in
theorem c_X6_takeStop (X : XE) (p1 : Int) (p2 : Int) (p3 : Int) (p4 : Int) (hp1 : inR p1) (hp2 : inR p2) (hp3 : inR p3) (hp4 : inR p4) {σ : Mem} {Q : Int → Mem → Prop} (h : v_X6_takeStop p1 p2 p3 p4 σ Q) : CT X yX6_takeStop cX6_takeStop 5 none rm_X6_takeStop 0 [.ref (xad X 8), vI p1, vI p2, vI p3, vI p4] σ Q := by
  refine ct_of (own := RX6) (L := [(0, .ref (xad X 8)), (1, vI p1), (2, vI p2), (3, vI p3), (4, vI p4)]) rfl rfl (Nat.le_of_ble_eq_true rfl) rfl ?_
  refine ok_aload_n 0 (pc := 0) dX6_takeStop_0 rfl rfl ?_
  refine ok_wf (fun hw1 => ?_)
  refine ok_getI (pc := 1) dX6_takeStop_1 fl_X6_35 sh_8 (Nat.le_of_ble_eq_true rfl) rfl rfl ?_
  refine ok_iconst (pc := 4) dX6_takeStop_4 ?_
  refine ok_icmp_eq (tgt := 13) (pc := 5) dX6_takeStop_5 rfl (hw1 _ _) (r_lit rfl) (fun q2 => ?_) (fun q2 => ?_)
  · have h := iteT h q2
    exact w_X6_takeStop_13 X p1 p2 p3 p4 hp1 hp2 hp3 hp4   h
  · have h := iteF h q2
    refine ok_aload_n 0 (pc := 8) dX6_takeStop_8 rfl rfl ?_
    refine ok_iconst (pc := 9) dX6_takeStop_9 ?_
    refine ok_callVv (As := [vI 2]) (rest := []) (rm := rm_X6_fail) (pc := 10) dX6_takeStop_10 me_X6_fail ml_X6_48 (ci := 6) rfl sh_8 (Nat.le_of_ble_eq_true rfl) rfl des_X6_fail rfl ⟨rfl, rfl, rfl, rfl⟩ rfl rfl (c_X6_fail X 2 (r_lit rfl) h) (fun σ5 h => ?_)
    exact w_X6_takeStop_13 X p1 p2 p3 p4 hp1 hp2 hp3 hp4   h
theorem dX11_isMeasure_0 : decode cX11_isMeasure 0 = .ok (.iload_n 0, 1) := by decide +kernel
theorem dX11_isMeasure_1 : decode cX11_isMeasure 1 = .ok (.ifCond .lt 12, 3) := by decide +kernel
theorem dX11_isMeasure_4 : decode cX11_isMeasure 4 = .ok (.iload_n 0, 1) := by decide +kernel
theorem dX11_isMeasure_5 : decode cX11_isMeasure 5 = .ok (.iconst 4, 1) := by decide +kernel
theorem dX11_isMeasure_6 : decode cX11_isMeasure 6 = .ok (.if_icmp .ge 7, 3) := by decide +kernel
theorem dX11_isMeasure_9 : decode cX11_isMeasure 9 = .ok (.iconst 1, 1) := by decide +kernel
theorem dX11_isMeasure_10 : decode cX11_isMeasure 10 = .ok (.goto 4, 3) := by decide +kernel
theorem dX11_isMeasure_13 : decode cX11_isMeasure 13 = .ok (.iconst 0, 1) := by decide +kernel
theorem dX11_isMeasure_14 : decode cX11_isMeasure 14 = .ok (.ireturn, 1) := by decide +kernel
set_option maxRecDepth 100000 in
set_option maxHeartbeats 4000000 in
theorem c_X11_isMeasure (X : XE) (p0 : Int) (hp0 : inR p0) {σ : Mem} {Q : Int → Mem → Prop} (h : v_X11_isMeasure p0 σ Q) : CT X yX11_isMeasure cX11_isMeasure 1 (some .boolean) rm_X11_isMeasure 1 [vI p0] σ Q := by
  refine ct_of (own := RX11) (L := [(0, vI p0)]) rfl rfl (Nat.le_of_ble_eq_true rfl) rfl ?_
  refine ok_iload_n 0 (pc := 0) dX11_isMeasure_0 rfl rfl ?_
  refine ok_if_lt (tgt := 13) (pc := 1) dX11_isMeasure_1 rfl hp0 (fun q1 => ?_) (fun q1 => ?_)
  · have h := iteT h q1
    refine ok_iconst (pc := 13) dX11_isMeasure_13 ?_
    exact ok_iret (pc := 14) dX11_isMeasure_14 rfl rfl (nr_z (Or.inl rfl)) (r_lit rfl) h
  · have h := iteF h q1
    refine ok_iload_n 0 (pc := 4) dX11_isMeasure_4 rfl rfl ?_
    refine ok_iconst (pc := 5) dX11_isMeasure_5 ?_
    refine ok_icmp_ge (tgt := 13) (pc := 6) dX11_isMeasure_6 rfl hp0 (r_lit rfl) (fun q2 => ?_) (fun q2 => ?_)
    · have h := iteF h q2
      refine ok_iconst (pc := 13) dX11_isMeasure_13 ?_
      exact ok_iret (pc := 14) dX11_isMeasure_14 rfl rfl (nr_z (Or.inl rfl)) (r_lit rfl) h
    · have h := iteT h q2
      refine ok_iconst (pc := 9) dX11_isMeasure_9 ?_
      refine ok_goto (tgt := 14) (pc := 10) dX11_isMeasure_10 rfl ?_
      exact ok_iret (pc := 14) dX11_isMeasure_14 rfl rfl (nr_z (Or.inr rfl)) (r_lit rfl) h
theorem dX6_takeLetter_0 : decode cX6_takeLetter 0 = .ok (.aload_n 0, 1) := by decide +kernel
theorem dX6_takeLetter_1 : decode cX6_takeLetter 1 = .ok (.getfield 18, 3) := by decide +kernel
theorem dX6_takeLetter_4 : decode cX6_takeLetter 4 = .ok (.aload_n 0, 1) := by decide +kernel
theorem dX6_takeLetter_5 : decode cX6_takeLetter 5 = .ok (.getfield 83, 3) := by decide +kernel
theorem dX6_takeLetter_8 : decode cX6_takeLetter 8 = .ok (.invokevirtual 86, 3) := by decide +kernel
theorem dX6_takeLetter_11 : decode cX6_takeLetter 11 = .ok (.bipush 97, 2) := by decide +kernel
theorem dX6_takeLetter_13 : decode cX6_takeLetter 13 = .ok (.isub, 1) := by decide +kernel
theorem dX6_takeLetter_14 : decode cX6_takeLetter 14 = .ok (.istore_n 3, 1) := by decide +kernel
theorem dX6_takeLetter_15 : decode cX6_takeLetter 15 = .ok (.aload_n 0, 1) := by decide +kernel
theorem dX6_takeLetter_16 : decode cX6_takeLetter 16 = .ok (.getfield 35, 3) := by decide +kernel
theorem dX6_takeLetter_19 : decode cX6_takeLetter 19 = .ok (.iconst 1, 1) := by decide +kernel
theorem dX6_takeLetter_20 : decode cX6_takeLetter 20 = .ok (.if_icmp .ne 27, 3) := by decide +kernel
theorem dX6_takeLetter_23 : decode cX6_takeLetter 23 = .ok (.aload_n 0, 1) := by decide +kernel
theorem dX6_takeLetter_24 : decode cX6_takeLetter 24 = .ok (.getfield 29, 3) := by decide +kernel
theorem dX6_takeLetter_27 : decode cX6_takeLetter 27 = .ok (.aload_n 0, 1) := by decide +kernel
theorem dX6_takeLetter_28 : decode cX6_takeLetter 28 = .ok (.getfield 83, 3) := by decide +kernel
theorem dX6_takeLetter_31 : decode cX6_takeLetter 31 = .ok (.isub, 1) := by decide +kernel
theorem dX6_takeLetter_32 : decode cX6_takeLetter 32 = .ok (.iconst 1, 1) := by decide +kernel
theorem dX6_takeLetter_33 : decode cX6_takeLetter 33 = .ok (.if_icmp .ne 14, 3) := by decide +kernel
theorem dX6_takeLetter_36 : decode cX6_takeLetter 36 = .ok (.iload_n 3, 1) := by decide +kernel
theorem dX6_takeLetter_37 : decode cX6_takeLetter 37 = .ok (.invokestatic 92, 3) := by decide +kernel
theorem dX6_takeLetter_40 : decode cX6_takeLetter 40 = .ok (.ifCond .eq 7, 3) := by decide +kernel
theorem dX6_takeLetter_43 : decode cX6_takeLetter 43 = .ok (.iconst 1, 1) := by decide +kernel
theorem dX6_takeLetter_44 : decode cX6_takeLetter 44 = .ok (.goto 4, 3) := by decide +kernel
theorem dX6_takeLetter_47 : decode cX6_takeLetter 47 = .ok (.iconst 0, 1) := by decide +kernel
theorem dX6_takeLetter_48 : decode cX6_takeLetter 48 = .ok (.istore 4, 2) := by decide +kernel
theorem dX6_takeLetter_50 : decode cX6_takeLetter 50 = .ok (.iload 4, 2) := by decide +kernel
theorem dX6_takeLetter_52 : decode cX6_takeLetter 52 = .ok (.ifCond .ne 8, 3) := by decide +kernel
theorem dX6_takeLetter_55 : decode cX6_takeLetter 55 = .ok (.aload_n 0, 1) := by decide +kernel
theorem dX6_takeLetter_56 : decode cX6_takeLetter 56 = .ok (.iconst 2, 1) := by decide +kernel
theorem dX6_takeLetter_57 : decode cX6_takeLetter 57 = .ok (.invokevirtual 48, 3) := by decide +kernel
theorem dX6_takeLetter_60 : decode cX6_takeLetter 60 = .ok (.aload_n 0, 1) := by decide +kernel
theorem dX6_takeLetter_61 : decode cX6_takeLetter 61 = .ok (.iload_n 1, 1) := by decide +kernel
theorem dX6_takeLetter_62 : decode cX6_takeLetter 62 = .ok (.iload_n 3, 1) := by decide +kernel
theorem dX6_takeLetter_63 : decode cX6_takeLetter 63 = .ok (.iadd, 1) := by decide +kernel
theorem dX6_takeLetter_64 : decode cX6_takeLetter 64 = .ok (.iload_n 2, 1) := by decide +kernel
theorem dX6_takeLetter_65 : decode cX6_takeLetter 65 = .ok (.invokevirtual 79, 3) := by decide +kernel
theorem dX6_takeLetter_68 : decode cX6_takeLetter 68 = .ok (.aload_n 0, 1) := by decide +kernel
theorem dX6_takeLetter_69 : decode cX6_takeLetter 69 = .ok (.invokevirtual 32, 3) := by decide +kernel
theorem dX6_takeLetter_72 : decode cX6_takeLetter 72 = .ok (.iload_n 1, 1) := by decide +kernel
theorem dX6_takeLetter_73 : decode cX6_takeLetter 73 = .ok (.iload_n 3, 1) := by decide +kernel
theorem dX6_takeLetter_74 : decode cX6_takeLetter 74 = .ok (.iadd, 1) := by decide +kernel
theorem dX6_takeLetter_75 : decode cX6_takeLetter 75 = .ok (.ireturn, 1) := by decide +kernel
set_option maxRecDepth 100000 in
set_option maxHeartbeats 4000000 in
theorem w_X6_takeLetter_60 (X : XE) (p1 : Int) (p2 : Int) (hp1 : inR p1) (hp2 : inR p2) (x3 : Int) (hx3 : inR x3) {Q : Int → Mem → Prop} {σ : Mem} (h : j_X6_takeLetter_60 p1 p2 Q x3 σ) : ok X rm_X6_takeLetter RX6 cX6_takeLetter 5 (some .int) 1 Q 60 [(0, .ref (xad X 8)), (1, vI p1), (2, vI p2), (3, vI x3)] [] σ := by
  refine ok_aload_n 0 (pc := 60) dX6_takeLetter_60 rfl rfl ?_
  refine ok_iload_n 1 (pc := 61) dX6_takeLetter_61 rfl rfl ?_
  refine ok_iload_n 3 (pc := 62) dX6_takeLetter_62 rfl rfl ?_
  refine ok_iadd (pc := 63) dX6_takeLetter_63 ?_
  refine ok_iload_n 2 (pc := 64) dX6_takeLetter_64 rfl rfl ?_
  obtain ⟨h1, h⟩ := h
  refine ok_callVv (As := [vI (p1 + x3), vI p2]) (rest := []) (rm := rm_X6_needNew) (pc := 65) dX6_takeLetter_65 me_X6_needNew ml_X6_79 (ci := 6) rfl sh_8 (Nat.le_of_ble_eq_true rfl) rfl des_X6_needNew rfl ⟨rfl, rfl, rfl, rfl⟩ rfl rfl (c_X6_needNew X (p1 + x3) p2 h1 hp2 h) (fun σ4 h => ?_)
  refine ok_aload_n 0 (pc := 68) dX6_takeLetter_68 rfl rfl ?_
  refine ok_callVv (As := []) (rest := []) (rm := rm_X6_step) (pc := 69) dX6_takeLetter_69 me_X6_step ml_X6_32 (ci := 6) rfl sh_8 (Nat.le_of_ble_eq_true rfl) rfl des_X6_step rfl ⟨rfl, rfl, rfl, rfl⟩ rfl rfl (c_X6_step X h) (fun σ7 h => ?_)
  refine ok_iload_n 1 (pc := 72) dX6_takeLetter_72 rfl rfl ?_
  refine ok_iload_n 3 (pc := 73) dX6_takeLetter_73 rfl rfl ?_
  refine ok_iadd (pc := 74) dX6_takeLetter_74 ?_
  exact ok_iret (pc := 75) dX6_takeLetter_75 rfl rfl rfl h1 h
set_option maxRecDepth 100000 in
set_option maxHeartbeats 4000000 in
theorem w_X6_takeLetter_48 (X : XE) (p1 : Int) (p2 : Int) (hp1 : inR p1) (hp2 : inR p2) (x3 : Int) (s0 : Int) (hx3 : inR x3) (hs0 : inR s0) {Q : Int → Mem → Prop} {σ : Mem} (h : j_X6_takeLetter_48 p1 p2 Q x3 s0 σ) : ok X rm_X6_takeLetter RX6 cX6_takeLetter 5 (some .int) 1 Q 48 [(0, .ref (xad X 8)), (1, vI p1), (2, vI p2), (3, vI x3)] [vI s0] σ := by
  refine ok_istore (L' := [(4, vI s0), (0, .ref (xad X 8)), (1, vI p1), (2, vI p2), (3, vI x3)]) (pc := 48) dX6_takeLetter_48 rfl rfl ?_
  refine ok_iload 0 (pc := 50) dX6_takeLetter_50 rfl ?_
  refine ok_if_ne (tgt := 60) (pc := 52) dX6_takeLetter_52 rfl hs0 (fun q1 => ?_) (fun q1 => ?_)
  · have h := iteF h q1
    refine ok_sub (L' := [(0, .ref (xad X 8)), (1, vI p1), (2, vI p2), (3, vI x3)]) [1,2,3,4] rfl ?_
    exact w_X6_takeLetter_60 X p1 p2 hp1 hp2 x3 hx3 h
  · have h := iteT h q1
    refine ok_aload_n 1 (pc := 55) dX6_takeLetter_55 rfl rfl ?_
    refine ok_iconst (pc := 56) dX6_takeLetter_56 ?_
    refine ok_callVv (As := [vI 2]) (rest := []) (rm := rm_X6_fail) (pc := 57) dX6_takeLetter_57 me_X6_fail ml_X6_48 (ci := 6) rfl sh_8 (Nat.le_of_ble_eq_true rfl) rfl des_X6_fail rfl ⟨rfl, rfl, rfl, rfl⟩ rfl rfl (c_X6_fail X 2 (r_lit rfl) h) (fun σ4 h => ?_)
    refine ok_sub (L' := [(0, .ref (xad X 8)), (1, vI p1), (2, vI p2), (3, vI x3)]) [1,2,3,4] rfl ?_
    exact w_X6_takeLetter_60 X p1 p2 hp1 hp2 x3 hx3 h
set_option maxRecDepth 100000 in
set_option maxHeartbeats 4000000 in
theorem c_X6_takeLetter (X : XE) (p1 : Int) (p2 : Int) (hp1 : inR p1) (hp2 : inR p2) {σ : Mem} {Q : Int → Mem → Prop} (h : v_X6_takeLetter p1 p2 σ Q) : CT X yX6_takeLetter cX6_takeLetter 5 (some .int) rm_X6_takeLetter 1 [.ref (xad X 8), vI p1, vI p2] σ Q := by
  refine ct_of (own := RX6) (L := [(0, .ref (xad X 8)), (1, vI p1), (2, vI p2)]) rfl rfl (Nat.le_of_ble_eq_true rfl) rfl ?_
  refine ok_aload_n 0 (pc := 0) dX6_takeLetter_0 rfl rfl ?_
  refine ok_getR (pc := 1) dX6_takeLetter_1 fl_X6_18 sh_8 (Nat.le_of_ble_eq_true rfl) rfl rfl ?_
  refine ok_aload_n 0 (pc := 4) dX6_takeLetter_4 rfl rfl ?_
  refine ok_wf (fun hw1 => ?_)
  refine ok_getI (pc := 5) dX6_takeLetter_5 fl_X6_83 sh_8 (Nat.le_of_ble_eq_true rfl) rfl rfl ?_
  refine ok_callVi (As := [vI (σ 8 3)]) (rest := []) (rm := rm_X9_signAt) (pc := 8) dX6_takeLetter_8 me_X9_signAt ml_X6_86 (ci := 9) rfl sh_1 (Nat.le_of_ble_eq_true rfl) rfl des_X9_signAt rfl ⟨rfl, rfl, rfl, rfl⟩ rfl rfl (c_X9_signAt X (σ 8 3) (hw1 _ _) h) (fun r3 σ4 h2 h => ?_)
  refine ok_bipush (pc := 11) dX6_takeLetter_11 rfl ?_
  refine ok_isub (pc := 13) dX6_takeLetter_13 ?_
  refine ok_istore_n (L' := [(3, vI (r3 - 97)), (0, .ref (xad X 8)), (1, vI p1), (2, vI p2)]) (pc := 14) dX6_takeLetter_14 rfl rfl rfl ?_
  refine ok_aload_n 1 (pc := 15) dX6_takeLetter_15 rfl rfl ?_
  refine ok_wf (fun hw5 => ?_)
  refine ok_getI (pc := 16) dX6_takeLetter_16 fl_X6_35 sh_8 (Nat.le_of_ble_eq_true rfl) rfl rfl ?_
  refine ok_iconst (pc := 19) dX6_takeLetter_19 ?_
  refine ok_icmp_ne (tgt := 47) (pc := 20) dX6_takeLetter_20 rfl (hw5 _ _) (r_lit rfl) (fun q6 => ?_) (fun q6 => ?_)
  · have h := iteF h q6
    refine ok_iconst (pc := 47) dX6_takeLetter_47 ?_
    obtain ⟨h7, h⟩ := h
    refine ok_sub (L' := [(0, .ref (xad X 8)), (1, vI p1), (2, vI p2), (3, vI (r3 - 97))]) [1,2,3,0] rfl ?_
    exact w_X6_takeLetter_48 X p1 p2 hp1 hp2 (r3 - 97) 0 h7 (r_lit rfl) h
  · have h := iteT h q6
    refine ok_aload_n 1 (pc := 23) dX6_takeLetter_23 rfl rfl ?_
    refine ok_getI (pc := 24) dX6_takeLetter_24 fl_X6_29 sh_8 (Nat.le_of_ble_eq_true rfl) rfl rfl ?_
    refine ok_aload_n 1 (pc := 27) dX6_takeLetter_27 rfl rfl ?_
    refine ok_getI (pc := 28) dX6_takeLetter_28 fl_X6_83 sh_8 (Nat.le_of_ble_eq_true rfl) rfl rfl ?_
    refine ok_isub (pc := 31) dX6_takeLetter_31 ?_
    refine ok_iconst (pc := 32) dX6_takeLetter_32 ?_
    obtain ⟨h8, h⟩ := h
    refine ok_icmp_ne (tgt := 47) (pc := 33) dX6_takeLetter_33 rfl h8 (r_lit rfl) (fun q9 => ?_) (fun q9 => ?_)
    · have h := iteF h q9
      refine ok_iconst (pc := 47) dX6_takeLetter_47 ?_
      obtain ⟨h10, h⟩ := h
      refine ok_sub (L' := [(0, .ref (xad X 8)), (1, vI p1), (2, vI p2), (3, vI (r3 - 97))]) [1,2,3,0] rfl ?_
      exact w_X6_takeLetter_48 X p1 p2 hp1 hp2 (r3 - 97) 0 h10 (r_lit rfl) h
    · have h := iteT h q9
      refine ok_iload_n 0 (pc := 36) dX6_takeLetter_36 rfl rfl ?_
      obtain ⟨h11, h⟩ := h
      refine ok_callNi (As := [vI (r3 - 97)]) (rest := []) (rm := rm_X11_isMeasure) (pc := 37) dX6_takeLetter_37 me_X11_isMeasure xn_6 des_X11_isMeasure rfl ⟨rfl, rfl, rfl, rfl⟩ rfl rfl (c_X11_isMeasure X (r3 - 97) h11 h) (fun r13 σ14 h12 h => ?_)
      refine ok_if_eq (tgt := 47) (pc := 40) dX6_takeLetter_40 rfl h12 (fun q15 => ?_) (fun q15 => ?_)
      · simp only [if_pos q15] at h
        refine ok_iconst (pc := 47) dX6_takeLetter_47 ?_
        refine ok_sub (L' := [(0, .ref (xad X 8)), (1, vI p1), (2, vI p2), (3, vI (r3 - 97))]) [1,2,3,0] rfl ?_
        exact w_X6_takeLetter_48 X p1 p2 hp1 hp2 (r3 - 97) 0 h11 (r_lit rfl) h
      · simp only [if_neg q15] at h
        refine ok_iconst (pc := 43) dX6_takeLetter_43 ?_
        refine ok_goto (tgt := 48) (pc := 44) dX6_takeLetter_44 rfl ?_
        refine ok_sub (L' := [(0, .ref (xad X 8)), (1, vI p1), (2, vI p2), (3, vI (r3 - 97))]) [1,2,3,0] rfl ?_
        exact w_X6_takeLetter_48 X p1 p2 hp1 hp2 (r3 - 97) 1 h11 (r_lit rfl) h
theorem dX6_readLine_0 : decode cX6_readLine 0 = .ok (.iconst 0, 1) := by decide +kernel
theorem dX6_readLine_1 : decode cX6_readLine 1 = .ok (.istore_n 1, 1) := by decide +kernel
theorem dX6_readLine_2 : decode cX6_readLine 2 = .ok (.aload_n 0, 1) := by decide +kernel
theorem dX6_readLine_3 : decode cX6_readLine 3 = .ok (.ldc 38, 2) := by decide +kernel
theorem dX6_readLine_5 : decode cX6_readLine 5 = .ok (.invokevirtual 40, 3) := by decide +kernel
theorem dX6_readLine_8 : decode cX6_readLine 8 = .ok (.ifCond .eq 16, 3) := by decide +kernel
theorem dX6_readLine_11 : decode cX6_readLine 11 = .ok (.aload_n 0, 1) := by decide +kernel
theorem dX6_readLine_12 : decode cX6_readLine 12 = .ok (.invokevirtual 32, 3) := by decide +kernel
theorem dX6_readLine_15 : decode cX6_readLine 15 = .ok (.aload_n 0, 1) := by decide +kernel
theorem dX6_readLine_16 : decode cX6_readLine 16 = .ok (.iconst 0, 1) := by decide +kernel
theorem dX6_readLine_17 : decode cX6_readLine 17 = .ok (.sipush 9999, 3) := by decide +kernel
theorem dX6_readLine_20 : decode cX6_readLine 20 = .ok (.invokevirtual 65, 3) := by decide +kernel
theorem dX6_readLine_23 : decode cX6_readLine 23 = .ok (.istore_n 1, 1) := by decide +kernel
theorem dX6_readLine_24 : decode cX6_readLine 24 = .ok (.aload_n 0, 1) := by decide +kernel
theorem dX6_readLine_25 : decode cX6_readLine 25 = .ok (.getfield 26, 3) := by decide +kernel
theorem dX6_readLine_28 : decode cX6_readLine 28 = .ok (.ifCond .eq 4, 3) := by decide +kernel
theorem dX6_readLine_31 : decode cX6_readLine 31 = .ok (.return_, 1) := by decide +kernel
theorem dX6_readLine_32 : decode cX6_readLine 32 = .ok (.aload_n 0, 1) := by decide +kernel
theorem dX6_readLine_33 : decode cX6_readLine 33 = .ok (.ldc 55, 2) := by decide +kernel
theorem dX6_readLine_35 : decode cX6_readLine 35 = .ok (.invokevirtual 40, 3) := by decide +kernel
theorem dX6_readLine_38 : decode cX6_readLine 38 = .ok (.ifCond .eq 47, 3) := by decide +kernel
theorem dX6_readLine_41 : decode cX6_readLine 41 = .ok (.aload_n 0, 1) := by decide +kernel
theorem dX6_readLine_42 : decode cX6_readLine 42 = .ok (.invokevirtual 32, 3) := by decide +kernel
theorem dX6_readLine_45 : decode cX6_readLine 45 = .ok (.aload_n 0, 1) := by decide +kernel
theorem dX6_readLine_46 : decode cX6_readLine 46 = .ok (.iconst 0, 1) := by decide +kernel
theorem dX6_readLine_47 : decode cX6_readLine 47 = .ok (.iload_n 1, 1) := by decide +kernel
theorem dX6_readLine_48 : decode cX6_readLine 48 = .ok (.invokevirtual 69, 3) := by decide +kernel
theorem dX6_readLine_51 : decode cX6_readLine 51 = .ok (.istore_n 2, 1) := by decide +kernel
theorem dX6_readLine_52 : decode cX6_readLine 52 = .ok (.aload_n 0, 1) := by decide +kernel
theorem dX6_readLine_53 : decode cX6_readLine 53 = .ok (.iconst 1, 1) := by decide +kernel
theorem dX6_readLine_54 : decode cX6_readLine 54 = .ok (.sipush 999, 3) := by decide +kernel
theorem dX6_readLine_57 : decode cX6_readLine 57 = .ok (.invokevirtual 65, 3) := by decide +kernel
theorem dX6_readLine_60 : decode cX6_readLine 60 = .ok (.istore_n 3, 1) := by decide +kernel
theorem dX6_readLine_61 : decode cX6_readLine 61 = .ok (.aload_n 0, 1) := by decide +kernel
theorem dX6_readLine_62 : decode cX6_readLine 62 = .ok (.iload_n 3, 1) := by decide +kernel
theorem dX6_readLine_63 : decode cX6_readLine 63 = .ok (.iconst 1, 1) := by decide +kernel
theorem dX6_readLine_64 : decode cX6_readLine 64 = .ok (.iadd, 1) := by decide +kernel
theorem dX6_readLine_65 : decode cX6_readLine 65 = .ok (.sipush 999, 3) := by decide +kernel
theorem dX6_readLine_68 : decode cX6_readLine 68 = .ok (.invokevirtual 65, 3) := by decide +kernel
theorem dX6_readLine_71 : decode cX6_readLine 71 = .ok (.istore 4, 2) := by decide +kernel
theorem dX6_readLine_73 : decode cX6_readLine 73 = .ok (.aload_n 0, 1) := by decide +kernel
theorem dX6_readLine_74 : decode cX6_readLine 74 = .ok (.iload_n 2, 1) := by decide +kernel
theorem dX6_readLine_75 : decode cX6_readLine 75 = .ok (.iload_n 1, 1) := by decide +kernel
theorem dX6_readLine_76 : decode cX6_readLine 76 = .ok (.iload_n 3, 1) := by decide +kernel
theorem dX6_readLine_77 : decode cX6_readLine 77 = .ok (.iload 4, 2) := by decide +kernel
theorem dX6_readLine_79 : decode cX6_readLine 79 = .ok (.invokevirtual 72, 3) := by decide +kernel
theorem dX6_readLine_82 : decode cX6_readLine 82 = .ok (.goto 173, 3) := by decide +kernel
theorem dX6_readLine_85 : decode cX6_readLine 85 = .ok (.aload_n 0, 1) := by decide +kernel
theorem dX6_readLine_86 : decode cX6_readLine 86 = .ok (.ldc 57, 2) := by decide +kernel
theorem dX6_readLine_88 : decode cX6_readLine 88 = .ok (.invokevirtual 40, 3) := by decide +kernel
theorem dX6_readLine_91 : decode cX6_readLine 91 = .ok (.ifCond .eq 44, 3) := by decide +kernel
theorem dX6_readLine_94 : decode cX6_readLine 94 = .ok (.aload_n 0, 1) := by decide +kernel
theorem dX6_readLine_95 : decode cX6_readLine 95 = .ok (.invokevirtual 32, 3) := by decide +kernel
theorem dX6_readLine_98 : decode cX6_readLine 98 = .ok (.bipush 8, 2) := by decide +kernel
theorem dX6_readLine_100 : decode cX6_readLine 100 = .ok (.aload_n 0, 1) := by decide +kernel
theorem dX6_readLine_101 : decode cX6_readLine 101 = .ok (.iconst 0, 1) := by decide +kernel
theorem dX6_readLine_102 : decode cX6_readLine 102 = .ok (.iconst 5, 1) := by decide +kernel
theorem dX6_readLine_103 : decode cX6_readLine 103 = .ok (.invokevirtual 76, 3) := by decide +kernel
theorem dX6_readLine_106 : decode cX6_readLine 106 = .ok (.iadd, 1) := by decide +kernel
theorem dX6_readLine_107 : decode cX6_readLine 107 = .ok (.istore_n 2, 1) := by decide +kernel
theorem dX6_readLine_108 : decode cX6_readLine 108 = .ok (.aload_n 0, 1) := by decide +kernel
theorem dX6_readLine_109 : decode cX6_readLine 109 = .ok (.iload_n 2, 1) := by decide +kernel
theorem dX6_readLine_110 : decode cX6_readLine 110 = .ok (.iload_n 1, 1) := by decide +kernel
theorem dX6_readLine_111 : decode cX6_readLine 111 = .ok (.invokevirtual 79, 3) := by decide +kernel
theorem dX6_readLine_114 : decode cX6_readLine 114 = .ok (.aload_n 0, 1) := by decide +kernel
theorem dX6_readLine_115 : decode cX6_readLine 115 = .ok (.invokevirtual 32, 3) := by decide +kernel
theorem dX6_readLine_118 : decode cX6_readLine 118 = .ok (.aload_n 0, 1) := by decide +kernel
theorem dX6_readLine_119 : decode cX6_readLine 119 = .ok (.iload_n 2, 1) := by decide +kernel
theorem dX6_readLine_120 : decode cX6_readLine 120 = .ok (.iload_n 1, 1) := by decide +kernel
theorem dX6_readLine_121 : decode cX6_readLine 121 = .ok (.aload_n 0, 1) := by decide +kernel
theorem dX6_readLine_122 : decode cX6_readLine 122 = .ok (.iconst 0, 1) := by decide +kernel
theorem dX6_readLine_123 : decode cX6_readLine 123 = .ok (.bipush 20, 2) := by decide +kernel
theorem dX6_readLine_125 : decode cX6_readLine 125 = .ok (.invokevirtual 65, 3) := by decide +kernel
theorem dX6_readLine_128 : decode cX6_readLine 128 = .ok (.iconst 0, 1) := by decide +kernel
theorem dX6_readLine_129 : decode cX6_readLine 129 = .ok (.invokevirtual 72, 3) := by decide +kernel
theorem dX6_readLine_132 : decode cX6_readLine 132 = .ok (.goto 123, 3) := by decide +kernel
theorem dX6_readLine_135 : decode cX6_readLine 135 = .ok (.aload_n 0, 1) := by decide +kernel
theorem dX6_readLine_136 : decode cX6_readLine 136 = .ok (.ldc 59, 2) := by decide +kernel
theorem dX6_readLine_138 : decode cX6_readLine 138 = .ok (.invokevirtual 40, 3) := by decide +kernel
theorem dX6_readLine_141 : decode cX6_readLine 141 = .ok (.ifCond .eq 32, 3) := by decide +kernel
theorem dX6_readLine_144 : decode cX6_readLine 144 = .ok (.aload_n 0, 1) := by decide +kernel
theorem dX6_readLine_145 : decode cX6_readLine 145 = .ok (.invokevirtual 32, 3) := by decide +kernel
theorem dX6_readLine_148 : decode cX6_readLine 148 = .ok (.aload_n 0, 1) := by decide +kernel
theorem dX6_readLine_149 : decode cX6_readLine 149 = .ok (.bipush 14, 2) := by decide +kernel
theorem dX6_readLine_151 : decode cX6_readLine 151 = .ok (.iload_n 1, 1) := by decide +kernel
theorem dX6_readLine_152 : decode cX6_readLine 152 = .ok (.invokevirtual 69, 3) := by decide +kernel
theorem dX6_readLine_155 : decode cX6_readLine 155 = .ok (.istore_n 2, 1) := by decide +kernel
theorem dX6_readLine_156 : decode cX6_readLine 156 = .ok (.aload_n 0, 1) := by decide +kernel
theorem dX6_readLine_157 : decode cX6_readLine 157 = .ok (.iload_n 2, 1) := by decide +kernel
theorem dX6_readLine_158 : decode cX6_readLine 158 = .ok (.iload_n 1, 1) := by decide +kernel
theorem dX6_readLine_159 : decode cX6_readLine 159 = .ok (.aload_n 0, 1) := by decide +kernel
theorem dX6_readLine_160 : decode cX6_readLine 160 = .ok (.iconst 0, 1) := by decide +kernel
theorem dX6_readLine_161 : decode cX6_readLine 161 = .ok (.bipush 50, 2) := by decide +kernel
theorem dX6_readLine_163 : decode cX6_readLine 163 = .ok (.invokevirtual 65, 3) := by decide +kernel
theorem dX6_readLine_166 : decode cX6_readLine 166 = .ok (.iconst 0, 1) := by decide +kernel
theorem dX6_readLine_167 : decode cX6_readLine 167 = .ok (.invokevirtual 72, 3) := by decide +kernel
theorem dX6_readLine_170 : decode cX6_readLine 170 = .ok (.goto 85, 3) := by decide +kernel
theorem dX6_readLine_173 : decode cX6_readLine 173 = .ok (.aload_n 0, 1) := by decide +kernel
theorem dX6_readLine_174 : decode cX6_readLine 174 = .ok (.ldc 61, 2) := by decide +kernel
theorem dX6_readLine_176 : decode cX6_readLine 176 = .ok (.invokevirtual 40, 3) := by decide +kernel
theorem dX6_readLine_179 : decode cX6_readLine 179 = .ok (.ifCond .eq 33, 3) := by decide +kernel
theorem dX6_readLine_182 : decode cX6_readLine 182 = .ok (.aload_n 0, 1) := by decide +kernel
theorem dX6_readLine_183 : decode cX6_readLine 183 = .ok (.bipush 18, 2) := by decide +kernel
theorem dX6_readLine_185 : decode cX6_readLine 185 = .ok (.iload_n 1, 1) := by decide +kernel
theorem dX6_readLine_186 : decode cX6_readLine 186 = .ok (.invokevirtual 79, 3) := by decide +kernel
theorem dX6_readLine_189 : decode cX6_readLine 189 = .ok (.aload_n 0, 1) := by decide +kernel
theorem dX6_readLine_190 : decode cX6_readLine 190 = .ok (.invokevirtual 32, 3) := by decide +kernel
theorem dX6_readLine_193 : decode cX6_readLine 193 = .ok (.aload_n 0, 1) := by decide +kernel
theorem dX6_readLine_194 : decode cX6_readLine 194 = .ok (.bipush 18, 2) := by decide +kernel
theorem dX6_readLine_196 : decode cX6_readLine 196 = .ok (.iload_n 1, 1) := by decide +kernel
theorem dX6_readLine_197 : decode cX6_readLine 197 = .ok (.aload_n 0, 1) := by decide +kernel
theorem dX6_readLine_198 : decode cX6_readLine 198 = .ok (.iconst 1, 1) := by decide +kernel
theorem dX6_readLine_199 : decode cX6_readLine 199 = .ok (.sipush 9999, 3) := by decide +kernel
theorem dX6_readLine_202 : decode cX6_readLine 202 = .ok (.invokevirtual 65, 3) := by decide +kernel
theorem dX6_readLine_205 : decode cX6_readLine 205 = .ok (.iconst 0, 1) := by decide +kernel
theorem dX6_readLine_206 : decode cX6_readLine 206 = .ok (.invokevirtual 72, 3) := by decide +kernel
theorem dX6_readLine_209 : decode cX6_readLine 209 = .ok (.goto 46, 3) := by decide +kernel
theorem dX6_readLine_212 : decode cX6_readLine 212 = .ok (.aload_n 0, 1) := by decide +kernel
theorem dX6_readLine_213 : decode cX6_readLine 213 = .ok (.ldc 63, 2) := by decide +kernel
theorem dX6_readLine_215 : decode cX6_readLine 215 = .ok (.invokevirtual 40, 3) := by decide +kernel
theorem dX6_readLine_218 : decode cX6_readLine 218 = .ok (.ifCond .eq 32, 3) := by decide +kernel
theorem dX6_readLine_221 : decode cX6_readLine 221 = .ok (.aload_n 0, 1) := by decide +kernel
theorem dX6_readLine_222 : decode cX6_readLine 222 = .ok (.bipush 19, 2) := by decide +kernel
theorem dX6_readLine_224 : decode cX6_readLine 224 = .ok (.iload_n 1, 1) := by decide +kernel
theorem dX6_readLine_225 : decode cX6_readLine 225 = .ok (.invokevirtual 79, 3) := by decide +kernel
theorem dX6_readLine_228 : decode cX6_readLine 228 = .ok (.aload_n 0, 1) := by decide +kernel
theorem dX6_readLine_229 : decode cX6_readLine 229 = .ok (.invokevirtual 32, 3) := by decide +kernel
theorem dX6_readLine_232 : decode cX6_readLine 232 = .ok (.aload_n 0, 1) := by decide +kernel
theorem dX6_readLine_233 : decode cX6_readLine 233 = .ok (.bipush 19, 2) := by decide +kernel
theorem dX6_readLine_235 : decode cX6_readLine 235 = .ok (.iload_n 1, 1) := by decide +kernel
theorem dX6_readLine_236 : decode cX6_readLine 236 = .ok (.aload_n 0, 1) := by decide +kernel
theorem dX6_readLine_237 : decode cX6_readLine 237 = .ok (.iconst 0, 1) := by decide +kernel
theorem dX6_readLine_238 : decode cX6_readLine 238 = .ok (.bipush 20, 2) := by decide +kernel
theorem dX6_readLine_240 : decode cX6_readLine 240 = .ok (.invokevirtual 65, 3) := by decide +kernel
theorem dX6_readLine_243 : decode cX6_readLine 243 = .ok (.iconst 0, 1) := by decide +kernel
theorem dX6_readLine_244 : decode cX6_readLine 244 = .ok (.invokevirtual 72, 3) := by decide +kernel
theorem dX6_readLine_247 : decode cX6_readLine 247 = .ok (.goto 8, 3) := by decide +kernel
theorem dX6_readLine_250 : decode cX6_readLine 250 = .ok (.aload_n 0, 1) := by decide +kernel
theorem dX6_readLine_251 : decode cX6_readLine 251 = .ok (.iconst 2, 1) := by decide +kernel
theorem dX6_readLine_252 : decode cX6_readLine 252 = .ok (.invokevirtual 48, 3) := by decide +kernel
theorem dX6_readLine_255 : decode cX6_readLine 255 = .ok (.return_, 1) := by decide +kernel
set_option maxRecDepth 100000 in
set_option maxHeartbeats 4000000 in
theorem w_X6_readLine_24 (X : XE) (x1 : Int) (hx1 : inR x1) {Q : Int → Mem → Prop} {σ : Mem} (h : j_X6_readLine_24 Q x1 σ) : ok X rm_X6_readLine RX6 cX6_readLine 5 none 0 Q 24 [(0, .ref (xad X 8)), (1, vI x1)] [] σ := by
  refine ok_aload_n 0 (pc := 24) dX6_readLine_24 rfl rfl ?_
  refine ok_wf (fun hw1 => ?_)
  refine ok_getI (pc := 25) dX6_readLine_25 fl_X6_26 sh_8 (Nat.le_of_ble_eq_true rfl) rfl rfl ?_
  refine ok_if_eq (tgt := 32) (pc := 28) dX6_readLine_28 rfl (hw1 _ _) (fun q2 => ?_) (fun q2 => ?_)
  · have h := iteT h q2
    refine ok_aload_n 0 (pc := 32) dX6_readLine_32 rfl rfl ?_
    refine ok_ldcS (pc := 33) dX6_readLine_33 xr_55 ?_
    refine ok_callVi (As := [.ref (X.2.2.2.1 1)]) (rest := []) (rm := rm_X6_isName) (pc := 35) dX6_readLine_35 me_X6_isName ml_X6_40 (ci := 6) rfl sh_8 (Nat.le_of_ble_eq_true rfl) rfl des_X6_isName rfl ⟨rfl, rfl, rfl, rfl⟩ rfl rfl (c_X6_isName X 1 (Nat.le_of_ble_eq_true rfl) h) (fun r4 σ5 h3 h => ?_)
    refine ok_if_eq (tgt := 85) (pc := 38) dX6_readLine_38 rfl h3 (fun q6 => ?_) (fun q6 => ?_)
    · have h := iteT h q6
      refine ok_aload_n 0 (pc := 85) dX6_readLine_85 rfl rfl ?_
      refine ok_ldcS (pc := 86) dX6_readLine_86 xr_57 ?_
      refine ok_callVi (As := [.ref (X.2.2.2.1 2)]) (rest := []) (rm := rm_X6_isName) (pc := 88) dX6_readLine_88 me_X6_isName ml_X6_40 (ci := 6) rfl sh_8 (Nat.le_of_ble_eq_true rfl) rfl des_X6_isName rfl ⟨rfl, rfl, rfl, rfl⟩ rfl rfl (c_X6_isName X 2 (Nat.le_of_ble_eq_true rfl) h) (fun r8 σ9 h7 h => ?_)
      refine ok_if_eq (tgt := 135) (pc := 91) dX6_readLine_91 rfl h7 (fun q10 => ?_) (fun q10 => ?_)
      · have h := iteT h q10
        refine ok_aload_n 0 (pc := 135) dX6_readLine_135 rfl rfl ?_
        refine ok_ldcS (pc := 136) dX6_readLine_136 xr_59 ?_
        refine ok_callVi (As := [.ref (X.2.2.2.1 3)]) (rest := []) (rm := rm_X6_isName) (pc := 138) dX6_readLine_138 me_X6_isName ml_X6_40 (ci := 6) rfl sh_8 (Nat.le_of_ble_eq_true rfl) rfl des_X6_isName rfl ⟨rfl, rfl, rfl, rfl⟩ rfl rfl (c_X6_isName X 3 (Nat.le_of_ble_eq_true rfl) h) (fun r12 σ13 h11 h => ?_)
        refine ok_if_eq (tgt := 173) (pc := 141) dX6_readLine_141 rfl h11 (fun q14 => ?_) (fun q14 => ?_)
        · have h := iteT h q14
          refine ok_aload_n 0 (pc := 173) dX6_readLine_173 rfl rfl ?_
          refine ok_ldcS (pc := 174) dX6_readLine_174 xr_61 ?_
          refine ok_callVi (As := [.ref (X.2.2.2.1 4)]) (rest := []) (rm := rm_X6_isName) (pc := 176) dX6_readLine_176 me_X6_isName ml_X6_40 (ci := 6) rfl sh_8 (Nat.le_of_ble_eq_true rfl) rfl des_X6_isName rfl ⟨rfl, rfl, rfl, rfl⟩ rfl rfl (c_X6_isName X 4 (Nat.le_of_ble_eq_true rfl) h) (fun r16 σ17 h15 h => ?_)
          refine ok_if_eq (tgt := 212) (pc := 179) dX6_readLine_179 rfl h15 (fun q18 => ?_) (fun q18 => ?_)
          · have h := iteT h q18
            refine ok_aload_n 0 (pc := 212) dX6_readLine_212 rfl rfl ?_
            refine ok_ldcS (pc := 213) dX6_readLine_213 xr_63 ?_
            refine ok_callVi (As := [.ref (X.2.2.2.1 5)]) (rest := []) (rm := rm_X6_isName) (pc := 215) dX6_readLine_215 me_X6_isName ml_X6_40 (ci := 6) rfl sh_8 (Nat.le_of_ble_eq_true rfl) rfl des_X6_isName rfl ⟨rfl, rfl, rfl, rfl⟩ rfl rfl (c_X6_isName X 5 (Nat.le_of_ble_eq_true rfl) h) (fun r20 σ21 h19 h => ?_)
            refine ok_if_eq (tgt := 250) (pc := 218) dX6_readLine_218 rfl h19 (fun q22 => ?_) (fun q22 => ?_)
            · have h := iteT h q22
              refine ok_aload_n 0 (pc := 250) dX6_readLine_250 rfl rfl ?_
              refine ok_iconst (pc := 251) dX6_readLine_251 ?_
              refine ok_callVv (As := [vI 2]) (rest := []) (rm := rm_X6_fail) (pc := 252) dX6_readLine_252 me_X6_fail ml_X6_48 (ci := 6) rfl sh_8 (Nat.le_of_ble_eq_true rfl) rfl des_X6_fail rfl ⟨rfl, rfl, rfl, rfl⟩ rfl rfl (c_X6_fail X 2 (r_lit rfl) h) (fun σ25 h => ?_)
              exact ok_vret (pc := 255) dX6_readLine_255 rfl rfl h
            · have h := iteF h q22
              refine ok_aload_n 0 (pc := 221) dX6_readLine_221 rfl rfl ?_
              refine ok_bipush (pc := 222) dX6_readLine_222 rfl ?_
              refine ok_iload_n 1 (pc := 224) dX6_readLine_224 rfl rfl ?_
              refine ok_callVv (As := [vI 19, vI x1]) (rest := []) (rm := rm_X6_needNew) (pc := 225) dX6_readLine_225 me_X6_needNew ml_X6_79 (ci := 6) rfl sh_8 (Nat.le_of_ble_eq_true rfl) rfl des_X6_needNew rfl ⟨rfl, rfl, rfl, rfl⟩ rfl rfl (c_X6_needNew X 19 x1 (r_lit rfl) hx1 h) (fun σ28 h => ?_)
              refine ok_aload_n 0 (pc := 228) dX6_readLine_228 rfl rfl ?_
              refine ok_callVv (As := []) (rest := []) (rm := rm_X6_step) (pc := 229) dX6_readLine_229 me_X6_step ml_X6_32 (ci := 6) rfl sh_8 (Nat.le_of_ble_eq_true rfl) rfl des_X6_step rfl ⟨rfl, rfl, rfl, rfl⟩ rfl rfl (c_X6_step X h) (fun σ31 h => ?_)
              refine ok_aload_n 0 (pc := 232) dX6_readLine_232 rfl rfl ?_
              refine ok_bipush (pc := 233) dX6_readLine_233 rfl ?_
              refine ok_iload_n 1 (pc := 235) dX6_readLine_235 rfl rfl ?_
              refine ok_aload_n 0 (pc := 236) dX6_readLine_236 rfl rfl ?_
              refine ok_iconst (pc := 237) dX6_readLine_237 ?_
              refine ok_bipush (pc := 238) dX6_readLine_238 rfl ?_
              refine ok_callVi (As := [vI 0, vI 20]) (rest := [vI x1, vI 19, .ref (xad X 8)]) (rm := rm_X6_takeNumber) (pc := 240) dX6_readLine_240 me_X6_takeNumber ml_X6_65 (ci := 6) rfl sh_8 (Nat.le_of_ble_eq_true rfl) rfl des_X6_takeNumber rfl ⟨rfl, rfl, rfl, rfl⟩ rfl rfl (c_X6_takeNumber X 0 20 (r_lit rfl) (r_lit rfl) h) (fun r33 σ34 h32 h => ?_)
              refine ok_iconst (pc := 243) dX6_readLine_243 ?_
              refine ok_callVv (As := [vI 19, vI x1, vI r33, vI 0]) (rest := []) (rm := rm_X6_takeStop) (pc := 244) dX6_readLine_244 me_X6_takeStop ml_X6_72 (ci := 6) rfl sh_8 (Nat.le_of_ble_eq_true rfl) rfl des_X6_takeStop rfl ⟨rfl, rfl, rfl, rfl⟩ rfl rfl (c_X6_takeStop X 19 x1 r33 0 (r_lit rfl) hx1 h32 (r_lit rfl) h) (fun σ37 h => ?_)
              refine ok_goto (tgt := 255) (pc := 247) dX6_readLine_247 rfl ?_
              exact ok_vret (pc := 255) dX6_readLine_255 rfl rfl h
          · have h := iteF h q18
            refine ok_aload_n 0 (pc := 182) dX6_readLine_182 rfl rfl ?_
            refine ok_bipush (pc := 183) dX6_readLine_183 rfl ?_
            refine ok_iload_n 1 (pc := 185) dX6_readLine_185 rfl rfl ?_
            refine ok_callVv (As := [vI 18, vI x1]) (rest := []) (rm := rm_X6_needNew) (pc := 186) dX6_readLine_186 me_X6_needNew ml_X6_79 (ci := 6) rfl sh_8 (Nat.le_of_ble_eq_true rfl) rfl des_X6_needNew rfl ⟨rfl, rfl, rfl, rfl⟩ rfl rfl (c_X6_needNew X 18 x1 (r_lit rfl) hx1 h) (fun σ40 h => ?_)
            refine ok_aload_n 0 (pc := 189) dX6_readLine_189 rfl rfl ?_
            refine ok_callVv (As := []) (rest := []) (rm := rm_X6_step) (pc := 190) dX6_readLine_190 me_X6_step ml_X6_32 (ci := 6) rfl sh_8 (Nat.le_of_ble_eq_true rfl) rfl des_X6_step rfl ⟨rfl, rfl, rfl, rfl⟩ rfl rfl (c_X6_step X h) (fun σ43 h => ?_)
            refine ok_aload_n 0 (pc := 193) dX6_readLine_193 rfl rfl ?_
            refine ok_bipush (pc := 194) dX6_readLine_194 rfl ?_
            refine ok_iload_n 1 (pc := 196) dX6_readLine_196 rfl rfl ?_
            refine ok_aload_n 0 (pc := 197) dX6_readLine_197 rfl rfl ?_
            refine ok_iconst (pc := 198) dX6_readLine_198 ?_
            refine ok_sipush (pc := 199) dX6_readLine_199 rfl ?_
            refine ok_callVi (As := [vI 1, vI 9999]) (rest := [vI x1, vI 18, .ref (xad X 8)]) (rm := rm_X6_takeNumber) (pc := 202) dX6_readLine_202 me_X6_takeNumber ml_X6_65 (ci := 6) rfl sh_8 (Nat.le_of_ble_eq_true rfl) rfl des_X6_takeNumber rfl ⟨rfl, rfl, rfl, rfl⟩ rfl rfl (c_X6_takeNumber X 1 9999 (r_lit rfl) (r_lit rfl) h) (fun r45 σ46 h44 h => ?_)
            refine ok_iconst (pc := 205) dX6_readLine_205 ?_
            refine ok_callVv (As := [vI 18, vI x1, vI r45, vI 0]) (rest := []) (rm := rm_X6_takeStop) (pc := 206) dX6_readLine_206 me_X6_takeStop ml_X6_72 (ci := 6) rfl sh_8 (Nat.le_of_ble_eq_true rfl) rfl des_X6_takeStop rfl ⟨rfl, rfl, rfl, rfl⟩ rfl rfl (c_X6_takeStop X 18 x1 r45 0 (r_lit rfl) hx1 h44 (r_lit rfl) h) (fun σ49 h => ?_)
            refine ok_goto (tgt := 255) (pc := 209) dX6_readLine_209 rfl ?_
            exact ok_vret (pc := 255) dX6_readLine_255 rfl rfl h
        · have h := iteF h q14
          refine ok_aload_n 0 (pc := 144) dX6_readLine_144 rfl rfl ?_
          refine ok_callVv (As := []) (rest := []) (rm := rm_X6_step) (pc := 145) dX6_readLine_145 me_X6_step ml_X6_32 (ci := 6) rfl sh_8 (Nat.le_of_ble_eq_true rfl) rfl des_X6_step rfl ⟨rfl, rfl, rfl, rfl⟩ rfl rfl (c_X6_step X h) (fun σ52 h => ?_)
          refine ok_aload_n 0 (pc := 148) dX6_readLine_148 rfl rfl ?_
          refine ok_bipush (pc := 149) dX6_readLine_149 rfl ?_
          refine ok_iload_n 1 (pc := 151) dX6_readLine_151 rfl rfl ?_
          refine ok_callVi (As := [vI 14, vI x1]) (rest := []) (rm := rm_X6_takeLetter) (pc := 152) dX6_readLine_152 me_X6_takeLetter ml_X6_69 (ci := 6) rfl sh_8 (Nat.le_of_ble_eq_true rfl) rfl des_X6_takeLetter rfl ⟨rfl, rfl, rfl, rfl⟩ rfl rfl (c_X6_takeLetter X 14 x1 (r_lit rfl) hx1 h) (fun r54 σ55 h53 h => ?_)
          refine ok_istore_n (L' := [(2, vI r54), (0, .ref (xad X 8)), (1, vI x1)]) (pc := 155) dX6_readLine_155 rfl rfl rfl ?_
          refine ok_aload_n 1 (pc := 156) dX6_readLine_156 rfl rfl ?_
          refine ok_iload_n 0 (pc := 157) dX6_readLine_157 rfl rfl ?_
          refine ok_iload_n 2 (pc := 158) dX6_readLine_158 rfl rfl ?_
          refine ok_aload_n 1 (pc := 159) dX6_readLine_159 rfl rfl ?_
          refine ok_iconst (pc := 160) dX6_readLine_160 ?_
          refine ok_bipush (pc := 161) dX6_readLine_161 rfl ?_
          refine ok_callVi (As := [vI 0, vI 50]) (rest := [vI x1, vI r54, .ref (xad X 8)]) (rm := rm_X6_takeNumber) (pc := 163) dX6_readLine_163 me_X6_takeNumber ml_X6_65 (ci := 6) rfl sh_8 (Nat.le_of_ble_eq_true rfl) rfl des_X6_takeNumber rfl ⟨rfl, rfl, rfl, rfl⟩ rfl rfl (c_X6_takeNumber X 0 50 (r_lit rfl) (r_lit rfl) h) (fun r57 σ58 h56 h => ?_)
          refine ok_iconst (pc := 166) dX6_readLine_166 ?_
          refine ok_callVv (As := [vI r54, vI x1, vI r57, vI 0]) (rest := []) (rm := rm_X6_takeStop) (pc := 167) dX6_readLine_167 me_X6_takeStop ml_X6_72 (ci := 6) rfl sh_8 (Nat.le_of_ble_eq_true rfl) rfl des_X6_takeStop rfl ⟨rfl, rfl, rfl, rfl⟩ rfl rfl (c_X6_takeStop X r54 x1 r57 0 h53 hx1 h56 (r_lit rfl) h) (fun σ61 h => ?_)
          refine ok_goto (tgt := 255) (pc := 170) dX6_readLine_170 rfl ?_
          exact ok_vret (pc := 255) dX6_readLine_255 rfl rfl h
      · have h := iteF h q10
        refine ok_aload_n 0 (pc := 94) dX6_readLine_94 rfl rfl ?_
        refine ok_callVv (As := []) (rest := []) (rm := rm_X6_step) (pc := 95) dX6_readLine_95 me_X6_step ml_X6_32 (ci := 6) rfl sh_8 (Nat.le_of_ble_eq_true rfl) rfl des_X6_step rfl ⟨rfl, rfl, rfl, rfl⟩ rfl rfl (c_X6_step X h) (fun σ64 h => ?_)
        refine ok_bipush (pc := 98) dX6_readLine_98 rfl ?_
        refine ok_aload_n 0 (pc := 100) dX6_readLine_100 rfl rfl ?_
        refine ok_iconst (pc := 101) dX6_readLine_101 ?_
        refine ok_iconst (pc := 102) dX6_readLine_102 ?_
        refine ok_callVi (As := [vI 0, vI 5]) (rest := [vI 8]) (rm := rm_X6_needNumber) (pc := 103) dX6_readLine_103 me_X6_needNumber ml_X6_76 (ci := 6) rfl sh_8 (Nat.le_of_ble_eq_true rfl) rfl des_X6_needNumber rfl ⟨rfl, rfl, rfl, rfl⟩ rfl rfl (c_X6_needNumber X 0 5 (r_lit rfl) (r_lit rfl) h) (fun r66 σ67 h65 h => ?_)
        refine ok_iadd (pc := 106) dX6_readLine_106 ?_
        refine ok_wr ?_
        refine ok_istore_n (L' := [(2, vI (wr (8 + r66))), (0, .ref (xad X 8)), (1, vI x1)]) (pc := 107) dX6_readLine_107 rfl rfl rfl ?_
        refine ok_aload_n 1 (pc := 108) dX6_readLine_108 rfl rfl ?_
        refine ok_iload_n 0 (pc := 109) dX6_readLine_109 rfl rfl ?_
        refine ok_iload_n 2 (pc := 110) dX6_readLine_110 rfl rfl ?_
        refine ok_callVv (As := [vI (wr (8 + r66)), vI x1]) (rest := []) (rm := rm_X6_needNew) (pc := 111) dX6_readLine_111 me_X6_needNew ml_X6_79 (ci := 6) rfl sh_8 (Nat.le_of_ble_eq_true rfl) rfl des_X6_needNew rfl ⟨rfl, rfl, rfl, rfl⟩ rfl rfl (c_X6_needNew X (wr (8 + r66)) x1 (q_rng _) hx1 h) (fun σ70 h => ?_)
        refine ok_aload_n 1 (pc := 114) dX6_readLine_114 rfl rfl ?_
        refine ok_callVv (As := []) (rest := []) (rm := rm_X6_step) (pc := 115) dX6_readLine_115 me_X6_step ml_X6_32 (ci := 6) rfl sh_8 (Nat.le_of_ble_eq_true rfl) rfl des_X6_step rfl ⟨rfl, rfl, rfl, rfl⟩ rfl rfl (c_X6_step X h) (fun σ73 h => ?_)
        refine ok_aload_n 1 (pc := 118) dX6_readLine_118 rfl rfl ?_
        refine ok_iload_n 0 (pc := 119) dX6_readLine_119 rfl rfl ?_
        refine ok_iload_n 2 (pc := 120) dX6_readLine_120 rfl rfl ?_
        refine ok_aload_n 1 (pc := 121) dX6_readLine_121 rfl rfl ?_
        refine ok_iconst (pc := 122) dX6_readLine_122 ?_
        refine ok_bipush (pc := 123) dX6_readLine_123 rfl ?_
        refine ok_callVi (As := [vI 0, vI 20]) (rest := [vI x1, vI (wr (8 + r66)), .ref (xad X 8)]) (rm := rm_X6_takeNumber) (pc := 125) dX6_readLine_125 me_X6_takeNumber ml_X6_65 (ci := 6) rfl sh_8 (Nat.le_of_ble_eq_true rfl) rfl des_X6_takeNumber rfl ⟨rfl, rfl, rfl, rfl⟩ rfl rfl (c_X6_takeNumber X 0 20 (r_lit rfl) (r_lit rfl) h) (fun r75 σ76 h74 h => ?_)
        refine ok_iconst (pc := 128) dX6_readLine_128 ?_
        refine ok_callVv (As := [vI (wr (8 + r66)), vI x1, vI r75, vI 0]) (rest := []) (rm := rm_X6_takeStop) (pc := 129) dX6_readLine_129 me_X6_takeStop ml_X6_72 (ci := 6) rfl sh_8 (Nat.le_of_ble_eq_true rfl) rfl des_X6_takeStop rfl ⟨rfl, rfl, rfl, rfl⟩ rfl rfl (c_X6_takeStop X (wr (8 + r66)) x1 r75 0 (q_rng _) hx1 h74 (r_lit rfl) h) (fun σ79 h => ?_)
        refine ok_goto (tgt := 255) (pc := 132) dX6_readLine_132 rfl ?_
        exact ok_vret (pc := 255) dX6_readLine_255 rfl rfl h
    · have h := iteF h q6
      refine ok_aload_n 0 (pc := 41) dX6_readLine_41 rfl rfl ?_
      refine ok_callVv (As := []) (rest := []) (rm := rm_X6_step) (pc := 42) dX6_readLine_42 me_X6_step ml_X6_32 (ci := 6) rfl sh_8 (Nat.le_of_ble_eq_true rfl) rfl des_X6_step rfl ⟨rfl, rfl, rfl, rfl⟩ rfl rfl (c_X6_step X h) (fun σ82 h => ?_)
      refine ok_aload_n 0 (pc := 45) dX6_readLine_45 rfl rfl ?_
      refine ok_iconst (pc := 46) dX6_readLine_46 ?_
      refine ok_iload_n 1 (pc := 47) dX6_readLine_47 rfl rfl ?_
      refine ok_callVi (As := [vI 0, vI x1]) (rest := []) (rm := rm_X6_takeLetter) (pc := 48) dX6_readLine_48 me_X6_takeLetter ml_X6_69 (ci := 6) rfl sh_8 (Nat.le_of_ble_eq_true rfl) rfl des_X6_takeLetter rfl ⟨rfl, rfl, rfl, rfl⟩ rfl rfl (c_X6_takeLetter X 0 x1 (r_lit rfl) hx1 h) (fun r84 σ85 h83 h => ?_)
      refine ok_istore_n (L' := [(2, vI r84), (0, .ref (xad X 8)), (1, vI x1)]) (pc := 51) dX6_readLine_51 rfl rfl rfl ?_
      refine ok_aload_n 1 (pc := 52) dX6_readLine_52 rfl rfl ?_
      refine ok_iconst (pc := 53) dX6_readLine_53 ?_
      refine ok_sipush (pc := 54) dX6_readLine_54 rfl ?_
      refine ok_callVi (As := [vI 1, vI 999]) (rest := []) (rm := rm_X6_takeNumber) (pc := 57) dX6_readLine_57 me_X6_takeNumber ml_X6_65 (ci := 6) rfl sh_8 (Nat.le_of_ble_eq_true rfl) rfl des_X6_takeNumber rfl ⟨rfl, rfl, rfl, rfl⟩ rfl rfl (c_X6_takeNumber X 1 999 (r_lit rfl) (r_lit rfl) h) (fun r87 σ88 h86 h => ?_)
      refine ok_istore_n (L' := [(3, vI r87), (2, vI r84), (0, .ref (xad X 8)), (1, vI x1)]) (pc := 60) dX6_readLine_60 rfl rfl rfl ?_
      refine ok_aload_n 2 (pc := 61) dX6_readLine_61 rfl rfl ?_
      refine ok_iload_n 0 (pc := 62) dX6_readLine_62 rfl rfl ?_
      refine ok_iconst (pc := 63) dX6_readLine_63 ?_
      refine ok_iadd (pc := 64) dX6_readLine_64 ?_
      refine ok_wr ?_
      refine ok_sipush (pc := 65) dX6_readLine_65 rfl ?_
      refine ok_callVi (As := [vI (wr (r87 + 1)), vI 999]) (rest := []) (rm := rm_X6_takeNumber) (pc := 68) dX6_readLine_68 me_X6_takeNumber ml_X6_65 (ci := 6) rfl sh_8 (Nat.le_of_ble_eq_true rfl) rfl des_X6_takeNumber rfl ⟨rfl, rfl, rfl, rfl⟩ rfl rfl (c_X6_takeNumber X (wr (r87 + 1)) 999 (q_rng _) (r_lit rfl) h) (fun r90 σ91 h89 h => ?_)
      refine ok_istore (L' := [(4, vI r90), (3, vI r87), (2, vI r84), (0, .ref (xad X 8)), (1, vI x1)]) (pc := 71) dX6_readLine_71 rfl rfl ?_
      refine ok_aload_n 3 (pc := 73) dX6_readLine_73 rfl rfl ?_
      refine ok_iload_n 2 (pc := 74) dX6_readLine_74 rfl rfl ?_
      refine ok_iload_n 4 (pc := 75) dX6_readLine_75 rfl rfl ?_
      refine ok_iload_n 1 (pc := 76) dX6_readLine_76 rfl rfl ?_
      refine ok_iload 0 (pc := 77) dX6_readLine_77 rfl ?_
      refine ok_callVv (As := [vI r84, vI x1, vI r87, vI r90]) (rest := []) (rm := rm_X6_takeStop) (pc := 79) dX6_readLine_79 me_X6_takeStop ml_X6_72 (ci := 6) rfl sh_8 (Nat.le_of_ble_eq_true rfl) rfl des_X6_takeStop rfl ⟨rfl, rfl, rfl, rfl⟩ rfl rfl (c_X6_takeStop X r84 x1 r87 r90 h83 hx1 h86 h89 h) (fun σ94 h => ?_)
      refine ok_goto (tgt := 255) (pc := 82) dX6_readLine_82 rfl ?_
      exact ok_vret (pc := 255) dX6_readLine_255 rfl rfl h
  · have h := iteF h q2
    exact ok_vret (pc := 31) dX6_readLine_31 rfl rfl h
set_option maxRecDepth 100000 in
set_option maxHeartbeats 4000000 in
theorem c_X6_readLine (X : XE) {σ : Mem} {Q : Int → Mem → Prop} (h : v_X6_readLine σ Q) : CT X yX6_readLine cX6_readLine 5 none rm_X6_readLine 0 [.ref (xad X 8)] σ Q := by
  refine ct_of (own := RX6) (L := [(0, .ref (xad X 8))]) rfl rfl (Nat.le_of_ble_eq_true rfl) rfl ?_
  refine ok_iconst (pc := 0) dX6_readLine_0 ?_
  refine ok_istore_n (L' := [(1, vI 0), (0, .ref (xad X 8))]) (pc := 1) dX6_readLine_1 rfl rfl rfl ?_
  refine ok_aload_n 1 (pc := 2) dX6_readLine_2 rfl rfl ?_
  refine ok_ldcS (pc := 3) dX6_readLine_3 xr_38 ?_
  refine ok_callVi (As := [.ref (X.2.2.2.1 0)]) (rest := []) (rm := rm_X6_isName) (pc := 5) dX6_readLine_5 me_X6_isName ml_X6_40 (ci := 6) rfl sh_8 (Nat.le_of_ble_eq_true rfl) rfl des_X6_isName rfl ⟨rfl, rfl, rfl, rfl⟩ rfl rfl (c_X6_isName X 0 (Nat.le_of_ble_eq_true rfl) h) (fun r2 σ3 h1 h => ?_)
  refine ok_if_eq (tgt := 24) (pc := 8) dX6_readLine_8 rfl h1 (fun q4 => ?_) (fun q4 => ?_)
  · have h := iteT h q4
    refine ok_sub (L' := [(0, .ref (xad X 8)), (1, vI 0)]) [1,0] rfl ?_
    exact w_X6_readLine_24 X 0 (r_lit rfl) h
  · have h := iteF h q4
    refine ok_aload_n 1 (pc := 11) dX6_readLine_11 rfl rfl ?_
    refine ok_callVv (As := []) (rest := []) (rm := rm_X6_step) (pc := 12) dX6_readLine_12 me_X6_step ml_X6_32 (ci := 6) rfl sh_8 (Nat.le_of_ble_eq_true rfl) rfl des_X6_step rfl ⟨rfl, rfl, rfl, rfl⟩ rfl rfl (c_X6_step X h) (fun σ7 h => ?_)
    refine ok_aload_n 1 (pc := 15) dX6_readLine_15 rfl rfl ?_
    refine ok_iconst (pc := 16) dX6_readLine_16 ?_
    refine ok_sipush (pc := 17) dX6_readLine_17 rfl ?_
    refine ok_callVi (As := [vI 0, vI 9999]) (rest := []) (rm := rm_X6_takeNumber) (pc := 20) dX6_readLine_20 me_X6_takeNumber ml_X6_65 (ci := 6) rfl sh_8 (Nat.le_of_ble_eq_true rfl) rfl des_X6_takeNumber rfl ⟨rfl, rfl, rfl, rfl⟩ rfl rfl (c_X6_takeNumber X 0 9999 (r_lit rfl) (r_lit rfl) h) (fun r9 σ10 h8 h => ?_)
    refine ok_istore_n (L' := [(1, vI r9), (0, .ref (xad X 8))]) (pc := 23) dX6_readLine_23 rfl rfl rfl ?_
    refine ok_sub (L' := [(0, .ref (xad X 8)), (1, vI r9)]) [1,0] rfl ?_
    exact w_X6_readLine_24 X r9 h8 h
theorem dX6_isRule_0 : decode cX6_isRule 0 = .ok (.aload_n 0, 1) := by decide +kernel
theorem dX6_isRule_1 : decode cX6_isRule 1 = .ok (.ldc 55, 2) := by decide +kernel
theorem dX6_isRule_3 : decode cX6_isRule 3 = .ok (.invokevirtual 40, 3) := by decide +kernel
theorem dX6_isRule_6 : decode cX6_isRule 6 = .ok (.ifCond .ne 39, 3) := by decide +kernel
theorem dX6_isRule_9 : decode cX6_isRule 9 = .ok (.aload_n 0, 1) := by decide +kernel
theorem dX6_isRule_10 : decode cX6_isRule 10 = .ok (.ldc 57, 2) := by decide +kernel
theorem dX6_isRule_12 : decode cX6_isRule 12 = .ok (.invokevirtual 40, 3) := by decide +kernel
theorem dX6_isRule_15 : decode cX6_isRule 15 = .ok (.ifCond .ne 30, 3) := by decide +kernel
theorem dX6_isRule_18 : decode cX6_isRule 18 = .ok (.aload_n 0, 1) := by decide +kernel
theorem dX6_isRule_19 : decode cX6_isRule 19 = .ok (.ldc 59, 2) := by decide +kernel
theorem dX6_isRule_21 : decode cX6_isRule 21 = .ok (.invokevirtual 40, 3) := by decide +kernel
theorem dX6_isRule_24 : decode cX6_isRule 24 = .ok (.ifCond .ne 21, 3) := by decide +kernel
theorem dX6_isRule_27 : decode cX6_isRule 27 = .ok (.aload_n 0, 1) := by decide +kernel
theorem dX6_isRule_28 : decode cX6_isRule 28 = .ok (.ldc 61, 2) := by decide +kernel
theorem dX6_isRule_30 : decode cX6_isRule 30 = .ok (.invokevirtual 40, 3) := by decide +kernel
theorem dX6_isRule_33 : decode cX6_isRule 33 = .ok (.ifCond .ne 12, 3) := by decide +kernel
theorem dX6_isRule_36 : decode cX6_isRule 36 = .ok (.aload_n 0, 1) := by decide +kernel
theorem dX6_isRule_37 : decode cX6_isRule 37 = .ok (.ldc 63, 2) := by decide +kernel
theorem dX6_isRule_39 : decode cX6_isRule 39 = .ok (.invokevirtual 40, 3) := by decide +kernel
theorem dX6_isRule_42 : decode cX6_isRule 42 = .ok (.ifCond .eq 7, 3) := by decide +kernel
theorem dX6_isRule_45 : decode cX6_isRule 45 = .ok (.iconst 1, 1) := by decide +kernel
theorem dX6_isRule_46 : decode cX6_isRule 46 = .ok (.goto 4, 3) := by decide +kernel
theorem dX6_isRule_49 : decode cX6_isRule 49 = .ok (.iconst 0, 1) := by decide +kernel
theorem dX6_isRule_50 : decode cX6_isRule 50 = .ok (.ireturn, 1) := by decide +kernel
set_option maxRecDepth 100000 in
set_option maxHeartbeats 4000000 in
theorem c_X6_isRule (X : XE) {σ : Mem} {Q : Int → Mem → Prop} (h : v_X6_isRule σ Q) : CT X yX6_isRule cX6_isRule 1 (some .boolean) rm_X6_isRule 1 [.ref (xad X 8)] σ Q := by
  refine ct_of (own := RX6) (L := [(0, .ref (xad X 8))]) rfl rfl (Nat.le_of_ble_eq_true rfl) rfl ?_
  refine ok_aload_n 0 (pc := 0) dX6_isRule_0 rfl rfl ?_
  refine ok_ldcS (pc := 1) dX6_isRule_1 xr_55 ?_
  refine ok_callVi (As := [.ref (X.2.2.2.1 1)]) (rest := []) (rm := rm_X6_isName) (pc := 3) dX6_isRule_3 me_X6_isName ml_X6_40 (ci := 6) rfl sh_8 (Nat.le_of_ble_eq_true rfl) rfl des_X6_isName rfl ⟨rfl, rfl, rfl, rfl⟩ rfl rfl (c_X6_isName X 1 (Nat.le_of_ble_eq_true rfl) h) (fun r2 σ3 h1 h => ?_)
  refine ok_if_ne (tgt := 45) (pc := 6) dX6_isRule_6 rfl h1 (fun q4 => ?_) (fun q4 => ?_)
  · have h := iteF h q4
    refine ok_iconst (pc := 45) dX6_isRule_45 ?_
    refine ok_goto (tgt := 50) (pc := 46) dX6_isRule_46 rfl ?_
    exact ok_iret (pc := 50) dX6_isRule_50 rfl rfl (nr_z (Or.inr rfl)) (r_lit rfl) h
  · have h := iteT h q4
    refine ok_aload_n 0 (pc := 9) dX6_isRule_9 rfl rfl ?_
    refine ok_ldcS (pc := 10) dX6_isRule_10 xr_57 ?_
    refine ok_callVi (As := [.ref (X.2.2.2.1 2)]) (rest := []) (rm := rm_X6_isName) (pc := 12) dX6_isRule_12 me_X6_isName ml_X6_40 (ci := 6) rfl sh_8 (Nat.le_of_ble_eq_true rfl) rfl des_X6_isName rfl ⟨rfl, rfl, rfl, rfl⟩ rfl rfl (c_X6_isName X 2 (Nat.le_of_ble_eq_true rfl) h) (fun r6 σ7 h5 h => ?_)
    refine ok_if_ne (tgt := 45) (pc := 15) dX6_isRule_15 rfl h5 (fun q8 => ?_) (fun q8 => ?_)
    · have h := iteF h q8
      refine ok_iconst (pc := 45) dX6_isRule_45 ?_
      refine ok_goto (tgt := 50) (pc := 46) dX6_isRule_46 rfl ?_
      exact ok_iret (pc := 50) dX6_isRule_50 rfl rfl (nr_z (Or.inr rfl)) (r_lit rfl) h
    · have h := iteT h q8
      refine ok_aload_n 0 (pc := 18) dX6_isRule_18 rfl rfl ?_
      refine ok_ldcS (pc := 19) dX6_isRule_19 xr_59 ?_
      refine ok_callVi (As := [.ref (X.2.2.2.1 3)]) (rest := []) (rm := rm_X6_isName) (pc := 21) dX6_isRule_21 me_X6_isName ml_X6_40 (ci := 6) rfl sh_8 (Nat.le_of_ble_eq_true rfl) rfl des_X6_isName rfl ⟨rfl, rfl, rfl, rfl⟩ rfl rfl (c_X6_isName X 3 (Nat.le_of_ble_eq_true rfl) h) (fun r10 σ11 h9 h => ?_)
      refine ok_if_ne (tgt := 45) (pc := 24) dX6_isRule_24 rfl h9 (fun q12 => ?_) (fun q12 => ?_)
      · have h := iteF h q12
        refine ok_iconst (pc := 45) dX6_isRule_45 ?_
        refine ok_goto (tgt := 50) (pc := 46) dX6_isRule_46 rfl ?_
        exact ok_iret (pc := 50) dX6_isRule_50 rfl rfl (nr_z (Or.inr rfl)) (r_lit rfl) h
      · have h := iteT h q12
        refine ok_aload_n 0 (pc := 27) dX6_isRule_27 rfl rfl ?_
        refine ok_ldcS (pc := 28) dX6_isRule_28 xr_61 ?_
        refine ok_callVi (As := [.ref (X.2.2.2.1 4)]) (rest := []) (rm := rm_X6_isName) (pc := 30) dX6_isRule_30 me_X6_isName ml_X6_40 (ci := 6) rfl sh_8 (Nat.le_of_ble_eq_true rfl) rfl des_X6_isName rfl ⟨rfl, rfl, rfl, rfl⟩ rfl rfl (c_X6_isName X 4 (Nat.le_of_ble_eq_true rfl) h) (fun r14 σ15 h13 h => ?_)
        refine ok_if_ne (tgt := 45) (pc := 33) dX6_isRule_33 rfl h13 (fun q16 => ?_) (fun q16 => ?_)
        · have h := iteF h q16
          refine ok_iconst (pc := 45) dX6_isRule_45 ?_
          refine ok_goto (tgt := 50) (pc := 46) dX6_isRule_46 rfl ?_
          exact ok_iret (pc := 50) dX6_isRule_50 rfl rfl (nr_z (Or.inr rfl)) (r_lit rfl) h
        · have h := iteT h q16
          refine ok_aload_n 0 (pc := 36) dX6_isRule_36 rfl rfl ?_
          refine ok_ldcS (pc := 37) dX6_isRule_37 xr_63 ?_
          refine ok_callVi (As := [.ref (X.2.2.2.1 5)]) (rest := []) (rm := rm_X6_isName) (pc := 39) dX6_isRule_39 me_X6_isName ml_X6_40 (ci := 6) rfl sh_8 (Nat.le_of_ble_eq_true rfl) rfl des_X6_isName rfl ⟨rfl, rfl, rfl, rfl⟩ rfl rfl (c_X6_isName X 5 (Nat.le_of_ble_eq_true rfl) h) (fun r18 σ19 h17 h => ?_)
          refine ok_if_eq (tgt := 49) (pc := 42) dX6_isRule_42 rfl h17 (fun q20 => ?_) (fun q20 => ?_)
          · have h := iteT h q20
            refine ok_iconst (pc := 49) dX6_isRule_49 ?_
            exact ok_iret (pc := 50) dX6_isRule_50 rfl rfl (nr_z (Or.inl rfl)) (r_lit rfl) h
          · have h := iteF h q20
            refine ok_iconst (pc := 45) dX6_isRule_45 ?_
            refine ok_goto (tgt := 50) (pc := 46) dX6_isRule_46 rfl ?_
            exact ok_iret (pc := 50) dX6_isRule_50 rfl rfl (nr_z (Or.inr rfl)) (r_lit rfl) h
theorem dX6_readText_0 : decode cX6_readText 0 = .ok (.aload_n 0, 1) := by decide +kernel
theorem dX6_readText_1 : decode cX6_readText 1 = .ok (.getfield 12, 3) := by decide +kernel
theorem dX6_readText_4 : decode cX6_readText 4 = .ok (.iconst 0, 1) := by decide +kernel
theorem dX6_readText_5 : decode cX6_readText 5 = .ok (.putfield 22, 3) := by decide +kernel
theorem dX6_readText_8 : decode cX6_readText 8 = .ok (.aload_n 0, 1) := by decide +kernel
theorem dX6_readText_9 : decode cX6_readText 9 = .ok (.iconst 0, 1) := by decide +kernel
theorem dX6_readText_10 : decode cX6_readText 10 = .ok (.putfield 26, 3) := by decide +kernel
theorem dX6_readText_13 : decode cX6_readText 13 = .ok (.aload_n 0, 1) := by decide +kernel
theorem dX6_readText_14 : decode cX6_readText 14 = .ok (.iconst 0, 1) := by decide +kernel
theorem dX6_readText_15 : decode cX6_readText 15 = .ok (.putfield 29, 3) := by decide +kernel
theorem dX6_readText_18 : decode cX6_readText 18 = .ok (.aload_n 0, 1) := by decide +kernel
theorem dX6_readText_19 : decode cX6_readText 19 = .ok (.invokevirtual 32, 3) := by decide +kernel
theorem dX6_readText_22 : decode cX6_readText 22 = .ok (.iconst 0, 1) := by decide +kernel
theorem dX6_readText_23 : decode cX6_readText 23 = .ok (.istore_n 1, 1) := by decide +kernel
theorem dX6_readText_24 : decode cX6_readText 24 = .ok (.iload_n 1, 1) := by decide +kernel
theorem dX6_readText_25 : decode cX6_readText 25 = .ok (.bipush 16, 2) := by decide +kernel
theorem dX6_readText_27 : decode cX6_readText 27 = .ok (.if_icmp .gt 65, 3) := by decide +kernel
theorem dX6_readText_30 : decode cX6_readText 30 = .ok (.aload_n 0, 1) := by decide +kernel
theorem dX6_readText_31 : decode cX6_readText 31 = .ok (.getfield 26, 3) := by decide +kernel
theorem dX6_readText_34 : decode cX6_readText 34 = .ok (.ifCond .ne 58, 3) := by decide +kernel
theorem dX6_readText_37 : decode cX6_readText 37 = .ok (.aload_n 0, 1) := by decide +kernel
theorem dX6_readText_38 : decode cX6_readText 38 = .ok (.getfield 35, 3) := by decide +kernel
theorem dX6_readText_41 : decode cX6_readText 41 = .ok (.ifCond .eq 51, 3) := by decide +kernel
theorem dX6_readText_44 : decode cX6_readText 44 = .ok (.aload_n 0, 1) := by decide +kernel
theorem dX6_readText_45 : decode cX6_readText 45 = .ok (.ldc 38, 2) := by decide +kernel
theorem dX6_readText_47 : decode cX6_readText 47 = .ok (.invokevirtual 40, 3) := by decide +kernel
theorem dX6_readText_50 : decode cX6_readText 50 = .ok (.ifCond .ne 18, 3) := by decide +kernel
theorem dX6_readText_53 : decode cX6_readText 53 = .ok (.aload_n 0, 1) := by decide +kernel
theorem dX6_readText_54 : decode cX6_readText 54 = .ok (.invokevirtual 44, 3) := by decide +kernel
theorem dX6_readText_57 : decode cX6_readText 57 = .ok (.ifCond .ne 11, 3) := by decide +kernel
theorem dX6_readText_60 : decode cX6_readText 60 = .ok (.aload_n 0, 1) := by decide +kernel
theorem dX6_readText_61 : decode cX6_readText 61 = .ok (.iconst 2, 1) := by decide +kernel
theorem dX6_readText_62 : decode cX6_readText 62 = .ok (.invokevirtual 48, 3) := by decide +kernel
theorem dX6_readText_65 : decode cX6_readText 65 = .ok (.goto 21, 3) := by decide +kernel
theorem dX6_readText_68 : decode cX6_readText 68 = .ok (.iload_n 1, 1) := by decide +kernel
theorem dX6_readText_69 : decode cX6_readText 69 = .ok (.bipush 16, 2) := by decide +kernel
theorem dX6_readText_71 : decode cX6_readText 71 = .ok (.if_icmp .ne 11, 3) := by decide +kernel
theorem dX6_readText_74 : decode cX6_readText 74 = .ok (.aload_n 0, 1) := by decide +kernel
theorem dX6_readText_75 : decode cX6_readText 75 = .ok (.iconst 4, 1) := by decide +kernel
theorem dX6_readText_76 : decode cX6_readText 76 = .ok (.invokevirtual 48, 3) := by decide +kernel
theorem dX6_readText_79 : decode cX6_readText 79 = .ok (.goto 7, 3) := by decide +kernel
theorem dX6_readText_82 : decode cX6_readText 82 = .ok (.aload_n 0, 1) := by decide +kernel
theorem dX6_readText_83 : decode cX6_readText 83 = .ok (.invokevirtual 52, 3) := by decide +kernel
theorem dX6_readText_86 : decode cX6_readText 86 = .ok (.iinc 1 1, 3) := by decide +kernel
theorem dX6_readText_89 : decode cX6_readText 89 = .ok (.goto (-65), 3) := by decide +kernel
theorem dX6_readText_92 : decode cX6_readText 92 = .ok (.aload_n 0, 1) := by decide +kernel
theorem dX6_readText_93 : decode cX6_readText 93 = .ok (.getfield 26, 3) := by decide +kernel
theorem dX6_readText_96 : decode cX6_readText 96 = .ok (.ifCond .ne 7, 3) := by decide +kernel
theorem dX6_readText_99 : decode cX6_readText 99 = .ok (.iconst 1, 1) := by decide +kernel
theorem dX6_readText_100 : decode cX6_readText 100 = .ok (.goto 4, 3) := by decide +kernel
theorem dX6_readText_103 : decode cX6_readText 103 = .ok (.iconst 0, 1) := by decide +kernel
theorem dX6_readText_104 : decode cX6_readText 104 = .ok (.ireturn, 1) := by decide +kernel
set_option maxRecDepth 100000 in
set_option maxHeartbeats 4000000 in
theorem w_X6_readText_92 (X : XE) {Q : Int → Mem → Prop} {σ : Mem} (h : j_X6_readText_92 Q σ) : ok X rm_X6_readText RX6 cX6_readText 2 (some .boolean) 1 Q 92 [(0, .ref (xad X 8))] [] σ := by
  refine ok_aload_n 0 (pc := 92) dX6_readText_92 rfl rfl ?_
  refine ok_wf (fun hw1 => ?_)
  refine ok_getI (pc := 93) dX6_readText_93 fl_X6_26 sh_8 (Nat.le_of_ble_eq_true rfl) rfl rfl ?_
  refine ok_if_ne (tgt := 103) (pc := 96) dX6_readText_96 rfl (hw1 _ _) (fun q2 => ?_) (fun q2 => ?_)
  · have h := iteF h q2
    refine ok_iconst (pc := 103) dX6_readText_103 ?_
    exact ok_iret (pc := 104) dX6_readText_104 rfl rfl (nr_z (Or.inl rfl)) (r_lit rfl) h
  · have h := iteT h q2
    refine ok_iconst (pc := 99) dX6_readText_99 ?_
    refine ok_goto (tgt := 104) (pc := 100) dX6_readText_100 rfl ?_
    exact ok_iret (pc := 104) dX6_readText_104 rfl rfl (nr_z (Or.inr rfl)) (r_lit rfl) h
set_option maxRecDepth 100000 in
set_option maxHeartbeats 4000000 in
theorem w_X6_readText_68 (X : XE) (x1 : Int) (hx1 : inR x1) {K24 : Int → Mem → Prop} {Q : Int → Mem → Prop} (hK24 : ∀ (x1 : Int) (σ : Mem), inR x1 → K24 x1 σ → ok X rm_X6_readText RX6 cX6_readText 2 (some .boolean) 1 Q 24 [(0, .ref (xad X 8)), (1, vI x1)] [] σ) {σ : Mem} (h : j_X6_readText_68 K24 Q x1 σ) : ok X rm_X6_readText RX6 cX6_readText 2 (some .boolean) 1 Q 68 [(0, .ref (xad X 8)), (1, vI x1)] [] σ := by
  refine ok_iload_n 1 (pc := 68) dX6_readText_68 rfl rfl ?_
  refine ok_bipush (pc := 69) dX6_readText_69 rfl ?_
  refine ok_icmp_ne (tgt := 82) (pc := 71) dX6_readText_71 rfl hx1 (r_lit rfl) (fun q1 => ?_) (fun q1 => ?_)
  · have h := iteF h q1
    refine ok_aload_n 0 (pc := 82) dX6_readText_82 rfl rfl ?_
    refine ok_callVv (As := []) (rest := []) (rm := rm_X6_readLine) (pc := 83) dX6_readText_83 me_X6_readLine ml_X6_52 (ci := 6) rfl sh_8 (Nat.le_of_ble_eq_true rfl) rfl des_X6_readLine rfl ⟨rfl, rfl, rfl, rfl⟩ rfl rfl (c_X6_readLine X h) (fun σ4 h => ?_)
    refine ok_iinc (L' := [(1, vI (x1 + 1)), (0, .ref (xad X 8))]) 1 (pc := 86) dX6_readText_86 rfl rfl rfl ?_
    refine ok_goto (tgt := 24) (pc := 89) dX6_readText_89 rfl ?_
    obtain ⟨h5, h⟩ := h
    refine ok_sub (L' := [(0, .ref (xad X 8)), (1, vI (x1 + 1))]) [1,0] rfl ?_
    exact hK24 (x1 + 1) σ4 h5 h
  · have h := iteT h q1
    refine ok_aload_n 0 (pc := 74) dX6_readText_74 rfl rfl ?_
    refine ok_iconst (pc := 75) dX6_readText_75 ?_
    refine ok_callVv (As := [vI 4]) (rest := []) (rm := rm_X6_fail) (pc := 76) dX6_readText_76 me_X6_fail ml_X6_48 (ci := 6) rfl sh_8 (Nat.le_of_ble_eq_true rfl) rfl des_X6_fail rfl ⟨rfl, rfl, rfl, rfl⟩ rfl rfl (c_X6_fail X 4 (r_lit rfl) h) (fun σ8 h => ?_)
    refine ok_goto (tgt := 86) (pc := 79) dX6_readText_79 rfl ?_
    refine ok_iinc (L' := [(1, vI (x1 + 1)), (0, .ref (xad X 8))]) 1 (pc := 86) dX6_readText_86 rfl rfl rfl ?_
    refine ok_goto (tgt := 24) (pc := 89) dX6_readText_89 rfl ?_
    obtain ⟨h9, h⟩ := h
    refine ok_sub (L' := [(0, .ref (xad X 8)), (1, vI (x1 + 1))]) [1,0] rfl ?_
    exact hK24 (x1 + 1) σ8 h9 h
set_option maxRecDepth 100000 in
set_option maxHeartbeats 4000000 in
theorem w_X6_readText_24 (X : XE) {Q : Int → Mem → Prop} : ∀ (n : Nat) (x1 : Int) (σ : Mem), inR x1 → l_X6_readText_24 Q n x1 σ → ok X rm_X6_readText RX6 cX6_readText 2 (some .boolean) 1 Q 24 [(0, .ref (xad X 8)), (1, vI x1)] [] σ := by
  intro n
  induction n with
  | zero => intro x1 σ hx1 h; exact False.elim h
  | succ n ih =>
    intro x1 σ hx1 h
    refine ok_iload_n 1 (pc := 24) dX6_readText_24 rfl rfl ?_
    refine ok_bipush (pc := 25) dX6_readText_25 rfl ?_
    refine ok_icmp_gt (tgt := 92) (pc := 27) dX6_readText_27 rfl hx1 (r_lit rfl) (fun q1 => ?_) (fun q1 => ?_)
    · have h := iteT h q1
      refine ok_sub (L' := [(0, .ref (xad X 8))]) [0] rfl ?_
      exact w_X6_readText_92 X   h
    · have h := iteF h q1
      refine ok_aload_n 0 (pc := 30) dX6_readText_30 rfl rfl ?_
      refine ok_wf (fun hw2 => ?_)
      refine ok_getI (pc := 31) dX6_readText_31 fl_X6_26 sh_8 (Nat.le_of_ble_eq_true rfl) rfl rfl ?_
      refine ok_if_ne (tgt := 92) (pc := 34) dX6_readText_34 rfl (hw2 _ _) (fun q3 => ?_) (fun q3 => ?_)
      · have h := iteF h q3
        refine ok_sub (L' := [(0, .ref (xad X 8))]) [0] rfl ?_
        exact w_X6_readText_92 X   h
      · have h := iteT h q3
        refine ok_aload_n 0 (pc := 37) dX6_readText_37 rfl rfl ?_
        refine ok_getI (pc := 38) dX6_readText_38 fl_X6_35 sh_8 (Nat.le_of_ble_eq_true rfl) rfl rfl ?_
        refine ok_if_eq (tgt := 92) (pc := 41) dX6_readText_41 rfl (hw2 _ _) (fun q4 => ?_) (fun q4 => ?_)
        · have h := iteT h q4
          refine ok_sub (L' := [(0, .ref (xad X 8))]) [0] rfl ?_
          exact w_X6_readText_92 X   h
        · have h := iteF h q4
          refine ok_aload_n 0 (pc := 44) dX6_readText_44 rfl rfl ?_
          refine ok_ldcS (pc := 45) dX6_readText_45 xr_38 ?_
          refine ok_callVi (As := [.ref (X.2.2.2.1 0)]) (rest := []) (rm := rm_X6_isName) (pc := 47) dX6_readText_47 me_X6_isName ml_X6_40 (ci := 6) rfl sh_8 (Nat.le_of_ble_eq_true rfl) rfl des_X6_isName rfl ⟨rfl, rfl, rfl, rfl⟩ rfl rfl (c_X6_isName X 0 (Nat.le_of_ble_eq_true rfl) h) (fun r6 σ7 h5 h => ?_)
          refine ok_if_ne (tgt := 68) (pc := 50) dX6_readText_50 rfl h5 (fun q8 => ?_) (fun q8 => ?_)
          · have h := iteF h q8
            exact w_X6_readText_68 X x1 hx1 (fun x1_ σ_ hx1_ h_ => ih x1_ σ_ hx1_ h_) h
          · have h := iteT h q8
            refine ok_aload_n 0 (pc := 53) dX6_readText_53 rfl rfl ?_
            refine ok_callVi (As := []) (rest := []) (rm := rm_X6_isRule) (pc := 54) dX6_readText_54 me_X6_isRule ml_X6_44 (ci := 6) rfl sh_8 (Nat.le_of_ble_eq_true rfl) rfl des_X6_isRule rfl ⟨rfl, rfl, rfl, rfl⟩ rfl rfl (c_X6_isRule X h) (fun r10 σ11 h9 h => ?_)
            refine ok_if_ne (tgt := 68) (pc := 57) dX6_readText_57 rfl h9 (fun q12 => ?_) (fun q12 => ?_)
            · have h := iteF h q12
              exact w_X6_readText_68 X x1 hx1 (fun x1_ σ_ hx1_ h_ => ih x1_ σ_ hx1_ h_) h
            · have h := iteT h q12
              refine ok_aload_n 0 (pc := 60) dX6_readText_60 rfl rfl ?_
              refine ok_iconst (pc := 61) dX6_readText_61 ?_
              refine ok_callVv (As := [vI 2]) (rest := []) (rm := rm_X6_fail) (pc := 62) dX6_readText_62 me_X6_fail ml_X6_48 (ci := 6) rfl sh_8 (Nat.le_of_ble_eq_true rfl) rfl des_X6_fail rfl ⟨rfl, rfl, rfl, rfl⟩ rfl rfl (c_X6_fail X 2 (r_lit rfl) h) (fun σ15 h => ?_)
              refine ok_goto (tgt := 86) (pc := 65) dX6_readText_65 rfl ?_
              refine ok_iinc (L' := [(1, vI (x1 + 1)), (0, .ref (xad X 8))]) 1 (pc := 86) dX6_readText_86 rfl rfl rfl ?_
              refine ok_goto (tgt := 24) (pc := 89) dX6_readText_89 rfl ?_
              obtain ⟨h16, h⟩ := h
              refine ok_sub (L' := [(0, .ref (xad X 8)), (1, vI (x1 + 1))]) [1,0] rfl ?_
              exact ih (x1 + 1) σ15 h16 h
set_option maxRecDepth 100000 in
set_option maxHeartbeats 4000000 in
theorem c_X6_readText (X : XE) {σ : Mem} {Q : Int → Mem → Prop} (h : v_X6_readText σ Q) : CT X yX6_readText cX6_readText 2 (some .boolean) rm_X6_readText 1 [.ref (xad X 8)] σ Q := by
  refine ct_of (own := RX6) (L := [(0, .ref (xad X 8))]) rfl rfl (Nat.le_of_ble_eq_true rfl) rfl ?_
  refine ok_aload_n 0 (pc := 0) dX6_readText_0 rfl rfl ?_
  refine ok_getR (pc := 1) dX6_readText_1 fl_X6_12 sh_8 (Nat.le_of_ble_eq_true rfl) rfl rfl ?_
  refine ok_iconst (pc := 4) dX6_readText_4 ?_
  refine ok_putI (pc := 5) dX6_readText_5 fl_X6_22 fp_X7_4 sh_9 (Nat.le_of_ble_eq_true rfl) rfl rfl (r_lit rfl) rfl rfl ?_
  refine ok_aload_n 0 (pc := 8) dX6_readText_8 rfl rfl ?_
  refine ok_iconst (pc := 9) dX6_readText_9 ?_
  refine ok_putI (pc := 10) dX6_readText_10 fl_X6_26 fp_X6_2 sh_8 (Nat.le_of_ble_eq_true rfl) rfl rfl (r_lit rfl) rfl rfl ?_
  refine ok_aload_n 0 (pc := 13) dX6_readText_13 rfl rfl ?_
  refine ok_iconst (pc := 14) dX6_readText_14 ?_
  refine ok_putI (pc := 15) dX6_readText_15 fl_X6_29 fp_X6_4 sh_8 (Nat.le_of_ble_eq_true rfl) rfl rfl (r_lit rfl) rfl rfl ?_
  refine ok_aload_n 0 (pc := 18) dX6_readText_18 rfl rfl ?_
  refine ok_callVv (As := []) (rest := []) (rm := rm_X6_step) (pc := 19) dX6_readText_19 me_X6_step ml_X6_32 (ci := 6) rfl sh_8 (Nat.le_of_ble_eq_true rfl) rfl des_X6_step rfl ⟨rfl, rfl, rfl, rfl⟩ rfl rfl (c_X6_step X h) (fun σ3 h => ?_)
  refine ok_iconst (pc := 22) dX6_readText_22 ?_
  refine ok_istore_n (L' := [(1, vI 0), (0, .ref (xad X 8))]) (pc := 23) dX6_readText_23 rfl rfl rfl ?_
  refine ok_sub (L' := [(0, .ref (xad X 8)), (1, vI 0)]) [1,0] rfl ?_
  obtain ⟨n4, h⟩ := h
  exact w_X6_readText_24 X n4 0 σ3 (r_lit rfl) h
set_option maxRecDepth 100000 in
set_option maxHeartbeats 4000000 in
theorem c_X7_add_3 (X : XE) (p1 : Int) (p2 : Int) (p3 : Int) (p4 : Int) (hp1 : inR p1) (hp2 : inR p2) (hp3 : inR p3) (hp4 : inR p4) {σ : Mem} {Q : Int → Mem → Prop} (h : v_X7_add_3 p1 p2 p3 p4 σ Q) : CT X yX7_add cX7_add 5 none rm_X7_add_3 0 [.ref (xad X 3), vI p1, vI p2, vI p3, vI p4] σ Q := by
  refine ct_of (own := RX7) (L := [(0, .ref (xad X 3)), (1, vI p1), (2, vI p2), (3, vI p3), (4, vI p4)]) rfl rfl (Nat.le_of_ble_eq_true rfl) rfl ?_
  refine ok_aload_n 0 (pc := 0) dX7_add_0 rfl rfl ?_
  refine ok_wf (fun hw1 => ?_)
  refine ok_getI (pc := 1) dX7_add_1 fl_X7_24 sh_3 (Nat.le_of_ble_eq_true rfl) rfl rfl ?_
  refine ok_bipush (pc := 4) dX7_add_4 rfl ?_
  refine ok_icmp_ge (tgt := 60) (pc := 6) dX7_add_6 rfl (hw1 _ _) (r_lit rfl) (fun q2 => ?_) (fun q2 => ?_)
  · have h := iteF h q2
    exact ok_vret (pc := 60) dX7_add_60 rfl rfl h
  · have h := iteT h q2
    refine ok_aload_n 0 (pc := 9) dX7_add_9 rfl rfl ?_
    refine ok_getR (pc := 10) dX7_add_10 fl_X7_11 sh_3 (Nat.le_of_ble_eq_true rfl) rfl rfl ?_
    refine ok_aload_n 0 (pc := 13) dX7_add_13 rfl rfl ?_
    refine ok_getI (pc := 14) dX7_add_14 fl_X7_24 sh_3 (Nat.le_of_ble_eq_true rfl) rfl rfl ?_
    refine ok_iload_n 1 (pc := 17) dX7_add_17 rfl rfl ?_
    obtain ⟨h3, h⟩ := h
    obtain ⟨h4, h⟩ := h
    refine ok_iast (pc := 18) dX7_add_18 sh_4 (Nat.le_of_ble_eq_true rfl) rfl h3 h4 hp1 ?_
    refine ok_aload_n 0 (pc := 19) dX7_add_19 rfl rfl ?_
    refine ok_getR (pc := 20) dX7_add_20 fl_X7_15 sh_3 (Nat.le_of_ble_eq_true rfl) rfl rfl ?_
    refine ok_aload_n 0 (pc := 23) dX7_add_23 rfl rfl ?_
    refine ok_wf (fun hw5 => ?_)
    refine ok_getI (pc := 24) dX7_add_24 fl_X7_24 sh_3 (Nat.le_of_ble_eq_true rfl) rfl rfl ?_
    have e6 : ((mset σ 4 ((σ 3 4).toNat) p1) 3 4) = (σ 3 4) := (mset_ne (by omega))
    refine ok_top e6 ?_
    refine ok_iload_n 2 (pc := 27) dX7_add_27 rfl rfl ?_
    refine ok_iast (pc := 28) dX7_add_28 sh_5 (Nat.le_of_ble_eq_true rfl) rfl h3 h4 hp2 ?_
    refine ok_aload_n 0 (pc := 29) dX7_add_29 rfl rfl ?_
    refine ok_getR (pc := 30) dX7_add_30 fl_X7_18 sh_3 (Nat.le_of_ble_eq_true rfl) rfl rfl ?_
    refine ok_aload_n 0 (pc := 33) dX7_add_33 rfl rfl ?_
    refine ok_wf (fun hw8 => ?_)
    refine ok_getI (pc := 34) dX7_add_34 fl_X7_24 sh_3 (Nat.le_of_ble_eq_true rfl) rfl rfl ?_
    have e9 : ((mset (mset σ 4 ((σ 3 4).toNat) p1) 5 ((σ 3 4).toNat) p2) 3 4) = (σ 3 4) := (mset_ne (by omega)).trans (mset_ne (by omega))
    refine ok_top e9 ?_
    refine ok_iload_n 3 (pc := 37) dX7_add_37 rfl rfl ?_
    refine ok_iast (pc := 38) dX7_add_38 sh_6 (Nat.le_of_ble_eq_true rfl) rfl h3 h4 hp3 ?_
    refine ok_aload_n 0 (pc := 39) dX7_add_39 rfl rfl ?_
    refine ok_getR (pc := 40) dX7_add_40 fl_X7_21 sh_3 (Nat.le_of_ble_eq_true rfl) rfl rfl ?_
    refine ok_aload_n 0 (pc := 43) dX7_add_43 rfl rfl ?_
    refine ok_wf (fun hw11 => ?_)
    refine ok_getI (pc := 44) dX7_add_44 fl_X7_24 sh_3 (Nat.le_of_ble_eq_true rfl) rfl rfl ?_
    have e12 : ((mset (mset (mset σ 4 ((σ 3 4).toNat) p1) 5 ((σ 3 4).toNat) p2) 6 ((σ 3 4).toNat) p3) 3 4) = (σ 3 4) := (mset_ne (by omega)).trans ((mset_ne (by omega)).trans (mset_ne (by omega)))
    refine ok_top e12 ?_
    refine ok_iload 4 (pc := 47) dX7_add_47 rfl ?_
    refine ok_iast (pc := 49) dX7_add_49 sh_7 (Nat.le_of_ble_eq_true rfl) rfl h3 h4 hp4 ?_
    refine ok_aload_n 0 (pc := 50) dX7_add_50 rfl rfl ?_
    refine ok_dup (pc := 51) dX7_add_51 rfl ?_
    refine ok_wf (fun hw14 => ?_)
    refine ok_getI (pc := 52) dX7_add_52 fl_X7_24 sh_3 (Nat.le_of_ble_eq_true rfl) rfl rfl ?_
    have e15 : ((mset (mset (mset (mset σ 4 ((σ 3 4).toNat) p1) 5 ((σ 3 4).toNat) p2) 6 ((σ 3 4).toNat) p3) 7 ((σ 3 4).toNat) p4) 3 4) = (σ 3 4) := (mset_ne (by omega)).trans ((mset_ne (by omega)).trans ((mset_ne (by omega)).trans (mset_ne (by omega))))
    refine ok_top e15 ?_
    refine ok_iconst (pc := 55) dX7_add_55 ?_
    refine ok_iadd (pc := 56) dX7_add_56 ?_
    obtain ⟨h17, h⟩ := h
    refine ok_putI (pc := 57) dX7_add_57 fl_X7_24 fp_X7_4 sh_3 (Nat.le_of_ble_eq_true rfl) rfl rfl h17 rfl rfl ?_
    exact ok_vret (pc := 60) dX7_add_60 rfl rfl h
theorem dX7_become_0 : decode cX7_become 0 = .ok (.aload_n 0, 1) := by decide +kernel
theorem dX7_become_1 : decode cX7_become 1 = .ok (.iconst 0, 1) := by decide +kernel
theorem dX7_become_2 : decode cX7_become 2 = .ok (.putfield 24, 3) := by decide +kernel
theorem dX7_become_5 : decode cX7_become 5 = .ok (.iconst 0, 1) := by decide +kernel
theorem dX7_become_6 : decode cX7_become 6 = .ok (.istore_n 2, 1) := by decide +kernel
theorem dX7_become_7 : decode cX7_become 7 = .ok (.iload_n 2, 1) := by decide +kernel
theorem dX7_become_8 : decode cX7_become 8 = .ok (.aload_n 1, 1) := by decide +kernel
theorem dX7_become_9 : decode cX7_become 9 = .ok (.getfield 24, 3) := by decide +kernel
theorem dX7_become_12 : decode cX7_become 12 = .ok (.if_icmp .ge 37, 3) := by decide +kernel
theorem dX7_become_15 : decode cX7_become 15 = .ok (.aload_n 0, 1) := by decide +kernel
theorem dX7_become_16 : decode cX7_become 16 = .ok (.aload_n 1, 1) := by decide +kernel
theorem dX7_become_17 : decode cX7_become 17 = .ok (.getfield 11, 3) := by decide +kernel
theorem dX7_become_20 : decode cX7_become 20 = .ok (.iload_n 2, 1) := by decide +kernel
theorem dX7_become_21 : decode cX7_become 21 = .ok (.iaload, 1) := by decide +kernel
theorem dX7_become_22 : decode cX7_become 22 = .ok (.aload_n 1, 1) := by decide +kernel
theorem dX7_become_23 : decode cX7_become 23 = .ok (.getfield 15, 3) := by decide +kernel
theorem dX7_become_26 : decode cX7_become 26 = .ok (.iload_n 2, 1) := by decide +kernel
theorem dX7_become_27 : decode cX7_become 27 = .ok (.iaload, 1) := by decide +kernel
theorem dX7_become_28 : decode cX7_become 28 = .ok (.aload_n 1, 1) := by decide +kernel
theorem dX7_become_29 : decode cX7_become 29 = .ok (.getfield 18, 3) := by decide +kernel
theorem dX7_become_32 : decode cX7_become 32 = .ok (.iload_n 2, 1) := by decide +kernel
theorem dX7_become_33 : decode cX7_become 33 = .ok (.iaload, 1) := by decide +kernel
theorem dX7_become_34 : decode cX7_become 34 = .ok (.aload_n 1, 1) := by decide +kernel
theorem dX7_become_35 : decode cX7_become 35 = .ok (.getfield 21, 3) := by decide +kernel
theorem dX7_become_38 : decode cX7_become 38 = .ok (.iload_n 2, 1) := by decide +kernel
theorem dX7_become_39 : decode cX7_become 39 = .ok (.iaload, 1) := by decide +kernel
theorem dX7_become_40 : decode cX7_become 40 = .ok (.invokevirtual 28, 3) := by decide +kernel
theorem dX7_become_43 : decode cX7_become 43 = .ok (.iinc 2 1, 3) := by decide +kernel
theorem dX7_become_46 : decode cX7_become 46 = .ok (.goto (-39), 3) := by decide +kernel
theorem dX7_become_49 : decode cX7_become 49 = .ok (.return_, 1) := by decide +kernel
set_option maxRecDepth 100000 in
set_option maxHeartbeats 4000000 in
theorem w_X7_become_3_7 (X : XE) {Q : Int → Mem → Prop} : ∀ (n : Nat) (x2 : Int) (σ : Mem), inR x2 → l_X7_become_3_7 Q n x2 σ → ok X rm_X7_become_3 RX7 cX7_become 3 none 0 Q 7 [(0, .ref (xad X 3)), (1, .ref (xad X 9)), (2, vI x2)] [] σ := by
  intro n
  induction n with
  | zero => intro x2 σ hx2 h; exact False.elim h
  | succ n ih =>
    intro x2 σ hx2 h
    refine ok_iload_n 2 (pc := 7) dX7_become_7 rfl rfl ?_
    refine ok_aload_n 1 (pc := 8) dX7_become_8 rfl rfl ?_
    refine ok_wf (fun hw1 => ?_)
    refine ok_getI (pc := 9) dX7_become_9 fl_X7_24 sh_9 (Nat.le_of_ble_eq_true rfl) rfl rfl ?_
    refine ok_icmp_ge (tgt := 49) (pc := 12) dX7_become_12 rfl hx2 (hw1 _ _) (fun q2 => ?_) (fun q2 => ?_)
    · have h := iteF h q2
      exact ok_vret (pc := 49) dX7_become_49 rfl rfl h
    · have h := iteT h q2
      refine ok_aload_n 0 (pc := 15) dX7_become_15 rfl rfl ?_
      refine ok_aload_n 1 (pc := 16) dX7_become_16 rfl rfl ?_
      refine ok_getR (pc := 17) dX7_become_17 fl_X7_11 sh_9 (Nat.le_of_ble_eq_true rfl) rfl rfl ?_
      refine ok_iload_n 2 (pc := 20) dX7_become_20 rfl rfl ?_
      obtain ⟨h3, h⟩ := h
      obtain ⟨h4, h⟩ := h
      refine ok_iald (pc := 21) dX7_become_21 sh_10 (Nat.le_of_ble_eq_true rfl) rfl h3 h4 ?_
      refine ok_aload_n 1 (pc := 22) dX7_become_22 rfl rfl ?_
      refine ok_getR (pc := 23) dX7_become_23 fl_X7_15 sh_9 (Nat.le_of_ble_eq_true rfl) rfl rfl ?_
      refine ok_iload_n 2 (pc := 26) dX7_become_26 rfl rfl ?_
      refine ok_iald (pc := 27) dX7_become_27 sh_11 (Nat.le_of_ble_eq_true rfl) rfl h3 h4 ?_
      refine ok_aload_n 1 (pc := 28) dX7_become_28 rfl rfl ?_
      refine ok_getR (pc := 29) dX7_become_29 fl_X7_18 sh_9 (Nat.le_of_ble_eq_true rfl) rfl rfl ?_
      refine ok_iload_n 2 (pc := 32) dX7_become_32 rfl rfl ?_
      refine ok_iald (pc := 33) dX7_become_33 sh_12 (Nat.le_of_ble_eq_true rfl) rfl h3 h4 ?_
      refine ok_aload_n 1 (pc := 34) dX7_become_34 rfl rfl ?_
      refine ok_getR (pc := 35) dX7_become_35 fl_X7_21 sh_9 (Nat.le_of_ble_eq_true rfl) rfl rfl ?_
      refine ok_iload_n 2 (pc := 38) dX7_become_38 rfl rfl ?_
      refine ok_iald (pc := 39) dX7_become_39 sh_13 (Nat.le_of_ble_eq_true rfl) rfl h3 h4 ?_
      refine ok_callVv (As := [vI (σ 10 x2.toNat), vI (σ 11 x2.toNat), vI (σ 12 x2.toNat), vI (σ 13 x2.toNat)]) (rest := []) (rm := rm_X7_add_3) (pc := 40) dX7_become_40 me_X7_add ml_X7_28 (ci := 7) rfl sh_3 (Nat.le_of_ble_eq_true rfl) rfl des_X7_add rfl ⟨rfl, rfl, rfl, rfl⟩ rfl rfl (c_X7_add_3 X (σ 10 x2.toNat) (σ 11 x2.toNat) (σ 12 x2.toNat) (σ 13 x2.toNat) (hw1 _ _) (hw1 _ _) (hw1 _ _) (hw1 _ _) h) (fun σ7 h => ?_)
      refine ok_iinc (L' := [(2, vI (x2 + 1)), (0, .ref (xad X 3)), (1, .ref (xad X 9))]) 2 (pc := 43) dX7_become_43 rfl rfl rfl ?_
      refine ok_goto (tgt := 7) (pc := 46) dX7_become_46 rfl ?_
      obtain ⟨h8, h⟩ := h
      refine ok_sub (L' := [(0, .ref (xad X 3)), (1, .ref (xad X 9)), (2, vI (x2 + 1))]) [1,2,0] rfl ?_
      exact ih (x2 + 1) σ7 h8 h
set_option maxRecDepth 100000 in
set_option maxHeartbeats 4000000 in
theorem c_X7_become_3 (X : XE) {σ : Mem} {Q : Int → Mem → Prop} (h : v_X7_become_3 σ Q) : CT X yX7_become cX7_become 3 none rm_X7_become_3 0 [.ref (xad X 3), .ref (xad X 9)] σ Q := by
  refine ct_of (own := RX7) (L := [(0, .ref (xad X 3)), (1, .ref (xad X 9))]) rfl rfl (Nat.le_of_ble_eq_true rfl) rfl ?_
  refine ok_aload_n 0 (pc := 0) dX7_become_0 rfl rfl ?_
  refine ok_iconst (pc := 1) dX7_become_1 ?_
  refine ok_putI (pc := 2) dX7_become_2 fl_X7_24 fp_X7_4 sh_3 (Nat.le_of_ble_eq_true rfl) rfl rfl (r_lit rfl) rfl rfl ?_
  refine ok_iconst (pc := 5) dX7_become_5 ?_
  refine ok_istore_n (L' := [(2, vI 0), (0, .ref (xad X 3)), (1, .ref (xad X 9))]) (pc := 6) dX7_become_6 rfl rfl rfl ?_
  refine ok_sub (L' := [(0, .ref (xad X 3)), (1, .ref (xad X 9)), (2, vI 0)]) [1,2,0] rfl ?_
  obtain ⟨n1, h⟩ := h
  exact w_X7_become_3_7 X n1 0 (mset σ 3 4 0) (r_lit rfl) h
theorem dX11_text_0 : decode cX11_text 0 = .ok (.aload_n 0, 1) := by decide +kernel
theorem dX11_text_1 : decode cX11_text 1 = .ok (.getfield 28, 3) := by decide +kernel
theorem dX11_text_4 : decode cX11_text 4 = .ok (.invokevirtual 122, 3) := by decide +kernel
theorem dX11_text_7 : decode cX11_text 7 = .ok (.istore_n 1, 1) := by decide +kernel
theorem dX11_text_8 : decode cX11_text 8 = .ok (.aload_n 0, 1) := by decide +kernel
theorem dX11_text_9 : decode cX11_text 9 = .ok (.getfield 10, 3) := by decide +kernel
theorem dX11_text_12 : decode cX11_text 12 = .ok (.iconst 0, 1) := by decide +kernel
theorem dX11_text_13 : decode cX11_text 13 = .ok (.putfield 119, 3) := by decide +kernel
theorem dX11_text_16 : decode cX11_text 16 = .ok (.iload_n 1, 1) := by decide +kernel
theorem dX11_text_17 : decode cX11_text 17 = .ok (.ifCond .ne 14, 3) := by decide +kernel
theorem dX11_text_20 : decode cX11_text 20 = .ok (.bipush (-10), 2) := by decide +kernel
theorem dX11_text_22 : decode cX11_text 22 = .ok (.aload_n 0, 1) := by decide +kernel
theorem dX11_text_23 : decode cX11_text 23 = .ok (.getfield 28, 3) := by decide +kernel
theorem dX11_text_26 : decode cX11_text 26 = .ok (.getfield 126, 3) := by decide +kernel
theorem dX11_text_29 : decode cX11_text 29 = .ok (.isub, 1) := by decide +kernel
theorem dX11_text_30 : decode cX11_text 30 = .ok (.ireturn, 1) := by decide +kernel
theorem dX11_text_31 : decode cX11_text 31 = .ok (.aload_n 0, 1) := by decide +kernel
theorem dX11_text_32 : decode cX11_text 32 = .ok (.getfield 19, 3) := by decide +kernel
theorem dX11_text_35 : decode cX11_text 35 = .ok (.aload_n 0, 1) := by decide +kernel
theorem dX11_text_36 : decode cX11_text 36 = .ok (.getfield 28, 3) := by decide +kernel
theorem dX11_text_39 : decode cX11_text 39 = .ok (.getfield 129, 3) := by decide +kernel
theorem dX11_text_42 : decode cX11_text 42 = .ok (.invokevirtual 132, 3) := by decide +kernel
theorem dX11_text_45 : decode cX11_text 45 = .ok (.aload_n 0, 1) := by decide +kernel
theorem dX11_text_46 : decode cX11_text 46 = .ok (.getfield 37, 3) := by decide +kernel
theorem dX11_text_49 : decode cX11_text 49 = .ok (.invokevirtual 112, 3) := by decide +kernel
theorem dX11_text_52 : decode cX11_text 52 = .ok (.aload_n 0, 1) := by decide +kernel
theorem dX11_text_53 : decode cX11_text 53 = .ok (.getfield 19, 3) := by decide +kernel
theorem dX11_text_56 : decode cX11_text 56 = .ok (.getfield 135, 3) := by decide +kernel
theorem dX11_text_59 : decode cX11_text 59 = .ok (.ireturn, 1) := by decide +kernel
set_option maxRecDepth 100000 in
set_option maxHeartbeats 4000000 in
theorem c_X11_text (X : XE) {σ : Mem} {Q : Int → Mem → Prop} (h : v_X11_text σ Q) : CT X yX11_text cX11_text 2 (some .int) rm_X11_text 1 [.ref (xad X 0)] σ Q := by
  refine ct_of (own := RX11) (L := [(0, .ref (xad X 0))]) rfl rfl (Nat.le_of_ble_eq_true rfl) rfl ?_
  refine ok_aload_n 0 (pc := 0) dX11_text_0 rfl rfl ?_
  refine ok_getR (pc := 1) dX11_text_1 fl_X11_28 sh_0 (Nat.le_of_ble_eq_true rfl) rfl rfl ?_
  refine ok_callVi (As := []) (rest := []) (rm := rm_X6_readText) (pc := 4) dX11_text_4 me_X6_readText ml_X11_122 (ci := 6) rfl sh_8 (Nat.le_of_ble_eq_true rfl) rfl des_X6_readText rfl ⟨rfl, rfl, rfl, rfl⟩ rfl rfl (c_X6_readText X h) (fun r2 σ3 h1 h => ?_)
  refine ok_istore_n (L' := [(1, vI r2), (0, .ref (xad X 0))]) (pc := 7) dX11_text_7 rfl rfl rfl ?_
  refine ok_aload_n 1 (pc := 8) dX11_text_8 rfl rfl ?_
  refine ok_getR (pc := 9) dX11_text_9 fl_X11_10 sh_0 (Nat.le_of_ble_eq_true rfl) rfl rfl ?_
  refine ok_iconst (pc := 12) dX11_text_12 ?_
  refine ok_putI (pc := 13) dX11_text_13 fl_X11_119 fp_X9_1 sh_1 (Nat.le_of_ble_eq_true rfl) rfl rfl (r_lit rfl) rfl rfl ?_
  refine ok_iload_n 0 (pc := 16) dX11_text_16 rfl rfl ?_
  refine ok_if_ne (tgt := 31) (pc := 17) dX11_text_17 rfl h1 (fun q4 => ?_) (fun q4 => ?_)
  · have h := iteF h q4
    refine ok_aload_n 1 (pc := 31) dX11_text_31 rfl rfl ?_
    refine ok_getR (pc := 32) dX11_text_32 fl_X11_19 sh_0 (Nat.le_of_ble_eq_true rfl) rfl rfl ?_
    refine ok_aload_n 1 (pc := 35) dX11_text_35 rfl rfl ?_
    refine ok_getR (pc := 36) dX11_text_36 fl_X11_28 sh_0 (Nat.le_of_ble_eq_true rfl) rfl rfl ?_
    refine ok_getR (pc := 39) dX11_text_39 fl_X11_129 sh_8 (Nat.le_of_ble_eq_true rfl) rfl rfl ?_
    refine ok_callVv (As := [.ref (xad X 9)]) (rest := []) (rm := rm_X7_become_3) (pc := 42) dX11_text_42 me_X7_become ml_X11_132 (ci := 7) rfl sh_3 (Nat.le_of_ble_eq_true rfl) rfl des_X7_become rfl ⟨rfl, rfl, rfl, rfl⟩ rfl rfl (c_X7_become_3 X h) (fun σ7 h => ?_)
    refine ok_aload_n 1 (pc := 45) dX11_text_45 rfl rfl ?_
    refine ok_getR (pc := 46) dX11_text_46 fl_X11_37 sh_0 (Nat.le_of_ble_eq_true rfl) rfl rfl ?_
    refine ok_callVv (As := []) (rest := []) (rm := rm_X5_refresh) (pc := 49) dX11_text_49 me_X5_refresh ml_X11_112 (ci := 5) rfl sh_14 (Nat.le_of_ble_eq_true rfl) rfl des_X5_refresh rfl ⟨rfl, rfl, rfl, rfl⟩ rfl rfl (c_X5_refresh X h) (fun σ10 h => ?_)
    refine ok_aload_n 1 (pc := 52) dX11_text_52 rfl rfl ?_
    refine ok_getR (pc := 53) dX11_text_53 fl_X11_19 sh_0 (Nat.le_of_ble_eq_true rfl) rfl rfl ?_
    refine ok_wf (fun hw11 => ?_)
    refine ok_getI (pc := 56) dX11_text_56 fl_X11_135 sh_3 (Nat.le_of_ble_eq_true rfl) rfl rfl ?_
    exact ok_iret (pc := 59) dX11_text_59 rfl rfl rfl (hw11 _ _) h
  · have h := iteT h q4
    refine ok_bipush (pc := 20) dX11_text_20 rfl ?_
    refine ok_aload_n 1 (pc := 22) dX11_text_22 rfl rfl ?_
    refine ok_getR (pc := 23) dX11_text_23 fl_X11_28 sh_0 (Nat.le_of_ble_eq_true rfl) rfl rfl ?_
    refine ok_wf (fun hw12 => ?_)
    refine ok_getI (pc := 26) dX11_text_26 fl_X11_126 sh_8 (Nat.le_of_ble_eq_true rfl) rfl rfl ?_
    have e13 : ((mset σ3 1 1 0) 8 3) = (σ3 8 3) := (mset_ne (by omega))
    refine ok_top e13 ?_
    refine ok_isub (pc := 29) dX11_text_29 ?_
    obtain ⟨h15, h⟩ := h
    exact ok_iret (pc := 30) dX11_text_30 rfl rfl rfl h15 h
theorem dX11_fault_0 : decode cX11_fault 0 = .ok (.aload_n 0, 1) := by decide +kernel
theorem dX11_fault_1 : decode cX11_fault 1 = .ok (.getfield 28, 3) := by decide +kernel
theorem dX11_fault_4 : decode cX11_fault 4 = .ok (.getfield 138, 3) := by decide +kernel
theorem dX11_fault_7 : decode cX11_fault 7 = .ok (.ireturn, 1) := by decide +kernel
set_option maxRecDepth 100000 in
set_option maxHeartbeats 4000000 in
theorem c_X11_fault (X : XE) {σ : Mem} {Q : Int → Mem → Prop} (h : v_X11_fault σ Q) : CT X yX11_fault cX11_fault 1 (some .int) rm_X11_fault 1 [.ref (xad X 0)] σ Q := by
  refine ct_of (own := RX11) (L := [(0, .ref (xad X 0))]) rfl rfl (Nat.le_of_ble_eq_true rfl) rfl ?_
  refine ok_aload_n 0 (pc := 0) dX11_fault_0 rfl rfl ?_
  refine ok_getR (pc := 1) dX11_fault_1 fl_X11_28 sh_0 (Nat.le_of_ble_eq_true rfl) rfl rfl ?_
  refine ok_wf (fun hw1 => ?_)
  refine ok_getI (pc := 4) dX11_fault_4 fl_X11_138 sh_8 (Nat.le_of_ble_eq_true rfl) rfl rfl ?_
  exact ok_iret (pc := 7) dX11_fault_7 rfl rfl rfl (hw1 _ _) h
theorem dX11_rule_0 : decode cX11_rule 0 = .ok (.iload_n 1, 1) := by decide +kernel
theorem dX11_rule_1 : decode cX11_rule 1 = .ok (.ifCond .lt 16, 3) := by decide +kernel
theorem dX11_rule_4 : decode cX11_rule 4 = .ok (.iload_n 1, 1) := by decide +kernel
theorem dX11_rule_5 : decode cX11_rule 5 = .ok (.bipush 20, 2) := by decide +kernel
theorem dX11_rule_7 : decode cX11_rule 7 = .ok (.if_icmp .ge 10, 3) := by decide +kernel
theorem dX11_rule_10 : decode cX11_rule 10 = .ok (.iload_n 2, 1) := by decide +kernel
theorem dX11_rule_11 : decode cX11_rule 11 = .ok (.invokestatic 104, 3) := by decide +kernel
theorem dX11_rule_14 : decode cX11_rule 14 = .ok (.ifCond .ne 5, 3) := by decide +kernel
theorem dX11_rule_17 : decode cX11_rule 17 = .ok (.iconst (-1), 1) := by decide +kernel
theorem dX11_rule_18 : decode cX11_rule 18 = .ok (.ireturn, 1) := by decide +kernel
theorem dX11_rule_19 : decode cX11_rule 19 = .ok (.aload_n 0, 1) := by decide +kernel
theorem dX11_rule_20 : decode cX11_rule 20 = .ok (.getfield 19, 3) := by decide +kernel
theorem dX11_rule_23 : decode cX11_rule 23 = .ok (.iload_n 1, 1) := by decide +kernel
theorem dX11_rule_24 : decode cX11_rule 24 = .ok (.iload_n 2, 1) := by decide +kernel
theorem dX11_rule_25 : decode cX11_rule 25 = .ok (.invokevirtual 141, 3) := by decide +kernel
theorem dX11_rule_28 : decode cX11_rule 28 = .ok (.ireturn, 1) := by decide +kernel
set_option maxRecDepth 100000 in
set_option maxHeartbeats 4000000 in
theorem c_X11_rule (X : XE) (p1 : Int) (p2 : Int) (hp1 : inR p1) (hp2 : inR p2) {σ : Mem} {Q : Int → Mem → Prop} (h : v_X11_rule p1 p2 σ Q) : CT X yX11_rule cX11_rule 3 (some .int) rm_X11_rule 1 [.ref (xad X 0), vI p1, vI p2] σ Q := by
  refine ct_of (own := RX11) (L := [(0, .ref (xad X 0)), (1, vI p1), (2, vI p2)]) rfl rfl (Nat.le_of_ble_eq_true rfl) rfl ?_
  refine ok_iload_n 1 (pc := 0) dX11_rule_0 rfl rfl ?_
  refine ok_if_lt (tgt := 17) (pc := 1) dX11_rule_1 rfl hp1 (fun q1 => ?_) (fun q1 => ?_)
  · have h := iteT h q1
    refine ok_iconst (pc := 17) dX11_rule_17 ?_
    exact ok_iret (pc := 18) dX11_rule_18 rfl rfl rfl (r_lit rfl) h
  · have h := iteF h q1
    refine ok_iload_n 1 (pc := 4) dX11_rule_4 rfl rfl ?_
    refine ok_bipush (pc := 5) dX11_rule_5 rfl ?_
    refine ok_icmp_ge (tgt := 17) (pc := 7) dX11_rule_7 rfl hp1 (r_lit rfl) (fun q2 => ?_) (fun q2 => ?_)
    · have h := iteF h q2
      refine ok_iconst (pc := 17) dX11_rule_17 ?_
      exact ok_iret (pc := 18) dX11_rule_18 rfl rfl rfl (r_lit rfl) h
    · have h := iteT h q2
      refine ok_iload_n 2 (pc := 10) dX11_rule_10 rfl rfl ?_
      refine ok_callSi (As := [vI p2]) (rest := []) (rm := rm_X11_isDay) (pc := 11) dX11_rule_11 me_X11_isDay ml_X11_104 des_X11_isDay rfl ⟨rfl, rfl, rfl, rfl⟩ rfl rfl (c_X11_isDay X p2 hp2 h) (fun r4 σ5 h3 h => ?_)
      refine ok_if_ne (tgt := 19) (pc := 14) dX11_rule_14 rfl h3 (fun q6 => ?_) (fun q6 => ?_)
      · have h := iteF h q6
        refine ok_aload_n 0 (pc := 19) dX11_rule_19 rfl rfl ?_
        refine ok_getR (pc := 20) dX11_rule_20 fl_X11_19 sh_0 (Nat.le_of_ble_eq_true rfl) rfl rfl ?_
        refine ok_iload_n 1 (pc := 23) dX11_rule_23 rfl rfl ?_
        refine ok_iload_n 2 (pc := 24) dX11_rule_24 rfl rfl ?_
        refine ok_callVi (As := [vI p1, vI p2]) (rest := []) (rm := rm_X7_value_3) (pc := 25) dX11_rule_25 me_X7_value ml_X11_141 (ci := 7) rfl sh_3 (Nat.le_of_ble_eq_true rfl) rfl des_X7_value rfl ⟨rfl, rfl, rfl, rfl⟩ rfl rfl (c_X7_value_3 X p1 p2 hp1 hp2 h) (fun r8 σ9 h7 h => ?_)
        exact ok_iret (pc := 28) dX11_rule_28 rfl rfl rfl h7 h
      · have h := iteT h q6
        refine ok_iconst (pc := 17) dX11_rule_17 ?_
        exact ok_iret (pc := 18) dX11_rule_18 rfl rfl rfl (r_lit rfl) h
theorem dX11_isTold_0 : decode cX11_isTold 0 = .ok (.iload_n 0, 1) := by decide +kernel
theorem dX11_isTold_1 : decode cX11_isTold 1 = .ok (.ifCond .lt 14, 3) := by decide +kernel
theorem dX11_isTold_4 : decode cX11_isTold 4 = .ok (.iload_n 0, 1) := by decide +kernel
theorem dX11_isTold_5 : decode cX11_isTold 5 = .ok (.sipush 999, 3) := by decide +kernel
theorem dX11_isTold_8 : decode cX11_isTold 8 = .ok (.if_icmp .gt 7, 3) := by decide +kernel
theorem dX11_isTold_11 : decode cX11_isTold 11 = .ok (.iconst 1, 1) := by decide +kernel
theorem dX11_isTold_12 : decode cX11_isTold 12 = .ok (.goto 4, 3) := by decide +kernel
theorem dX11_isTold_15 : decode cX11_isTold 15 = .ok (.iconst 0, 1) := by decide +kernel
theorem dX11_isTold_16 : decode cX11_isTold 16 = .ok (.ireturn, 1) := by decide +kernel
set_option maxRecDepth 100000 in
set_option maxHeartbeats 4000000 in
theorem c_X11_isTold (X : XE) (p0 : Int) (hp0 : inR p0) {σ : Mem} {Q : Int → Mem → Prop} (h : v_X11_isTold p0 σ Q) : CT X yX11_isTold cX11_isTold 1 (some .boolean) rm_X11_isTold 1 [vI p0] σ Q := by
  refine ct_of (own := RX11) (L := [(0, vI p0)]) rfl rfl (Nat.le_of_ble_eq_true rfl) rfl ?_
  refine ok_iload_n 0 (pc := 0) dX11_isTold_0 rfl rfl ?_
  refine ok_if_lt (tgt := 15) (pc := 1) dX11_isTold_1 rfl hp0 (fun q1 => ?_) (fun q1 => ?_)
  · have h := iteT h q1
    refine ok_iconst (pc := 15) dX11_isTold_15 ?_
    exact ok_iret (pc := 16) dX11_isTold_16 rfl rfl (nr_z (Or.inl rfl)) (r_lit rfl) h
  · have h := iteF h q1
    refine ok_iload_n 0 (pc := 4) dX11_isTold_4 rfl rfl ?_
    refine ok_sipush (pc := 5) dX11_isTold_5 rfl ?_
    refine ok_icmp_gt (tgt := 15) (pc := 8) dX11_isTold_8 rfl hp0 (r_lit rfl) (fun q2 => ?_) (fun q2 => ?_)
    · have h := iteT h q2
      refine ok_iconst (pc := 15) dX11_isTold_15 ?_
      exact ok_iret (pc := 16) dX11_isTold_16 rfl rfl (nr_z (Or.inl rfl)) (r_lit rfl) h
    · have h := iteF h q2
      refine ok_iconst (pc := 11) dX11_isTold_11 ?_
      refine ok_goto (tgt := 16) (pc := 12) dX11_isTold_12 rfl ?_
      exact ok_iret (pc := 16) dX11_isTold_16 rfl rfl (nr_z (Or.inr rfl)) (r_lit rfl) h
theorem dX11_isHand_0 : decode cX11_isHand 0 = .ok (.iload_n 0, 1) := by decide +kernel
theorem dX11_isHand_1 : decode cX11_isHand 1 = .ok (.ifCond .lt 13, 3) := by decide +kernel
theorem dX11_isHand_4 : decode cX11_isHand 4 = .ok (.iload_n 0, 1) := by decide +kernel
theorem dX11_isHand_5 : decode cX11_isHand 5 = .ok (.bipush 6, 2) := by decide +kernel
theorem dX11_isHand_7 : decode cX11_isHand 7 = .ok (.if_icmp .ge 7, 3) := by decide +kernel
theorem dX11_isHand_10 : decode cX11_isHand 10 = .ok (.iconst 1, 1) := by decide +kernel
theorem dX11_isHand_11 : decode cX11_isHand 11 = .ok (.goto 4, 3) := by decide +kernel
theorem dX11_isHand_14 : decode cX11_isHand 14 = .ok (.iconst 0, 1) := by decide +kernel
theorem dX11_isHand_15 : decode cX11_isHand 15 = .ok (.ireturn, 1) := by decide +kernel
set_option maxRecDepth 100000 in
set_option maxHeartbeats 4000000 in
theorem c_X11_isHand (X : XE) (p0 : Int) (hp0 : inR p0) {σ : Mem} {Q : Int → Mem → Prop} (h : v_X11_isHand p0 σ Q) : CT X yX11_isHand cX11_isHand 1 (some .boolean) rm_X11_isHand 1 [vI p0] σ Q := by
  refine ct_of (own := RX11) (L := [(0, vI p0)]) rfl rfl (Nat.le_of_ble_eq_true rfl) rfl ?_
  refine ok_iload_n 0 (pc := 0) dX11_isHand_0 rfl rfl ?_
  refine ok_if_lt (tgt := 14) (pc := 1) dX11_isHand_1 rfl hp0 (fun q1 => ?_) (fun q1 => ?_)
  · have h := iteT h q1
    refine ok_iconst (pc := 14) dX11_isHand_14 ?_
    exact ok_iret (pc := 15) dX11_isHand_15 rfl rfl (nr_z (Or.inl rfl)) (r_lit rfl) h
  · have h := iteF h q1
    refine ok_iload_n 0 (pc := 4) dX11_isHand_4 rfl rfl ?_
    refine ok_bipush (pc := 5) dX11_isHand_5 rfl ?_
    refine ok_icmp_ge (tgt := 14) (pc := 7) dX11_isHand_7 rfl hp0 (r_lit rfl) (fun q2 => ?_) (fun q2 => ?_)
    · have h := iteF h q2
      refine ok_iconst (pc := 14) dX11_isHand_14 ?_
      exact ok_iret (pc := 15) dX11_isHand_15 rfl rfl (nr_z (Or.inl rfl)) (r_lit rfl) h
    · have h := iteT h q2
      refine ok_iconst (pc := 10) dX11_isHand_10 ?_
      refine ok_goto (tgt := 15) (pc := 11) dX11_isHand_11 rfl ?_
      exact ok_iret (pc := 15) dX11_isHand_15 rfl rfl (nr_z (Or.inr rfl)) (r_lit rfl) h
theorem dX5_third_0 : decode cX5_third 0 = .ok (.iload_n 2, 1) := by decide +kernel
theorem dX5_third_1 : decode cX5_third 1 = .ok (.ifCond .ne 5, 3) := by decide +kernel
theorem dX5_third_4 : decode cX5_third 4 = .ok (.iconst 1, 1) := by decide +kernel
theorem dX5_third_5 : decode cX5_third 5 = .ok (.ireturn, 1) := by decide +kernel
theorem dX5_third_6 : decode cX5_third 6 = .ok (.iload_n 2, 1) := by decide +kernel
theorem dX5_third_7 : decode cX5_third 7 = .ok (.aload_n 0, 1) := by decide +kernel
theorem dX5_third_8 : decode cX5_third 8 = .ok (.getfield 9, 3) := by decide +kernel
theorem dX5_third_11 : decode cX5_third 11 = .ok (.iconst 0, 1) := by decide +kernel
theorem dX5_third_12 : decode cX5_third 12 = .ok (.iload_n 1, 1) := by decide +kernel
theorem dX5_third_13 : decode cX5_third 13 = .ok (.iadd, 1) := by decide +kernel
theorem dX5_third_14 : decode cX5_third 14 = .ok (.iaload, 1) := by decide +kernel
theorem dX5_third_15 : decode cX5_third 15 = .ok (.if_icmp .ge 5, 3) := by decide +kernel
theorem dX5_third_18 : decode cX5_third 18 = .ok (.iconst 0, 1) := by decide +kernel
theorem dX5_third_19 : decode cX5_third 19 = .ok (.ireturn, 1) := by decide +kernel
theorem dX5_third_20 : decode cX5_third 20 = .ok (.iload_n 2, 1) := by decide +kernel
theorem dX5_third_21 : decode cX5_third 21 = .ok (.aload_n 0, 1) := by decide +kernel
theorem dX5_third_22 : decode cX5_third 22 = .ok (.getfield 9, 3) := by decide +kernel
theorem dX5_third_25 : decode cX5_third 25 = .ok (.iconst 4, 1) := by decide +kernel
theorem dX5_third_26 : decode cX5_third 26 = .ok (.iload_n 1, 1) := by decide +kernel
theorem dX5_third_27 : decode cX5_third 27 = .ok (.iadd, 1) := by decide +kernel
theorem dX5_third_28 : decode cX5_third 28 = .ok (.iaload, 1) := by decide +kernel
theorem dX5_third_29 : decode cX5_third 29 = .ok (.if_icmp .ge 7, 3) := by decide +kernel
theorem dX5_third_32 : decode cX5_third 32 = .ok (.iconst 1, 1) := by decide +kernel
theorem dX5_third_33 : decode cX5_third 33 = .ok (.goto 4, 3) := by decide +kernel
theorem dX5_third_36 : decode cX5_third 36 = .ok (.iconst 2, 1) := by decide +kernel
theorem dX5_third_37 : decode cX5_third 37 = .ok (.ireturn, 1) := by decide +kernel
set_option maxRecDepth 100000 in
set_option maxHeartbeats 4000000 in
theorem c_X5_third (X : XE) (p1 : Int) (p2 : Int) (hp1 : inR p1) (hp2 : inR p2) {σ : Mem} {Q : Int → Mem → Prop} (h : v_X5_third p1 p2 σ Q) : CT X yX5_third cX5_third 3 (some .int) rm_X5_third 1 [.ref (xad X 14), vI p1, vI p2] σ Q := by
  refine ct_of (own := RX5) (L := [(0, .ref (xad X 14)), (1, vI p1), (2, vI p2)]) rfl rfl (Nat.le_of_ble_eq_true rfl) rfl ?_
  refine ok_iload_n 2 (pc := 0) dX5_third_0 rfl rfl ?_
  refine ok_if_ne (tgt := 6) (pc := 1) dX5_third_1 rfl hp2 (fun q1 => ?_) (fun q1 => ?_)
  · have h := iteF h q1
    refine ok_iload_n 2 (pc := 6) dX5_third_6 rfl rfl ?_
    refine ok_aload_n 0 (pc := 7) dX5_third_7 rfl rfl ?_
    refine ok_getR (pc := 8) dX5_third_8 fl_X5_9 sh_14 (Nat.le_of_ble_eq_true rfl) rfl rfl ?_
    refine ok_iconst (pc := 11) dX5_third_11 ?_
    refine ok_iload_n 1 (pc := 12) dX5_third_12 rfl rfl ?_
    refine ok_iadd (pc := 13) dX5_third_13 ?_
    obtain ⟨h2, h⟩ := h
    obtain ⟨h3, h⟩ := h
    refine ok_wf (fun hw4 => ?_)
    refine ok_iald (pc := 14) dX5_third_14 sh_15 (Nat.le_of_ble_eq_true rfl) rfl h2 h3 ?_
    refine ok_icmp_ge (tgt := 20) (pc := 15) dX5_third_15 rfl hp2 (hw4 _ _) (fun q5 => ?_) (fun q5 => ?_)
    · have h := iteF h q5
      refine ok_iload_n 2 (pc := 20) dX5_third_20 rfl rfl ?_
      refine ok_aload_n 0 (pc := 21) dX5_third_21 rfl rfl ?_
      refine ok_getR (pc := 22) dX5_third_22 fl_X5_9 sh_14 (Nat.le_of_ble_eq_true rfl) rfl rfl ?_
      refine ok_iconst (pc := 25) dX5_third_25 ?_
      refine ok_iload_n 1 (pc := 26) dX5_third_26 rfl rfl ?_
      refine ok_iadd (pc := 27) dX5_third_27 ?_
      obtain ⟨h6, h⟩ := h
      obtain ⟨h7, h⟩ := h
      refine ok_iald (pc := 28) dX5_third_28 sh_15 (Nat.le_of_ble_eq_true rfl) rfl h6 h7 ?_
      refine ok_icmp_ge (tgt := 36) (pc := 29) dX5_third_29 rfl hp2 (hw4 _ _) (fun q8 => ?_) (fun q8 => ?_)
      · have h := iteF h q8
        refine ok_iconst (pc := 36) dX5_third_36 ?_
        exact ok_iret (pc := 37) dX5_third_37 rfl rfl rfl (r_lit rfl) h
      · have h := iteT h q8
        refine ok_iconst (pc := 32) dX5_third_32 ?_
        refine ok_goto (tgt := 37) (pc := 33) dX5_third_33 rfl ?_
        exact ok_iret (pc := 37) dX5_third_37 rfl rfl rfl (r_lit rfl) h
    · have h := iteT h q5
      refine ok_iconst (pc := 18) dX5_third_18 ?_
      exact ok_iret (pc := 19) dX5_third_19 rfl rfl rfl (r_lit rfl) h
  · have h := iteT h q1
    refine ok_iconst (pc := 4) dX5_third_4 ?_
    exact ok_iret (pc := 5) dX5_third_5 rfl rfl rfl (r_lit rfl) h
theorem dX5_drawerBy_0 : decode cX5_drawerBy 0 = .ok (.bipush 9, 2) := by decide +kernel
theorem dX5_drawerBy_2 : decode cX5_drawerBy 2 = .ok (.aload_n 0, 1) := by decide +kernel
theorem dX5_drawerBy_3 : decode cX5_drawerBy 3 = .ok (.iconst 0, 1) := by decide +kernel
theorem dX5_drawerBy_4 : decode cX5_drawerBy 4 = .ok (.aload_n 1, 1) := by decide +kernel
theorem dX5_drawerBy_5 : decode cX5_drawerBy 5 = .ok (.iconst 0, 1) := by decide +kernel
theorem dX5_drawerBy_6 : decode cX5_drawerBy 6 = .ok (.iaload, 1) := by decide +kernel
theorem dX5_drawerBy_7 : decode cX5_drawerBy 7 = .ok (.invokevirtual 32, 3) := by decide +kernel
theorem dX5_drawerBy_10 : decode cX5_drawerBy 10 = .ok (.imul, 1) := by decide +kernel
theorem dX5_drawerBy_11 : decode cX5_drawerBy 11 = .ok (.iconst 3, 1) := by decide +kernel
theorem dX5_drawerBy_12 : decode cX5_drawerBy 12 = .ok (.aload_n 0, 1) := by decide +kernel
theorem dX5_drawerBy_13 : decode cX5_drawerBy 13 = .ok (.iconst 1, 1) := by decide +kernel
theorem dX5_drawerBy_14 : decode cX5_drawerBy 14 = .ok (.aload_n 1, 1) := by decide +kernel
theorem dX5_drawerBy_15 : decode cX5_drawerBy 15 = .ok (.iconst 1, 1) := by decide +kernel
theorem dX5_drawerBy_16 : decode cX5_drawerBy 16 = .ok (.iaload, 1) := by decide +kernel
theorem dX5_drawerBy_17 : decode cX5_drawerBy 17 = .ok (.invokevirtual 32, 3) := by decide +kernel
theorem dX5_drawerBy_20 : decode cX5_drawerBy 20 = .ok (.imul, 1) := by decide +kernel
theorem dX5_drawerBy_21 : decode cX5_drawerBy 21 = .ok (.iadd, 1) := by decide +kernel
theorem dX5_drawerBy_22 : decode cX5_drawerBy 22 = .ok (.aload_n 0, 1) := by decide +kernel
theorem dX5_drawerBy_23 : decode cX5_drawerBy 23 = .ok (.iconst 2, 1) := by decide +kernel
theorem dX5_drawerBy_24 : decode cX5_drawerBy 24 = .ok (.aload_n 1, 1) := by decide +kernel
theorem dX5_drawerBy_25 : decode cX5_drawerBy 25 = .ok (.iconst 2, 1) := by decide +kernel
theorem dX5_drawerBy_26 : decode cX5_drawerBy 26 = .ok (.iaload, 1) := by decide +kernel
theorem dX5_drawerBy_27 : decode cX5_drawerBy 27 = .ok (.invokevirtual 32, 3) := by decide +kernel
theorem dX5_drawerBy_30 : decode cX5_drawerBy 30 = .ok (.iadd, 1) := by decide +kernel
theorem dX5_drawerBy_31 : decode cX5_drawerBy 31 = .ok (.ireturn, 1) := by decide +kernel
set_option maxRecDepth 100000 in
set_option maxHeartbeats 4000000 in
theorem c_X5_drawerBy_c (X : XE) (c1 : Nat) (hc1 : c1 < 24) {σ : Mem} {Q : Int → Mem → Prop} (h : v_X5_drawerBy_c c1 σ Q) : CT X yX5_drawerBy cX5_drawerBy 2 (some .int) rm_X5_drawerBy_c 1 [.ref (xad X 14), .ref (xad X (25 + 3 * c1))] σ Q := by
  refine ct_of (own := RX5) (L := [(0, .ref (xad X 14)), (1, .ref (xad X (25 + 3 * c1)))]) rfl rfl (Nat.le_of_ble_eq_true rfl) rfl ?_
  refine ok_bipush (pc := 0) dX5_drawerBy_0 rfl ?_
  refine ok_aload_n 0 (pc := 2) dX5_drawerBy_2 rfl rfl ?_
  refine ok_iconst (pc := 3) dX5_drawerBy_3 ?_
  refine ok_aload_n 1 (pc := 4) dX5_drawerBy_4 rfl rfl ?_
  refine ok_iconst (pc := 5) dX5_drawerBy_5 ?_
  refine ok_wf (fun hw1 => ?_)
  refine ok_iald (pc := 6) dX5_drawerBy_6 (sh_cme c1 hc1) (lt_card hc1).2.2 rfl (by decide) (by decide) ?_
  refine ok_callVi (As := [vI 0, vI (σ (25 + 3 * c1) 0)]) (rest := [vI 9]) (rm := rm_X5_third) (pc := 7) dX5_drawerBy_7 me_X5_third ml_X5_32 (ci := 5) rfl sh_14 (Nat.le_of_ble_eq_true rfl) rfl des_X5_third rfl ⟨rfl, rfl, rfl, rfl⟩ rfl rfl (c_X5_third X 0 (σ (25 + 3 * c1) 0) (r_lit rfl) (hw1 _ _) h) (fun r3 σ4 h2 h => ?_)
  refine ok_imul (pc := 10) dX5_drawerBy_10 ?_
  refine ok_iconst (pc := 11) dX5_drawerBy_11 ?_
  refine ok_aload_n 0 (pc := 12) dX5_drawerBy_12 rfl rfl ?_
  refine ok_iconst (pc := 13) dX5_drawerBy_13 ?_
  refine ok_aload_n 1 (pc := 14) dX5_drawerBy_14 rfl rfl ?_
  refine ok_iconst (pc := 15) dX5_drawerBy_15 ?_
  refine ok_wf (fun hw5 => ?_)
  refine ok_iald (pc := 16) dX5_drawerBy_16 (sh_cme c1 hc1) (lt_card hc1).2.2 rfl (by decide) (by decide) ?_
  refine ok_callVi (As := [vI 1, vI (σ4 (25 + 3 * c1) 1)]) (rest := [vI 3, vI (9 * r3)]) (rm := rm_X5_third) (pc := 17) dX5_drawerBy_17 me_X5_third ml_X5_32 (ci := 5) rfl sh_14 (Nat.le_of_ble_eq_true rfl) rfl des_X5_third rfl ⟨rfl, rfl, rfl, rfl⟩ rfl rfl (c_X5_third X 1 (σ4 (25 + 3 * c1) 1) (r_lit rfl) (hw5 _ _) h) (fun r7 σ8 h6 h => ?_)
  refine ok_imul (pc := 20) dX5_drawerBy_20 ?_
  refine ok_iadd (pc := 21) dX5_drawerBy_21 ?_
  refine ok_aload_n 0 (pc := 22) dX5_drawerBy_22 rfl rfl ?_
  refine ok_iconst (pc := 23) dX5_drawerBy_23 ?_
  refine ok_aload_n 1 (pc := 24) dX5_drawerBy_24 rfl rfl ?_
  refine ok_iconst (pc := 25) dX5_drawerBy_25 ?_
  refine ok_wf (fun hw9 => ?_)
  refine ok_iald (pc := 26) dX5_drawerBy_26 (sh_cme c1 hc1) (lt_card hc1).2.2 rfl (by decide) (by decide) ?_
  refine ok_callVi (As := [vI 2, vI (σ8 (25 + 3 * c1) 2)]) (rest := [vI ((9 * r3) + (3 * r7))]) (rm := rm_X5_third) (pc := 27) dX5_drawerBy_27 me_X5_third ml_X5_32 (ci := 5) rfl sh_14 (Nat.le_of_ble_eq_true rfl) rfl des_X5_third rfl ⟨rfl, rfl, rfl, rfl⟩ rfl rfl (c_X5_third X 2 (σ8 (25 + 3 * c1) 2) (r_lit rfl) (hw9 _ _) h) (fun r11 σ12 h10 h => ?_)
  refine ok_iadd (pc := 30) dX5_drawerBy_30 ?_
  obtain ⟨h13, h⟩ := h
  exact ok_iret (pc := 31) dX5_drawerBy_31 rfl rfl rfl h13 h
theorem dX0_add_0 : decode cX0_add 0 = .ok (.aload_n 0, 1) := by decide +kernel
theorem dX0_add_1 : decode cX0_add 1 = .ok (.getfield 39, 3) := by decide +kernel
theorem dX0_add_4 : decode cX0_add 4 = .ok (.bipush 24, 2) := by decide +kernel
theorem dX0_add_6 : decode cX0_add 6 = .ok (.if_icmp .lt 6, 3) := by decide +kernel
theorem dX0_add_9 : decode cX0_add 9 = .ok (.bipush (-3), 2) := by decide +kernel
theorem dX0_add_11 : decode cX0_add 11 = .ok (.ireturn, 1) := by decide +kernel
theorem dX0_add_12 : decode cX0_add 12 = .ok (.aload_n 0, 1) := by decide +kernel
theorem dX0_add_13 : decode cX0_add 13 = .ok (.getfield 11, 3) := by decide +kernel
theorem dX0_add_16 : decode cX0_add 16 = .ok (.aload_n 0, 1) := by decide +kernel
theorem dX0_add_17 : decode cX0_add 17 = .ok (.getfield 39, 3) := by decide +kernel
theorem dX0_add_20 : decode cX0_add 20 = .ok (.aaload, 1) := by decide +kernel
theorem dX0_add_21 : decode cX0_add 21 = .ok (.astore 6, 2) := by decide +kernel
theorem dX0_add_23 : decode cX0_add 23 = .ok (.aload 6, 2) := by decide +kernel
theorem dX0_add_25 : decode cX0_add 25 = .ok (.iload_n 1, 1) := by decide +kernel
theorem dX0_add_26 : decode cX0_add 26 = .ok (.putfield 43, 3) := by decide +kernel
theorem dX0_add_29 : decode cX0_add 29 = .ok (.aload 6, 2) := by decide +kernel
theorem dX0_add_31 : decode cX0_add 31 = .ok (.iload_n 2, 1) := by decide +kernel
theorem dX0_add_32 : decode cX0_add 32 = .ok (.putfield 46, 3) := by decide +kernel
theorem dX0_add_35 : decode cX0_add 35 = .ok (.aload 6, 2) := by decide +kernel
theorem dX0_add_37 : decode cX0_add 37 = .ok (.iload_n 3, 1) := by decide +kernel
theorem dX0_add_38 : decode cX0_add 38 = .ok (.putfield 49, 3) := by decide +kernel
theorem dX0_add_41 : decode cX0_add 41 = .ok (.aload 6, 2) := by decide +kernel
theorem dX0_add_43 : decode cX0_add 43 = .ok (.aload_n 0, 1) := by decide +kernel
theorem dX0_add_44 : decode cX0_add 44 = .ok (.getfield 34, 3) := by decide +kernel
theorem dX0_add_47 : decode cX0_add 47 = .ok (.getfield 52, 3) := by decide +kernel
theorem dX0_add_50 : decode cX0_add 50 = .ok (.putfield 57, 3) := by decide +kernel
theorem dX0_add_53 : decode cX0_add 53 = .ok (.iconst 0, 1) := by decide +kernel
theorem dX0_add_54 : decode cX0_add 54 = .ok (.istore 7, 2) := by decide +kernel
theorem dX0_add_56 : decode cX0_add 56 = .ok (.iload 7, 2) := by decide +kernel
theorem dX0_add_58 : decode cX0_add 58 = .ok (.iconst 4, 1) := by decide +kernel
theorem dX0_add_59 : decode cX0_add 59 = .ok (.if_icmp .ge 41, 3) := by decide +kernel
theorem dX0_add_62 : decode cX0_add 62 = .ok (.aload 6, 2) := by decide +kernel
theorem dX0_add_64 : decode cX0_add 64 = .ok (.getfield 60, 3) := by decide +kernel
theorem dX0_add_67 : decode cX0_add 67 = .ok (.iload 7, 2) := by decide +kernel
theorem dX0_add_69 : decode cX0_add 69 = .ok (.aload 4, 2) := by decide +kernel
theorem dX0_add_71 : decode cX0_add 71 = .ok (.iload 5, 2) := by decide +kernel
theorem dX0_add_73 : decode cX0_add 73 = .ok (.iload 7, 2) := by decide +kernel
theorem dX0_add_75 : decode cX0_add 75 = .ok (.iadd, 1) := by decide +kernel
theorem dX0_add_76 : decode cX0_add 76 = .ok (.iaload, 1) := by decide +kernel
theorem dX0_add_77 : decode cX0_add 77 = .ok (.iastore, 1) := by decide +kernel
theorem dX0_add_78 : decode cX0_add 78 = .ok (.aload 6, 2) := by decide +kernel
theorem dX0_add_80 : decode cX0_add 80 = .ok (.getfield 63, 3) := by decide +kernel
theorem dX0_add_83 : decode cX0_add 83 = .ok (.iload 7, 2) := by decide +kernel
theorem dX0_add_85 : decode cX0_add 85 = .ok (.aload 4, 2) := by decide +kernel
theorem dX0_add_87 : decode cX0_add 87 = .ok (.iload 5, 2) := by decide +kernel
theorem dX0_add_89 : decode cX0_add 89 = .ok (.iload 7, 2) := by decide +kernel
theorem dX0_add_91 : decode cX0_add 91 = .ok (.iadd, 1) := by decide +kernel
theorem dX0_add_92 : decode cX0_add 92 = .ok (.iaload, 1) := by decide +kernel
theorem dX0_add_93 : decode cX0_add 93 = .ok (.iastore, 1) := by decide +kernel
theorem dX0_add_94 : decode cX0_add 94 = .ok (.iinc 7 1, 3) := by decide +kernel
theorem dX0_add_97 : decode cX0_add 97 = .ok (.goto (-41), 3) := by decide +kernel
theorem dX0_add_100 : decode cX0_add 100 = .ok (.aload 6, 2) := by decide +kernel
theorem dX0_add_102 : decode cX0_add 102 = .ok (.aload_n 0, 1) := by decide +kernel
theorem dX0_add_103 : decode cX0_add 103 = .ok (.getfield 34, 3) := by decide +kernel
theorem dX0_add_106 : decode cX0_add 106 = .ok (.aload 6, 2) := by decide +kernel
theorem dX0_add_108 : decode cX0_add 108 = .ok (.getfield 63, 3) := by decide +kernel
theorem dX0_add_111 : decode cX0_add 111 = .ok (.invokevirtual 66, 3) := by decide +kernel
theorem dX0_add_114 : decode cX0_add 114 = .ok (.putfield 70, 3) := by decide +kernel
theorem dX0_add_117 : decode cX0_add 117 = .ok (.aload_n 0, 1) := by decide +kernel
theorem dX0_add_118 : decode cX0_add 118 = .ok (.dup, 1) := by decide +kernel
theorem dX0_add_119 : decode cX0_add 119 = .ok (.getfield 39, 3) := by decide +kernel
theorem dX0_add_122 : decode cX0_add 122 = .ok (.iconst 1, 1) := by decide +kernel
theorem dX0_add_123 : decode cX0_add 123 = .ok (.iadd, 1) := by decide +kernel
theorem dX0_add_124 : decode cX0_add 124 = .ok (.putfield 39, 3) := by decide +kernel
theorem dX0_add_127 : decode cX0_add 127 = .ok (.aload_n 0, 1) := by decide +kernel
theorem dX0_add_128 : decode cX0_add 128 = .ok (.getfield 39, 3) := by decide +kernel
theorem dX0_add_131 : decode cX0_add 131 = .ok (.iconst 1, 1) := by decide +kernel
theorem dX0_add_132 : decode cX0_add 132 = .ok (.isub, 1) := by decide +kernel
theorem dX0_add_133 : decode cX0_add 133 = .ok (.ireturn, 1) := by decide +kernel
set_option maxRecDepth 100000 in
set_option maxHeartbeats 4000000 in
theorem w_X0_add_56 (X : XE) (p1 : Int) (p2 : Int) (p3 : Int) (p5 : Int) (hp1 : inR p1) (hp2 : inR p2) (hp3 : inR p3) (hp5 : inR p5) (c6 : Nat) (hc6 : c6 < 24) {Q : Int → Mem → Prop} : ∀ (n : Nat) (x7 : Int) (σ : Mem), inR x7 → l_X0_add_56 p1 p2 p3 p5 c6 Q n x7 σ → ok X rm_X0_add RX0 cX0_add 8 (some .int) 1 Q 56 [(0, .ref (xad X 16)), (4, .ref (xad X 117)), (5, vI p5), (6, .ref (xad X (23 + 3 * c6))), (7, vI x7)] [] σ := by
  intro n
  induction n with
  | zero => intro x7 σ hx7 h; exact False.elim h
  | succ n ih =>
    intro x7 σ hx7 h
    refine ok_iload 4 (pc := 56) dX0_add_56 rfl ?_
    refine ok_iconst (pc := 58) dX0_add_58 ?_
    refine ok_icmp_ge (tgt := 100) (pc := 59) dX0_add_59 rfl hx7 (r_lit rfl) (fun q1 => ?_) (fun q1 => ?_)
    · have h := iteF h q1
      refine ok_aload 3 (pc := 100) dX0_add_100 rfl ?_
      refine ok_aload_n 0 (pc := 102) dX0_add_102 rfl rfl ?_
      refine ok_getR (pc := 103) dX0_add_103 fl_X0_34 sh_16 (Nat.le_of_ble_eq_true rfl) rfl rfl ?_
      refine ok_aload 3 (pc := 106) dX0_add_106 rfl ?_
      refine ok_getR (pc := 108) dX0_add_108 fl_X0_63 (sh_card c6 hc6) (lt_card hc6).1 rfl rfl ?_
      refine ok_callVi (As := [.ref (xad X (25 + 3 * c6))]) (rest := [.ref (xad X (23 + 3 * c6))]) (rm := rm_X5_drawerBy_c) (pc := 111) dX0_add_111 me_X5_drawerBy ml_X0_66 (ci := 5) rfl sh_14 (Nat.le_of_ble_eq_true rfl) rfl des_X5_drawerBy rfl ⟨rfl, rfl, rfl, rfl⟩ rfl rfl (c_X5_drawerBy_c X c6 hc6 h) (fun r3 σ4 h2 h => ?_)
      refine ok_putI (pc := 114) dX0_add_114 fl_X0_70 fp_X1_5 (sh_card c6 hc6) (lt_card hc6).1 rfl rfl h2 rfl rfl ?_
      refine ok_aload_n 0 (pc := 117) dX0_add_117 rfl rfl ?_
      refine ok_dup (pc := 118) dX0_add_118 rfl ?_
      refine ok_wf (fun hw5 => ?_)
      refine ok_getI (pc := 119) dX0_add_119 fl_X0_39 sh_16 (Nat.le_of_ble_eq_true rfl) rfl rfl ?_
      have e6 : ((mset σ4 (23 + 3 * c6) 5 r3) 16 2) = (σ4 16 2) := (mset_ne (by omega))
      refine ok_top e6 ?_
      refine ok_iconst (pc := 122) dX0_add_122 ?_
      refine ok_iadd (pc := 123) dX0_add_123 ?_
      obtain ⟨h8, h⟩ := h
      refine ok_putI (pc := 124) dX0_add_124 fl_X0_39 fp_X0_2 sh_16 (Nat.le_of_ble_eq_true rfl) rfl rfl h8 rfl rfl ?_
      refine ok_aload_n 0 (pc := 127) dX0_add_127 rfl rfl ?_
      refine ok_wf (fun hw9 => ?_)
      refine ok_getI (pc := 128) dX0_add_128 fl_X0_39 sh_16 (Nat.le_of_ble_eq_true rfl) rfl rfl ?_
      have e10 : ((mset (mset σ4 (23 + 3 * c6) 5 r3) 16 2 ((σ4 16 2) + 1)) 16 2) = ((σ4 16 2) + 1) := mset_eq
      refine ok_top e10 ?_
      refine ok_iconst (pc := 131) dX0_add_131 ?_
      refine ok_isub (pc := 132) dX0_add_132 ?_
      obtain ⟨h11, h⟩ := h
      exact ok_iret (pc := 133) dX0_add_133 rfl rfl rfl h11 h
    · have h := iteT h q1
      refine ok_aload 3 (pc := 62) dX0_add_62 rfl ?_
      refine ok_getR (pc := 64) dX0_add_64 fl_X0_60 (sh_card c6 hc6) (lt_card hc6).1 rfl rfl ?_
      refine ok_iload 4 (pc := 67) dX0_add_67 rfl ?_
      refine ok_aload 1 (pc := 69) dX0_add_69 rfl ?_
      refine ok_iload 2 (pc := 71) dX0_add_71 rfl ?_
      refine ok_iload 4 (pc := 73) dX0_add_73 rfl ?_
      refine ok_iadd (pc := 75) dX0_add_75 ?_
      obtain ⟨h12, h⟩ := h
      obtain ⟨h13, h⟩ := h
      refine ok_wf (fun hw14 => ?_)
      refine ok_iald (pc := 76) dX0_add_76 sh_117 (Nat.le_of_ble_eq_true rfl) rfl h12 h13 ?_
      obtain ⟨h15, h⟩ := h
      obtain ⟨h16, h⟩ := h
      refine ok_iast (pc := 77) dX0_add_77 (sh_cft c6 hc6) (lt_card hc6).2.1 rfl h15 h16 (hw14 _ _) ?_
      refine ok_aload 3 (pc := 78) dX0_add_78 rfl ?_
      refine ok_getR (pc := 80) dX0_add_80 fl_X0_63 (sh_card c6 hc6) (lt_card hc6).1 rfl rfl ?_
      refine ok_iload 4 (pc := 83) dX0_add_83 rfl ?_
      refine ok_aload 1 (pc := 85) dX0_add_85 rfl ?_
      refine ok_iload 2 (pc := 87) dX0_add_87 rfl ?_
      refine ok_iload 4 (pc := 89) dX0_add_89 rfl ?_
      refine ok_iadd (pc := 91) dX0_add_91 ?_
      refine ok_wf (fun hw17 => ?_)
      refine ok_iald (pc := 92) dX0_add_92 sh_117 (Nat.le_of_ble_eq_true rfl) rfl h12 h13 ?_
      have e18 : ((mset σ (24 + 3 * c6) (x7.toNat) (σ 117 (p5 + x7).toNat)) 117 (p5 + x7).toNat) = (σ 117 (p5 + x7).toNat) := (mset_ne (by omega))
      refine ok_top e18 ?_
      refine ok_iast (pc := 93) dX0_add_93 (sh_cme c6 hc6) (lt_card hc6).2.2 rfl h15 h16 (e18 ▸ hw17 _ _) ?_
      refine ok_iinc (L' := [(7, vI (x7 + 1)), (0, .ref (xad X 16)), (4, .ref (xad X 117)), (5, vI p5), (6, .ref (xad X (23 + 3 * c6)))]) 4 (pc := 94) dX0_add_94 rfl rfl rfl ?_
      refine ok_goto (tgt := 56) (pc := 97) dX0_add_97 rfl ?_
      obtain ⟨h20, h⟩ := h
      refine ok_sub (L' := [(0, .ref (xad X 16)), (4, .ref (xad X 117)), (5, vI p5), (6, .ref (xad X (23 + 3 * c6))), (7, vI (x7 + 1))]) [1,2,3,4,0] rfl ?_
      exact ih (x7 + 1) (mset (mset σ (24 + 3 * c6) (x7.toNat) (σ 117 (p5 + x7).toNat)) (25 + 3 * c6) (x7.toNat) (σ 117 (p5 + x7).toNat)) h20 h
set_option maxRecDepth 100000 in
set_option maxHeartbeats 4000000 in
theorem c_X0_add (X : XE) (p1 : Int) (p2 : Int) (p3 : Int) (p5 : Int) (hp1 : inR p1) (hp2 : inR p2) (hp3 : inR p3) (hp5 : inR p5) {σ : Mem} {Q : Int → Mem → Prop} (h : v_X0_add p1 p2 p3 p5 σ Q) : CT X yX0_add cX0_add 8 (some .int) rm_X0_add 1 [.ref (xad X 16), vI p1, vI p2, vI p3, .ref (xad X 117), vI p5] σ Q := by
  refine ct_of (own := RX0) (L := [(0, .ref (xad X 16)), (1, vI p1), (2, vI p2), (3, vI p3), (4, .ref (xad X 117)), (5, vI p5)]) rfl rfl (Nat.le_of_ble_eq_true rfl) rfl ?_
  refine ok_aload_n 0 (pc := 0) dX0_add_0 rfl rfl ?_
  refine ok_wf (fun hw1 => ?_)
  refine ok_getI (pc := 1) dX0_add_1 fl_X0_39 sh_16 (Nat.le_of_ble_eq_true rfl) rfl rfl ?_
  refine ok_bipush (pc := 4) dX0_add_4 rfl ?_
  refine ok_icmp_lt (tgt := 12) (pc := 6) dX0_add_6 rfl (hw1 _ _) (r_lit rfl) (fun q2 => ?_) (fun q2 => ?_)
  · have h := iteT h q2
    refine ok_aload_n 0 (pc := 12) dX0_add_12 rfl rfl ?_
    refine ok_getR (pc := 13) dX0_add_13 fl_X0_11 sh_16 (Nat.le_of_ble_eq_true rfl) rfl rfl ?_
    refine ok_aload_n 0 (pc := 16) dX0_add_16 rfl rfl ?_
    refine ok_getI (pc := 17) dX0_add_17 fl_X0_39 sh_16 (Nat.le_of_ble_eq_true rfl) rfl rfl ?_
    obtain ⟨h3, h⟩ := h
    obtain ⟨h4, h⟩ := h
    refine ok_cards (pc := 20) dX0_add_20 h3 h4 ?_
    have hc5 : (σ 16 2).toNat < 24 := by omega
    refine ok_astore (L' := [(6, .ref (xad X (23 + 3 * ((σ 16 2).toNat)))), (0, .ref (xad X 16)), (1, vI p1), (2, vI p2), (3, vI p3), (4, .ref (xad X 117)), (5, vI p5)]) (pc := 21) dX0_add_21 rfl rfl ?_
    refine ok_aload 0 (pc := 23) dX0_add_23 rfl ?_
    refine ok_iload_n 2 (pc := 25) dX0_add_25 rfl rfl ?_
    refine ok_putI (pc := 26) dX0_add_26 fl_X0_43 fp_X1_0 (sh_card ((σ 16 2).toNat) hc5) (lt_card hc5).1 rfl rfl hp1 rfl rfl ?_
    refine ok_aload 0 (pc := 29) dX0_add_29 rfl ?_
    refine ok_iload_n 3 (pc := 31) dX0_add_31 rfl rfl ?_
    refine ok_putI (pc := 32) dX0_add_32 fl_X0_46 fp_X1_1 (sh_card ((σ 16 2).toNat) hc5) (lt_card hc5).1 rfl rfl hp2 rfl rfl ?_
    refine ok_aload 0 (pc := 35) dX0_add_35 rfl ?_
    refine ok_iload_n 4 (pc := 37) dX0_add_37 rfl rfl ?_
    refine ok_putI (pc := 38) dX0_add_38 fl_X0_49 fp_X1_2 (sh_card ((σ 16 2).toNat) hc5) (lt_card hc5).1 rfl rfl hp3 rfl rfl ?_
    refine ok_aload 0 (pc := 41) dX0_add_41 rfl ?_
    refine ok_aload_n 1 (pc := 43) dX0_add_43 rfl rfl ?_
    refine ok_getR (pc := 44) dX0_add_44 fl_X0_34 sh_16 (Nat.le_of_ble_eq_true rfl) rfl rfl ?_
    refine ok_wf (fun hw6 => ?_)
    refine ok_getI (pc := 47) dX0_add_47 fl_X0_52 sh_14 (Nat.le_of_ble_eq_true rfl) rfl rfl ?_
    have e7 : ((mset (mset (mset σ (23 + 3 * ((σ 16 2).toNat)) 0 p1) (23 + 3 * ((σ 16 2).toNat)) 1 p2) (23 + 3 * ((σ 16 2).toNat)) 2 p3) 14 2) = (σ 14 2) := (mset_ne (by omega)).trans ((mset_ne (by omega)).trans (mset_ne (by omega)))
    refine ok_top e7 ?_
    refine ok_putI (pc := 50) dX0_add_50 fl_X0_57 fp_X1_3 (sh_card ((σ 16 2).toNat) hc5) (lt_card hc5).1 rfl rfl (e7 ▸ hw6 _ _) rfl rfl ?_
    refine ok_iconst (pc := 53) dX0_add_53 ?_
    refine ok_istore (L' := [(7, vI 0), (6, .ref (xad X (23 + 3 * ((σ 16 2).toNat)))), (0, .ref (xad X 16)), (1, vI p1), (2, vI p2), (3, vI p3), (4, .ref (xad X 117)), (5, vI p5)]) (pc := 54) dX0_add_54 rfl rfl ?_
    refine ok_sub (L' := [(0, .ref (xad X 16)), (4, .ref (xad X 117)), (5, vI p5), (6, .ref (xad X (23 + 3 * ((σ 16 2).toNat)))), (7, vI 0)]) [2,6,7,1,0] rfl ?_
    obtain ⟨n9, h⟩ := h
    exact w_X0_add_56 X p1 p2 p3 p5 hp1 hp2 hp3 hp5 ((σ 16 2).toNat) hc5 n9 0 (mset (mset (mset (mset σ (23 + 3 * ((σ 16 2).toNat)) 0 p1) (23 + 3 * ((σ 16 2).toNat)) 1 p2) (23 + 3 * ((σ 16 2).toNat)) 2 p3) (23 + 3 * ((σ 16 2).toNat)) 3 (σ 14 2)) (r_lit rfl) h
  · have h := iteF h q2
    refine ok_bipush (pc := 9) dX0_add_9 rfl ?_
    exact ok_iret (pc := 11) dX0_add_11 rfl rfl rfl (r_lit rfl) h
theorem dX11_card_0 : decode cX11_card 0 = .ok (.iload_n 3, 1) := by decide +kernel
theorem dX11_card_1 : decode cX11_card 1 = .ok (.invokestatic 145, 3) := by decide +kernel
theorem dX11_card_4 : decode cX11_card 4 = .ok (.ifCond .eq 31, 3) := by decide +kernel
theorem dX11_card_7 : decode cX11_card 7 = .ok (.iload 4, 2) := by decide +kernel
theorem dX11_card_9 : decode cX11_card 9 = .ok (.invokestatic 145, 3) := by decide +kernel
theorem dX11_card_12 : decode cX11_card 12 = .ok (.ifCond .eq 23, 3) := by decide +kernel
theorem dX11_card_15 : decode cX11_card 15 = .ok (.iload 5, 2) := by decide +kernel
theorem dX11_card_17 : decode cX11_card 17 = .ok (.invokestatic 145, 3) := by decide +kernel
theorem dX11_card_20 : decode cX11_card 20 = .ok (.ifCond .eq 15, 3) := by decide +kernel
theorem dX11_card_23 : decode cX11_card 23 = .ok (.iload 6, 2) := by decide +kernel
theorem dX11_card_25 : decode cX11_card 25 = .ok (.invokestatic 145, 3) := by decide +kernel
theorem dX11_card_28 : decode cX11_card 28 = .ok (.ifCond .eq 7, 3) := by decide +kernel
theorem dX11_card_31 : decode cX11_card 31 = .ok (.iconst 1, 1) := by decide +kernel
theorem dX11_card_32 : decode cX11_card 32 = .ok (.goto 4, 3) := by decide +kernel
theorem dX11_card_35 : decode cX11_card 35 = .ok (.iconst 0, 1) := by decide +kernel
theorem dX11_card_36 : decode cX11_card 36 = .ok (.istore 8, 2) := by decide +kernel
theorem dX11_card_38 : decode cX11_card 38 = .ok (.iload_n 2, 1) := by decide +kernel
theorem dX11_card_39 : decode cX11_card 39 = .ok (.ifCond .lt 12, 3) := by decide +kernel
theorem dX11_card_42 : decode cX11_card 42 = .ok (.iload_n 2, 1) := by decide +kernel
theorem dX11_card_43 : decode cX11_card 43 = .ok (.iconst 2, 1) := by decide +kernel
theorem dX11_card_44 : decode cX11_card 44 = .ok (.if_icmp .gt 7, 3) := by decide +kernel
theorem dX11_card_47 : decode cX11_card 47 = .ok (.iconst 1, 1) := by decide +kernel
theorem dX11_card_48 : decode cX11_card 48 = .ok (.goto 4, 3) := by decide +kernel
theorem dX11_card_51 : decode cX11_card 51 = .ok (.iconst 0, 1) := by decide +kernel
theorem dX11_card_52 : decode cX11_card 52 = .ok (.istore 9, 2) := by decide +kernel
theorem dX11_card_54 : decode cX11_card 54 = .ok (.iload_n 1, 1) := by decide +kernel
theorem dX11_card_55 : decode cX11_card 55 = .ok (.invokestatic 148, 3) := by decide +kernel
theorem dX11_card_58 : decode cX11_card 58 = .ok (.ifCond .eq 26, 3) := by decide +kernel
theorem dX11_card_61 : decode cX11_card 61 = .ok (.iload 9, 2) := by decide +kernel
theorem dX11_card_63 : decode cX11_card 63 = .ok (.ifCond .eq 21, 3) := by decide +kernel
theorem dX11_card_66 : decode cX11_card 66 = .ok (.iload 8, 2) := by decide +kernel
theorem dX11_card_68 : decode cX11_card 68 = .ok (.ifCond .eq 16, 3) := by decide +kernel
theorem dX11_card_71 : decode cX11_card 71 = .ok (.iload 7, 2) := by decide +kernel
theorem dX11_card_73 : decode cX11_card 73 = .ok (.ifCond .lt 11, 3) := by decide +kernel
theorem dX11_card_76 : decode cX11_card 76 = .ok (.iload 7, 2) := by decide +kernel
theorem dX11_card_78 : decode cX11_card 78 = .ok (.sipush 1024, 3) := by decide +kernel
theorem dX11_card_81 : decode cX11_card 81 = .ok (.if_icmp .lt 5, 3) := by decide +kernel
theorem dX11_card_84 : decode cX11_card 84 = .ok (.iconst (-1), 1) := by decide +kernel
theorem dX11_card_85 : decode cX11_card 85 = .ok (.ireturn, 1) := by decide +kernel
theorem dX11_card_86 : decode cX11_card 86 = .ok (.aload_n 0, 1) := by decide +kernel
theorem dX11_card_87 : decode cX11_card 87 = .ok (.getfield 87, 3) := by decide +kernel
theorem dX11_card_90 : decode cX11_card 90 = .ok (.iconst 0, 1) := by decide +kernel
theorem dX11_card_91 : decode cX11_card 91 = .ok (.iload_n 3, 1) := by decide +kernel
theorem dX11_card_92 : decode cX11_card 92 = .ok (.iastore, 1) := by decide +kernel
theorem dX11_card_93 : decode cX11_card 93 = .ok (.aload_n 0, 1) := by decide +kernel
theorem dX11_card_94 : decode cX11_card 94 = .ok (.getfield 87, 3) := by decide +kernel
theorem dX11_card_97 : decode cX11_card 97 = .ok (.iconst 1, 1) := by decide +kernel
theorem dX11_card_98 : decode cX11_card 98 = .ok (.iload 4, 2) := by decide +kernel
theorem dX11_card_100 : decode cX11_card 100 = .ok (.iastore, 1) := by decide +kernel
theorem dX11_card_101 : decode cX11_card 101 = .ok (.aload_n 0, 1) := by decide +kernel
theorem dX11_card_102 : decode cX11_card 102 = .ok (.getfield 87, 3) := by decide +kernel
theorem dX11_card_105 : decode cX11_card 105 = .ok (.iconst 2, 1) := by decide +kernel
theorem dX11_card_106 : decode cX11_card 106 = .ok (.iload 5, 2) := by decide +kernel
theorem dX11_card_108 : decode cX11_card 108 = .ok (.iastore, 1) := by decide +kernel
theorem dX11_card_109 : decode cX11_card 109 = .ok (.aload_n 0, 1) := by decide +kernel
theorem dX11_card_110 : decode cX11_card 110 = .ok (.getfield 87, 3) := by decide +kernel
theorem dX11_card_113 : decode cX11_card 113 = .ok (.iconst 3, 1) := by decide +kernel
theorem dX11_card_114 : decode cX11_card 114 = .ok (.iload 6, 2) := by decide +kernel
theorem dX11_card_116 : decode cX11_card 116 = .ok (.iastore, 1) := by decide +kernel
theorem dX11_card_117 : decode cX11_card 117 = .ok (.aload_n 0, 1) := by decide +kernel
theorem dX11_card_118 : decode cX11_card 118 = .ok (.getfield 46, 3) := by decide +kernel
theorem dX11_card_121 : decode cX11_card 121 = .ok (.iload_n 1, 1) := by decide +kernel
theorem dX11_card_122 : decode cX11_card 122 = .ok (.iload_n 2, 1) := by decide +kernel
theorem dX11_card_123 : decode cX11_card 123 = .ok (.iload 7, 2) := by decide +kernel
theorem dX11_card_125 : decode cX11_card 125 = .ok (.aload_n 0, 1) := by decide +kernel
theorem dX11_card_126 : decode cX11_card 126 = .ok (.getfield 87, 3) := by decide +kernel
theorem dX11_card_129 : decode cX11_card 129 = .ok (.iconst 0, 1) := by decide +kernel
theorem dX11_card_130 : decode cX11_card 130 = .ok (.invokevirtual 151, 3) := by decide +kernel
theorem dX11_card_133 : decode cX11_card 133 = .ok (.ireturn, 1) := by decide +kernel
set_option maxRecDepth 100000 in
set_option maxHeartbeats 4000000 in
theorem w_X11_card_52 (X : XE) (p1 : Int) (p2 : Int) (p3 : Int) (p4 : Int) (p5 : Int) (p6 : Int) (p7 : Int) (hp1 : inR p1) (hp2 : inR p2) (hp3 : inR p3) (hp4 : inR p4) (hp5 : inR p5) (hp6 : inR p6) (hp7 : inR p7) (x8 : Int) (s0 : Int) (hx8 : inR x8) (hs0 : inR s0) {Q : Int → Mem → Prop} {σ : Mem} (h : j_X11_card_52 p1 p2 p3 p4 p5 p6 p7 Q x8 s0 σ) : ok X rm_X11_card RX11 cX11_card 10 (some .int) 1 Q 52 [(0, .ref (xad X 0)), (1, vI p1), (2, vI p2), (3, vI p3), (4, vI p4), (5, vI p5), (6, vI p6), (7, vI p7), (8, vI x8)] [vI s0] σ := by
  refine ok_istore (L' := [(9, vI s0), (0, .ref (xad X 0)), (1, vI p1), (2, vI p2), (3, vI p3), (4, vI p4), (5, vI p5), (6, vI p6), (7, vI p7), (8, vI x8)]) (pc := 52) dX11_card_52 rfl rfl ?_
  refine ok_iload_n 2 (pc := 54) dX11_card_54 rfl rfl ?_
  refine ok_callSi (As := [vI p1]) (rest := []) (rm := rm_X11_isHand) (pc := 55) dX11_card_55 me_X11_isHand ml_X11_148 des_X11_isHand rfl ⟨rfl, rfl, rfl, rfl⟩ rfl rfl (c_X11_isHand X p1 hp1 h) (fun r2 σ3 h1 h => ?_)
  refine ok_if_eq (tgt := 84) (pc := 58) dX11_card_58 rfl h1 (fun q4 => ?_) (fun q4 => ?_)
  · have h := iteT h q4
    refine ok_iconst (pc := 84) dX11_card_84 ?_
    exact ok_iret (pc := 85) dX11_card_85 rfl rfl rfl (r_lit rfl) h
  · have h := iteF h q4
    refine ok_iload 0 (pc := 61) dX11_card_61 rfl ?_
    refine ok_if_eq (tgt := 84) (pc := 63) dX11_card_63 rfl hs0 (fun q5 => ?_) (fun q5 => ?_)
    · have h := iteT h q5
      refine ok_iconst (pc := 84) dX11_card_84 ?_
      exact ok_iret (pc := 85) dX11_card_85 rfl rfl rfl (r_lit rfl) h
    · have h := iteF h q5
      refine ok_iload 9 (pc := 66) dX11_card_66 rfl ?_
      refine ok_if_eq (tgt := 84) (pc := 68) dX11_card_68 rfl hx8 (fun q6 => ?_) (fun q6 => ?_)
      · have h := iteT h q6
        refine ok_iconst (pc := 84) dX11_card_84 ?_
        exact ok_iret (pc := 85) dX11_card_85 rfl rfl rfl (r_lit rfl) h
      · have h := iteF h q6
        refine ok_iload 8 (pc := 71) dX11_card_71 rfl ?_
        refine ok_if_lt (tgt := 84) (pc := 73) dX11_card_73 rfl hp7 (fun q7 => ?_) (fun q7 => ?_)
        · have h := iteT h q7
          refine ok_iconst (pc := 84) dX11_card_84 ?_
          exact ok_iret (pc := 85) dX11_card_85 rfl rfl rfl (r_lit rfl) h
        · have h := iteF h q7
          refine ok_iload 8 (pc := 76) dX11_card_76 rfl ?_
          refine ok_sipush (pc := 78) dX11_card_78 rfl ?_
          refine ok_icmp_lt (tgt := 86) (pc := 81) dX11_card_81 rfl hp7 (r_lit rfl) (fun q8 => ?_) (fun q8 => ?_)
          · have h := iteT h q8
            refine ok_aload_n 1 (pc := 86) dX11_card_86 rfl rfl ?_
            refine ok_getR (pc := 87) dX11_card_87 fl_X11_87 sh_0 (Nat.le_of_ble_eq_true rfl) rfl rfl ?_
            refine ok_iconst (pc := 90) dX11_card_90 ?_
            refine ok_iload_n 4 (pc := 91) dX11_card_91 rfl rfl ?_
            refine ok_iast (pc := 92) dX11_card_92 sh_117 (Nat.le_of_ble_eq_true rfl) rfl (by decide) (by decide) hp3 ?_
            refine ok_aload_n 1 (pc := 93) dX11_card_93 rfl rfl ?_
            refine ok_getR (pc := 94) dX11_card_94 fl_X11_87 sh_0 (Nat.le_of_ble_eq_true rfl) rfl rfl ?_
            refine ok_iconst (pc := 97) dX11_card_97 ?_
            refine ok_iload 5 (pc := 98) dX11_card_98 rfl ?_
            refine ok_iast (pc := 100) dX11_card_100 sh_117 (Nat.le_of_ble_eq_true rfl) rfl (by decide) (by decide) hp4 ?_
            refine ok_aload_n 1 (pc := 101) dX11_card_101 rfl rfl ?_
            refine ok_getR (pc := 102) dX11_card_102 fl_X11_87 sh_0 (Nat.le_of_ble_eq_true rfl) rfl rfl ?_
            refine ok_iconst (pc := 105) dX11_card_105 ?_
            refine ok_iload 6 (pc := 106) dX11_card_106 rfl ?_
            refine ok_iast (pc := 108) dX11_card_108 sh_117 (Nat.le_of_ble_eq_true rfl) rfl (by decide) (by decide) hp5 ?_
            refine ok_aload_n 1 (pc := 109) dX11_card_109 rfl rfl ?_
            refine ok_getR (pc := 110) dX11_card_110 fl_X11_87 sh_0 (Nat.le_of_ble_eq_true rfl) rfl rfl ?_
            refine ok_iconst (pc := 113) dX11_card_113 ?_
            refine ok_iload 7 (pc := 114) dX11_card_114 rfl ?_
            refine ok_iast (pc := 116) dX11_card_116 sh_117 (Nat.le_of_ble_eq_true rfl) rfl (by decide) (by decide) hp6 ?_
            refine ok_aload_n 1 (pc := 117) dX11_card_117 rfl rfl ?_
            refine ok_getR (pc := 118) dX11_card_118 fl_X11_46 sh_0 (Nat.le_of_ble_eq_true rfl) rfl rfl ?_
            refine ok_iload_n 2 (pc := 121) dX11_card_121 rfl rfl ?_
            refine ok_iload_n 3 (pc := 122) dX11_card_122 rfl rfl ?_
            refine ok_iload 8 (pc := 123) dX11_card_123 rfl ?_
            refine ok_aload_n 1 (pc := 125) dX11_card_125 rfl rfl ?_
            refine ok_getR (pc := 126) dX11_card_126 fl_X11_87 sh_0 (Nat.le_of_ble_eq_true rfl) rfl rfl ?_
            refine ok_iconst (pc := 129) dX11_card_129 ?_
            refine ok_callVi (As := [vI p1, vI p2, vI p7, .ref (xad X 117), vI 0]) (rest := []) (rm := rm_X0_add) (pc := 130) dX11_card_130 me_X0_add ml_X11_151 (ci := 0) rfl sh_16 (Nat.le_of_ble_eq_true rfl) rfl des_X0_add rfl ⟨rfl, rfl, rfl, rfl⟩ rfl rfl (c_X0_add X p1 p2 p7 0 hp1 hp2 hp7 (r_lit rfl) h) (fun r10 σ11 h9 h => ?_)
            exact ok_iret (pc := 133) dX11_card_133 rfl rfl rfl h9 h
          · have h := iteF h q8
            refine ok_iconst (pc := 84) dX11_card_84 ?_
            exact ok_iret (pc := 85) dX11_card_85 rfl rfl rfl (r_lit rfl) h
set_option maxRecDepth 100000 in
set_option maxHeartbeats 4000000 in
theorem w_X11_card_36 (X : XE) (p1 : Int) (p2 : Int) (p3 : Int) (p4 : Int) (p5 : Int) (p6 : Int) (p7 : Int) (hp1 : inR p1) (hp2 : inR p2) (hp3 : inR p3) (hp4 : inR p4) (hp5 : inR p5) (hp6 : inR p6) (hp7 : inR p7) (s0 : Int) (hs0 : inR s0) {Q : Int → Mem → Prop} {σ : Mem} (h : j_X11_card_36 p1 p2 p3 p4 p5 p6 p7 Q s0 σ) : ok X rm_X11_card RX11 cX11_card 10 (some .int) 1 Q 36 [(0, .ref (xad X 0)), (1, vI p1), (2, vI p2), (3, vI p3), (4, vI p4), (5, vI p5), (6, vI p6), (7, vI p7)] [vI s0] σ := by
  unfold j_X11_card_36 at h
  refine ok_istore (L' := [(8, vI s0), (0, .ref (xad X 0)), (1, vI p1), (2, vI p2), (3, vI p3), (4, vI p4), (5, vI p5), (6, vI p6), (7, vI p7)]) (pc := 36) dX11_card_36 rfl rfl ?_
  refine ok_iload_n 3 (pc := 38) dX11_card_38 rfl rfl ?_
  refine ok_if_lt (tgt := 51) (pc := 39) dX11_card_39 rfl hp2 (fun q1 => ?_) (fun q1 => ?_)
  · simp only [if_pos q1] at h
    refine ok_iconst (pc := 51) dX11_card_51 ?_
    refine ok_sub (L' := [(0, .ref (xad X 0)), (1, vI p1), (2, vI p2), (3, vI p3), (4, vI p4), (5, vI p5), (6, vI p6), (7, vI p7), (8, vI s0)]) [1,2,3,4,5,6,7,8,0] rfl ?_
    exact w_X11_card_52 X p1 p2 p3 p4 p5 p6 p7 hp1 hp2 hp3 hp4 hp5 hp6 hp7 s0 0 hs0 (r_lit rfl) h
  · simp only [if_neg q1] at h
    refine ok_iload_n 3 (pc := 42) dX11_card_42 rfl rfl ?_
    refine ok_iconst (pc := 43) dX11_card_43 ?_
    refine ok_icmp_gt (tgt := 51) (pc := 44) dX11_card_44 rfl hp2 (r_lit rfl) (fun q2 => ?_) (fun q2 => ?_)
    · simp only [if_pos q2] at h
      refine ok_iconst (pc := 51) dX11_card_51 ?_
      refine ok_sub (L' := [(0, .ref (xad X 0)), (1, vI p1), (2, vI p2), (3, vI p3), (4, vI p4), (5, vI p5), (6, vI p6), (7, vI p7), (8, vI s0)]) [1,2,3,4,5,6,7,8,0] rfl ?_
      exact w_X11_card_52 X p1 p2 p3 p4 p5 p6 p7 hp1 hp2 hp3 hp4 hp5 hp6 hp7 s0 0 hs0 (r_lit rfl) h
    · simp only [if_neg q2] at h
      refine ok_iconst (pc := 47) dX11_card_47 ?_
      refine ok_goto (tgt := 52) (pc := 48) dX11_card_48 rfl ?_
      refine ok_sub (L' := [(0, .ref (xad X 0)), (1, vI p1), (2, vI p2), (3, vI p3), (4, vI p4), (5, vI p5), (6, vI p6), (7, vI p7), (8, vI s0)]) [1,2,3,4,5,6,7,8,0] rfl ?_
      exact w_X11_card_52 X p1 p2 p3 p4 p5 p6 p7 hp1 hp2 hp3 hp4 hp5 hp6 hp7 s0 1 hs0 (r_lit rfl) h
set_option maxRecDepth 100000 in
set_option maxHeartbeats 4000000 in
theorem c_X11_card (X : XE) (p1 : Int) (p2 : Int) (p3 : Int) (p4 : Int) (p5 : Int) (p6 : Int) (p7 : Int) (hp1 : inR p1) (hp2 : inR p2) (hp3 : inR p3) (hp4 : inR p4) (hp5 : inR p5) (hp6 : inR p6) (hp7 : inR p7) {σ : Mem} {Q : Int → Mem → Prop} (h : v_X11_card p1 p2 p3 p4 p5 p6 p7 σ Q) : CT X yX11_card cX11_card 10 (some .int) rm_X11_card 1 [.ref (xad X 0), vI p1, vI p2, vI p3, vI p4, vI p5, vI p6, vI p7] σ Q := by
  refine ct_of (own := RX11) (L := [(0, .ref (xad X 0)), (1, vI p1), (2, vI p2), (3, vI p3), (4, vI p4), (5, vI p5), (6, vI p6), (7, vI p7)]) rfl rfl (Nat.le_of_ble_eq_true rfl) rfl ?_
  refine ok_iload_n 3 (pc := 0) dX11_card_0 rfl rfl ?_
  refine ok_callSi (As := [vI p3]) (rest := []) (rm := rm_X11_isTold) (pc := 1) dX11_card_1 me_X11_isTold ml_X11_145 des_X11_isTold rfl ⟨rfl, rfl, rfl, rfl⟩ rfl rfl (c_X11_isTold X p3 hp3 h) (fun r2 σ3 h1 h => ?_)
  refine ok_if_eq (tgt := 35) (pc := 4) dX11_card_4 rfl h1 (fun q4 => ?_) (fun q4 => ?_)
  · have h := iteT h q4
    refine ok_iconst (pc := 35) dX11_card_35 ?_
    exact w_X11_card_36 X p1 p2 p3 p4 p5 p6 p7 hp1 hp2 hp3 hp4 hp5 hp6 hp7 0 (r_lit rfl) h
  · have h := iteF h q4
    refine ok_iload 4 (pc := 7) dX11_card_7 rfl ?_
    refine ok_callSi (As := [vI p4]) (rest := []) (rm := rm_X11_isTold) (pc := 9) dX11_card_9 me_X11_isTold ml_X11_145 des_X11_isTold rfl ⟨rfl, rfl, rfl, rfl⟩ rfl rfl (c_X11_isTold X p4 hp4 h) (fun r6 σ7 h5 h => ?_)
    refine ok_if_eq (tgt := 35) (pc := 12) dX11_card_12 rfl h5 (fun q8 => ?_) (fun q8 => ?_)
    · have h := iteT h q8
      refine ok_iconst (pc := 35) dX11_card_35 ?_
      exact w_X11_card_36 X p1 p2 p3 p4 p5 p6 p7 hp1 hp2 hp3 hp4 hp5 hp6 hp7 0 (r_lit rfl) h
    · have h := iteF h q8
      refine ok_iload 5 (pc := 15) dX11_card_15 rfl ?_
      refine ok_callSi (As := [vI p5]) (rest := []) (rm := rm_X11_isTold) (pc := 17) dX11_card_17 me_X11_isTold ml_X11_145 des_X11_isTold rfl ⟨rfl, rfl, rfl, rfl⟩ rfl rfl (c_X11_isTold X p5 hp5 h) (fun r10 σ11 h9 h => ?_)
      refine ok_if_eq (tgt := 35) (pc := 20) dX11_card_20 rfl h9 (fun q12 => ?_) (fun q12 => ?_)
      · have h := iteT h q12
        refine ok_iconst (pc := 35) dX11_card_35 ?_
        exact w_X11_card_36 X p1 p2 p3 p4 p5 p6 p7 hp1 hp2 hp3 hp4 hp5 hp6 hp7 0 (r_lit rfl) h
      · have h := iteF h q12
        refine ok_iload 6 (pc := 23) dX11_card_23 rfl ?_
        refine ok_callSi (As := [vI p6]) (rest := []) (rm := rm_X11_isTold) (pc := 25) dX11_card_25 me_X11_isTold ml_X11_145 des_X11_isTold rfl ⟨rfl, rfl, rfl, rfl⟩ rfl rfl (c_X11_isTold X p6 hp6 h) (fun r14 σ15 h13 h => ?_)
        refine ok_if_eq (tgt := 35) (pc := 28) dX11_card_28 rfl h13 (fun q16 => ?_) (fun q16 => ?_)
        · simp only [if_pos q16] at h
          refine ok_iconst (pc := 35) dX11_card_35 ?_
          exact w_X11_card_36 X p1 p2 p3 p4 p5 p6 p7 hp1 hp2 hp3 hp4 hp5 hp6 hp7 0 (r_lit rfl) h
        · simp only [if_neg q16] at h
          refine ok_iconst (pc := 31) dX11_card_31 ?_
          refine ok_goto (tgt := 36) (pc := 32) dX11_card_32 rfl ?_
          exact w_X11_card_36 X p1 p2 p3 p4 p5 p6 p7 hp1 hp2 hp3 hp4 hp5 hp6 hp7 1 (r_lit rfl) h
theorem dX0_has_0 : decode cX0_has 0 = .ok (.iload_n 1, 1) := by decide +kernel
theorem dX0_has_1 : decode cX0_has 1 = .ok (.ifCond .lt 15, 3) := by decide +kernel
theorem dX0_has_4 : decode cX0_has 4 = .ok (.iload_n 1, 1) := by decide +kernel
theorem dX0_has_5 : decode cX0_has 5 = .ok (.aload_n 0, 1) := by decide +kernel
theorem dX0_has_6 : decode cX0_has 6 = .ok (.getfield 39, 3) := by decide +kernel
theorem dX0_has_9 : decode cX0_has 9 = .ok (.if_icmp .ge 7, 3) := by decide +kernel
theorem dX0_has_12 : decode cX0_has 12 = .ok (.iconst 1, 1) := by decide +kernel
theorem dX0_has_13 : decode cX0_has 13 = .ok (.goto 4, 3) := by decide +kernel
theorem dX0_has_16 : decode cX0_has 16 = .ok (.iconst 0, 1) := by decide +kernel
theorem dX0_has_17 : decode cX0_has 17 = .ok (.ireturn, 1) := by decide +kernel
set_option maxRecDepth 100000 in
set_option maxHeartbeats 4000000 in
theorem c_X0_has (X : XE) (p1 : Int) (hp1 : inR p1) {σ : Mem} {Q : Int → Mem → Prop} (h : v_X0_has p1 σ Q) : CT X yX0_has cX0_has 2 (some .boolean) rm_X0_has 1 [.ref (xad X 16), vI p1] σ Q := by
  refine ct_of (own := RX0) (L := [(0, .ref (xad X 16)), (1, vI p1)]) rfl rfl (Nat.le_of_ble_eq_true rfl) rfl ?_
  refine ok_iload_n 1 (pc := 0) dX0_has_0 rfl rfl ?_
  refine ok_if_lt (tgt := 16) (pc := 1) dX0_has_1 rfl hp1 (fun q1 => ?_) (fun q1 => ?_)
  · have h := iteT h q1
    refine ok_iconst (pc := 16) dX0_has_16 ?_
    exact ok_iret (pc := 17) dX0_has_17 rfl rfl (nr_z (Or.inl rfl)) (r_lit rfl) h
  · have h := iteF h q1
    refine ok_iload_n 1 (pc := 4) dX0_has_4 rfl rfl ?_
    refine ok_aload_n 0 (pc := 5) dX0_has_5 rfl rfl ?_
    refine ok_wf (fun hw2 => ?_)
    refine ok_getI (pc := 6) dX0_has_6 fl_X0_39 sh_16 (Nat.le_of_ble_eq_true rfl) rfl rfl ?_
    refine ok_icmp_ge (tgt := 16) (pc := 9) dX0_has_9 rfl hp1 (hw2 _ _) (fun q3 => ?_) (fun q3 => ?_)
    · have h := iteF h q3
      refine ok_iconst (pc := 16) dX0_has_16 ?_
      exact ok_iret (pc := 17) dX0_has_17 rfl rfl (nr_z (Or.inl rfl)) (r_lit rfl) h
    · have h := iteT h q3
      refine ok_iconst (pc := 12) dX0_has_12 ?_
      refine ok_goto (tgt := 17) (pc := 13) dX0_has_13 rfl ?_
      exact ok_iret (pc := 17) dX0_has_17 rfl rfl (nr_z (Or.inr rfl)) (r_lit rfl) h
theorem dX1_isOut_0 : decode cX1_isOut 0 = .ok (.aload_n 0, 1) := by decide +kernel
theorem dX1_isOut_1 : decode cX1_isOut 1 = .ok (.getfield 18, 3) := by decide +kernel
theorem dX1_isOut_4 : decode cX1_isOut 4 = .ok (.bipush (-4), 2) := by decide +kernel
theorem dX1_isOut_6 : decode cX1_isOut 6 = .ok (.if_icmp .ne 7, 3) := by decide +kernel
theorem dX1_isOut_9 : decode cX1_isOut 9 = .ok (.iconst 1, 1) := by decide +kernel
theorem dX1_isOut_10 : decode cX1_isOut 10 = .ok (.goto 4, 3) := by decide +kernel
theorem dX1_isOut_13 : decode cX1_isOut 13 = .ok (.iconst 0, 1) := by decide +kernel
theorem dX1_isOut_14 : decode cX1_isOut 14 = .ok (.ireturn, 1) := by decide +kernel
set_option maxRecDepth 100000 in
set_option maxHeartbeats 4000000 in
theorem c_X1_isOut (X : XE) (c0 : Nat) (hc0 : c0 < 24) {σ : Mem} {Q : Int → Mem → Prop} (h : v_X1_isOut c0 σ Q) : CT X yX1_isOut cX1_isOut 1 (some .boolean) rm_X1_isOut 1 [.ref (xad X (23 + 3 * c0))] σ Q := by
  refine ct_of (own := RX1) (L := [(0, .ref (xad X (23 + 3 * c0)))]) rfl rfl (Nat.le_of_ble_eq_true rfl) rfl ?_
  refine ok_aload_n 0 (pc := 0) dX1_isOut_0 rfl rfl ?_
  refine ok_wf (fun hw1 => ?_)
  refine ok_getI (pc := 1) dX1_isOut_1 fl_X1_18 (sh_card c0 hc0) (lt_card hc0).1 rfl rfl ?_
  refine ok_bipush (pc := 4) dX1_isOut_4 rfl ?_
  refine ok_icmp_ne (tgt := 13) (pc := 6) dX1_isOut_6 rfl (hw1 _ _) (r_lit rfl) (fun q2 => ?_) (fun q2 => ?_)
  · have h := iteF h q2
    refine ok_iconst (pc := 13) dX1_isOut_13 ?_
    exact ok_iret (pc := 14) dX1_isOut_14 rfl rfl (nr_z (Or.inl rfl)) (r_lit rfl) h
  · have h := iteT h q2
    refine ok_iconst (pc := 9) dX1_isOut_9 ?_
    refine ok_goto (tgt := 14) (pc := 10) dX1_isOut_10 rfl ?_
    exact ok_iret (pc := 14) dX1_isOut_14 rfl rfl (nr_z (Or.inr rfl)) (r_lit rfl) h
theorem dX11_bit_0 : decode cX11_bit 0 = .ok (.iload_n 0, 1) := by decide +kernel
theorem dX11_bit_1 : decode cX11_bit 1 = .ok (.ifCond .eq 7, 3) := by decide +kernel
theorem dX11_bit_4 : decode cX11_bit 4 = .ok (.iconst 1, 1) := by decide +kernel
theorem dX11_bit_5 : decode cX11_bit 5 = .ok (.goto 4, 3) := by decide +kernel
theorem dX11_bit_8 : decode cX11_bit 8 = .ok (.iconst 0, 1) := by decide +kernel
theorem dX11_bit_9 : decode cX11_bit 9 = .ok (.ireturn, 1) := by decide +kernel
set_option maxRecDepth 100000 in
set_option maxHeartbeats 4000000 in
theorem c_X11_bit (X : XE) (p0 : Int) (hp0 : inR p0) {σ : Mem} {Q : Int → Mem → Prop} (h : v_X11_bit p0 σ Q) : CT X yX11_bit cX11_bit 1 (some .int) rm_X11_bit 1 [vI p0] σ Q := by
  refine ct_of (own := RX11) (L := [(0, vI p0)]) rfl rfl (Nat.le_of_ble_eq_true rfl) rfl ?_
  refine ok_iload_n 0 (pc := 0) dX11_bit_0 rfl rfl ?_
  refine ok_if_eq (tgt := 8) (pc := 1) dX11_bit_1 rfl hp0 (fun q1 => ?_) (fun q1 => ?_)
  · have h := iteT h q1
    refine ok_iconst (pc := 8) dX11_bit_8 ?_
    exact ok_iret (pc := 9) dX11_bit_9 rfl rfl rfl (r_lit rfl) h
  · have h := iteF h q1
    refine ok_iconst (pc := 4) dX11_bit_4 ?_
    refine ok_goto (tgt := 9) (pc := 5) dX11_bit_5 rfl ?_
    exact ok_iret (pc := 9) dX11_bit_9 rfl rfl rfl (r_lit rfl) h
theorem dX1_isDue_0 : decode cX1_isDue 0 = .ok (.aload_n 1, 1) := by decide +kernel
theorem dX1_isDue_1 : decode cX1_isDue 1 = .ok (.getfield 22, 3) := by decide +kernel
theorem dX1_isDue_4 : decode cX1_isDue 4 = .ok (.aload_n 0, 1) := by decide +kernel
theorem dX1_isDue_5 : decode cX1_isDue 5 = .ok (.getfield 27, 3) := by decide +kernel
theorem dX1_isDue_8 : decode cX1_isDue 8 = .ok (.isub, 1) := by decide +kernel
theorem dX1_isDue_9 : decode cX1_isDue 9 = .ok (.aload_n 1, 1) := by decide +kernel
theorem dX1_isDue_10 : decode cX1_isDue 10 = .ok (.getfield 30, 3) := by decide +kernel
theorem dX1_isDue_13 : decode cX1_isDue 13 = .ok (.bipush 18, 2) := by decide +kernel
theorem dX1_isDue_15 : decode cX1_isDue 15 = .ok (.iaload, 1) := by decide +kernel
theorem dX1_isDue_16 : decode cX1_isDue 16 = .ok (.if_icmp .lt 7, 3) := by decide +kernel
theorem dX1_isDue_19 : decode cX1_isDue 19 = .ok (.iconst 1, 1) := by decide +kernel
theorem dX1_isDue_20 : decode cX1_isDue 20 = .ok (.goto 4, 3) := by decide +kernel
theorem dX1_isDue_23 : decode cX1_isDue 23 = .ok (.iconst 0, 1) := by decide +kernel
theorem dX1_isDue_24 : decode cX1_isDue 24 = .ok (.ireturn, 1) := by decide +kernel
set_option maxRecDepth 100000 in
set_option maxHeartbeats 4000000 in
theorem c_X1_isDue (X : XE) (c0 : Nat) (hc0 : c0 < 24) {σ : Mem} {Q : Int → Mem → Prop} (h : v_X1_isDue c0 σ Q) : CT X yX1_isDue cX1_isDue 2 (some .boolean) rm_X1_isDue 1 [.ref (xad X (23 + 3 * c0)), .ref (xad X 14)] σ Q := by
  refine ct_of (own := RX1) (L := [(0, .ref (xad X (23 + 3 * c0))), (1, .ref (xad X 14))]) rfl rfl (Nat.le_of_ble_eq_true rfl) rfl ?_
  refine ok_aload_n 1 (pc := 0) dX1_isDue_0 rfl rfl ?_
  refine ok_wf (fun hw1 => ?_)
  refine ok_getI (pc := 1) dX1_isDue_1 fl_X1_22 sh_14 (Nat.le_of_ble_eq_true rfl) rfl rfl ?_
  refine ok_aload_n 0 (pc := 4) dX1_isDue_4 rfl rfl ?_
  refine ok_getI (pc := 5) dX1_isDue_5 fl_X1_27 (sh_card c0 hc0) (lt_card hc0).1 rfl rfl ?_
  refine ok_isub (pc := 8) dX1_isDue_8 ?_
  refine ok_aload_n 1 (pc := 9) dX1_isDue_9 rfl rfl ?_
  refine ok_getR (pc := 10) dX1_isDue_10 fl_X1_30 sh_14 (Nat.le_of_ble_eq_true rfl) rfl rfl ?_
  refine ok_bipush (pc := 13) dX1_isDue_13 rfl ?_
  refine ok_iald (pc := 15) dX1_isDue_15 sh_15 (Nat.le_of_ble_eq_true rfl) rfl (by decide) (by decide) ?_
  obtain ⟨h2, h⟩ := h
  refine ok_icmp_lt (tgt := 23) (pc := 16) dX1_isDue_16 rfl h2 (hw1 _ _) (fun q3 => ?_) (fun q3 => ?_)
  · have h := iteT h q3
    refine ok_iconst (pc := 23) dX1_isDue_23 ?_
    exact ok_iret (pc := 24) dX1_isDue_24 rfl rfl (nr_z (Or.inl rfl)) (r_lit rfl) h
  · have h := iteF h q3
    refine ok_iconst (pc := 19) dX1_isDue_19 ?_
    refine ok_goto (tgt := 24) (pc := 20) dX1_isDue_20 rfl ?_
    exact ok_iret (pc := 24) dX1_isDue_24 rfl rfl (nr_z (Or.inr rfl)) (r_lit rfl) h
theorem dX5_spreadOf_0 : decode cX5_spreadOf 0 = .ok (.aload_n 0, 1) := by decide +kernel
theorem dX5_spreadOf_1 : decode cX5_spreadOf 1 = .ok (.getfield 9, 3) := by decide +kernel
theorem dX5_spreadOf_4 : decode cX5_spreadOf 4 = .ok (.bipush 8, 2) := by decide +kernel
theorem dX5_spreadOf_6 : decode cX5_spreadOf 6 = .ok (.iload_n 1, 1) := by decide +kernel
theorem dX5_spreadOf_7 : decode cX5_spreadOf 7 = .ok (.iadd, 1) := by decide +kernel
theorem dX5_spreadOf_8 : decode cX5_spreadOf 8 = .ok (.iaload, 1) := by decide +kernel
theorem dX5_spreadOf_9 : decode cX5_spreadOf 9 = .ok (.ireturn, 1) := by decide +kernel
set_option maxRecDepth 100000 in
set_option maxHeartbeats 4000000 in
theorem c_X5_spreadOf (X : XE) (p1 : Int) (hp1 : inR p1) {σ : Mem} {Q : Int → Mem → Prop} (h : v_X5_spreadOf p1 σ Q) : CT X yX5_spreadOf cX5_spreadOf 2 (some .int) rm_X5_spreadOf 1 [.ref (xad X 14), vI p1] σ Q := by
  refine ct_of (own := RX5) (L := [(0, .ref (xad X 14)), (1, vI p1)]) rfl rfl (Nat.le_of_ble_eq_true rfl) rfl ?_
  refine ok_aload_n 0 (pc := 0) dX5_spreadOf_0 rfl rfl ?_
  refine ok_getR (pc := 1) dX5_spreadOf_1 fl_X5_9 sh_14 (Nat.le_of_ble_eq_true rfl) rfl rfl ?_
  refine ok_bipush (pc := 4) dX5_spreadOf_4 rfl ?_
  refine ok_iload_n 1 (pc := 6) dX5_spreadOf_6 rfl rfl ?_
  refine ok_iadd (pc := 7) dX5_spreadOf_7 ?_
  obtain ⟨h1, h⟩ := h
  obtain ⟨h2, h⟩ := h
  refine ok_wf (fun hw3 => ?_)
  refine ok_iald (pc := 8) dX5_spreadOf_8 sh_15 (Nat.le_of_ble_eq_true rfl) rfl h1 h2 ?_
  exact ok_iret (pc := 9) dX5_spreadOf_9 rfl rfl rfl (hw3 _ _) h
theorem dX1_spread_0 : decode cX1_spread 0 = .ok (.aload_n 1, 1) := by decide +kernel
theorem dX1_spread_1 : decode cX1_spread 1 = .ok (.aload_n 0, 1) := by decide +kernel
theorem dX1_spread_2 : decode cX1_spread 2 = .ok (.getfield 33, 3) := by decide +kernel
theorem dX1_spread_5 : decode cX1_spread 5 = .ok (.invokevirtual 36, 3) := by decide +kernel
theorem dX1_spread_8 : decode cX1_spread 8 = .ok (.istore_n 2, 1) := by decide +kernel
theorem dX1_spread_9 : decode cX1_spread 9 = .ok (.aload_n 0, 1) := by decide +kernel
theorem dX1_spread_10 : decode cX1_spread 10 = .ok (.getfield 40, 3) := by decide +kernel
theorem dX1_spread_13 : decode cX1_spread 13 = .ok (.iconst 2, 1) := by decide +kernel
theorem dX1_spread_14 : decode cX1_spread 14 = .ok (.if_icmp .ne 15, 3) := by decide +kernel
theorem dX1_spread_17 : decode cX1_spread 17 = .ok (.iload_n 2, 1) := by decide +kernel
theorem dX1_spread_18 : decode cX1_spread 18 = .ok (.aload_n 1, 1) := by decide +kernel
theorem dX1_spread_19 : decode cX1_spread 19 = .ok (.getfield 30, 3) := by decide +kernel
theorem dX1_spread_22 : decode cX1_spread 22 = .ok (.bipush 19, 2) := by decide +kernel
theorem dX1_spread_24 : decode cX1_spread 24 = .ok (.iaload, 1) := by decide +kernel
theorem dX1_spread_25 : decode cX1_spread 25 = .ok (.iadd, 1) := by decide +kernel
theorem dX1_spread_26 : decode cX1_spread 26 = .ok (.goto 4, 3) := by decide +kernel
theorem dX1_spread_29 : decode cX1_spread 29 = .ok (.iload_n 2, 1) := by decide +kernel
theorem dX1_spread_30 : decode cX1_spread 30 = .ok (.ireturn, 1) := by decide +kernel
set_option maxRecDepth 100000 in
set_option maxHeartbeats 4000000 in
theorem c_X1_spread (X : XE) (c0 : Nat) (hc0 : c0 < 24) {σ : Mem} {Q : Int → Mem → Prop} (h : v_X1_spread c0 σ Q) : CT X yX1_spread cX1_spread 3 (some .int) rm_X1_spread 1 [.ref (xad X (23 + 3 * c0)), .ref (xad X 14)] σ Q := by
  refine ct_of (own := RX1) (L := [(0, .ref (xad X (23 + 3 * c0))), (1, .ref (xad X 14))]) rfl rfl (Nat.le_of_ble_eq_true rfl) rfl ?_
  refine ok_aload_n 1 (pc := 0) dX1_spread_0 rfl rfl ?_
  refine ok_aload_n 0 (pc := 1) dX1_spread_1 rfl rfl ?_
  refine ok_wf (fun hw1 => ?_)
  refine ok_getI (pc := 2) dX1_spread_2 fl_X1_33 (sh_card c0 hc0) (lt_card hc0).1 rfl rfl ?_
  refine ok_callVi (As := [vI (σ (23 + 3 * c0) 0)]) (rest := []) (rm := rm_X5_spreadOf) (pc := 5) dX1_spread_5 me_X5_spreadOf ml_X1_36 (ci := 5) rfl sh_14 (Nat.le_of_ble_eq_true rfl) rfl des_X5_spreadOf rfl ⟨rfl, rfl, rfl, rfl⟩ rfl rfl (c_X5_spreadOf X (σ (23 + 3 * c0) 0) (hw1 _ _) h) (fun r3 σ4 h2 h => ?_)
  refine ok_istore_n (L' := [(2, vI r3), (0, .ref (xad X (23 + 3 * c0))), (1, .ref (xad X 14))]) (pc := 8) dX1_spread_8 rfl rfl rfl ?_
  refine ok_aload_n 1 (pc := 9) dX1_spread_9 rfl rfl ?_
  refine ok_wf (fun hw5 => ?_)
  refine ok_getI (pc := 10) dX1_spread_10 fl_X1_40 (sh_card c0 hc0) (lt_card hc0).1 rfl rfl ?_
  refine ok_iconst (pc := 13) dX1_spread_13 ?_
  refine ok_icmp_ne (tgt := 29) (pc := 14) dX1_spread_14 rfl (hw5 _ _) (r_lit rfl) (fun q6 => ?_) (fun q6 => ?_)
  · have h := iteF h q6
    refine ok_iload_n 0 (pc := 29) dX1_spread_29 rfl rfl ?_
    exact ok_iret (pc := 30) dX1_spread_30 rfl rfl rfl h2 h
  · have h := iteT h q6
    refine ok_iload_n 0 (pc := 17) dX1_spread_17 rfl rfl ?_
    refine ok_aload_n 2 (pc := 18) dX1_spread_18 rfl rfl ?_
    refine ok_getR (pc := 19) dX1_spread_19 fl_X1_30 sh_14 (Nat.le_of_ble_eq_true rfl) rfl rfl ?_
    refine ok_bipush (pc := 22) dX1_spread_22 rfl ?_
    refine ok_iald (pc := 24) dX1_spread_24 sh_15 (Nat.le_of_ble_eq_true rfl) rfl (by decide) (by decide) ?_
    refine ok_iadd (pc := 25) dX1_spread_25 ?_
    refine ok_goto (tgt := 30) (pc := 26) dX1_spread_26 rfl ?_
    obtain ⟨h7, h⟩ := h
    exact ok_iret (pc := 30) dX1_spread_30 rfl rfl rfl h7 h
theorem dX11_of_0 : decode cX11_of 0 = .ok (.aload_n 0, 1) := by decide +kernel
theorem dX11_of_1 : decode cX11_of 1 = .ok (.getfield 46, 3) := by decide +kernel
theorem dX11_of_4 : decode cX11_of 4 = .ok (.iload_n 1, 1) := by decide +kernel
theorem dX11_of_5 : decode cX11_of 5 = .ok (.invokevirtual 154, 3) := by decide +kernel
theorem dX11_of_8 : decode cX11_of 8 = .ok (.ifCond .eq 13, 3) := by decide +kernel
theorem dX11_of_11 : decode cX11_of 11 = .ok (.iload_n 2, 1) := by decide +kernel
theorem dX11_of_12 : decode cX11_of 12 = .ok (.ifCond .lt 9, 3) := by decide +kernel
theorem dX11_of_15 : decode cX11_of 15 = .ok (.iload_n 2, 1) := by decide +kernel
theorem dX11_of_16 : decode cX11_of 16 = .ok (.bipush 13, 2) := by decide +kernel
theorem dX11_of_18 : decode cX11_of 18 = .ok (.if_icmp .le 5, 3) := by decide +kernel
theorem dX11_of_21 : decode cX11_of 21 = .ok (.iconst (-1), 1) := by decide +kernel
theorem dX11_of_22 : decode cX11_of 22 = .ok (.ireturn, 1) := by decide +kernel
theorem dX11_of_23 : decode cX11_of 23 = .ok (.aload_n 0, 1) := by decide +kernel
theorem dX11_of_24 : decode cX11_of 24 = .ok (.getfield 46, 3) := by decide +kernel
theorem dX11_of_27 : decode cX11_of 27 = .ok (.getfield 157, 3) := by decide +kernel
theorem dX11_of_30 : decode cX11_of 30 = .ok (.iload_n 1, 1) := by decide +kernel
theorem dX11_of_31 : decode cX11_of 31 = .ok (.aaload, 1) := by decide +kernel
theorem dX11_of_32 : decode cX11_of 32 = .ok (.astore_n 3, 1) := by decide +kernel
theorem dX11_of_33 : decode cX11_of 33 = .ok (.iload_n 2, 1) := by decide +kernel
theorem dX11_of_34 : decode cX11_of 34 = .ok (.tableswitch 141 0 12 #[66, 71, 76, 76, 76, 76, 85, 90, 95, 100, 112, 120, 132], 66) := by decide +kernel
theorem dX11_of_100 : decode cX11_of 100 = .ok (.aload_n 3, 1) := by decide +kernel
theorem dX11_of_101 : decode cX11_of 101 = .ok (.getfield 161, 3) := by decide +kernel
theorem dX11_of_104 : decode cX11_of 104 = .ok (.ireturn, 1) := by decide +kernel
theorem dX11_of_105 : decode cX11_of 105 = .ok (.aload_n 3, 1) := by decide +kernel
theorem dX11_of_106 : decode cX11_of 106 = .ok (.getfield 166, 3) := by decide +kernel
theorem dX11_of_109 : decode cX11_of 109 = .ok (.ireturn, 1) := by decide +kernel
theorem dX11_of_110 : decode cX11_of 110 = .ok (.aload_n 3, 1) := by decide +kernel
theorem dX11_of_111 : decode cX11_of 111 = .ok (.getfield 169, 3) := by decide +kernel
theorem dX11_of_114 : decode cX11_of 114 = .ok (.iload_n 2, 1) := by decide +kernel
theorem dX11_of_115 : decode cX11_of 115 = .ok (.iconst 2, 1) := by decide +kernel
theorem dX11_of_116 : decode cX11_of 116 = .ok (.isub, 1) := by decide +kernel
theorem dX11_of_117 : decode cX11_of 117 = .ok (.iaload, 1) := by decide +kernel
theorem dX11_of_118 : decode cX11_of 118 = .ok (.ireturn, 1) := by decide +kernel
theorem dX11_of_119 : decode cX11_of 119 = .ok (.aload_n 3, 1) := by decide +kernel
theorem dX11_of_120 : decode cX11_of 120 = .ok (.getfield 172, 3) := by decide +kernel
theorem dX11_of_123 : decode cX11_of 123 = .ok (.ireturn, 1) := by decide +kernel
theorem dX11_of_124 : decode cX11_of 124 = .ok (.aload_n 3, 1) := by decide +kernel
theorem dX11_of_125 : decode cX11_of 125 = .ok (.getfield 175, 3) := by decide +kernel
theorem dX11_of_128 : decode cX11_of 128 = .ok (.ireturn, 1) := by decide +kernel
theorem dX11_of_129 : decode cX11_of 129 = .ok (.aload_n 3, 1) := by decide +kernel
theorem dX11_of_130 : decode cX11_of 130 = .ok (.getfield 178, 3) := by decide +kernel
theorem dX11_of_133 : decode cX11_of 133 = .ok (.ireturn, 1) := by decide +kernel
theorem dX11_of_134 : decode cX11_of 134 = .ok (.aload_n 0, 1) := by decide +kernel
theorem dX11_of_135 : decode cX11_of 135 = .ok (.getfield 37, 3) := by decide +kernel
theorem dX11_of_138 : decode cX11_of 138 = .ok (.aload_n 3, 1) := by decide +kernel
theorem dX11_of_139 : decode cX11_of 139 = .ok (.getfield 169, 3) := by decide +kernel
theorem dX11_of_142 : decode cX11_of 142 = .ok (.invokevirtual 181, 3) := by decide +kernel
theorem dX11_of_145 : decode cX11_of 145 = .ok (.ireturn, 1) := by decide +kernel
theorem dX11_of_146 : decode cX11_of 146 = .ok (.aload_n 3, 1) := by decide +kernel
theorem dX11_of_147 : decode cX11_of 147 = .ok (.invokevirtual 185, 3) := by decide +kernel
theorem dX11_of_150 : decode cX11_of 150 = .ok (.invokestatic 188, 3) := by decide +kernel
theorem dX11_of_153 : decode cX11_of 153 = .ok (.ireturn, 1) := by decide +kernel
theorem dX11_of_154 : decode cX11_of 154 = .ok (.aload_n 3, 1) := by decide +kernel
theorem dX11_of_155 : decode cX11_of 155 = .ok (.aload_n 0, 1) := by decide +kernel
theorem dX11_of_156 : decode cX11_of 156 = .ok (.getfield 37, 3) := by decide +kernel
theorem dX11_of_159 : decode cX11_of 159 = .ok (.invokevirtual 192, 3) := by decide +kernel
theorem dX11_of_162 : decode cX11_of 162 = .ok (.invokestatic 188, 3) := by decide +kernel
theorem dX11_of_165 : decode cX11_of 165 = .ok (.ireturn, 1) := by decide +kernel
theorem dX11_of_166 : decode cX11_of 166 = .ok (.aload_n 3, 1) := by decide +kernel
theorem dX11_of_167 : decode cX11_of 167 = .ok (.aload_n 0, 1) := by decide +kernel
theorem dX11_of_168 : decode cX11_of 168 = .ok (.getfield 37, 3) := by decide +kernel
theorem dX11_of_171 : decode cX11_of 171 = .ok (.invokevirtual 196, 3) := by decide +kernel
theorem dX11_of_174 : decode cX11_of 174 = .ok (.ireturn, 1) := by decide +kernel
theorem dX11_of_175 : decode cX11_of 175 = .ok (.aload_n 3, 1) := by decide +kernel
theorem dX11_of_176 : decode cX11_of 176 = .ok (.getfield 200, 3) := by decide +kernel
theorem dX11_of_179 : decode cX11_of 179 = .ok (.ireturn, 1) := by decide +kernel
set_option maxRecDepth 100000 in
set_option maxHeartbeats 4000000 in
theorem c_X11_of (X : XE) (p1 : Int) (p2 : Int) (hp1 : inR p1) (hp2 : inR p2) {σ : Mem} {Q : Int → Mem → Prop} (h : v_X11_of p1 p2 σ Q) : CT X yX11_of cX11_of 4 (some .int) rm_X11_of 1 [.ref (xad X 0), vI p1, vI p2] σ Q := by
  refine ct_of (own := RX11) (L := [(0, .ref (xad X 0)), (1, vI p1), (2, vI p2)]) rfl rfl (Nat.le_of_ble_eq_true rfl) rfl ?_
  refine ok_aload_n 0 (pc := 0) dX11_of_0 rfl rfl ?_
  refine ok_getR (pc := 1) dX11_of_1 fl_X11_46 sh_0 (Nat.le_of_ble_eq_true rfl) rfl rfl ?_
  refine ok_iload_n 1 (pc := 4) dX11_of_4 rfl rfl ?_
  refine ok_callVi (As := [vI p1]) (rest := []) (rm := rm_X0_has) (pc := 5) dX11_of_5 me_X0_has ml_X11_154 (ci := 0) rfl sh_16 (Nat.le_of_ble_eq_true rfl) rfl des_X0_has rfl ⟨rfl, rfl, rfl, rfl⟩ rfl rfl (c_X0_has X p1 hp1 h) (fun r2 σ3 h1 h => ?_)
  refine ok_if_eq (tgt := 21) (pc := 8) dX11_of_8 rfl h1 (fun q4 => ?_) (fun q4 => ?_)
  · have h := iteT h q4
    refine ok_iconst (pc := 21) dX11_of_21 ?_
    exact ok_iret (pc := 22) dX11_of_22 rfl rfl rfl (r_lit rfl) h
  · have h := iteF h q4
    refine ok_iload_n 2 (pc := 11) dX11_of_11 rfl rfl ?_
    refine ok_if_lt (tgt := 21) (pc := 12) dX11_of_12 rfl hp2 (fun q5 => ?_) (fun q5 => ?_)
    · have h := iteT h q5
      refine ok_iconst (pc := 21) dX11_of_21 ?_
      exact ok_iret (pc := 22) dX11_of_22 rfl rfl rfl (r_lit rfl) h
    · have h := iteF h q5
      refine ok_iload_n 2 (pc := 15) dX11_of_15 rfl rfl ?_
      refine ok_bipush (pc := 16) dX11_of_16 rfl ?_
      refine ok_icmp_le (tgt := 23) (pc := 18) dX11_of_18 rfl hp2 (r_lit rfl) (fun q6 => ?_) (fun q6 => ?_)
      · have h := iteF h q6
        refine ok_aload_n 0 (pc := 23) dX11_of_23 rfl rfl ?_
        refine ok_getR (pc := 24) dX11_of_24 fl_X11_46 sh_0 (Nat.le_of_ble_eq_true rfl) rfl rfl ?_
        refine ok_getR (pc := 27) dX11_of_27 fl_X11_157 sh_16 (Nat.le_of_ble_eq_true rfl) rfl rfl ?_
        refine ok_iload_n 1 (pc := 30) dX11_of_30 rfl rfl ?_
        obtain ⟨h7, h⟩ := h
        obtain ⟨h8, h⟩ := h
        refine ok_cards (pc := 31) dX11_of_31 h7 h8 ?_
        have hc9 : p1.toNat < 24 := by omega
        refine ok_astore_n (L' := [(3, .ref (xad X (23 + 3 * (p1.toNat)))), (0, .ref (xad X 0)), (1, vI p1), (2, vI p2)]) (pc := 32) dX11_of_32 rfl rfl rfl ?_
        refine ok_iload_n 3 (pc := 33) dX11_of_33 rfl rfl ?_
        by_cases q10 : p2 = 0
        · have h := iteT h q10
          refine ok_tin (tgt := 100) (pc := 34) dX11_of_34 hp2 (by omega) (by omega) (by first | (rw [q10]; done) | (rw [q10]; rfl)) rfl ?_
          refine ok_aload_n 0 (pc := 100) dX11_of_100 rfl rfl ?_
          refine ok_wf (fun hw11 => ?_)
          refine ok_getI (pc := 101) dX11_of_101 fl_X11_161 (sh_card (p1.toNat) hc9) (lt_card hc9).1 rfl rfl ?_
          exact ok_iret (pc := 104) dX11_of_104 rfl rfl rfl (hw11 _ _) h
        · have h := iteF h q10
          by_cases q12 : p2 = 1
          · have h := iteT h q12
            refine ok_tin (tgt := 105) (pc := 34) dX11_of_34 hp2 (by omega) (by omega) (by first | (rw [q12]; done) | (rw [q12]; rfl)) rfl ?_
            refine ok_aload_n 0 (pc := 105) dX11_of_105 rfl rfl ?_
            refine ok_wf (fun hw13 => ?_)
            refine ok_getI (pc := 106) dX11_of_106 fl_X11_166 (sh_card (p1.toNat) hc9) (lt_card hc9).1 rfl rfl ?_
            exact ok_iret (pc := 109) dX11_of_109 rfl rfl rfl (hw13 _ _) h
          · have h := iteF h q12
            by_cases q14 : p2 = 2
            · have h := iteT h q14
              refine ok_tin (tgt := 110) (pc := 34) dX11_of_34 hp2 (by omega) (by omega) (by first | (rw [q14]; done) | (rw [q14]; rfl)) rfl ?_
              refine ok_aload_n 0 (pc := 110) dX11_of_110 rfl rfl ?_
              refine ok_getR (pc := 111) dX11_of_111 fl_X11_169 (sh_card (p1.toNat) hc9) (lt_card hc9).1 rfl rfl ?_
              refine ok_iload_n 3 (pc := 114) dX11_of_114 rfl rfl ?_
              refine ok_iconst (pc := 115) dX11_of_115 ?_
              refine ok_isub (pc := 116) dX11_of_116 ?_
              obtain ⟨h15, h⟩ := h
              obtain ⟨h16, h⟩ := h
              refine ok_wf (fun hw17 => ?_)
              refine ok_iald (pc := 117) dX11_of_117 (sh_cme (p1.toNat) hc9) (lt_card hc9).2.2 rfl h15 h16 ?_
              exact ok_iret (pc := 118) dX11_of_118 rfl rfl rfl (hw17 _ _) h
            · have h := iteF h q14
              by_cases q18 : p2 = 3
              · have h := iteT h q18
                refine ok_tin (tgt := 110) (pc := 34) dX11_of_34 hp2 (by omega) (by omega) (by first | (rw [q18]; done) | (rw [q18]; rfl)) rfl ?_
                refine ok_aload_n 0 (pc := 110) dX11_of_110 rfl rfl ?_
                refine ok_getR (pc := 111) dX11_of_111 fl_X11_169 (sh_card (p1.toNat) hc9) (lt_card hc9).1 rfl rfl ?_
                refine ok_iload_n 3 (pc := 114) dX11_of_114 rfl rfl ?_
                refine ok_iconst (pc := 115) dX11_of_115 ?_
                refine ok_isub (pc := 116) dX11_of_116 ?_
                obtain ⟨h19, h⟩ := h
                obtain ⟨h20, h⟩ := h
                refine ok_wf (fun hw21 => ?_)
                refine ok_iald (pc := 117) dX11_of_117 (sh_cme (p1.toNat) hc9) (lt_card hc9).2.2 rfl h19 h20 ?_
                exact ok_iret (pc := 118) dX11_of_118 rfl rfl rfl (hw21 _ _) h
              · have h := iteF h q18
                by_cases q22 : p2 = 4
                · have h := iteT h q22
                  refine ok_tin (tgt := 110) (pc := 34) dX11_of_34 hp2 (by omega) (by omega) (by first | (rw [q22]; done) | (rw [q22]; rfl)) rfl ?_
                  refine ok_aload_n 0 (pc := 110) dX11_of_110 rfl rfl ?_
                  refine ok_getR (pc := 111) dX11_of_111 fl_X11_169 (sh_card (p1.toNat) hc9) (lt_card hc9).1 rfl rfl ?_
                  refine ok_iload_n 3 (pc := 114) dX11_of_114 rfl rfl ?_
                  refine ok_iconst (pc := 115) dX11_of_115 ?_
                  refine ok_isub (pc := 116) dX11_of_116 ?_
                  obtain ⟨h23, h⟩ := h
                  obtain ⟨h24, h⟩ := h
                  refine ok_wf (fun hw25 => ?_)
                  refine ok_iald (pc := 117) dX11_of_117 (sh_cme (p1.toNat) hc9) (lt_card hc9).2.2 rfl h23 h24 ?_
                  exact ok_iret (pc := 118) dX11_of_118 rfl rfl rfl (hw25 _ _) h
                · have h := iteF h q22
                  by_cases q26 : p2 = 5
                  · have h := iteT h q26
                    refine ok_tin (tgt := 110) (pc := 34) dX11_of_34 hp2 (by omega) (by omega) (by first | (rw [q26]; done) | (rw [q26]; rfl)) rfl ?_
                    refine ok_aload_n 0 (pc := 110) dX11_of_110 rfl rfl ?_
                    refine ok_getR (pc := 111) dX11_of_111 fl_X11_169 (sh_card (p1.toNat) hc9) (lt_card hc9).1 rfl rfl ?_
                    refine ok_iload_n 3 (pc := 114) dX11_of_114 rfl rfl ?_
                    refine ok_iconst (pc := 115) dX11_of_115 ?_
                    refine ok_isub (pc := 116) dX11_of_116 ?_
                    obtain ⟨h27, h⟩ := h
                    obtain ⟨h28, h⟩ := h
                    refine ok_wf (fun hw29 => ?_)
                    refine ok_iald (pc := 117) dX11_of_117 (sh_cme (p1.toNat) hc9) (lt_card hc9).2.2 rfl h27 h28 ?_
                    exact ok_iret (pc := 118) dX11_of_118 rfl rfl rfl (hw29 _ _) h
                  · have h := iteF h q26
                    by_cases q30 : p2 = 6
                    · have h := iteT h q30
                      refine ok_tin (tgt := 119) (pc := 34) dX11_of_34 hp2 (by omega) (by omega) (by first | (rw [q30]; done) | (rw [q30]; rfl)) rfl ?_
                      refine ok_aload_n 0 (pc := 119) dX11_of_119 rfl rfl ?_
                      refine ok_wf (fun hw31 => ?_)
                      refine ok_getI (pc := 120) dX11_of_120 fl_X11_172 (sh_card (p1.toNat) hc9) (lt_card hc9).1 rfl rfl ?_
                      exact ok_iret (pc := 123) dX11_of_123 rfl rfl rfl (hw31 _ _) h
                    · have h := iteF h q30
                      by_cases q32 : p2 = 7
                      · have h := iteT h q32
                        refine ok_tin (tgt := 124) (pc := 34) dX11_of_34 hp2 (by omega) (by omega) (by first | (rw [q32]; done) | (rw [q32]; rfl)) rfl ?_
                        refine ok_aload_n 0 (pc := 124) dX11_of_124 rfl rfl ?_
                        refine ok_wf (fun hw33 => ?_)
                        refine ok_getI (pc := 125) dX11_of_125 fl_X11_175 (sh_card (p1.toNat) hc9) (lt_card hc9).1 rfl rfl ?_
                        exact ok_iret (pc := 128) dX11_of_128 rfl rfl rfl (hw33 _ _) h
                      · have h := iteF h q32
                        by_cases q34 : p2 = 8
                        · have h := iteT h q34
                          refine ok_tin (tgt := 129) (pc := 34) dX11_of_34 hp2 (by omega) (by omega) (by first | (rw [q34]; done) | (rw [q34]; rfl)) rfl ?_
                          refine ok_aload_n 0 (pc := 129) dX11_of_129 rfl rfl ?_
                          refine ok_wf (fun hw35 => ?_)
                          refine ok_getI (pc := 130) dX11_of_130 fl_X11_178 (sh_card (p1.toNat) hc9) (lt_card hc9).1 rfl rfl ?_
                          exact ok_iret (pc := 133) dX11_of_133 rfl rfl rfl (hw35 _ _) h
                        · have h := iteF h q34
                          by_cases q36 : p2 = 9
                          · have h := iteT h q36
                            refine ok_tin (tgt := 134) (pc := 34) dX11_of_34 hp2 (by omega) (by omega) (by first | (rw [q36]; done) | (rw [q36]; rfl)) rfl ?_
                            refine ok_aload_n 1 (pc := 134) dX11_of_134 rfl rfl ?_
                            refine ok_getR (pc := 135) dX11_of_135 fl_X11_37 sh_0 (Nat.le_of_ble_eq_true rfl) rfl rfl ?_
                            refine ok_aload_n 0 (pc := 138) dX11_of_138 rfl rfl ?_
                            refine ok_getR (pc := 139) dX11_of_139 fl_X11_169 (sh_card (p1.toNat) hc9) (lt_card hc9).1 rfl rfl ?_
                            refine ok_callVi (As := [.ref (xad X (25 + 3 * (p1.toNat)))]) (rest := []) (rm := rm_X5_drawerBy_c) (pc := 142) dX11_of_142 me_X5_drawerBy ml_X11_181 (ci := 5) rfl sh_14 (Nat.le_of_ble_eq_true rfl) rfl des_X5_drawerBy rfl ⟨rfl, rfl, rfl, rfl⟩ rfl rfl (c_X5_drawerBy_c X (p1.toNat) hc9 h) (fun r38 σ39 h37 h => ?_)
                            exact ok_iret (pc := 145) dX11_of_145 rfl rfl rfl h37 h
                          · have h := iteF h q36
                            by_cases q40 : p2 = 10
                            · have h := iteT h q40
                              refine ok_tin (tgt := 146) (pc := 34) dX11_of_34 hp2 (by omega) (by omega) (by first | (rw [q40]; done) | (rw [q40]; rfl)) rfl ?_
                              refine ok_aload_n 0 (pc := 146) dX11_of_146 rfl rfl ?_
                              refine ok_callVi (As := []) (rest := []) (rm := rm_X1_isOut) (pc := 147) dX11_of_147 me_X1_isOut ml_X11_185 (ci := 1) rfl (sh_card (p1.toNat) hc9) (lt_card hc9).1 rfl des_X1_isOut rfl ⟨rfl, rfl, rfl, rfl⟩ rfl rfl (c_X1_isOut X (p1.toNat) hc9 h) (fun r42 σ43 h41 h => ?_)
                              refine ok_callSi (As := [vI r42]) (rest := []) (rm := rm_X11_bit) (pc := 150) dX11_of_150 me_X11_bit ml_X11_188 des_X11_bit rfl ⟨rfl, rfl, rfl, rfl⟩ rfl rfl (c_X11_bit X r42 h41 h) (fun r45 σ46 h44 h => ?_)
                              exact ok_iret (pc := 153) dX11_of_153 rfl rfl rfl h44 h
                            · have h := iteF h q40
                              by_cases q47 : p2 = 11
                              · have h := iteT h q47
                                refine ok_tin (tgt := 154) (pc := 34) dX11_of_34 hp2 (by omega) (by omega) (by first | (rw [q47]; done) | (rw [q47]; rfl)) rfl ?_
                                refine ok_aload_n 0 (pc := 154) dX11_of_154 rfl rfl ?_
                                refine ok_aload_n 1 (pc := 155) dX11_of_155 rfl rfl ?_
                                refine ok_getR (pc := 156) dX11_of_156 fl_X11_37 sh_0 (Nat.le_of_ble_eq_true rfl) rfl rfl ?_
                                refine ok_callVi (As := [.ref (xad X 14)]) (rest := []) (rm := rm_X1_isDue) (pc := 159) dX11_of_159 me_X1_isDue ml_X11_192 (ci := 1) rfl (sh_card (p1.toNat) hc9) (lt_card hc9).1 rfl des_X1_isDue rfl ⟨rfl, rfl, rfl, rfl⟩ rfl rfl (c_X1_isDue X (p1.toNat) hc9 h) (fun r49 σ50 h48 h => ?_)
                                refine ok_callSi (As := [vI r49]) (rest := []) (rm := rm_X11_bit) (pc := 162) dX11_of_162 me_X11_bit ml_X11_188 des_X11_bit rfl ⟨rfl, rfl, rfl, rfl⟩ rfl rfl (c_X11_bit X r49 h48 h) (fun r52 σ53 h51 h => ?_)
                                exact ok_iret (pc := 165) dX11_of_165 rfl rfl rfl h51 h
                              · have h := iteF h q47
                                by_cases q54 : p2 = 12
                                · have h := iteT h q54
                                  refine ok_tin (tgt := 166) (pc := 34) dX11_of_34 hp2 (by omega) (by omega) (by first | (rw [q54]; done) | (rw [q54]; rfl)) rfl ?_
                                  refine ok_aload_n 0 (pc := 166) dX11_of_166 rfl rfl ?_
                                  refine ok_aload_n 1 (pc := 167) dX11_of_167 rfl rfl ?_
                                  refine ok_getR (pc := 168) dX11_of_168 fl_X11_37 sh_0 (Nat.le_of_ble_eq_true rfl) rfl rfl ?_
                                  refine ok_callVi (As := [.ref (xad X 14)]) (rest := []) (rm := rm_X1_spread) (pc := 171) dX11_of_171 me_X1_spread ml_X11_196 (ci := 1) rfl (sh_card (p1.toNat) hc9) (lt_card hc9).1 rfl des_X1_spread rfl ⟨rfl, rfl, rfl, rfl⟩ rfl rfl (c_X1_spread X (p1.toNat) hc9 h) (fun r56 σ57 h55 h => ?_)
                                  exact ok_iret (pc := 174) dX11_of_174 rfl rfl rfl h55 h
                                · have h := iteF h q54
                                  refine ok_tout (tgt := 175) (pc := 34) dX11_of_34 hp2 (by omega) rfl ?_
                                  refine ok_aload_n 0 (pc := 175) dX11_of_175 rfl rfl ?_
                                  refine ok_wf (fun hw58 => ?_)
                                  refine ok_getI (pc := 176) dX11_of_176 fl_X11_200 (sh_card (p1.toNat) hc9) (lt_card hc9).1 rfl rfl ?_
                                  exact ok_iret (pc := 179) dX11_of_179 rfl rfl rfl (hw58 _ _) h
      · have h := iteT h q6
        refine ok_iconst (pc := 21) dX11_of_21 ?_
        exact ok_iret (pc := 22) dX11_of_22 rfl rfl rfl (r_lit rfl) h
theorem dX0_tellAnew_0 : decode cX0_tellAnew 0 = .ok (.aload_n 0, 1) := by decide +kernel
theorem dX0_tellAnew_1 : decode cX0_tellAnew 1 = .ok (.getfield 73, 3) := by decide +kernel
theorem dX0_tellAnew_4 : decode cX0_tellAnew 4 = .ok (.bipush 40, 2) := by decide +kernel
theorem dX0_tellAnew_6 : decode cX0_tellAnew 6 = .ok (.if_icmp .lt 6, 3) := by decide +kernel
theorem dX0_tellAnew_9 : decode cX0_tellAnew 9 = .ok (.bipush (-3), 2) := by decide +kernel
theorem dX0_tellAnew_11 : decode cX0_tellAnew 11 = .ok (.ireturn, 1) := by decide +kernel
theorem dX0_tellAnew_12 : decode cX0_tellAnew 12 = .ok (.aload_n 0, 1) := by decide +kernel
theorem dX0_tellAnew_13 : decode cX0_tellAnew 13 = .ok (.getfield 21, 3) := by decide +kernel
theorem dX0_tellAnew_16 : decode cX0_tellAnew 16 = .ok (.aload_n 0, 1) := by decide +kernel
theorem dX0_tellAnew_17 : decode cX0_tellAnew 17 = .ok (.getfield 73, 3) := by decide +kernel
theorem dX0_tellAnew_20 : decode cX0_tellAnew 20 = .ok (.iload_n 1, 1) := by decide +kernel
theorem dX0_tellAnew_21 : decode cX0_tellAnew 21 = .ok (.iastore, 1) := by decide +kernel
theorem dX0_tellAnew_22 : decode cX0_tellAnew 22 = .ok (.aload_n 0, 1) := by decide +kernel
theorem dX0_tellAnew_23 : decode cX0_tellAnew 23 = .ok (.getfield 25, 3) := by decide +kernel
theorem dX0_tellAnew_26 : decode cX0_tellAnew 26 = .ok (.aload_n 0, 1) := by decide +kernel
theorem dX0_tellAnew_27 : decode cX0_tellAnew 27 = .ok (.getfield 73, 3) := by decide +kernel
theorem dX0_tellAnew_30 : decode cX0_tellAnew 30 = .ok (.iload_n 2, 1) := by decide +kernel
theorem dX0_tellAnew_31 : decode cX0_tellAnew 31 = .ok (.iastore, 1) := by decide +kernel
theorem dX0_tellAnew_32 : decode cX0_tellAnew 32 = .ok (.aload_n 0, 1) := by decide +kernel
theorem dX0_tellAnew_33 : decode cX0_tellAnew 33 = .ok (.getfield 28, 3) := by decide +kernel
theorem dX0_tellAnew_36 : decode cX0_tellAnew 36 = .ok (.aload_n 0, 1) := by decide +kernel
theorem dX0_tellAnew_37 : decode cX0_tellAnew 37 = .ok (.getfield 73, 3) := by decide +kernel
theorem dX0_tellAnew_40 : decode cX0_tellAnew 40 = .ok (.iload_n 3, 1) := by decide +kernel
theorem dX0_tellAnew_41 : decode cX0_tellAnew 41 = .ok (.iastore, 1) := by decide +kernel
theorem dX0_tellAnew_42 : decode cX0_tellAnew 42 = .ok (.aload_n 0, 1) := by decide +kernel
theorem dX0_tellAnew_43 : decode cX0_tellAnew 43 = .ok (.getfield 31, 3) := by decide +kernel
theorem dX0_tellAnew_46 : decode cX0_tellAnew 46 = .ok (.aload_n 0, 1) := by decide +kernel
theorem dX0_tellAnew_47 : decode cX0_tellAnew 47 = .ok (.getfield 73, 3) := by decide +kernel
theorem dX0_tellAnew_50 : decode cX0_tellAnew 50 = .ok (.aload_n 0, 1) := by decide +kernel
theorem dX0_tellAnew_51 : decode cX0_tellAnew 51 = .ok (.getfield 34, 3) := by decide +kernel
theorem dX0_tellAnew_54 : decode cX0_tellAnew 54 = .ok (.getfield 52, 3) := by decide +kernel
theorem dX0_tellAnew_57 : decode cX0_tellAnew 57 = .ok (.iastore, 1) := by decide +kernel
theorem dX0_tellAnew_58 : decode cX0_tellAnew 58 = .ok (.aload_n 0, 1) := by decide +kernel
theorem dX0_tellAnew_59 : decode cX0_tellAnew 59 = .ok (.dup, 1) := by decide +kernel
theorem dX0_tellAnew_60 : decode cX0_tellAnew 60 = .ok (.getfield 73, 3) := by decide +kernel
theorem dX0_tellAnew_63 : decode cX0_tellAnew 63 = .ok (.iconst 1, 1) := by decide +kernel
theorem dX0_tellAnew_64 : decode cX0_tellAnew 64 = .ok (.iadd, 1) := by decide +kernel
theorem dX0_tellAnew_65 : decode cX0_tellAnew 65 = .ok (.putfield 73, 3) := by decide +kernel
theorem dX0_tellAnew_68 : decode cX0_tellAnew 68 = .ok (.aload_n 0, 1) := by decide +kernel
theorem dX0_tellAnew_69 : decode cX0_tellAnew 69 = .ok (.getfield 11, 3) := by decide +kernel
theorem dX0_tellAnew_72 : decode cX0_tellAnew 72 = .ok (.iload_n 1, 1) := by decide +kernel
theorem dX0_tellAnew_73 : decode cX0_tellAnew 73 = .ok (.aaload, 1) := by decide +kernel
theorem dX0_tellAnew_74 : decode cX0_tellAnew 74 = .ok (.astore 4, 2) := by decide +kernel
theorem dX0_tellAnew_76 : decode cX0_tellAnew 76 = .ok (.aload 4, 2) := by decide +kernel
theorem dX0_tellAnew_78 : decode cX0_tellAnew 78 = .ok (.getfield 63, 3) := by decide +kernel
theorem dX0_tellAnew_81 : decode cX0_tellAnew 81 = .ok (.iload_n 2, 1) := by decide +kernel
theorem dX0_tellAnew_82 : decode cX0_tellAnew 82 = .ok (.iaload, 1) := by decide +kernel
theorem dX0_tellAnew_83 : decode cX0_tellAnew 83 = .ok (.istore 5, 2) := by decide +kernel
theorem dX0_tellAnew_85 : decode cX0_tellAnew 85 = .ok (.aload 4, 2) := by decide +kernel
theorem dX0_tellAnew_87 : decode cX0_tellAnew 87 = .ok (.getfield 63, 3) := by decide +kernel
theorem dX0_tellAnew_90 : decode cX0_tellAnew 90 = .ok (.iload_n 2, 1) := by decide +kernel
theorem dX0_tellAnew_91 : decode cX0_tellAnew 91 = .ok (.iload_n 3, 1) := by decide +kernel
theorem dX0_tellAnew_92 : decode cX0_tellAnew 92 = .ok (.iastore, 1) := by decide +kernel
theorem dX0_tellAnew_93 : decode cX0_tellAnew 93 = .ok (.aload 4, 2) := by decide +kernel
theorem dX0_tellAnew_95 : decode cX0_tellAnew 95 = .ok (.dup, 1) := by decide +kernel
theorem dX0_tellAnew_96 : decode cX0_tellAnew 96 = .ok (.getfield 76, 3) := by decide +kernel
theorem dX0_tellAnew_99 : decode cX0_tellAnew 99 = .ok (.iconst 1, 1) := by decide +kernel
theorem dX0_tellAnew_100 : decode cX0_tellAnew 100 = .ok (.iadd, 1) := by decide +kernel
theorem dX0_tellAnew_101 : decode cX0_tellAnew 101 = .ok (.putfield 76, 3) := by decide +kernel
theorem dX0_tellAnew_104 : decode cX0_tellAnew 104 = .ok (.iload 5, 2) := by decide +kernel
theorem dX0_tellAnew_106 : decode cX0_tellAnew 106 = .ok (.ireturn, 1) := by decide +kernel
set_option maxRecDepth 100000 in
set_option maxHeartbeats 4000000 in
theorem c_X0_tellAnew (X : XE) (p1 : Int) (p2 : Int) (p3 : Int) (hp1 : inR p1) (hp2 : inR p2) (hp3 : inR p3) {σ : Mem} {Q : Int → Mem → Prop} (h : v_X0_tellAnew p1 p2 p3 σ Q) : CT X yX0_tellAnew cX0_tellAnew 6 (some .int) rm_X0_tellAnew 1 [.ref (xad X 16), vI p1, vI p2, vI p3] σ Q := by
  refine ct_of (own := RX0) (L := [(0, .ref (xad X 16)), (1, vI p1), (2, vI p2), (3, vI p3)]) rfl rfl (Nat.le_of_ble_eq_true rfl) rfl ?_
  refine ok_aload_n 0 (pc := 0) dX0_tellAnew_0 rfl rfl ?_
  refine ok_wf (fun hw1 => ?_)
  refine ok_getI (pc := 1) dX0_tellAnew_1 fl_X0_73 sh_16 (Nat.le_of_ble_eq_true rfl) rfl rfl ?_
  refine ok_bipush (pc := 4) dX0_tellAnew_4 rfl ?_
  refine ok_icmp_lt (tgt := 12) (pc := 6) dX0_tellAnew_6 rfl (hw1 _ _) (r_lit rfl) (fun q2 => ?_) (fun q2 => ?_)
  · have h := iteT h q2
    refine ok_aload_n 0 (pc := 12) dX0_tellAnew_12 rfl rfl ?_
    refine ok_getR (pc := 13) dX0_tellAnew_13 fl_X0_21 sh_16 (Nat.le_of_ble_eq_true rfl) rfl rfl ?_
    refine ok_aload_n 0 (pc := 16) dX0_tellAnew_16 rfl rfl ?_
    refine ok_getI (pc := 17) dX0_tellAnew_17 fl_X0_73 sh_16 (Nat.le_of_ble_eq_true rfl) rfl rfl ?_
    refine ok_iload_n 1 (pc := 20) dX0_tellAnew_20 rfl rfl ?_
    obtain ⟨h3, h⟩ := h
    obtain ⟨h4, h⟩ := h
    refine ok_iast (pc := 21) dX0_tellAnew_21 sh_19 (Nat.le_of_ble_eq_true rfl) rfl h3 h4 hp1 ?_
    refine ok_aload_n 0 (pc := 22) dX0_tellAnew_22 rfl rfl ?_
    refine ok_getR (pc := 23) dX0_tellAnew_23 fl_X0_25 sh_16 (Nat.le_of_ble_eq_true rfl) rfl rfl ?_
    refine ok_aload_n 0 (pc := 26) dX0_tellAnew_26 rfl rfl ?_
    refine ok_wf (fun hw5 => ?_)
    refine ok_getI (pc := 27) dX0_tellAnew_27 fl_X0_73 sh_16 (Nat.le_of_ble_eq_true rfl) rfl rfl ?_
    have e6 : ((mset σ 19 ((σ 16 9).toNat) p1) 16 9) = (σ 16 9) := (mset_ne (by omega))
    refine ok_top e6 ?_
    refine ok_iload_n 2 (pc := 30) dX0_tellAnew_30 rfl rfl ?_
    refine ok_iast (pc := 31) dX0_tellAnew_31 sh_20 (Nat.le_of_ble_eq_true rfl) rfl h3 h4 hp2 ?_
    refine ok_aload_n 0 (pc := 32) dX0_tellAnew_32 rfl rfl ?_
    refine ok_getR (pc := 33) dX0_tellAnew_33 fl_X0_28 sh_16 (Nat.le_of_ble_eq_true rfl) rfl rfl ?_
    refine ok_aload_n 0 (pc := 36) dX0_tellAnew_36 rfl rfl ?_
    refine ok_wf (fun hw8 => ?_)
    refine ok_getI (pc := 37) dX0_tellAnew_37 fl_X0_73 sh_16 (Nat.le_of_ble_eq_true rfl) rfl rfl ?_
    have e9 : ((mset (mset σ 19 ((σ 16 9).toNat) p1) 20 ((σ 16 9).toNat) p2) 16 9) = (σ 16 9) := (mset_ne (by omega)).trans (mset_ne (by omega))
    refine ok_top e9 ?_
    refine ok_iload_n 3 (pc := 40) dX0_tellAnew_40 rfl rfl ?_
    refine ok_iast (pc := 41) dX0_tellAnew_41 sh_21 (Nat.le_of_ble_eq_true rfl) rfl h3 h4 hp3 ?_
    refine ok_aload_n 0 (pc := 42) dX0_tellAnew_42 rfl rfl ?_
    refine ok_getR (pc := 43) dX0_tellAnew_43 fl_X0_31 sh_16 (Nat.le_of_ble_eq_true rfl) rfl rfl ?_
    refine ok_aload_n 0 (pc := 46) dX0_tellAnew_46 rfl rfl ?_
    refine ok_wf (fun hw11 => ?_)
    refine ok_getI (pc := 47) dX0_tellAnew_47 fl_X0_73 sh_16 (Nat.le_of_ble_eq_true rfl) rfl rfl ?_
    have e12 : ((mset (mset (mset σ 19 ((σ 16 9).toNat) p1) 20 ((σ 16 9).toNat) p2) 21 ((σ 16 9).toNat) p3) 16 9) = (σ 16 9) := (mset_ne (by omega)).trans ((mset_ne (by omega)).trans (mset_ne (by omega)))
    refine ok_top e12 ?_
    refine ok_aload_n 0 (pc := 50) dX0_tellAnew_50 rfl rfl ?_
    refine ok_getR (pc := 51) dX0_tellAnew_51 fl_X0_34 sh_16 (Nat.le_of_ble_eq_true rfl) rfl rfl ?_
    refine ok_getI (pc := 54) dX0_tellAnew_54 fl_X0_52 sh_14 (Nat.le_of_ble_eq_true rfl) rfl rfl ?_
    have e14 : ((mset (mset (mset σ 19 ((σ 16 9).toNat) p1) 20 ((σ 16 9).toNat) p2) 21 ((σ 16 9).toNat) p3) 14 2) = (σ 14 2) := (mset_ne (by omega)).trans ((mset_ne (by omega)).trans (mset_ne (by omega)))
    refine ok_top e14 ?_
    refine ok_iast (pc := 57) dX0_tellAnew_57 sh_22 (Nat.le_of_ble_eq_true rfl) rfl h3 h4 (e14 ▸ hw11 _ _) ?_
    refine ok_aload_n 0 (pc := 58) dX0_tellAnew_58 rfl rfl ?_
    refine ok_dup (pc := 59) dX0_tellAnew_59 rfl ?_
    refine ok_wf (fun hw16 => ?_)
    refine ok_getI (pc := 60) dX0_tellAnew_60 fl_X0_73 sh_16 (Nat.le_of_ble_eq_true rfl) rfl rfl ?_
    have e17 : ((mset (mset (mset (mset σ 19 ((σ 16 9).toNat) p1) 20 ((σ 16 9).toNat) p2) 21 ((σ 16 9).toNat) p3) 22 ((σ 16 9).toNat) (σ 14 2)) 16 9) = (σ 16 9) := (mset_ne (by omega)).trans ((mset_ne (by omega)).trans ((mset_ne (by omega)).trans (mset_ne (by omega))))
    refine ok_top e17 ?_
    refine ok_iconst (pc := 63) dX0_tellAnew_63 ?_
    refine ok_iadd (pc := 64) dX0_tellAnew_64 ?_
    obtain ⟨h19, h⟩ := h
    refine ok_putI (pc := 65) dX0_tellAnew_65 fl_X0_73 fp_X0_9 sh_16 (Nat.le_of_ble_eq_true rfl) rfl rfl h19 rfl rfl ?_
    refine ok_aload_n 0 (pc := 68) dX0_tellAnew_68 rfl rfl ?_
    refine ok_getR (pc := 69) dX0_tellAnew_69 fl_X0_11 sh_16 (Nat.le_of_ble_eq_true rfl) rfl rfl ?_
    refine ok_iload_n 1 (pc := 72) dX0_tellAnew_72 rfl rfl ?_
    obtain ⟨h20, h⟩ := h
    obtain ⟨h21, h⟩ := h
    refine ok_cards (pc := 73) dX0_tellAnew_73 h20 h21 ?_
    have hc22 : p1.toNat < 24 := by omega
    refine ok_astore (L' := [(4, .ref (xad X (23 + 3 * (p1.toNat)))), (0, .ref (xad X 16)), (1, vI p1), (2, vI p2), (3, vI p3)]) (pc := 74) dX0_tellAnew_74 rfl rfl ?_
    refine ok_aload 0 (pc := 76) dX0_tellAnew_76 rfl ?_
    refine ok_getR (pc := 78) dX0_tellAnew_78 fl_X0_63 (sh_card (p1.toNat) hc22) (lt_card hc22).1 rfl rfl ?_
    refine ok_iload_n 3 (pc := 81) dX0_tellAnew_81 rfl rfl ?_
    obtain ⟨h23, h⟩ := h
    obtain ⟨h24, h⟩ := h
    refine ok_wf (fun hw25 => ?_)
    refine ok_iald (pc := 82) dX0_tellAnew_82 (sh_cme (p1.toNat) hc22) (lt_card hc22).2.2 rfl h23 h24 ?_
    have e26 : ((mset (mset (mset (mset (mset σ 19 ((σ 16 9).toNat) p1) 20 ((σ 16 9).toNat) p2) 21 ((σ 16 9).toNat) p3) 22 ((σ 16 9).toNat) (σ 14 2)) 16 9 ((σ 16 9) + 1)) (25 + 3 * (p1.toNat)) p2.toNat) = (σ (25 + 3 * (p1.toNat)) p2.toNat) := (mset_ne (by omega)).trans ((mset_ne (by omega)).trans ((mset_ne (by omega)).trans ((mset_ne (by omega)).trans (mset_ne (by omega)))))
    refine ok_top e26 ?_
    refine ok_istore (L' := [(5, vI (σ (25 + 3 * (p1.toNat)) p2.toNat)), (4, .ref (xad X (23 + 3 * (p1.toNat)))), (0, .ref (xad X 16)), (1, vI p1), (2, vI p2), (3, vI p3)]) (pc := 83) dX0_tellAnew_83 rfl rfl ?_
    refine ok_aload 1 (pc := 85) dX0_tellAnew_85 rfl ?_
    refine ok_getR (pc := 87) dX0_tellAnew_87 fl_X0_63 (sh_card (p1.toNat) hc22) (lt_card hc22).1 rfl rfl ?_
    refine ok_iload_n 4 (pc := 90) dX0_tellAnew_90 rfl rfl ?_
    refine ok_iload_n 5 (pc := 91) dX0_tellAnew_91 rfl rfl ?_
    refine ok_iast (pc := 92) dX0_tellAnew_92 (sh_cme (p1.toNat) hc22) (lt_card hc22).2.2 rfl h23 h24 hp3 ?_
    refine ok_aload 1 (pc := 93) dX0_tellAnew_93 rfl ?_
    refine ok_dup (pc := 95) dX0_tellAnew_95 rfl ?_
    refine ok_wf (fun hw28 => ?_)
    refine ok_getI (pc := 96) dX0_tellAnew_96 fl_X0_76 (sh_card (p1.toNat) hc22) (lt_card hc22).1 rfl rfl ?_
    have e29 : ((mset (mset (mset (mset (mset (mset σ 19 ((σ 16 9).toNat) p1) 20 ((σ 16 9).toNat) p2) 21 ((σ 16 9).toNat) p3) 22 ((σ 16 9).toNat) (σ 14 2)) 16 9 ((σ 16 9) + 1)) (25 + 3 * (p1.toNat)) (p2.toNat) p3) (23 + 3 * (p1.toNat)) 4) = (σ (23 + 3 * (p1.toNat)) 4) := (mset_ne (by omega)).trans ((mset_ne (by omega)).trans ((mset_ne (by omega)).trans ((mset_ne (by omega)).trans ((mset_ne (by omega)).trans (mset_ne (by omega))))))
    refine ok_top e29 ?_
    refine ok_iconst (pc := 99) dX0_tellAnew_99 ?_
    refine ok_iadd (pc := 100) dX0_tellAnew_100 ?_
    obtain ⟨h31, h⟩ := h
    refine ok_putI (pc := 101) dX0_tellAnew_101 fl_X0_76 fp_X1_4 (sh_card (p1.toNat) hc22) (lt_card hc22).1 rfl rfl h31 rfl rfl ?_
    refine ok_iload 0 (pc := 104) dX0_tellAnew_104 rfl ?_
    exact ok_iret (pc := 106) dX0_tellAnew_106 rfl rfl rfl (e26 ▸ hw25 _ _) h
  · have h := iteF h q2
    refine ok_bipush (pc := 9) dX0_tellAnew_9 rfl ?_
    exact ok_iret (pc := 11) dX0_tellAnew_11 rfl rfl rfl (r_lit rfl) h
theorem dX11_anew_0 : decode cX11_anew 0 = .ok (.aload_n 0, 1) := by decide +kernel
theorem dX11_anew_1 : decode cX11_anew 1 = .ok (.getfield 46, 3) := by decide +kernel
theorem dX11_anew_4 : decode cX11_anew 4 = .ok (.iload_n 1, 1) := by decide +kernel
theorem dX11_anew_5 : decode cX11_anew 5 = .ok (.invokevirtual 154, 3) := by decide +kernel
theorem dX11_anew_8 : decode cX11_anew 8 = .ok (.ifCond .eq 17, 3) := by decide +kernel
theorem dX11_anew_11 : decode cX11_anew 11 = .ok (.iload_n 2, 1) := by decide +kernel
theorem dX11_anew_12 : decode cX11_anew 12 = .ok (.invokestatic 203, 3) := by decide +kernel
theorem dX11_anew_15 : decode cX11_anew 15 = .ok (.ifCond .eq 10, 3) := by decide +kernel
theorem dX11_anew_18 : decode cX11_anew 18 = .ok (.iload_n 3, 1) := by decide +kernel
theorem dX11_anew_19 : decode cX11_anew 19 = .ok (.invokestatic 145, 3) := by decide +kernel
theorem dX11_anew_22 : decode cX11_anew 22 = .ok (.ifCond .ne 5, 3) := by decide +kernel
theorem dX11_anew_25 : decode cX11_anew 25 = .ok (.iconst (-1), 1) := by decide +kernel
theorem dX11_anew_26 : decode cX11_anew 26 = .ok (.ireturn, 1) := by decide +kernel
theorem dX11_anew_27 : decode cX11_anew 27 = .ok (.aload_n 0, 1) := by decide +kernel
theorem dX11_anew_28 : decode cX11_anew 28 = .ok (.getfield 46, 3) := by decide +kernel
theorem dX11_anew_31 : decode cX11_anew 31 = .ok (.iload_n 1, 1) := by decide +kernel
theorem dX11_anew_32 : decode cX11_anew 32 = .ok (.iload_n 2, 1) := by decide +kernel
theorem dX11_anew_33 : decode cX11_anew 33 = .ok (.iload_n 3, 1) := by decide +kernel
theorem dX11_anew_34 : decode cX11_anew 34 = .ok (.invokevirtual 206, 3) := by decide +kernel
theorem dX11_anew_37 : decode cX11_anew 37 = .ok (.ireturn, 1) := by decide +kernel
set_option maxRecDepth 100000 in
set_option maxHeartbeats 4000000 in
theorem c_X11_anew (X : XE) (p1 : Int) (p2 : Int) (p3 : Int) (hp1 : inR p1) (hp2 : inR p2) (hp3 : inR p3) {σ : Mem} {Q : Int → Mem → Prop} (h : v_X11_anew p1 p2 p3 σ Q) : CT X yX11_anew cX11_anew 4 (some .int) rm_X11_anew 1 [.ref (xad X 0), vI p1, vI p2, vI p3] σ Q := by
  refine ct_of (own := RX11) (L := [(0, .ref (xad X 0)), (1, vI p1), (2, vI p2), (3, vI p3)]) rfl rfl (Nat.le_of_ble_eq_true rfl) rfl ?_
  refine ok_aload_n 0 (pc := 0) dX11_anew_0 rfl rfl ?_
  refine ok_getR (pc := 1) dX11_anew_1 fl_X11_46 sh_0 (Nat.le_of_ble_eq_true rfl) rfl rfl ?_
  refine ok_iload_n 1 (pc := 4) dX11_anew_4 rfl rfl ?_
  refine ok_callVi (As := [vI p1]) (rest := []) (rm := rm_X0_has) (pc := 5) dX11_anew_5 me_X0_has ml_X11_154 (ci := 0) rfl sh_16 (Nat.le_of_ble_eq_true rfl) rfl des_X0_has rfl ⟨rfl, rfl, rfl, rfl⟩ rfl rfl (c_X0_has X p1 hp1 h) (fun r2 σ3 h1 h => ?_)
  refine ok_if_eq (tgt := 25) (pc := 8) dX11_anew_8 rfl h1 (fun q4 => ?_) (fun q4 => ?_)
  · have h := iteT h q4
    refine ok_iconst (pc := 25) dX11_anew_25 ?_
    exact ok_iret (pc := 26) dX11_anew_26 rfl rfl rfl (r_lit rfl) h
  · have h := iteF h q4
    refine ok_iload_n 2 (pc := 11) dX11_anew_11 rfl rfl ?_
    refine ok_callSi (As := [vI p2]) (rest := []) (rm := rm_X11_isMeasure) (pc := 12) dX11_anew_12 me_X11_isMeasure ml_X11_203 des_X11_isMeasure rfl ⟨rfl, rfl, rfl, rfl⟩ rfl rfl (c_X11_isMeasure X p2 hp2 h) (fun r6 σ7 h5 h => ?_)
    refine ok_if_eq (tgt := 25) (pc := 15) dX11_anew_15 rfl h5 (fun q8 => ?_) (fun q8 => ?_)
    · have h := iteT h q8
      refine ok_iconst (pc := 25) dX11_anew_25 ?_
      exact ok_iret (pc := 26) dX11_anew_26 rfl rfl rfl (r_lit rfl) h
    · have h := iteF h q8
      refine ok_iload_n 3 (pc := 18) dX11_anew_18 rfl rfl ?_
      refine ok_callSi (As := [vI p3]) (rest := []) (rm := rm_X11_isTold) (pc := 19) dX11_anew_19 me_X11_isTold ml_X11_145 des_X11_isTold rfl ⟨rfl, rfl, rfl, rfl⟩ rfl rfl (c_X11_isTold X p3 hp3 h) (fun r10 σ11 h9 h => ?_)
      refine ok_if_ne (tgt := 27) (pc := 22) dX11_anew_22 rfl h9 (fun q12 => ?_) (fun q12 => ?_)
      · have h := iteF h q12
        refine ok_aload_n 0 (pc := 27) dX11_anew_27 rfl rfl ?_
        refine ok_getR (pc := 28) dX11_anew_28 fl_X11_46 sh_0 (Nat.le_of_ble_eq_true rfl) rfl rfl ?_
        refine ok_iload_n 1 (pc := 31) dX11_anew_31 rfl rfl ?_
        refine ok_iload_n 2 (pc := 32) dX11_anew_32 rfl rfl ?_
        refine ok_iload_n 3 (pc := 33) dX11_anew_33 rfl rfl ?_
        refine ok_callVi (As := [vI p1, vI p2, vI p3]) (rest := []) (rm := rm_X0_tellAnew) (pc := 34) dX11_anew_34 me_X0_tellAnew ml_X11_206 (ci := 0) rfl sh_16 (Nat.le_of_ble_eq_true rfl) rfl des_X0_tellAnew rfl ⟨rfl, rfl, rfl, rfl⟩ rfl rfl (c_X0_tellAnew X p1 p2 p3 hp1 hp2 hp3 h) (fun r14 σ15 h13 h => ?_)
        exact ok_iret (pc := 37) dX11_anew_37 rfl rfl rfl h13 h
      · have h := iteT h q12
        refine ok_iconst (pc := 25) dX11_anew_25 ?_
        exact ok_iret (pc := 26) dX11_anew_26 rfl rfl rfl (r_lit rfl) h
theorem dX0_knownOn_0 : decode cX0_knownOn 0 = .ok (.iload_n 3, 1) := by decide +kernel
theorem dX0_knownOn_1 : decode cX0_knownOn 1 = .ok (.aload_n 0, 1) := by decide +kernel
theorem dX0_knownOn_2 : decode cX0_knownOn 2 = .ok (.getfield 11, 3) := by decide +kernel
theorem dX0_knownOn_5 : decode cX0_knownOn 5 = .ok (.iload_n 1, 1) := by decide +kernel
theorem dX0_knownOn_6 : decode cX0_knownOn 6 = .ok (.aaload, 1) := by decide +kernel
theorem dX0_knownOn_7 : decode cX0_knownOn 7 = .ok (.getfield 57, 3) := by decide +kernel
theorem dX0_knownOn_10 : decode cX0_knownOn 10 = .ok (.if_icmp .ge 5, 3) := by decide +kernel
theorem dX0_knownOn_13 : decode cX0_knownOn 13 = .ok (.iconst 0, 1) := by decide +kernel
theorem dX0_knownOn_14 : decode cX0_knownOn 14 = .ok (.ireturn, 1) := by decide +kernel
theorem dX0_knownOn_15 : decode cX0_knownOn 15 = .ok (.aload_n 0, 1) := by decide +kernel
theorem dX0_knownOn_16 : decode cX0_knownOn 16 = .ok (.getfield 11, 3) := by decide +kernel
theorem dX0_knownOn_19 : decode cX0_knownOn 19 = .ok (.iload_n 1, 1) := by decide +kernel
theorem dX0_knownOn_20 : decode cX0_knownOn 20 = .ok (.aaload, 1) := by decide +kernel
theorem dX0_knownOn_21 : decode cX0_knownOn 21 = .ok (.getfield 60, 3) := by decide +kernel
theorem dX0_knownOn_24 : decode cX0_knownOn 24 = .ok (.iload_n 2, 1) := by decide +kernel
theorem dX0_knownOn_25 : decode cX0_knownOn 25 = .ok (.iaload, 1) := by decide +kernel
theorem dX0_knownOn_26 : decode cX0_knownOn 26 = .ok (.istore 4, 2) := by decide +kernel
theorem dX0_knownOn_28 : decode cX0_knownOn 28 = .ok (.iconst 0, 1) := by decide +kernel
theorem dX0_knownOn_29 : decode cX0_knownOn 29 = .ok (.istore 5, 2) := by decide +kernel
theorem dX0_knownOn_31 : decode cX0_knownOn 31 = .ok (.iload 5, 2) := by decide +kernel
theorem dX0_knownOn_33 : decode cX0_knownOn 33 = .ok (.aload_n 0, 1) := by decide +kernel
theorem dX0_knownOn_34 : decode cX0_knownOn 34 = .ok (.getfield 73, 3) := by decide +kernel
theorem dX0_knownOn_37 : decode cX0_knownOn 37 = .ok (.if_icmp .ge 51, 3) := by decide +kernel
theorem dX0_knownOn_40 : decode cX0_knownOn 40 = .ok (.aload_n 0, 1) := by decide +kernel
theorem dX0_knownOn_41 : decode cX0_knownOn 41 = .ok (.getfield 21, 3) := by decide +kernel
theorem dX0_knownOn_44 : decode cX0_knownOn 44 = .ok (.iload 5, 2) := by decide +kernel
theorem dX0_knownOn_46 : decode cX0_knownOn 46 = .ok (.iaload, 1) := by decide +kernel
theorem dX0_knownOn_47 : decode cX0_knownOn 47 = .ok (.iload_n 1, 1) := by decide +kernel
theorem dX0_knownOn_48 : decode cX0_knownOn 48 = .ok (.if_icmp .ne 34, 3) := by decide +kernel
theorem dX0_knownOn_51 : decode cX0_knownOn 51 = .ok (.aload_n 0, 1) := by decide +kernel
theorem dX0_knownOn_52 : decode cX0_knownOn 52 = .ok (.getfield 25, 3) := by decide +kernel
theorem dX0_knownOn_55 : decode cX0_knownOn 55 = .ok (.iload 5, 2) := by decide +kernel
theorem dX0_knownOn_57 : decode cX0_knownOn 57 = .ok (.iaload, 1) := by decide +kernel
theorem dX0_knownOn_58 : decode cX0_knownOn 58 = .ok (.iload_n 2, 1) := by decide +kernel
theorem dX0_knownOn_59 : decode cX0_knownOn 59 = .ok (.if_icmp .ne 23, 3) := by decide +kernel
theorem dX0_knownOn_62 : decode cX0_knownOn 62 = .ok (.aload_n 0, 1) := by decide +kernel
theorem dX0_knownOn_63 : decode cX0_knownOn 63 = .ok (.getfield 31, 3) := by decide +kernel
theorem dX0_knownOn_66 : decode cX0_knownOn 66 = .ok (.iload 5, 2) := by decide +kernel
theorem dX0_knownOn_68 : decode cX0_knownOn 68 = .ok (.iaload, 1) := by decide +kernel
theorem dX0_knownOn_69 : decode cX0_knownOn 69 = .ok (.iload_n 3, 1) := by decide +kernel
theorem dX0_knownOn_70 : decode cX0_knownOn 70 = .ok (.if_icmp .gt 12, 3) := by decide +kernel
theorem dX0_knownOn_73 : decode cX0_knownOn 73 = .ok (.aload_n 0, 1) := by decide +kernel
theorem dX0_knownOn_74 : decode cX0_knownOn 74 = .ok (.getfield 28, 3) := by decide +kernel
theorem dX0_knownOn_77 : decode cX0_knownOn 77 = .ok (.iload 5, 2) := by decide +kernel
theorem dX0_knownOn_79 : decode cX0_knownOn 79 = .ok (.iaload, 1) := by decide +kernel
theorem dX0_knownOn_80 : decode cX0_knownOn 80 = .ok (.istore 4, 2) := by decide +kernel
theorem dX0_knownOn_82 : decode cX0_knownOn 82 = .ok (.iinc 5 1, 3) := by decide +kernel
theorem dX0_knownOn_85 : decode cX0_knownOn 85 = .ok (.goto (-54), 3) := by decide +kernel
theorem dX0_knownOn_88 : decode cX0_knownOn 88 = .ok (.iload 4, 2) := by decide +kernel
theorem dX0_knownOn_90 : decode cX0_knownOn 90 = .ok (.ireturn, 1) := by decide +kernel
set_option maxRecDepth 100000 in
set_option maxHeartbeats 4000000 in
theorem w_X0_knownOn_31 (X : XE) (p1 : Int) (p2 : Int) (p3 : Int) (hp1 : inR p1) (hp2 : inR p2) (hp3 : inR p3) {Q : Int → Mem → Prop} : ∀ (n : Nat) (x4 : Int) (x5 : Int) (σ : Mem), inR x4 → inR x5 → l_X0_knownOn_31 p1 p2 p3 Q n x4 x5 σ → ok X rm_X0_knownOn RX0 cX0_knownOn 6 (some .int) 1 Q 31 [(0, .ref (xad X 16)), (1, vI p1), (2, vI p2), (3, vI p3), (4, vI x4), (5, vI x5)] [] σ := by
  intro n
  induction n with
  | zero => intro x4 x5 σ hx4 hx5 h; exact False.elim h
  | succ n ih =>
    intro x4 x5 σ hx4 hx5 h
    refine ok_iload 5 (pc := 31) dX0_knownOn_31 rfl ?_
    refine ok_aload_n 0 (pc := 33) dX0_knownOn_33 rfl rfl ?_
    refine ok_wf (fun hw1 => ?_)
    refine ok_getI (pc := 34) dX0_knownOn_34 fl_X0_73 sh_16 (Nat.le_of_ble_eq_true rfl) rfl rfl ?_
    refine ok_icmp_ge (tgt := 88) (pc := 37) dX0_knownOn_37 rfl hx5 (hw1 _ _) (fun q2 => ?_) (fun q2 => ?_)
    · have h := iteF h q2
      refine ok_iload 4 (pc := 88) dX0_knownOn_88 rfl ?_
      exact ok_iret (pc := 90) dX0_knownOn_90 rfl rfl rfl hx4 h
    · have h := iteT h q2
      refine ok_aload_n 0 (pc := 40) dX0_knownOn_40 rfl rfl ?_
      refine ok_getR (pc := 41) dX0_knownOn_41 fl_X0_21 sh_16 (Nat.le_of_ble_eq_true rfl) rfl rfl ?_
      refine ok_iload 5 (pc := 44) dX0_knownOn_44 rfl ?_
      obtain ⟨h3, h⟩ := h
      obtain ⟨h4, h⟩ := h
      refine ok_iald (pc := 46) dX0_knownOn_46 sh_19 (Nat.le_of_ble_eq_true rfl) rfl h3 h4 ?_
      refine ok_iload_n 1 (pc := 47) dX0_knownOn_47 rfl rfl ?_
      refine ok_icmp_ne (tgt := 82) (pc := 48) dX0_knownOn_48 rfl (hw1 _ _) hp1 (fun q5 => ?_) (fun q5 => ?_)
      · have h := iteF h q5
        refine ok_iinc (L' := [(5, vI (x5 + 1)), (0, .ref (xad X 16)), (1, vI p1), (2, vI p2), (3, vI p3), (4, vI x4)]) 5 (pc := 82) dX0_knownOn_82 rfl rfl rfl ?_
        refine ok_goto (tgt := 31) (pc := 85) dX0_knownOn_85 rfl ?_
        obtain ⟨h6, h⟩ := h
        refine ok_sub (L' := [(0, .ref (xad X 16)), (1, vI p1), (2, vI p2), (3, vI p3), (4, vI x4), (5, vI (x5 + 1))]) [1,2,3,4,5,0] rfl ?_
        exact ih x4 (x5 + 1) σ hx4 h6 h
      · have h := iteT h q5
        refine ok_aload_n 0 (pc := 51) dX0_knownOn_51 rfl rfl ?_
        refine ok_getR (pc := 52) dX0_knownOn_52 fl_X0_25 sh_16 (Nat.le_of_ble_eq_true rfl) rfl rfl ?_
        refine ok_iload 5 (pc := 55) dX0_knownOn_55 rfl ?_
        refine ok_iald (pc := 57) dX0_knownOn_57 sh_20 (Nat.le_of_ble_eq_true rfl) rfl h3 h4 ?_
        refine ok_iload_n 2 (pc := 58) dX0_knownOn_58 rfl rfl ?_
        refine ok_icmp_ne (tgt := 82) (pc := 59) dX0_knownOn_59 rfl (hw1 _ _) hp2 (fun q7 => ?_) (fun q7 => ?_)
        · have h := iteF h q7
          refine ok_iinc (L' := [(5, vI (x5 + 1)), (0, .ref (xad X 16)), (1, vI p1), (2, vI p2), (3, vI p3), (4, vI x4)]) 5 (pc := 82) dX0_knownOn_82 rfl rfl rfl ?_
          refine ok_goto (tgt := 31) (pc := 85) dX0_knownOn_85 rfl ?_
          obtain ⟨h8, h⟩ := h
          refine ok_sub (L' := [(0, .ref (xad X 16)), (1, vI p1), (2, vI p2), (3, vI p3), (4, vI x4), (5, vI (x5 + 1))]) [1,2,3,4,5,0] rfl ?_
          exact ih x4 (x5 + 1) σ hx4 h8 h
        · have h := iteT h q7
          refine ok_aload_n 0 (pc := 62) dX0_knownOn_62 rfl rfl ?_
          refine ok_getR (pc := 63) dX0_knownOn_63 fl_X0_31 sh_16 (Nat.le_of_ble_eq_true rfl) rfl rfl ?_
          refine ok_iload 5 (pc := 66) dX0_knownOn_66 rfl ?_
          refine ok_iald (pc := 68) dX0_knownOn_68 sh_22 (Nat.le_of_ble_eq_true rfl) rfl h3 h4 ?_
          refine ok_iload_n 3 (pc := 69) dX0_knownOn_69 rfl rfl ?_
          refine ok_icmp_gt (tgt := 82) (pc := 70) dX0_knownOn_70 rfl (hw1 _ _) hp3 (fun q9 => ?_) (fun q9 => ?_)
          · have h := iteT h q9
            refine ok_iinc (L' := [(5, vI (x5 + 1)), (0, .ref (xad X 16)), (1, vI p1), (2, vI p2), (3, vI p3), (4, vI x4)]) 5 (pc := 82) dX0_knownOn_82 rfl rfl rfl ?_
            refine ok_goto (tgt := 31) (pc := 85) dX0_knownOn_85 rfl ?_
            obtain ⟨h10, h⟩ := h
            refine ok_sub (L' := [(0, .ref (xad X 16)), (1, vI p1), (2, vI p2), (3, vI p3), (4, vI x4), (5, vI (x5 + 1))]) [1,2,3,4,5,0] rfl ?_
            exact ih x4 (x5 + 1) σ hx4 h10 h
          · have h := iteF h q9
            refine ok_aload_n 0 (pc := 73) dX0_knownOn_73 rfl rfl ?_
            refine ok_getR (pc := 74) dX0_knownOn_74 fl_X0_28 sh_16 (Nat.le_of_ble_eq_true rfl) rfl rfl ?_
            refine ok_iload 5 (pc := 77) dX0_knownOn_77 rfl ?_
            refine ok_iald (pc := 79) dX0_knownOn_79 sh_21 (Nat.le_of_ble_eq_true rfl) rfl h3 h4 ?_
            refine ok_istore (L' := [(4, vI (σ 21 x5.toNat)), (0, .ref (xad X 16)), (1, vI p1), (2, vI p2), (3, vI p3), (5, vI x5)]) (pc := 80) dX0_knownOn_80 rfl rfl ?_
            refine ok_iinc (L' := [(5, vI (x5 + 1)), (4, vI (σ 21 x5.toNat)), (0, .ref (xad X 16)), (1, vI p1), (2, vI p2), (3, vI p3)]) 5 (pc := 82) dX0_knownOn_82 rfl rfl rfl ?_
            refine ok_goto (tgt := 31) (pc := 85) dX0_knownOn_85 rfl ?_
            obtain ⟨h11, h⟩ := h
            refine ok_sub (L' := [(0, .ref (xad X 16)), (1, vI p1), (2, vI p2), (3, vI p3), (4, vI (σ 21 x5.toNat)), (5, vI (x5 + 1))]) [2,3,4,5,1,0] rfl ?_
            exact ih (σ 21 x5.toNat) (x5 + 1) σ (hw1 _ _) h11 h
set_option maxRecDepth 100000 in
set_option maxHeartbeats 4000000 in
theorem c_X0_knownOn (X : XE) (p1 : Int) (p2 : Int) (p3 : Int) (hp1 : inR p1) (hp2 : inR p2) (hp3 : inR p3) {σ : Mem} {Q : Int → Mem → Prop} (h : v_X0_knownOn p1 p2 p3 σ Q) : CT X yX0_knownOn cX0_knownOn 6 (some .int) rm_X0_knownOn 1 [.ref (xad X 16), vI p1, vI p2, vI p3] σ Q := by
  refine ct_of (own := RX0) (L := [(0, .ref (xad X 16)), (1, vI p1), (2, vI p2), (3, vI p3)]) rfl rfl (Nat.le_of_ble_eq_true rfl) rfl ?_
  refine ok_iload_n 3 (pc := 0) dX0_knownOn_0 rfl rfl ?_
  refine ok_aload_n 0 (pc := 1) dX0_knownOn_1 rfl rfl ?_
  refine ok_getR (pc := 2) dX0_knownOn_2 fl_X0_11 sh_16 (Nat.le_of_ble_eq_true rfl) rfl rfl ?_
  refine ok_iload_n 1 (pc := 5) dX0_knownOn_5 rfl rfl ?_
  obtain ⟨h1, h⟩ := h
  obtain ⟨h2, h⟩ := h
  refine ok_cards (pc := 6) dX0_knownOn_6 h1 h2 ?_
  have hc3 : p1.toNat < 24 := by omega
  refine ok_wf (fun hw4 => ?_)
  refine ok_getI (pc := 7) dX0_knownOn_7 fl_X0_57 (sh_card (p1.toNat) hc3) (lt_card hc3).1 rfl rfl ?_
  refine ok_icmp_ge (tgt := 15) (pc := 10) dX0_knownOn_10 rfl hp3 (hw4 _ _) (fun q5 => ?_) (fun q5 => ?_)
  · have h := iteF h q5
    refine ok_aload_n 0 (pc := 15) dX0_knownOn_15 rfl rfl ?_
    refine ok_getR (pc := 16) dX0_knownOn_16 fl_X0_11 sh_16 (Nat.le_of_ble_eq_true rfl) rfl rfl ?_
    refine ok_iload_n 1 (pc := 19) dX0_knownOn_19 rfl rfl ?_
    refine ok_cards (pc := 20) dX0_knownOn_20 h1 h2 ?_
    have hc6 : p1.toNat < 24 := by omega
    refine ok_getR (pc := 21) dX0_knownOn_21 fl_X0_60 (sh_card (p1.toNat) hc6) (lt_card hc6).1 rfl rfl ?_
    refine ok_iload_n 2 (pc := 24) dX0_knownOn_24 rfl rfl ?_
    obtain ⟨h7, h⟩ := h
    obtain ⟨h8, h⟩ := h
    refine ok_iald (pc := 25) dX0_knownOn_25 (sh_cft (p1.toNat) hc6) (lt_card hc6).2.1 rfl h7 h8 ?_
    refine ok_istore (L' := [(4, vI (σ (24 + 3 * (p1.toNat)) p2.toNat)), (0, .ref (xad X 16)), (1, vI p1), (2, vI p2), (3, vI p3)]) (pc := 26) dX0_knownOn_26 rfl rfl ?_
    refine ok_iconst (pc := 28) dX0_knownOn_28 ?_
    refine ok_istore (L' := [(5, vI 0), (4, vI (σ (24 + 3 * (p1.toNat)) p2.toNat)), (0, .ref (xad X 16)), (1, vI p1), (2, vI p2), (3, vI p3)]) (pc := 29) dX0_knownOn_29 rfl rfl ?_
    refine ok_sub (L' := [(0, .ref (xad X 16)), (1, vI p1), (2, vI p2), (3, vI p3), (4, vI (σ (24 + 3 * (p1.toNat)) p2.toNat)), (5, vI 0)]) [2,3,4,5,1,0] rfl ?_
    obtain ⟨n9, h⟩ := h
    exact w_X0_knownOn_31 X p1 p2 p3 hp1 hp2 hp3 n9 (σ (24 + 3 * (p1.toNat)) p2.toNat) 0 σ (hw4 _ _) (r_lit rfl) h
  · have h := iteT h q5
    refine ok_iconst (pc := 13) dX0_knownOn_13 ?_
    exact ok_iret (pc := 14) dX0_knownOn_14 rfl rfl rfl (r_lit rfl) h
theorem dX11_known_0 : decode cX11_known 0 = .ok (.aload_n 0, 1) := by decide +kernel
theorem dX11_known_1 : decode cX11_known 1 = .ok (.getfield 46, 3) := by decide +kernel
theorem dX11_known_4 : decode cX11_known 4 = .ok (.iload_n 1, 1) := by decide +kernel
theorem dX11_known_5 : decode cX11_known 5 = .ok (.invokevirtual 154, 3) := by decide +kernel
theorem dX11_known_8 : decode cX11_known 8 = .ok (.ifCond .eq 17, 3) := by decide +kernel
theorem dX11_known_11 : decode cX11_known 11 = .ok (.iload_n 2, 1) := by decide +kernel
theorem dX11_known_12 : decode cX11_known 12 = .ok (.invokestatic 203, 3) := by decide +kernel
theorem dX11_known_15 : decode cX11_known 15 = .ok (.ifCond .eq 10, 3) := by decide +kernel
theorem dX11_known_18 : decode cX11_known 18 = .ok (.iload_n 3, 1) := by decide +kernel
theorem dX11_known_19 : decode cX11_known 19 = .ok (.invokestatic 104, 3) := by decide +kernel
theorem dX11_known_22 : decode cX11_known 22 = .ok (.ifCond .ne 5, 3) := by decide +kernel
theorem dX11_known_25 : decode cX11_known 25 = .ok (.iconst (-1), 1) := by decide +kernel
theorem dX11_known_26 : decode cX11_known 26 = .ok (.ireturn, 1) := by decide +kernel
theorem dX11_known_27 : decode cX11_known 27 = .ok (.aload_n 0, 1) := by decide +kernel
theorem dX11_known_28 : decode cX11_known 28 = .ok (.getfield 46, 3) := by decide +kernel
theorem dX11_known_31 : decode cX11_known 31 = .ok (.iload_n 1, 1) := by decide +kernel
theorem dX11_known_32 : decode cX11_known 32 = .ok (.iload_n 2, 1) := by decide +kernel
theorem dX11_known_33 : decode cX11_known 33 = .ok (.iload_n 3, 1) := by decide +kernel
theorem dX11_known_34 : decode cX11_known 34 = .ok (.invokevirtual 210, 3) := by decide +kernel
theorem dX11_known_37 : decode cX11_known 37 = .ok (.ireturn, 1) := by decide +kernel
set_option maxRecDepth 100000 in
set_option maxHeartbeats 4000000 in
theorem c_X11_known (X : XE) (p1 : Int) (p2 : Int) (p3 : Int) (hp1 : inR p1) (hp2 : inR p2) (hp3 : inR p3) {σ : Mem} {Q : Int → Mem → Prop} (h : v_X11_known p1 p2 p3 σ Q) : CT X yX11_known cX11_known 4 (some .int) rm_X11_known 1 [.ref (xad X 0), vI p1, vI p2, vI p3] σ Q := by
  refine ct_of (own := RX11) (L := [(0, .ref (xad X 0)), (1, vI p1), (2, vI p2), (3, vI p3)]) rfl rfl (Nat.le_of_ble_eq_true rfl) rfl ?_
  refine ok_aload_n 0 (pc := 0) dX11_known_0 rfl rfl ?_
  refine ok_getR (pc := 1) dX11_known_1 fl_X11_46 sh_0 (Nat.le_of_ble_eq_true rfl) rfl rfl ?_
  refine ok_iload_n 1 (pc := 4) dX11_known_4 rfl rfl ?_
  refine ok_callVi (As := [vI p1]) (rest := []) (rm := rm_X0_has) (pc := 5) dX11_known_5 me_X0_has ml_X11_154 (ci := 0) rfl sh_16 (Nat.le_of_ble_eq_true rfl) rfl des_X0_has rfl ⟨rfl, rfl, rfl, rfl⟩ rfl rfl (c_X0_has X p1 hp1 h) (fun r2 σ3 h1 h => ?_)
  refine ok_if_eq (tgt := 25) (pc := 8) dX11_known_8 rfl h1 (fun q4 => ?_) (fun q4 => ?_)
  · have h := iteT h q4
    refine ok_iconst (pc := 25) dX11_known_25 ?_
    exact ok_iret (pc := 26) dX11_known_26 rfl rfl rfl (r_lit rfl) h
  · have h := iteF h q4
    refine ok_iload_n 2 (pc := 11) dX11_known_11 rfl rfl ?_
    refine ok_callSi (As := [vI p2]) (rest := []) (rm := rm_X11_isMeasure) (pc := 12) dX11_known_12 me_X11_isMeasure ml_X11_203 des_X11_isMeasure rfl ⟨rfl, rfl, rfl, rfl⟩ rfl rfl (c_X11_isMeasure X p2 hp2 h) (fun r6 σ7 h5 h => ?_)
    refine ok_if_eq (tgt := 25) (pc := 15) dX11_known_15 rfl h5 (fun q8 => ?_) (fun q8 => ?_)
    · have h := iteT h q8
      refine ok_iconst (pc := 25) dX11_known_25 ?_
      exact ok_iret (pc := 26) dX11_known_26 rfl rfl rfl (r_lit rfl) h
    · have h := iteF h q8
      refine ok_iload_n 3 (pc := 18) dX11_known_18 rfl rfl ?_
      refine ok_callSi (As := [vI p3]) (rest := []) (rm := rm_X11_isDay) (pc := 19) dX11_known_19 me_X11_isDay ml_X11_104 des_X11_isDay rfl ⟨rfl, rfl, rfl, rfl⟩ rfl rfl (c_X11_isDay X p3 hp3 h) (fun r10 σ11 h9 h => ?_)
      refine ok_if_ne (tgt := 27) (pc := 22) dX11_known_22 rfl h9 (fun q12 => ?_) (fun q12 => ?_)
      · have h := iteF h q12
        refine ok_aload_n 0 (pc := 27) dX11_known_27 rfl rfl ?_
        refine ok_getR (pc := 28) dX11_known_28 fl_X11_46 sh_0 (Nat.le_of_ble_eq_true rfl) rfl rfl ?_
        refine ok_iload_n 1 (pc := 31) dX11_known_31 rfl rfl ?_
        refine ok_iload_n 2 (pc := 32) dX11_known_32 rfl rfl ?_
        refine ok_iload_n 3 (pc := 33) dX11_known_33 rfl rfl ?_
        refine ok_callVi (As := [vI p1, vI p2, vI p3]) (rest := []) (rm := rm_X0_knownOn) (pc := 34) dX11_known_34 me_X0_knownOn ml_X11_210 (ci := 0) rfl sh_16 (Nat.le_of_ble_eq_true rfl) rfl des_X0_knownOn rfl ⟨rfl, rfl, rfl, rfl⟩ rfl rfl (c_X0_knownOn X p1 p2 p3 hp1 hp2 hp3 h) (fun r14 σ15 h13 h => ?_)
        exact ok_iret (pc := 37) dX11_known_37 rfl rfl rfl h13 h
      · have h := iteT h q12
        refine ok_iconst (pc := 25) dX11_known_25 ?_
        exact ok_iret (pc := 26) dX11_known_26 rfl rfl rfl (r_lit rfl) h
theorem dX11_file_0 : decode cX11_file 0 = .ok (.aload_n 0, 1) := by decide +kernel
theorem dX11_file_1 : decode cX11_file 1 = .ok (.getfield 46, 3) := by decide +kernel
theorem dX11_file_4 : decode cX11_file 4 = .ok (.iload_n 1, 1) := by decide +kernel
theorem dX11_file_5 : decode cX11_file 5 = .ok (.invokevirtual 154, 3) := by decide +kernel
theorem dX11_file_8 : decode cX11_file 8 = .ok (.ifCond .ne 5, 3) := by decide +kernel
theorem dX11_file_11 : decode cX11_file 11 = .ok (.iconst (-1), 1) := by decide +kernel
theorem dX11_file_12 : decode cX11_file 12 = .ok (.ireturn, 1) := by decide +kernel
theorem dX11_file_13 : decode cX11_file 13 = .ok (.aload_n 0, 1) := by decide +kernel
theorem dX11_file_14 : decode cX11_file 14 = .ok (.getfield 46, 3) := by decide +kernel
theorem dX11_file_17 : decode cX11_file 17 = .ok (.getfield 157, 3) := by decide +kernel
theorem dX11_file_20 : decode cX11_file 20 = .ok (.iload_n 1, 1) := by decide +kernel
theorem dX11_file_21 : decode cX11_file 21 = .ok (.aaload, 1) := by decide +kernel
theorem dX11_file_22 : decode cX11_file 22 = .ok (.astore_n 2, 1) := by decide +kernel
theorem dX11_file_23 : decode cX11_file 23 = .ok (.aload_n 2, 1) := by decide +kernel
theorem dX11_file_24 : decode cX11_file 24 = .ok (.invokevirtual 185, 3) := by decide +kernel
theorem dX11_file_27 : decode cX11_file 27 = .ok (.ifCond .eq 6, 3) := by decide +kernel
theorem dX11_file_30 : decode cX11_file 30 = .ok (.bipush (-2), 2) := by decide +kernel
theorem dX11_file_32 : decode cX11_file 32 = .ok (.ireturn, 1) := by decide +kernel
theorem dX11_file_33 : decode cX11_file 33 = .ok (.aload_n 2, 1) := by decide +kernel
theorem dX11_file_34 : decode cX11_file 34 = .ok (.getfield 178, 3) := by decide +kernel
theorem dX11_file_37 : decode cX11_file 37 = .ok (.istore_n 3, 1) := by decide +kernel
theorem dX11_file_38 : decode cX11_file 38 = .ok (.aload_n 2, 1) := by decide +kernel
theorem dX11_file_39 : decode cX11_file 39 = .ok (.aload_n 0, 1) := by decide +kernel
theorem dX11_file_40 : decode cX11_file 40 = .ok (.getfield 37, 3) := by decide +kernel
theorem dX11_file_43 : decode cX11_file 43 = .ok (.aload_n 2, 1) := by decide +kernel
theorem dX11_file_44 : decode cX11_file 44 = .ok (.getfield 169, 3) := by decide +kernel
theorem dX11_file_47 : decode cX11_file 47 = .ok (.invokevirtual 181, 3) := by decide +kernel
theorem dX11_file_50 : decode cX11_file 50 = .ok (.putfield 178, 3) := by decide +kernel
theorem dX11_file_53 : decode cX11_file 53 = .ok (.iload_n 3, 1) := by decide +kernel
theorem dX11_file_54 : decode cX11_file 54 = .ok (.ireturn, 1) := by decide +kernel
set_option maxRecDepth 100000 in
set_option maxHeartbeats 4000000 in
theorem c_X11_file (X : XE) (p1 : Int) (hp1 : inR p1) {σ : Mem} {Q : Int → Mem → Prop} (h : v_X11_file p1 σ Q) : CT X yX11_file cX11_file 4 (some .int) rm_X11_file 1 [.ref (xad X 0), vI p1] σ Q := by
  refine ct_of (own := RX11) (L := [(0, .ref (xad X 0)), (1, vI p1)]) rfl rfl (Nat.le_of_ble_eq_true rfl) rfl ?_
  refine ok_aload_n 0 (pc := 0) dX11_file_0 rfl rfl ?_
  refine ok_getR (pc := 1) dX11_file_1 fl_X11_46 sh_0 (Nat.le_of_ble_eq_true rfl) rfl rfl ?_
  refine ok_iload_n 1 (pc := 4) dX11_file_4 rfl rfl ?_
  refine ok_callVi (As := [vI p1]) (rest := []) (rm := rm_X0_has) (pc := 5) dX11_file_5 me_X0_has ml_X11_154 (ci := 0) rfl sh_16 (Nat.le_of_ble_eq_true rfl) rfl des_X0_has rfl ⟨rfl, rfl, rfl, rfl⟩ rfl rfl (c_X0_has X p1 hp1 h) (fun r2 σ3 h1 h => ?_)
  refine ok_if_ne (tgt := 13) (pc := 8) dX11_file_8 rfl h1 (fun q4 => ?_) (fun q4 => ?_)
  · have h := iteF h q4
    refine ok_aload_n 0 (pc := 13) dX11_file_13 rfl rfl ?_
    refine ok_getR (pc := 14) dX11_file_14 fl_X11_46 sh_0 (Nat.le_of_ble_eq_true rfl) rfl rfl ?_
    refine ok_getR (pc := 17) dX11_file_17 fl_X11_157 sh_16 (Nat.le_of_ble_eq_true rfl) rfl rfl ?_
    refine ok_iload_n 1 (pc := 20) dX11_file_20 rfl rfl ?_
    obtain ⟨h5, h⟩ := h
    obtain ⟨h6, h⟩ := h
    refine ok_cards (pc := 21) dX11_file_21 h5 h6 ?_
    have hc7 : p1.toNat < 24 := by omega
    refine ok_astore_n (L' := [(2, .ref (xad X (23 + 3 * (p1.toNat)))), (0, .ref (xad X 0)), (1, vI p1)]) (pc := 22) dX11_file_22 rfl rfl rfl ?_
    refine ok_aload_n 0 (pc := 23) dX11_file_23 rfl rfl ?_
    refine ok_callVi (As := []) (rest := []) (rm := rm_X1_isOut) (pc := 24) dX11_file_24 me_X1_isOut ml_X11_185 (ci := 1) rfl (sh_card (p1.toNat) hc7) (lt_card hc7).1 rfl des_X1_isOut rfl ⟨rfl, rfl, rfl, rfl⟩ rfl rfl (c_X1_isOut X (p1.toNat) hc7 h) (fun r9 σ10 h8 h => ?_)
    refine ok_if_eq (tgt := 33) (pc := 27) dX11_file_27 rfl h8 (fun q11 => ?_) (fun q11 => ?_)
    · have h := iteT h q11
      refine ok_aload_n 0 (pc := 33) dX11_file_33 rfl rfl ?_
      refine ok_wf (fun hw12 => ?_)
      refine ok_getI (pc := 34) dX11_file_34 fl_X11_178 (sh_card (p1.toNat) hc7) (lt_card hc7).1 rfl rfl ?_
      refine ok_istore_n (L' := [(3, vI (σ10 (23 + 3 * (p1.toNat)) 5)), (2, .ref (xad X (23 + 3 * (p1.toNat)))), (0, .ref (xad X 0)), (1, vI p1)]) (pc := 37) dX11_file_37 rfl rfl rfl ?_
      refine ok_aload_n 1 (pc := 38) dX11_file_38 rfl rfl ?_
      refine ok_aload_n 2 (pc := 39) dX11_file_39 rfl rfl ?_
      refine ok_getR (pc := 40) dX11_file_40 fl_X11_37 sh_0 (Nat.le_of_ble_eq_true rfl) rfl rfl ?_
      refine ok_aload_n 1 (pc := 43) dX11_file_43 rfl rfl ?_
      refine ok_getR (pc := 44) dX11_file_44 fl_X11_169 (sh_card (p1.toNat) hc7) (lt_card hc7).1 rfl rfl ?_
      refine ok_callVi (As := [.ref (xad X (25 + 3 * (p1.toNat)))]) (rest := [.ref (xad X (23 + 3 * (p1.toNat)))]) (rm := rm_X5_drawerBy_c) (pc := 47) dX11_file_47 me_X5_drawerBy ml_X11_181 (ci := 5) rfl sh_14 (Nat.le_of_ble_eq_true rfl) rfl des_X5_drawerBy rfl ⟨rfl, rfl, rfl, rfl⟩ rfl rfl (c_X5_drawerBy_c X (p1.toNat) hc7 h) (fun r14 σ15 h13 h => ?_)
      refine ok_putI (pc := 50) dX11_file_50 fl_X11_178 fp_X1_5 (sh_card (p1.toNat) hc7) (lt_card hc7).1 rfl rfl h13 rfl rfl ?_
      refine ok_iload_n 0 (pc := 53) dX11_file_53 rfl rfl ?_
      exact ok_iret (pc := 54) dX11_file_54 rfl rfl rfl (hw12 _ _) h
    · have h := iteF h q11
      refine ok_bipush (pc := 30) dX11_file_30 rfl ?_
      exact ok_iret (pc := 32) dX11_file_32 rfl rfl rfl (r_lit rfl) h
  · have h := iteT h q4
    refine ok_iconst (pc := 11) dX11_file_11 ?_
    exact ok_iret (pc := 12) dX11_file_12 rfl rfl rfl (r_lit rfl) h
theorem dX11_out_0 : decode cX11_out 0 = .ok (.aload_n 0, 1) := by decide +kernel
theorem dX11_out_1 : decode cX11_out 1 = .ok (.getfield 46, 3) := by decide +kernel
theorem dX11_out_4 : decode cX11_out 4 = .ok (.iload_n 1, 1) := by decide +kernel
theorem dX11_out_5 : decode cX11_out 5 = .ok (.invokevirtual 154, 3) := by decide +kernel
theorem dX11_out_8 : decode cX11_out 8 = .ok (.ifCond .ne 5, 3) := by decide +kernel
theorem dX11_out_11 : decode cX11_out 11 = .ok (.iconst (-1), 1) := by decide +kernel
theorem dX11_out_12 : decode cX11_out 12 = .ok (.ireturn, 1) := by decide +kernel
theorem dX11_out_13 : decode cX11_out 13 = .ok (.aload_n 0, 1) := by decide +kernel
theorem dX11_out_14 : decode cX11_out 14 = .ok (.getfield 46, 3) := by decide +kernel
theorem dX11_out_17 : decode cX11_out 17 = .ok (.getfield 157, 3) := by decide +kernel
theorem dX11_out_20 : decode cX11_out 20 = .ok (.iload_n 1, 1) := by decide +kernel
theorem dX11_out_21 : decode cX11_out 21 = .ok (.aaload, 1) := by decide +kernel
theorem dX11_out_22 : decode cX11_out 22 = .ok (.astore_n 2, 1) := by decide +kernel
theorem dX11_out_23 : decode cX11_out 23 = .ok (.aload_n 2, 1) := by decide +kernel
theorem dX11_out_24 : decode cX11_out 24 = .ok (.invokevirtual 185, 3) := by decide +kernel
theorem dX11_out_27 : decode cX11_out 27 = .ok (.ifCond .ne 14, 3) := by decide +kernel
theorem dX11_out_30 : decode cX11_out 30 = .ok (.aload_n 2, 1) := by decide +kernel
theorem dX11_out_31 : decode cX11_out 31 = .ok (.aload_n 0, 1) := by decide +kernel
theorem dX11_out_32 : decode cX11_out 32 = .ok (.getfield 37, 3) := by decide +kernel
theorem dX11_out_35 : decode cX11_out 35 = .ok (.invokevirtual 192, 3) := by decide +kernel
theorem dX11_out_38 : decode cX11_out 38 = .ok (.ifCond .ne 6, 3) := by decide +kernel
theorem dX11_out_41 : decode cX11_out 41 = .ok (.bipush (-2), 2) := by decide +kernel
theorem dX11_out_43 : decode cX11_out 43 = .ok (.ireturn, 1) := by decide +kernel
theorem dX11_out_44 : decode cX11_out 44 = .ok (.aload_n 2, 1) := by decide +kernel
theorem dX11_out_45 : decode cX11_out 45 = .ok (.bipush (-4), 2) := by decide +kernel
theorem dX11_out_47 : decode cX11_out 47 = .ok (.putfield 178, 3) := by decide +kernel
theorem dX11_out_50 : decode cX11_out 50 = .ok (.iconst 1, 1) := by decide +kernel
theorem dX11_out_51 : decode cX11_out 51 = .ok (.ireturn, 1) := by decide +kernel
set_option maxRecDepth 100000 in
set_option maxHeartbeats 4000000 in
theorem c_X11_out (X : XE) (p1 : Int) (hp1 : inR p1) {σ : Mem} {Q : Int → Mem → Prop} (h : v_X11_out p1 σ Q) : CT X yX11_out cX11_out 3 (some .int) rm_X11_out 1 [.ref (xad X 0), vI p1] σ Q := by
  refine ct_of (own := RX11) (L := [(0, .ref (xad X 0)), (1, vI p1)]) rfl rfl (Nat.le_of_ble_eq_true rfl) rfl ?_
  refine ok_aload_n 0 (pc := 0) dX11_out_0 rfl rfl ?_
  refine ok_getR (pc := 1) dX11_out_1 fl_X11_46 sh_0 (Nat.le_of_ble_eq_true rfl) rfl rfl ?_
  refine ok_iload_n 1 (pc := 4) dX11_out_4 rfl rfl ?_
  refine ok_callVi (As := [vI p1]) (rest := []) (rm := rm_X0_has) (pc := 5) dX11_out_5 me_X0_has ml_X11_154 (ci := 0) rfl sh_16 (Nat.le_of_ble_eq_true rfl) rfl des_X0_has rfl ⟨rfl, rfl, rfl, rfl⟩ rfl rfl (c_X0_has X p1 hp1 h) (fun r2 σ3 h1 h => ?_)
  refine ok_if_ne (tgt := 13) (pc := 8) dX11_out_8 rfl h1 (fun q4 => ?_) (fun q4 => ?_)
  · have h := iteF h q4
    refine ok_aload_n 0 (pc := 13) dX11_out_13 rfl rfl ?_
    refine ok_getR (pc := 14) dX11_out_14 fl_X11_46 sh_0 (Nat.le_of_ble_eq_true rfl) rfl rfl ?_
    refine ok_getR (pc := 17) dX11_out_17 fl_X11_157 sh_16 (Nat.le_of_ble_eq_true rfl) rfl rfl ?_
    refine ok_iload_n 1 (pc := 20) dX11_out_20 rfl rfl ?_
    obtain ⟨h5, h⟩ := h
    obtain ⟨h6, h⟩ := h
    refine ok_cards (pc := 21) dX11_out_21 h5 h6 ?_
    have hc7 : p1.toNat < 24 := by omega
    refine ok_astore_n (L' := [(2, .ref (xad X (23 + 3 * (p1.toNat)))), (0, .ref (xad X 0)), (1, vI p1)]) (pc := 22) dX11_out_22 rfl rfl rfl ?_
    refine ok_aload_n 0 (pc := 23) dX11_out_23 rfl rfl ?_
    refine ok_callVi (As := []) (rest := []) (rm := rm_X1_isOut) (pc := 24) dX11_out_24 me_X1_isOut ml_X11_185 (ci := 1) rfl (sh_card (p1.toNat) hc7) (lt_card hc7).1 rfl des_X1_isOut rfl ⟨rfl, rfl, rfl, rfl⟩ rfl rfl (c_X1_isOut X (p1.toNat) hc7 h) (fun r9 σ10 h8 h => ?_)
    refine ok_if_ne (tgt := 41) (pc := 27) dX11_out_27 rfl h8 (fun q11 => ?_) (fun q11 => ?_)
    · have h := iteF h q11
      refine ok_bipush (pc := 41) dX11_out_41 rfl ?_
      exact ok_iret (pc := 43) dX11_out_43 rfl rfl rfl (r_lit rfl) h
    · have h := iteT h q11
      refine ok_aload_n 0 (pc := 30) dX11_out_30 rfl rfl ?_
      refine ok_aload_n 1 (pc := 31) dX11_out_31 rfl rfl ?_
      refine ok_getR (pc := 32) dX11_out_32 fl_X11_37 sh_0 (Nat.le_of_ble_eq_true rfl) rfl rfl ?_
      refine ok_callVi (As := [.ref (xad X 14)]) (rest := []) (rm := rm_X1_isDue) (pc := 35) dX11_out_35 me_X1_isDue ml_X11_192 (ci := 1) rfl (sh_card (p1.toNat) hc7) (lt_card hc7).1 rfl des_X1_isDue rfl ⟨rfl, rfl, rfl, rfl⟩ rfl rfl (c_X1_isDue X (p1.toNat) hc7 h) (fun r13 σ14 h12 h => ?_)
      refine ok_if_ne (tgt := 44) (pc := 38) dX11_out_38 rfl h12 (fun q15 => ?_) (fun q15 => ?_)
      · have h := iteF h q15
        refine ok_aload_n 0 (pc := 44) dX11_out_44 rfl rfl ?_
        refine ok_bipush (pc := 45) dX11_out_45 rfl ?_
        refine ok_putI (pc := 47) dX11_out_47 fl_X11_178 fp_X1_5 (sh_card (p1.toNat) hc7) (lt_card hc7).1 rfl rfl (r_lit rfl) rfl rfl ?_
        refine ok_iconst (pc := 50) dX11_out_50 ?_
        exact ok_iret (pc := 51) dX11_out_51 rfl rfl rfl (r_lit rfl) h
      · have h := iteT h q15
        refine ok_bipush (pc := 41) dX11_out_41 rfl ?_
        exact ok_iret (pc := 43) dX11_out_43 rfl rfl rfl (r_lit rfl) h
  · have h := iteT h q4
    refine ok_iconst (pc := 11) dX11_out_11 ?_
    exact ok_iret (pc := 12) dX11_out_12 rfl rfl rfl (r_lit rfl) h
theorem dX0_filedIn_0 : decode cX0_filedIn 0 = .ok (.iconst 0, 1) := by decide +kernel
theorem dX0_filedIn_1 : decode cX0_filedIn 1 = .ok (.istore_n 2, 1) := by decide +kernel
theorem dX0_filedIn_2 : decode cX0_filedIn 2 = .ok (.iconst 0, 1) := by decide +kernel
theorem dX0_filedIn_3 : decode cX0_filedIn 3 = .ok (.istore_n 3, 1) := by decide +kernel
theorem dX0_filedIn_4 : decode cX0_filedIn 4 = .ok (.iload_n 3, 1) := by decide +kernel
theorem dX0_filedIn_5 : decode cX0_filedIn 5 = .ok (.aload_n 0, 1) := by decide +kernel
theorem dX0_filedIn_6 : decode cX0_filedIn 6 = .ok (.getfield 39, 3) := by decide +kernel
theorem dX0_filedIn_9 : decode cX0_filedIn 9 = .ok (.if_icmp .ge 44, 3) := by decide +kernel
theorem dX0_filedIn_12 : decode cX0_filedIn 12 = .ok (.aload_n 0, 1) := by decide +kernel
theorem dX0_filedIn_13 : decode cX0_filedIn 13 = .ok (.getfield 11, 3) := by decide +kernel
theorem dX0_filedIn_16 : decode cX0_filedIn 16 = .ok (.iload_n 3, 1) := by decide +kernel
theorem dX0_filedIn_17 : decode cX0_filedIn 17 = .ok (.aaload, 1) := by decide +kernel
theorem dX0_filedIn_18 : decode cX0_filedIn 18 = .ok (.invokevirtual 77, 3) := by decide +kernel
theorem dX0_filedIn_21 : decode cX0_filedIn 21 = .ok (.ifCond .ne 26, 3) := by decide +kernel
theorem dX0_filedIn_24 : decode cX0_filedIn 24 = .ok (.iload_n 1, 1) := by decide +kernel
theorem dX0_filedIn_25 : decode cX0_filedIn 25 = .ok (.aload_n 0, 1) := by decide +kernel
theorem dX0_filedIn_26 : decode cX0_filedIn 26 = .ok (.getfield 11, 3) := by decide +kernel
theorem dX0_filedIn_29 : decode cX0_filedIn 29 = .ok (.iload_n 3, 1) := by decide +kernel
theorem dX0_filedIn_30 : decode cX0_filedIn 30 = .ok (.aaload, 1) := by decide +kernel
theorem dX0_filedIn_31 : decode cX0_filedIn 31 = .ok (.getfield 70, 3) := by decide +kernel
theorem dX0_filedIn_34 : decode cX0_filedIn 34 = .ok (.ishr, 1) := by decide +kernel
theorem dX0_filedIn_35 : decode cX0_filedIn 35 = .ok (.iconst 1, 1) := by decide +kernel
theorem dX0_filedIn_36 : decode cX0_filedIn 36 = .ok (.iand, 1) := by decide +kernel
theorem dX0_filedIn_37 : decode cX0_filedIn 37 = .ok (.iconst 1, 1) := by decide +kernel
theorem dX0_filedIn_38 : decode cX0_filedIn 38 = .ok (.if_icmp .ne 9, 3) := by decide +kernel
theorem dX0_filedIn_41 : decode cX0_filedIn 41 = .ok (.iload_n 2, 1) := by decide +kernel
theorem dX0_filedIn_42 : decode cX0_filedIn 42 = .ok (.iconst 1, 1) := by decide +kernel
theorem dX0_filedIn_43 : decode cX0_filedIn 43 = .ok (.iload_n 3, 1) := by decide +kernel
theorem dX0_filedIn_44 : decode cX0_filedIn 44 = .ok (.ishl, 1) := by decide +kernel
theorem dX0_filedIn_45 : decode cX0_filedIn 45 = .ok (.ior, 1) := by decide +kernel
theorem dX0_filedIn_46 : decode cX0_filedIn 46 = .ok (.istore_n 2, 1) := by decide +kernel
theorem dX0_filedIn_47 : decode cX0_filedIn 47 = .ok (.iinc 3 1, 3) := by decide +kernel
theorem dX0_filedIn_50 : decode cX0_filedIn 50 = .ok (.goto (-46), 3) := by decide +kernel
theorem dX0_filedIn_53 : decode cX0_filedIn 53 = .ok (.iload_n 2, 1) := by decide +kernel
theorem dX0_filedIn_54 : decode cX0_filedIn 54 = .ok (.ireturn, 1) := by decide +kernel
set_option maxRecDepth 100000 in
set_option maxHeartbeats 4000000 in
theorem w_X0_filedIn_4 (X : XE) (p1 : Int) (hp1 : inR p1) {Q : Int → Mem → Prop} : ∀ (n : Nat) (x2 : Int) (x3 : Int) (σ : Mem), inR x2 → inR x3 → l_X0_filedIn_4 p1 Q n x2 x3 σ → ok X rm_X0_filedIn RX0 cX0_filedIn 4 (some .int) 1 Q 4 [(0, .ref (xad X 16)), (1, vI p1), (2, vI x2), (3, vI x3)] [] σ := by
  intro n
  induction n with
  | zero => intro x2 x3 σ hx2 hx3 h; exact False.elim h
  | succ n ih =>
    intro x2 x3 σ hx2 hx3 h
    refine ok_iload_n 3 (pc := 4) dX0_filedIn_4 rfl rfl ?_
    refine ok_aload_n 0 (pc := 5) dX0_filedIn_5 rfl rfl ?_
    refine ok_wf (fun hw1 => ?_)
    refine ok_getI (pc := 6) dX0_filedIn_6 fl_X0_39 sh_16 (Nat.le_of_ble_eq_true rfl) rfl rfl ?_
    refine ok_icmp_ge (tgt := 53) (pc := 9) dX0_filedIn_9 rfl hx3 (hw1 _ _) (fun q2 => ?_) (fun q2 => ?_)
    · have h := iteF h q2
      refine ok_iload_n 2 (pc := 53) dX0_filedIn_53 rfl rfl ?_
      exact ok_iret (pc := 54) dX0_filedIn_54 rfl rfl rfl hx2 h
    · have h := iteT h q2
      refine ok_aload_n 0 (pc := 12) dX0_filedIn_12 rfl rfl ?_
      refine ok_getR (pc := 13) dX0_filedIn_13 fl_X0_11 sh_16 (Nat.le_of_ble_eq_true rfl) rfl rfl ?_
      refine ok_iload_n 3 (pc := 16) dX0_filedIn_16 rfl rfl ?_
      obtain ⟨h3, h⟩ := h
      obtain ⟨h4, h⟩ := h
      refine ok_cards (pc := 17) dX0_filedIn_17 h3 h4 ?_
      have hc5 : x3.toNat < 24 := by omega
      refine ok_callVi (As := []) (rest := []) (rm := rm_X1_isOut) (pc := 18) dX0_filedIn_18 me_X1_isOut ml_X0_77 (ci := 1) rfl (sh_card (x3.toNat) hc5) (lt_card hc5).1 rfl des_X1_isOut rfl ⟨rfl, rfl, rfl, rfl⟩ rfl rfl (c_X1_isOut X (x3.toNat) hc5 h) (fun r7 σ8 h6 h => ?_)
      refine ok_if_ne (tgt := 47) (pc := 21) dX0_filedIn_21 rfl h6 (fun q9 => ?_) (fun q9 => ?_)
      · have h := iteF h q9
        refine ok_iinc (L' := [(3, vI (x3 + 1)), (0, .ref (xad X 16)), (1, vI p1), (2, vI x2)]) 3 (pc := 47) dX0_filedIn_47 rfl rfl rfl ?_
        refine ok_goto (tgt := 4) (pc := 50) dX0_filedIn_50 rfl ?_
        obtain ⟨h10, h⟩ := h
        refine ok_sub (L' := [(0, .ref (xad X 16)), (1, vI p1), (2, vI x2), (3, vI (x3 + 1))]) [1,2,3,0] rfl ?_
        exact ih x2 (x3 + 1) σ8 hx2 h10 h
      · have h := iteT h q9
        refine ok_iload_n 1 (pc := 24) dX0_filedIn_24 rfl rfl ?_
        refine ok_aload_n 0 (pc := 25) dX0_filedIn_25 rfl rfl ?_
        refine ok_getR (pc := 26) dX0_filedIn_26 fl_X0_11 sh_16 (Nat.le_of_ble_eq_true rfl) rfl rfl ?_
        refine ok_iload_n 3 (pc := 29) dX0_filedIn_29 rfl rfl ?_
        refine ok_cards (pc := 30) dX0_filedIn_30 h3 h4 ?_
        have hc11 : x3.toNat < 24 := by omega
        refine ok_wf (fun hw12 => ?_)
        refine ok_getI (pc := 31) dX0_filedIn_31 fl_X0_70 (sh_card (x3.toNat) hc11) (lt_card hc11).1 rfl rfl ?_
        refine ok_ishr (pc := 34) dX0_filedIn_34 ?_
        refine ok_iconst (pc := 35) dX0_filedIn_35 ?_
        refine ok_iand (pc := 36) dX0_filedIn_36 ?_
        refine ok_iconst (pc := 37) dX0_filedIn_37 ?_
        refine ok_icmp_ne (tgt := 47) (pc := 38) dX0_filedIn_38 rfl (q_rng _) (r_lit rfl) (fun q13 => ?_) (fun q13 => ?_)
        · have h := iteF h q13
          refine ok_iinc (L' := [(3, vI (x3 + 1)), (0, .ref (xad X 16)), (1, vI p1), (2, vI x2)]) 3 (pc := 47) dX0_filedIn_47 rfl rfl rfl ?_
          refine ok_goto (tgt := 4) (pc := 50) dX0_filedIn_50 rfl ?_
          obtain ⟨h14, h⟩ := h
          refine ok_sub (L' := [(0, .ref (xad X 16)), (1, vI p1), (2, vI x2), (3, vI (x3 + 1))]) [1,2,3,0] rfl ?_
          exact ih x2 (x3 + 1) σ8 hx2 h14 h
        · have h := iteT h q13
          refine ok_iload_n 2 (pc := 41) dX0_filedIn_41 rfl rfl ?_
          refine ok_iconst (pc := 42) dX0_filedIn_42 ?_
          refine ok_iload_n 3 (pc := 43) dX0_filedIn_43 rfl rfl ?_
          refine ok_ishl (pc := 44) dX0_filedIn_44 ?_
          refine ok_ior (pc := 45) dX0_filedIn_45 ?_
          refine ok_istore_n (L' := [(2, vI (ior x2 (ishl 1 x3))), (0, .ref (xad X 16)), (1, vI p1), (3, vI x3)]) (pc := 46) dX0_filedIn_46 rfl rfl rfl ?_
          refine ok_iinc (L' := [(3, vI (x3 + 1)), (2, vI (ior x2 (ishl 1 x3))), (0, .ref (xad X 16)), (1, vI p1)]) 3 (pc := 47) dX0_filedIn_47 rfl rfl rfl ?_
          refine ok_goto (tgt := 4) (pc := 50) dX0_filedIn_50 rfl ?_
          obtain ⟨h15, h⟩ := h
          refine ok_sub (L' := [(0, .ref (xad X 16)), (1, vI p1), (2, vI (ior x2 (ishl 1 x3))), (3, vI (x3 + 1))]) [2,3,1,0] rfl ?_
          exact ih (ior x2 (ishl 1 x3)) (x3 + 1) σ8 (q_rng _) h15 h
set_option maxRecDepth 100000 in
set_option maxHeartbeats 4000000 in
theorem c_X0_filedIn (X : XE) (p1 : Int) (hp1 : inR p1) {σ : Mem} {Q : Int → Mem → Prop} (h : v_X0_filedIn p1 σ Q) : CT X yX0_filedIn cX0_filedIn 4 (some .int) rm_X0_filedIn 1 [.ref (xad X 16), vI p1] σ Q := by
  refine ct_of (own := RX0) (L := [(0, .ref (xad X 16)), (1, vI p1)]) rfl rfl (Nat.le_of_ble_eq_true rfl) rfl ?_
  refine ok_iconst (pc := 0) dX0_filedIn_0 ?_
  refine ok_istore_n (L' := [(2, vI 0), (0, .ref (xad X 16)), (1, vI p1)]) (pc := 1) dX0_filedIn_1 rfl rfl rfl ?_
  refine ok_iconst (pc := 2) dX0_filedIn_2 ?_
  refine ok_istore_n (L' := [(3, vI 0), (2, vI 0), (0, .ref (xad X 16)), (1, vI p1)]) (pc := 3) dX0_filedIn_3 rfl rfl rfl ?_
  refine ok_sub (L' := [(0, .ref (xad X 16)), (1, vI p1), (2, vI 0), (3, vI 0)]) [2,3,1,0] rfl ?_
  obtain ⟨n1, h⟩ := h
  exact w_X0_filedIn_4 X p1 hp1 n1 0 0 σ (r_lit rfl) (r_lit rfl) h
theorem dJ6_bitCount_0f7a4_0 : decode cJ6_bitCount_0f7a4 0 = .ok (.iload_n 0, 1) := by decide +kernel
theorem dJ6_bitCount_0f7a4_1 : decode cJ6_bitCount_0f7a4 1 = .ok (.iload_n 0, 1) := by decide +kernel
theorem dJ6_bitCount_0f7a4_2 : decode cJ6_bitCount_0f7a4 2 = .ok (.iconst 1, 1) := by decide +kernel
theorem dJ6_bitCount_0f7a4_3 : decode cJ6_bitCount_0f7a4 3 = .ok (.iushr, 1) := by decide +kernel
theorem dJ6_bitCount_0f7a4_4 : decode cJ6_bitCount_0f7a4 4 = .ok (.ldc_w 265, 3) := by decide +kernel
theorem dJ6_bitCount_0f7a4_7 : decode cJ6_bitCount_0f7a4 7 = .ok (.iand, 1) := by decide +kernel
theorem dJ6_bitCount_0f7a4_8 : decode cJ6_bitCount_0f7a4 8 = .ok (.isub, 1) := by decide +kernel
theorem dJ6_bitCount_0f7a4_9 : decode cJ6_bitCount_0f7a4 9 = .ok (.istore_n 0, 1) := by decide +kernel
theorem dJ6_bitCount_0f7a4_10 : decode cJ6_bitCount_0f7a4 10 = .ok (.iload_n 0, 1) := by decide +kernel
theorem dJ6_bitCount_0f7a4_11 : decode cJ6_bitCount_0f7a4 11 = .ok (.ldc_w 266, 3) := by decide +kernel
theorem dJ6_bitCount_0f7a4_14 : decode cJ6_bitCount_0f7a4 14 = .ok (.iand, 1) := by decide +kernel
theorem dJ6_bitCount_0f7a4_15 : decode cJ6_bitCount_0f7a4 15 = .ok (.iload_n 0, 1) := by decide +kernel
theorem dJ6_bitCount_0f7a4_16 : decode cJ6_bitCount_0f7a4 16 = .ok (.iconst 2, 1) := by decide +kernel
theorem dJ6_bitCount_0f7a4_17 : decode cJ6_bitCount_0f7a4 17 = .ok (.iushr, 1) := by decide +kernel
theorem dJ6_bitCount_0f7a4_18 : decode cJ6_bitCount_0f7a4 18 = .ok (.ldc_w 266, 3) := by decide +kernel
theorem dJ6_bitCount_0f7a4_21 : decode cJ6_bitCount_0f7a4 21 = .ok (.iand, 1) := by decide +kernel
theorem dJ6_bitCount_0f7a4_22 : decode cJ6_bitCount_0f7a4 22 = .ok (.iadd, 1) := by decide +kernel
theorem dJ6_bitCount_0f7a4_23 : decode cJ6_bitCount_0f7a4 23 = .ok (.istore_n 0, 1) := by decide +kernel
theorem dJ6_bitCount_0f7a4_24 : decode cJ6_bitCount_0f7a4 24 = .ok (.iload_n 0, 1) := by decide +kernel
theorem dJ6_bitCount_0f7a4_25 : decode cJ6_bitCount_0f7a4 25 = .ok (.iload_n 0, 1) := by decide +kernel
theorem dJ6_bitCount_0f7a4_26 : decode cJ6_bitCount_0f7a4 26 = .ok (.iconst 4, 1) := by decide +kernel
theorem dJ6_bitCount_0f7a4_27 : decode cJ6_bitCount_0f7a4 27 = .ok (.iushr, 1) := by decide +kernel
theorem dJ6_bitCount_0f7a4_28 : decode cJ6_bitCount_0f7a4 28 = .ok (.iadd, 1) := by decide +kernel
theorem dJ6_bitCount_0f7a4_29 : decode cJ6_bitCount_0f7a4 29 = .ok (.ldc_w 267, 3) := by decide +kernel
theorem dJ6_bitCount_0f7a4_32 : decode cJ6_bitCount_0f7a4 32 = .ok (.iand, 1) := by decide +kernel
theorem dJ6_bitCount_0f7a4_33 : decode cJ6_bitCount_0f7a4 33 = .ok (.istore_n 0, 1) := by decide +kernel
theorem dJ6_bitCount_0f7a4_34 : decode cJ6_bitCount_0f7a4 34 = .ok (.iload_n 0, 1) := by decide +kernel
theorem dJ6_bitCount_0f7a4_35 : decode cJ6_bitCount_0f7a4 35 = .ok (.iload_n 0, 1) := by decide +kernel
theorem dJ6_bitCount_0f7a4_36 : decode cJ6_bitCount_0f7a4 36 = .ok (.bipush 8, 2) := by decide +kernel
theorem dJ6_bitCount_0f7a4_38 : decode cJ6_bitCount_0f7a4 38 = .ok (.iushr, 1) := by decide +kernel
theorem dJ6_bitCount_0f7a4_39 : decode cJ6_bitCount_0f7a4 39 = .ok (.iadd, 1) := by decide +kernel
theorem dJ6_bitCount_0f7a4_40 : decode cJ6_bitCount_0f7a4 40 = .ok (.istore_n 0, 1) := by decide +kernel
theorem dJ6_bitCount_0f7a4_41 : decode cJ6_bitCount_0f7a4 41 = .ok (.iload_n 0, 1) := by decide +kernel
theorem dJ6_bitCount_0f7a4_42 : decode cJ6_bitCount_0f7a4 42 = .ok (.iload_n 0, 1) := by decide +kernel
theorem dJ6_bitCount_0f7a4_43 : decode cJ6_bitCount_0f7a4 43 = .ok (.bipush 16, 2) := by decide +kernel
theorem dJ6_bitCount_0f7a4_45 : decode cJ6_bitCount_0f7a4 45 = .ok (.iushr, 1) := by decide +kernel
theorem dJ6_bitCount_0f7a4_46 : decode cJ6_bitCount_0f7a4 46 = .ok (.iadd, 1) := by decide +kernel
theorem dJ6_bitCount_0f7a4_47 : decode cJ6_bitCount_0f7a4 47 = .ok (.istore_n 0, 1) := by decide +kernel
theorem dJ6_bitCount_0f7a4_48 : decode cJ6_bitCount_0f7a4 48 = .ok (.iload_n 0, 1) := by decide +kernel
theorem dJ6_bitCount_0f7a4_49 : decode cJ6_bitCount_0f7a4 49 = .ok (.bipush 63, 2) := by decide +kernel
theorem dJ6_bitCount_0f7a4_51 : decode cJ6_bitCount_0f7a4 51 = .ok (.iand, 1) := by decide +kernel
theorem dJ6_bitCount_0f7a4_52 : decode cJ6_bitCount_0f7a4 52 = .ok (.ireturn, 1) := by decide +kernel
set_option maxRecDepth 100000 in
set_option maxHeartbeats 4000000 in
theorem c_J6_bitCount_0f7a4 (X : XE) (p0 : Int) (hp0 : inR p0) {σ : Mem} {Q : Int → Mem → Prop} (h : v_J6_bitCount_0f7a4 p0 σ Q) : CT X yJ6_bitCount_0f7a4 cJ6_bitCount_0f7a4 1 (some .int) rm_J6_bitCount_0f7a4 1 [vI p0] σ Q := by
  refine ct_of (own := RJ6) (L := [(0, vI p0)]) rfl rfl (Nat.le_of_ble_eq_true rfl) rfl ?_
  refine ok_iload_n 0 (pc := 0) dJ6_bitCount_0f7a4_0 rfl rfl ?_
  refine ok_iload_n 0 (pc := 1) dJ6_bitCount_0f7a4_1 rfl rfl ?_
  refine ok_iconst (pc := 2) dJ6_bitCount_0f7a4_2 ?_
  refine ok_iushr (pc := 3) dJ6_bitCount_0f7a4_3 ?_
  refine ok_ldcw (pc := 4) dJ6_bitCount_0f7a4_4 cn_J6_265 ?_
  refine ok_iand (pc := 7) dJ6_bitCount_0f7a4_7 ?_
  refine ok_isub (pc := 8) dJ6_bitCount_0f7a4_8 ?_
  refine ok_istore_n (L' := [(0, vI (p0 - (iand (iushr p0 1) 1431655765)))]) (pc := 9) dJ6_bitCount_0f7a4_9 rfl rfl rfl ?_
  refine ok_iload_n 0 (pc := 10) dJ6_bitCount_0f7a4_10 rfl rfl ?_
  refine ok_ldcw (pc := 11) dJ6_bitCount_0f7a4_11 cn_J6_266 ?_
  refine ok_iand (pc := 14) dJ6_bitCount_0f7a4_14 ?_
  refine ok_iload_n 0 (pc := 15) dJ6_bitCount_0f7a4_15 rfl rfl ?_
  refine ok_iconst (pc := 16) dJ6_bitCount_0f7a4_16 ?_
  refine ok_iushr (pc := 17) dJ6_bitCount_0f7a4_17 ?_
  refine ok_ldcw (pc := 18) dJ6_bitCount_0f7a4_18 cn_J6_266 ?_
  refine ok_iand (pc := 21) dJ6_bitCount_0f7a4_21 ?_
  refine ok_iadd (pc := 22) dJ6_bitCount_0f7a4_22 ?_
  refine ok_istore_n (L' := [(0, vI ((iand (p0 - (iand (iushr p0 1) 1431655765)) 858993459) + (iand (iushr (p0 - (iand (iushr p0 1) 1431655765)) 2) 858993459)))]) (pc := 23) dJ6_bitCount_0f7a4_23 rfl rfl rfl ?_
  refine ok_iload_n 0 (pc := 24) dJ6_bitCount_0f7a4_24 rfl rfl ?_
  refine ok_iload_n 0 (pc := 25) dJ6_bitCount_0f7a4_25 rfl rfl ?_
  refine ok_iconst (pc := 26) dJ6_bitCount_0f7a4_26 ?_
  refine ok_iushr (pc := 27) dJ6_bitCount_0f7a4_27 ?_
  refine ok_iadd (pc := 28) dJ6_bitCount_0f7a4_28 ?_
  refine ok_ldcw (pc := 29) dJ6_bitCount_0f7a4_29 cn_J6_267 ?_
  refine ok_iand (pc := 32) dJ6_bitCount_0f7a4_32 ?_
  refine ok_istore_n (L' := [(0, vI (iand (((iand (p0 - (iand (iushr p0 1) 1431655765)) 858993459) + (iand (iushr (p0 - (iand (iushr p0 1) 1431655765)) 2) 858993459)) + (iushr ((iand (p0 - (iand (iushr p0 1) 1431655765)) 858993459) + (iand (iushr (p0 - (iand (iushr p0 1) 1431655765)) 2) 858993459)) 4)) 252645135))]) (pc := 33) dJ6_bitCount_0f7a4_33 rfl rfl rfl ?_
  refine ok_iload_n 0 (pc := 34) dJ6_bitCount_0f7a4_34 rfl rfl ?_
  refine ok_iload_n 0 (pc := 35) dJ6_bitCount_0f7a4_35 rfl rfl ?_
  refine ok_bipush (pc := 36) dJ6_bitCount_0f7a4_36 rfl ?_
  refine ok_iushr (pc := 38) dJ6_bitCount_0f7a4_38 ?_
  refine ok_iadd (pc := 39) dJ6_bitCount_0f7a4_39 ?_
  refine ok_istore_n (L' := [(0, vI ((iand (((iand (p0 - (iand (iushr p0 1) 1431655765)) 858993459) + (iand (iushr (p0 - (iand (iushr p0 1) 1431655765)) 2) 858993459)) + (iushr ((iand (p0 - (iand (iushr p0 1) 1431655765)) 858993459) + (iand (iushr (p0 - (iand (iushr p0 1) 1431655765)) 2) 858993459)) 4)) 252645135) + (iushr (iand (((iand (p0 - (iand (iushr p0 1) 1431655765)) 858993459) + (iand (iushr (p0 - (iand (iushr p0 1) 1431655765)) 2) 858993459)) + (iushr ((iand (p0 - (iand (iushr p0 1) 1431655765)) 858993459) + (iand (iushr (p0 - (iand (iushr p0 1) 1431655765)) 2) 858993459)) 4)) 252645135) 8)))]) (pc := 40) dJ6_bitCount_0f7a4_40 rfl rfl rfl ?_
  refine ok_iload_n 0 (pc := 41) dJ6_bitCount_0f7a4_41 rfl rfl ?_
  refine ok_iload_n 0 (pc := 42) dJ6_bitCount_0f7a4_42 rfl rfl ?_
  refine ok_bipush (pc := 43) dJ6_bitCount_0f7a4_43 rfl ?_
  refine ok_iushr (pc := 45) dJ6_bitCount_0f7a4_45 ?_
  refine ok_iadd (pc := 46) dJ6_bitCount_0f7a4_46 ?_
  refine ok_istore_n (L' := [(0, vI (((iand (((iand (p0 - (iand (iushr p0 1) 1431655765)) 858993459) + (iand (iushr (p0 - (iand (iushr p0 1) 1431655765)) 2) 858993459)) + (iushr ((iand (p0 - (iand (iushr p0 1) 1431655765)) 858993459) + (iand (iushr (p0 - (iand (iushr p0 1) 1431655765)) 2) 858993459)) 4)) 252645135) + (iushr (iand (((iand (p0 - (iand (iushr p0 1) 1431655765)) 858993459) + (iand (iushr (p0 - (iand (iushr p0 1) 1431655765)) 2) 858993459)) + (iushr ((iand (p0 - (iand (iushr p0 1) 1431655765)) 858993459) + (iand (iushr (p0 - (iand (iushr p0 1) 1431655765)) 2) 858993459)) 4)) 252645135) 8)) + (iushr ((iand (((iand (p0 - (iand (iushr p0 1) 1431655765)) 858993459) + (iand (iushr (p0 - (iand (iushr p0 1) 1431655765)) 2) 858993459)) + (iushr ((iand (p0 - (iand (iushr p0 1) 1431655765)) 858993459) + (iand (iushr (p0 - (iand (iushr p0 1) 1431655765)) 2) 858993459)) 4)) 252645135) + (iushr (iand (((iand (p0 - (iand (iushr p0 1) 1431655765)) 858993459) + (iand (iushr (p0 - (iand (iushr p0 1) 1431655765)) 2) 858993459)) + (iushr ((iand (p0 - (iand (iushr p0 1) 1431655765)) 858993459) + (iand (iushr (p0 - (iand (iushr p0 1) 1431655765)) 2) 858993459)) 4)) 252645135) 8)) 16)))]) (pc := 47) dJ6_bitCount_0f7a4_47 rfl rfl rfl ?_
  refine ok_iload_n 0 (pc := 48) dJ6_bitCount_0f7a4_48 rfl rfl ?_
  refine ok_bipush (pc := 49) dJ6_bitCount_0f7a4_49 rfl ?_
  refine ok_iand (pc := 51) dJ6_bitCount_0f7a4_51 ?_
  exact ok_iret (pc := 52) dJ6_bitCount_0f7a4_52 rfl rfl rfl (q_rng _) h
theorem dX0_elsewhere_0 : decode cX0_elsewhere 0 = .ok (.iconst 0, 1) := by decide +kernel
theorem dX0_elsewhere_1 : decode cX0_elsewhere 1 = .ok (.istore_n 2, 1) := by decide +kernel
theorem dX0_elsewhere_2 : decode cX0_elsewhere 2 = .ok (.iconst 0, 1) := by decide +kernel
theorem dX0_elsewhere_3 : decode cX0_elsewhere 3 = .ok (.istore_n 3, 1) := by decide +kernel
theorem dX0_elsewhere_4 : decode cX0_elsewhere 4 = .ok (.iload_n 3, 1) := by decide +kernel
theorem dX0_elsewhere_5 : decode cX0_elsewhere 5 = .ok (.aload_n 0, 1) := by decide +kernel
theorem dX0_elsewhere_6 : decode cX0_elsewhere 6 = .ok (.getfield 39, 3) := by decide +kernel
theorem dX0_elsewhere_9 : decode cX0_elsewhere 9 = .ok (.if_icmp .ge 69, 3) := by decide +kernel
theorem dX0_elsewhere_12 : decode cX0_elsewhere 12 = .ok (.aload_n 0, 1) := by decide +kernel
theorem dX0_elsewhere_13 : decode cX0_elsewhere 13 = .ok (.getfield 11, 3) := by decide +kernel
theorem dX0_elsewhere_16 : decode cX0_elsewhere 16 = .ok (.iload_n 3, 1) := by decide +kernel
theorem dX0_elsewhere_17 : decode cX0_elsewhere 17 = .ok (.aaload, 1) := by decide +kernel
theorem dX0_elsewhere_18 : decode cX0_elsewhere 18 = .ok (.getfield 70, 3) := by decide +kernel
theorem dX0_elsewhere_21 : decode cX0_elsewhere 21 = .ok (.aload_n 0, 1) := by decide +kernel
theorem dX0_elsewhere_22 : decode cX0_elsewhere 22 = .ok (.getfield 34, 3) := by decide +kernel
theorem dX0_elsewhere_25 : decode cX0_elsewhere 25 = .ok (.aload_n 0, 1) := by decide +kernel
theorem dX0_elsewhere_26 : decode cX0_elsewhere 26 = .ok (.getfield 11, 3) := by decide +kernel
theorem dX0_elsewhere_29 : decode cX0_elsewhere 29 = .ok (.iload_n 3, 1) := by decide +kernel
theorem dX0_elsewhere_30 : decode cX0_elsewhere 30 = .ok (.aaload, 1) := by decide +kernel
theorem dX0_elsewhere_31 : decode cX0_elsewhere 31 = .ok (.getfield 63, 3) := by decide +kernel
theorem dX0_elsewhere_34 : decode cX0_elsewhere 34 = .ok (.invokevirtual 66, 3) := by decide +kernel
theorem dX0_elsewhere_37 : decode cX0_elsewhere 37 = .ok (.if_icmp .eq 7, 3) := by decide +kernel
theorem dX0_elsewhere_40 : decode cX0_elsewhere 40 = .ok (.iconst 1, 1) := by decide +kernel
theorem dX0_elsewhere_41 : decode cX0_elsewhere 41 = .ok (.goto 4, 3) := by decide +kernel
theorem dX0_elsewhere_44 : decode cX0_elsewhere 44 = .ok (.iconst 0, 1) := by decide +kernel
theorem dX0_elsewhere_45 : decode cX0_elsewhere 45 = .ok (.istore 4, 2) := by decide +kernel
theorem dX0_elsewhere_47 : decode cX0_elsewhere 47 = .ok (.iload_n 2, 1) := by decide +kernel
theorem dX0_elsewhere_48 : decode cX0_elsewhere 48 = .ok (.iload_n 1, 1) := by decide +kernel
theorem dX0_elsewhere_49 : decode cX0_elsewhere 49 = .ok (.iload_n 3, 1) := by decide +kernel
theorem dX0_elsewhere_50 : decode cX0_elsewhere 50 = .ok (.ishr, 1) := by decide +kernel
theorem dX0_elsewhere_51 : decode cX0_elsewhere 51 = .ok (.iconst 1, 1) := by decide +kernel
theorem dX0_elsewhere_52 : decode cX0_elsewhere 52 = .ok (.iand, 1) := by decide +kernel
theorem dX0_elsewhere_53 : decode cX0_elsewhere 53 = .ok (.iconst 1, 1) := by decide +kernel
theorem dX0_elsewhere_54 : decode cX0_elsewhere 54 = .ok (.if_icmp .ne 12, 3) := by decide +kernel
theorem dX0_elsewhere_57 : decode cX0_elsewhere 57 = .ok (.iload 4, 2) := by decide +kernel
theorem dX0_elsewhere_59 : decode cX0_elsewhere 59 = .ok (.ifCond .eq 7, 3) := by decide +kernel
theorem dX0_elsewhere_62 : decode cX0_elsewhere 62 = .ok (.iconst 1, 1) := by decide +kernel
theorem dX0_elsewhere_63 : decode cX0_elsewhere 63 = .ok (.goto 4, 3) := by decide +kernel
theorem dX0_elsewhere_66 : decode cX0_elsewhere 66 = .ok (.iconst 0, 1) := by decide +kernel
theorem dX0_elsewhere_67 : decode cX0_elsewhere 67 = .ok (.invokestatic 81, 3) := by decide +kernel
theorem dX0_elsewhere_70 : decode cX0_elsewhere 70 = .ok (.iadd, 1) := by decide +kernel
theorem dX0_elsewhere_71 : decode cX0_elsewhere 71 = .ok (.istore_n 2, 1) := by decide +kernel
theorem dX0_elsewhere_72 : decode cX0_elsewhere 72 = .ok (.iinc 3 1, 3) := by decide +kernel
theorem dX0_elsewhere_75 : decode cX0_elsewhere 75 = .ok (.goto (-71), 3) := by decide +kernel
theorem dX0_elsewhere_78 : decode cX0_elsewhere 78 = .ok (.iload_n 2, 1) := by decide +kernel
theorem dX0_elsewhere_79 : decode cX0_elsewhere 79 = .ok (.ireturn, 1) := by decide +kernel
set_option maxRecDepth 100000 in
set_option maxHeartbeats 4000000 in
theorem w_X0_elsewhere_67 (X : XE) (p1 : Int) (hp1 : inR p1) (x3 : Int) (s0 : Int) (s1 : Int) (hx3 : inR x3) (hs0 : inR s0) (hs1 : inR s1) {K4 : Int → Int → Mem → Prop} {Q : Int → Mem → Prop} (hK4 : ∀ (x2 : Int) (x3 : Int) (σ : Mem), inR x2 → inR x3 → K4 x2 x3 σ → ok X rm_X0_elsewhere RX0 cX0_elsewhere 5 (some .int) 1 Q 4 [(0, .ref (xad X 16)), (1, vI p1), (2, vI x2), (3, vI x3)] [] σ) {σ : Mem} (h : j_X0_elsewhere_67 p1 K4 Q x3 s0 s1 σ) : ok X rm_X0_elsewhere RX0 cX0_elsewhere 5 (some .int) 1 Q 67 [(0, .ref (xad X 16)), (1, vI p1), (3, vI x3)] [vI s0, vI s1] σ := by
  refine ok_callNi (As := [vI s0]) (rest := [vI s1]) (rm := rm_X11_bit) (pc := 67) dX0_elsewhere_67 me_X11_bit xn_0 des_X11_bit rfl ⟨rfl, rfl, rfl, rfl⟩ rfl rfl (c_X11_bit X s0 hs0 h) (fun r2 σ3 h1 h => ?_)
  refine ok_iadd (pc := 70) dX0_elsewhere_70 ?_
  refine ok_istore_n (L' := [(2, vI (s1 + r2)), (0, .ref (xad X 16)), (1, vI p1), (3, vI x3)]) (pc := 71) dX0_elsewhere_71 rfl rfl rfl ?_
  refine ok_iinc (L' := [(3, vI (x3 + 1)), (2, vI (s1 + r2)), (0, .ref (xad X 16)), (1, vI p1)]) 3 (pc := 72) dX0_elsewhere_72 rfl rfl rfl ?_
  refine ok_goto (tgt := 4) (pc := 75) dX0_elsewhere_75 rfl ?_
  obtain ⟨h4, h⟩ := h
  obtain ⟨h5, h⟩ := h
  refine ok_sub (L' := [(0, .ref (xad X 16)), (1, vI p1), (2, vI (s1 + r2)), (3, vI (x3 + 1))]) [2,3,1,0] rfl ?_
  exact hK4 (s1 + r2) (x3 + 1) σ3 h4 h5 h
set_option maxRecDepth 100000 in
set_option maxHeartbeats 4000000 in
theorem w_X0_elsewhere_45 (X : XE) (p1 : Int) (hp1 : inR p1) (x2 : Int) (x3 : Int) (s0 : Int) (hx2 : inR x2) (hx3 : inR x3) (hs0 : inR s0) {K4 : Int → Int → Mem → Prop} {Q : Int → Mem → Prop} (hK4 : ∀ (x2 : Int) (x3 : Int) (σ : Mem), inR x2 → inR x3 → K4 x2 x3 σ → ok X rm_X0_elsewhere RX0 cX0_elsewhere 5 (some .int) 1 Q 4 [(0, .ref (xad X 16)), (1, vI p1), (2, vI x2), (3, vI x3)] [] σ) {σ : Mem} (h : j_X0_elsewhere_45 p1 K4 Q x2 x3 s0 σ) : ok X rm_X0_elsewhere RX0 cX0_elsewhere 5 (some .int) 1 Q 45 [(0, .ref (xad X 16)), (1, vI p1), (2, vI x2), (3, vI x3)] [vI s0] σ := by
  unfold j_X0_elsewhere_45 at h
  refine ok_istore (L' := [(4, vI s0), (0, .ref (xad X 16)), (1, vI p1), (2, vI x2), (3, vI x3)]) (pc := 45) dX0_elsewhere_45 rfl rfl ?_
  refine ok_iload_n 3 (pc := 47) dX0_elsewhere_47 rfl rfl ?_
  refine ok_iload_n 2 (pc := 48) dX0_elsewhere_48 rfl rfl ?_
  refine ok_iload_n 4 (pc := 49) dX0_elsewhere_49 rfl rfl ?_
  refine ok_ishr (pc := 50) dX0_elsewhere_50 ?_
  refine ok_iconst (pc := 51) dX0_elsewhere_51 ?_
  refine ok_iand (pc := 52) dX0_elsewhere_52 ?_
  refine ok_iconst (pc := 53) dX0_elsewhere_53 ?_
  refine ok_icmp_ne (tgt := 66) (pc := 54) dX0_elsewhere_54 rfl (q_rng _) (r_lit rfl) (fun q1 => ?_) (fun q1 => ?_)
  · simp only [if_neg q1] at h
    refine ok_iconst (pc := 66) dX0_elsewhere_66 ?_
    refine ok_sub (L' := [(0, .ref (xad X 16)), (1, vI p1), (3, vI x3)]) [1,2,4] rfl ?_
    exact w_X0_elsewhere_67 X p1 hp1 x3 0 x2 hx3 (r_lit rfl) hx2 hK4 h
  · simp only [if_pos q1] at h
    refine ok_iload 0 (pc := 57) dX0_elsewhere_57 rfl ?_
    refine ok_if_eq (tgt := 66) (pc := 59) dX0_elsewhere_59 rfl hs0 (fun q2 => ?_) (fun q2 => ?_)
    · simp only [if_pos q2] at h
      refine ok_iconst (pc := 66) dX0_elsewhere_66 ?_
      refine ok_sub (L' := [(0, .ref (xad X 16)), (1, vI p1), (3, vI x3)]) [1,2,4] rfl ?_
      exact w_X0_elsewhere_67 X p1 hp1 x3 0 x2 hx3 (r_lit rfl) hx2 hK4 h
    · simp only [if_neg q2] at h
      refine ok_iconst (pc := 62) dX0_elsewhere_62 ?_
      refine ok_goto (tgt := 67) (pc := 63) dX0_elsewhere_63 rfl ?_
      refine ok_sub (L' := [(0, .ref (xad X 16)), (1, vI p1), (3, vI x3)]) [1,2,4] rfl ?_
      exact w_X0_elsewhere_67 X p1 hp1 x3 1 x2 hx3 (r_lit rfl) hx2 hK4 h
set_option maxRecDepth 100000 in
set_option maxHeartbeats 4000000 in
theorem w_X0_elsewhere_4 (X : XE) (p1 : Int) (hp1 : inR p1) {Q : Int → Mem → Prop} : ∀ (n : Nat) (x2 : Int) (x3 : Int) (σ : Mem), inR x2 → inR x3 → l_X0_elsewhere_4 p1 Q n x2 x3 σ → ok X rm_X0_elsewhere RX0 cX0_elsewhere 5 (some .int) 1 Q 4 [(0, .ref (xad X 16)), (1, vI p1), (2, vI x2), (3, vI x3)] [] σ := by
  intro n
  induction n with
  | zero => intro x2 x3 σ hx2 hx3 h; exact False.elim h
  | succ n ih =>
    intro x2 x3 σ hx2 hx3 h
    refine ok_iload_n 3 (pc := 4) dX0_elsewhere_4 rfl rfl ?_
    refine ok_aload_n 0 (pc := 5) dX0_elsewhere_5 rfl rfl ?_
    refine ok_wf (fun hw1 => ?_)
    refine ok_getI (pc := 6) dX0_elsewhere_6 fl_X0_39 sh_16 (Nat.le_of_ble_eq_true rfl) rfl rfl ?_
    refine ok_icmp_ge (tgt := 78) (pc := 9) dX0_elsewhere_9 rfl hx3 (hw1 _ _) (fun q2 => ?_) (fun q2 => ?_)
    · have h := iteF h q2
      refine ok_iload_n 2 (pc := 78) dX0_elsewhere_78 rfl rfl ?_
      exact ok_iret (pc := 79) dX0_elsewhere_79 rfl rfl rfl hx2 h
    · have h := iteT h q2
      refine ok_aload_n 0 (pc := 12) dX0_elsewhere_12 rfl rfl ?_
      refine ok_getR (pc := 13) dX0_elsewhere_13 fl_X0_11 sh_16 (Nat.le_of_ble_eq_true rfl) rfl rfl ?_
      refine ok_iload_n 3 (pc := 16) dX0_elsewhere_16 rfl rfl ?_
      obtain ⟨h3, h⟩ := h
      obtain ⟨h4, h⟩ := h
      refine ok_cards (pc := 17) dX0_elsewhere_17 h3 h4 ?_
      have hc5 : x3.toNat < 24 := by omega
      refine ok_getI (pc := 18) dX0_elsewhere_18 fl_X0_70 (sh_card (x3.toNat) hc5) (lt_card hc5).1 rfl rfl ?_
      refine ok_aload_n 0 (pc := 21) dX0_elsewhere_21 rfl rfl ?_
      refine ok_getR (pc := 22) dX0_elsewhere_22 fl_X0_34 sh_16 (Nat.le_of_ble_eq_true rfl) rfl rfl ?_
      refine ok_aload_n 0 (pc := 25) dX0_elsewhere_25 rfl rfl ?_
      refine ok_getR (pc := 26) dX0_elsewhere_26 fl_X0_11 sh_16 (Nat.le_of_ble_eq_true rfl) rfl rfl ?_
      refine ok_iload_n 3 (pc := 29) dX0_elsewhere_29 rfl rfl ?_
      refine ok_cards (pc := 30) dX0_elsewhere_30 h3 h4 ?_
      have hc6 : x3.toNat < 24 := by omega
      refine ok_getR (pc := 31) dX0_elsewhere_31 fl_X0_63 (sh_card (x3.toNat) hc6) (lt_card hc6).1 rfl rfl ?_
      refine ok_callVi (As := [.ref (xad X (25 + 3 * (x3.toNat)))]) (rest := [vI (σ (23 + 3 * (x3.toNat)) 5)]) (rm := rm_X5_drawerBy_c) (pc := 34) dX0_elsewhere_34 me_X5_drawerBy ml_X0_66 (ci := 5) rfl sh_14 (Nat.le_of_ble_eq_true rfl) rfl des_X5_drawerBy rfl ⟨rfl, rfl, rfl, rfl⟩ rfl rfl (c_X5_drawerBy_c X (x3.toNat) hc6 h) (fun r8 σ9 h7 h => ?_)
      refine ok_icmp_eq (tgt := 44) (pc := 37) dX0_elsewhere_37 rfl (hw1 _ _) h7 (fun q10 => ?_) (fun q10 => ?_)
      · simp only [if_pos q10] at h
        refine ok_iconst (pc := 44) dX0_elsewhere_44 ?_
        exact w_X0_elsewhere_45 X p1 hp1 x2 x3 0 hx2 hx3 (r_lit rfl) (fun x2_ x3_ σ_ hx2_ hx3_ h_ => ih x2_ x3_ σ_ hx2_ hx3_ h_) h
      · simp only [if_neg q10] at h
        refine ok_iconst (pc := 40) dX0_elsewhere_40 ?_
        refine ok_goto (tgt := 45) (pc := 41) dX0_elsewhere_41 rfl ?_
        exact w_X0_elsewhere_45 X p1 hp1 x2 x3 1 hx2 hx3 (r_lit rfl) (fun x2_ x3_ σ_ hx2_ hx3_ h_ => ih x2_ x3_ σ_ hx2_ hx3_ h_) h
set_option maxRecDepth 100000 in
set_option maxHeartbeats 4000000 in
theorem c_X0_elsewhere (X : XE) (p1 : Int) (hp1 : inR p1) {σ : Mem} {Q : Int → Mem → Prop} (h : v_X0_elsewhere p1 σ Q) : CT X yX0_elsewhere cX0_elsewhere 5 (some .int) rm_X0_elsewhere 1 [.ref (xad X 16), vI p1] σ Q := by
  refine ct_of (own := RX0) (L := [(0, .ref (xad X 16)), (1, vI p1)]) rfl rfl (Nat.le_of_ble_eq_true rfl) rfl ?_
  refine ok_iconst (pc := 0) dX0_elsewhere_0 ?_
  refine ok_istore_n (L' := [(2, vI 0), (0, .ref (xad X 16)), (1, vI p1)]) (pc := 1) dX0_elsewhere_1 rfl rfl rfl ?_
  refine ok_iconst (pc := 2) dX0_elsewhere_2 ?_
  refine ok_istore_n (L' := [(3, vI 0), (2, vI 0), (0, .ref (xad X 16)), (1, vI p1)]) (pc := 3) dX0_elsewhere_3 rfl rfl rfl ?_
  refine ok_sub (L' := [(0, .ref (xad X 16)), (1, vI p1), (2, vI 0), (3, vI 0)]) [2,3,1,0] rfl ?_
  obtain ⟨n1, h⟩ := h
  exact w_X0_elsewhere_4 X p1 hp1 n1 0 0 σ (r_lit rfl) (r_lit rfl) h
theorem dX11_drawer_0 : decode cX11_drawer 0 = .ok (.iload_n 1, 1) := by decide +kernel
theorem dX11_drawer_1 : decode cX11_drawer 1 = .ok (.ifCond .lt 18, 3) := by decide +kernel
theorem dX11_drawer_4 : decode cX11_drawer 4 = .ok (.iload_n 1, 1) := by decide +kernel
theorem dX11_drawer_5 : decode cX11_drawer 5 = .ok (.bipush 27, 2) := by decide +kernel
theorem dX11_drawer_7 : decode cX11_drawer 7 = .ok (.if_icmp .ge 12, 3) := by decide +kernel
theorem dX11_drawer_10 : decode cX11_drawer 10 = .ok (.iload_n 2, 1) := by decide +kernel
theorem dX11_drawer_11 : decode cX11_drawer 11 = .ok (.ifCond .lt 8, 3) := by decide +kernel
theorem dX11_drawer_14 : decode cX11_drawer 14 = .ok (.iload_n 2, 1) := by decide +kernel
theorem dX11_drawer_15 : decode cX11_drawer 15 = .ok (.iconst 2, 1) := by decide +kernel
theorem dX11_drawer_16 : decode cX11_drawer 16 = .ok (.if_icmp .le 5, 3) := by decide +kernel
theorem dX11_drawer_19 : decode cX11_drawer 19 = .ok (.iconst (-1), 1) := by decide +kernel
theorem dX11_drawer_20 : decode cX11_drawer 20 = .ok (.ireturn, 1) := by decide +kernel
theorem dX11_drawer_21 : decode cX11_drawer 21 = .ok (.aload_n 0, 1) := by decide +kernel
theorem dX11_drawer_22 : decode cX11_drawer 22 = .ok (.getfield 46, 3) := by decide +kernel
theorem dX11_drawer_25 : decode cX11_drawer 25 = .ok (.iconst 1, 1) := by decide +kernel
theorem dX11_drawer_26 : decode cX11_drawer 26 = .ok (.iload_n 1, 1) := by decide +kernel
theorem dX11_drawer_27 : decode cX11_drawer 27 = .ok (.ishl, 1) := by decide +kernel
theorem dX11_drawer_28 : decode cX11_drawer 28 = .ok (.invokevirtual 213, 3) := by decide +kernel
theorem dX11_drawer_31 : decode cX11_drawer 31 = .ok (.istore_n 3, 1) := by decide +kernel
theorem dX11_drawer_32 : decode cX11_drawer 32 = .ok (.iload_n 2, 1) := by decide +kernel
theorem dX11_drawer_33 : decode cX11_drawer 33 = .ok (.lookupswitch 34 #[(0, 27), (1, 32)], 27) := by decide +kernel
theorem dX11_drawer_60 : decode cX11_drawer 60 = .ok (.iload_n 3, 1) := by decide +kernel
theorem dX11_drawer_61 : decode cX11_drawer 61 = .ok (.invokestatic 217, 3) := by decide +kernel
theorem dX11_drawer_64 : decode cX11_drawer 64 = .ok (.ireturn, 1) := by decide +kernel
theorem dX11_drawer_65 : decode cX11_drawer 65 = .ok (.iload_n 3, 1) := by decide +kernel
theorem dX11_drawer_66 : decode cX11_drawer 66 = .ok (.ireturn, 1) := by decide +kernel
theorem dX11_drawer_67 : decode cX11_drawer 67 = .ok (.aload_n 0, 1) := by decide +kernel
theorem dX11_drawer_68 : decode cX11_drawer 68 = .ok (.getfield 46, 3) := by decide +kernel
theorem dX11_drawer_71 : decode cX11_drawer 71 = .ok (.iload_n 3, 1) := by decide +kernel
theorem dX11_drawer_72 : decode cX11_drawer 72 = .ok (.invokevirtual 222, 3) := by decide +kernel
theorem dX11_drawer_75 : decode cX11_drawer 75 = .ok (.ireturn, 1) := by decide +kernel
set_option maxRecDepth 100000 in
set_option maxHeartbeats 4000000 in
theorem c_X11_drawer (X : XE) (p1 : Int) (p2 : Int) (hp1 : inR p1) (hp2 : inR p2) {σ : Mem} {Q : Int → Mem → Prop} (h : v_X11_drawer p1 p2 σ Q) : CT X yX11_drawer cX11_drawer 4 (some .int) rm_X11_drawer 1 [.ref (xad X 0), vI p1, vI p2] σ Q := by
  refine ct_of (own := RX11) (L := [(0, .ref (xad X 0)), (1, vI p1), (2, vI p2)]) rfl rfl (Nat.le_of_ble_eq_true rfl) rfl ?_
  refine ok_iload_n 1 (pc := 0) dX11_drawer_0 rfl rfl ?_
  refine ok_if_lt (tgt := 19) (pc := 1) dX11_drawer_1 rfl hp1 (fun q1 => ?_) (fun q1 => ?_)
  · have h := iteT h q1
    refine ok_iconst (pc := 19) dX11_drawer_19 ?_
    exact ok_iret (pc := 20) dX11_drawer_20 rfl rfl rfl (r_lit rfl) h
  · have h := iteF h q1
    refine ok_iload_n 1 (pc := 4) dX11_drawer_4 rfl rfl ?_
    refine ok_bipush (pc := 5) dX11_drawer_5 rfl ?_
    refine ok_icmp_ge (tgt := 19) (pc := 7) dX11_drawer_7 rfl hp1 (r_lit rfl) (fun q2 => ?_) (fun q2 => ?_)
    · have h := iteF h q2
      refine ok_iconst (pc := 19) dX11_drawer_19 ?_
      exact ok_iret (pc := 20) dX11_drawer_20 rfl rfl rfl (r_lit rfl) h
    · have h := iteT h q2
      refine ok_iload_n 2 (pc := 10) dX11_drawer_10 rfl rfl ?_
      refine ok_if_lt (tgt := 19) (pc := 11) dX11_drawer_11 rfl hp2 (fun q3 => ?_) (fun q3 => ?_)
      · have h := iteT h q3
        refine ok_iconst (pc := 19) dX11_drawer_19 ?_
        exact ok_iret (pc := 20) dX11_drawer_20 rfl rfl rfl (r_lit rfl) h
      · have h := iteF h q3
        refine ok_iload_n 2 (pc := 14) dX11_drawer_14 rfl rfl ?_
        refine ok_iconst (pc := 15) dX11_drawer_15 ?_
        refine ok_icmp_le (tgt := 21) (pc := 16) dX11_drawer_16 rfl hp2 (r_lit rfl) (fun q4 => ?_) (fun q4 => ?_)
        · have h := iteF h q4
          refine ok_aload_n 0 (pc := 21) dX11_drawer_21 rfl rfl ?_
          refine ok_getR (pc := 22) dX11_drawer_22 fl_X11_46 sh_0 (Nat.le_of_ble_eq_true rfl) rfl rfl ?_
          refine ok_iconst (pc := 25) dX11_drawer_25 ?_
          refine ok_iload_n 1 (pc := 26) dX11_drawer_26 rfl rfl ?_
          refine ok_ishl (pc := 27) dX11_drawer_27 ?_
          refine ok_callVi (As := [vI (ishl 1 p1)]) (rest := []) (rm := rm_X0_filedIn) (pc := 28) dX11_drawer_28 me_X0_filedIn ml_X11_213 (ci := 0) rfl sh_16 (Nat.le_of_ble_eq_true rfl) rfl des_X0_filedIn rfl ⟨rfl, rfl, rfl, rfl⟩ rfl rfl (c_X0_filedIn X (ishl 1 p1) (q_rng _) h) (fun r6 σ7 h5 h => ?_)
          refine ok_istore_n (L' := [(3, vI r6), (0, .ref (xad X 0)), (1, vI p1), (2, vI p2)]) (pc := 31) dX11_drawer_31 rfl rfl rfl ?_
          refine ok_iload_n 3 (pc := 32) dX11_drawer_32 rfl rfl ?_
          by_cases q8 : p2 = 0
          · have h := iteT h q8
            refine ok_lswitch (tgt := 60) (pc := 33) dX11_drawer_33 rfl hp2 (by first | (rw [q8]; done) | (rw [q8]; rfl)) rfl ?_
            refine ok_iload_n 0 (pc := 60) dX11_drawer_60 rfl rfl ?_
            refine ok_callSi (As := [vI r6]) (rest := []) (rm := rm_J6_bitCount_0f7a4) (pc := 61) dX11_drawer_61 me_J6_bitCount_0f7a4 ml_X11_217 des_J6_bitCount_0f7a4 rfl ⟨rfl, rfl, rfl, rfl⟩ rfl rfl (c_J6_bitCount_0f7a4 X r6 h5 h) (fun r10 σ11 h9 h => ?_)
            exact ok_iret (pc := 64) dX11_drawer_64 rfl rfl rfl h9 h
          · have h := iteF h q8
            by_cases q12 : p2 = 1
            · have h := iteT h q12
              refine ok_lswitch (tgt := 65) (pc := 33) dX11_drawer_33 rfl hp2 (by first | (rw [q12]; done) | (rw [q12]; rfl)) rfl ?_
              refine ok_iload_n 0 (pc := 65) dX11_drawer_65 rfl rfl ?_
              exact ok_iret (pc := 66) dX11_drawer_66 rfl rfl rfl h5 h
            · have h := iteF h q12
              refine ok_lswitch (tgt := 67) (pc := 33) dX11_drawer_33 rfl hp2 (ls_out2 q8 q12) rfl ?_
              refine ok_aload_n 1 (pc := 67) dX11_drawer_67 rfl rfl ?_
              refine ok_getR (pc := 68) dX11_drawer_68 fl_X11_46 sh_0 (Nat.le_of_ble_eq_true rfl) rfl rfl ?_
              refine ok_iload_n 0 (pc := 71) dX11_drawer_71 rfl rfl ?_
              refine ok_callVi (As := [vI r6]) (rest := []) (rm := rm_X0_elsewhere) (pc := 72) dX11_drawer_72 me_X0_elsewhere ml_X11_222 (ci := 0) rfl sh_16 (Nat.le_of_ble_eq_true rfl) rfl des_X0_elsewhere rfl ⟨rfl, rfl, rfl, rfl⟩ rfl rfl (c_X0_elsewhere X r6 h5 h) (fun r14 σ15 h13 h => ?_)
              exact ok_iret (pc := 75) dX11_drawer_75 rfl rfl rfl h13 h
        · have h := iteT h q4
          refine ok_iconst (pc := 19) dX11_drawer_19 ?_
          exact ok_iret (pc := 20) dX11_drawer_20 rfl rfl rfl (r_lit rfl) h
set_option maxRecDepth 100000 in
set_option maxHeartbeats 4000000 in
theorem c_X5_drawerBy_t (X : XE) {σ : Mem} {Q : Int → Mem → Prop} (h : v_X5_drawerBy_t σ Q) : CT X yX5_drawerBy cX5_drawerBy 2 (some .int) rm_X5_drawerBy_t 1 [.ref (xad X 14), .ref (xad X 96)] σ Q := by
  refine ct_of (own := RX5) (L := [(0, .ref (xad X 14)), (1, .ref (xad X 96))]) rfl rfl (Nat.le_of_ble_eq_true rfl) rfl ?_
  refine ok_bipush (pc := 0) dX5_drawerBy_0 rfl ?_
  refine ok_aload_n 0 (pc := 2) dX5_drawerBy_2 rfl rfl ?_
  refine ok_iconst (pc := 3) dX5_drawerBy_3 ?_
  refine ok_aload_n 1 (pc := 4) dX5_drawerBy_4 rfl rfl ?_
  refine ok_iconst (pc := 5) dX5_drawerBy_5 ?_
  refine ok_wf (fun hw1 => ?_)
  refine ok_iald (pc := 6) dX5_drawerBy_6 sh_96 (Nat.le_of_ble_eq_true rfl) rfl (by decide) (by decide) ?_
  refine ok_callVi (As := [vI 0, vI (σ 96 0)]) (rest := [vI 9]) (rm := rm_X5_third) (pc := 7) dX5_drawerBy_7 me_X5_third ml_X5_32 (ci := 5) rfl sh_14 (Nat.le_of_ble_eq_true rfl) rfl des_X5_third rfl ⟨rfl, rfl, rfl, rfl⟩ rfl rfl (c_X5_third X 0 (σ 96 0) (r_lit rfl) (hw1 _ _) h) (fun r3 σ4 h2 h => ?_)
  refine ok_imul (pc := 10) dX5_drawerBy_10 ?_
  refine ok_iconst (pc := 11) dX5_drawerBy_11 ?_
  refine ok_aload_n 0 (pc := 12) dX5_drawerBy_12 rfl rfl ?_
  refine ok_iconst (pc := 13) dX5_drawerBy_13 ?_
  refine ok_aload_n 1 (pc := 14) dX5_drawerBy_14 rfl rfl ?_
  refine ok_iconst (pc := 15) dX5_drawerBy_15 ?_
  refine ok_wf (fun hw5 => ?_)
  refine ok_iald (pc := 16) dX5_drawerBy_16 sh_96 (Nat.le_of_ble_eq_true rfl) rfl (by decide) (by decide) ?_
  refine ok_callVi (As := [vI 1, vI (σ4 96 1)]) (rest := [vI 3, vI (9 * r3)]) (rm := rm_X5_third) (pc := 17) dX5_drawerBy_17 me_X5_third ml_X5_32 (ci := 5) rfl sh_14 (Nat.le_of_ble_eq_true rfl) rfl des_X5_third rfl ⟨rfl, rfl, rfl, rfl⟩ rfl rfl (c_X5_third X 1 (σ4 96 1) (r_lit rfl) (hw5 _ _) h) (fun r7 σ8 h6 h => ?_)
  refine ok_imul (pc := 20) dX5_drawerBy_20 ?_
  refine ok_iadd (pc := 21) dX5_drawerBy_21 ?_
  refine ok_aload_n 0 (pc := 22) dX5_drawerBy_22 rfl rfl ?_
  refine ok_iconst (pc := 23) dX5_drawerBy_23 ?_
  refine ok_aload_n 1 (pc := 24) dX5_drawerBy_24 rfl rfl ?_
  refine ok_iconst (pc := 25) dX5_drawerBy_25 ?_
  refine ok_wf (fun hw9 => ?_)
  refine ok_iald (pc := 26) dX5_drawerBy_26 sh_96 (Nat.le_of_ble_eq_true rfl) rfl (by decide) (by decide) ?_
  refine ok_callVi (As := [vI 2, vI (σ8 96 2)]) (rest := [vI ((9 * r3) + (3 * r7))]) (rm := rm_X5_third) (pc := 27) dX5_drawerBy_27 me_X5_third ml_X5_32 (ci := 5) rfl sh_14 (Nat.le_of_ble_eq_true rfl) rfl des_X5_third rfl ⟨rfl, rfl, rfl, rfl⟩ rfl rfl (c_X5_third X 2 (σ8 96 2) (r_lit rfl) (hw9 _ _) h) (fun r11 σ12 h10 h => ?_)
  refine ok_iadd (pc := 30) dX5_drawerBy_30 ?_
  obtain ⟨h13, h⟩ := h
  exact ok_iret (pc := 31) dX5_drawerBy_31 rfl rfl rfl h13 h
theorem dX11_tell_0 : decode cX11_tell 0 = .ok (.iload_n 1, 1) := by decide +kernel
theorem dX11_tell_1 : decode cX11_tell 1 = .ok (.invokestatic 148, 3) := by decide +kernel
theorem dX11_tell_4 : decode cX11_tell 4 = .ok (.ifCond .eq 33, 3) := by decide +kernel
theorem dX11_tell_7 : decode cX11_tell 7 = .ok (.iload_n 2, 1) := by decide +kernel
theorem dX11_tell_8 : decode cX11_tell 8 = .ok (.invokestatic 145, 3) := by decide +kernel
theorem dX11_tell_11 : decode cX11_tell 11 = .ok (.ifCond .eq 26, 3) := by decide +kernel
theorem dX11_tell_14 : decode cX11_tell 14 = .ok (.iload_n 3, 1) := by decide +kernel
theorem dX11_tell_15 : decode cX11_tell 15 = .ok (.invokestatic 145, 3) := by decide +kernel
theorem dX11_tell_18 : decode cX11_tell 18 = .ok (.ifCond .eq 19, 3) := by decide +kernel
theorem dX11_tell_21 : decode cX11_tell 21 = .ok (.iload 4, 2) := by decide +kernel
theorem dX11_tell_23 : decode cX11_tell 23 = .ok (.invokestatic 145, 3) := by decide +kernel
theorem dX11_tell_26 : decode cX11_tell 26 = .ok (.ifCond .eq 11, 3) := by decide +kernel
theorem dX11_tell_29 : decode cX11_tell 29 = .ok (.iload 5, 2) := by decide +kernel
theorem dX11_tell_31 : decode cX11_tell 31 = .ok (.invokestatic 145, 3) := by decide +kernel
theorem dX11_tell_34 : decode cX11_tell 34 = .ok (.ifCond .ne 5, 3) := by decide +kernel
theorem dX11_tell_37 : decode cX11_tell 37 = .ok (.iconst (-1), 1) := by decide +kernel
theorem dX11_tell_38 : decode cX11_tell 38 = .ok (.ireturn, 1) := by decide +kernel
theorem dX11_tell_39 : decode cX11_tell 39 = .ok (.aload_n 0, 1) := by decide +kernel
theorem dX11_tell_40 : decode cX11_tell 40 = .ok (.getfield 53, 3) := by decide +kernel
theorem dX11_tell_43 : decode cX11_tell 43 = .ok (.iconst 1, 1) := by decide +kernel
theorem dX11_tell_44 : decode cX11_tell 44 = .ok (.putfield 225, 3) := by decide +kernel
theorem dX11_tell_47 : decode cX11_tell 47 = .ok (.aload_n 0, 1) := by decide +kernel
theorem dX11_tell_48 : decode cX11_tell 48 = .ok (.getfield 53, 3) := by decide +kernel
theorem dX11_tell_51 : decode cX11_tell 51 = .ok (.iload_n 1, 1) := by decide +kernel
theorem dX11_tell_52 : decode cX11_tell 52 = .ok (.putfield 229, 3) := by decide +kernel
theorem dX11_tell_55 : decode cX11_tell 55 = .ok (.aload_n 0, 1) := by decide +kernel
theorem dX11_tell_56 : decode cX11_tell 56 = .ok (.getfield 53, 3) := by decide +kernel
theorem dX11_tell_59 : decode cX11_tell 59 = .ok (.getfield 230, 3) := by decide +kernel
theorem dX11_tell_62 : decode cX11_tell 62 = .ok (.iconst 0, 1) := by decide +kernel
theorem dX11_tell_63 : decode cX11_tell 63 = .ok (.iload_n 2, 1) := by decide +kernel
theorem dX11_tell_64 : decode cX11_tell 64 = .ok (.iastore, 1) := by decide +kernel
theorem dX11_tell_65 : decode cX11_tell 65 = .ok (.aload_n 0, 1) := by decide +kernel
theorem dX11_tell_66 : decode cX11_tell 66 = .ok (.getfield 53, 3) := by decide +kernel
theorem dX11_tell_69 : decode cX11_tell 69 = .ok (.getfield 230, 3) := by decide +kernel
theorem dX11_tell_72 : decode cX11_tell 72 = .ok (.iconst 1, 1) := by decide +kernel
theorem dX11_tell_73 : decode cX11_tell 73 = .ok (.iload_n 3, 1) := by decide +kernel
theorem dX11_tell_74 : decode cX11_tell 74 = .ok (.iastore, 1) := by decide +kernel
theorem dX11_tell_75 : decode cX11_tell 75 = .ok (.aload_n 0, 1) := by decide +kernel
theorem dX11_tell_76 : decode cX11_tell 76 = .ok (.getfield 53, 3) := by decide +kernel
theorem dX11_tell_79 : decode cX11_tell 79 = .ok (.getfield 230, 3) := by decide +kernel
theorem dX11_tell_82 : decode cX11_tell 82 = .ok (.iconst 2, 1) := by decide +kernel
theorem dX11_tell_83 : decode cX11_tell 83 = .ok (.iload 4, 2) := by decide +kernel
theorem dX11_tell_85 : decode cX11_tell 85 = .ok (.iastore, 1) := by decide +kernel
theorem dX11_tell_86 : decode cX11_tell 86 = .ok (.aload_n 0, 1) := by decide +kernel
theorem dX11_tell_87 : decode cX11_tell 87 = .ok (.getfield 53, 3) := by decide +kernel
theorem dX11_tell_90 : decode cX11_tell 90 = .ok (.getfield 230, 3) := by decide +kernel
theorem dX11_tell_93 : decode cX11_tell 93 = .ok (.iconst 3, 1) := by decide +kernel
theorem dX11_tell_94 : decode cX11_tell 94 = .ok (.iload 5, 2) := by decide +kernel
theorem dX11_tell_96 : decode cX11_tell 96 = .ok (.iastore, 1) := by decide +kernel
theorem dX11_tell_97 : decode cX11_tell 97 = .ok (.aload_n 0, 1) := by decide +kernel
theorem dX11_tell_98 : decode cX11_tell 98 = .ok (.getfield 37, 3) := by decide +kernel
theorem dX11_tell_101 : decode cX11_tell 101 = .ok (.aload_n 0, 1) := by decide +kernel
theorem dX11_tell_102 : decode cX11_tell 102 = .ok (.getfield 53, 3) := by decide +kernel
theorem dX11_tell_105 : decode cX11_tell 105 = .ok (.getfield 230, 3) := by decide +kernel
theorem dX11_tell_108 : decode cX11_tell 108 = .ok (.invokevirtual 181, 3) := by decide +kernel
theorem dX11_tell_111 : decode cX11_tell 111 = .ok (.ireturn, 1) := by decide +kernel
set_option maxRecDepth 100000 in
set_option maxHeartbeats 4000000 in
theorem c_X11_tell (X : XE) (p1 : Int) (p2 : Int) (p3 : Int) (p4 : Int) (p5 : Int) (hp1 : inR p1) (hp2 : inR p2) (hp3 : inR p3) (hp4 : inR p4) (hp5 : inR p5) {σ : Mem} {Q : Int → Mem → Prop} (h : v_X11_tell p1 p2 p3 p4 p5 σ Q) : CT X yX11_tell cX11_tell 6 (some .int) rm_X11_tell 1 [.ref (xad X 0), vI p1, vI p2, vI p3, vI p4, vI p5] σ Q := by
  refine ct_of (own := RX11) (L := [(0, .ref (xad X 0)), (1, vI p1), (2, vI p2), (3, vI p3), (4, vI p4), (5, vI p5)]) rfl rfl (Nat.le_of_ble_eq_true rfl) rfl ?_
  refine ok_iload_n 1 (pc := 0) dX11_tell_0 rfl rfl ?_
  refine ok_callSi (As := [vI p1]) (rest := []) (rm := rm_X11_isHand) (pc := 1) dX11_tell_1 me_X11_isHand ml_X11_148 des_X11_isHand rfl ⟨rfl, rfl, rfl, rfl⟩ rfl rfl (c_X11_isHand X p1 hp1 h) (fun r2 σ3 h1 h => ?_)
  refine ok_if_eq (tgt := 37) (pc := 4) dX11_tell_4 rfl h1 (fun q4 => ?_) (fun q4 => ?_)
  · have h := iteT h q4
    refine ok_iconst (pc := 37) dX11_tell_37 ?_
    exact ok_iret (pc := 38) dX11_tell_38 rfl rfl rfl (r_lit rfl) h
  · have h := iteF h q4
    refine ok_iload_n 2 (pc := 7) dX11_tell_7 rfl rfl ?_
    refine ok_callSi (As := [vI p2]) (rest := []) (rm := rm_X11_isTold) (pc := 8) dX11_tell_8 me_X11_isTold ml_X11_145 des_X11_isTold rfl ⟨rfl, rfl, rfl, rfl⟩ rfl rfl (c_X11_isTold X p2 hp2 h) (fun r6 σ7 h5 h => ?_)
    refine ok_if_eq (tgt := 37) (pc := 11) dX11_tell_11 rfl h5 (fun q8 => ?_) (fun q8 => ?_)
    · have h := iteT h q8
      refine ok_iconst (pc := 37) dX11_tell_37 ?_
      exact ok_iret (pc := 38) dX11_tell_38 rfl rfl rfl (r_lit rfl) h
    · have h := iteF h q8
      refine ok_iload_n 3 (pc := 14) dX11_tell_14 rfl rfl ?_
      refine ok_callSi (As := [vI p3]) (rest := []) (rm := rm_X11_isTold) (pc := 15) dX11_tell_15 me_X11_isTold ml_X11_145 des_X11_isTold rfl ⟨rfl, rfl, rfl, rfl⟩ rfl rfl (c_X11_isTold X p3 hp3 h) (fun r10 σ11 h9 h => ?_)
      refine ok_if_eq (tgt := 37) (pc := 18) dX11_tell_18 rfl h9 (fun q12 => ?_) (fun q12 => ?_)
      · have h := iteT h q12
        refine ok_iconst (pc := 37) dX11_tell_37 ?_
        exact ok_iret (pc := 38) dX11_tell_38 rfl rfl rfl (r_lit rfl) h
      · have h := iteF h q12
        refine ok_iload 4 (pc := 21) dX11_tell_21 rfl ?_
        refine ok_callSi (As := [vI p4]) (rest := []) (rm := rm_X11_isTold) (pc := 23) dX11_tell_23 me_X11_isTold ml_X11_145 des_X11_isTold rfl ⟨rfl, rfl, rfl, rfl⟩ rfl rfl (c_X11_isTold X p4 hp4 h) (fun r14 σ15 h13 h => ?_)
        refine ok_if_eq (tgt := 37) (pc := 26) dX11_tell_26 rfl h13 (fun q16 => ?_) (fun q16 => ?_)
        · have h := iteT h q16
          refine ok_iconst (pc := 37) dX11_tell_37 ?_
          exact ok_iret (pc := 38) dX11_tell_38 rfl rfl rfl (r_lit rfl) h
        · have h := iteF h q16
          refine ok_iload 5 (pc := 29) dX11_tell_29 rfl ?_
          refine ok_callSi (As := [vI p5]) (rest := []) (rm := rm_X11_isTold) (pc := 31) dX11_tell_31 me_X11_isTold ml_X11_145 des_X11_isTold rfl ⟨rfl, rfl, rfl, rfl⟩ rfl rfl (c_X11_isTold X p5 hp5 h) (fun r18 σ19 h17 h => ?_)
          refine ok_if_ne (tgt := 39) (pc := 34) dX11_tell_34 rfl h17 (fun q20 => ?_) (fun q20 => ?_)
          · have h := iteF h q20
            refine ok_aload_n 0 (pc := 39) dX11_tell_39 rfl rfl ?_
            refine ok_getR (pc := 40) dX11_tell_40 fl_X11_53 sh_0 (Nat.le_of_ble_eq_true rfl) rfl rfl ?_
            refine ok_iconst (pc := 43) dX11_tell_43 ?_
            refine ok_putI (pc := 44) dX11_tell_44 fl_X11_225 fp_X10_0 sh_95 (Nat.le_of_ble_eq_true rfl) rfl rfl (r_lit rfl) (nr_z (Or.inr rfl)) (fi_z (Or.inr rfl)) ?_
            refine ok_aload_n 0 (pc := 47) dX11_tell_47 rfl rfl ?_
            refine ok_getR (pc := 48) dX11_tell_48 fl_X11_53 sh_0 (Nat.le_of_ble_eq_true rfl) rfl rfl ?_
            refine ok_iload_n 1 (pc := 51) dX11_tell_51 rfl rfl ?_
            refine ok_putI (pc := 52) dX11_tell_52 fl_X11_229 fp_X10_1 sh_95 (Nat.le_of_ble_eq_true rfl) rfl rfl hp1 rfl rfl ?_
            refine ok_aload_n 0 (pc := 55) dX11_tell_55 rfl rfl ?_
            refine ok_getR (pc := 56) dX11_tell_56 fl_X11_53 sh_0 (Nat.le_of_ble_eq_true rfl) rfl rfl ?_
            refine ok_getR (pc := 59) dX11_tell_59 fl_X11_230 sh_95 (Nat.le_of_ble_eq_true rfl) rfl rfl ?_
            refine ok_iconst (pc := 62) dX11_tell_62 ?_
            refine ok_iload_n 2 (pc := 63) dX11_tell_63 rfl rfl ?_
            refine ok_iast (pc := 64) dX11_tell_64 sh_96 (Nat.le_of_ble_eq_true rfl) rfl (by decide) (by decide) hp2 ?_
            refine ok_aload_n 0 (pc := 65) dX11_tell_65 rfl rfl ?_
            refine ok_getR (pc := 66) dX11_tell_66 fl_X11_53 sh_0 (Nat.le_of_ble_eq_true rfl) rfl rfl ?_
            refine ok_getR (pc := 69) dX11_tell_69 fl_X11_230 sh_95 (Nat.le_of_ble_eq_true rfl) rfl rfl ?_
            refine ok_iconst (pc := 72) dX11_tell_72 ?_
            refine ok_iload_n 3 (pc := 73) dX11_tell_73 rfl rfl ?_
            refine ok_iast (pc := 74) dX11_tell_74 sh_96 (Nat.le_of_ble_eq_true rfl) rfl (by decide) (by decide) hp3 ?_
            refine ok_aload_n 0 (pc := 75) dX11_tell_75 rfl rfl ?_
            refine ok_getR (pc := 76) dX11_tell_76 fl_X11_53 sh_0 (Nat.le_of_ble_eq_true rfl) rfl rfl ?_
            refine ok_getR (pc := 79) dX11_tell_79 fl_X11_230 sh_95 (Nat.le_of_ble_eq_true rfl) rfl rfl ?_
            refine ok_iconst (pc := 82) dX11_tell_82 ?_
            refine ok_iload 4 (pc := 83) dX11_tell_83 rfl ?_
            refine ok_iast (pc := 85) dX11_tell_85 sh_96 (Nat.le_of_ble_eq_true rfl) rfl (by decide) (by decide) hp4 ?_
            refine ok_aload_n 0 (pc := 86) dX11_tell_86 rfl rfl ?_
            refine ok_getR (pc := 87) dX11_tell_87 fl_X11_53 sh_0 (Nat.le_of_ble_eq_true rfl) rfl rfl ?_
            refine ok_getR (pc := 90) dX11_tell_90 fl_X11_230 sh_95 (Nat.le_of_ble_eq_true rfl) rfl rfl ?_
            refine ok_iconst (pc := 93) dX11_tell_93 ?_
            refine ok_iload 5 (pc := 94) dX11_tell_94 rfl ?_
            refine ok_iast (pc := 96) dX11_tell_96 sh_96 (Nat.le_of_ble_eq_true rfl) rfl (by decide) (by decide) hp5 ?_
            refine ok_aload_n 0 (pc := 97) dX11_tell_97 rfl rfl ?_
            refine ok_getR (pc := 98) dX11_tell_98 fl_X11_37 sh_0 (Nat.le_of_ble_eq_true rfl) rfl rfl ?_
            refine ok_aload_n 0 (pc := 101) dX11_tell_101 rfl rfl ?_
            refine ok_getR (pc := 102) dX11_tell_102 fl_X11_53 sh_0 (Nat.le_of_ble_eq_true rfl) rfl rfl ?_
            refine ok_getR (pc := 105) dX11_tell_105 fl_X11_230 sh_95 (Nat.le_of_ble_eq_true rfl) rfl rfl ?_
            refine ok_callVi (As := [.ref (xad X 96)]) (rest := []) (rm := rm_X5_drawerBy_t) (pc := 108) dX11_tell_108 me_X5_drawerBy ml_X11_181 (ci := 5) rfl sh_14 (Nat.le_of_ble_eq_true rfl) rfl des_X5_drawerBy rfl ⟨rfl, rfl, rfl, rfl⟩ rfl rfl (c_X5_drawerBy_t X h) (fun r22 σ23 h21 h => ?_)
            exact ok_iret (pc := 111) dX11_tell_111 rfl rfl rfl h21 h
          · have h := iteT h q20
            refine ok_iconst (pc := 37) dX11_tell_37 ?_
            exact ok_iret (pc := 38) dX11_tell_38 rfl rfl rfl (r_lit rfl) h
theorem dX3_share_0 : decode cX3_share 0 = .ok (.iconst 0, 1) := by decide +kernel
theorem dX3_share_1 : decode cX3_share 1 = .ok (.istore 5, 2) := by decide +kernel
theorem dX3_share_3 : decode cX3_share 3 = .ok (.iload 5, 2) := by decide +kernel
theorem dX3_share_5 : decode cX3_share 5 = .ok (.iconst 3, 1) := by decide +kernel
theorem dX3_share_6 : decode cX3_share 6 = .ok (.if_icmp .ge 32, 3) := by decide +kernel
theorem dX3_share_9 : decode cX3_share 9 = .ok (.aload_n 0, 1) := by decide +kernel
theorem dX3_share_10 : decode cX3_share 10 = .ok (.getfield 18, 3) := by decide +kernel
theorem dX3_share_13 : decode cX3_share 13 = .ok (.iconst 3, 1) := by decide +kernel
theorem dX3_share_14 : decode cX3_share 14 = .ok (.iload_n 1, 1) := by decide +kernel
theorem dX3_share_15 : decode cX3_share 15 = .ok (.imul, 1) := by decide +kernel
theorem dX3_share_16 : decode cX3_share 16 = .ok (.iload 5, 2) := by decide +kernel
theorem dX3_share_18 : decode cX3_share 18 = .ok (.iadd, 1) := by decide +kernel
theorem dX3_share_19 : decode cX3_share 19 = .ok (.iload_n 2, 1) := by decide +kernel
theorem dX3_share_20 : decode cX3_share 20 = .ok (.ifCond .ne 7, 3) := by decide +kernel
theorem dX3_share_23 : decode cX3_share 23 = .ok (.iconst 1, 1) := by decide +kernel
theorem dX3_share_24 : decode cX3_share 24 = .ok (.goto 4, 3) := by decide +kernel
theorem dX3_share_27 : decode cX3_share 27 = .ok (.iconst 0, 1) := by decide +kernel
theorem dX3_share_28 : decode cX3_share 28 = .ok (.invokestatic 43, 3) := by decide +kernel
theorem dX3_share_31 : decode cX3_share 31 = .ok (.iastore, 1) := by decide +kernel
theorem dX3_share_32 : decode cX3_share 32 = .ok (.iinc 5 1, 3) := by decide +kernel
theorem dX3_share_35 : decode cX3_share 35 = .ok (.goto (-32), 3) := by decide +kernel
theorem dX3_share_38 : decode cX3_share 38 = .ok (.iload_n 2, 1) := by decide +kernel
theorem dX3_share_39 : decode cX3_share 39 = .ok (.ifCond .ne 5, 3) := by decide +kernel
theorem dX3_share_42 : decode cX3_share 42 = .ok (.iconst 3, 1) := by decide +kernel
theorem dX3_share_43 : decode cX3_share 43 = .ok (.ireturn, 1) := by decide +kernel
theorem dX3_share_44 : decode cX3_share 44 = .ok (.iconst 1, 1) := by decide +kernel
theorem dX3_share_45 : decode cX3_share 45 = .ok (.iload_n 2, 1) := by decide +kernel
theorem dX3_share_46 : decode cX3_share 46 = .ok (.iload_n 3, 1) := by decide +kernel
theorem dX3_share_47 : decode cX3_share 47 = .ok (.isub, 1) := by decide +kernel
theorem dX3_share_48 : decode cX3_share 48 = .ok (.invokestatic 47, 3) := by decide +kernel
theorem dX3_share_51 : decode cX3_share 51 = .ok (.istore 5, 2) := by decide +kernel
theorem dX3_share_53 : decode cX3_share 53 = .ok (.iload 5, 2) := by decide +kernel
theorem dX3_share_55 : decode cX3_share 55 = .ok (.istore 6, 2) := by decide +kernel
theorem dX3_share_57 : decode cX3_share 57 = .ok (.iload 6, 2) := by decide +kernel
theorem dX3_share_59 : decode cX3_share 59 = .ok (.iload_n 2, 1) := by decide +kernel
theorem dX3_share_60 : decode cX3_share 60 = .ok (.iload_n 3, 1) := by decide +kernel
theorem dX3_share_61 : decode cX3_share 61 = .ok (.iadd, 1) := by decide +kernel
theorem dX3_share_62 : decode cX3_share 62 = .ok (.if_icmp .gt 30, 3) := by decide +kernel
theorem dX3_share_65 : decode cX3_share 65 = .ok (.aload_n 0, 1) := by decide +kernel
theorem dX3_share_66 : decode cX3_share 66 = .ok (.getfield 18, 3) := by decide +kernel
theorem dX3_share_69 : decode cX3_share 69 = .ok (.iconst 3, 1) := by decide +kernel
theorem dX3_share_70 : decode cX3_share 70 = .ok (.iload_n 1, 1) := by decide +kernel
theorem dX3_share_71 : decode cX3_share 71 = .ok (.imul, 1) := by decide +kernel
theorem dX3_share_72 : decode cX3_share 72 = .ok (.aload 4, 2) := by decide +kernel
theorem dX3_share_74 : decode cX3_share 74 = .ok (.iload_n 1, 1) := by decide +kernel
theorem dX3_share_75 : decode cX3_share 75 = .ok (.iload 6, 2) := by decide +kernel
theorem dX3_share_77 : decode cX3_share 77 = .ok (.invokevirtual 53, 3) := by decide +kernel
theorem dX3_share_80 : decode cX3_share 80 = .ok (.iadd, 1) := by decide +kernel
theorem dX3_share_81 : decode cX3_share 81 = .ok (.dup2, 1) := by decide +kernel
theorem dX3_share_82 : decode cX3_share 82 = .ok (.iaload, 1) := by decide +kernel
theorem dX3_share_83 : decode cX3_share 83 = .ok (.iconst 1, 1) := by decide +kernel
theorem dX3_share_84 : decode cX3_share 84 = .ok (.iadd, 1) := by decide +kernel
theorem dX3_share_85 : decode cX3_share 85 = .ok (.iastore, 1) := by decide +kernel
theorem dX3_share_86 : decode cX3_share 86 = .ok (.iinc 6 1, 3) := by decide +kernel
theorem dX3_share_89 : decode cX3_share 89 = .ok (.goto (-32), 3) := by decide +kernel
theorem dX3_share_92 : decode cX3_share 92 = .ok (.iload_n 2, 1) := by decide +kernel
theorem dX3_share_93 : decode cX3_share 93 = .ok (.iload_n 3, 1) := by decide +kernel
theorem dX3_share_94 : decode cX3_share 94 = .ok (.iadd, 1) := by decide +kernel
theorem dX3_share_95 : decode cX3_share 95 = .ok (.iload 5, 2) := by decide +kernel
theorem dX3_share_97 : decode cX3_share 97 = .ok (.isub, 1) := by decide +kernel
theorem dX3_share_98 : decode cX3_share 98 = .ok (.iconst 1, 1) := by decide +kernel
theorem dX3_share_99 : decode cX3_share 99 = .ok (.iadd, 1) := by decide +kernel
theorem dX3_share_100 : decode cX3_share 100 = .ok (.ireturn, 1) := by decide +kernel
set_option maxRecDepth 100000 in
set_option maxHeartbeats 4000000 in
theorem w_X3_share_57 (X : XE) (p1 : Int) (p2 : Int) (p3 : Int) (hp1 : inR p1) (hp2 : inR p2) (hp3 : inR p3) (x5 : Int) (hx5 : inR x5) {Q : Int → Mem → Prop} : ∀ (n : Nat) (x6 : Int) (σ : Mem), inR x6 → l_X3_share_57 p1 p2 p3 x5 Q n x6 σ → ok X rm_X3_share RX3 cX3_share 7 (some .int) 1 Q 57 [(0, .ref (xad X 99)), (1, vI p1), (2, vI p2), (3, vI p3), (4, .ref (xad X 14)), (5, vI x5), (6, vI x6)] [] σ := by
  intro n
  induction n with
  | zero => intro x6 σ hx6 h; exact False.elim h
  | succ n ih =>
    intro x6 σ hx6 h
    refine ok_iload 6 (pc := 57) dX3_share_57 rfl ?_
    refine ok_iload_n 2 (pc := 59) dX3_share_59 rfl rfl ?_
    refine ok_iload_n 3 (pc := 60) dX3_share_60 rfl rfl ?_
    refine ok_iadd (pc := 61) dX3_share_61 ?_
    obtain ⟨h1, h⟩ := h
    refine ok_icmp_gt (tgt := 92) (pc := 62) dX3_share_62 rfl hx6 h1 (fun q2 => ?_) (fun q2 => ?_)
    · have h := iteT h q2
      refine ok_iload_n 2 (pc := 92) dX3_share_92 rfl rfl ?_
      refine ok_iload_n 3 (pc := 93) dX3_share_93 rfl rfl ?_
      refine ok_iadd (pc := 94) dX3_share_94 ?_
      refine ok_iload 5 (pc := 95) dX3_share_95 rfl ?_
      refine ok_isub (pc := 97) dX3_share_97 ?_
      refine ok_iconst (pc := 98) dX3_share_98 ?_
      refine ok_iadd (pc := 99) dX3_share_99 ?_
      obtain ⟨h3, h⟩ := h
      exact ok_iret (pc := 100) dX3_share_100 rfl rfl rfl h3 h
    · have h := iteF h q2
      refine ok_aload_n 0 (pc := 65) dX3_share_65 rfl rfl ?_
      refine ok_getR (pc := 66) dX3_share_66 fl_X3_18 sh_99 (Nat.le_of_ble_eq_true rfl) rfl rfl ?_
      refine ok_iconst (pc := 69) dX3_share_69 ?_
      refine ok_iload_n 1 (pc := 70) dX3_share_70 rfl rfl ?_
      refine ok_imul (pc := 71) dX3_share_71 ?_
      refine ok_aload 4 (pc := 72) dX3_share_72 rfl ?_
      refine ok_iload_n 1 (pc := 74) dX3_share_74 rfl rfl ?_
      refine ok_iload 6 (pc := 75) dX3_share_75 rfl ?_
      refine ok_callVi (As := [vI p1, vI x6]) (rest := [vI (3 * p1), .ref (xad X 102)]) (rm := rm_X5_third) (pc := 77) dX3_share_77 me_X5_third ml_X3_53 (ci := 5) rfl sh_14 (Nat.le_of_ble_eq_true rfl) rfl des_X5_third rfl ⟨rfl, rfl, rfl, rfl⟩ rfl rfl (c_X5_third X p1 x6 hp1 hx6 h) (fun r5 σ6 h4 h => ?_)
      refine ok_iadd (pc := 80) dX3_share_80 ?_
      refine ok_dup2 (pc := 81) dX3_share_81 rfl rfl ?_
      obtain ⟨h7, h⟩ := h
      obtain ⟨h8, h⟩ := h
      refine ok_wf (fun hw9 => ?_)
      refine ok_iald (pc := 82) dX3_share_82 sh_102 (Nat.le_of_ble_eq_true rfl) rfl h7 h8 ?_
      refine ok_iconst (pc := 83) dX3_share_83 ?_
      refine ok_iadd (pc := 84) dX3_share_84 ?_
      obtain ⟨h10, h⟩ := h
      refine ok_iast (pc := 85) dX3_share_85 sh_102 (Nat.le_of_ble_eq_true rfl) rfl h7 h8 h10 ?_
      refine ok_iinc (L' := [(6, vI (x6 + 1)), (0, .ref (xad X 99)), (1, vI p1), (2, vI p2), (3, vI p3), (4, .ref (xad X 14)), (5, vI x5)]) 6 (pc := 86) dX3_share_86 rfl rfl rfl ?_
      refine ok_goto (tgt := 57) (pc := 89) dX3_share_89 rfl ?_
      obtain ⟨h11, h⟩ := h
      refine ok_sub (L' := [(0, .ref (xad X 99)), (1, vI p1), (2, vI p2), (3, vI p3), (4, .ref (xad X 14)), (5, vI x5), (6, vI (x6 + 1))]) [1,2,3,4,5,6,0] rfl ?_
      exact ih (x6 + 1) (mset σ6 102 (((3 * p1) + r5).toNat) ((σ6 102 ((3 * p1) + r5).toNat) + 1)) h11 h
set_option maxRecDepth 100000 in
set_option maxHeartbeats 4000000 in
theorem w_X3_share_28 (X : XE) (p1 : Int) (p2 : Int) (p3 : Int) (hp1 : inR p1) (hp2 : inR p2) (hp3 : inR p3) (x5 : Int) (s0 : Int) (s1 : Int) (hx5 : inR x5) (hs0 : inR s0) (hs1 : inR s1) {K3 : Int → Mem → Prop} {Q : Int → Mem → Prop} (hK3 : ∀ (x5 : Int) (σ : Mem), inR x5 → K3 x5 σ → ok X rm_X3_share RX3 cX3_share 7 (some .int) 1 Q 3 [(0, .ref (xad X 99)), (1, vI p1), (2, vI p2), (3, vI p3), (4, .ref (xad X 14)), (5, vI x5)] [] σ) {σ : Mem} (h : j_X3_share_28 p1 p2 p3 K3 Q x5 s0 s1 σ) : ok X rm_X3_share RX3 cX3_share 7 (some .int) 1 Q 28 [(0, .ref (xad X 99)), (1, vI p1), (2, vI p2), (3, vI p3), (4, .ref (xad X 14)), (5, vI x5)] [vI s0, vI s1, .ref (xad X 102)] σ := by
  refine ok_callNi (As := [vI s0]) (rest := [vI s1, .ref (xad X 102)]) (rm := rm_X11_bit) (pc := 28) dX3_share_28 me_X11_bit xn_3 des_X11_bit rfl ⟨rfl, rfl, rfl, rfl⟩ rfl rfl (c_X11_bit X s0 hs0 h) (fun r2 σ3 h1 h => ?_)
  obtain ⟨h4, h⟩ := h
  obtain ⟨h5, h⟩ := h
  refine ok_iast (pc := 31) dX3_share_31 sh_102 (Nat.le_of_ble_eq_true rfl) rfl h4 h5 h1 ?_
  refine ok_iinc (L' := [(5, vI (x5 + 1)), (0, .ref (xad X 99)), (1, vI p1), (2, vI p2), (3, vI p3), (4, .ref (xad X 14))]) 5 (pc := 32) dX3_share_32 rfl rfl rfl ?_
  refine ok_goto (tgt := 3) (pc := 35) dX3_share_35 rfl ?_
  obtain ⟨h6, h⟩ := h
  refine ok_sub (L' := [(0, .ref (xad X 99)), (1, vI p1), (2, vI p2), (3, vI p3), (4, .ref (xad X 14)), (5, vI (x5 + 1))]) [1,2,3,4,5,0] rfl ?_
  exact hK3 (x5 + 1) (mset σ3 102 (s1.toNat) r2) h6 h
set_option maxRecDepth 100000 in
set_option maxHeartbeats 4000000 in
theorem w_X3_share_3 (X : XE) (p1 : Int) (p2 : Int) (p3 : Int) (hp1 : inR p1) (hp2 : inR p2) (hp3 : inR p3) {Q : Int → Mem → Prop} : ∀ (n : Nat) (x5 : Int) (σ : Mem), inR x5 → l_X3_share_3 p1 p2 p3 Q n x5 σ → ok X rm_X3_share RX3 cX3_share 7 (some .int) 1 Q 3 [(0, .ref (xad X 99)), (1, vI p1), (2, vI p2), (3, vI p3), (4, .ref (xad X 14)), (5, vI x5)] [] σ := by
  intro n
  induction n with
  | zero => intro x5 σ hx5 h; exact False.elim h
  | succ n ih =>
    intro x5 σ hx5 h
    refine ok_iload 5 (pc := 3) dX3_share_3 rfl ?_
    refine ok_iconst (pc := 5) dX3_share_5 ?_
    refine ok_icmp_ge (tgt := 38) (pc := 6) dX3_share_6 rfl hx5 (r_lit rfl) (fun q1 => ?_) (fun q1 => ?_)
    · have h := iteF h q1
      refine ok_iload_n 2 (pc := 38) dX3_share_38 rfl rfl ?_
      refine ok_if_ne (tgt := 44) (pc := 39) dX3_share_39 rfl hp2 (fun q2 => ?_) (fun q2 => ?_)
      · have h := iteF h q2
        refine ok_iconst (pc := 44) dX3_share_44 ?_
        refine ok_iload_n 2 (pc := 45) dX3_share_45 rfl rfl ?_
        refine ok_iload_n 3 (pc := 46) dX3_share_46 rfl rfl ?_
        refine ok_isub (pc := 47) dX3_share_47 ?_
        obtain ⟨h3, h⟩ := h
        refine ok_max (pc := 48) dX3_share_48 ml_X3_47 ⟨rfl, rfl⟩ (r_lit rfl) h3 ?_
        refine ok_istore (L' := [(5, vI (imax 1 (p2 - p3))), (0, .ref (xad X 99)), (1, vI p1), (2, vI p2), (3, vI p3), (4, .ref (xad X 14))]) (pc := 51) dX3_share_51 rfl rfl ?_
        refine ok_iload 0 (pc := 53) dX3_share_53 rfl ?_
        refine ok_istore (L' := [(6, vI (imax 1 (p2 - p3))), (5, vI (imax 1 (p2 - p3))), (0, .ref (xad X 99)), (1, vI p1), (2, vI p2), (3, vI p3), (4, .ref (xad X 14))]) (pc := 55) dX3_share_55 rfl rfl ?_
        refine ok_sub (L' := [(0, .ref (xad X 99)), (1, vI p1), (2, vI p2), (3, vI p3), (4, .ref (xad X 14)), (5, vI (imax 1 (p2 - p3))), (6, vI (imax 1 (p2 - p3)))]) [2,3,4,5,6,1,0] rfl ?_
        obtain ⟨n4, h⟩ := h
        exact w_X3_share_57 X p1 p2 p3 hp1 hp2 hp3 (imax 1 (p2 - p3)) (r_max (r_lit rfl) h3) n4 (imax 1 (p2 - p3)) σ (r_max (r_lit rfl) h3) h
      · have h := iteT h q2
        refine ok_iconst (pc := 42) dX3_share_42 ?_
        exact ok_iret (pc := 43) dX3_share_43 rfl rfl rfl (r_lit rfl) h
    · have h := iteT h q1
      refine ok_aload_n 0 (pc := 9) dX3_share_9 rfl rfl ?_
      refine ok_getR (pc := 10) dX3_share_10 fl_X3_18 sh_99 (Nat.le_of_ble_eq_true rfl) rfl rfl ?_
      refine ok_iconst (pc := 13) dX3_share_13 ?_
      refine ok_iload_n 1 (pc := 14) dX3_share_14 rfl rfl ?_
      refine ok_imul (pc := 15) dX3_share_15 ?_
      refine ok_iload 5 (pc := 16) dX3_share_16 rfl ?_
      refine ok_iadd (pc := 18) dX3_share_18 ?_
      refine ok_iload_n 2 (pc := 19) dX3_share_19 rfl rfl ?_
      refine ok_if_ne (tgt := 27) (pc := 20) dX3_share_20 rfl hp2 (fun q5 => ?_) (fun q5 => ?_)
      · have h := iteF h q5
        refine ok_iconst (pc := 27) dX3_share_27 ?_
        obtain ⟨h6, h⟩ := h
        exact w_X3_share_28 X p1 p2 p3 hp1 hp2 hp3 x5 0 ((3 * p1) + x5) hx5 (r_lit rfl) h6 (fun x5_ σ_ hx5_ h_ => ih x5_ σ_ hx5_ h_) h
      · have h := iteT h q5
        refine ok_iconst (pc := 23) dX3_share_23 ?_
        refine ok_goto (tgt := 28) (pc := 24) dX3_share_24 rfl ?_
        obtain ⟨h7, h⟩ := h
        exact w_X3_share_28 X p1 p2 p3 hp1 hp2 hp3 x5 1 ((3 * p1) + x5) hx5 (r_lit rfl) h7 (fun x5_ σ_ hx5_ h_ => ih x5_ σ_ hx5_ h_) h
set_option maxRecDepth 100000 in
set_option maxHeartbeats 4000000 in
theorem c_X3_share (X : XE) (p1 : Int) (p2 : Int) (p3 : Int) (hp1 : inR p1) (hp2 : inR p2) (hp3 : inR p3) {σ : Mem} {Q : Int → Mem → Prop} (h : v_X3_share p1 p2 p3 σ Q) : CT X yX3_share cX3_share 7 (some .int) rm_X3_share 1 [.ref (xad X 99), vI p1, vI p2, vI p3, .ref (xad X 14)] σ Q := by
  refine ct_of (own := RX3) (L := [(0, .ref (xad X 99)), (1, vI p1), (2, vI p2), (3, vI p3), (4, .ref (xad X 14))]) rfl rfl (Nat.le_of_ble_eq_true rfl) rfl ?_
  refine ok_iconst (pc := 0) dX3_share_0 ?_
  refine ok_istore (L' := [(5, vI 0), (0, .ref (xad X 99)), (1, vI p1), (2, vI p2), (3, vI p3), (4, .ref (xad X 14))]) (pc := 1) dX3_share_1 rfl rfl ?_
  refine ok_sub (L' := [(0, .ref (xad X 99)), (1, vI p1), (2, vI p2), (3, vI p3), (4, .ref (xad X 14)), (5, vI 0)]) [1,2,3,4,5,0] rfl ?_
  obtain ⟨n1, h⟩ := h
  exact w_X3_share_3 X p1 p2 p3 hp1 hp2 hp3 n1 0 σ (r_lit rfl) h
