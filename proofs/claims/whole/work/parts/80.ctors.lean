/-! THE SMALL CONSTRUCTORS -/
theorem fq_X0_0 : FPF RX0 0 10 0 (tyX0 0) := ⟨RX0, TX0, tyX0, rfl, tyX0_ok, nmX0, rfl, rfl, rfl⟩
theorem fq_X0_1 : FPF RX0 0 10 1 (tyX0 1) := ⟨RX0, TX0, tyX0, rfl, tyX0_ok, nmX0, rfl, rfl, rfl⟩
theorem fq_X0_3 : FPF RX0 0 10 3 (tyX0 3) := ⟨RX0, TX0, tyX0, rfl, tyX0_ok, nmX0, rfl, rfl, rfl⟩
theorem fq_X0_5 : FPF RX0 0 10 5 (tyX0 5) := ⟨RX0, TX0, tyX0, rfl, tyX0_ok, nmX0, rfl, rfl, rfl⟩
theorem fq_X0_6 : FPF RX0 0 10 6 (tyX0 6) := ⟨RX0, TX0, tyX0, rfl, tyX0_ok, nmX0, rfl, rfl, rfl⟩
theorem fq_X0_7 : FPF RX0 0 10 7 (tyX0 7) := ⟨RX0, TX0, tyX0, rfl, tyX0_ok, nmX0, rfl, rfl, rfl⟩
theorem fq_X0_8 : FPF RX0 0 10 8 (tyX0 8) := ⟨RX0, TX0, tyX0, rfl, tyX0_ok, nmX0, rfl, rfl, rfl⟩
theorem fq_X1_6 : FPF RX1 1 8 6 (tyX1 6) := ⟨RX1, TX1, tyX1, rfl, tyX1_ok, nmX1, rfl, rfl, rfl⟩
theorem fq_X1_7 : FPF RX1 1 8 7 (tyX1 7) := ⟨RX1, TX1, tyX1, rfl, tyX1_ok, nmX1, rfl, rfl, rfl⟩
theorem fq_X2_0 : FPF RX2 2 7 0 (tyX2 0) := ⟨RX2, TX2, tyX2, rfl, tyX2_ok, nmX2, rfl, rfl, rfl⟩
theorem fq_X2_5 : FPF RX2 2 7 5 (tyX2 5) := ⟨RX2, TX2, tyX2, rfl, tyX2_ok, nmX2, rfl, rfl, rfl⟩
theorem fq_X2_6 : FPF RX2 2 7 6 (tyX2 6) := ⟨RX2, TX2, tyX2, rfl, tyX2_ok, nmX2, rfl, rfl, rfl⟩
theorem fq_X3_0 : FPF RX3 3 6 0 (tyX3 0) := ⟨RX3, TX3, tyX3, rfl, tyX3_ok, nmX3, rfl, rfl, rfl⟩
theorem fq_X3_2 : FPF RX3 3 6 2 (tyX3 2) := ⟨RX3, TX3, tyX3, rfl, tyX3_ok, nmX3, rfl, rfl, rfl⟩
theorem fq_X3_5 : FPF RX3 3 6 5 (tyX3 5) := ⟨RX3, TX3, tyX3, rfl, tyX3_ok, nmX3, rfl, rfl, rfl⟩
theorem fq_X4_0 : FPF RX4 4 4 0 (tyX4 0) := ⟨RX4, TX4, tyX4, rfl, tyX4_ok, nmX4, rfl, rfl, rfl⟩
theorem fq_X4_1 : FPF RX4 4 4 1 (tyX4 1) := ⟨RX4, TX4, tyX4, rfl, tyX4_ok, nmX4, rfl, rfl, rfl⟩
theorem fq_X5_0 : FPF RX5 5 3 0 (tyX5 0) := ⟨RX5, TX5, tyX5, rfl, tyX5_ok, nmX5, rfl, rfl, rfl⟩
theorem fq_X5_1 : FPF RX5 5 3 1 (tyX5 1) := ⟨RX5, TX5, tyX5, rfl, tyX5_ok, nmX5, rfl, rfl, rfl⟩
theorem fq_X6_0 : FPF RX6 6 7 0 (tyX6 0) := ⟨RX6, TX6, tyX6, rfl, tyX6_ok, nmX6, rfl, rfl, rfl⟩
theorem fq_X6_1 : FPF RX6 6 7 1 (tyX6 1) := ⟨RX6, TX6, tyX6, rfl, tyX6_ok, nmX6, rfl, rfl, rfl⟩
theorem fq_X7_0 : FPF RX7 7 5 0 (tyX7 0) := ⟨RX7, TX7, tyX7, rfl, tyX7_ok, nmX7, rfl, rfl, rfl⟩
theorem fq_X7_1 : FPF RX7 7 5 1 (tyX7 1) := ⟨RX7, TX7, tyX7, rfl, tyX7_ok, nmX7, rfl, rfl, rfl⟩
theorem fq_X7_2 : FPF RX7 7 5 2 (tyX7 2) := ⟨RX7, TX7, tyX7, rfl, tyX7_ok, nmX7, rfl, rfl, rfl⟩
theorem fq_X7_3 : FPF RX7 7 5 3 (tyX7 3) := ⟨RX7, TX7, tyX7, rfl, tyX7_ok, nmX7, rfl, rfl, rfl⟩
theorem fq_X8_0 : FPF RX8 8 4 0 (tyX8 0) := ⟨RX8, TX8, tyX8, rfl, tyX8_ok, nmX8, rfl, rfl, rfl⟩
theorem fq_X9_0 : FPF RX9 9 2 0 (tyX9 0) := ⟨RX9, TX9, tyX9, rfl, tyX9_ok, nmX9, rfl, rfl, rfl⟩
theorem fq_X10_2 : FPF RX10 10 7 2 (tyX10 2) := ⟨RX10, TX10, tyX10, rfl, tyX10_ok, nmX10, rfl, rfl, rfl⟩
theorem fq_X10_3 : FPF RX10 10 7 3 (tyX10 3) := ⟨RX10, TX10, tyX10, rfl, tyX10_ok, nmX10, rfl, rfl, rfl⟩
theorem fq_X10_4 : FPF RX10 10 7 4 (tyX10 4) := ⟨RX10, TX10, tyX10, rfl, tyX10_ok, nmX10, rfl, rfl, rfl⟩
theorem fq_X11_0 : FPF RX11 11 17 0 (tyX11 0) := ⟨RX11, TX11, tyX11, rfl, tyX11_ok, nmX11, rfl, rfl, rfl⟩
theorem fq_X11_1 : FPF RX11 11 17 1 (tyX11 1) := ⟨RX11, TX11, tyX11, rfl, tyX11_ok, nmX11, rfl, rfl, rfl⟩
theorem fq_X11_2 : FPF RX11 11 17 2 (tyX11 2) := ⟨RX11, TX11, tyX11, rfl, tyX11_ok, nmX11, rfl, rfl, rfl⟩
theorem fq_X11_3 : FPF RX11 11 17 3 (tyX11 3) := ⟨RX11, TX11, tyX11, rfl, tyX11_ok, nmX11, rfl, rfl, rfl⟩
theorem fq_X11_4 : FPF RX11 11 17 4 (tyX11 4) := ⟨RX11, TX11, tyX11, rfl, tyX11_ok, nmX11, rfl, rfl, rfl⟩
theorem fq_X11_5 : FPF RX11 11 17 5 (tyX11 5) := ⟨RX11, TX11, tyX11, rfl, tyX11_ok, nmX11, rfl, rfl, rfl⟩
theorem fq_X11_6 : FPF RX11 11 17 6 (tyX11 6) := ⟨RX11, TX11, tyX11, rfl, tyX11_ok, nmX11, rfl, rfl, rfl⟩
theorem fq_X11_7 : FPF RX11 11 17 7 (tyX11 7) := ⟨RX11, TX11, tyX11, rfl, tyX11_ok, nmX11, rfl, rfl, rfl⟩
theorem fq_X11_8 : FPF RX11 11 17 8 (tyX11 8) := ⟨RX11, TX11, tyX11, rfl, tyX11_ok, nmX11, rfl, rfl, rfl⟩
theorem fq_X11_9 : FPF RX11 11 17 9 (tyX11 9) := ⟨RX11, TX11, tyX11, rfl, tyX11_ok, nmX11, rfl, rfl, rfl⟩
theorem fq_X11_10 : FPF RX11 11 17 10 (tyX11 10) := ⟨RX11, TX11, tyX11, rfl, tyX11_ok, nmX11, rfl, rfl, rfl⟩
theorem fq_X11_11 : FPF RX11 11 17 11 (tyX11 11) := ⟨RX11, TX11, tyX11, rfl, tyX11_ok, nmX11, rfl, rfl, rfl⟩
theorem fq_X11_12 : FPF RX11 11 17 12 (tyX11 12) := ⟨RX11, TX11, tyX11, rfl, tyX11_ok, nmX11, rfl, rfl, rfl⟩
theorem fq_X11_13 : FPF RX11 11 17 13 (tyX11 13) := ⟨RX11, TX11, tyX11, rfl, tyX11_ok, nmX11, rfl, rfl, rfl⟩
theorem fq_X11_14 : FPF RX11 11 17 14 (tyX11 14) := ⟨RX11, TX11, tyX11, rfl, tyX11_ok, nmX11, rfl, rfl, rfl⟩
theorem fq_X12_1 : FPF RX12 12 62 1 (tyX12 1) := ⟨RX12, TX12, tyX12, rfl, tyX12_ok, nmX12, rfl, rfl, rfl⟩
theorem fq_X12_10 : FPF RX12 12 62 10 (tyX12 10) := ⟨RX12, TX12, tyX12, rfl, tyX12_ok, nmX12, rfl, rfl, rfl⟩
theorem fq_X12_11 : FPF RX12 12 62 11 (tyX12 11) := ⟨RX12, TX12, tyX12, rfl, tyX12_ok, nmX12, rfl, rfl, rfl⟩
theorem fq_X12_13 : FPF RX12 12 62 13 (tyX12 13) := ⟨RX12, TX12, tyX12, rfl, tyX12_ok, nmX12, rfl, rfl, rfl⟩
theorem fq_X12_14 : FPF RX12 12 62 14 (tyX12 14) := ⟨RX12, TX12, tyX12, rfl, tyX12_ok, nmX12, rfl, rfl, rfl⟩
theorem fq_X12_15 : FPF RX12 12 62 15 (tyX12 15) := ⟨RX12, TX12, tyX12, rfl, tyX12_ok, nmX12, rfl, rfl, rfl⟩
theorem fq_X12_16 : FPF RX12 12 62 16 (tyX12 16) := ⟨RX12, TX12, tyX12, rfl, tyX12_ok, nmX12, rfl, rfl, rfl⟩
theorem fq_X12_17 : FPF RX12 12 62 17 (tyX12 17) := ⟨RX12, TX12, tyX12, rfl, tyX12_ok, nmX12, rfl, rfl, rfl⟩
theorem fq_X12_19 : FPF RX12 12 62 19 (tyX12 19) := ⟨RX12, TX12, tyX12, rfl, tyX12_ok, nmX12, rfl, rfl, rfl⟩
theorem fq_X12_20 : FPF RX12 12 62 20 (tyX12 20) := ⟨RX12, TX12, tyX12, rfl, tyX12_ok, nmX12, rfl, rfl, rfl⟩
theorem fq_X12_21 : FPF RX12 12 62 21 (tyX12 21) := ⟨RX12, TX12, tyX12, rfl, tyX12_ok, nmX12, rfl, rfl, rfl⟩
theorem fq_X12_22 : FPF RX12 12 62 22 (tyX12 22) := ⟨RX12, TX12, tyX12, rfl, tyX12_ok, nmX12, rfl, rfl, rfl⟩
theorem fq_X12_23 : FPF RX12 12 62 23 (tyX12 23) := ⟨RX12, TX12, tyX12, rfl, tyX12_ok, nmX12, rfl, rfl, rfl⟩
theorem fq_X12_25 : FPF RX12 12 62 25 (tyX12 25) := ⟨RX12, TX12, tyX12, rfl, tyX12_ok, nmX12, rfl, rfl, rfl⟩
theorem fq_X12_26 : FPF RX12 12 62 26 (tyX12 26) := ⟨RX12, TX12, tyX12, rfl, tyX12_ok, nmX12, rfl, rfl, rfl⟩
theorem fq_X12_27 : FPF RX12 12 62 27 (tyX12 27) := ⟨RX12, TX12, tyX12, rfl, tyX12_ok, nmX12, rfl, rfl, rfl⟩
theorem fq_X12_28 : FPF RX12 12 62 28 (tyX12 28) := ⟨RX12, TX12, tyX12, rfl, tyX12_ok, nmX12, rfl, rfl, rfl⟩
theorem fq_X12_29 : FPF RX12 12 62 29 (tyX12 29) := ⟨RX12, TX12, tyX12, rfl, tyX12_ok, nmX12, rfl, rfl, rfl⟩
theorem fq_X12_30 : FPF RX12 12 62 30 (tyX12 30) := ⟨RX12, TX12, tyX12, rfl, tyX12_ok, nmX12, rfl, rfl, rfl⟩
theorem fq_X12_31 : FPF RX12 12 62 31 (tyX12 31) := ⟨RX12, TX12, tyX12, rfl, tyX12_ok, nmX12, rfl, rfl, rfl⟩
theorem fq_X12_32 : FPF RX12 12 62 32 (tyX12 32) := ⟨RX12, TX12, tyX12, rfl, tyX12_ok, nmX12, rfl, rfl, rfl⟩
theorem fq_X12_34 : FPF RX12 12 62 34 (tyX12 34) := ⟨RX12, TX12, tyX12, rfl, tyX12_ok, nmX12, rfl, rfl, rfl⟩
theorem fq_X12_35 : FPF RX12 12 62 35 (tyX12 35) := ⟨RX12, TX12, tyX12, rfl, tyX12_ok, nmX12, rfl, rfl, rfl⟩
theorem fq_X12_36 : FPF RX12 12 62 36 (tyX12 36) := ⟨RX12, TX12, tyX12, rfl, tyX12_ok, nmX12, rfl, rfl, rfl⟩
theorem fq_X12_37 : FPF RX12 12 62 37 (tyX12 37) := ⟨RX12, TX12, tyX12, rfl, tyX12_ok, nmX12, rfl, rfl, rfl⟩
theorem fq_X12_40 : FPF RX12 12 62 40 (tyX12 40) := ⟨RX12, TX12, tyX12, rfl, tyX12_ok, nmX12, rfl, rfl, rfl⟩
theorem fq_X12_41 : FPF RX12 12 62 41 (tyX12 41) := ⟨RX12, TX12, tyX12, rfl, tyX12_ok, nmX12, rfl, rfl, rfl⟩
theorem fq_X12_42 : FPF RX12 12 62 42 (tyX12 42) := ⟨RX12, TX12, tyX12, rfl, tyX12_ok, nmX12, rfl, rfl, rfl⟩
theorem fq_X12_44 : FPF RX12 12 62 44 (tyX12 44) := ⟨RX12, TX12, tyX12, rfl, tyX12_ok, nmX12, rfl, rfl, rfl⟩
theorem fq_X12_46 : FPF RX12 12 62 46 (tyX12 46) := ⟨RX12, TX12, tyX12, rfl, tyX12_ok, nmX12, rfl, rfl, rfl⟩
theorem fq_X12_48 : FPF RX12 12 62 48 (tyX12 48) := ⟨RX12, TX12, tyX12, rfl, tyX12_ok, nmX12, rfl, rfl, rfl⟩
theorem fq_X12_53 : FPF RX12 12 62 53 (tyX12 53) := ⟨RX12, TX12, tyX12, rfl, tyX12_ok, nmX12, rfl, rfl, rfl⟩
theorem fq_X12_54 : FPF RX12 12 62 54 (tyX12 54) := ⟨RX12, TX12, tyX12, rfl, tyX12_ok, nmX12, rfl, rfl, rfl⟩
theorem fq_X12_55 : FPF RX12 12 62 55 (tyX12 55) := ⟨RX12, TX12, tyX12, rfl, tyX12_ok, nmX12, rfl, rfl, rfl⟩
theorem fq_X12_56 : FPF RX12 12 62 56 (tyX12 56) := ⟨RX12, TX12, tyX12, rfl, tyX12_ok, nmX12, rfl, rfl, rfl⟩
theorem fq_X12_57 : FPF RX12 12 62 57 (tyX12 57) := ⟨RX12, TX12, tyX12, rfl, tyX12_ok, nmX12, rfl, rfl, rfl⟩
theorem fq_X12_58 : FPF RX12 12 62 58 (tyX12 58) := ⟨RX12, TX12, tyX12, rfl, tyX12_ok, nmX12, rfl, rfl, rfl⟩
theorem fq_X12_59 : FPF RX12 12 62 59 (tyX12 59) := ⟨RX12, TX12, tyX12, rfl, tyX12_ok, nmX12, rfl, rfl, rfl⟩
theorem fq_X12_61 : FPF RX12 12 62 61 (tyX12 61) := ⟨RX12, TX12, tyX12, rfl, tyX12_ok, nmX12, rfl, rfl, rfl⟩
theorem dX9_init_0 : decode cX9_init 0 = .ok (.aload_n 0, 1) := by decide +kernel
theorem dX9_init_1 : decode cX9_init 1 = .ok (.invokespecial 1, 3) := by decide +kernel
theorem dX9_init_4 : decode cX9_init 4 = .ok (.aload_n 0, 1) := by decide +kernel
theorem dX9_init_5 : decode cX9_init 5 = .ok (.sipush 240, 3) := by decide +kernel
theorem dX9_init_8 : decode cX9_init 8 = .ok (.newarray .byte, 2) := by decide +kernel
theorem dX9_init_10 : decode cX9_init 10 = .ok (.putfield 9, 3) := by decide +kernel
theorem dX9_init_13 : decode cX9_init 13 = .ok (.return_, 1) := by decide +kernel
theorem dX7_init_0 : decode cX7_init 0 = .ok (.aload_n 0, 1) := by decide +kernel
theorem dX7_init_1 : decode cX7_init 1 = .ok (.invokespecial 3, 3) := by decide +kernel
theorem dX7_init_4 : decode cX7_init 4 = .ok (.aload_n 0, 1) := by decide +kernel
theorem dX7_init_5 : decode cX7_init 5 = .ok (.bipush 16, 2) := by decide +kernel
theorem dX7_init_7 : decode cX7_init 7 = .ok (.newarray .int, 2) := by decide +kernel
theorem dX7_init_9 : decode cX7_init 9 = .ok (.putfield 11, 3) := by decide +kernel
theorem dX7_init_12 : decode cX7_init 12 = .ok (.aload_n 0, 1) := by decide +kernel
theorem dX7_init_13 : decode cX7_init 13 = .ok (.bipush 16, 2) := by decide +kernel
theorem dX7_init_15 : decode cX7_init 15 = .ok (.newarray .int, 2) := by decide +kernel
theorem dX7_init_17 : decode cX7_init 17 = .ok (.putfield 15, 3) := by decide +kernel
theorem dX7_init_20 : decode cX7_init 20 = .ok (.aload_n 0, 1) := by decide +kernel
theorem dX7_init_21 : decode cX7_init 21 = .ok (.bipush 16, 2) := by decide +kernel
theorem dX7_init_23 : decode cX7_init 23 = .ok (.newarray .int, 2) := by decide +kernel
theorem dX7_init_25 : decode cX7_init 25 = .ok (.putfield 18, 3) := by decide +kernel
theorem dX7_init_28 : decode cX7_init 28 = .ok (.aload_n 0, 1) := by decide +kernel
theorem dX7_init_29 : decode cX7_init 29 = .ok (.bipush 16, 2) := by decide +kernel
theorem dX7_init_31 : decode cX7_init 31 = .ok (.newarray .int, 2) := by decide +kernel
theorem dX7_init_33 : decode cX7_init 33 = .ok (.putfield 21, 3) := by decide +kernel
theorem dX7_init_36 : decode cX7_init 36 = .ok (.return_, 1) := by decide +kernel
theorem dX6_init_0 : decode cX6_init 0 = .ok (.aload_n 0, 1) := by decide +kernel
theorem dX6_init_1 : decode cX6_init 1 = .ok (.invokespecial 3, 3) := by decide +kernel
theorem dX6_init_4 : decode cX6_init 4 = .ok (.aload_n 0, 1) := by decide +kernel
theorem dX6_init_5 : decode cX6_init 5 = .ok (.new 9, 3) := by decide +kernel
theorem dX6_init_8 : decode cX6_init 8 = .ok (.dup, 1) := by decide +kernel
theorem dX6_init_9 : decode cX6_init 9 = .ok (.invokespecial 11, 3) := by decide +kernel
theorem dX6_init_12 : decode cX6_init 12 = .ok (.putfield 12, 3) := by decide +kernel
theorem dX6_init_15 : decode cX6_init 15 = .ok (.aload_n 0, 1) := by decide +kernel
theorem dX6_init_16 : decode cX6_init 16 = .ok (.aload_n 1, 1) := by decide +kernel
theorem dX6_init_17 : decode cX6_init 17 = .ok (.putfield 18, 3) := by decide +kernel
theorem dX6_init_20 : decode cX6_init 20 = .ok (.return_, 1) := by decide +kernel
theorem dX5_init_0 : decode cX5_init 0 = .ok (.aload_n 0, 1) := by decide +kernel
theorem dX5_init_1 : decode cX5_init 1 = .ok (.invokespecial 3, 3) := by decide +kernel
theorem dX5_init_4 : decode cX5_init 4 = .ok (.aload_n 0, 1) := by decide +kernel
theorem dX5_init_5 : decode cX5_init 5 = .ok (.bipush 20, 2) := by decide +kernel
theorem dX5_init_7 : decode cX5_init 7 = .ok (.newarray .int, 2) := by decide +kernel
theorem dX5_init_9 : decode cX5_init 9 = .ok (.putfield 9, 3) := by decide +kernel
theorem dX5_init_12 : decode cX5_init 12 = .ok (.aload_n 0, 1) := by decide +kernel
theorem dX5_init_13 : decode cX5_init 13 = .ok (.aload_n 1, 1) := by decide +kernel
theorem dX5_init_14 : decode cX5_init 14 = .ok (.putfield 15, 3) := by decide +kernel
theorem dX5_init_17 : decode cX5_init 17 = .ok (.aload_n 0, 1) := by decide +kernel
theorem dX5_init_18 : decode cX5_init 18 = .ok (.invokevirtual 19, 3) := by decide +kernel
theorem dX5_init_21 : decode cX5_init 21 = .ok (.return_, 1) := by decide +kernel
theorem dX10_init_0 : decode cX10_init 0 = .ok (.aload_n 0, 1) := by decide +kernel
theorem dX10_init_1 : decode cX10_init 1 = .ok (.invokespecial 3, 3) := by decide +kernel
theorem dX10_init_4 : decode cX10_init 4 = .ok (.aload_n 0, 1) := by decide +kernel
theorem dX10_init_5 : decode cX10_init 5 = .ok (.iconst 4, 1) := by decide +kernel
theorem dX10_init_6 : decode cX10_init 6 = .ok (.newarray .int, 2) := by decide +kernel
theorem dX10_init_8 : decode cX10_init 8 = .ok (.putfield 9, 3) := by decide +kernel
theorem dX10_init_11 : decode cX10_init 11 = .ok (.aload_n 0, 1) := by decide +kernel
theorem dX10_init_12 : decode cX10_init 12 = .ok (.bipush 24, 2) := by decide +kernel
theorem dX10_init_14 : decode cX10_init 14 = .ok (.newarray .int, 2) := by decide +kernel
theorem dX10_init_16 : decode cX10_init 16 = .ok (.putfield 15, 3) := by decide +kernel
theorem dX10_init_19 : decode cX10_init 19 = .ok (.aload_n 0, 1) := by decide +kernel
theorem dX10_init_20 : decode cX10_init 20 = .ok (.bipush 24, 2) := by decide +kernel
theorem dX10_init_22 : decode cX10_init 22 = .ok (.newarray .int, 2) := by decide +kernel
theorem dX10_init_24 : decode cX10_init 24 = .ok (.putfield 18, 3) := by decide +kernel
theorem dX10_init_27 : decode cX10_init 27 = .ok (.return_, 1) := by decide +kernel
theorem dX3_init_0 : decode cX3_init 0 = .ok (.aload_n 0, 1) := by decide +kernel
theorem dX3_init_1 : decode cX3_init 1 = .ok (.invokespecial 3, 3) := by decide +kernel
theorem dX3_init_4 : decode cX3_init 4 = .ok (.aload_n 0, 1) := by decide +kernel
theorem dX3_init_5 : decode cX3_init 5 = .ok (.bipush 27, 2) := by decide +kernel
theorem dX3_init_7 : decode cX3_init 7 = .ok (.newarray .int, 2) := by decide +kernel
theorem dX3_init_9 : decode cX3_init 9 = .ok (.putfield 9, 3) := by decide +kernel
theorem dX3_init_12 : decode cX3_init 12 = .ok (.aload_n 0, 1) := by decide +kernel
theorem dX3_init_13 : decode cX3_init 13 = .ok (.bipush 27, 2) := by decide +kernel
theorem dX3_init_15 : decode cX3_init 15 = .ok (.newarray .int, 2) := by decide +kernel
theorem dX3_init_17 : decode cX3_init 17 = .ok (.putfield 15, 3) := by decide +kernel
theorem dX3_init_20 : decode cX3_init 20 = .ok (.aload_n 0, 1) := by decide +kernel
theorem dX3_init_21 : decode cX3_init 21 = .ok (.bipush 9, 2) := by decide +kernel
theorem dX3_init_23 : decode cX3_init 23 = .ok (.newarray .int, 2) := by decide +kernel
theorem dX3_init_25 : decode cX3_init 25 = .ok (.putfield 18, 3) := by decide +kernel
theorem dX3_init_28 : decode cX3_init 28 = .ok (.return_, 1) := by decide +kernel
theorem dX4_init_0 : decode cX4_init 0 = .ok (.aload_n 0, 1) := by decide +kernel
theorem dX4_init_1 : decode cX4_init 1 = .ok (.invokespecial 3, 3) := by decide +kernel
theorem dX4_init_4 : decode cX4_init 4 = .ok (.aload_n 0, 1) := by decide +kernel
theorem dX4_init_5 : decode cX4_init 5 = .ok (.bipush 24, 2) := by decide +kernel
theorem dX4_init_7 : decode cX4_init 7 = .ok (.newarray .int, 2) := by decide +kernel
theorem dX4_init_9 : decode cX4_init 9 = .ok (.putfield 9, 3) := by decide +kernel
theorem dX4_init_12 : decode cX4_init 12 = .ok (.aload_n 0, 1) := by decide +kernel
theorem dX4_init_13 : decode cX4_init 13 = .ok (.aload_n 1, 1) := by decide +kernel
theorem dX4_init_14 : decode cX4_init 14 = .ok (.putfield 15, 3) := by decide +kernel
theorem dX4_init_17 : decode cX4_init 17 = .ok (.return_, 1) := by decide +kernel
theorem dX2_init_0 : decode cX2_init 0 = .ok (.aload_n 0, 1) := by decide +kernel
theorem dX2_init_1 : decode cX2_init 1 = .ok (.invokespecial 3, 3) := by decide +kernel
theorem dX2_init_4 : decode cX2_init 4 = .ok (.aload_n 0, 1) := by decide +kernel
theorem dX2_init_5 : decode cX2_init 5 = .ok (.bipush 100, 2) := by decide +kernel
theorem dX2_init_7 : decode cX2_init 7 = .ok (.newarray .int, 2) := by decide +kernel
theorem dX2_init_9 : decode cX2_init 9 = .ok (.putfield 11, 3) := by decide +kernel
theorem dX2_init_12 : decode cX2_init 12 = .ok (.aload_n 0, 1) := by decide +kernel
theorem dX2_init_13 : decode cX2_init 13 = .ok (.bipush 100, 2) := by decide +kernel
theorem dX2_init_15 : decode cX2_init 15 = .ok (.newarray .int, 2) := by decide +kernel
theorem dX2_init_17 : decode cX2_init 17 = .ok (.putfield 15, 3) := by decide +kernel
theorem dX2_init_20 : decode cX2_init 20 = .ok (.aload_n 0, 1) := by decide +kernel
theorem dX2_init_21 : decode cX2_init 21 = .ok (.aload_n 1, 1) := by decide +kernel
theorem dX2_init_22 : decode cX2_init 22 = .ok (.putfield 18, 3) := by decide +kernel
theorem dX2_init_25 : decode cX2_init 25 = .ok (.return_, 1) := by decide +kernel
theorem dX8_init_0 : decode cX8_init 0 = .ok (.aload_n 0, 1) := by decide +kernel
theorem dX8_init_1 : decode cX8_init 1 = .ok (.invokespecial 3, 3) := by decide +kernel
theorem dX8_init_4 : decode cX8_init 4 = .ok (.aload_n 0, 1) := by decide +kernel
theorem dX8_init_5 : decode cX8_init 5 = .ok (.bipush 96, 2) := by decide +kernel
theorem dX8_init_7 : decode cX8_init 7 = .ok (.newarray .int, 2) := by decide +kernel
theorem dX8_init_9 : decode cX8_init 9 = .ok (.putfield 11, 3) := by decide +kernel
theorem dX8_init_12 : decode cX8_init 12 = .ok (.return_, 1) := by decide +kernel
theorem dX1_init_0 : decode cX1_init 0 = .ok (.aload_n 0, 1) := by decide +kernel
theorem dX1_init_1 : decode cX1_init 1 = .ok (.invokespecial 3, 3) := by decide +kernel
theorem dX1_init_4 : decode cX1_init 4 = .ok (.aload_n 0, 1) := by decide +kernel
theorem dX1_init_5 : decode cX1_init 5 = .ok (.iconst 4, 1) := by decide +kernel
theorem dX1_init_6 : decode cX1_init 6 = .ok (.newarray .int, 2) := by decide +kernel
theorem dX1_init_8 : decode cX1_init 8 = .ok (.putfield 9, 3) := by decide +kernel
theorem dX1_init_11 : decode cX1_init 11 = .ok (.aload_n 0, 1) := by decide +kernel
theorem dX1_init_12 : decode cX1_init 12 = .ok (.iconst 4, 1) := by decide +kernel
theorem dX1_init_13 : decode cX1_init 13 = .ok (.newarray .int, 2) := by decide +kernel
theorem dX1_init_15 : decode cX1_init 15 = .ok (.putfield 15, 3) := by decide +kernel
theorem dX1_init_18 : decode cX1_init 18 = .ok (.return_, 1) := by decide +kernel
set_option maxRecDepth 100000 in
set_option maxHeartbeats 4000000 in
theorem k_X9 (X : XE) {pr : Nat → Nat → Bool} {σ : Mem} : BT X yX9_init cX9_init 1 ({ frames := 1, cells := 3 - (1 + 1), slots := SL (3) - SL (1 + 1), locals := 12 } : Room) [.ref (xad X 1)] 1 3 pr σ (fun σ' => σ' = σ) := by
  refine bt_of (own := RX9) (L := [(0, .ref (xad X 1))]) 1000 (by decide) rfl rfl rfl (Nat.le_of_ble_eq_true rfl) rfl ?_
  refine b_aload_n 0 (pc := 0) dX9_init_0 rfl rfl ?_
  refine b_objInit (pc := 1) dX9_init_1 ml_X9_1 ⟨rfl, rfl⟩ ?_
  refine b_aload_n 0 (pc := 4) dX9_init_4 rfl rfl ?_
  refine b_sipush (pc := 5) dX9_init_5 rfl ?_
  refine b_newa (ty := .byte) (ci := 22) (t0 := 2) (pc := 8) dX9_init_8 rfl ac_byte rfl (fun _ _ h => h) rfl (by decide) sh_2 (by decide) rfl rfl ⟨rfl, rfl⟩ rfl (by decide) (by decide) ?_
  refine b_putR (ty := tyX9 0) (pc := 10) dX9_init_10 fl_X9_9 fq_X9_0 sh_1 rfl rfl (by decide) (by decide) (by decide) rfl rfl ?_
  exact b_vret (pc := 13) dX9_init_13 rfl rfl (by decide) (wh_of sh_1 rfl) (fun h => absurd h (by decide)) rfl
set_option maxRecDepth 100000 in
set_option maxHeartbeats 4000000 in
theorem k_X7a (X : XE) {pr : Nat → Nat → Bool} {σ : Mem} : BT X yX7_init cX7_init 1 ({ frames := 1, cells := 8 - (3 + 1), slots := SL (8) - SL (3 + 1), locals := 12 } : Room) [.ref (xad X 3)] 3 8 pr σ (fun σ' => σ' = σ) := by
  refine bt_of (own := RX7) (L := [(0, .ref (xad X 3))]) 1000 (by decide) rfl rfl rfl (Nat.le_of_ble_eq_true rfl) rfl ?_
  refine b_aload_n 0 (pc := 0) dX7_init_0 rfl rfl ?_
  refine b_objInit (pc := 1) dX7_init_1 ml_X7_3 ⟨rfl, rfl⟩ ?_
  refine b_aload_n 0 (pc := 4) dX7_init_4 rfl rfl ?_
  refine b_bipush (pc := 5) dX7_init_5 rfl ?_
  refine b_newa (ty := .int) (ci := 20) (t0 := 0) (pc := 7) dX7_init_7 rfl ac_int rfl (fun _ _ h => h) rfl (by decide) sh_4 (by decide) rfl rfl ⟨rfl, rfl⟩ rfl (by decide) (by decide) ?_
  refine b_putR (ty := tyX7 0) (pc := 9) dX7_init_9 fl_X7_11 fq_X7_0 sh_3 rfl rfl (by decide) (by decide) (by decide) rfl rfl ?_
  refine b_aload_n 0 (pc := 12) dX7_init_12 rfl rfl ?_
  refine b_bipush (pc := 13) dX7_init_13 rfl ?_
  refine b_newa (ty := .int) (ci := 20) (t0 := 0) (pc := 15) dX7_init_15 rfl ac_int rfl (fun _ _ h => h) rfl (by decide) sh_5 (by decide) rfl rfl ⟨rfl, rfl⟩ rfl (by decide) (by decide) ?_
  refine b_putR (ty := tyX7 1) (pc := 17) dX7_init_17 fl_X7_15 fq_X7_1 sh_3 rfl rfl (by decide) (by decide) (by decide) rfl rfl ?_
  refine b_aload_n 0 (pc := 20) dX7_init_20 rfl rfl ?_
  refine b_bipush (pc := 21) dX7_init_21 rfl ?_
  refine b_newa (ty := .int) (ci := 20) (t0 := 0) (pc := 23) dX7_init_23 rfl ac_int rfl (fun _ _ h => h) rfl (by decide) sh_6 (by decide) rfl rfl ⟨rfl, rfl⟩ rfl (by decide) (by decide) ?_
  refine b_putR (ty := tyX7 2) (pc := 25) dX7_init_25 fl_X7_18 fq_X7_2 sh_3 rfl rfl (by decide) (by decide) (by decide) rfl rfl ?_
  refine b_aload_n 0 (pc := 28) dX7_init_28 rfl rfl ?_
  refine b_bipush (pc := 29) dX7_init_29 rfl ?_
  refine b_newa (ty := .int) (ci := 20) (t0 := 0) (pc := 31) dX7_init_31 rfl ac_int rfl (fun _ _ h => h) rfl (by decide) sh_7 (by decide) rfl rfl ⟨rfl, rfl⟩ rfl (by decide) (by decide) ?_
  refine b_putR (ty := tyX7 3) (pc := 33) dX7_init_33 fl_X7_21 fq_X7_3 sh_3 rfl rfl (by decide) (by decide) (by decide) rfl rfl ?_
  exact b_vret (pc := 36) dX7_init_36 rfl rfl (by decide) (wh_of sh_3 rfl) (fun h => absurd h (by decide)) rfl
set_option maxRecDepth 100000 in
set_option maxHeartbeats 4000000 in
theorem k_X7b (X : XE) {pr : Nat → Nat → Bool} {σ : Mem} : BT X yX7_init cX7_init 1 ({ frames := 1, cells := 14 - (9 + 1), slots := SL (14) - SL (9 + 1), locals := 12 } : Room) [.ref (xad X 9)] 9 14 pr σ (fun σ' => σ' = σ) := by
  refine bt_of (own := RX7) (L := [(0, .ref (xad X 9))]) 1000 (by decide) rfl rfl rfl (Nat.le_of_ble_eq_true rfl) rfl ?_
  refine b_aload_n 0 (pc := 0) dX7_init_0 rfl rfl ?_
  refine b_objInit (pc := 1) dX7_init_1 ml_X7_3 ⟨rfl, rfl⟩ ?_
  refine b_aload_n 0 (pc := 4) dX7_init_4 rfl rfl ?_
  refine b_bipush (pc := 5) dX7_init_5 rfl ?_
  refine b_newa (ty := .int) (ci := 20) (t0 := 0) (pc := 7) dX7_init_7 rfl ac_int rfl (fun _ _ h => h) rfl (by decide) sh_10 (by decide) rfl rfl ⟨rfl, rfl⟩ rfl (by decide) (by decide) ?_
  refine b_putR (ty := tyX7 0) (pc := 9) dX7_init_9 fl_X7_11 fq_X7_0 sh_9 rfl rfl (by decide) (by decide) (by decide) rfl rfl ?_
  refine b_aload_n 0 (pc := 12) dX7_init_12 rfl rfl ?_
  refine b_bipush (pc := 13) dX7_init_13 rfl ?_
  refine b_newa (ty := .int) (ci := 20) (t0 := 0) (pc := 15) dX7_init_15 rfl ac_int rfl (fun _ _ h => h) rfl (by decide) sh_11 (by decide) rfl rfl ⟨rfl, rfl⟩ rfl (by decide) (by decide) ?_
  refine b_putR (ty := tyX7 1) (pc := 17) dX7_init_17 fl_X7_15 fq_X7_1 sh_9 rfl rfl (by decide) (by decide) (by decide) rfl rfl ?_
  refine b_aload_n 0 (pc := 20) dX7_init_20 rfl rfl ?_
  refine b_bipush (pc := 21) dX7_init_21 rfl ?_
  refine b_newa (ty := .int) (ci := 20) (t0 := 0) (pc := 23) dX7_init_23 rfl ac_int rfl (fun _ _ h => h) rfl (by decide) sh_12 (by decide) rfl rfl ⟨rfl, rfl⟩ rfl (by decide) (by decide) ?_
  refine b_putR (ty := tyX7 2) (pc := 25) dX7_init_25 fl_X7_18 fq_X7_2 sh_9 rfl rfl (by decide) (by decide) (by decide) rfl rfl ?_
  refine b_aload_n 0 (pc := 28) dX7_init_28 rfl rfl ?_
  refine b_bipush (pc := 29) dX7_init_29 rfl ?_
  refine b_newa (ty := .int) (ci := 20) (t0 := 0) (pc := 31) dX7_init_31 rfl ac_int rfl (fun _ _ h => h) rfl (by decide) sh_13 (by decide) rfl rfl ⟨rfl, rfl⟩ rfl (by decide) (by decide) ?_
  refine b_putR (ty := tyX7 3) (pc := 33) dX7_init_33 fl_X7_21 fq_X7_3 sh_9 rfl rfl (by decide) (by decide) (by decide) rfl rfl ?_
  exact b_vret (pc := 36) dX7_init_36 rfl rfl (by decide) (wh_of sh_9 rfl) (fun h => absurd h (by decide)) rfl
set_option maxRecDepth 100000 in
set_option maxHeartbeats 4000000 in
theorem k_X6 (X : XE) {pr : Nat → Nat → Bool} {σ : Mem} : BT X yX6_init cX6_init 2 ({ frames := 2, cells := 14 - (8 + 1), slots := SL (14) - SL (8 + 1), locals := 32 } : Room) [.ref (xad X 8), .ref (xad X 1)] 8 14 pr σ (fun σ' => σ' = σ) := by
  refine bt_of (own := RX6) (L := [(0, .ref (xad X 8)), (1, .ref (xad X 1))]) 1000 (by decide) rfl rfl rfl (Nat.le_of_ble_eq_true rfl) rfl ?_
  refine b_aload_n 0 (pc := 0) dX6_init_0 rfl rfl ?_
  refine b_objInit (pc := 1) dX6_init_1 ml_X6_3 ⟨rfl, rfl⟩ ?_
  refine b_aload_n 0 (pc := 4) dX6_init_4 rfl rfl ?_
  refine b_new (ci := 7) (pc := 5) dX6_init_5 kl_X6_9 rfl bw_X7 bi_X7 in_X7 tyX7_ok rfl sh_9 rfl ⟨rfl, rfl⟩ (Nat.le_refl _) (by decide) (by decide) ?_
  refine b_dup (pc := 8) dX6_init_8 rfl ?_
  refine b_callN (jc := 9) (nE' := 14) (As := []) (rest := [.ref (xad X 9), .ref (xad X 8)]) (pc := 9) dX6_init_9 rfl im_X7_init co_X7_init in_X7 (fun _ h => h.2.1.2.2.1) ⟨by decide, by decide, rfl⟩ rfl ⟨rfl, rfl, rfl, rfl⟩ ⟨rfl, rfl⟩ rfl rfl rfl rfl (by decide) (Or.inr (by decide)) (by decide) (by decide) (fun pr _ => k_X7b X) (fun τ hτ => ?_)
  subst hτ
  refine b_putR (ty := tyX6 1) (pc := 12) dX6_init_12 fl_X6_12 fq_X6_1 sh_8 rfl rfl (by decide) (by decide) (by decide) rfl rfl ?_
  refine b_aload_n 0 (pc := 15) dX6_init_15 rfl rfl ?_
  refine b_aload_n 1 (pc := 16) dX6_init_16 rfl rfl ?_
  refine b_putR (ty := tyX6 0) (pc := 17) dX6_init_17 fl_X6_18 fq_X6_0 sh_8 rfl rfl (by decide) (by decide) (by decide) rfl rfl ?_
  exact b_vret (pc := 20) dX6_init_20 rfl rfl (by decide) (wh_of sh_8 rfl) (fun h => absurd h (by decide)) rfl
set_option maxRecDepth 100000 in
set_option maxHeartbeats 4000000 in
theorem k_X5 (X : XE) {pr : Nat → Nat → Bool} {σ : Mem} (h0 : 0 ≤ σ 3 4) (h1 : σ 3 4 ≤ 16) (hpr : ∀ i, 1 ≤ i → i < 14 → wh pr i) : BT X yX5_init cX5_init 2 ({ frames := 3, cells := 16 - (14 + 1), slots := SL (16) - SL (14 + 1), locals := 70 } : Room) [.ref (xad X 14), .ref (xad X 3)] 14 16 pr σ (fun τ => (∀ j k, j ≠ 15 → τ j k = σ j k) ∧ ∀ r : Nat, r < 20 → τ 15 r = ruleF σ r (σ 14 2)) := by
  refine bt_of (own := RX5) (L := [(0, .ref (xad X 14)), (1, .ref (xad X 3))]) 1000 (by decide) rfl rfl rfl (Nat.le_of_ble_eq_true rfl) rfl ?_
  refine b_aload_n 0 (pc := 0) dX5_init_0 rfl rfl ?_
  refine b_objInit (pc := 1) dX5_init_1 ml_X5_3 ⟨rfl, rfl⟩ ?_
  refine b_aload_n 0 (pc := 4) dX5_init_4 rfl rfl ?_
  refine b_bipush (pc := 5) dX5_init_5 rfl ?_
  refine b_newa (ty := .int) (ci := 20) (t0 := 0) (pc := 7) dX5_init_7 rfl ac_int rfl (fun _ _ h => h) rfl (by decide) sh_15 (by decide) rfl rfl ⟨rfl, rfl⟩ rfl (by decide) (by decide) ?_
  refine b_putR (ty := tyX5 1) (pc := 9) dX5_init_9 fl_X5_9 fq_X5_1 sh_14 rfl rfl (by decide) (by decide) (by decide) rfl rfl ?_
  refine b_aload_n 0 (pc := 12) dX5_init_12 rfl rfl ?_
  refine b_aload_n 1 (pc := 13) dX5_init_13 rfl rfl ?_
  refine b_putR (ty := tyX5 0) (pc := 14) dX5_init_14 fl_X5_15 fq_X5_0 sh_14 rfl rfl (by decide) (by decide) (by decide) rfl rfl ?_
  refine b_aload_n 0 (pc := 17) dX5_init_17 rfl rfl ?_
  refine b_callZ (pc := 18) dX5_init_18 me_X5_refresh ml_X5_19 rfl sh_14 ⟨by decide, by decide, rfl⟩ ⟨rfl, rfl, rfl, rfl⟩ ⟨rfl, rfl⟩ (by decide) hpr (by decide) (zc_X5_refresh X (Q := fun r τ => r = 0 ∧ (∀ j k, j ≠ 15 → τ j k = σ j k) ∧ ∀ r : Nat, r < 20 → τ 15 r = ruleF σ r (σ 14 2)) (s_refresh h0 h1 (fun τ q1 q2 => ⟨rfl, q1, q2⟩))) (fun τ q => q.2.1) (fun τ q => ?_)
  exact b_vret (pc := 21) dX5_init_21 rfl rfl (by decide) (wh_of sh_14 rfl) (fun h => absurd h (by decide)) q.2
set_option maxRecDepth 100000 in
set_option maxHeartbeats 4000000 in
theorem k_X10 (X : XE) {pr : Nat → Nat → Bool} {σ : Mem} : BT X yX10_init cX10_init 1 ({ frames := 1, cells := 99 - (95 + 1), slots := SL (99) - SL (95 + 1), locals := 12 } : Room) [.ref (xad X 95)] 95 99 pr σ (fun σ' => σ' = σ) := by
  refine bt_of (own := RX10) (L := [(0, .ref (xad X 95))]) 1000 (by decide) rfl rfl rfl (Nat.le_of_ble_eq_true rfl) rfl ?_
  refine b_aload_n 0 (pc := 0) dX10_init_0 rfl rfl ?_
  refine b_objInit (pc := 1) dX10_init_1 ml_X10_3 ⟨rfl, rfl⟩ ?_
  refine b_aload_n 0 (pc := 4) dX10_init_4 rfl rfl ?_
  refine b_iconst (pc := 5) dX10_init_5 ?_
  refine b_newa (ty := .int) (ci := 20) (t0 := 0) (pc := 6) dX10_init_6 rfl ac_int rfl (fun _ _ h => h) rfl (by decide) sh_96 (by decide) rfl rfl ⟨rfl, rfl⟩ rfl (by decide) (by decide) ?_
  refine b_putR (ty := tyX10 2) (pc := 8) dX10_init_8 fl_X10_9 fq_X10_2 sh_95 rfl rfl (by decide) (by decide) (by decide) rfl rfl ?_
  refine b_aload_n 0 (pc := 11) dX10_init_11 rfl rfl ?_
  refine b_bipush (pc := 12) dX10_init_12 rfl ?_
  refine b_newa (ty := .int) (ci := 20) (t0 := 0) (pc := 14) dX10_init_14 rfl ac_int rfl (fun _ _ h => h) rfl (by decide) sh_97 (by decide) rfl rfl ⟨rfl, rfl⟩ rfl (by decide) (by decide) ?_
  refine b_putR (ty := tyX10 3) (pc := 16) dX10_init_16 fl_X10_15 fq_X10_3 sh_95 rfl rfl (by decide) (by decide) (by decide) rfl rfl ?_
  refine b_aload_n 0 (pc := 19) dX10_init_19 rfl rfl ?_
  refine b_bipush (pc := 20) dX10_init_20 rfl ?_
  refine b_newa (ty := .int) (ci := 20) (t0 := 0) (pc := 22) dX10_init_22 rfl ac_int rfl (fun _ _ h => h) rfl (by decide) sh_98 (by decide) rfl rfl ⟨rfl, rfl⟩ rfl (by decide) (by decide) ?_
  refine b_putR (ty := tyX10 4) (pc := 24) dX10_init_24 fl_X10_18 fq_X10_4 sh_95 rfl rfl (by decide) (by decide) (by decide) rfl rfl ?_
  exact b_vret (pc := 27) dX10_init_27 rfl rfl (by decide) (wh_of sh_95 rfl) (fun h => absurd h (by decide)) rfl
set_option maxRecDepth 100000 in
set_option maxHeartbeats 4000000 in
theorem k_X3 (X : XE) {pr : Nat → Nat → Bool} {σ : Mem} : BT X yX3_init cX3_init 1 ({ frames := 1, cells := 103 - (99 + 1), slots := SL (103) - SL (99 + 1), locals := 12 } : Room) [.ref (xad X 99)] 99 103 pr σ (fun σ' => σ' = σ) := by
  refine bt_of (own := RX3) (L := [(0, .ref (xad X 99))]) 1000 (by decide) rfl rfl rfl (Nat.le_of_ble_eq_true rfl) rfl ?_
  refine b_aload_n 0 (pc := 0) dX3_init_0 rfl rfl ?_
  refine b_objInit (pc := 1) dX3_init_1 ml_X3_3 ⟨rfl, rfl⟩ ?_
  refine b_aload_n 0 (pc := 4) dX3_init_4 rfl rfl ?_
  refine b_bipush (pc := 5) dX3_init_5 rfl ?_
  refine b_newa (ty := .int) (ci := 20) (t0 := 0) (pc := 7) dX3_init_7 rfl ac_int rfl (fun _ _ h => h) rfl (by decide) sh_100 (by decide) rfl rfl ⟨rfl, rfl⟩ rfl (by decide) (by decide) ?_
  refine b_putR (ty := tyX3 0) (pc := 9) dX3_init_9 fl_X3_9 fq_X3_0 sh_99 rfl rfl (by decide) (by decide) (by decide) rfl rfl ?_
  refine b_aload_n 0 (pc := 12) dX3_init_12 rfl rfl ?_
  refine b_bipush (pc := 13) dX3_init_13 rfl ?_
  refine b_newa (ty := .int) (ci := 20) (t0 := 0) (pc := 15) dX3_init_15 rfl ac_int rfl (fun _ _ h => h) rfl (by decide) sh_101 (by decide) rfl rfl ⟨rfl, rfl⟩ rfl (by decide) (by decide) ?_
  refine b_putR (ty := tyX3 2) (pc := 17) dX3_init_17 fl_X3_15 fq_X3_2 sh_99 rfl rfl (by decide) (by decide) (by decide) rfl rfl ?_
  refine b_aload_n 0 (pc := 20) dX3_init_20 rfl rfl ?_
  refine b_bipush (pc := 21) dX3_init_21 rfl ?_
  refine b_newa (ty := .int) (ci := 20) (t0 := 0) (pc := 23) dX3_init_23 rfl ac_int rfl (fun _ _ h => h) rfl (by decide) sh_102 (by decide) rfl rfl ⟨rfl, rfl⟩ rfl (by decide) (by decide) ?_
  refine b_putR (ty := tyX3 5) (pc := 25) dX3_init_25 fl_X3_18 fq_X3_5 sh_99 rfl rfl (by decide) (by decide) (by decide) rfl rfl ?_
  exact b_vret (pc := 28) dX3_init_28 rfl rfl (by decide) (wh_of sh_99 rfl) (fun h => absurd h (by decide)) rfl
set_option maxRecDepth 100000 in
set_option maxHeartbeats 4000000 in
theorem k_X4 (X : XE) {pr : Nat → Nat → Bool} {σ : Mem} : BT X yX4_init cX4_init 2 ({ frames := 1, cells := 105 - (103 + 1), slots := SL (105) - SL (103 + 1), locals := 12 } : Room) [.ref (xad X 103), .ref (xad X 16)] 103 105 pr σ (fun σ' => σ' = σ) := by
  refine bt_of (own := RX4) (L := [(0, .ref (xad X 103)), (1, .ref (xad X 16))]) 1000 (by decide) rfl rfl rfl (Nat.le_of_ble_eq_true rfl) rfl ?_
  refine b_aload_n 0 (pc := 0) dX4_init_0 rfl rfl ?_
  refine b_objInit (pc := 1) dX4_init_1 ml_X4_3 ⟨rfl, rfl⟩ ?_
  refine b_aload_n 0 (pc := 4) dX4_init_4 rfl rfl ?_
  refine b_bipush (pc := 5) dX4_init_5 rfl ?_
  refine b_newa (ty := .int) (ci := 20) (t0 := 0) (pc := 7) dX4_init_7 rfl ac_int rfl (fun _ _ h => h) rfl (by decide) sh_104 (by decide) rfl rfl ⟨rfl, rfl⟩ rfl (by decide) (by decide) ?_
  refine b_putR (ty := tyX4 1) (pc := 9) dX4_init_9 fl_X4_9 fq_X4_1 sh_103 rfl rfl (by decide) (by decide) (by decide) rfl rfl ?_
  refine b_aload_n 0 (pc := 12) dX4_init_12 rfl rfl ?_
  refine b_aload_n 1 (pc := 13) dX4_init_13 rfl rfl ?_
  refine b_putR (ty := tyX4 0) (pc := 14) dX4_init_14 fl_X4_15 fq_X4_0 sh_103 rfl rfl (by decide) (by decide) (by decide) rfl rfl ?_
  exact b_vret (pc := 17) dX4_init_17 rfl rfl (by decide) (wh_of sh_103 rfl) (fun h => absurd h (by decide)) rfl
set_option maxRecDepth 100000 in
set_option maxHeartbeats 4000000 in
theorem k_X2 (X : XE) {pr : Nat → Nat → Bool} {σ : Mem} : BT X yX2_init cX2_init 2 ({ frames := 1, cells := 108 - (105 + 1), slots := SL (108) - SL (105 + 1), locals := 12 } : Room) [.ref (xad X 105), .ref (xad X 16)] 105 108 pr σ (fun σ' => σ' = σ) := by
  refine bt_of (own := RX2) (L := [(0, .ref (xad X 105)), (1, .ref (xad X 16))]) 1000 (by decide) rfl rfl rfl (Nat.le_of_ble_eq_true rfl) rfl ?_
  refine b_aload_n 0 (pc := 0) dX2_init_0 rfl rfl ?_
  refine b_objInit (pc := 1) dX2_init_1 ml_X2_3 ⟨rfl, rfl⟩ ?_
  refine b_aload_n 0 (pc := 4) dX2_init_4 rfl rfl ?_
  refine b_bipush (pc := 5) dX2_init_5 rfl ?_
  refine b_newa (ty := .int) (ci := 20) (t0 := 0) (pc := 7) dX2_init_7 rfl ac_int rfl (fun _ _ h => h) rfl (by decide) sh_106 (by decide) rfl rfl ⟨rfl, rfl⟩ rfl (by decide) (by decide) ?_
  refine b_putR (ty := tyX2 5) (pc := 9) dX2_init_9 fl_X2_11 fq_X2_5 sh_105 rfl rfl (by decide) (by decide) (by decide) rfl rfl ?_
  refine b_aload_n 0 (pc := 12) dX2_init_12 rfl rfl ?_
  refine b_bipush (pc := 13) dX2_init_13 rfl ?_
  refine b_newa (ty := .int) (ci := 20) (t0 := 0) (pc := 15) dX2_init_15 rfl ac_int rfl (fun _ _ h => h) rfl (by decide) sh_107 (by decide) rfl rfl ⟨rfl, rfl⟩ rfl (by decide) (by decide) ?_
  refine b_putR (ty := tyX2 6) (pc := 17) dX2_init_17 fl_X2_15 fq_X2_6 sh_105 rfl rfl (by decide) (by decide) (by decide) rfl rfl ?_
  refine b_aload_n 0 (pc := 20) dX2_init_20 rfl rfl ?_
  refine b_aload_n 1 (pc := 21) dX2_init_21 rfl rfl ?_
  refine b_putR (ty := tyX2 0) (pc := 22) dX2_init_22 fl_X2_18 fq_X2_0 sh_105 rfl rfl (by decide) (by decide) (by decide) rfl rfl ?_
  exact b_vret (pc := 25) dX2_init_25 rfl rfl (by decide) (wh_of sh_105 rfl) (fun h => absurd h (by decide)) rfl
set_option maxRecDepth 100000 in
set_option maxHeartbeats 4000000 in
theorem k_X8 (X : XE) (jj : Nat) (h0 : xsh jj = (8, 4, [some (jj + 1), none, none, none])) (h1 : xsh (jj + 1) = (20, 96, [])) {pr : Nat → Nat → Bool} {σ : Mem} : BT X yX8_init cX8_init 1 ({ frames := 1, cells := jj + 2 - (jj + 1), slots := SL (jj + 2) - SL (jj + 1), locals := 12 } : Room) [.ref (xad X jj)] jj (jj + 2) pr σ (fun σ' => σ' = σ) := by
  refine bt_of (own := RX8) (L := [(0, .ref (xad X jj))]) (jj + 1000) (by omega) rfl rfl rfl (Nat.le_of_ble_eq_true rfl) rfl ?_
  refine b_aload_n 0 (pc := 0) dX8_init_0 rfl rfl ?_
  refine b_objInit (pc := 1) dX8_init_1 ml_X8_3 ⟨rfl, rfl⟩ ?_
  refine b_aload_n 0 (pc := 4) dX8_init_4 rfl rfl ?_
  refine b_bipush (pc := 5) dX8_init_5 rfl ?_
  refine b_newa (ty := .int) (ci := 20) (t0 := 0) (pc := 7) dX8_init_7 rfl ac_int rfl (fun _ _ h => h) rfl (by decide) h1 (by decide) rfl rfl ⟨rfl, rfl⟩ rfl (by omega) (by omega) ?_
  refine b_putR (ty := tyX8 0) (pc := 9) dX8_init_9 fl_X8_11 fq_X8_0 h0 rfl rfl (by omega) (by omega) (by omega) rfl rfl ?_
  exact b_vret (pc := 12) dX8_init_12 rfl rfl (by omega) (wh_of h0 rfl) (fun h => absurd h (by omega)) rfl
set_option maxRecDepth 100000 in
set_option maxHeartbeats 4000000 in
theorem k_X1 (X : XE) (jj : Nat) (h0 : xsh jj = (1, 8, [none, none, none, none, none, none, some (jj + 1), some (jj + 2)])) (h1 : xsh (jj + 1) = (20, 4, [])) (h2 : xsh (jj + 2) = (20, 4, [])) {pr : Nat → Nat → Bool} {σ : Mem} : BT X yX1_init cX1_init 1 ({ frames := 1, cells := jj + 3 - (jj + 1), slots := SL (jj + 3) - SL (jj + 1), locals := 12 } : Room) [.ref (xad X jj)] jj (jj + 3) pr σ (fun σ' => σ' = σ) := by
  refine bt_of (own := RX1) (L := [(0, .ref (xad X jj))]) (jj + 1000) (by omega) rfl rfl rfl (Nat.le_of_ble_eq_true rfl) rfl ?_
  refine b_aload_n 0 (pc := 0) dX1_init_0 rfl rfl ?_
  refine b_objInit (pc := 1) dX1_init_1 ml_X1_3 ⟨rfl, rfl⟩ ?_
  refine b_aload_n 0 (pc := 4) dX1_init_4 rfl rfl ?_
  refine b_iconst (pc := 5) dX1_init_5 ?_
  refine b_newa (ty := .int) (ci := 20) (t0 := 0) (pc := 6) dX1_init_6 rfl ac_int rfl (fun _ _ h => h) rfl (by decide) h1 (by decide) rfl rfl ⟨rfl, rfl⟩ rfl (by omega) (by omega) ?_
  refine b_putR (ty := tyX1 6) (pc := 8) dX1_init_8 fl_X1_9 fq_X1_6 h0 rfl rfl (by omega) (by omega) (by omega) rfl rfl ?_
  refine b_aload_n 0 (pc := 11) dX1_init_11 rfl rfl ?_
  refine b_iconst (pc := 12) dX1_init_12 ?_
  refine b_newa (ty := .int) (ci := 20) (t0 := 0) (pc := 13) dX1_init_13 rfl ac_int rfl (fun _ _ h => h) rfl (by decide) h2 (by decide) rfl rfl ⟨rfl, rfl⟩ rfl (by omega) (by omega) ?_
  refine b_putR (ty := tyX1 7) (pc := 15) dX1_init_15 fl_X1_15 fq_X1_7 h0 rfl rfl (by omega) (by omega) (by omega) rfl rfl ?_
  exact b_vret (pc := 18) dX1_init_18 rfl rfl (by omega) (wh_of h0 rfl) (fun h => absurd h (by omega)) rfl
