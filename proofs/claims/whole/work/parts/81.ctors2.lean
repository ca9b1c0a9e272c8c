/-! THE LARGE CONSTRUCTORS -/
section BOK3
variable {X : XE} {R : Room} {own : String} {cc : ByteArray} {nL : Nat} {pr0 : Nat → Nat → Bool} {j nE a : Nat} {post : Mem → Prop} {pc : Nat} {L : List (Nat × Value)} {S st0 : List Value} {n nd : Nat} {m ma : Nat → Bool} {σ : Mem}
theorem b_icmp_ge {x y : Int} {off : Int} {tgt : Nat} (hd : decode cc pc = .ok (.if_icmp .ge off, 3)) (ht : (pc : Int) + off = (tgt : Int)) (hx : inR x) (hy : inR y) (kt : ¬ x < y → bok X R own cc nL pr0 j nE a post tgt L S n nd m ma σ) (kf : x < y → bok X R own cc nL pr0 j nE a post (pc + 3) L S n nd m ma σ) : bok X R own cc nL pr0 j nE a post pc L (vI y :: vI x :: S) n nd m ma σ := by
  intro p l e s mi args below meth c H locs ls cs ss C hH hl w1 w2
  exact lv_icmp_ge C.1 C.2.1 hd ht (fun h => kt (Int.not_lt.mpr ((q_le hy hx).mp h)) p l e s mi args below meth c H locs ls cs ss C hH hl w1 w2) (fun h => kf (Int.not_le.mp (fun q => h ((q_le hy hx).mpr q))) p l e s mi args below meth c H locs ls cs ss C hH hl w1 w2)
theorem b_putI {k ci N idx : Nat} {v : Int} {ty : FieldType} {rs : List (Option Nat)} (hd : decode cc pc = .ok (.putfield idx, 3)) (hf : FL own idx ci N k) (hp : FP ci N k ty) (hs : xsh j = (ci, N, rs)) (hk : Nat.blt ci 20 = true) (hr : rs.getD k none = none) (hjn : j < n) (hv : inR v) (hn : narrow ty (vI v) = vI v) (hfit : fits ty (vI v) = true)
    (kk : bok X R own cc nL pr0 j nE a post (pc + 3) L S n nd m ma (mset σ j k v)) : bok X R own cc nL pr0 j nE a post pc L (vI v :: .ref (xad X j) :: S) n nd m ma σ := by
  intro p l e s mi args below meth c H locs ls cs ss C hH hl w1 w2
  obtain ⟨hx, hb, hre, hlo, hml, hown, hts, hK, hnm⟩ := id C
  obtain ⟨C0, T, hc, hkN, hin, hlink, hdecl⟩ := hf
  obtain ⟨C1, T1, t0, hc1, hty, hnmF, ht0, hfin⟩ := hp
  have e1 := hc1.symm.trans hc
  cases e1
  have hap := va_apart (own := own) hts hin t0 hty hnmF hK.1.1 hc
  obtain ⟨pr, g1, g2, g3, g4, g5, g6, g7, g8, g9, g10, g11⟩ := hH
  have hcell := g1 j hjn
  unfold bat at hcell
  rw [hs, if_pos (blt_lt hk)] at hcell
  obtain ⟨cell, q1, q2, q3, q4⟩ := hcell
  obtain ⟨hSl, hfc, kC, hkC, hkind⟩ := hK.1.1.1 ci _ hc
  obtain ⟨cf, kf, fi, f, hi, hsl⟩ := hSl k hkN
  have hlay := hts _ (hin _ (u_in_lay hkN))
  unfold u_lay at hlay
  rw [if_neg (by rw [hfin]; decide)] at hlay
  have hst := (u_facts hfc hkC (u_lays hts hin hkN) hi).1
  have hpd : parseFieldDescriptor (T k).2.2.1 = some ty := by rw [hty k hkN, ht0]
  have h6 := u_store hfc hkC hkind hlay hi hpd hn hfit
  refine W.putK hx hb (f := f) ⟨hown, hts _ hlink, ⟨_, _, _, by rw [← hdecl]; exact hi⟩, hst⟩ (by rw [q2]; exact h6) q1 q3 (by rw [hsl]; exact k2_hasslot (q4 k hkN)) rfl rfl hd fun H' e1 e2 e3 => ?_
  rw [hsl] at e1
  refine kk p l e s mi args below meth c H' _ ls cs ss C ⟨pr, fun i hi => ?_, e2.trans g2, fun q hq => (e3 q (Nat.ne_of_lt (Nat.lt_of_lt_of_le hq (Nat.le_add_right _ _)))).trans (g3 q hq), fun l hl => ?_, g5, fun i hi k2 => ?_, mset_wf g7 hv, g8, g9, g10, g11⟩ hl w1 w2
  · by_cases e : i = j
    · subst e
      unfold bat
      rw [hs, if_pos (blt_lt hk)]
      refine t_OB.to (V := updV (bval X pr σ i) k (vI v)) ⟨_, e1, q2, q3, t_set q4 hap hkN _⟩ (fun z hz => ?_)
      unfold updV bval
      rw [hs]
      by_cases hzk : z = k
      · subst hzk
        rw [if_pos rfl]
        show _ = match rs.getD z none with | some r => if pr i z = true then Value.ref (xad X r) else Value.null | none => vI (mset σ i z v i z)
        rw [hr, mset_eq]
      · rw [if_neg hzk, mset_nei hzk]
    · have hne : xad X i ≠ xad X j := by unfold xad; omega
      exact bat_to rfl (fun k => mset_ne e) (bat_kept (g1 i hi) (e3 _ hne))
  · rcases List.mem_append.mp hl with h | h
    · exact g4 l h
    · rw [List.mem_singleton.mp h]; exact Nat.le_add_right _ _
  · rw [mset_ne (by omega)]; exact g6 i hi k2
end BOK3
theorem sh_card2 (jj c : Nat) (e : jj = 23 + 3 * c) (hc : c < 24) : xsh jj = (1, 8, [none, none, none, none, none, none, some (jj + 1), some (jj + 2)]) ∧ xsh (jj + 1) = (20, 4, []) ∧ xsh (jj + 2) = (20, 4, []) := by
  subst e
  refine ⟨?_, ?_, ?_⟩
  · rw [sh_card c hc, show 23 + 3 * c + 1 = 24 + 3 * c by omega, show 23 + 3 * c + 2 = 25 + 3 * c by omega]
  · rw [show 23 + 3 * c + 1 = 24 + 3 * c by omega]; exact sh_cft c hc
  · rw [show 23 + 3 * c + 2 = 25 + 3 * c by omega]; exact sh_cme c hc
theorem sh_sheet2 (jj c : Nat) (e : jj = 109 + 2 * c) (hc : c < 4) : xsh jj = (8, 4, [some (jj + 1), none, none, none]) ∧ xsh (jj + 1) = (20, 96, []) := by
  subst e
  refine ⟨?_, ?_⟩
  · rw [sh_sheet c hc, show 109 + 2 * c + 1 = 110 + 2 * c by omega]
  · rw [show 109 + 2 * c + 1 = 110 + 2 * c by omega]; exact sh_scell c hc

theorem dX0_init_0 : decode cX0_init 0 = .ok (.aload_n 0, 1) := by decide +kernel
theorem dX0_init_1 : decode cX0_init 1 = .ok (.invokespecial 3, 3) := by decide +kernel
theorem dX0_init_4 : decode cX0_init 4 = .ok (.aload_n 0, 1) := by decide +kernel
theorem dX0_init_5 : decode cX0_init 5 = .ok (.bipush 24, 2) := by decide +kernel
theorem dX0_init_7 : decode cX0_init 7 = .ok (.anewarray 9, 3) := by decide +kernel
theorem dX0_init_10 : decode cX0_init 10 = .ok (.putfield 11, 3) := by decide +kernel
theorem dX0_init_13 : decode cX0_init 13 = .ok (.aload_n 0, 1) := by decide +kernel
theorem dX0_init_14 : decode cX0_init 14 = .ok (.sipush 576, 3) := by decide +kernel
theorem dX0_init_17 : decode cX0_init 17 = .ok (.newarray .boolean, 2) := by decide +kernel
theorem dX0_init_19 : decode cX0_init 19 = .ok (.putfield 17, 3) := by decide +kernel
theorem dX0_init_22 : decode cX0_init 22 = .ok (.aload_n 0, 1) := by decide +kernel
theorem dX0_init_23 : decode cX0_init 23 = .ok (.bipush 40, 2) := by decide +kernel
theorem dX0_init_25 : decode cX0_init 25 = .ok (.newarray .int, 2) := by decide +kernel
theorem dX0_init_27 : decode cX0_init 27 = .ok (.putfield 21, 3) := by decide +kernel
theorem dX0_init_30 : decode cX0_init 30 = .ok (.aload_n 0, 1) := by decide +kernel
theorem dX0_init_31 : decode cX0_init 31 = .ok (.bipush 40, 2) := by decide +kernel
theorem dX0_init_33 : decode cX0_init 33 = .ok (.newarray .int, 2) := by decide +kernel
theorem dX0_init_35 : decode cX0_init 35 = .ok (.putfield 25, 3) := by decide +kernel
theorem dX0_init_38 : decode cX0_init 38 = .ok (.aload_n 0, 1) := by decide +kernel
theorem dX0_init_39 : decode cX0_init 39 = .ok (.bipush 40, 2) := by decide +kernel
theorem dX0_init_41 : decode cX0_init 41 = .ok (.newarray .int, 2) := by decide +kernel
theorem dX0_init_43 : decode cX0_init 43 = .ok (.putfield 28, 3) := by decide +kernel
theorem dX0_init_46 : decode cX0_init 46 = .ok (.aload_n 0, 1) := by decide +kernel
theorem dX0_init_47 : decode cX0_init 47 = .ok (.bipush 40, 2) := by decide +kernel
theorem dX0_init_49 : decode cX0_init 49 = .ok (.newarray .int, 2) := by decide +kernel
theorem dX0_init_51 : decode cX0_init 51 = .ok (.putfield 31, 3) := by decide +kernel
theorem dX0_init_54 : decode cX0_init 54 = .ok (.aload_n 0, 1) := by decide +kernel
theorem dX0_init_55 : decode cX0_init 55 = .ok (.aload_n 1, 1) := by decide +kernel
theorem dX0_init_56 : decode cX0_init 56 = .ok (.putfield 34, 3) := by decide +kernel
theorem dX0_init_59 : decode cX0_init 59 = .ok (.iconst 0, 1) := by decide +kernel
theorem dX0_init_60 : decode cX0_init 60 = .ok (.istore_n 2, 1) := by decide +kernel
theorem dX0_init_61 : decode cX0_init 61 = .ok (.iload_n 2, 1) := by decide +kernel
theorem dX0_init_62 : decode cX0_init 62 = .ok (.bipush 24, 2) := by decide +kernel
theorem dX0_init_64 : decode cX0_init 64 = .ok (.if_icmp .ge 22, 3) := by decide +kernel
theorem dX0_init_67 : decode cX0_init 67 = .ok (.aload_n 0, 1) := by decide +kernel
theorem dX0_init_68 : decode cX0_init 68 = .ok (.getfield 11, 3) := by decide +kernel
theorem dX0_init_71 : decode cX0_init 71 = .ok (.iload_n 2, 1) := by decide +kernel
theorem dX0_init_72 : decode cX0_init 72 = .ok (.new 9, 3) := by decide +kernel
theorem dX0_init_75 : decode cX0_init 75 = .ok (.dup, 1) := by decide +kernel
theorem dX0_init_76 : decode cX0_init 76 = .ok (.invokespecial 38, 3) := by decide +kernel
theorem dX0_init_79 : decode cX0_init 79 = .ok (.aastore, 1) := by decide +kernel
theorem dX0_init_80 : decode cX0_init 80 = .ok (.iinc 2 1, 3) := by decide +kernel
theorem dX0_init_83 : decode cX0_init 83 = .ok (.goto (-22), 3) := by decide +kernel
theorem dX0_init_86 : decode cX0_init 86 = .ok (.return_, 1) := by decide +kernel
theorem dX11_init_0 : decode cX11_init 0 = .ok (.aload_n 0, 1) := by decide +kernel
theorem dX11_init_1 : decode cX11_init 1 = .ok (.invokespecial 1, 3) := by decide +kernel
theorem dX11_init_4 : decode cX11_init 4 = .ok (.aload_n 0, 1) := by decide +kernel
theorem dX11_init_5 : decode cX11_init 5 = .ok (.new 7, 3) := by decide +kernel
theorem dX11_init_8 : decode cX11_init 8 = .ok (.dup, 1) := by decide +kernel
theorem dX11_init_9 : decode cX11_init 9 = .ok (.invokespecial 9, 3) := by decide +kernel
theorem dX11_init_12 : decode cX11_init 12 = .ok (.putfield 10, 3) := by decide +kernel
theorem dX11_init_15 : decode cX11_init 15 = .ok (.aload_n 0, 1) := by decide +kernel
theorem dX11_init_16 : decode cX11_init 16 = .ok (.new 16, 3) := by decide +kernel
theorem dX11_init_19 : decode cX11_init 19 = .ok (.dup, 1) := by decide +kernel
theorem dX11_init_20 : decode cX11_init 20 = .ok (.invokespecial 18, 3) := by decide +kernel
theorem dX11_init_23 : decode cX11_init 23 = .ok (.putfield 19, 3) := by decide +kernel
theorem dX11_init_26 : decode cX11_init 26 = .ok (.aload_n 0, 1) := by decide +kernel
theorem dX11_init_27 : decode cX11_init 27 = .ok (.new 23, 3) := by decide +kernel
theorem dX11_init_30 : decode cX11_init 30 = .ok (.dup, 1) := by decide +kernel
theorem dX11_init_31 : decode cX11_init 31 = .ok (.aload_n 0, 1) := by decide +kernel
theorem dX11_init_32 : decode cX11_init 32 = .ok (.getfield 10, 3) := by decide +kernel
theorem dX11_init_35 : decode cX11_init 35 = .ok (.invokespecial 25, 3) := by decide +kernel
theorem dX11_init_38 : decode cX11_init 38 = .ok (.putfield 28, 3) := by decide +kernel
theorem dX11_init_41 : decode cX11_init 41 = .ok (.aload_n 0, 1) := by decide +kernel
theorem dX11_init_42 : decode cX11_init 42 = .ok (.new 32, 3) := by decide +kernel
theorem dX11_init_45 : decode cX11_init 45 = .ok (.dup, 1) := by decide +kernel
theorem dX11_init_46 : decode cX11_init 46 = .ok (.aload_n 0, 1) := by decide +kernel
theorem dX11_init_47 : decode cX11_init 47 = .ok (.getfield 19, 3) := by decide +kernel
theorem dX11_init_50 : decode cX11_init 50 = .ok (.invokespecial 34, 3) := by decide +kernel
theorem dX11_init_53 : decode cX11_init 53 = .ok (.putfield 37, 3) := by decide +kernel
theorem dX11_init_56 : decode cX11_init 56 = .ok (.aload_n 0, 1) := by decide +kernel
theorem dX11_init_57 : decode cX11_init 57 = .ok (.new 41, 3) := by decide +kernel
theorem dX11_init_60 : decode cX11_init 60 = .ok (.dup, 1) := by decide +kernel
theorem dX11_init_61 : decode cX11_init 61 = .ok (.aload_n 0, 1) := by decide +kernel
theorem dX11_init_62 : decode cX11_init 62 = .ok (.getfield 37, 3) := by decide +kernel
theorem dX11_init_65 : decode cX11_init 65 = .ok (.invokespecial 43, 3) := by decide +kernel
theorem dX11_init_68 : decode cX11_init 68 = .ok (.putfield 46, 3) := by decide +kernel
theorem dX11_init_71 : decode cX11_init 71 = .ok (.aload_n 0, 1) := by decide +kernel
theorem dX11_init_72 : decode cX11_init 72 = .ok (.new 50, 3) := by decide +kernel
theorem dX11_init_75 : decode cX11_init 75 = .ok (.dup, 1) := by decide +kernel
theorem dX11_init_76 : decode cX11_init 76 = .ok (.invokespecial 52, 3) := by decide +kernel
theorem dX11_init_79 : decode cX11_init 79 = .ok (.putfield 53, 3) := by decide +kernel
theorem dX11_init_82 : decode cX11_init 82 = .ok (.aload_n 0, 1) := by decide +kernel
theorem dX11_init_83 : decode cX11_init 83 = .ok (.new 57, 3) := by decide +kernel
theorem dX11_init_86 : decode cX11_init 86 = .ok (.dup, 1) := by decide +kernel
theorem dX11_init_87 : decode cX11_init 87 = .ok (.invokespecial 59, 3) := by decide +kernel
theorem dX11_init_90 : decode cX11_init 90 = .ok (.putfield 60, 3) := by decide +kernel
theorem dX11_init_93 : decode cX11_init 93 = .ok (.aload_n 0, 1) := by decide +kernel
theorem dX11_init_94 : decode cX11_init 94 = .ok (.new 64, 3) := by decide +kernel
theorem dX11_init_97 : decode cX11_init 97 = .ok (.dup, 1) := by decide +kernel
theorem dX11_init_98 : decode cX11_init 98 = .ok (.aload_n 0, 1) := by decide +kernel
theorem dX11_init_99 : decode cX11_init 99 = .ok (.getfield 46, 3) := by decide +kernel
theorem dX11_init_102 : decode cX11_init 102 = .ok (.invokespecial 66, 3) := by decide +kernel
theorem dX11_init_105 : decode cX11_init 105 = .ok (.putfield 69, 3) := by decide +kernel
theorem dX11_init_108 : decode cX11_init 108 = .ok (.aload_n 0, 1) := by decide +kernel
theorem dX11_init_109 : decode cX11_init 109 = .ok (.new 73, 3) := by decide +kernel
theorem dX11_init_112 : decode cX11_init 112 = .ok (.dup, 1) := by decide +kernel
theorem dX11_init_113 : decode cX11_init 113 = .ok (.aload_n 0, 1) := by decide +kernel
theorem dX11_init_114 : decode cX11_init 114 = .ok (.getfield 46, 3) := by decide +kernel
theorem dX11_init_117 : decode cX11_init 117 = .ok (.invokespecial 75, 3) := by decide +kernel
theorem dX11_init_120 : decode cX11_init 120 = .ok (.putfield 76, 3) := by decide +kernel
theorem dX11_init_123 : decode cX11_init 123 = .ok (.aload_n 0, 1) := by decide +kernel
theorem dX11_init_124 : decode cX11_init 124 = .ok (.iconst 4, 1) := by decide +kernel
theorem dX11_init_125 : decode cX11_init 125 = .ok (.anewarray 80, 3) := by decide +kernel
theorem dX11_init_128 : decode cX11_init 128 = .ok (.putfield 82, 3) := by decide +kernel
theorem dX11_init_131 : decode cX11_init 131 = .ok (.iconst 0, 1) := by decide +kernel
theorem dX11_init_132 : decode cX11_init 132 = .ok (.istore_n 1, 1) := by decide +kernel
theorem dX11_init_133 : decode cX11_init 133 = .ok (.iload_n 1, 1) := by decide +kernel
theorem dX11_init_134 : decode cX11_init 134 = .ok (.iconst 4, 1) := by decide +kernel
theorem dX11_init_135 : decode cX11_init 135 = .ok (.if_icmp .ge 22, 3) := by decide +kernel
theorem dX11_init_138 : decode cX11_init 138 = .ok (.aload_n 0, 1) := by decide +kernel
theorem dX11_init_139 : decode cX11_init 139 = .ok (.getfield 82, 3) := by decide +kernel
theorem dX11_init_142 : decode cX11_init 142 = .ok (.iload_n 1, 1) := by decide +kernel
theorem dX11_init_143 : decode cX11_init 143 = .ok (.new 80, 3) := by decide +kernel
theorem dX11_init_146 : decode cX11_init 146 = .ok (.dup, 1) := by decide +kernel
theorem dX11_init_147 : decode cX11_init 147 = .ok (.invokespecial 86, 3) := by decide +kernel
theorem dX11_init_150 : decode cX11_init 150 = .ok (.aastore, 1) := by decide +kernel
theorem dX11_init_151 : decode cX11_init 151 = .ok (.iinc 1 1, 3) := by decide +kernel
theorem dX11_init_154 : decode cX11_init 154 = .ok (.goto (-21), 3) := by decide +kernel
theorem dX11_init_157 : decode cX11_init 157 = .ok (.aload_n 0, 1) := by decide +kernel
theorem dX11_init_158 : decode cX11_init 158 = .ok (.bipush 96, 2) := by decide +kernel
theorem dX11_init_160 : decode cX11_init 160 = .ok (.newarray .int, 2) := by decide +kernel
theorem dX11_init_162 : decode cX11_init 162 = .ok (.putfield 87, 3) := by decide +kernel
theorem dX11_init_165 : decode cX11_init 165 = .ok (.aload_n 0, 1) := by decide +kernel
theorem dX11_init_166 : decode cX11_init 166 = .ok (.bipush 12, 2) := by decide +kernel
theorem dX11_init_168 : decode cX11_init 168 = .ok (.newarray .int, 2) := by decide +kernel
theorem dX11_init_170 : decode cX11_init 170 = .ok (.putfield 91, 3) := by decide +kernel
theorem dX11_init_173 : decode cX11_init 173 = .ok (.aload_n 0, 1) := by decide +kernel
theorem dX11_init_174 : decode cX11_init 174 = .ok (.bipush 12, 2) := by decide +kernel
theorem dX11_init_176 : decode cX11_init 176 = .ok (.newarray .int, 2) := by decide +kernel
theorem dX11_init_178 : decode cX11_init 178 = .ok (.putfield 94, 3) := by decide +kernel
theorem dX11_init_181 : decode cX11_init 181 = .ok (.aload_n 0, 1) := by decide +kernel
theorem dX11_init_182 : decode cX11_init 182 = .ok (.bipush 12, 2) := by decide +kernel
theorem dX11_init_184 : decode cX11_init 184 = .ok (.newarray .int, 2) := by decide +kernel
theorem dX11_init_186 : decode cX11_init 186 = .ok (.putfield 97, 3) := by decide +kernel
theorem dX11_init_189 : decode cX11_init 189 = .ok (.aload_n 0, 1) := by decide +kernel
theorem dX11_init_190 : decode cX11_init 190 = .ok (.bipush 12, 2) := by decide +kernel
theorem dX11_init_192 : decode cX11_init 192 = .ok (.newarray .boolean, 2) := by decide +kernel
theorem dX11_init_194 : decode cX11_init 194 = .ok (.putfield 100, 3) := by decide +kernel
theorem dX11_init_197 : decode cX11_init 197 = .ok (.return_, 1) := by decide +kernel
theorem dX12_init_0 : decode cX12_init 0 = .ok (.aload_n 0, 1) := by decide +kernel
theorem dX12_init_1 : decode cX12_init 1 = .ok (.invokespecial 1, 3) := by decide +kernel
theorem dX12_init_4 : decode cX12_init 4 = .ok (.aload_n 0, 1) := by decide +kernel
theorem dX12_init_5 : decode cX12_init 5 = .ok (.sipush 240, 3) := by decide +kernel
theorem dX12_init_8 : decode cX12_init 8 = .ok (.newarray .int, 2) := by decide +kernel
theorem dX12_init_10 : decode cX12_init 10 = .ok (.putfield 7, 3) := by decide +kernel
theorem dX12_init_13 : decode cX12_init 13 = .ok (.aload_n 0, 1) := by decide +kernel
theorem dX12_init_14 : decode cX12_init 14 = .ok (.bipush 7, 2) := by decide +kernel
theorem dX12_init_16 : decode cX12_init 16 = .ok (.newarray .int, 2) := by decide +kernel
theorem dX12_init_18 : decode cX12_init 18 = .ok (.dup, 1) := by decide +kernel
theorem dX12_init_19 : decode cX12_init 19 = .ok (.iconst 0, 1) := by decide +kernel
theorem dX12_init_20 : decode cX12_init 20 = .ok (.iconst 0, 1) := by decide +kernel
theorem dX12_init_21 : decode cX12_init 21 = .ok (.iastore, 1) := by decide +kernel
theorem dX12_init_22 : decode cX12_init 22 = .ok (.dup, 1) := by decide +kernel
theorem dX12_init_23 : decode cX12_init 23 = .ok (.iconst 1, 1) := by decide +kernel
theorem dX12_init_24 : decode cX12_init 24 = .ok (.iconst 4, 1) := by decide +kernel
theorem dX12_init_25 : decode cX12_init 25 = .ok (.iastore, 1) := by decide +kernel
theorem dX12_init_26 : decode cX12_init 26 = .ok (.dup, 1) := by decide +kernel
theorem dX12_init_27 : decode cX12_init 27 = .ok (.iconst 2, 1) := by decide +kernel
theorem dX12_init_28 : decode cX12_init 28 = .ok (.bipush 10, 2) := by decide +kernel
theorem dX12_init_30 : decode cX12_init 30 = .ok (.iastore, 1) := by decide +kernel
theorem dX12_init_31 : decode cX12_init 31 = .ok (.dup, 1) := by decide +kernel
theorem dX12_init_32 : decode cX12_init 32 = .ok (.iconst 3, 1) := by decide +kernel
theorem dX12_init_33 : decode cX12_init 33 = .ok (.bipush 14, 2) := by decide +kernel
theorem dX12_init_35 : decode cX12_init 35 = .ok (.iastore, 1) := by decide +kernel
theorem dX12_init_36 : decode cX12_init 36 = .ok (.dup, 1) := by decide +kernel
theorem dX12_init_37 : decode cX12_init 37 = .ok (.iconst 4, 1) := by decide +kernel
theorem dX12_init_38 : decode cX12_init 38 = .ok (.bipush 18, 2) := by decide +kernel
theorem dX12_init_40 : decode cX12_init 40 = .ok (.iastore, 1) := by decide +kernel
theorem dX12_init_41 : decode cX12_init 41 = .ok (.dup, 1) := by decide +kernel
theorem dX12_init_42 : decode cX12_init 42 = .ok (.iconst 5, 1) := by decide +kernel
theorem dX12_init_43 : decode cX12_init 43 = .ok (.bipush 23, 2) := by decide +kernel
theorem dX12_init_45 : decode cX12_init 45 = .ok (.iastore, 1) := by decide +kernel
theorem dX12_init_46 : decode cX12_init 46 = .ok (.dup, 1) := by decide +kernel
theorem dX12_init_47 : decode cX12_init 47 = .ok (.bipush 6, 2) := by decide +kernel
theorem dX12_init_49 : decode cX12_init 49 = .ok (.bipush 27, 2) := by decide +kernel
theorem dX12_init_51 : decode cX12_init 51 = .ok (.iastore, 1) := by decide +kernel
theorem dX12_init_52 : decode cX12_init 52 = .ok (.putfield 13, 3) := by decide +kernel
theorem dX12_init_55 : decode cX12_init 55 = .ok (.aload_n 0, 1) := by decide +kernel
theorem dX12_init_56 : decode cX12_init 56 = .ok (.bipush 27, 2) := by decide +kernel
theorem dX12_init_58 : decode cX12_init 58 = .ok (.newarray .int, 2) := by decide +kernel
theorem dX12_init_60 : decode cX12_init 60 = .ok (.dup, 1) := by decide +kernel
theorem dX12_init_61 : decode cX12_init 61 = .ok (.iconst 0, 1) := by decide +kernel
theorem dX12_init_62 : decode cX12_init 62 = .ok (.bipush 101, 2) := by decide +kernel
theorem dX12_init_64 : decode cX12_init 64 = .ok (.iastore, 1) := by decide +kernel
theorem dX12_init_65 : decode cX12_init 65 = .ok (.dup, 1) := by decide +kernel
theorem dX12_init_66 : decode cX12_init 66 = .ok (.iconst 1, 1) := by decide +kernel
theorem dX12_init_67 : decode cX12_init 67 = .ok (.bipush 100, 2) := by decide +kernel
theorem dX12_init_69 : decode cX12_init 69 = .ok (.iastore, 1) := by decide +kernel
theorem dX12_init_70 : decode cX12_init 70 = .ok (.dup, 1) := by decide +kernel
theorem dX12_init_71 : decode cX12_init 71 = .ok (.iconst 2, 1) := by decide +kernel
theorem dX12_init_72 : decode cX12_init 72 = .ok (.bipush 103, 2) := by decide +kernel
theorem dX12_init_74 : decode cX12_init 74 = .ok (.iastore, 1) := by decide +kernel
theorem dX12_init_75 : decode cX12_init 75 = .ok (.dup, 1) := by decide +kernel
theorem dX12_init_76 : decode cX12_init 76 = .ok (.iconst 3, 1) := by decide +kernel
theorem dX12_init_77 : decode cX12_init 77 = .ok (.bipush 101, 2) := by decide +kernel
theorem dX12_init_79 : decode cX12_init 79 = .ok (.iastore, 1) := by decide +kernel
theorem dX12_init_80 : decode cX12_init 80 = .ok (.dup, 1) := by decide +kernel
theorem dX12_init_81 : decode cX12_init 81 = .ok (.iconst 4, 1) := by decide +kernel
theorem dX12_init_82 : decode cX12_init 82 = .ok (.bipush 115, 2) := by decide +kernel
theorem dX12_init_84 : decode cX12_init 84 = .ok (.iastore, 1) := by decide +kernel
theorem dX12_init_85 : decode cX12_init 85 = .ok (.dup, 1) := by decide +kernel
theorem dX12_init_86 : decode cX12_init 86 = .ok (.iconst 5, 1) := by decide +kernel
theorem dX12_init_87 : decode cX12_init 87 = .ok (.bipush 112, 2) := by decide +kernel
theorem dX12_init_89 : decode cX12_init 89 = .ok (.iastore, 1) := by decide +kernel
theorem dX12_init_90 : decode cX12_init 90 = .ok (.dup, 1) := by decide +kernel
theorem dX12_init_91 : decode cX12_init 91 = .ok (.bipush 6, 2) := by decide +kernel
theorem dX12_init_93 : decode cX12_init 93 = .ok (.bipush 114, 2) := by decide +kernel
theorem dX12_init_95 : decode cX12_init 95 = .ok (.iastore, 1) := by decide +kernel
theorem dX12_init_96 : decode cX12_init 96 = .ok (.dup, 1) := by decide +kernel
theorem dX12_init_97 : decode cX12_init 97 = .ok (.bipush 7, 2) := by decide +kernel
theorem dX12_init_99 : decode cX12_init 99 = .ok (.bipush 101, 2) := by decide +kernel
theorem dX12_init_101 : decode cX12_init 101 = .ok (.iastore, 1) := by decide +kernel
theorem dX12_init_102 : decode cX12_init 102 = .ok (.dup, 1) := by decide +kernel
theorem dX12_init_103 : decode cX12_init 103 = .ok (.bipush 8, 2) := by decide +kernel
theorem dX12_init_105 : decode cX12_init 105 = .ok (.bipush 97, 2) := by decide +kernel
theorem dX12_init_107 : decode cX12_init 107 = .ok (.iastore, 1) := by decide +kernel
theorem dX12_init_108 : decode cX12_init 108 = .ok (.dup, 1) := by decide +kernel
theorem dX12_init_109 : decode cX12_init 109 = .ok (.bipush 9, 2) := by decide +kernel
theorem dX12_init_111 : decode cX12_init 111 = .ok (.bipush 100, 2) := by decide +kernel
theorem dX12_init_113 : decode cX12_init 113 = .ok (.iastore, 1) := by decide +kernel
theorem dX12_init_114 : decode cX12_init 114 = .ok (.dup, 1) := by decide +kernel
theorem dX12_init_115 : decode cX12_init 115 = .ok (.bipush 10, 2) := by decide +kernel
theorem dX12_init_117 : decode cX12_init 117 = .ok (.bipush 103, 2) := by decide +kernel
theorem dX12_init_119 : decode cX12_init 119 = .ok (.iastore, 1) := by decide +kernel
theorem dX12_init_120 : decode cX12_init 120 = .ok (.dup, 1) := by decide +kernel
theorem dX12_init_121 : decode cX12_init 121 = .ok (.bipush 11, 2) := by decide +kernel
theorem dX12_init_123 : decode cX12_init 123 = .ok (.bipush 114, 2) := by decide +kernel
theorem dX12_init_125 : decode cX12_init 125 = .ok (.iastore, 1) := by decide +kernel
theorem dX12_init_126 : decode cX12_init 126 = .ok (.dup, 1) := by decide +kernel
theorem dX12_init_127 : decode cX12_init 127 = .ok (.bipush 12, 2) := by decide +kernel
theorem dX12_init_129 : decode cX12_init 129 = .ok (.bipush 111, 2) := by decide +kernel
theorem dX12_init_131 : decode cX12_init 131 = .ok (.iastore, 1) := by decide +kernel
theorem dX12_init_132 : decode cX12_init 132 = .ok (.dup, 1) := by decide +kernel
theorem dX12_init_133 : decode cX12_init 133 = .ok (.bipush 13, 2) := by decide +kernel
theorem dX12_init_135 : decode cX12_init 135 = .ok (.bipush 119, 2) := by decide +kernel
theorem dX12_init_137 : decode cX12_init 137 = .ok (.iastore, 1) := by decide +kernel
theorem dX12_init_138 : decode cX12_init 138 = .ok (.dup, 1) := by decide +kernel
theorem dX12_init_139 : decode cX12_init 139 = .ok (.bipush 14, 2) := by decide +kernel
theorem dX12_init_141 : decode cX12_init 141 = .ok (.bipush 107, 2) := by decide +kernel
theorem dX12_init_143 : decode cX12_init 143 = .ok (.iastore, 1) := by decide +kernel
theorem dX12_init_144 : decode cX12_init 144 = .ok (.dup, 1) := by decide +kernel
theorem dX12_init_145 : decode cX12_init 145 = .ok (.bipush 15, 2) := by decide +kernel
theorem dX12_init_147 : decode cX12_init 147 = .ok (.bipush 101, 2) := by decide +kernel
theorem dX12_init_149 : decode cX12_init 149 = .ok (.iastore, 1) := by decide +kernel
theorem dX12_init_150 : decode cX12_init 150 = .ok (.dup, 1) := by decide +kernel
theorem dX12_init_151 : decode cX12_init 151 = .ok (.bipush 16, 2) := by decide +kernel
theorem dX12_init_153 : decode cX12_init 153 = .ok (.bipush 101, 2) := by decide +kernel
theorem dX12_init_155 : decode cX12_init 155 = .ok (.iastore, 1) := by decide +kernel
theorem dX12_init_156 : decode cX12_init 156 = .ok (.dup, 1) := by decide +kernel
theorem dX12_init_157 : decode cX12_init 157 = .ok (.bipush 17, 2) := by decide +kernel
theorem dX12_init_159 : decode cX12_init 159 = .ok (.bipush 112, 2) := by decide +kernel
theorem dX12_init_161 : decode cX12_init 161 = .ok (.iastore, 1) := by decide +kernel
theorem dX12_init_162 : decode cX12_init 162 = .ok (.dup, 1) := by decide +kernel
theorem dX12_init_163 : decode cX12_init 163 = .ok (.bipush 18, 2) := by decide +kernel
theorem dX12_init_165 : decode cX12_init 165 = .ok (.bipush 111, 2) := by decide +kernel
theorem dX12_init_167 : decode cX12_init 167 = .ok (.iastore, 1) := by decide +kernel
theorem dX12_init_168 : decode cX12_init 168 = .ok (.dup, 1) := by decide +kernel
theorem dX12_init_169 : decode cX12_init 169 = .ok (.bipush 19, 2) := by decide +kernel
theorem dX12_init_171 : decode cX12_init 171 = .ok (.bipush 116, 2) := by decide +kernel
theorem dX12_init_173 : decode cX12_init 173 = .ok (.iastore, 1) := by decide +kernel
theorem dX12_init_174 : decode cX12_init 174 = .ok (.dup, 1) := by decide +kernel
theorem dX12_init_175 : decode cX12_init 175 = .ok (.bipush 20, 2) := by decide +kernel
theorem dX12_init_177 : decode cX12_init 177 = .ok (.bipush 104, 2) := by decide +kernel
theorem dX12_init_179 : decode cX12_init 179 = .ok (.iastore, 1) := by decide +kernel
theorem dX12_init_180 : decode cX12_init 180 = .ok (.dup, 1) := by decide +kernel
theorem dX12_init_181 : decode cX12_init 181 = .ok (.bipush 21, 2) := by decide +kernel
theorem dX12_init_183 : decode cX12_init 183 = .ok (.bipush 101, 2) := by decide +kernel
theorem dX12_init_185 : decode cX12_init 185 = .ok (.iastore, 1) := by decide +kernel
theorem dX12_init_186 : decode cX12_init 186 = .ok (.dup, 1) := by decide +kernel
theorem dX12_init_187 : decode cX12_init 187 = .ok (.bipush 22, 2) := by decide +kernel
theorem dX12_init_189 : decode cX12_init 189 = .ok (.bipush 114, 2) := by decide +kernel
theorem dX12_init_191 : decode cX12_init 191 = .ok (.iastore, 1) := by decide +kernel
theorem dX12_init_192 : decode cX12_init 192 = .ok (.dup, 1) := by decide +kernel
theorem dX12_init_193 : decode cX12_init 193 = .ok (.bipush 23, 2) := by decide +kernel
theorem dX12_init_195 : decode cX12_init 195 = .ok (.bipush 102, 2) := by decide +kernel
theorem dX12_init_197 : decode cX12_init 197 = .ok (.iastore, 1) := by decide +kernel
theorem dX12_init_198 : decode cX12_init 198 = .ok (.dup, 1) := by decide +kernel
theorem dX12_init_199 : decode cX12_init 199 = .ok (.bipush 24, 2) := by decide +kernel
theorem dX12_init_201 : decode cX12_init 201 = .ok (.bipush 114, 2) := by decide +kernel
theorem dX12_init_203 : decode cX12_init 203 = .ok (.iastore, 1) := by decide +kernel
theorem dX12_init_204 : decode cX12_init 204 = .ok (.dup, 1) := by decide +kernel
theorem dX12_init_205 : decode cX12_init 205 = .ok (.bipush 25, 2) := by decide +kernel
theorem dX12_init_207 : decode cX12_init 207 = .ok (.bipush 111, 2) := by decide +kernel
theorem dX12_init_209 : decode cX12_init 209 = .ok (.iastore, 1) := by decide +kernel
theorem dX12_init_210 : decode cX12_init 210 = .ok (.dup, 1) := by decide +kernel
theorem dX12_init_211 : decode cX12_init 211 = .ok (.bipush 26, 2) := by decide +kernel
theorem dX12_init_213 : decode cX12_init 213 = .ok (.bipush 109, 2) := by decide +kernel
theorem dX12_init_215 : decode cX12_init 215 = .ok (.iastore, 1) := by decide +kernel
theorem dX12_init_216 : decode cX12_init 216 = .ok (.putfield 16, 3) := by decide +kernel
theorem dX12_init_219 : decode cX12_init 219 = .ok (.aload_n 0, 1) := by decide +kernel
theorem dX12_init_220 : decode cX12_init 220 = .ok (.bipush 16, 2) := by decide +kernel
theorem dX12_init_222 : decode cX12_init 222 = .ok (.newarray .int, 2) := by decide +kernel
theorem dX12_init_224 : decode cX12_init 224 = .ok (.putfield 19, 3) := by decide +kernel
theorem dX12_init_227 : decode cX12_init 227 = .ok (.aload_n 0, 1) := by decide +kernel
theorem dX12_init_228 : decode cX12_init 228 = .ok (.bipush 16, 2) := by decide +kernel
theorem dX12_init_230 : decode cX12_init 230 = .ok (.newarray .int, 2) := by decide +kernel
theorem dX12_init_232 : decode cX12_init 232 = .ok (.putfield 22, 3) := by decide +kernel
theorem dX12_init_235 : decode cX12_init 235 = .ok (.aload_n 0, 1) := by decide +kernel
theorem dX12_init_236 : decode cX12_init 236 = .ok (.bipush 16, 2) := by decide +kernel
theorem dX12_init_238 : decode cX12_init 238 = .ok (.newarray .int, 2) := by decide +kernel
theorem dX12_init_240 : decode cX12_init 240 = .ok (.putfield 25, 3) := by decide +kernel
theorem dX12_init_243 : decode cX12_init 243 = .ok (.aload_n 0, 1) := by decide +kernel
theorem dX12_init_244 : decode cX12_init 244 = .ok (.bipush 16, 2) := by decide +kernel
theorem dX12_init_246 : decode cX12_init 246 = .ok (.newarray .int, 2) := by decide +kernel
theorem dX12_init_248 : decode cX12_init 248 = .ok (.putfield 28, 3) := by decide +kernel
theorem dX12_init_251 : decode cX12_init 251 = .ok (.aload_n 0, 1) := by decide +kernel
theorem dX12_init_252 : decode cX12_init 252 = .ok (.bipush 16, 2) := by decide +kernel
theorem dX12_init_254 : decode cX12_init 254 = .ok (.newarray .int, 2) := by decide +kernel
theorem dX12_init_256 : decode cX12_init 256 = .ok (.putfield 31, 3) := by decide +kernel
theorem dX12_init_259 : decode cX12_init 259 = .ok (.aload_n 0, 1) := by decide +kernel
theorem dX12_init_260 : decode cX12_init 260 = .ok (.bipush 16, 2) := by decide +kernel
theorem dX12_init_262 : decode cX12_init 262 = .ok (.newarray .int, 2) := by decide +kernel
theorem dX12_init_264 : decode cX12_init 264 = .ok (.putfield 34, 3) := by decide +kernel
theorem dX12_init_267 : decode cX12_init 267 = .ok (.aload_n 0, 1) := by decide +kernel
theorem dX12_init_268 : decode cX12_init 268 = .ok (.bipush 16, 2) := by decide +kernel
theorem dX12_init_270 : decode cX12_init 270 = .ok (.newarray .int, 2) := by decide +kernel
theorem dX12_init_272 : decode cX12_init 272 = .ok (.putfield 37, 3) := by decide +kernel
theorem dX12_init_275 : decode cX12_init 275 = .ok (.aload_n 0, 1) := by decide +kernel
theorem dX12_init_276 : decode cX12_init 276 = .ok (.bipush 16, 2) := by decide +kernel
theorem dX12_init_278 : decode cX12_init 278 = .ok (.newarray .int, 2) := by decide +kernel
theorem dX12_init_280 : decode cX12_init 280 = .ok (.putfield 40, 3) := by decide +kernel
theorem dX12_init_283 : decode cX12_init 283 = .ok (.aload_n 0, 1) := by decide +kernel
theorem dX12_init_284 : decode cX12_init 284 = .ok (.bipush 16, 2) := by decide +kernel
theorem dX12_init_286 : decode cX12_init 286 = .ok (.newarray .int, 2) := by decide +kernel
theorem dX12_init_288 : decode cX12_init 288 = .ok (.putfield 43, 3) := by decide +kernel
theorem dX12_init_291 : decode cX12_init 291 = .ok (.aload_n 0, 1) := by decide +kernel
theorem dX12_init_292 : decode cX12_init 292 = .ok (.bipush 16, 2) := by decide +kernel
theorem dX12_init_294 : decode cX12_init 294 = .ok (.newarray .int, 2) := by decide +kernel
theorem dX12_init_296 : decode cX12_init 296 = .ok (.putfield 46, 3) := by decide +kernel
theorem dX12_init_299 : decode cX12_init 299 = .ok (.aload_n 0, 1) := by decide +kernel
theorem dX12_init_300 : decode cX12_init 300 = .ok (.bipush 24, 2) := by decide +kernel
theorem dX12_init_302 : decode cX12_init 302 = .ok (.newarray .int, 2) := by decide +kernel
theorem dX12_init_304 : decode cX12_init 304 = .ok (.putfield 49, 3) := by decide +kernel
theorem dX12_init_307 : decode cX12_init 307 = .ok (.aload_n 0, 1) := by decide +kernel
theorem dX12_init_308 : decode cX12_init 308 = .ok (.bipush 24, 2) := by decide +kernel
theorem dX12_init_310 : decode cX12_init 310 = .ok (.newarray .int, 2) := by decide +kernel
theorem dX12_init_312 : decode cX12_init 312 = .ok (.putfield 52, 3) := by decide +kernel
theorem dX12_init_315 : decode cX12_init 315 = .ok (.aload_n 0, 1) := by decide +kernel
theorem dX12_init_316 : decode cX12_init 316 = .ok (.bipush 96, 2) := by decide +kernel
theorem dX12_init_318 : decode cX12_init 318 = .ok (.newarray .int, 2) := by decide +kernel
theorem dX12_init_320 : decode cX12_init 320 = .ok (.putfield 55, 3) := by decide +kernel
theorem dX12_init_323 : decode cX12_init 323 = .ok (.aload_n 0, 1) := by decide +kernel
theorem dX12_init_324 : decode cX12_init 324 = .ok (.bipush 96, 2) := by decide +kernel
theorem dX12_init_326 : decode cX12_init 326 = .ok (.newarray .int, 2) := by decide +kernel
theorem dX12_init_328 : decode cX12_init 328 = .ok (.putfield 58, 3) := by decide +kernel
theorem dX12_init_331 : decode cX12_init 331 = .ok (.aload_n 0, 1) := by decide +kernel
theorem dX12_init_332 : decode cX12_init 332 = .ok (.bipush 24, 2) := by decide +kernel
theorem dX12_init_334 : decode cX12_init 334 = .ok (.newarray .int, 2) := by decide +kernel
theorem dX12_init_336 : decode cX12_init 336 = .ok (.putfield 61, 3) := by decide +kernel
theorem dX12_init_339 : decode cX12_init 339 = .ok (.aload_n 0, 1) := by decide +kernel
theorem dX12_init_340 : decode cX12_init 340 = .ok (.bipush 24, 2) := by decide +kernel
theorem dX12_init_342 : decode cX12_init 342 = .ok (.newarray .int, 2) := by decide +kernel
theorem dX12_init_344 : decode cX12_init 344 = .ok (.putfield 64, 3) := by decide +kernel
theorem dX12_init_347 : decode cX12_init 347 = .ok (.aload_n 0, 1) := by decide +kernel
theorem dX12_init_348 : decode cX12_init 348 = .ok (.bipush 24, 2) := by decide +kernel
theorem dX12_init_350 : decode cX12_init 350 = .ok (.newarray .int, 2) := by decide +kernel
theorem dX12_init_352 : decode cX12_init 352 = .ok (.putfield 67, 3) := by decide +kernel
theorem dX12_init_355 : decode cX12_init 355 = .ok (.aload_n 0, 1) := by decide +kernel
theorem dX12_init_356 : decode cX12_init 356 = .ok (.bipush 24, 2) := by decide +kernel
theorem dX12_init_358 : decode cX12_init 358 = .ok (.newarray .int, 2) := by decide +kernel
theorem dX12_init_360 : decode cX12_init 360 = .ok (.putfield 70, 3) := by decide +kernel
theorem dX12_init_363 : decode cX12_init 363 = .ok (.aload_n 0, 1) := by decide +kernel
theorem dX12_init_364 : decode cX12_init 364 = .ok (.bipush 40, 2) := by decide +kernel
theorem dX12_init_366 : decode cX12_init 366 = .ok (.newarray .int, 2) := by decide +kernel
theorem dX12_init_368 : decode cX12_init 368 = .ok (.putfield 73, 3) := by decide +kernel
theorem dX12_init_371 : decode cX12_init 371 = .ok (.aload_n 0, 1) := by decide +kernel
theorem dX12_init_372 : decode cX12_init 372 = .ok (.bipush 40, 2) := by decide +kernel
theorem dX12_init_374 : decode cX12_init 374 = .ok (.newarray .int, 2) := by decide +kernel
theorem dX12_init_376 : decode cX12_init 376 = .ok (.putfield 76, 3) := by decide +kernel
theorem dX12_init_379 : decode cX12_init 379 = .ok (.aload_n 0, 1) := by decide +kernel
theorem dX12_init_380 : decode cX12_init 380 = .ok (.bipush 40, 2) := by decide +kernel
theorem dX12_init_382 : decode cX12_init 382 = .ok (.newarray .int, 2) := by decide +kernel
theorem dX12_init_384 : decode cX12_init 384 = .ok (.putfield 79, 3) := by decide +kernel
theorem dX12_init_387 : decode cX12_init 387 = .ok (.aload_n 0, 1) := by decide +kernel
theorem dX12_init_388 : decode cX12_init 388 = .ok (.sipush 576, 3) := by decide +kernel
theorem dX12_init_391 : decode cX12_init 391 = .ok (.newarray .boolean, 2) := by decide +kernel
theorem dX12_init_393 : decode cX12_init 393 = .ok (.putfield 82, 3) := by decide +kernel
theorem dX12_init_396 : decode cX12_init 396 = .ok (.aload_n 0, 1) := by decide +kernel
theorem dX12_init_397 : decode cX12_init 397 = .ok (.bipush (-4), 2) := by decide +kernel
theorem dX12_init_399 : decode cX12_init 399 = .ok (.putfield 86, 3) := by decide +kernel
theorem dX12_init_402 : decode cX12_init 402 = .ok (.aload_n 0, 1) := by decide +kernel
theorem dX12_init_403 : decode cX12_init 403 = .ok (.iconst 4, 1) := by decide +kernel
theorem dX12_init_404 : decode cX12_init 404 = .ok (.newarray .int, 2) := by decide +kernel
theorem dX12_init_406 : decode cX12_init 406 = .ok (.putfield 90, 3) := by decide +kernel
theorem dX12_init_409 : decode cX12_init 409 = .ok (.aload_n 0, 1) := by decide +kernel
theorem dX12_init_410 : decode cX12_init 410 = .ok (.bipush 9, 2) := by decide +kernel
theorem dX12_init_412 : decode cX12_init 412 = .ok (.newarray .int, 2) := by decide +kernel
theorem dX12_init_414 : decode cX12_init 414 = .ok (.putfield 93, 3) := by decide +kernel
theorem dX12_init_417 : decode cX12_init 417 = .ok (.aload_n 0, 1) := by decide +kernel
theorem dX12_init_418 : decode cX12_init 418 = .ok (.iconst 3, 1) := by decide +kernel
theorem dX12_init_419 : decode cX12_init 419 = .ok (.newarray .int, 2) := by decide +kernel
theorem dX12_init_421 : decode cX12_init 421 = .ok (.putfield 96, 3) := by decide +kernel
theorem dX12_init_424 : decode cX12_init 424 = .ok (.aload_n 0, 1) := by decide +kernel
theorem dX12_init_425 : decode cX12_init 425 = .ok (.bipush 27, 2) := by decide +kernel
theorem dX12_init_427 : decode cX12_init 427 = .ok (.newarray .int, 2) := by decide +kernel
theorem dX12_init_429 : decode cX12_init 429 = .ok (.putfield 99, 3) := by decide +kernel
theorem dX12_init_432 : decode cX12_init 432 = .ok (.aload_n 0, 1) := by decide +kernel
theorem dX12_init_433 : decode cX12_init 433 = .ok (.iconst 4, 1) := by decide +kernel
theorem dX12_init_434 : decode cX12_init 434 = .ok (.newarray .int, 2) := by decide +kernel
theorem dX12_init_436 : decode cX12_init 436 = .ok (.putfield 102, 3) := by decide +kernel
theorem dX12_init_439 : decode cX12_init 439 = .ok (.aload_n 0, 1) := by decide +kernel
theorem dX12_init_440 : decode cX12_init 440 = .ok (.bipush 24, 2) := by decide +kernel
theorem dX12_init_442 : decode cX12_init 442 = .ok (.newarray .int, 2) := by decide +kernel
theorem dX12_init_444 : decode cX12_init 444 = .ok (.putfield 105, 3) := by decide +kernel
theorem dX12_init_447 : decode cX12_init 447 = .ok (.aload_n 0, 1) := by decide +kernel
theorem dX12_init_448 : decode cX12_init 448 = .ok (.bipush 12, 2) := by decide +kernel
theorem dX12_init_450 : decode cX12_init 450 = .ok (.newarray .int, 2) := by decide +kernel
theorem dX12_init_452 : decode cX12_init 452 = .ok (.putfield 108, 3) := by decide +kernel
theorem dX12_init_455 : decode cX12_init 455 = .ok (.aload_n 0, 1) := by decide +kernel
theorem dX12_init_456 : decode cX12_init 456 = .ok (.bipush 12, 2) := by decide +kernel
theorem dX12_init_458 : decode cX12_init 458 = .ok (.newarray .int, 2) := by decide +kernel
theorem dX12_init_460 : decode cX12_init 460 = .ok (.putfield 111, 3) := by decide +kernel
theorem dX12_init_463 : decode cX12_init 463 = .ok (.aload_n 0, 1) := by decide +kernel
theorem dX12_init_464 : decode cX12_init 464 = .ok (.bipush 12, 2) := by decide +kernel
theorem dX12_init_466 : decode cX12_init 466 = .ok (.newarray .int, 2) := by decide +kernel
theorem dX12_init_468 : decode cX12_init 468 = .ok (.putfield 114, 3) := by decide +kernel
theorem dX12_init_471 : decode cX12_init 471 = .ok (.aload_n 0, 1) := by decide +kernel
theorem dX12_init_472 : decode cX12_init 472 = .ok (.bipush 12, 2) := by decide +kernel
theorem dX12_init_474 : decode cX12_init 474 = .ok (.newarray .int, 2) := by decide +kernel
theorem dX12_init_476 : decode cX12_init 476 = .ok (.putfield 117, 3) := by decide +kernel
theorem dX12_init_479 : decode cX12_init 479 = .ok (.aload_n 0, 1) := by decide +kernel
theorem dX12_init_480 : decode cX12_init 480 = .ok (.iconst 4, 1) := by decide +kernel
theorem dX12_init_481 : decode cX12_init 481 = .ok (.newarray .int, 2) := by decide +kernel
theorem dX12_init_483 : decode cX12_init 483 = .ok (.dup, 1) := by decide +kernel
theorem dX12_init_484 : decode cX12_init 484 = .ok (.iconst 0, 1) := by decide +kernel
theorem dX12_init_485 : decode cX12_init 485 = .ok (.bipush (-4), 2) := by decide +kernel
theorem dX12_init_487 : decode cX12_init 487 = .ok (.iastore, 1) := by decide +kernel
theorem dX12_init_488 : decode cX12_init 488 = .ok (.dup, 1) := by decide +kernel
theorem dX12_init_489 : decode cX12_init 489 = .ok (.iconst 1, 1) := by decide +kernel
theorem dX12_init_490 : decode cX12_init 490 = .ok (.bipush (-4), 2) := by decide +kernel
theorem dX12_init_492 : decode cX12_init 492 = .ok (.iastore, 1) := by decide +kernel
theorem dX12_init_493 : decode cX12_init 493 = .ok (.dup, 1) := by decide +kernel
theorem dX12_init_494 : decode cX12_init 494 = .ok (.iconst 2, 1) := by decide +kernel
theorem dX12_init_495 : decode cX12_init 495 = .ok (.bipush (-4), 2) := by decide +kernel
theorem dX12_init_497 : decode cX12_init 497 = .ok (.iastore, 1) := by decide +kernel
theorem dX12_init_498 : decode cX12_init 498 = .ok (.dup, 1) := by decide +kernel
theorem dX12_init_499 : decode cX12_init 499 = .ok (.iconst 3, 1) := by decide +kernel
theorem dX12_init_500 : decode cX12_init 500 = .ok (.bipush (-4), 2) := by decide +kernel
theorem dX12_init_502 : decode cX12_init 502 = .ok (.iastore, 1) := by decide +kernel
theorem dX12_init_503 : decode cX12_init 503 = .ok (.putfield 120, 3) := by decide +kernel
theorem dX12_init_506 : decode cX12_init 506 = .ok (.aload_n 0, 1) := by decide +kernel
theorem dX12_init_507 : decode cX12_init 507 = .ok (.iconst 4, 1) := by decide +kernel
theorem dX12_init_508 : decode cX12_init 508 = .ok (.newarray .int, 2) := by decide +kernel
theorem dX12_init_510 : decode cX12_init 510 = .ok (.putfield 123, 3) := by decide +kernel
theorem dX12_init_513 : decode cX12_init 513 = .ok (.aload_n 0, 1) := by decide +kernel
theorem dX12_init_514 : decode cX12_init 514 = .ok (.sipush 384, 3) := by decide +kernel
theorem dX12_init_517 : decode cX12_init 517 = .ok (.newarray .int, 2) := by decide +kernel
theorem dX12_init_519 : decode cX12_init 519 = .ok (.putfield 126, 3) := by decide +kernel
theorem dX12_init_522 : decode cX12_init 522 = .ok (.aload_n 0, 1) := by decide +kernel
theorem dX12_init_523 : decode cX12_init 523 = .ok (.bipush 96, 2) := by decide +kernel
theorem dX12_init_525 : decode cX12_init 525 = .ok (.newarray .int, 2) := by decide +kernel
theorem dX12_init_527 : decode cX12_init 527 = .ok (.putfield 129, 3) := by decide +kernel
theorem dX12_init_530 : decode cX12_init 530 = .ok (.return_, 1) := by decide +kernel
set_option maxRecDepth 100000 in
set_option maxHeartbeats 4000000 in
theorem kl_X0 (X : XE) {pr0 : Nat → Nat → Bool} {σ : Mem} : ∀ (f c n : Nat) (x : Int), f + c = 24 → n = 23 + 3 * c → x = (c : Int) → bok X ({ frames := 2, cells := 95 - (16 + 1), slots := SL (95) - SL (16 + 1), locals := 32 } : Room) RX0 cX0_init 3 pr0 16 95 17 (fun τ => τ = σ) 61 [(2, vI x), (0, .ref (xad X 16)), (1, .ref (xad X 14))] [] n n (bset (bset (bset (bset (bset (bset (bset b0 1) 3) 5) 6) 7) 8) 0) (bpre c) σ := by
  intro f
  induction f with
  | zero =>
    intro c n x hf hn hx
    refine b_iload_n 0 (pc := 61) dX0_init_61 rfl rfl ?_
    refine b_bipush (pc := 62) dX0_init_62 rfl ?_
    refine b_icmp_ge (tgt := 86) (pc := 64) dX0_init_64 rfl ⟨by omega, by omega⟩ (r_lit rfl) (fun q => ?_) (fun q => absurd q (by omega))
    have hc : c = 24 := by omega
    subst hc
    exact b_vret (pc := 86) dX0_init_86 (by omega) (by omega) (by decide) (wh_of sh_16 rfl) (fun _ => wh_of sh_17 rfl) rfl
  | succ f ih =>
    intro c n x hf hn hx
    have hc : c < 24 := by omega
    obtain ⟨s0, s1, s2⟩ := sh_card2 n c hn hc
    refine b_iload_n 0 (pc := 61) dX0_init_61 rfl rfl ?_
    refine b_bipush (pc := 62) dX0_init_62 rfl ?_
    refine b_icmp_ge (tgt := 86) (pc := 64) dX0_init_64 rfl ⟨by omega, by omega⟩ (r_lit rfl) (fun q => absurd q (by omega)) (fun q => ?_)
    refine b_aload_n 1 (pc := 67) dX0_init_67 rfl rfl ?_
    refine b_getR (pc := 68) dX0_init_68 fl_X0_11 sh_16 rfl rfl (by omega) rfl ?_
    refine b_iload_n 0 (pc := 71) dX0_init_71 rfl rfl ?_
    refine b_new (ci := 1) (pc := 72) dX0_init_72 kl_X0_9 rfl bw_X1 bi_X1 in_X1 tyX1_ok rfl s0 rfl ⟨rfl, rfl⟩ (Nat.le_refl _) (by omega) (by omega) ?_
    refine b_dup (pc := 75) dX0_init_75 rfl ?_
    refine b_callN (jc := n) (nE' := n + 3) (As := []) (rest := [.ref (xad X n), vI x, .ref (xad X 17)]) (pc := 76) dX0_init_76 rfl im_X1_init co_X1_init in_X1 (fun _ h => h.2.1.2.2.2.1) ⟨by decide, by decide, rfl⟩ rfl ⟨rfl, rfl, rfl, rfl⟩ ⟨rfl, rfl⟩ rfl rfl rfl rfl (by omega) (Or.inl (by omega)) (by omega) (by omega) (fun pr _ => k_X1 X n s0 s1 s2) (fun τ hτ => ?_)
    subst hτ
    have hr := sh_cards c hc
    rw [sh_17, ← hn] at hr
    refine b_aast (mi0 := c) (t0 := 3) (ci2 := 1) (pc := 79) dX0_init_79 sh_17 (by decide) (by omega) (by decide) (by omega) rfl rfl s0 (by decide) (by omega) rfl hx hc hr ?_
    rw [bpre_s]
    refine b_iinc (L' := [(2, vI (x + 1)), (0, .ref (xad X 16)), (1, .ref (xad X 14))]) 0 (pc := 80) dX0_init_80 rfl rfl rfl ?_
    refine b_goto (tgt := 61) (pc := 83) dX0_init_83 rfl ?_
    exact ih (c + 1) (n + 3) (x + 1) (by omega) (by omega) (by omega)
set_option maxRecDepth 100000 in
set_option maxHeartbeats 4000000 in
theorem k_X0 (X : XE) {pr : Nat → Nat → Bool} {σ : Mem} : BT X yX0_init cX0_init 3 ({ frames := 2, cells := 95 - (16 + 1), slots := SL (95) - SL (16 + 1), locals := 32 } : Room) [.ref (xad X 16), .ref (xad X 14)] 16 95 pr σ (fun τ => τ = σ) := by
  refine bt_of (own := RX0) (L := [(0, .ref (xad X 16)), (1, .ref (xad X 14))]) 17 (by decide) rfl rfl rfl (Nat.le_of_ble_eq_true rfl) rfl ?_
  refine b_aload_n 0 (pc := 0) dX0_init_0 rfl rfl ?_
  refine b_objInit (pc := 1) dX0_init_1 ml_X0_3 ⟨rfl, rfl⟩ ?_
  refine b_aload_n 0 (pc := 4) dX0_init_4 rfl rfl ?_
  refine b_bipush (pc := 5) dX0_init_5 rfl ?_
  refine b_anew (C0 := RX1) (ci := 23) (t0 := 3) (pc := 7) dX0_init_7 kl_X0_9 (fun _ h => h.2.2.1) rfl sh_17 (by decide) (fun k hk => ⟨_, by have h := sh_cards k hk; rw [sh_17] at h; exact h⟩) rfl rfl ⟨rfl, rfl⟩ rfl (by decide) (by decide) rfl ?_
  refine b_putR (ty := tyX0 1) (pc := 10) dX0_init_10 fl_X0_11 fq_X0_1 sh_16 rfl rfl (by decide) (by decide) (by decide) rfl rfl ?_
  refine b_aload_n 0 (pc := 13) dX0_init_13 rfl rfl ?_
  refine b_sipush (pc := 14) dX0_init_14 rfl ?_
  refine b_newa (ty := .boolean) (ci := 21) (t0 := 1) (pc := 17) dX0_init_17 rfl ac_boolean rfl (fun _ _ h => h) rfl (by decide) sh_18 (by decide) rfl rfl ⟨rfl, rfl⟩ rfl (by decide) (by decide) ?_
  refine b_putR (ty := tyX0 3) (pc := 19) dX0_init_19 fl_X0_17 fq_X0_3 sh_16 rfl rfl (by decide) (by decide) (by decide) rfl rfl ?_
  refine b_aload_n 0 (pc := 22) dX0_init_22 rfl rfl ?_
  refine b_bipush (pc := 23) dX0_init_23 rfl ?_
  refine b_newa (ty := .int) (ci := 20) (t0 := 0) (pc := 25) dX0_init_25 rfl ac_int rfl (fun _ _ h => h) rfl (by decide) sh_19 (by decide) rfl rfl ⟨rfl, rfl⟩ rfl (by decide) (by decide) ?_
  refine b_putR (ty := tyX0 5) (pc := 27) dX0_init_27 fl_X0_21 fq_X0_5 sh_16 rfl rfl (by decide) (by decide) (by decide) rfl rfl ?_
  refine b_aload_n 0 (pc := 30) dX0_init_30 rfl rfl ?_
  refine b_bipush (pc := 31) dX0_init_31 rfl ?_
  refine b_newa (ty := .int) (ci := 20) (t0 := 0) (pc := 33) dX0_init_33 rfl ac_int rfl (fun _ _ h => h) rfl (by decide) sh_20 (by decide) rfl rfl ⟨rfl, rfl⟩ rfl (by decide) (by decide) ?_
  refine b_putR (ty := tyX0 6) (pc := 35) dX0_init_35 fl_X0_25 fq_X0_6 sh_16 rfl rfl (by decide) (by decide) (by decide) rfl rfl ?_
  refine b_aload_n 0 (pc := 38) dX0_init_38 rfl rfl ?_
  refine b_bipush (pc := 39) dX0_init_39 rfl ?_
  refine b_newa (ty := .int) (ci := 20) (t0 := 0) (pc := 41) dX0_init_41 rfl ac_int rfl (fun _ _ h => h) rfl (by decide) sh_21 (by decide) rfl rfl ⟨rfl, rfl⟩ rfl (by decide) (by decide) ?_
  refine b_putR (ty := tyX0 7) (pc := 43) dX0_init_43 fl_X0_28 fq_X0_7 sh_16 rfl rfl (by decide) (by decide) (by decide) rfl rfl ?_
  refine b_aload_n 0 (pc := 46) dX0_init_46 rfl rfl ?_
  refine b_bipush (pc := 47) dX0_init_47 rfl ?_
  refine b_newa (ty := .int) (ci := 20) (t0 := 0) (pc := 49) dX0_init_49 rfl ac_int rfl (fun _ _ h => h) rfl (by decide) sh_22 (by decide) rfl rfl ⟨rfl, rfl⟩ rfl (by decide) (by decide) ?_
  refine b_putR (ty := tyX0 8) (pc := 51) dX0_init_51 fl_X0_31 fq_X0_8 sh_16 rfl rfl (by decide) (by decide) (by decide) rfl rfl ?_
  refine b_aload_n 0 (pc := 54) dX0_init_54 rfl rfl ?_
  refine b_aload_n 1 (pc := 55) dX0_init_55 rfl rfl ?_
  refine b_putR (ty := tyX0 0) (pc := 56) dX0_init_56 fl_X0_34 fq_X0_0 sh_16 rfl rfl (by decide) (by decide) (by decide) rfl rfl ?_
  refine b_iconst (pc := 59) dX0_init_59 ?_
  refine b_istore_n (L' := [(2, vI 0), (0, .ref (xad X 16)), (1, .ref (xad X 14))]) (pc := 60) dX0_init_60 rfl rfl rfl ?_
  have h := kl_X0 X (pr0 := pr) (σ := σ) 24 0 23 0 rfl rfl rfl
  rw [← bpre_0] at h
  exact h
set_option maxRecDepth 100000 in
set_option maxHeartbeats 4000000 in
theorem ke_X11 (X : XE) {pr0 : Nat → Nat → Bool} {σ : Mem} {post : Mem → Prop} (hp : post σ) (x : Int) : bok X ({ frames := 4, cells := 122 - (0 + 1), slots := SL (122) - SL (0 + 1), locals := 91 } : Room) RX11 cX11_init 2 pr0 0 122 108 post 157 [(1, vI x), (0, .ref (xad X 0))] [] 117 117 (bset (bset (bset (bset (bset (bset (bset (bset (bset (bset b0 0) 1) 2) 3) 4) 5) 6) 7) 8) 9) (bpre 4) σ := by
  refine b_aload_n 1 (pc := 157) dX11_init_157 rfl rfl ?_
  refine b_bipush (pc := 158) dX11_init_158 rfl ?_
  refine b_newa (ty := .int) (ci := 20) (t0 := 0) (pc := 160) dX11_init_160 rfl ac_int rfl (fun _ _ h => h) rfl (by decide) sh_117 (by decide) rfl rfl ⟨rfl, rfl⟩ rfl (by decide) (by decide) ?_
  refine b_putR (ty := tyX11 10) (pc := 162) dX11_init_162 fl_X11_87 fq_X11_10 sh_0 rfl rfl (by decide) (by decide) (by decide) rfl rfl ?_
  refine b_aload_n 1 (pc := 165) dX11_init_165 rfl rfl ?_
  refine b_bipush (pc := 166) dX11_init_166 rfl ?_
  refine b_newa (ty := .int) (ci := 20) (t0 := 0) (pc := 168) dX11_init_168 rfl ac_int rfl (fun _ _ h => h) rfl (by decide) sh_118 (by decide) rfl rfl ⟨rfl, rfl⟩ rfl (by decide) (by decide) ?_
  refine b_putR (ty := tyX11 11) (pc := 170) dX11_init_170 fl_X11_91 fq_X11_11 sh_0 rfl rfl (by decide) (by decide) (by decide) rfl rfl ?_
  refine b_aload_n 1 (pc := 173) dX11_init_173 rfl rfl ?_
  refine b_bipush (pc := 174) dX11_init_174 rfl ?_
  refine b_newa (ty := .int) (ci := 20) (t0 := 0) (pc := 176) dX11_init_176 rfl ac_int rfl (fun _ _ h => h) rfl (by decide) sh_119 (by decide) rfl rfl ⟨rfl, rfl⟩ rfl (by decide) (by decide) ?_
  refine b_putR (ty := tyX11 12) (pc := 178) dX11_init_178 fl_X11_94 fq_X11_12 sh_0 rfl rfl (by decide) (by decide) (by decide) rfl rfl ?_
  refine b_aload_n 1 (pc := 181) dX11_init_181 rfl rfl ?_
  refine b_bipush (pc := 182) dX11_init_182 rfl ?_
  refine b_newa (ty := .int) (ci := 20) (t0 := 0) (pc := 184) dX11_init_184 rfl ac_int rfl (fun _ _ h => h) rfl (by decide) sh_120 (by decide) rfl rfl ⟨rfl, rfl⟩ rfl (by decide) (by decide) ?_
  refine b_putR (ty := tyX11 13) (pc := 186) dX11_init_186 fl_X11_97 fq_X11_13 sh_0 rfl rfl (by decide) (by decide) (by decide) rfl rfl ?_
  refine b_aload_n 1 (pc := 189) dX11_init_189 rfl rfl ?_
  refine b_bipush (pc := 190) dX11_init_190 rfl ?_
  refine b_newa (ty := .boolean) (ci := 21) (t0 := 1) (pc := 192) dX11_init_192 rfl ac_boolean rfl (fun _ _ h => h) rfl (by decide) sh_121 (by decide) rfl rfl ⟨rfl, rfl⟩ rfl (by decide) (by decide) ?_
  refine b_putR (ty := tyX11 14) (pc := 194) dX11_init_194 fl_X11_100 fq_X11_14 sh_0 rfl rfl (by decide) (by decide) (by decide) rfl rfl ?_
  exact b_vret (pc := 197) dX11_init_197 rfl rfl (by decide) (wh_of sh_0 rfl) (fun _ => wh_of sh_108 rfl) hp
set_option maxRecDepth 100000 in
set_option maxHeartbeats 4000000 in
theorem kl_X11 (X : XE) {pr0 : Nat → Nat → Bool} {σ : Mem} {post : Mem → Prop} (hp : post σ) : ∀ (f c n : Nat) (x : Int), f + c = 4 → n = 109 + 2 * c → x = (c : Int) → bok X ({ frames := 4, cells := 122 - (0 + 1), slots := SL (122) - SL (0 + 1), locals := 91 } : Room) RX11 cX11_init 2 pr0 0 122 108 post 133 [(1, vI x), (0, .ref (xad X 0))] [] n n (bset (bset (bset (bset (bset (bset (bset (bset (bset (bset b0 0) 1) 2) 3) 4) 5) 6) 7) 8) 9) (bpre c) σ := by
  intro f
  induction f with
  | zero =>
    intro c n x hf hn hx
    refine b_iload_n 0 (pc := 133) dX11_init_133 rfl rfl ?_
    refine b_iconst (pc := 134) dX11_init_134 ?_
    refine b_icmp_ge (tgt := 157) (pc := 135) dX11_init_135 rfl ⟨by omega, by omega⟩ (r_lit rfl) (fun q => ?_) (fun q => absurd q (by omega))
    have hc : c = 4 := by omega
    subst hc
    subst hn
    exact ke_X11 X hp x
  | succ f ih =>
    intro c n x hf hn hx
    have hc : c < 4 := by omega
    obtain ⟨s0, s1⟩ := sh_sheet2 n c hn hc
    refine b_iload_n 0 (pc := 133) dX11_init_133 rfl rfl ?_
    refine b_iconst (pc := 134) dX11_init_134 ?_
    refine b_icmp_ge (tgt := 157) (pc := 135) dX11_init_135 rfl ⟨by omega, by omega⟩ (r_lit rfl) (fun q => absurd q (by omega)) (fun q => ?_)
    refine b_aload_n 1 (pc := 138) dX11_init_138 rfl rfl ?_
    refine b_getR (pc := 139) dX11_init_139 fl_X11_82 sh_0 rfl rfl (by omega) rfl ?_
    refine b_iload_n 0 (pc := 142) dX11_init_142 rfl rfl ?_
    refine b_new (ci := 8) (pc := 143) dX11_init_143 kl_X11_80 rfl bw_X8 bi_X8 in_X8 tyX8_ok rfl s0 rfl ⟨rfl, rfl⟩ (Nat.le_refl _) (by omega) (by omega) ?_
    refine b_dup (pc := 146) dX11_init_146 rfl ?_
    refine b_callN (jc := n) (nE' := n + 2) (As := []) (rest := [.ref (xad X n), vI x, .ref (xad X 108)]) (pc := 147) dX11_init_147 rfl im_X8_init co_X8_init in_X8 (fun _ h => h.2.1.2.2.2.2.2.2) ⟨by decide, by decide, rfl⟩ rfl ⟨rfl, rfl, rfl, rfl⟩ ⟨rfl, rfl⟩ rfl rfl rfl rfl (by omega) (Or.inl (by omega)) (by omega) (by omega) (fun pr _ => k_X8 X n s0 s1) (fun τ hτ => ?_)
    subst hτ
    have hr := sh_sheets c hc
    rw [sh_108, ← hn] at hr
    refine b_aast (mi0 := c) (t0 := 4) (ci2 := 8) (pc := 150) dX11_init_150 sh_108 (by decide) (by omega) (by decide) (by omega) rfl rfl s0 (by decide) (by omega) rfl hx hc hr ?_
    rw [bpre_s]
    refine b_iinc (L' := [(1, vI (x + 1)), (0, .ref (xad X 0))]) 0 (pc := 151) dX11_init_151 rfl rfl rfl ?_
    refine b_goto (tgt := 133) (pc := 154) dX11_init_154 rfl ?_
    exact ih (c + 1) (n + 2) (x + 1) (by omega) (by omega) (by omega)
set_option maxRecDepth 100000 in
set_option maxHeartbeats 4000000 in
theorem k_X11 (X : XE) {pr : Nat → Nat → Bool} {σ : Mem} (h0 : 0 ≤ σ 3 4) (h1 : σ 3 4 ≤ 16) : BT X yX11_init cX11_init 2 ({ frames := 4, cells := 122 - (0 + 1), slots := SL (122) - SL (0 + 1), locals := 91 } : Room) [.ref (xad X 0)] 0 122 pr σ (fun τ => (∀ j k, j ≠ 15 → τ j k = σ j k) ∧ ∀ r : Nat, r < 20 → τ 15 r = ruleF σ r (σ 14 2)) := by
  refine bt_of (own := RX11) (L := [(0, .ref (xad X 0))]) 108 (by decide) rfl rfl rfl (Nat.le_of_ble_eq_true rfl) rfl ?_
  refine b_aload_n 0 (pc := 0) dX11_init_0 rfl rfl ?_
  refine b_objInit (pc := 1) dX11_init_1 ml_X11_1 ⟨rfl, rfl⟩ ?_
  refine b_aload_n 0 (pc := 4) dX11_init_4 rfl rfl ?_
  refine b_new (ci := 9) (pc := 5) dX11_init_5 kl_X11_7 rfl bw_X9 bi_X9 in_X9 tyX9_ok rfl sh_1 rfl ⟨rfl, rfl⟩ (Nat.le_refl _) (by decide) (by decide) ?_
  refine b_dup (pc := 8) dX11_init_8 rfl ?_
  refine b_callN (jc := 1) (nE' := 3) (As := []) (rest := [.ref (xad X 1), .ref (xad X 0)]) (pc := 9) dX11_init_9 rfl im_X9_init co_X9_init in_X9 (fun _ h => h.2.1.1) ⟨by decide, by decide, rfl⟩ rfl ⟨rfl, rfl, rfl, rfl⟩ ⟨rfl, rfl⟩ rfl rfl rfl rfl (by decide) (Or.inr (by decide)) (by decide) (by decide) (fun pr hq => k_X9 X) (fun τ1 hτ1 => ?_)
  subst τ1
  refine b_putR (ty := tyX11 0) (pc := 12) dX11_init_12 fl_X11_10 fq_X11_0 sh_0 rfl rfl (by decide) (by decide) (by decide) rfl rfl ?_
  refine b_aload_n 0 (pc := 15) dX11_init_15 rfl rfl ?_
  refine b_new (ci := 7) (pc := 16) dX11_init_16 kl_X11_16 rfl bw_X7 bi_X7 in_X7 tyX7_ok rfl sh_3 rfl ⟨rfl, rfl⟩ (Nat.le_refl _) (by decide) (by decide) ?_
  refine b_dup (pc := 19) dX11_init_19 rfl ?_
  refine b_callN (jc := 3) (nE' := 8) (As := []) (rest := [.ref (xad X 3), .ref (xad X 0)]) (pc := 20) dX11_init_20 rfl im_X7_init co_X7_init in_X7 (fun _ h => h.2.1.2.1) ⟨by decide, by decide, rfl⟩ rfl ⟨rfl, rfl, rfl, rfl⟩ ⟨rfl, rfl⟩ rfl rfl rfl rfl (by decide) (Or.inr (by decide)) (by decide) (by decide) (fun pr hq => k_X7a X) (fun τ3 hτ3 => ?_)
  subst τ3
  refine b_putR (ty := tyX11 1) (pc := 23) dX11_init_23 fl_X11_19 fq_X11_1 sh_0 rfl rfl (by decide) (by decide) (by decide) rfl rfl ?_
  refine b_aload_n 0 (pc := 26) dX11_init_26 rfl rfl ?_
  refine b_new (ci := 6) (pc := 27) dX11_init_27 kl_X11_23 rfl bw_X6 bi_X6 in_X6 tyX6_ok rfl sh_8 rfl ⟨rfl, rfl⟩ (Nat.le_refl _) (by decide) (by decide) ?_
  refine b_dup (pc := 30) dX11_init_30 rfl ?_
  refine b_aload_n 0 (pc := 31) dX11_init_31 rfl rfl ?_
  refine b_getR (pc := 32) dX11_init_32 fl_X11_10 sh_0 rfl rfl (by decide) rfl ?_
  refine b_call (jc := 8) (nE' := 14) (As := [.ref (xad X 1)]) (rest := [.ref (xad X 8), .ref (xad X 0)]) (pc := 35) dX11_init_35 rfl im_X6_init co_X6_init in_X6 ml_X11_25 ⟨by decide, by decide, rfl⟩ rfl ⟨rfl, rfl, rfl, rfl⟩ ⟨rfl, rfl⟩ rfl rfl rfl rfl (by decide) (Or.inr (by decide)) (by decide) (by decide) (fun pr hq => k_X6 X) (fun τ8 hτ8 => ?_)
  subst τ8
  refine b_putR (ty := tyX11 2) (pc := 38) dX11_init_38 fl_X11_28 fq_X11_2 sh_0 rfl rfl (by decide) (by decide) (by decide) rfl rfl ?_
  refine b_aload_n 0 (pc := 41) dX11_init_41 rfl rfl ?_
  refine b_new (ci := 5) (pc := 42) dX11_init_42 kl_X11_32 rfl bw_X5 bi_X5 in_X5 tyX5_ok rfl sh_14 rfl ⟨rfl, rfl⟩ (Nat.le_refl _) (by decide) (by decide) ?_
  refine b_dup (pc := 45) dX11_init_45 rfl ?_
  refine b_aload_n 0 (pc := 46) dX11_init_46 rfl rfl ?_
  refine b_getR (pc := 47) dX11_init_47 fl_X11_19 sh_0 rfl rfl (by decide) rfl ?_
  refine b_call (jc := 14) (nE' := 16) (As := [.ref (xad X 3)]) (rest := [.ref (xad X 14), .ref (xad X 0)]) (pc := 50) dX11_init_50 rfl im_X5_init co_X5_init in_X5 ml_X11_34 ⟨by decide, by decide, rfl⟩ rfl ⟨rfl, rfl, rfl, rfl⟩ ⟨rfl, rfl⟩ rfl rfl rfl rfl (by decide) (Or.inr (by decide)) (by decide) (by decide) (fun pr hq => k_X5 X h0 h1 (fun i z1 z2 => hq i (by omega) z2 (by omega))) (fun τ14 hτ14 => ?_)
  have hp := hτ14
  refine b_putR (ty := tyX11 3) (pc := 53) dX11_init_53 fl_X11_37 fq_X11_3 sh_0 rfl rfl (by decide) (by decide) (by decide) rfl rfl ?_
  refine b_aload_n 0 (pc := 56) dX11_init_56 rfl rfl ?_
  refine b_new (ci := 0) (pc := 57) dX11_init_57 kl_X11_41 rfl bw_X0 bi_X0 in_X0 tyX0_ok rfl sh_16 rfl ⟨rfl, rfl⟩ (Nat.le_refl _) (by decide) (by decide) ?_
  refine b_dup (pc := 60) dX11_init_60 rfl ?_
  refine b_aload_n 0 (pc := 61) dX11_init_61 rfl rfl ?_
  refine b_getR (pc := 62) dX11_init_62 fl_X11_37 sh_0 rfl rfl (by decide) rfl ?_
  refine b_call (jc := 16) (nE' := 95) (As := [.ref (xad X 14)]) (rest := [.ref (xad X 16), .ref (xad X 0)]) (pc := 65) dX11_init_65 rfl im_X0_init co_X0_init in_X0 ml_X11_43 ⟨by decide, by decide, rfl⟩ rfl ⟨rfl, rfl, rfl, rfl⟩ ⟨rfl, rfl⟩ rfl rfl rfl rfl (by decide) (Or.inr (by decide)) (by decide) (by decide) (fun pr hq => k_X0 X) (fun τ16 hτ16 => ?_)
  subst τ16
  refine b_putR (ty := tyX11 4) (pc := 68) dX11_init_68 fl_X11_46 fq_X11_4 sh_0 rfl rfl (by decide) (by decide) (by decide) rfl rfl ?_
  refine b_aload_n 0 (pc := 71) dX11_init_71 rfl rfl ?_
  refine b_new (ci := 10) (pc := 72) dX11_init_72 kl_X11_50 rfl bw_X10 bi_X10 in_X10 tyX10_ok rfl sh_95 rfl ⟨rfl, rfl⟩ (Nat.le_refl _) (by decide) (by decide) ?_
  refine b_dup (pc := 75) dX11_init_75 rfl ?_
  refine b_callN (jc := 95) (nE' := 99) (As := []) (rest := [.ref (xad X 95), .ref (xad X 0)]) (pc := 76) dX11_init_76 rfl im_X10_init co_X10_init in_X10 (fun _ h => h.2.1.2.2.2.2.1) ⟨by decide, by decide, rfl⟩ rfl ⟨rfl, rfl, rfl, rfl⟩ ⟨rfl, rfl⟩ rfl rfl rfl rfl (by decide) (Or.inr (by decide)) (by decide) (by decide) (fun pr hq => k_X10 X) (fun τ95 hτ95 => ?_)
  subst τ95
  refine b_putR (ty := tyX11 5) (pc := 79) dX11_init_79 fl_X11_53 fq_X11_5 sh_0 rfl rfl (by decide) (by decide) (by decide) rfl rfl ?_
  refine b_aload_n 0 (pc := 82) dX11_init_82 rfl rfl ?_
  refine b_new (ci := 3) (pc := 83) dX11_init_83 kl_X11_57 rfl bw_X3 bi_X3 in_X3 tyX3_ok rfl sh_99 rfl ⟨rfl, rfl⟩ (Nat.le_refl _) (by decide) (by decide) ?_
  refine b_dup (pc := 86) dX11_init_86 rfl ?_
  refine b_callN (jc := 99) (nE' := 103) (As := []) (rest := [.ref (xad X 99), .ref (xad X 0)]) (pc := 87) dX11_init_87 rfl im_X3_init co_X3_init in_X3 (fun _ h => h.2.1.2.2.2.2.2.1) ⟨by decide, by decide, rfl⟩ rfl ⟨rfl, rfl, rfl, rfl⟩ ⟨rfl, rfl⟩ rfl rfl rfl rfl (by decide) (Or.inr (by decide)) (by decide) (by decide) (fun pr hq => k_X3 X) (fun τ99 hτ99 => ?_)
  subst τ99
  refine b_putR (ty := tyX11 6) (pc := 90) dX11_init_90 fl_X11_60 fq_X11_6 sh_0 rfl rfl (by decide) (by decide) (by decide) rfl rfl ?_
  refine b_aload_n 0 (pc := 93) dX11_init_93 rfl rfl ?_
  refine b_new (ci := 4) (pc := 94) dX11_init_94 kl_X11_64 rfl bw_X4 bi_X4 in_X4 tyX4_ok rfl sh_103 rfl ⟨rfl, rfl⟩ (Nat.le_refl _) (by decide) (by decide) ?_
  refine b_dup (pc := 97) dX11_init_97 rfl ?_
  refine b_aload_n 0 (pc := 98) dX11_init_98 rfl rfl ?_
  refine b_getR (pc := 99) dX11_init_99 fl_X11_46 sh_0 rfl rfl (by decide) rfl ?_
  refine b_call (jc := 103) (nE' := 105) (As := [.ref (xad X 16)]) (rest := [.ref (xad X 103), .ref (xad X 0)]) (pc := 102) dX11_init_102 rfl im_X4_init co_X4_init in_X4 ml_X11_66 ⟨by decide, by decide, rfl⟩ rfl ⟨rfl, rfl, rfl, rfl⟩ ⟨rfl, rfl⟩ rfl rfl rfl rfl (by decide) (Or.inr (by decide)) (by decide) (by decide) (fun pr hq => k_X4 X) (fun τ103 hτ103 => ?_)
  subst τ103
  refine b_putR (ty := tyX11 7) (pc := 105) dX11_init_105 fl_X11_69 fq_X11_7 sh_0 rfl rfl (by decide) (by decide) (by decide) rfl rfl ?_
  refine b_aload_n 0 (pc := 108) dX11_init_108 rfl rfl ?_
  refine b_new (ci := 2) (pc := 109) dX11_init_109 kl_X11_73 rfl bw_X2 bi_X2 in_X2 tyX2_ok rfl sh_105 rfl ⟨rfl, rfl⟩ (Nat.le_refl _) (by decide) (by decide) ?_
  refine b_dup (pc := 112) dX11_init_112 rfl ?_
  refine b_aload_n 0 (pc := 113) dX11_init_113 rfl rfl ?_
  refine b_getR (pc := 114) dX11_init_114 fl_X11_46 sh_0 rfl rfl (by decide) rfl ?_
  refine b_call (jc := 105) (nE' := 108) (As := [.ref (xad X 16)]) (rest := [.ref (xad X 105), .ref (xad X 0)]) (pc := 117) dX11_init_117 rfl im_X2_init co_X2_init in_X2 ml_X11_75 ⟨by decide, by decide, rfl⟩ rfl ⟨rfl, rfl, rfl, rfl⟩ ⟨rfl, rfl⟩ rfl rfl rfl rfl (by decide) (Or.inr (by decide)) (by decide) (by decide) (fun pr hq => k_X2 X) (fun τ105 hτ105 => ?_)
  subst τ105
  refine b_putR (ty := tyX11 8) (pc := 120) dX11_init_120 fl_X11_76 fq_X11_8 sh_0 rfl rfl (by decide) (by decide) (by decide) rfl rfl ?_
  refine b_aload_n 0 (pc := 123) dX11_init_123 rfl rfl ?_
  refine b_iconst (pc := 124) dX11_init_124 ?_
  refine b_anew (C0 := RX8) (ci := 24) (t0 := 4) (pc := 125) dX11_init_125 kl_X11_80 (fun _ h => h.2.2.2) rfl sh_108 (by decide) (fun k hk => ⟨_, by have h := sh_sheets k hk; rw [sh_108] at h; exact h⟩) rfl rfl ⟨rfl, rfl⟩ rfl (by decide) (by decide) rfl ?_
  refine b_putR (ty := tyX11 9) (pc := 128) dX11_init_128 fl_X11_82 fq_X11_9 sh_0 rfl rfl (by decide) (by decide) (by decide) rfl rfl ?_
  refine b_iconst (pc := 131) dX11_init_131 ?_
  refine b_istore_n (L' := [(1, vI 0), (0, .ref (xad X 0))]) (pc := 132) dX11_init_132 rfl rfl rfl ?_
  have h := kl_X11 X (pr0 := pr) (σ := τ14) (post := fun τ => (∀ j k, j ≠ 15 → τ j k = σ j k) ∧ ∀ r : Nat, r < 20 → τ 15 r = ruleF σ r (σ 14 2)) hp 4 0 109 0 rfl rfl rfl
  rw [← bpre_0] at h
  exact h
