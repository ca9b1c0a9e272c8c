/-! THE LITERALS: length and charAt of the six words of the language -/
theorem dJ0_length_8abf5_0 : decode cJ0_length_8abf5 0 = .ok (.aload_n 0, 1) := by decide +kernel
theorem dJ0_length_8abf5_1 : decode cJ0_length_8abf5 1 = .ok (.getfield 9, 3) := by decide +kernel
theorem dJ0_length_8abf5_4 : decode cJ0_length_8abf5 4 = .ok (.arraylength, 1) := by decide +kernel
theorem dJ0_length_8abf5_5 : decode cJ0_length_8abf5 5 = .ok (.aload_n 0, 1) := by decide +kernel
theorem dJ0_length_8abf5_6 : decode cJ0_length_8abf5 6 = .ok (.invokevirtual 335, 3) := by decide +kernel
theorem dJ0_length_8abf5_9 : decode cJ0_length_8abf5 9 = .ok (.ishr, 1) := by decide +kernel
theorem dJ0_length_8abf5_10 : decode cJ0_length_8abf5 10 = .ok (.ireturn, 1) := by decide +kernel
theorem dJ0_charAt_5068e_0 : decode cJ0_charAt_5068e 0 = .ok (.aload_n 0, 1) := by decide +kernel
theorem dJ0_charAt_5068e_1 : decode cJ0_charAt_5068e 1 = .ok (.invokevirtual 492, 3) := by decide +kernel
theorem dJ0_charAt_5068e_4 : decode cJ0_charAt_5068e 4 = .ok (.ifCond .eq 12, 3) := by decide +kernel
theorem dJ0_charAt_5068e_7 : decode cJ0_charAt_5068e 7 = .ok (.aload_n 0, 1) := by decide +kernel
theorem dJ0_charAt_5068e_8 : decode cJ0_charAt_5068e 8 = .ok (.getfield 9, 3) := by decide +kernel
theorem dJ0_charAt_5068e_11 : decode cJ0_charAt_5068e 11 = .ok (.iload_n 1, 1) := by decide +kernel
theorem dJ0_charAt_5068e_12 : decode cJ0_charAt_5068e 12 = .ok (.invokestatic 495, 3) := by decide +kernel
theorem dJ0_charAt_5068e_15 : decode cJ0_charAt_5068e 15 = .ok (.ireturn, 1) := by decide +kernel
theorem dJ0_charAt_5068e_16 : decode cJ0_charAt_5068e 16 = .ok (.aload_n 0, 1) := by decide +kernel
theorem dJ0_charAt_5068e_17 : decode cJ0_charAt_5068e 17 = .ok (.getfield 9, 3) := by decide +kernel
theorem dJ0_charAt_5068e_20 : decode cJ0_charAt_5068e 20 = .ok (.iload_n 1, 1) := by decide +kernel
theorem dJ0_charAt_5068e_21 : decode cJ0_charAt_5068e 21 = .ok (.invokestatic 498, 3) := by decide +kernel
theorem dJ0_charAt_5068e_24 : decode cJ0_charAt_5068e 24 = .ok (.ireturn, 1) := by decide +kernel
theorem dJ0_coder_7d493_0 : decode cJ0_coder_7d493 0 = .ok (.getstatic 38, 3) := by decide +kernel
theorem dJ0_coder_7d493_3 : decode cJ0_coder_7d493 3 = .ok (.ifCond .eq 10, 3) := by decide +kernel
theorem dJ0_coder_7d493_6 : decode cJ0_coder_7d493 6 = .ok (.aload_n 0, 1) := by decide +kernel
theorem dJ0_coder_7d493_7 : decode cJ0_coder_7d493 7 = .ok (.getfield 15, 3) := by decide +kernel
theorem dJ0_coder_7d493_10 : decode cJ0_coder_7d493 10 = .ok (.goto 4, 3) := by decide +kernel
theorem dJ0_coder_7d493_13 : decode cJ0_coder_7d493 13 = .ok (.iconst 1, 1) := by decide +kernel
theorem dJ0_coder_7d493_14 : decode cJ0_coder_7d493 14 = .ok (.ireturn, 1) := by decide +kernel
theorem dJ0_isLatin1_aae02_0 : decode cJ0_isLatin1_aae02 0 = .ok (.getstatic 38, 3) := by decide +kernel
theorem dJ0_isLatin1_aae02_3 : decode cJ0_isLatin1_aae02 3 = .ok (.ifCond .eq 14, 3) := by decide +kernel
theorem dJ0_isLatin1_aae02_6 : decode cJ0_isLatin1_aae02 6 = .ok (.aload_n 0, 1) := by decide +kernel
theorem dJ0_isLatin1_aae02_7 : decode cJ0_isLatin1_aae02 7 = .ok (.getfield 15, 3) := by decide +kernel
theorem dJ0_isLatin1_aae02_10 : decode cJ0_isLatin1_aae02 10 = .ok (.ifCond .ne 7, 3) := by decide +kernel
theorem dJ0_isLatin1_aae02_13 : decode cJ0_isLatin1_aae02 13 = .ok (.iconst 1, 1) := by decide +kernel
theorem dJ0_isLatin1_aae02_14 : decode cJ0_isLatin1_aae02 14 = .ok (.goto 4, 3) := by decide +kernel
theorem dJ0_isLatin1_aae02_17 : decode cJ0_isLatin1_aae02 17 = .ok (.iconst 0, 1) := by decide +kernel
theorem dJ0_isLatin1_aae02_18 : decode cJ0_isLatin1_aae02 18 = .ok (.ireturn, 1) := by decide +kernel
theorem dJ0_checkIndex_df160_0 : decode cJ0_checkIndex_df160 0 = .ok (.iload_n 0, 1) := by decide +kernel
theorem dJ0_checkIndex_df160_1 : decode cJ0_checkIndex_df160 1 = .ok (.iload_n 1, 1) := by decide +kernel
theorem dJ0_checkIndex_df160_2 : decode cJ0_checkIndex_df160 2 = .ok (.getstatic 1053, 3) := by decide +kernel
theorem dJ0_checkIndex_df160_5 : decode cJ0_checkIndex_df160 5 = .ok (.invokestatic 1059, 3) := by decide +kernel
theorem dJ0_checkIndex_df160_8 : decode cJ0_checkIndex_df160 8 = .ok (.pop, 1) := by decide +kernel
theorem dJ0_checkIndex_df160_9 : decode cJ0_checkIndex_df160 9 = .ok (.return_, 1) := by decide +kernel
theorem dJ1_charAt_3b067_0 : decode cJ1_charAt_3b067 0 = .ok (.iload_n 1, 1) := by decide +kernel
theorem dJ1_charAt_3b067_1 : decode cJ1_charAt_3b067 1 = .ok (.aload_n 0, 1) := by decide +kernel
theorem dJ1_charAt_3b067_2 : decode cJ1_charAt_3b067 2 = .ok (.arraylength, 1) := by decide +kernel
theorem dJ1_charAt_3b067_3 : decode cJ1_charAt_3b067 3 = .ok (.invokestatic 9, 3) := by decide +kernel
theorem dJ1_charAt_3b067_6 : decode cJ1_charAt_3b067 6 = .ok (.aload_n 0, 1) := by decide +kernel
theorem dJ1_charAt_3b067_7 : decode cJ1_charAt_3b067 7 = .ok (.iload_n 1, 1) := by decide +kernel
theorem dJ1_charAt_3b067_8 : decode cJ1_charAt_3b067 8 = .ok (.baload, 1) := by decide +kernel
theorem dJ1_charAt_3b067_9 : decode cJ1_charAt_3b067 9 = .ok (.sipush 255, 3) := by decide +kernel
theorem dJ1_charAt_3b067_12 : decode cJ1_charAt_3b067 12 = .ok (.iand, 1) := by decide +kernel
theorem dJ1_charAt_3b067_13 : decode cJ1_charAt_3b067 13 = .ok (.i2c, 1) := by decide +kernel
theorem dJ1_charAt_3b067_14 : decode cJ1_charAt_3b067 14 = .ok (.ireturn, 1) := by decide +kernel
theorem dJ3_checkIndex_8e157_0 : decode cJ3_checkIndex_8e157 0 = .ok (.iload_n 0, 1) := by decide +kernel
theorem dJ3_checkIndex_8e157_1 : decode cJ3_checkIndex_8e157 1 = .ok (.ifCond .lt 8, 3) := by decide +kernel
theorem dJ3_checkIndex_8e157_4 : decode cJ3_checkIndex_8e157 4 = .ok (.iload_n 0, 1) := by decide +kernel
theorem dJ3_checkIndex_8e157_5 : decode cJ3_checkIndex_8e157 5 = .ok (.iload_n 1, 1) := by decide +kernel
theorem dJ3_checkIndex_8e157_6 : decode cJ3_checkIndex_8e157 6 = .ok (.if_icmp .lt 10, 3) := by decide +kernel
theorem dJ3_checkIndex_8e157_9 : decode cJ3_checkIndex_8e157 9 = .ok (.aload_n 2, 1) := by decide +kernel
theorem dJ3_checkIndex_8e157_10 : decode cJ3_checkIndex_8e157 10 = .ok (.iload_n 0, 1) := by decide +kernel
theorem dJ3_checkIndex_8e157_11 : decode cJ3_checkIndex_8e157 11 = .ok (.iload_n 1, 1) := by decide +kernel
theorem dJ3_checkIndex_8e157_12 : decode cJ3_checkIndex_8e157 12 = .ok (.invokestatic 95, 3) := by decide +kernel
theorem dJ3_checkIndex_8e157_15 : decode cJ3_checkIndex_8e157 15 = .ok (.athrow, 1) := by decide +kernel
theorem dJ3_checkIndex_8e157_16 : decode cJ3_checkIndex_8e157 16 = .ok (.iload_n 0, 1) := by decide +kernel
theorem dJ3_checkIndex_8e157_17 : decode cJ3_checkIndex_8e157 17 = .ok (.ireturn, 1) := by decide +kernel
theorem fs_9 : Cond.fieldLink RJ0 9 "java/lang/String" "value" "[B" ∈ BIG := big_7 (i := 38) rfl rfl
theorem fs_15 : Cond.fieldLink RJ0 15 "java/lang/String" "coder" "B" ∈ BIG := big_7 (i := 39) rfl rfl
theorem fs_38 : Cond.fieldLink RJ0 38 RJ0 "COMPACT_STRINGS" "Z" ∈ BIG := big_3 (i := 18) rfl rfl
theorem fs_1053 : Cond.fieldLink RJ0 1053 RJ3 "SIOOBE_FORMATTER" "Ljava/util/function/BiFunction;" ∈ BIG := big_3 (i := 34) rfl rfl
def kL (i : Nat) : Int := (lenK.getD i 0 : Nat)
def kC (i : Nat) (k : Int) : Int := ((bytK.getD i []).getD k.toNat 0).toInt
theorem kL_rng : ∀ i, i < 6 → 0 ≤ kL i ∧ kL i ≤ 6 := by decide
theorem kL_shr : ∀ i, i < 6 → ishr (kL i) 0 = kL i := by decide +kernel
theorem kC_tab : ∀ i, i < 6 → ∀ j, j < lenK.getD i 0 → (iand (kC i j) 255 = kC i j ∧ ((Int32.ofInt (kC i j)).toUInt32 % 65536).toInt32 = Int32.ofInt (kC i j) ∧ narrow .char (vI (kC i j)) = vI (kC i j)) := by decide +kernel
section STRK
variable {X : XE} {R : Room} {own : String} {cc : ByteArray} {nL : Nat} {ret : Option FieldType} {rk : Nat} {post : Int → Mem → Prop} {pc : Nat} {L : List (Nat × Value)} {S st0 : List Value} {σ : Mem}
theorem x_vaS {s : State} {H : Heap} {locs : List Loc} (hH : xH X σ s H locs) : va_S (xA X) s.heap H locs := ⟨by rw [hH.2.1]; exact Nat.le_refl _, fun q _ h => hH.2.2.1 q h, hH.2.2.2.1⟩
theorem ok_kgetC {i idx : Nat} (hd : decode cc pc = .ok (.getfield idx, 3)) (hlk : Cond.fieldLink own idx "java/lang/String" "coder" "B" ∈ BIG) (hi : i < 6) (k : ok X R own cc nL ret rk post (pc + 3) L (vI 0 :: S) σ) : ok X R own cc nL ret rk post pc L (.ref (X.2.2.2.1 i) :: S) σ :=
  ok_go (fun p l e s m args below meth c H locs ls Q C hH hl w => vk_getf C.1 C.2.1 (C.2.2.2.2.2.2.2.2.1.1 i hi).2.1 (x_vaS hH) C.2.2.2.2.2.1 (C.2.2.2.2.2.2.1 _ hlk) (fun _ h => h) hd w) k
theorem ok_kgetV {i idx : Nat} (hd : decode cc pc = .ok (.getfield idx, 3)) (hlk : Cond.fieldLink own idx "java/lang/String" "value" "[B" ∈ BIG) (hi : i < 6) (k : ok X R own cc nL ret rk post (pc + 3) L (.ref (X.2.2.2.2 i) :: S) σ) : ok X R own cc nL ret rk post pc L (.ref (X.2.2.2.1 i) :: S) σ :=
  ok_go (fun p l e s m args below meth c H locs ls Q C hH hl w => vk_getf C.1 C.2.1 (C.2.2.2.2.2.2.2.2.1.1 i hi).2.2.1 (x_vaS hH) C.2.2.2.2.2.1 (C.2.2.2.2.2.2.1 _ hlk) (fun _ h => h) hd w) k
theorem ok_klen {i : Nat} (hd : decode cc pc = .ok (.arraylength, 1)) (hi : i < 6) (k : ok X R own cc nL ret rk post (pc + 1) L (vI (kL i) :: S) σ) : ok X R own cc nL ret rk post pc L (.ref (X.2.2.2.2 i) :: S) σ :=
  ok_go (fun p l e s m args below meth c H locs ls Q C hH hl w => va_tlen C.1 C.2.1 (C.2.2.2.2.2.2.2.2.1.1 i hi).2.2.2 (x_vaS hH) rfl hd w) k
theorem ok_kald {i : Nat} {x : Int} (hd : decode cc pc = .ok (.baload, 1)) (hi : i < 6) (h0 : 0 ≤ x) (h1 : x < kL i) (k : ok X R own cc nL ret rk post (pc + 1) L (vI (kC i x) :: S) σ) : ok X R own cc nL ret rk post pc L (vI x :: .ref (X.2.2.2.2 i) :: S) σ := by
  refine ok_go (fun p l e s m args below meth c H locs ls Q C hH hl w => ?_) k
  have hb := kL_rng i hi
  obtain ⟨hin, hc⟩ := q_in (x := x) (n := lenK.getD i 0) (by have : (lenK.getD i 0 : Int) ≤ 6 := hb.2; omega) h0 h1
  exact va_tb C.1 C.2.1 (C.2.2.2.2.2.2.2.2.1.1 i hi).2.2.2 (x_vaS hH) hin (by rw [hc]; exact congrArg Value.int (Int32.ofInt_toInt _).symm) hd w
theorem ok_kcomp {idx : Nat} (hd : decode cc pc = .ok (.getstatic idx, 3)) (hlk : Cond.fieldLink own idx RJ0 "COMPACT_STRINGS" "Z" ∈ BIG) (k : ok X R own cc nL ret rk post (pc + 3) L (vI 1 :: S) σ) : ok X R own cc nL ret rk post pc L S σ :=
  ok_go (fun p l e s m args below meth c H locs ls Q C hH hl w => va_gets (v := vI 1) C.1 C.2.1 C.2.2.2.2.2.2.2.2.2.1 (x_vaS hH) C.2.2.2.2.2.1 (C.2.2.2.2.2.2.1 _ hlk) (fun _ h => h) hd w) k
theorem ok_ksio {idx : Nat} (hd : decode cc pc = .ok (.getstatic idx, 3)) (hlk : Cond.fieldLink own idx RJ3 "SIOOBE_FORMATTER" "Ljava/util/function/BiFunction;" ∈ BIG) (k : ∀ v : Value, (v = .null ∨ ∃ t : Nat, v = .ref t) → ok X R own cc nL ret rk post (pc + 3) L (v :: S) σ) : ok X R own cc nL ret rk post pc L S σ := by
  intro p l e s m args below meth c H locs ls C hH hl
  rcases C.2.2.2.2.2.2.2.2.2.2 with h | ⟨t, h⟩
  · exact va_gets C.1 C.2.1 h (x_vaS hH) C.2.2.2.2.2.1 (C.2.2.2.2.2.2.1 _ hlk) (fun _ h => h) hd (k _ (Or.inl rfl) p l e s m args below meth c H locs ls C hH hl)
  · exact va_gets C.1 C.2.1 h (x_vaS hH) C.2.2.2.2.2.1 (C.2.2.2.2.2.2.1 _ hlk) (fun _ h => h) hd (k _ (Or.inr ⟨t, rfl⟩) p l e s m args below meth c H locs ls C hH hl)
theorem ok_i2c {x v : Int} (hd : decode cc pc = .ok (.i2c, 1)) (hv : ((Int32.ofInt x).toUInt32 % 65536).toInt32 = Int32.ofInt v) (k : ok X R own cc nL ret rk post (pc + 1) L (vI v :: S) σ) : ok X R own cc nL ret rk post pc L (vI x :: S) σ :=
  ok_go (fun p l e s m args below meth c H locs ls Q C hH hl w => lv_i2c C.1 C.2.1 hd hv w) k
theorem ok_callK {y : MethodName} {bytes : ByteArray} {maxL i n idx : Nat} {ret' : Option FieldType} {rm : Room} {rk' : Nat} {As rest : List Value} {post' : Int → Mem → Prop}
    (hd : decode cc pc = .ok (.invokevirtual idx, 3)) (hm : ME RJ0 y bytes maxL ret') (hlk : Cond.methodLink own idx y ∈ BIG) (hi : i < 6) (hdes : xdes y n) (hn : As.length = n)
    (hR : rm.cells = 0 ∧ rm.slots = 0 ∧ Nat.ble (rm.frames + 1) R.frames = true ∧ Nat.ble (8 + (maxL + 11) + rm.locals) R.locals = true) (hst : st0 = As.reverse ++ .ref (X.2.2.2.1 i) :: rest) (hrest : Nat.ble ((rest.map fun v => v.category).sum) 8 = true)
    (hct : CT X y bytes maxL ret' rm rk' (.ref (X.2.2.2.1 i) :: As) σ post') (kk : ∀ (r : Int) (σ' : Mem), rok rk' r → post' r σ' → ok X R own cc nL ret rk post (pc + 3) L ((rv rk' r).toList ++ rest) σ') : ok X R own cc nL ret rk post pc L st0 σ := by
  intro p l e s m args below meth c H locs ls C hH hl
  obtain ⟨hx, hb, hre, hlo, hml, hown, hts, hK, hS⟩ := id C
  obtain ⟨hy, h1, h2, h3, h4⟩ := hm
  have hG : GoodIn BIG (Cond.code y bytes maxL ret' :: BIG) := x_goods (fun _ h => h) h4
  have cb : CallB R s args own idx y bytes maxL ret' (Cond.code y bytes maxL ret' :: BIG) rm 0 0 n := callB_of n hts hG rfl hR.1 hR.2.1 (by rw [hy]; exact hts _ h3) (hts _ hlk) hdes ⟨Nat.le_of_ble_eq_true hR.2.2.1, Nat.le_of_ble_eq_true hR.2.2.2⟩
  refine x_run hH (va_runV (C := RJ0) (b := X.2.2.2.1 i) (As := As) (rest := rest) ⟨hx, hb, hml, hown, hts⟩ (hct l) ⟨cb, hts _ h1, hts _ h2⟩ ⟨x_blind, vk_recv hS.1 hi (x_vaS hH), fun U hU hW => x_pre hK hS hH U hU hW⟩ rfl hn (by show ls.size = nL; exact hl.1) hst (by show 2 * 0 + _ ≤ 8; have := Nat.le_of_ble_eq_true hrest; omega) hd ⟨Nat.zero_le _, Nat.zero_le _⟩) ?_
  intro r σ' H1 locs1 hrk hp hH1
  exact kk r σ' hrk hp p l e s m args below meth c H1 locs1 ls C hH1 hl
end STRK
abbrev rmK (f l : Nat) : Room := { frames := f, cells := 0, slots := 0, locals := l }
theorem c_J0_coder (X : XE) {σ : Mem} {i : Nat} (hi : i < 6) : CT X yJ0_coder_7d493 cJ0_coder_7d493 1 (some .byte) (rmK 0 0) 1 [.ref (X.2.2.2.1 i)] σ (fun r τ => r = 0 ∧ τ = σ) := by
  refine ct_of (own := RJ0) (L := [(0, .ref (X.2.2.2.1 i))]) rfl rfl (Nat.le_of_ble_eq_true rfl) rfl ?_
  refine ok_kcomp (pc := 0) dJ0_coder_7d493_0 fs_38 ?_
  refine ok_if_eq (tgt := 13) (pc := 3) dJ0_coder_7d493_3 rfl (r_lit rfl) (fun q => absurd q (by decide)) (fun _ => ?_)
  refine ok_aload_n 0 (pc := 6) dJ0_coder_7d493_6 rfl rfl ?_
  refine ok_kgetC (pc := 7) dJ0_coder_7d493_7 fs_15 hi ?_
  refine ok_goto (tgt := 14) (pc := 10) dJ0_coder_7d493_10 rfl ?_
  exact ok_iret (pc := 14) dJ0_coder_7d493_14 rfl rfl rfl (r_lit rfl) ⟨rfl, rfl⟩
theorem c_J0_isLatin1 (X : XE) {σ : Mem} {i : Nat} (hi : i < 6) : CT X yJ0_isLatin1_aae02 cJ0_isLatin1_aae02 1 (some .boolean) (rmK 0 0) 1 [.ref (X.2.2.2.1 i)] σ (fun r τ => r = 1 ∧ τ = σ) := by
  refine ct_of (own := RJ0) (L := [(0, .ref (X.2.2.2.1 i))]) rfl rfl (Nat.le_of_ble_eq_true rfl) rfl ?_
  refine ok_kcomp (pc := 0) dJ0_isLatin1_aae02_0 fs_38 ?_
  refine ok_if_eq (tgt := 17) (pc := 3) dJ0_isLatin1_aae02_3 rfl (r_lit rfl) (fun q => absurd q (by decide)) (fun _ => ?_)
  refine ok_aload_n 0 (pc := 6) dJ0_isLatin1_aae02_6 rfl rfl ?_
  refine ok_kgetC (pc := 7) dJ0_isLatin1_aae02_7 fs_15 hi ?_
  refine ok_if_ne (tgt := 17) (pc := 10) dJ0_isLatin1_aae02_10 rfl (r_lit rfl) (fun q => absurd rfl q) (fun _ => ?_)
  refine ok_iconst (pc := 13) dJ0_isLatin1_aae02_13 ?_
  refine ok_goto (tgt := 18) (pc := 14) dJ0_isLatin1_aae02_14 rfl ?_
  exact ok_iret (pc := 18) dJ0_isLatin1_aae02_18 rfl rfl rfl (r_lit rfl) ⟨rfl, rfl⟩
theorem c_J0_length (X : XE) {σ : Mem} {i : Nat} (hi : i < 6) : CT X yJ0_length_8abf5 cJ0_length_8abf5 1 (some .int) (rmK 1 20) 1 [.ref (X.2.2.2.1 i)] σ (fun r τ => r = kL i ∧ τ = σ) := by
  have hb := kL_rng i hi
  refine ct_of (own := RJ0) (L := [(0, .ref (X.2.2.2.1 i))]) rfl rfl (Nat.le_of_ble_eq_true rfl) rfl ?_
  refine ok_aload_n 0 (pc := 0) dJ0_length_8abf5_0 rfl rfl ?_
  refine ok_kgetV (pc := 1) dJ0_length_8abf5_1 fs_9 hi ?_
  refine ok_klen (pc := 4) dJ0_length_8abf5_4 hi ?_
  refine ok_aload_n 0 (pc := 5) dJ0_length_8abf5_5 rfl rfl ?_
  refine ok_callK (As := []) (rest := [vI (kL i)]) (pc := 6) dJ0_length_8abf5_6 me_J0_coder_7d493 ml_J0_335 hi ⟨by decide, by decide, rfl⟩ rfl ⟨rfl, rfl, rfl, rfl⟩ rfl rfl (c_J0_coder X hi) (fun r τ hr hp => ?_)
  obtain ⟨rfl, rfl⟩ := hp
  refine ok_ishr (pc := 9) (y := 0) (x := kL i) dJ0_length_8abf5_9 ?_
  rw [kL_shr i hi]
  exact ok_iret (pc := 10) dJ0_length_8abf5_10 rfl rfl rfl ⟨by omega, by omega⟩ ⟨rfl, rfl⟩
theorem c_J3_checkIndex (X : XE) {σ : Mem} {x n : Int} {v : Value} (hv : v = .null ∨ ∃ t : Nat, v = .ref t) (h0 : 0 ≤ x) (h1 : x < n) (hn : n ≤ 6) : CT X yJ3_checkIndex_8e157 cJ3_checkIndex_8e157 3 (some .int) (rmK 0 0) 1 [vI x, vI n, v] σ (fun r τ => r = x ∧ τ = σ) := by
  have go : ok X (rmK 0 0) RJ3 cJ3_checkIndex_8e157 3 (some .int) 1 (fun r τ => r = x ∧ τ = σ) 0 [(0, vI x), (1, vI n), (2, v)] [] σ := by
    refine ok_iload_n 0 (pc := 0) dJ3_checkIndex_8e157_0 rfl rfl ?_
    refine ok_if_lt (tgt := 9) (pc := 1) dJ3_checkIndex_8e157_1 rfl ⟨by omega, by omega⟩ (fun q => absurd q (by omega)) (fun _ => ?_)
    refine ok_iload_n 0 (pc := 4) dJ3_checkIndex_8e157_4 rfl rfl ?_
    refine ok_iload_n 1 (pc := 5) dJ3_checkIndex_8e157_5 rfl rfl ?_
    refine ok_icmp_lt (tgt := 16) (pc := 6) dJ3_checkIndex_8e157_6 rfl ⟨by omega, by omega⟩ ⟨by omega, by omega⟩ (fun _ => ?_) (fun q => absurd h1 q)
    refine ok_iload_n 0 (pc := 16) dJ3_checkIndex_8e157_16 rfl rfl ?_
    exact ok_iret (pc := 17) dJ3_checkIndex_8e157_17 rfl rfl rfl ⟨by omega, by omega⟩ ⟨rfl, rfl⟩
  rcases hv with rfl | ⟨t, rfl⟩
  · exact ct_of (own := RJ3) (L := [(0, vI x), (1, vI n), (2, .null)]) rfl rfl (Nat.le_of_ble_eq_true rfl) rfl go
  · exact ct_of (own := RJ3) (L := [(0, vI x), (1, vI n), (2, .ref t)]) rfl rfl (Nat.le_of_ble_eq_true rfl) rfl go
theorem c_J0_checkIndex (X : XE) {σ : Mem} {x n : Int} (h0 : 0 ≤ x) (h1 : x < n) (hn : n ≤ 6) : CT X yJ0_checkIndex_df160 cJ0_checkIndex_df160 2 none (rmK 1 22) 0 [vI x, vI n] σ (fun r τ => r = 0 ∧ τ = σ) := by
  refine ct_of (own := RJ0) (L := [(0, vI x), (1, vI n)]) rfl rfl (Nat.le_of_ble_eq_true rfl) rfl ?_
  refine ok_iload_n 0 (pc := 0) dJ0_checkIndex_df160_0 rfl rfl ?_
  refine ok_iload_n 1 (pc := 1) dJ0_checkIndex_df160_1 rfl rfl ?_
  refine ok_ksio (pc := 2) dJ0_checkIndex_df160_2 fs_1053 (fun v hv => ?_)
  refine ok_callS (As := [vI x, vI n, v]) (rest := []) (pc := 5) dJ0_checkIndex_df160_5 me_J3_checkIndex_8e157 ml_J0_1059 ⟨by decide, by decide, rfl⟩ rfl ⟨rfl, rfl, rfl, rfl⟩ rfl rfl (c_J3_checkIndex X hv h0 h1 hn) (fun r τ hr hp => ?_)
  obtain ⟨rfl, rfl⟩ := hp
  refine ok_pop (v := vI r) (pc := 8) dJ0_checkIndex_df160_8 rfl ?_
  exact ok_vret (pc := 9) dJ0_checkIndex_df160_9 rfl rfl ⟨rfl, rfl⟩
theorem c_J1_charAt (X : XE) {σ : Mem} {i : Nat} {x : Int} (hi : i < 6) (h0 : 0 ≤ x) (h1 : x < kL i) : CT X yJ1_charAt_3b067 cJ1_charAt_3b067 2 (some .char) (rmK 2 43) 1 [.ref (X.2.2.2.2 i), vI x] σ (fun r τ => r = kC i x ∧ τ = σ) := by
  have hb := kL_rng i hi
  obtain ⟨k, rfl⟩ : ∃ k : Nat, x = k := ⟨x.toNat, by omega⟩
  have hk : k < lenK.getD i 0 := by
    have h2 : (k : Int) < (lenK.getD i 0 : Nat) := h1
    omega
  obtain ⟨t1, t2, t3⟩ := kC_tab i hi k hk
  have hrr : inR (kC i k) := q_rng _
  refine ct_of (own := RJ1) (L := [(0, .ref (X.2.2.2.2 i)), (1, vI k)]) rfl rfl (Nat.le_of_ble_eq_true rfl) rfl ?_
  refine ok_iload_n 1 (pc := 0) dJ1_charAt_3b067_0 rfl rfl ?_
  refine ok_aload_n 0 (pc := 1) dJ1_charAt_3b067_1 rfl rfl ?_
  refine ok_klen (pc := 2) dJ1_charAt_3b067_2 hi ?_
  refine ok_callS (As := [vI k, vI (kL i)]) (rest := []) (pc := 3) dJ1_charAt_3b067_3 me_J0_checkIndex_df160 ml_J1_9 ⟨by decide, by decide, rfl⟩ rfl ⟨rfl, rfl, rfl, rfl⟩ rfl rfl (c_J0_checkIndex X h0 h1 hb.2) (fun r τ hr hp => ?_)
  obtain ⟨rfl, rfl⟩ := hp
  refine ok_aload_n 0 (S := []) (pc := 6) dJ1_charAt_3b067_6 rfl rfl ?_
  refine ok_iload_n 1 (pc := 7) dJ1_charAt_3b067_7 rfl rfl ?_
  refine ok_kald (pc := 8) dJ1_charAt_3b067_8 hi h0 h1 ?_
  refine ok_sipush (pc := 9) dJ1_charAt_3b067_9 rfl ?_
  refine ok_iand (pc := 12) dJ1_charAt_3b067_12 ?_
  rw [t1]
  refine ok_i2c (v := kC i k) (pc := 13) dJ1_charAt_3b067_13 t2 ?_
  exact ok_iret (pc := 14) dJ1_charAt_3b067_14 rfl rfl t3 hrr ⟨rfl, rfl⟩
theorem c_J0_charAt (X : XE) {σ : Mem} {i : Nat} {x : Int} (hi : i < 6) (h0 : 0 ≤ x) (h1 : x < kL i) : CT X yJ0_charAt_5068e cJ0_charAt_5068e 2 (some .char) (rmK 3 64) 1 [.ref (X.2.2.2.1 i), vI x] σ (fun r τ => r = kC i x ∧ τ = σ) := by
  have hb := kL_rng i hi
  obtain ⟨k, rfl⟩ : ∃ k : Nat, x = k := ⟨x.toNat, by omega⟩
  have hk : k < lenK.getD i 0 := by
    have h2 : (k : Int) < (lenK.getD i 0 : Nat) := h1
    omega
  obtain ⟨t1, t2, t3⟩ := kC_tab i hi k hk
  have hrr : inR (kC i k) := q_rng _
  refine ct_of (own := RJ0) (L := [(0, .ref (X.2.2.2.1 i)), (1, vI k)]) rfl rfl (Nat.le_of_ble_eq_true rfl) rfl ?_
  refine ok_aload_n 0 (pc := 0) dJ0_charAt_5068e_0 rfl rfl ?_
  refine ok_callK (As := []) (rest := []) (pc := 1) dJ0_charAt_5068e_1 me_J0_isLatin1_aae02 ml_J0_492 hi ⟨by decide, by decide, rfl⟩ rfl ⟨rfl, rfl, rfl, rfl⟩ rfl rfl (c_J0_isLatin1 X hi) (fun r τ hr hp => ?_)
  obtain ⟨rfl, rfl⟩ := hp
  refine ok_if_eq (S := []) (x := 1) (tgt := 16) (pc := 4) dJ0_charAt_5068e_4 rfl (r_lit rfl) (fun q => absurd q (by decide)) (fun _ => ?_)
  refine ok_aload_n 0 (pc := 7) dJ0_charAt_5068e_7 rfl rfl ?_
  refine ok_kgetV (pc := 8) dJ0_charAt_5068e_8 fs_9 hi ?_
  refine ok_iload_n 1 (pc := 11) dJ0_charAt_5068e_11 rfl rfl ?_
  refine ok_callS (As := [.ref (X.2.2.2.2 i), vI k]) (rest := []) (pc := 12) dJ0_charAt_5068e_12 me_J1_charAt_3b067 ml_J0_495 ⟨by decide, by decide, rfl⟩ rfl ⟨rfl, rfl, rfl, rfl⟩ rfl rfl (c_J1_charAt X hi h0 h1) (fun r τ hr hp => ?_)
  obtain ⟨rfl, rfl⟩ := hp
  exact ok_iret (v := kC i k) (pc := 15) dJ0_charAt_5068e_15 rfl rfl t3 hrr ⟨rfl, rfl⟩
