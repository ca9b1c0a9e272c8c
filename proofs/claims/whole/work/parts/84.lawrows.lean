/-! THE LAW'S OWN WALK -/
def lC (X : XE) (b L : Nat) (xs : Nat → Int32) (p : Program) (s : State) (m : MethodId) (meth : Method) (c : Code) : Prop :=
  p.tables.exec = Jvm.exec ∧ c.code = cL_law ∧ meth.sig.returnType = some .boolean ∧ meth.locks = false ∧ c.maxLocals = 4 ∧ s.vm.findClass RL = some m.cls ∧ (∀ w ∈ lw_tbl, w.before #[Value.ref b] s = true) ∧ xK X s ∧ xS X s s.heap ∧ va_X b L xs s s.heap ∧ b < s.heap.size ∧ s.heap.size = X.1
def lH (X : XE) (σ : Mem) (s : State) (H : Heap) : Prop := xcells X σ H ∧ H.size = X.1 + NC ∧ (∀ q : Nat, ¬ xA X q → H[q]? = s.heap[q]?) ∧ WF σ
def lok (X : XE) (b L : Nat) (xs : Nat → Int32) (pc : Nat) (Ls : List (Nat × Value)) (S : List Value) (σ : Mem) : Prop :=
  ∀ (p : Program) (l : Launch) (e : Env) (s : State) (m : MethodId) (below : List Frame) (meth : Method) (c : Code) (H : Heap) (ls : Array Slot),
    lC X b L xs p s m meth c → lH X σ s H → lv_has ls 4 Ls → W p l e room_1 s m #[Value.ref b] below meth c H [] 600000 7302250 (lw_Z below #[Value.ref b] s) (F0 m pc ls S)
def xv (xs : Nat → Int32) (k : Nat) : Int := (xs k).toInt
theorem r_xv (xs : Nat → Int32) (k : Nat) : inR (xv xs k) := q_rng _
theorem v_xv (xs : Nat → Int32) (k : Nat) : Value.int (xs k) = vI (xv xs k) := congrArg Value.int (Int32.ofInt_toInt _).symm
section LAW
variable {X : XE} {b L : Nat} {xs : Nat → Int32} {pc : Nat} {Ls : List (Nat × Value)} {S st0 : List Value} {σ : Mem}
theorem l_go {pc' : Nat} {S' : List Value} (h : ∀ (p : Program) (l : Launch) (e : Env) (s : State) (m : MethodId) (below : List Frame) (meth : Method) (c : Code) (H : Heap) (ls : Array Slot) (Q : State → Prop), lC X b L xs p s m meth c → lH X σ s H → lv_has ls 4 Ls → W p l e room_1 s m #[Value.ref b] below meth c H [] 600000 7302250 Q (F0 m pc' ls S') → W p l e room_1 s m #[Value.ref b] below meth c H [] 600000 7302250 Q (F0 m pc ls S))
    (k : lok X b L xs pc' Ls S' σ) : lok X b L xs pc Ls S σ :=
  fun p l e s m below meth c H ls C hH hl => h p l e s m below meth c H ls _ C hH hl (k p l e s m below meth c H ls C hH hl)
theorem l_iconst {n : Int} (hd : decode cL_law pc = .ok (.iconst n, 1)) (k : lok X b L xs (pc + 1) Ls (vI n :: S) σ) : lok X b L xs pc Ls S σ :=
  l_go (fun p l e s m below meth c H ls Q C hH hl w => lv_iconst C.1 C.2.1 hd rfl w) k
theorem l_bipush {n : Int} (hd : decode cL_law pc = .ok (.bipush n, 2)) (hn : (decide (-128 ≤ n) && decide (n ≤ 127)) = true) (k : lok X b L xs (pc + 2) Ls (vI n :: S) σ) : lok X b L xs pc Ls S σ :=
  l_go (fun p l e s m below meth c H ls Q C hH hl w => lv_bipush C.1 C.2.1 hd (q_bip hn) w) k
theorem l_aload_n {n : Fin 4} {i a : Nat} (j : Nat) (hd : decode cL_law pc = .ok (.aload_n n, 1)) (hi : (n : Nat) = i) (hl : Ls[j]? = some (i, .ref a)) (k : lok X b L xs (pc + 1) Ls (.ref a :: S) σ) : lok X b L xs pc Ls S σ :=
  l_go (fun p l e s m below meth c H ls Q C hH h w => lv_aload_n C.1 C.2.1 hd hi (lv_at h j hl) w) k
theorem l_iload_n {n : Fin 4} {i : Nat} {x : Int} (j : Nat) (hd : decode cL_law pc = .ok (.iload_n n, 1)) (hi : (n : Nat) = i) (hl : Ls[j]? = some (i, vI x)) (k : lok X b L xs (pc + 1) Ls (vI x :: S) σ) : lok X b L xs pc Ls S σ :=
  l_go (fun p l e s m below meth c H ls Q C hH h w => lv_iload_n C.1 C.2.1 hd hi (lv_at h j hl) w) k
theorem l_iadd {x y : Int} (hd : decode cL_law pc = .ok (.iadd, 1)) (k : lok X b L xs (pc + 1) Ls (vI (x + y) :: S) σ) : lok X b L xs pc Ls (vI y :: vI x :: S) σ :=
  l_go (fun p l e s m below meth c H ls Q C hH hl w => lv_iadd C.1 C.2.1 hd (by rw [← Int32.ofInt_add]; exact w)) k
theorem l_isub {x y : Int} (hd : decode cL_law pc = .ok (.isub, 1)) (k : lok X b L xs (pc + 1) Ls (vI (x - y) :: S) σ) : lok X b L xs pc Ls (vI y :: vI x :: S) σ :=
  l_go (fun p l e s m below meth c H ls Q C hH hl w => lv_isub C.1 C.2.1 hd (by rw [← Int32.ofInt_sub]; exact w)) k
theorem l_iand {x y : Int} (hd : decode cL_law pc = .ok (.iand, 1)) (k : lok X b L xs (pc + 1) Ls (vI (iand x y) :: S) σ) : lok X b L xs pc Ls (vI y :: vI x :: S) σ :=
  l_go (fun p l e s m below meth c H ls Q C hH hl w => lv_iand C.1 C.2.1 hd (by rw [show Value.int (Int32.ofInt x &&& Int32.ofInt y) = vI (iand x y) from congrArg Value.int (Int32.ofInt_toInt _).symm]; exact w)) k
theorem l_keep {s : State} {H : Heap} {p : Program} {m : MethodId} {meth : Method} {c : Code} (C : lC X b L xs p s m meth c) (hH : lH X σ s H) : va_S (xA X) s.heap H [] := by
  obtain ⟨-, -, -, -, -, -, -, -, -, -, -, hz⟩ := C
  exact ⟨by rw [hH.2.1, hz]; exact Nat.le_add_right _ _, fun q _ h => hH.2.2.1 q h, fun _ h => by cases h⟩
theorem l_out {s : State} {p : Program} {m : MethodId} {meth : Method} {c : Code} (C : lC X b L xs p s m meth c) : ¬ xA X b := by
  obtain ⟨-, -, -, -, -, -, -, -, -, -, hb, hz⟩ := C
  intro q
  have := q.1
  omega
theorem l_len (hd : decode cL_law pc = .ok (.arraylength, 1)) (hL : L ≤ 4096) (k : lok X b L xs (pc + 1) Ls (vI (L : Int) :: S) σ) : lok X b L xs pc Ls (.ref b :: S) σ :=
  l_go (fun p l e s m below meth c H ls Q C hH hl w => va_slen C.1 C.2.1 C.2.2.2.2.2.2.2.2.2.1 C.2.2.2.2.2.2.2.2.2.2.1 (l_out C) (l_keep C hH) hd w) k
theorem l_rd {i : Int} (hd : decode cL_law pc = .ok (.iaload, 1)) (hL : L ≤ 4096) (h0 : 0 ≤ i) (h1 : i < L) (k : lok X b L xs (pc + 1) Ls (vI (xv xs i.toNat) :: S) σ) : lok X b L xs pc Ls (vI i :: .ref b :: S) σ := by
  refine l_go (fun p l e s m below meth c H ls Q C hH hl w => ?_) k
  obtain ⟨hi, hc⟩ := q_in (x := i) (n := L) (by omega) h0 h1
  refine va_sld C.1 C.2.1 C.2.2.2.2.2.2.2.2.2.1 C.2.2.2.2.2.2.2.2.2.2.1 (l_out C) (l_keep C hH) hi hd ?_
  rw [hc, v_xv]
  exact w
theorem l_i2l {x : Int} (hd : decode cL_law pc = .ok (.i2l, 1)) (k : lok X b L xs (pc + 1) Ls (.long (Int32.ofInt x).toInt64 :: S) σ) : lok X b L xs pc Ls (vI x :: S) σ :=
  l_go (fun p l e s m below meth c H ls Q C hH hl w => lv_i2l C.1 C.2.1 hd rfl w) k
theorem l_lshl {x : Int64} {y : Int} (hd : decode cL_law pc = .ok (.lshl, 1)) (k : lok X b L xs (pc + 1) Ls (.long (x <<< ((Int32.ofInt y).toInt64 &&& 63)) :: S) σ) : lok X b L xs pc Ls (vI y :: .long x :: S) σ :=
  l_go (fun p l e s m below meth c H ls Q C hH hl w => lv_lshl C.1 C.2.1 hd rfl w) k
theorem l_land {x y : Int64} (hd : decode cL_law pc = .ok (.land, 1)) (k : lok X b L xs (pc + 1) Ls (.long (x &&& y) :: S) σ) : lok X b L xs pc Ls (.long y :: .long x :: S) σ :=
  l_go (fun p l e s m below meth c H ls Q C hH hl w => lv_land C.1 C.2.1 hd w) k
theorem l_lor {x y : Int64} (hd : decode cL_law pc = .ok (.lor, 1)) (k : lok X b L xs (pc + 1) Ls (.long (x ||| y) :: S) σ) : lok X b L xs pc Ls (.long y :: .long x :: S) σ :=
  l_go (fun p l e s m below meth c H ls Q C hH hl w => lv_lor C.1 C.2.1 hd w) k
theorem l_ldc2 {i : Nat} {v : Int} (hd : decode cL_law pc = .ok (.ldc2_w i, 3)) (hw : Cond.constantLong RL i (Int64.ofInt v) ∈ BIG) (k : lok X b L xs (pc + 3) Ls (.long (Int64.ofInt v) :: S) σ) : lok X b L xs pc Ls S σ :=
  l_go (fun p l e s m below meth c H ls Q C hH hl w => lv_ldc2 C.1 C.2.1 C.2.2.2.2.2.1 (C.2.2.2.2.2.2.1 _ (big_tbl _ hw)) hd w) k
theorem l_topL {v : Int64} (k : lok X b L xs pc Ls (vL v.toInt :: S) σ) : lok X b L xs pc Ls (.long v :: S) σ := by
  have e : Value.long v = vL v.toInt := congrArg Value.long (Int64.ofInt_toInt _).symm
  rw [e]; exact k
theorem l_goto {off : Int} {tgt : Nat} (hd : decode cL_law pc = .ok (.goto off, 3)) (ht : (pc : Int) + off = (tgt : Int)) (k : lok X b L xs tgt Ls S σ) : lok X b L xs pc Ls S σ :=
  l_go (fun p l e s m below meth c H ls Q C hH hl w => lv_goto C.1 C.2.1 hd ht w) k
theorem l_iinc {i : Nat} {n x : Int} {L' : List (Nat × Value)} (j : Nat) (hd : decode cL_law pc = .ok (.iinc i n, 3)) (hj : Ls[j]? = some (i, vI x)) (hn : Nat.blt i 4 = true) (hl : (i, vI (x + n)) :: Ls.filter (fun q => !(q.1 == i) && !(q.1 + 1 == i && q.2.category == 2)) = L') (k : lok X b L xs (pc + 3) L' S σ) : lok X b L xs pc Ls S σ :=
  fun p l e s m below meth c H ls C hH h => lv_iinc (v := Int32.ofInt (x + n)) C.1 C.2.1 hd h hj (Int32.ofInt_add x n).symm (blt_lt hn) hl (fun ls' h' => k p l e s m below meth c H ls' C hH h')
theorem l_icmp_eq {x y : Int} {off : Int} {tgt : Nat} (hd : decode cL_law pc = .ok (.if_icmp .eq off, 3)) (ht : (pc : Int) + off = (tgt : Int)) (he : x = y) (k : lok X b L xs tgt Ls S σ) : lok X b L xs pc Ls (vI y :: vI x :: S) σ :=
  fun p l e s m below meth c H ls C hH hl => lv_icmp_eq C.1 C.2.1 hd ht (fun _ => k p l e s m below meth c H ls C hH hl) (fun q => absurd (by rw [he]) q)
theorem l_icmp_gt {x y : Int} {off : Int} {tgt : Nat} (hd : decode cL_law pc = .ok (.if_icmp .gt off, 3)) (ht : (pc : Int) + off = (tgt : Int)) (hx : inR x) (hy : inR y) (kt : y < x → lok X b L xs tgt Ls S σ) (kf : ¬ y < x → lok X b L xs (pc + 3) Ls S σ) : lok X b L xs pc Ls (vI y :: vI x :: S) σ :=
  fun p l e s m below meth c H ls C hH hl => lv_icmp_gt C.1 C.2.1 hd ht (fun h => kt ((q_lt hy hx).mp h) p l e s m below meth c H ls C hH hl) (fun h => kf (fun q => h ((q_lt hy hx).mpr q)) p l e s m below meth c H ls C hH hl)
theorem l_if_eq {x : Int} {off : Int} {tgt : Nat} (hd : decode cL_law pc = .ok (.ifCond .eq off, 3)) (ht : (pc : Int) + off = (tgt : Int)) (hx : inR x) (kt : x = 0 → lok X b L xs tgt Ls S σ) (kf : ¬ x = 0 → lok X b L xs (pc + 3) Ls S σ) : lok X b L xs pc Ls (vI x :: S) σ :=
  fun p l e s m below meth c H ls C hH hl => lv_if_eq C.1 C.2.1 hd ht (fun h => kt ((q_eq hx (r_lit (x := 0) rfl)).mp h) p l e s m below meth c H ls C hH hl) (fun h => kf (fun q => h ((q_eq hx (r_lit (x := 0) rfl)).mpr q)) p l e s m below meth c H ls C hH hl)
theorem l_lcmp_eq {x y : Int} {off : Int} {tgt : Nat} (hd : decode cL_law pc = .ok (.lcmp, 1)) (hd2 : decode cL_law (pc + 1) = .ok (.ifCond .eq off, 3)) (ht : ((pc + 1 : Nat) : Int) + off = (tgt : Int)) (hx : inL x) (hy : inL y) (he : x = y) (k : lok X b L xs tgt Ls S σ) : lok X b L xs pc Ls (vL y :: vL x :: S) σ := by
  refine l_go (S' := vI (lcmpI x y) :: S) (pc' := pc + 1) (fun p l e s m below meth c H ls Q C hH hl w => W.lcmp C.1 C.2.1 hd (by rw [q_cmp hx hy]; exact w)) ?_
  have e0 : lcmpI x y = 0 := by
    subst he
    unfold lcmpI
    rw [if_neg (by omega), if_pos rfl]
  rw [e0]
  exact l_if_eq hd2 ht (r_lit rfl) (fun _ => k) (fun q => absurd rfl q)
/-- x ≠ 0, as a bit -/
def bitI (x : Int) : Int := if x = 0 then 0 else 1
theorem bitI_01 (x : Int) : bitI x = 0 ∨ bitI x = 1 := by
  unfold bitI
  by_cases h : x = 0
  · rw [if_pos h]; exact Or.inl rfl
  · rw [if_neg h]; exact Or.inr rfl
theorem r_bitI (x : Int) : inR (bitI x) := by
  rcases bitI_01 x with h | h <;> rw [h] <;> exact r_lit rfl
theorem l_bit {x : Int} (hd : decode cL_law pc = .ok (.ifCond .eq 7, 3)) (hd3 : decode cL_law (pc + 3) = .ok (.iconst 1, 1)) (hd4 : decode cL_law (pc + 3 + 1) = .ok (.goto 4, 3)) (hd7 : decode cL_law (pc + 7) = .ok (.iconst 0, 1)) (hx : inR x) (k : lok X b L xs (pc + 8) Ls (vI (bitI x) :: S) σ) : lok X b L xs pc Ls (vI x :: S) σ := by
  refine l_if_eq (tgt := pc + 7) hd (by omega) hx (fun q => ?_) (fun q => ?_)
  · refine l_iconst hd7 ?_
    have e : bitI x = 0 := if_pos q
    rw [e] at k
    exact k
  · refine l_iconst hd3 ?_
    refine l_goto (tgt := pc + 8) hd4 (by omega) ?_
    have e : bitI x = 1 := if_neg q
    rw [e] at k
    exact k
theorem l_tin {dflt lo hi : Int} {offs : Array Int} {len : Nat} {x : Int} {off : Int} {tgt : Nat} (hd : decode cL_law pc = .ok (.tableswitch dflt lo hi offs, len)) (hx : inR x) (h1 : ¬ x < lo) (h2 : ¬ hi < x) (ho : offs[(x - lo).toNat]? = some off) (ht : (pc : Int) + off = (tgt : Int)) (k : lok X b L xs tgt Ls S σ) : lok X b L xs pc Ls (vI x :: S) σ :=
  l_go (fun p l e s m below meth c H ls Q C hH hl w => lv_tableIn C.1 C.2.1 hd (by rw [q_toInt hx]; exact h1) (by rw [q_toInt hx]; exact h2) (by rw [q_toInt hx]; exact ho) ht w) k
theorem l_tout {dflt lo hi : Int} {offs : Array Int} {len : Nat} {x : Int} {tgt : Nat} (hd : decode cL_law pc = .ok (.tableswitch dflt lo hi offs, len)) (hx : inR x) (h : x < lo ∨ hi < x) (ht : (pc : Int) + dflt = (tgt : Int)) (k : lok X b L xs tgt Ls S σ) : lok X b L xs pc Ls (vI x :: S) σ :=
  l_go (fun p l e s m below meth c H ls Q C hH hl w => lv_tableOut C.1 C.2.1 hd (by rw [q_toInt hx]; exact h) ht w) k
theorem l_ret (hd : decode code pc = .ok (.ireturn, 1)) : lok X b L xs pc Ls [vI 1] σ := by
  intro p l e s m below meth c H ls C hH hl
  exact lw_ret C.1 C.2.1 C.2.2.1 C.2.2.2.1 hd
theorem l_run {s : State} {m : MethodId} {below : List Frame} {meth : Method} {c : Code} {p : Program} {l : Launch} {e : Env} {H : Heap} {ls : Array Slot} {rest : List Value} {rk' : Nat} {post' : Int → Mem → Prop} {as' : Array Value} {Q : State → Prop}
    (hH : lH X σ s H) (hz0 : s.heap.size = X.1) (hr : va_Run p l e room_1 s m #[Value.ref b] below meth c H [] 600000 7302250 0 0 (F0 m pc ls st0) rest (xQ X rk' post' as') (xA X))
    (kk : ∀ (r : Int) (σ' : Mem) (H1 : Heap), rok rk' r → post' r σ' → lH X σ' s H1 → W p l e room_1 s m #[Value.ref b] below meth c H1 [] 600000 7302250 Q (F0 m (pc + 3) ls ((rv rk' r).toList ++ rest))) : W p l e room_1 s m #[Value.ref b] below meth c H [] 600000 7302250 Q (F0 m pc ls st0) := by
  intro T hT X0
  obtain ⟨v, st₀, t, T', L1, h0, X', hL, e1, e2, ⟨r, σ', hv, hrk, hp, hW, hC, hz, hk⟩, st⟩ := hr T hT X0
  cases hv
  rw [h0] at hz hk
  obtain ⟨g1, g2, g3, g4⟩ := hH
  have w := kk r σ' T'.heap hrk hp ⟨by rw [e1]; exact hC, by rw [e1]; exact hz.trans g2, fun q hq => by rw [e1, hk q hq]; exact g3 q hq, hW⟩
  have w2 := va_forget (locs := [] ++ L1) (fun q hq => by
    rcases List.mem_append.mp hq with h | h
    · cases h
    · rw [hz0]; exact (hL q h).1) w
  obtain ⟨t2, a1, b1⟩ := w2 T' rfl X'
  exact ⟨t2, st t2 a1, b1⟩
theorem l_call {y : MethodName} {bytes : ByteArray} {maxL j ci N n idx : Nat} {ret' : Option FieldType} {rm : Room} {rk' : Nat} {C0 : String} {T0 : u_T} {As rest : List Value} {rs : List (Option Nat)} {post' : Int → Mem → Prop}
    (hd : decode cL_law pc = .ok (.invokevirtual idx, 3)) (hm : ME C0 y bytes maxL ret') (hlk : Cond.methodLink RL idx y ∈ BIG) (hcl : vwCl[ci]? = some (C0, T0, N)) (hs : xsh j = (ci, N, rs)) (hj : j < NC) (hk : Nat.blt ci 20 = true) (hdes : xdes y n) (hn : As.length = n)
    (hR : rm.cells = 0 ∧ rm.slots = 0 ∧ Nat.ble (rm.frames + 1) 11 = true ∧ Nat.ble (8 + (maxL + 11) + rm.locals) 406 = true) (hst : st0 = As.reverse ++ .ref (xad X j) :: rest) (hrest : Nat.ble ((rest.map fun v => v.category).sum) 8 = true)
    (hct : CT X y bytes maxL ret' rm rk' (.ref (xad X j) :: As) σ post') (kk : ∀ (r : Int) (σ' : Mem), rok rk' r → post' r σ' → lok X b L xs (pc + 3) Ls ((rv rk' r).toList ++ rest) σ') : lok X b L xs pc Ls st0 σ := by
  intro p l e s m below meth c H ls C hH hl
  obtain ⟨hx, hb, hre, hlo, hml, hown, hts0, hK, hS, hX, hbl, hz0⟩ := id C
  have hts : ∀ w ∈ BIG, w.before #[Value.ref b] s = true := fun w hw => hts0 w (big_tbl w hw)
  obtain ⟨hy, h1, h2, h3, h4⟩ := hm
  obtain ⟨cell, q1, q2, q3, q4⟩ := x_obj hH.1 hj hs (blt_lt hk)
  obtain ⟨hSl, hfc, -⟩ := hK.1.1 ci _ hcl
  have hG : GoodIn BIG (Cond.code y bytes maxL ret' :: BIG) := x_goods (fun _ h => h) h4
  have cb : CallB room_1 s #[Value.ref b] RL idx y bytes maxL ret' (Cond.code y bytes maxL ret' :: BIG) rm 0 0 n := callB_of n hts hG rfl hR.1 hR.2.1 (by rw [hy]; exact hts _ h3) (hts _ hlk) hdes ⟨Nat.le_of_ble_eq_true hR.2.2.1, Nat.le_of_ble_eq_true hR.2.2.2⟩
  refine l_run hH hz0 (va_runV (C := C0) (b := xad X j) (As := As) (rest := rest) ⟨hx, hb, hml, hown, hts⟩ (hct l) ⟨cb, hts _ h1, hts _ h2⟩ ⟨x_blind, ⟨cell, q1, by rw [q3]; rfl, by rw [q2]; exact hfc⟩, fun U hU hW => ⟨rfl, xK.moved hW hK, xS.moved hW.alike (xS.kept hS (fun q hq => by rw [hU]; exact hH.2.2.1 q hq)), by rw [hU]; exact hH.1, hH.2.2.2⟩⟩ rfl hn (by show ls.size = 4; exact hl.1) hst (by show 2 * 0 + _ ≤ 8; have := Nat.le_of_ble_eq_true hrest; omega) hd ⟨Nat.le_refl _, Nat.le_refl _⟩) ?_
  intro r σ' H1 hrk hp hH1
  exact kk r σ' hrk hp p l e s m below meth c H1 ls C hH1 hl
end LAW
