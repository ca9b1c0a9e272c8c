/-! THE START: the static picture's own facts out of the tables and of what is given; the two objects are made; the loop -/
def tmS (i : Nat) : Term := Term.string RX6 ([38, 55, 57, 59, 61, 63].getD i 0)
theorem st_cls {s : State} {as : Array Value} (hts : ∀ w ∈ BIG, w.before as s = true) : ∀ r ∈ vwCl, ∃ q : ClassId × (Nat → Nat), u_Kn s r.1 r.2.1 r.2.2 q.1 q.2 := by
  have k : ∀ {C : String} {T : u_T} {N : Nat}, (∀ w ∈ u_ws C T N, w ∈ BIG) → Cond.instantiable C N ∈ BIG → ∃ q : ClassId × (Nat → Nat), u_Kn s C T N q.1 q.2 := fun h1 h2 => by
    obtain ⟨c, i, h⟩ := u_known hts h1 (hts _ h2)
    exact ⟨(c, i), h⟩
  refine List.forall_mem_cons.mpr ⟨k bw_X0 bi_X0, List.forall_mem_cons.mpr ⟨k bw_X1 bi_X1, List.forall_mem_cons.mpr ⟨k bw_X2 bi_X2, List.forall_mem_cons.mpr ⟨k bw_X3 bi_X3, List.forall_mem_cons.mpr ⟨k bw_X4 bi_X4, List.forall_mem_cons.mpr ⟨k bw_X5 bi_X5, List.forall_mem_cons.mpr ⟨k bw_X6 bi_X6, List.forall_mem_cons.mpr ⟨k bw_X7 bi_X7, List.forall_mem_cons.mpr ⟨k bw_X8 bi_X8, List.forall_mem_cons.mpr ⟨k bw_X9 bi_X9, List.forall_mem_cons.mpr ⟨k bw_X10 bi_X10, List.forall_mem_cons.mpr ⟨k bw_X11 bi_X11, List.forall_mem_cons.mpr ⟨k bw_X12 bi_X12, fun _ h => absurd h List.not_mem_nil⟩⟩⟩⟩⟩⟩⟩⟩⟩⟩⟩⟩⟩
theorem st_arr {s : State} {as : Array Value} {ty : FieldType} (h : (Cond.arrayClass ty).before as s = true) (hra : ∀ (U : State) (cA : ClassId), U.vm.findClass ("[" ++ ty.toString) = some cA → va_RA U cA ty) : ∃ cA : ClassId, ArrOfT s cA ty ∧ va_RA s cA ty := by
  obtain ⟨c, k, comp, h1, h2, h3⟩ := Cond.arrayClass_spec h
  exact ⟨c, fun n z => ⟨(fun k h => by cases h), k, h2, comp, h3⟩, hra _ _ h1⟩
theorem st_arrO {s : State} {C : String} (h : va_AO C s) : ∃ cA : ClassId, ArrOfT s cA (.object C) ∧ va_RA s cA (.object C) := by
  obtain ⟨comp, c, k, h1, h2, h3, h4, h5⟩ := Cond.arrayOver_spec h
  exact ⟨c, fun n z => ⟨(fun k h => by cases h), k, h3, comp, h4⟩, k, comp, h3, h4, h1, h5⟩
theorem st_w {s : State} {as : Array Value} (hts : ∀ w ∈ lw_tbl, w.before as s = true) (i : Nat) {w : Cond} (h : lw_tbl[i]? = some w) : w.before as s = true := hts _ (List.mem_of_getElem? h)
theorem st_pic {s : State} {b : Nat} (hts : ∀ w ∈ lw_tbl, w.before #[Value.ref b] s = true) (hgv : (Jvm.Cond.and given_1 narrow_1).before #[Value.ref b] s = true) : ∃ X : XE, X.1 = s.heap.size ∧ bK X s ∧ xS X s s.heap := by
  have htB : ∀ w ∈ BIG, w.before #[Value.ref b] s = true := fun w hw => hts w (big_tbl w hw)
  have hs := flat_of_before _ hgv
  have hA : ∀ a : Nat, a < s.heap.size → ¬ (s.heap.size ≤ a ∧ a < s.heap.size + NC) := fun a h q => by omega
  have c0 := st_cls htB
  have c1 : ∀ c : Nat, ∃ q : ClassId × (Nat → Nat), ∀ r, vwCl[c]? = some r → u_Kn s r.1 r.2.1 r.2.2 q.1 q.2 := fun c => by
    cases h : vwCl[c]? with
    | none => exact ⟨(0, fun _ => 0), fun r hr => by cases hr⟩
    | some r =>
      obtain ⟨q, hq⟩ := c0 r (List.mem_of_getElem? h)
      exact ⟨q, fun r2 hr => by cases hr; exact hq⟩
  obtain ⟨D, hD⟩ := Classical.axiomOfChoice c1
  have o1 : va_AO RX1 s := va_AO.of (st_w hts 201 ao_X1)
  have o8 : va_AO RX8 s := va_AO.of (st_w hts 414 ao_X8)
  obtain ⟨aI, aI1, aI2⟩ := st_arr (ty := .int) (htB _ ac_int) (fun _ _ h => h)
  obtain ⟨aZ, aZ1, aZ2⟩ := st_arr (ty := .boolean) (htB _ ac_boolean) (fun _ _ h => h)
  obtain ⟨aB, aB1, aB2⟩ := st_arr (ty := .byte) (htB _ ac_byte) (fun _ _ h => h)
  obtain ⟨aC, aC1, aC2⟩ := st_arrO o1
  obtain ⟨aS, aS1, aS2⟩ := st_arrO o8
  obtain ⟨adK, adV, hS, hE⟩ := vk_Sof (args := #[Value.ref b]) (s := s) (N := 6) (tm := tmS) (len := lenK) (byt := bytK) (A := fun q => s.heap.size ≤ q ∧ q < s.heap.size + NC) (by decide)
    (fun i hi => hs _ ((show ∀ i, i < 6 → Cond.exactly (tmS i) "java/lang/String" ∈ flatC (Jvm.Cond.and given_1 narrow_1) by decide +kernel) i hi))
    (fun i hi => hs _ ((show ∀ i, i < 6 → Cond.eq (.field (tmS i) "java/lang/String" "coder" "B") (.int 0) ∈ flatC (Jvm.Cond.and given_1 narrow_1) by decide +kernel) i hi))
    (fun i hi => hs _ ((show ∀ i, i < 6 → Cond.arrayOf (.field (tmS i) "java/lang/String" "value" "[B") .byte ∈ flatC (Jvm.Cond.and given_1 narrow_1) by decide +kernel) i hi))
    (fun i hi => hs _ ((show ∀ i, i < 6 → Cond.eq (.length (.field (tmS i) "java/lang/String" "value" "[B")) (.int (Int32.ofNat (lenK.getD i 0))) ∈ flatC (Jvm.Cond.and given_1 narrow_1) by decide +kernel) i hi))
    (fun i hi j hj => hs _ ((show ∀ i, i < 6 → ∀ j, j < lenK.getD i 0 → Cond.eq (.elem (.field (tmS i) "java/lang/String" "value" "[B") (.int (Int32.ofNat j))) (.int ((bytK.getD i []).getD j 0)) ∈ flatC (Jvm.Cond.and given_1 narrow_1) by decide +kernel) i hi j hj))
    (fun i j hi hj hij => (show ∀ i, i < 6 → ∀ j, j < 6 → i ≠ j → Cond.not (Cond.eq (tmS i) (tmS j)) ∈ flatC (Jvm.Cond.and given_1 narrow_1) ∨ Cond.not (Cond.eq (tmS j) (tmS i)) ∈ flatC (Jvm.Cond.and given_1 narrow_1) by decide +kernel) i hi j hj hij |>.imp (hs _) (hs _)) hA
  refine ⟨(s.heap.size, (fun c => (D c).1, fun c => (D c).2), (fun k => if k = 20 then aI else if k = 21 then aZ else if k = 22 then aB else if k = 23 then aC else aS), adK, adV), rfl, ⟨⟨⟨fun c r hc => hD c r hc, ?_⟩, ⟨va_Nw.of rfl (st_w hts 620 (w := .methodLinkNest RX6 92 yX11_isMeasure RX11) (by decide +kernel)),
    va_Nw.of rfl (st_w hts 747 (w := .methodLinkNest RX0 81 yX11_bit RX11) (by decide +kernel)),
    va_Nw.of rfl (st_w hts 767 (w := .methodLinkNest RX3 43 yX11_bit RX11) (by decide +kernel)),
    va_Nw.of rfl (st_w hts 832 (w := .methodLinkNest RX10 74 yX11_bit RX11) (by decide +kernel)),
    va_Nw.of rfl (st_w hts 894 (w := .methodLinkNest RX4 52 yX11_bit RX11) (by decide +kernel)),
    va_Nw.of rfl (st_w hts 934 (w := .methodLinkNest RX2 74 yX11_bit RX11) (by decide +kernel))⟩, ⟨vk_R.of (st_w hts 542 (w := .stringRef RX6 38 "from") (by decide +kernel)) (hE 0 (by decide)),
    vk_R.of (st_w hts 599 (w := .stringRef RX6 55 "edge") (by decide +kernel)) (hE 1 (by decide)),
    vk_R.of (st_w hts 600 (w := .stringRef RX6 57 "spread") (by decide +kernel)) (hE 2 (by decide)),
    vk_R.of (st_w hts 601 (w := .stringRef RX6 59 "grow") (by decide +kernel)) (hE 3 (by decide)),
    vk_R.of (st_w hts 602 (w := .stringRef RX6 61 "keep") (by decide +kernel)) (hE 4 (by decide)),
    vk_R.of (st_w hts 603 (w := .stringRef RX6 63 "other") (by decide +kernel)) (hE 5 (by decide))⟩⟩, ⟨va_Nw.of rfl (st_w hts 87 (w := .methodLinkNest RX11 9 yX9_init RX11) (by decide +kernel)),
    va_Nw.of rfl (st_w hts 103 (w := .methodLinkNest RX11 18 yX7_init RX11) (by decide +kernel)),
    va_Nw.of rfl (st_w hts 133 (w := .methodLinkNest RX6 11 yX7_init RX11) (by decide +kernel)),
    va_Nw.of rfl (st_w hts 203 (w := .methodLinkNest RX0 38 yX1_init RX11) (by decide +kernel)),
    va_Nw.of rfl (st_w hts 295 (w := .methodLinkNest RX11 52 yX10_init RX11) (by decide +kernel)),
    va_Nw.of rfl (st_w hts 331 (w := .methodLinkNest RX11 59 yX3_init RX11) (by decide +kernel)),
    va_Nw.of rfl (st_w hts 416 (w := .methodLinkNest RX11 86 yX8_init RX11) (by decide +kernel))⟩, o1, o8⟩, hS, ?_, ?_⟩
  · intro k q hk
    match k, hk with
    | 0, hk => cases hk; exact ⟨aI1, aI2⟩
    | 1, hk => cases hk; exact ⟨aZ1, aZ2⟩
    | 2, hk => cases hk; exact ⟨aB1, aB2⟩
    | 3, hk => cases hk; exact ⟨aC1, aC2⟩
    | 4, hk => cases hk; exact ⟨aS1, aS2⟩
    | n + 5, hk => cases hk
  · exact va_Zof (st_w hts 556 (w := .laysStatic RJ0 "COMPACT_STRINGS" "Z") (by decide +kernel)) (htB _ in_J0) (va_eqt (hs _ (by decide +kernel))) hA
  · exact va_Zqof (st_w hts 572 (w := .laysStatic RJ3 "SIOOBE_FORMATTER" "Ljava/util/function/BiFunction;") (by decide +kernel)) (htB _ in_J3) (hs _ (by decide +kernel)) hA
