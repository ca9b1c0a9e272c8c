/-! THE ENTRY: two objects are made, then the loop -/
def nS (X : XE) (n : Nat) (pr : Nat → Nat → Bool) (σ : Mem) (s : State) (H : Heap) : Prop := bcells X n pr σ H ∧ H.size = X.1 + n ∧ bKeep X H s.heap ∧ (∀ i, n ≤ i → pr i = b0) ∧ (∀ i, n ≤ i → ∀ k, σ i k = 0) ∧ WF σ
def nC (X : XE) (b : Nat) (p : Program) (s : State) (m : MethodId) (c : Code) : Prop :=
  p.tables.exec = Jvm.exec ∧ c.code = cL_law ∧ c.maxLocals = 4 ∧ s.vm.findClass RL = some m.cls ∧ (∀ w ∈ BIG, w.before #[Value.ref b] s = true) ∧ bK X s ∧ s.heap.size = X.1
section ENTRY
variable {X : XE} {b : Nat} {p : Program} {l : Launch} {e : Env} {s : State} {m : MethodId} {below : List Frame} {meth : Method} {c : Code} {H : Heap} {ls : Array Slot} {cs ss pc n : Nat} {pr : Nat → Nat → Bool} {σ : Mem} {Q : State → Prop} {S : List Value}
theorem n_new {idx ci N : Nat} {C0 : String} {T : u_T} {ty : Nat → FieldType} {rs : List (Option Nat)} (C : nC X b p s m c) (hH : nS X n pr σ s H) (hd : decode cL_law pc = .ok (.new idx, 3)) (hkl : Cond.classLink RL idx C0 ∈ BIG) (hcl : vwCl[ci]? = some (C0, T, N)) (hin : ∀ w ∈ u_ws C0 T N, w ∈ BIG) (hbi : Cond.instantiable C0 N ∈ BIG) (hini : Cond.initialized C0 ∈ BIG) (hty : ∀ k, k < N → parseFieldDescriptor (T k).2.2.1 = some (ty k))
    (hdv : (List.range N).all (fun k => dvOK (ty k) (rs.getD k none)) = true) (hs : xsh n = (ci, N, rs)) (hk : Nat.blt ci 20 = true) (hc1 : cs + 1 ≤ 600000) (hs1 : ss + N ≤ 7302250)
    (kk : ∀ H1 : Heap, nS X (n + 1) pr σ s H1 → W p l e room_1 s m #[Value.ref b] below meth c H1 [] (cs + 1) (ss + N) Q (F0 m (pc + 3) ls (.ref (xad X n) :: S))) : W p l e room_1 s m #[Value.ref b] below meth c H [] cs ss Q (F0 m pc ls S) := by
  obtain ⟨hx, hb, hml, hown, hts, hK, hz0⟩ := C
  have hKn := hK.1.1.1 ci _ hcl
  obtain ⟨h1, h2, h3, h4, h5, h6⟩ := hH
  have hzz : H.size = xad X n := h2
  refine W.newcK hx hb hown (hts _ hkl) (hts _ hbi) (hts _ hini) rfl hd hc1 hs1 hKn.2.1 rfl fun H1 kC hkC e1 z1 o1 => ?_
  refine W.eq (g2 := F0 m (pc + 3) ls (.ref (xad X n) :: S)) (by rw [hzz]) ?_
  refine kk H1 ⟨fun i hi => ?_, by omega, fun q hq => (o1 q (by omega)).trans (h3 q hq), fun i hi => h4 i (by omega), fun i hi => h5 i (by omega), h6⟩
  by_cases q : i = n
  · subst q
    have hp := h4 i (Nat.le_refl _)
    have hσ := h5 i (Nat.le_refl _)
    unfold bat
    rw [hs, if_pos (blt_lt hk), ← hzz]
    refine (u_born ty hts hin hKn hkC e1 hty).to (fun k hkN => ?_)
    have hq := List.all_eq_true.mp hdv k (List.mem_range.mpr hkN)
    unfold bval
    rw [hs]
    revert hq
    cases hr : rs.getD k none with
    | none =>
      intro hq
      show _ = vI (σ i k)
      rw [hσ k]
      cases ht : ty k <;> rw [ht] at hq <;> first | rfl | cases hq
    | some r =>
      intro hq
      show _ = if pr i k = true then _ else Value.null
      rw [hp, if_neg (fun q => by cases q)]
      cases ht : ty k <;> rw [ht] at hq <;> first | rfl | cases hq
  · exact bat_kept (h1 i (by omega)) (o1 _ (by unfold xad; omega))
theorem n_init {y : MethodName} {bytes : ByteArray} {maxL j nE idx : Nat} {rm : Room} {post' : Mem → Prop} (C : nC X b p s m c) (hH : nS X (j + 1) pr σ s H) (hpj : pr j = b0)
    (hd : decode cL_law pc = .ok (.invokespecial idx, 3)) (hy : y.name = "<init>") (him : Cond.instanceMethod y ∈ BIG) (hco : Cond.code y bytes maxL none ∈ BIG) (hini : Cond.initialized y.cls ∈ BIG) (hlk : Cond.methodLink RL idx y ∈ BIG) (hdes : xdes y 0)
    (hR : rm.cells = nE - (j + 1) ∧ rm.slots = SL nE - SL (j + 1) ∧ Nat.ble (rm.frames + 1) 11 = true ∧ Nat.ble (8 + (maxL + 11) + rm.locals) 406 = true) (hls : ls.size = 4) (hrest : Nat.ble ((S.map fun v => v.category).sum) 8 = true)
    (hc1 : cs + (nE - (j + 1)) ≤ 600000) (hs1 : ss + (SL nE - SL (j + 1)) ≤ 7302250) (hct : BT X y bytes maxL rm [.ref (xad X j)] j nE pr σ post')
    (kk : ∀ (pr' : Nat → Nat → Bool) (σ' : Mem) (H1 : Heap), post' σ' → nS X nE pr' σ' s H1 → (∀ i, i < j → pr' i = pr i) → (∀ i, j ≤ i → i < nE → wh pr' i) → W p l e room_1 s m #[Value.ref b] below meth c H1 [] (cs + (nE - (j + 1))) (ss + (SL nE - SL (j + 1))) Q (F0 m (pc + 3) ls S)) : W p l e room_1 s m #[Value.ref b] below meth c H [] cs ss Q (F0 m pc ls (.ref (xad X j) :: S)) := by
  obtain ⟨hx, hb, hml, hown, hts, hK, hz0⟩ := C
  obtain ⟨h1, h2, h3, h4, h5, h6⟩ := hH
  have hG : GoodIn BIG (Cond.code y bytes maxL none :: BIG) := x_goods (fun _ h => h) hco
  have cb : CallB room_1 s #[Value.ref b] RL idx y bytes maxL none (Cond.code y bytes maxL none :: BIG) rm (nE - (j + 1)) (SL nE - SL (j + 1)) 0 := callB_of 0 hts hG rfl hR.1 hR.2.1 (hts _ hini) (hts _ hlk) hdes ⟨Nat.le_of_ble_eq_true hR.2.2.1, Nat.le_of_ble_eq_true hR.2.2.2⟩
  have hr := va_runI (l := l) (p := p) (e := e) (below := below) (meth := meth) (H := H) (locs := []) (cells := cs) (slots := ss) (g := F0 m pc ls (.ref (xad X j) :: S)) (b := xad X j) (As := []) (rest := S) ⟨hx, hb, hml, hown, hts⟩ (hct l) ⟨cb, hy, hts _ him⟩ ⟨b_blind, fun U hU hW => ⟨rfl, ⟨bK.moved hW hK, by rw [hU]; exact h1, by rw [hU]; exact h2, h4, h5, h6⟩, hpj⟩⟩ rfl rfl (by show ls.size = 4; exact hls) rfl (by show 2 * 0 + _ ≤ 8; have := Nat.le_of_ble_eq_true hrest; omega) hd ⟨hc1, hs1⟩
  intro T hT X0
  obtain ⟨v, st₀, t, T', L1, h0, X', hL, e1, e2, ⟨pr', σ', hv, hp, hC, hz, hk, g5, g6, gW, g8, g11⟩, st⟩ := hr T hT X0
  cases hv
  rw [h0] at hk
  have w := kk pr' σ' T'.heap hp ⟨by rw [e1]; exact hC, by rw [e1]; exact hz, fun q hq => by rw [e1, hk q hq]; exact h3 q hq, g5, g6, gW⟩ g8 g11
  have w2 := va_forget (locs := [] ++ L1) (fun q hq => by
    rcases List.mem_append.mp hq with h | h
    · cases h
    · rw [hz0]; exact hL q h) w
  obtain ⟨t2, a1, b1⟩ := w2 T' rfl X'
  exact ⟨t2, st t2 a1, b1⟩
end ENTRY
theorem SL_1 : SL 122 - SL (0 + 1) ≤ 100000 ∧ SL 162 - SL (122 + 1) ≤ 100000 := by decide +kernel
set_option maxRecDepth 100000 in
set_option maxHeartbeats 4000000 in
theorem whole_start {p : Program} {e : Env} {s : State} {m : MethodId} {below : List Frame} {meth : Method} {c : Code} (l : Launch) (hflags : l.flags = flags0) {b L : Nat} {xs : Nat → Int32} (hL : L ≤ 4096) (C0 : lw_At p s m meth c b L xs) : W p l e room_1 s m #[Value.ref b] below meth c s.heap [] 0 0 (lw_Z below #[Value.ref b] s) (entryFrame m ([Value.ref b] : List Value).toArray 4) := by
  obtain ⟨hx, hb, hret, hml, hown, hts, hX, hbl, hlo, hgv⟩ := C0
  obtain ⟨X, hX1, hK, hS⟩ := st_pic hts hgv
  have htB : ∀ w ∈ BIG, w.before #[Value.ref b] s = true := fun w hw => hts w (big_tbl w hw)
  have C : nC X b p s m c := ⟨hx, hb, hml, hown, htB, hK, hX1.symm⟩
  have hl := lv_entry ([.ref b]) (n := 4) (Nat.le_of_ble_eq_true rfl)
  rw [lg_entry_eq]
  generalize (lg_sl ([.ref b]) ++ List.replicate (4 - (lg_sl ([.ref b])).length) Slot.unset).toArray = ls at hl ⊢
  have hl : lv_has ls 4 [(0, .ref b)] := hl
  have z0 : nS X 0 (fun _ => b0) (fun _ _ => 0) s s.heap := ⟨fun _ h => absurd h (Nat.not_lt_zero _), hX1.symm, fun _ _ => rfl, fun _ _ => rfl, fun _ _ _ => rfl, fun _ _ => r_lit rfl⟩
  refine n_new (n := 0) (ci := 11) (pc := 0) C z0 dL_law_0 kl_L_7 rfl bw_X11 bi_X11 in_X11 tyX11_ok rfl sh_0 rfl (by decide) (by decide) (fun H1 z1 => ?_)
  refine lv_dup hx hb dL_law_3 rfl ?_
  refine n_init (j := 0) (nE := 122) (pc := 4) C z1 rfl dL_law_4 rfl im_X11_init co_X11_init in_X11 ml_L_9 ⟨by decide, by decide, rfl⟩ ⟨rfl, rfl, rfl, rfl⟩ hl.1 rfl (by decide) (by have := SL_1.1; omega) (k_X11 X (Int.le_refl _) (by decide)) (fun pr1 σ1 H2 p1 z2 _ w1 => ?_)
  have s1 := SL_1.1
  have s2 := SL_1.2
  refine lv_astore_n (lv' := [(1, .ref (xad X 0)), (0, .ref b)]) hx hb dL_law_7 rfl hl (by decide) rfl (fun ls2 hl2 => ?_)
  refine n_new (n := 122) (ci := 12) (pc := 8) C z2 dL_law_8 kl_L_10 rfl bw_X12 bi_X12 in_X12 tyX12_ok rfl sh_122 rfl (by omega) (by omega) (fun H3 z3 => ?_)
  refine lv_dup hx hb dL_law_11 rfl ?_
  refine n_init (j := 122) (nE := 162) (pc := 12) C z3 (z2.2.2.2.1 122 (Nat.le_refl _)) dL_law_12 rfl im_X12_init co_X12_init in_X12 ml_L_12 ⟨by decide, by decide, rfl⟩ ⟨rfl, rfl, rfl, rfl⟩ hl2.1 rfl (by omega) (by omega) (k_X12 X) (fun pr2 σ2 H4 p2 z4 k2 w2 => ?_)
  refine lv_astore_n (lv' := [(2, .ref (xad X 122)), (1, .ref (xad X 0)), (0, .ref b)]) hx hb dL_law_15 rfl hl2 (by decide) rfl (fun ls3 hl3 => ?_)
  refine W.widen (k := 600000) (n := 7302250) (by omega) (by omega) ?_
  refine lv_iconst (v := Int32.ofInt 0) hx hb dL_law_16 rfl ?_
  refine lv_istore_n (lv' := lL X b 0) hx hb dL_law_17 rfl hl3 (by decide) rfl (fun ls4 hl4 => ?_)
  obtain ⟨g1, g2, g3, g4, g5, g6⟩ := z4
  have hwh : ∀ i, i < 162 → wh pr2 i := fun i hi => by
    by_cases q : i < 122
    · intro k hk; rw [k2 i q]; exact w1 i (Nat.zero_le _) q k hk
    · exact w2 i (by omega) hi
  have hI : INV σ2 := by
    rw [p2]
    refine inv_new (fun j k q => p1.1 j k q) (fun r hr => ?_)
    rw [p1.2 r hr]
    exact ruleF_0 rfl
  refine l_loop X b L xs hL 513 0 σ2 hI (by omega) (by omega) (by omega) p l e s m below meth c H4 ls4 ⟨hx, hb, hret, hlo, hml, hown, hts, hK.1, hS, hX, hbl, hX1.symm⟩ ⟨fun i hi => (bat_x (hwh i hi)).mp (g1 i hi), g2, fun q hq => ?_, g6⟩ hl4
  by_cases q1 : q < X.1
  · exact g3 q q1
  · have q2 : X.1 + 162 ≤ q := by
      by_cases z : q < X.1 + 162
      · exact absurd ⟨by omega, z⟩ hq
      · omega
    rw [Array.getElem?_eq_none (by omega), Array.getElem?_eq_none (by omega)]
