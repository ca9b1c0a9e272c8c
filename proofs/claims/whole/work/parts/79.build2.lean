/-! BUILDING, 2: calls and ends -/
theorem wh_of {j ci N : Nat} {m : Nat → Bool} {rs : List (Option Nat)} (hs : xsh j = (ci, N, rs)) (h : (List.range rs.length).all (fun k => (rs.getD k none).isNone || m k) = true) : ∀ k, (xsh j).2.2.getD k none ≠ none → m k = true := by
  intro k hk
  rw [hs] at hk
  have hk : rs.getD k none ≠ none := hk
  by_cases q : k < rs.length
  · have := List.all_eq_true.mp h k (List.mem_range.mpr q)
    cases hz : rs.getD k none with
    | none => exact absurd hz hk
    | some v => rw [hz] at this; exact this
  · exact absurd (by rw [List.getD_eq_getElem?_getD, List.getElem?_eq_none (by omega)]; rfl) hk
section BOK2
variable {X : XE} {R : Room} {own : String} {cc : ByteArray} {nL : Nat} {pr0 : Nat → Nat → Bool} {j nE a : Nat} {post : Mem → Prop} {pc : Nat} {L : List (Nat × Value)} {S st0 : List Value} {n nd : Nat} {m ma : Nat → Bool} {σ : Mem}
theorem b_blind {as : List Value} {pr : Nat → Nat → Bool} {jc : Nat} : FrameBlind (va_Pc as (fun U => bPI X n pr σ U ∧ pr jc = b0)) := fun a U g mk q => ⟨q.1, ⟨bK.same rfl q.2.1.1, q.2.1.2⟩, q.2.2⟩
theorem b_run {s : State} {H : Heap} {mi : MethodId} {args : Array Value} {below : List Frame} {meth : Method} {c : Code} {p : Program} {l : Launch} {e : Env} {locs : List Loc} {ls : Array Slot} {rest : List Value} {post' : Mem → Prop} {as' : Array Value} {pr : Nat → Nat → Bool} {jc nE' cs ss : Nat} {Q : State → Prop}
    (h2 : H.size = X.1 + n) (h3 : bKeep X H s.heap) (h4 : ∀ l ∈ locs, X.1 ≤ l.base) (h5 : ∀ i, jc + 1 ≤ i → pr i = b0) (h8 : ∀ i, i < j → pr i = pr0 i) (h9 : pr j = m) (h10 : pr a = ma) (h11 : ∀ i, j < i → i < jc → i ≠ a → wh pr i) (hjj : j < jc) (hac : a < jc ∨ nE' ≤ a) (hE : jc < nE')
    (hr : va_Run p l e R s mi args below meth c H locs cs ss (nE' - (jc + 1)) (SL nE' - SL (jc + 1)) (F0 mi pc ls st0) rest (bQ X pr jc nE' post' as') (bF X))
    (kk : ∀ (σ' : Mem) (H1 : Heap) (locs1 : List Loc), post' σ' → bH X pr0 j a nE' nE' m ma σ' s H1 locs1 → W p l e R s mi args below meth c H1 locs1 (cs + (nE' - (jc + 1))) (ss + (SL nE' - SL (jc + 1))) Q (F0 mi (pc + 3) ls rest)) : W p l e R s mi args below meth c H locs cs ss Q (F0 mi pc ls st0) := by
  intro T hT X0
  obtain ⟨v, st₀, t, T', L1, h0, X', hL, e1, e2, ⟨pr', σ', hv, hp, hC, hz, hk, g5, g6, gW, g8, g11⟩, st⟩ := hr T hT X0
  cases hv
  rw [h0] at hk
  have hma : pr' a = ma := by
    rcases hac with q | q
    · rw [g8 a q, h10]
    · rw [g5 a q, ← h10, h5 a (by omega)]
  obtain ⟨t2, a1, b1⟩ := kk σ' T'.heap (locs ++ L1) hp ⟨pr', by rw [e1]; exact hC, by rw [e1]; exact hz, fun q hq => by rw [e1, hk q hq]; exact h3 q hq, fun q hq => by
      rcases List.mem_append.mp hq with h | h
      · exact h4 q h
      · exact hL q h, g5, g6, gW, fun i hi => by rw [g8 i (by omega)]; exact h8 i hi, by rw [g8 j hjj]; exact h9, hma, fun i z1 z2 z3 => by
        by_cases q : i < jc
        · intro k hk; rw [g8 i q]; exact h11 i z1 q z3 k hk
        · exact g11 i (by omega) z2⟩ T' rfl X'
  exact ⟨t2, st t2 a1, b1⟩
theorem b_call {y : MethodName} {bytes : ByteArray} {maxL jc nE' np idx : Nat} {rm : Room} {As rest : List Value} {post' : Mem → Prop}
    (hd : decode cc pc = .ok (.invokespecial idx, 3)) (hy : y.name = "<init>") (him : Cond.instanceMethod y ∈ BIG) (hco : Cond.code y bytes maxL none ∈ BIG) (hini : Cond.initialized y.cls ∈ BIG) (hlk : Cond.methodLink own idx y ∈ BIG) (hdes : xdes y np) (hnp : As.length = np)
    (hR : rm.cells = nE' - (jc + 1) ∧ rm.slots = SL nE' - SL (jc + 1) ∧ Nat.ble (rm.frames + 1) R.frames = true ∧ Nat.ble (8 + (maxL + 11) + rm.locals) R.locals = true) (hRm : R.cells = nE - (j + 1) ∧ R.slots = SL nE - SL (j + 1)) (hst : st0 = As.reverse ++ .ref (xad X jc) :: rest) (hrest : Nat.ble ((rest.map fun v => v.category).sum) 8 = true)
    (hnc : n = jc + 1) (hndc : nd = jc) (hjj : j < jc) (hac : a < jc ∨ nE' ≤ a) (hE : jc < nE') (hE2 : nE' ≤ nE) (hct : ∀ pr : Nat → Nat → Bool, (∀ i, j < i → i < jc → i ≠ a → wh pr i) → BT X y bytes maxL rm (.ref (xad X jc) :: As) jc nE' pr σ post')
    (kk : ∀ σ' : Mem, post' σ' → bok X R own cc nL pr0 j nE a post (pc + 3) L rest nE' nE' m ma σ') : bok X R own cc nL pr0 j nE a post pc L st0 n nd m ma σ := by
  intro p l e s mi args below meth c H locs ls cs ss C hH hl w1 w2
  obtain ⟨hx, hb, hre, hlo, hml, hown, hts, hK, hnm⟩ := id C
  obtain ⟨pr, h1, h2, h3, h4, h5, h6, h7, h8, h9, h10, h11⟩ := hH
  subst hnc
  subst hndc
  have hG : GoodIn BIG (Cond.code y bytes maxL none :: BIG) := x_goods (fun _ h => h) hco
  have cb : CallB R s args own idx y bytes maxL none (Cond.code y bytes maxL none :: BIG) rm (nE' - (nd + 1)) (SL nE' - SL (nd + 1)) np := callB_of np hts hG rfl hR.1 hR.2.1 (hts _ hini) (hts _ hlk) hdes ⟨Nat.le_of_ble_eq_true hR.2.2.1, Nat.le_of_ble_eq_true hR.2.2.2⟩
  have m1 := SL_mono hE2
  have m2 := SL_mono (show nd + 1 ≤ nE' by omega)
  refine b_run h2 h3 h4 (fun i hi => h5 i (by omega)) h8 h9 h10 h11 hjj hac hE (va_runI (b := xad X nd) (As := As) (rest := rest) ⟨hx, hb, hml, hown, hts⟩ (hct pr h11 l) ⟨cb, hy, hts _ him⟩ ⟨b_blind, fun U hU hW => ⟨rfl, ⟨bK.moved hW hK, by rw [hU]; exact h1, by rw [hU]; exact h2, fun i hi => h5 i (by omega), h6, h7⟩, h5 nd (Nat.le_refl _)⟩⟩ rfl hnp (by show ls.size = nL; exact hl.1) hst (by show 2 * 0 + _ ≤ 8; have := Nat.le_of_ble_eq_true hrest; omega) hd ⟨by omega, by omega⟩) ?_
  intro σ' H1 locs1 hp hH1
  exact kk σ' hp p l e s mi args below meth c H1 locs1 ls _ _ C hH1 hl (by omega) (by omega)
theorem b_callN {y : MethodName} {bytes : ByteArray} {maxL jc nE' np idx : Nat} {rm : Room} {As rest : List Value} {post' : Mem → Prop}
    (hd : decode cc pc = .ok (.invokespecial idx, 3)) (hy : y.name = "<init>") (him : Cond.instanceMethod y ∈ BIG) (hco : Cond.code y bytes maxL none ∈ BIG) (hini : Cond.initialized y.cls ∈ BIG) (hlk : ∀ s : State, bK X s → va_Nw (.methodLinkNest own idx y RX11) s) (hdes : xdes y np) (hnp : As.length = np)
    (hR : rm.cells = nE' - (jc + 1) ∧ rm.slots = SL nE' - SL (jc + 1) ∧ Nat.ble (rm.frames + 1) R.frames = true ∧ Nat.ble (8 + (maxL + 11) + rm.locals) R.locals = true) (hRm : R.cells = nE - (j + 1) ∧ R.slots = SL nE - SL (j + 1)) (hst : st0 = As.reverse ++ .ref (xad X jc) :: rest) (hrest : Nat.ble ((rest.map fun v => v.category).sum) 8 = true)
    (hnc : n = jc + 1) (hndc : nd = jc) (hjj : j < jc) (hac : a < jc ∨ nE' ≤ a) (hE : jc < nE') (hE2 : nE' ≤ nE) (hct : ∀ pr : Nat → Nat → Bool, (∀ i, j < i → i < jc → i ≠ a → wh pr i) → BT X y bytes maxL rm (.ref (xad X jc) :: As) jc nE' pr σ post')
    (kk : ∀ σ' : Mem, post' σ' → bok X R own cc nL pr0 j nE a post (pc + 3) L rest nE' nE' m ma σ') : bok X R own cc nL pr0 j nE a post pc L st0 n nd m ma σ := by
  intro p l e s mi args below meth c H locs ls cs ss C hH hl w1 w2
  obtain ⟨hx, hb, hre, hlo, hml, hown, hts, hK, hnm⟩ := id C
  obtain ⟨pr, h1, h2, h3, h4, h5, h6, h7, h8, h9, h10, h11⟩ := hH
  subst hnc
  subst hndc
  have hG : GoodIn BIG (Cond.code y bytes maxL none :: BIG) := x_goods (fun _ h => h) hco
  have cb := va_cnB (R := R) (args := args) (mc := nE' - (nd + 1)) (ms := SL nE' - SL (nd + 1)) np hts hG rfl hR.1 hR.2.1 (hlk s hK) (hts _ hini) hdes ⟨Nat.le_of_ble_eq_true hR.2.2.1, Nat.le_of_ble_eq_true hR.2.2.2⟩
  have m1 := SL_mono hE2
  have m2 := SL_mono (show nd + 1 ≤ nE' by omega)
  refine b_run h2 h3 h4 (fun i hi => h5 i (by omega)) h8 h9 h10 h11 hjj hac hE (va_runIN (b := xad X nd) (As := As) (rest := rest) ⟨hx, hb, hml, hown, hts⟩ (hct pr h11 l) ⟨cb, hy, hts _ him⟩ ⟨b_blind, fun U hU hW => ⟨rfl, ⟨bK.moved hW hK, by rw [hU]; exact h1, by rw [hU]; exact h2, fun i hi => h5 i (by omega), h6, h7⟩, h5 nd (Nat.le_refl _)⟩⟩ rfl hnp (by show ls.size = nL; exact hl.1) hst (by show 2 * 0 + _ ≤ 8; have := Nat.le_of_ble_eq_true hrest; omega) hd ⟨by omega, by omega⟩) ?_
  intro σ' H1 locs1 hp hH1
  exact kk σ' hp p l e s mi args below meth c H1 locs1 ls _ _ C hH1 hl (by omega) (by omega)
theorem b_vret (hd : decode cc pc = .ok (.return_, 1)) (hn : n = nE) (hnd : nd = nE) (hj : j < nE) (hm : ∀ k, (xsh j).2.2.getD k none ≠ none → m k = true) (ha : a < nE → ∀ k, (xsh a).2.2.getD k none ≠ none → ma k = true) (h : post σ) : bok X R own cc nL pr0 j nE a post pc L [] n nd m ma σ := by
  intro p l e s mi args below meth c H locs ls cs ss C hH hl w1 w2
  obtain ⟨pr, h1, h2, h3, h4, h5, h6, h7, h8, h9, h10, h11⟩ := hH
  subst hn
  subst hnd
  refine W.widen (k := nd - (j + 1)) (n := SL nd - SL (j + 1)) (by omega) (by omega) ?_
  refine W.vret C.1 C.2.1 C.2.2.1 (fun t ht hW => ⟨pr, σ, rfl, h, by rw [ht]; exact h1, by rw [ht]; exact h2, fun q hq => by rw [ht]; exact h3 q hq, h5, h6, h7, h8, fun i z1 z2 => ?_⟩) h4 hd C.2.2.2.1
  by_cases e : i = j
  · subst e; intro k hk; rw [h9]; exact hm k hk
  · by_cases e2 : i = a
    · subst e2; intro k hk; rw [h10]; exact ha z2 k hk
    · exact h11 i (by omega) z2 e2
/-- Now's constructor calls refresh, over the cells that stand -/
theorem b_callZ {maxL idx N : Nat} {rm : Room} {C0 : String} {T0 : u_T} {y : MethodName} {bytes : ByteArray} {post' : Int → Mem → Prop}
    (hd : decode cc pc = .ok (.invokevirtual idx, 3)) (hm : ME C0 y bytes maxL none) (hlk : Cond.methodLink own idx y ∈ BIG) (hcl : vwCl[5]? = some (C0, T0, N)) (hs : xsh 14 = (5, N, [some 3, some 15, none])) (hdes : xdes y 0)
    (hR : rm.cells = 0 ∧ rm.slots = 0 ∧ Nat.ble (rm.frames + 1) R.frames = true ∧ Nat.ble (8 + (maxL + 11) + rm.locals) R.locals = true) (hRm : R.cells = nE - 15 ∧ R.slots = SL nE - SL 15) (hnE : 16 ≤ nE) (hpr : ∀ i, 1 ≤ i → i < 14 → wh pr0 i) (ha : 16 ≤ a)
    (hct : zCT X y bytes maxL none rm 0 [.ref (xad X 14)] σ post') (hsame : ∀ σ', post' 0 σ' → ∀ i k, i ≠ 15 → σ' i k = σ i k) (kk : ∀ σ', post' 0 σ' → bok X R own cc nL pr0 14 nE a post (pc + 3) L [] 16 16 (bset (bset b0 1) 0) ma σ') : bok X R own cc nL pr0 14 nE a post pc L [.ref (xad X 14)] 16 16 (bset (bset b0 1) 0) ma σ := by
  intro p l e s mi args below meth c H locs ls cs ss C hH hl w1 w2
  obtain ⟨hx, hb, hre, hlo, hml, hown, hts, hK, hnm⟩ := id C
  obtain ⟨pr, h1, h2, h3, h4, h5, h6, h7, h8, h9, h10, h11⟩ := hH
  obtain ⟨hy, m1, m2, m3, m4⟩ := hm
  have hwh : ∀ i, 1 ≤ i → i ≤ 15 → wh pr i := by
    intro i z1 z2
    by_cases q : i < 14
    · intro k hk; rw [h8 i q]; exact hpr i z1 q k hk
    · by_cases q2 : i = 14
      · subst q2; intro k hk; rw [h9]; exact wh_of hs rfl k hk
      · exact h11 i (by omega) (by omega) (by omega)
  have hcell := h1 14 (by omega)
  unfold bat at hcell
  rw [hs, if_pos (show (5 : Nat) < 20 by decide)] at hcell
  obtain ⟨cell, q1, q2, q3, q4⟩ := hcell
  obtain ⟨hSl, hfc, -⟩ := hK.1.1.1 5 _ hcl
  have hG : GoodIn BIG (Cond.code y bytes maxL none :: BIG) := x_goods (fun _ h => h) m4
  have cb : CallB R s args own idx y bytes maxL none (Cond.code y bytes maxL none :: BIG) rm 0 0 0 := callB_of 0 hts hG rfl hR.1 hR.2.1 (by rw [hy]; exact hts _ m3) (hts _ hlk) hdes ⟨Nat.le_of_ble_eq_true hR.2.2.1, Nat.le_of_ble_eq_true hR.2.2.2⟩
  have mm1 := SL_mono hnE
  have w3 : ss + SL 15 ≤ SL 16 := w2
  have mm2 := SL_mono (show 15 ≤ 16 by omega)
  have hZ : zxcells X σ H := fun i hi => by
    simp only [inS, Bool.and_eq_true, Nat.ble_eq] at hi
    exact (bat_x (hwh i hi.1 hi.2)).mp (h1 i (by omega))
  have hr := va_runV (l := l) (p := p) (e := e) (below := below) (meth := meth) (H := H) (locs := locs) (cells := cs) (slots := ss) (g := F0 mi pc ls [.ref (xad X 14)]) (C := C0) (b := xad X 14) (As := []) (rest := []) ⟨hx, hb, hml, hown, hts⟩ (hct l) ⟨cb, hts _ m1, hts _ m2⟩ ⟨zx_blind, ⟨cell, q1, by rw [q3]; rfl, by rw [q2]; exact hfc⟩, fun U hU hW => ⟨rfl, xK.moved hW hK.1, by rw [hU]; exact hZ, h7⟩⟩ rfl rfl (by show ls.size = nL; exact hl.1) rfl (by show 2 * 0 + _ ≤ 8; decide) hd ⟨by omega, by omega⟩
  intro T hT X0
  obtain ⟨v, st₀, t, T', L1, g0, X', hL, e1, e2, ⟨r, σ', hv, hrk, hp, hW, hC, hz, hk⟩, st⟩ := hr T hT X0
  have hr0 : r = 0 := hrk
  subst hr0
  cases hv
  rw [g0] at hz hk
  have hsm := hsame σ' hp
  have hcells : bcells X 16 pr σ' T'.heap := fun i hi => by
    by_cases q : i = 0
    · subst q
      refine bat_to rfl (fun k => hsm 0 k (by decide)) (bat_kept (h1 0 (by omega)) ?_)
      rw [e1]
      exact hk _ (fun w => by have := w.1; unfold xad at this; omega)
    · rw [e1]
      exact (bat_x (hwh i (by omega) (by omega))).mpr (hC i (by simp only [inS, Bool.and_eq_true, Nat.ble_eq]; omega))
  obtain ⟨t2, a1, b1⟩ := kk σ' hp p l e s mi args below meth c T'.heap (locs ++ L1) ls cs ss C ⟨pr, hcells, by rw [e1]; exact hz.trans h2, fun q hq => by rw [e1, hk q (fun w => by have := w.1; omega)]; exact h3 q hq, fun q hq => by
      rcases List.mem_append.mp hq with h | h
      · exact h4 q h
      · exact Nat.le_trans (Nat.le_succ _) (hL q h).1, h5, fun i hi k => by rw [hsm i k (by omega)]; exact h6 i hi k, hW, h8, h9, h10, h11⟩ hl w1 w2 T' rfl X'
  exact ⟨t2, st t2 a1, b1⟩
end BOK2
