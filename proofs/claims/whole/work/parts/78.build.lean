/-! BUILDING: the constructors' walk. Cell j stands at base + j as soon as it is made; a place of a reference is null until it is set; pr j says which places of cell j are set. -/
def SL : Nat → Nat
  | 0 => 0
  | n + 1 => SL n + (xsh n).2.1
theorem SL_mono {a b : Nat} (h : a ≤ b) : SL a ≤ SL b := by
  induction h with
  | refl => exact Nat.le_refl _
  | step _ ih => exact Nat.le_trans ih (Nat.le_add_right _ _)
def b0 : Nat → Bool := fun _ => false
def bset (f : Nat → Bool) (k : Nat) : Nat → Bool := fun i => i == k || f i
def bpre (c : Nat) : Nat → Bool := fun i => decide (i < c)
theorem bpre_0 : b0 = bpre 0 := funext fun i => (decide_eq_false (Nat.not_lt_zero i)).symm
theorem bpre_s (c : Nat) : bset (bpre c) c = bpre (c + 1) := by
  funext i
  simp only [bset, bpre]
  by_cases h : i = c
  · subst h; simp
  · have : (i == c) = false := by simpa using h
    rw [this, Bool.false_or]
    congr 1
    exact propext (by omega)
theorem bset_eq {f : Nat → Bool} {k : Nat} : bset f k k = true := by simp [bset]
theorem bset_ne {f : Nat → Bool} {k i : Nat} (h : i ≠ k) : bset f k i = f i := by
  have : (i == k) = false := by simpa using h
  simp only [bset, this, Bool.false_or]
def pset (pr : Nat → Nat → Bool) (j : Nat) (v : Nat → Bool) : Nat → Nat → Bool := fun i => if i = j then v else pr i
theorem pset_eq {pr : Nat → Nat → Bool} {j : Nat} {v : Nat → Bool} : pset pr j v j = v := if_pos rfl
theorem pset_ne {pr : Nat → Nat → Bool} {j i : Nat} {v : Nat → Bool} (h : i ≠ j) : pset pr j v i = pr i := if_neg h
def bval (X : XE) (pr : Nat → Nat → Bool) (σ : Mem) (j k : Nat) : Value := match (xsh j).2.2.getD k none with
  | some r => if pr j k = true then .ref (xad X r) else .null
  | none => vI (σ j k)
def bat (X : XE) (pr : Nat → Nat → Bool) (σ : Mem) (j : Nat) (H : Heap) : Prop := if (xsh j).1 < 20 then t_OB (xad X j) (X.2.1.1 (xsh j).1) (xsh j).2.1 (X.2.1.2 (xsh j).1) H (bval X pr σ j) else H[xad X j]? = some (arrV (X.2.2.1 (xsh j).1) (xsh j).2.1 (bval X pr σ j))
def bcells (X : XE) (n : Nat) (pr : Nat → Nat → Bool) (σ : Mem) (H : Heap) : Prop := ∀ j, j < n → bat X pr σ j H
def bN (U : State) : Prop := va_Nw (.methodLinkNest RX11 9 yX9_init RX11) U ∧ va_Nw (.methodLinkNest RX11 18 yX7_init RX11) U ∧ va_Nw (.methodLinkNest RX6 11 yX7_init RX11) U ∧ va_Nw (.methodLinkNest RX0 38 yX1_init RX11) U ∧ va_Nw (.methodLinkNest RX11 52 yX10_init RX11) U ∧ va_Nw (.methodLinkNest RX11 59 yX3_init RX11) U ∧ va_Nw (.methodLinkNest RX11 86 yX8_init RX11) U
def bK (X : XE) (U : State) : Prop := xK X U ∧ bN U ∧ va_AO RX1 U ∧ va_AO RX8 U
theorem bK.moved {X : XE} {u U : State} (hW : u.WarmedH U.vm) (h : bK X u) : bK X U := by
  obtain ⟨h1, ⟨a1, a2, a3, a4, a5, a6, a7⟩, c1, c2⟩ := h
  exact ⟨xK.moved hW h1, ⟨va_Nw.warmM hW a1, va_Nw.warmM hW a2, va_Nw.warmM hW a3, va_Nw.warmM hW a4, va_Nw.warmM hW a5, va_Nw.warmM hW a6, va_Nw.warmM hW a7⟩, va_AO.moved hW.alike c1, va_AO.moved hW.alike c2⟩
theorem bK.same {X : XE} {u U : State} (hv : U.vm = u.vm) (h : bK X u) : bK X U := by
  obtain ⟨h1, ⟨a1, a2, a3, a4, a5, a6, a7⟩, c1, c2⟩ := h
  exact ⟨xK.same hv h1, ⟨va_Nw.same rfl hv.symm a1, va_Nw.same rfl hv.symm a2, va_Nw.same rfl hv.symm a3, va_Nw.same rfl hv.symm a4, va_Nw.same rfl hv.symm a5, va_Nw.same rfl hv.symm a6, va_Nw.same rfl hv.symm a7⟩, va_AO.moved (by rw [hv]; exact Vm.Alike.refl _) c1, va_AO.moved (by rw [hv]; exact Vm.Alike.refl _) c2⟩
theorem bat_kept {X : XE} {pr : Nat → Nat → Bool} {σ : Mem} {j : Nat} {H H1 : Heap} (h : bat X pr σ j H) (e : H1[xad X j]? = H[xad X j]?) : bat X pr σ j H1 := by
  unfold bat at h ⊢
  by_cases hk : (xsh j).1 < 20
  · rw [if_pos hk] at h ⊢
    exact h.kept e
  · rw [if_neg hk] at h ⊢
    rw [e]; exact h
theorem bval_to {X : XE} {pr pr' : Nat → Nat → Bool} {σ σ' : Mem} {j : Nat} (hp : pr' j = pr j) (hs : ∀ k, σ' j k = σ j k) : bval X pr' σ' j = bval X pr σ j := by
  funext k
  unfold bval
  rw [hp, hs]
theorem bat_to {X : XE} {pr pr' : Nat → Nat → Bool} {σ σ' : Mem} {j : Nat} {H : Heap} (hp : pr' j = pr j) (hs : ∀ k, σ' j k = σ j k) (h : bat X pr σ j H) : bat X pr' σ' j H := by
  unfold bat at h ⊢
  rw [bval_to hp hs]
  exact h
def wh (pr : Nat → Nat → Bool) (i : Nat) : Prop := ∀ k, (xsh i).2.2.getD k none ≠ none → pr i k = true
/-- a cell whose places are all set is a cell of the picture -/
theorem bval_x {X : XE} {pr : Nat → Nat → Bool} {σ : Mem} {j : Nat} (hp : wh pr j) : bval X pr σ j = xval X σ j := by
  funext k
  unfold bval xval
  have hk := hp k
  revert hk
  cases (xsh j).2.2.getD k none with
  | none => intro _; rfl
  | some r =>
    intro hk
    have : pr j k = true := hk (fun q => by cases q)
    show (if pr j k = true then _ else _) = _
    rw [if_pos this]
theorem bat_x {X : XE} {pr : Nat → Nat → Bool} {σ : Mem} {j : Nat} {H : Heap} (hp : wh pr j) : bat X pr σ j H ↔ xat X σ j H := by
  unfold bat xat
  rw [bval_x hp]
def bF (X : XE) : Nat → Prop := fun q => X.1 ≤ q
def bKeep (X : XE) (H H0 : Heap) : Prop := ∀ q : Nat, q < X.1 → H[q]? = H0[q]?
def bQ (X : XE) (pr0 : Nat → Nat → Bool) (j nE : Nat) (post : Mem → Prop) : Array Value → State → Outcome → State → Prop := fun _ st oc t =>
  ∃ (pr : Nat → Nat → Bool) (σ : Mem), oc = .returned none ∧ post σ ∧ bcells X nE pr σ t.heap ∧ t.heap.size = X.1 + nE ∧ bKeep X t.heap st.heap ∧ (∀ i, nE ≤ i → pr i = b0) ∧ (∀ i, nE ≤ i → ∀ k, σ i k = 0) ∧ WF σ ∧ (∀ i, i < j → pr i = pr0 i) ∧ ∀ i, j ≤ i → i < nE → wh pr i
def bPI (X : XE) (n : Nat) (pr : Nat → Nat → Bool) (σ : Mem) (U : State) : Prop := bK X U ∧ bcells X n pr σ U.heap ∧ U.heap.size = X.1 + n ∧ (∀ i, n ≤ i → pr i = b0) ∧ (∀ i, n ≤ i → ∀ k, σ i k = 0) ∧ WF σ
def bC (own : String) (cc : ByteArray) (nL : Nat) (X : XE) (p : Program) (s : State) (m : MethodId) (args : Array Value) (meth : Method) (c : Code) : Prop :=
  p.tables.exec = Jvm.exec ∧ c.code = cc ∧ meth.sig.returnType = none ∧ meth.locks = false ∧ c.maxLocals = nL ∧ s.vm.findClass own = some m.cls ∧ (∀ w ∈ BIG, w.before args s = true) ∧ bK X s ∧ meth.name = "<init>"
/-- j: the cell being made; n: cells made; nd: cells below it (but j and a) are whole; m: places of j gone through; ma: places of a -/
def bH (X : XE) (pr0 : Nat → Nat → Bool) (j a n nd : Nat) (m ma : Nat → Bool) (σ : Mem) (s : State) (H : Heap) (locs : List Loc) : Prop := ∃ pr : Nat → Nat → Bool, bcells X n pr σ H ∧ H.size = X.1 + n ∧ bKeep X H s.heap ∧ (∀ l ∈ locs, X.1 ≤ l.base) ∧ (∀ i, nd ≤ i → pr i = b0) ∧ (∀ i, n ≤ i → ∀ k, σ i k = 0) ∧ WF σ ∧ (∀ i, i < j → pr i = pr0 i) ∧ pr j = m ∧ pr a = ma ∧ ∀ i, j < i → i < nd → i ≠ a → wh pr i
def bok (X : XE) (R : Room) (own : String) (cc : ByteArray) (nL : Nat) (pr0 : Nat → Nat → Bool) (j nE a : Nat) (post : Mem → Prop) (pc : Nat) (L : List (Nat × Value)) (S : List Value) (n nd : Nat) (m ma : Nat → Bool) (σ : Mem) : Prop :=
  ∀ (p : Program) (l : Launch) (e : Env) (s : State) (mi : MethodId) (args : Array Value) (below : List Frame) (meth : Method) (c : Code) (H : Heap) (locs : List Loc) (ls : Array Slot) (cs ss : Nat),
    bC own cc nL X p s mi args meth c → bH X pr0 j a n nd m ma σ s H locs → lv_has ls nL L → cs + (j + 1) ≤ n → ss + SL (j + 1) ≤ SL n →
    W p l e R s mi args below meth c H locs cs ss (MQ below (bQ X pr0 j nE post) args s (nE - (j + 1)) (SL nE - SL (j + 1)) (bF X)) (F0 mi pc ls S)
def BT (X : XE) (y : MethodName) (cc : ByteArray) (nL : Nat) (rm : Room) (args : List Value) (j nE : Nat) (pr : Nat → Nat → Bool) (σ : Mem) (post : Mem → Prop) : Prop :=
  ∀ l : Launch, Met l y (Cond.code y cc nL none :: BIG) rm (va_Pc args (fun U => bPI X (j + 1) pr σ U ∧ pr j = b0)) (bQ X pr j nE post) (nE - (j + 1)) (SL nE - SL (j + 1)) (bF X)
theorem bt_of {X : XE} {own : String} {y : MethodName} {cc : ByteArray} {nL : Nat} {rm : Room} {args : List Value} {j nE : Nat} {pr : Nat → Nat → Bool} {σ : Mem} {post : Mem → Prop} {L : List (Nat × Value)} (a : Nat) (ha : j < a) (hy : plainName y.cls = true) (hi : y.name = "<init>") (ho : y.cls = own) (hn : (lg_sl args).length ≤ nL) (hL : lv_args 0 args = L)
    (h : bok X rm own cc nL pr j nE a post 0 L [] (j + 1) (j + 1) b0 b0 σ) : BT X y cc nL rm args j nE pr σ post := by
  intro l
  refine Met.ofW (cc := cc) (maxL := nL) (ret := none) hy rfl ?_
  intro p e s m as below meth c s₁ B hml hv
  obtain ⟨rfl, ⟨hK, hC, hz, hp, hg, hW⟩, hj⟩ := hv
  have hts := atoms_spec (ws := Cond.code y cc nL none :: BIG) B.pre
  have hl := lv_entry args hn
  rw [lg_entry_eq]
  subst hL
  refine h p l e s m _ below meth c s.heap [] _ 0 0 ⟨B.exec, B.bytes, B.returns, B.notSynchronized, hml, ho ▸ findClass_of_methodNamed B.named, fun w hw => hts w (List.mem_cons_of_mem _ hw), hK, ((name_of_methodNamed B.named B.method).1).trans hi⟩ ⟨pr, hC, hz, fun _ _ => rfl, (fun _ hq => absurd hq List.not_mem_nil), hp, hg, hW, fun _ _ => rfl, hj, hp a (by omega), fun i h1 h2 => by omega⟩ hl (by omega) (by omega)
section BOK
variable {X : XE} {R : Room} {own : String} {cc : ByteArray} {nL : Nat} {pr0 : Nat → Nat → Bool} {j nE a : Nat} {post : Mem → Prop} {pc : Nat} {L : List (Nat × Value)} {S st0 : List Value} {n nd : Nat} {m ma : Nat → Bool} {σ : Mem}
theorem b_go {pc' : Nat} {S' : List Value} (h : ∀ (p : Program) (l : Launch) (e : Env) (s : State) (mi : MethodId) (args : Array Value) (below : List Frame) (meth : Method) (c : Code) (H : Heap) (locs : List Loc) (ls : Array Slot) (cs ss : Nat) (Q : State → Prop), bC own cc nL X p s mi args meth c → bH X pr0 j a n nd m ma σ s H locs → lv_has ls nL L → W p l e R s mi args below meth c H locs cs ss Q (F0 mi pc' ls S') → W p l e R s mi args below meth c H locs cs ss Q (F0 mi pc ls S))
    (k : bok X R own cc nL pr0 j nE a post pc' L S' n nd m ma σ) : bok X R own cc nL pr0 j nE a post pc L S n nd m ma σ :=
  fun p l e s mi args below meth c H locs ls cs ss C hH hl h1 h2 => h p l e s mi args below meth c H locs ls cs ss _ C hH hl (k p l e s mi args below meth c H locs ls cs ss C hH hl h1 h2)
theorem b_iconst {v : Int} (hd : decode cc pc = .ok (.iconst v, 1)) (k : bok X R own cc nL pr0 j nE a post (pc + 1) L (vI v :: S) n nd m ma σ) : bok X R own cc nL pr0 j nE a post pc L S n nd m ma σ :=
  b_go (fun p l e s mi args below meth c H locs ls cs ss Q C hH hl w => lv_iconst C.1 C.2.1 hd rfl w) k
theorem b_bipush {v : Int} (hd : decode cc pc = .ok (.bipush v, 2)) (hn : (decide (-128 ≤ v) && decide (v ≤ 127)) = true) (k : bok X R own cc nL pr0 j nE a post (pc + 2) L (vI v :: S) n nd m ma σ) : bok X R own cc nL pr0 j nE a post pc L S n nd m ma σ :=
  b_go (fun p l e s mi args below meth c H locs ls cs ss Q C hH hl w => lv_bipush C.1 C.2.1 hd (q_bip hn) w) k
theorem b_sipush {v : Int} (hd : decode cc pc = .ok (.sipush v, 3)) (hn : (decide (-32768 ≤ v) && decide (v ≤ 32767)) = true) (k : bok X R own cc nL pr0 j nE a post (pc + 3) L (vI v :: S) n nd m ma σ) : bok X R own cc nL pr0 j nE a post pc L S n nd m ma σ :=
  b_go (fun p l e s mi args below meth c H locs ls cs ss Q C hH hl w => lv_sipush C.1 C.2.1 hd (q_sip hn) w) k
theorem b_aload_n {k0 : Fin 4} {i q : Nat} (z : Nat) (hd : decode cc pc = .ok (.aload_n k0, 1)) (hi : (k0 : Nat) = i) (hl : L[z]? = some (i, .ref q)) (k : bok X R own cc nL pr0 j nE a post (pc + 1) L (.ref q :: S) n nd m ma σ) : bok X R own cc nL pr0 j nE a post pc L S n nd m ma σ :=
  b_go (fun p l e s mi args below meth c H locs ls cs ss Q C hH h w => lv_aload_n C.1 C.2.1 hd hi (lv_at h z hl) w) k
theorem b_iload_n {k0 : Fin 4} {i : Nat} {x : Int} (z : Nat) (hd : decode cc pc = .ok (.iload_n k0, 1)) (hi : (k0 : Nat) = i) (hl : L[z]? = some (i, vI x)) (k : bok X R own cc nL pr0 j nE a post (pc + 1) L (vI x :: S) n nd m ma σ) : bok X R own cc nL pr0 j nE a post pc L S n nd m ma σ :=
  b_go (fun p l e s mi args below meth c H locs ls cs ss Q C hH h w => lv_iload_n C.1 C.2.1 hd hi (lv_at h z hl) w) k
theorem b_istore_n {k0 : Fin 4} {i : Nat} {x : Int} {L' : List (Nat × Value)} (hd : decode cc pc = .ok (.istore_n k0, 1)) (hi : (k0 : Nat) = i) (hn : Nat.blt i nL = true) (hl : (i, vI x) :: L.filter (fun q => !(q.1 == i) && !(q.1 + 1 == i && q.2.category == 2)) = L') (k : bok X R own cc nL pr0 j nE a post (pc + 1) L' S n nd m ma σ) : bok X R own cc nL pr0 j nE a post pc L (vI x :: S) n nd m ma σ :=
  fun p l e s mi args below meth c H locs ls cs ss C hH h h1 h2 => lv_istore_n C.1 C.2.1 hd hi h (blt_lt hn) hl (fun ls' h' => k p l e s mi args below meth c H locs ls' cs ss C hH h' h1 h2)
theorem b_iinc {i : Nat} {v x : Int} {L' : List (Nat × Value)} (z : Nat) (hd : decode cc pc = .ok (.iinc i v, 3)) (hj : L[z]? = some (i, vI x)) (hn : Nat.blt i nL = true) (hl : (i, vI (x + v)) :: L.filter (fun q => !(q.1 == i) && !(q.1 + 1 == i && q.2.category == 2)) = L') (k : bok X R own cc nL pr0 j nE a post (pc + 3) L' S n nd m ma σ) : bok X R own cc nL pr0 j nE a post pc L S n nd m ma σ :=
  fun p l e s mi args below meth c H locs ls cs ss C hH h h1 h2 => lv_iinc (v := Int32.ofInt (x + v)) C.1 C.2.1 hd h hj (Int32.ofInt_add x v).symm (blt_lt hn) hl (fun ls' h' => k p l e s mi args below meth c H locs ls' cs ss C hH h' h1 h2)
theorem b_goto {off : Int} {tgt : Nat} (hd : decode cc pc = .ok (.goto off, 3)) (ht : (pc : Int) + off = (tgt : Int)) (k : bok X R own cc nL pr0 j nE a post tgt L S n nd m ma σ) : bok X R own cc nL pr0 j nE a post pc L S n nd m ma σ :=
  b_go (fun p l e s mi args below meth c H locs ls cs ss Q C hH hl w => lv_goto C.1 C.2.1 hd ht w) k
theorem b_dup {v : Value} (hd : decode cc pc = .ok (.dup, 1)) (hv : v.category = 1) (k : bok X R own cc nL pr0 j nE a post (pc + 1) L (v :: v :: S) n nd m ma σ) : bok X R own cc nL pr0 j nE a post pc L (v :: S) n nd m ma σ :=
  b_go (fun p l e s mi args below meth c H locs ls cs ss Q C hH hl w => lv_dup C.1 C.2.1 hd hv w) k
theorem b_objInit {idx q : Nat} (hd : decode cc pc = .ok (.invokespecial idx, 3)) (hlk : Cond.methodLink own idx objectInit ∈ BIG) (hR : Nat.ble 1 R.frames = true ∧ Nat.ble 12 R.locals = true) (k : bok X R own cc nL pr0 j nE a post (pc + 3) L [] n nd m ma σ) : bok X R own cc nL pr0 j nE a post pc L [.ref q] n nd m ma σ := by
  refine b_go (fun p l e s mi args below meth c H locs ls cs ss Q C hH hl w => ?_) k
  obtain ⟨hx, hb, hre, hlo, hml, hown, hts, hK, hnm⟩ := C
  refine W.objInit hx hb hown (hts _ hlk) (hts _ oi_i) (hts _ oi_c) rfl (by rw [hml]; exact hl.1) rfl hd (Nat.le_of_ble_eq_true hR.1) (Nat.le_of_ble_eq_true hR.2) ?_
  exact W.eq (g2 := F0 mi (pc + 3) ls []) rfl w
/-- a cell more -/
theorem b_grow {s : State} {H H1 : Heap} {locs : List Loc} (hnd : nd ≤ n) (hj : j < n) (hH : bH X pr0 j a n nd m ma σ s H locs) (hz : H1.size = H.size + 1) (ho : ∀ q : Nat, q < H.size → H1[q]? = H[q]?) (hc : ∀ pr : Nat → Nat → Bool, pr n = b0 → (∀ k, σ n k = 0) → bat X pr σ n H1) : bH X pr0 j a (n + 1) nd m ma σ s H1 locs := by
  obtain ⟨pr, h1, h2, h3, h4, h5, h6, h7, h8, h9, h10, h11⟩ := hH
  refine ⟨pr, fun i hi => ?_, by omega, fun q hq => (ho q (by omega)).trans (h3 q hq), h4, h5, fun i hi => h6 i (by omega), h7, h8, h9, h10, h11⟩
  by_cases e : i = n
  · subst e; exact hc pr (h5 i hnd) (h6 i (Nat.le_refl _))
  · exact bat_kept (h1 i (by omega)) (ho _ (by unfold xad; omega))
def dvOK (t : FieldType) (o : Option Nat) : Bool := match t, o with
  | .int, none => true
  | .boolean, none => true
  | .object _, some _ => true
  | .array _, some _ => true
  | _, _ => false
theorem b_new {idx ci N : Nat} {C0 : String} {T : u_T} {ty : Nat → FieldType} {rs : List (Option Nat)} (hd : decode cc pc = .ok (.new idx, 3)) (hkl : Cond.classLink own idx C0 ∈ BIG) (hcl : vwCl[ci]? = some (C0, T, N)) (hin : ∀ w ∈ u_ws C0 T N, w ∈ BIG) (hbi : Cond.instantiable C0 N ∈ BIG) (hini : Cond.initialized C0 ∈ BIG) (hty : ∀ k, k < N → parseFieldDescriptor (T k).2.2.1 = some (ty k))
    (hdv : (List.range N).all (fun k => dvOK (ty k) (rs.getD k none)) = true) (hs : xsh n = (ci, N, rs)) (hk : Nat.blt ci 20 = true) (hR : R.cells = nE - (j + 1) ∧ R.slots = SL nE - SL (j + 1)) (hnd : nd ≤ n) (hj : j < n) (hn : n < nE)
    (kk : bok X R own cc nL pr0 j nE a post (pc + 3) L (.ref (xad X n) :: S) (n + 1) nd m ma σ) : bok X R own cc nL pr0 j nE a post pc L S n nd m ma σ := by
  intro p l e s mi args below meth c H locs ls cs ss C hH hl h1 h2
  obtain ⟨hx, hb, hre, hlo, hml, hown, hts, hK, hnm⟩ := id C
  have hKn := hK.1.1.1 ci _ hcl
  have hsl : SL (n + 1) = SL n + N := by show SL n + (xsh n).2.1 = _; rw [hs]
  have hm1 := SL_mono (show n + 1 ≤ nE by omega)
  have hm2 := SL_mono (show j + 1 ≤ n by omega)
  have hzz : H.size = xad X n := hH.choose_spec.2.1
  refine W.newcK hx hb hown (hts _ hkl) (hts _ hbi) (hts _ hini) rfl hd (by omega) (by omega) hKn.2.1 rfl fun H1 kC hkC e1 z1 o1 => ?_
  refine W.eq (g2 := F0 mi (pc + 3) ls (.ref (xad X n) :: S)) (by rw [hzz]) ?_
  refine kk p l e s mi args below meth c H1 locs ls (cs + 1) (ss + N) C (b_grow hnd hj hH z1 o1 (fun pr hp hσ => ?_)) hl (by omega) (by omega)
  unfold bat
  rw [hs, if_pos (blt_lt hk), ← hzz]
  refine (u_born ty hts hin hKn hkC e1 hty).to (fun k hkN => ?_)
  have hq := List.all_eq_true.mp hdv k (List.mem_range.mpr hkN)
  unfold bval
  rw [hs]
  revert hq
  cases hr : rs.getD k none with
  | none =>
    intro hq
    show _ = vI (σ n k)
    rw [hσ k]
    cases ht : ty k <;> rw [ht] at hq <;> first | rfl | cases hq
  | some r =>
    intro hq
    show _ = if pr n k = true then _ else Value.null
    rw [hp, if_neg (fun q => by cases q)]
    cases ht : ty k <;> rw [ht] at hq <;> first | rfl | cases hq
theorem arrV_to {cI : ClassId} {N : Nat} {f g : Nat → Value} (h : ∀ k, k < N → f k = g k) : arrV cI N f = arrV cI N g := by
  have e : (fun q : Fin N => f q.val) = fun q : Fin N => g q.val := funext fun q => h q.val q.isLt
  unfold arrV
  rw [e]
theorem b_newa {atype : ArrayType} {ty : FieldType} {ci N t0 : Nat} {v : Int} (hd : decode cc pc = .ok (.newarray atype, 2)) (hty : newarray.typeOf atype = ty) (hac : Cond.arrayClass ty ∈ BIG) (ht : (xtys X)[t0]? = some (X.2.2.1 ci, ty)) (hra : ∀ (U : State) (cA : ClassId), va_RA U cA ty → U.vm.findClass ("[" ++ ty.toString) = some cA) (hdv : defaultValue ty = vI 0) (hcb : N * componentBytes ty ≤ 536870912)
    (hs : xsh n = (ci, N, [])) (hk : ¬ ci < 20) (hv : v = (N : Int)) (hN : Nat.blt N 2147483648 = true) (hR : R.cells = nE - (j + 1) ∧ R.slots = SL nE - SL (j + 1)) (hnd : nd = n) (hj : j < n) (hn : n < nE)
    (kk : bok X R own cc nL pr0 j nE a post (pc + 2) L (.ref (xad X n) :: S) (n + 1) (nd + 1) m ma σ) : bok X R own cc nL pr0 j nE a post pc L (vI v :: S) n nd m ma σ := by
  intro p l e s mi args below meth c H locs ls cs ss C hH hl h1 h2
  obtain ⟨hx, hb, hre, hlo, hml, hown, hts, hK, hnm⟩ := id C
  have hsl : SL (n + 1) = SL n + N := by show SL n + (xsh n).2.1 = _; rw [hs]
  have hm1 := SL_mono (show n + 1 ≤ nE by omega)
  have hm2 := SL_mono (show j + 1 ≤ n by omega)
  have hzz : H.size = xad X n := hH.choose_spec.2.1
  have hNl := blt_lt hN
  have hr : inR v := ⟨by omega, by omega⟩
  have hnn : ¬ Int32.ofInt v < 0 := fun q => by
    have := (q_lt hr (r_lit (x := 0) rfl)).mp q
    omega
  have hnt : (Int32.ofInt v).toNatClampNeg = N := by
    show (Int32.ofInt v).toInt.toNat = N
    rw [q_toInt hr, hv]; rfl
  subst hty
  subst hnd
  refine va_newaK hx hb (hts _ hac) rfl hd rfl hnn hnt hcb (by omega) (by omega) rfl fun H1 cA e1 z1 o1 hAr hNm => ?_
  have hcA : cA = X.2.2.1 ci := Option.some.inj (hNm.symm.trans (hra s _ (hK.1.1.2 t0 _ ht).2))
  subst hcA
  refine W.eq (g2 := F0 mi (pc + 2) ls (.ref (xad X nd) :: S)) (by rw [hzz]) ?_
  have hg := b_grow (Nat.le_refl _) hj hH z1 o1 (fun pr hp hσ => by
    unfold bat
    rw [hs, if_neg hk, ← hzz]
    refine e1.trans (congrArg some (arrV_to fun k _ => ?_))
    unfold bval
    rw [hs]
    show _ = vI (σ nd k)
    rw [hσ k]; exact hdv)
  refine kk p l e s mi args below meth c H1 locs ls (cs + 1) (ss + N) C ?_ hl (by omega) (by omega)
  obtain ⟨pr, g1, g2, g3, g4, g5, g6, g7, g8, g9, g10, g11⟩ := hg
  refine ⟨pr, g1, g2, g3, g4, fun i hi => g5 i (by omega), g6, g7, g8, g9, g10, fun i h1 h2 h3 => ?_⟩
  by_cases e : i = nd
  · subst e; intro k hk; rw [hs] at hk; exact absurd rfl hk
  · exact g11 i h1 (by omega) h3
/-- the array of references being filled is a -/
theorem b_anew {idx ci N t0 : Nat} {C0 : String} {rs : List (Option Nat)} {v : Int} (hd : decode cc pc = .ok (.anewarray idx, 3)) (hkl : Cond.classLink own idx C0 ∈ BIG) (hao : ∀ s : State, bK X s → va_AO C0 s) (ht : (xtys X)[t0]? = some (X.2.2.1 ci, .object C0))
    (hs : xsh n = (ci, N, rs)) (hk : ¬ ci < 20) (hrs : ∀ k, k < N → ∃ r, rs.getD k none = some r) (hv : v = (N : Int)) (hN : Nat.blt N 100000000 = true) (hR : R.cells = nE - (j + 1) ∧ R.slots = SL nE - SL (j + 1)) (hnd : nd = n) (hj : j < n) (hn : n < nE) (ha : a = n)
    (kk : bok X R own cc nL pr0 j nE a post (pc + 3) L (.ref (xad X n) :: S) (n + 1) (nd + 1) m b0 σ) : bok X R own cc nL pr0 j nE a post pc L (vI v :: S) n nd m ma σ := by
  intro p l e s mi args below meth c H locs ls cs ss C hH hl h1 h2
  obtain ⟨hx, hb, hre, hlo, hml, hown, hts, hK, hnm⟩ := id C
  have hsl : SL (n + 1) = SL n + N := by show SL n + (xsh n).2.1 = _; rw [hs]
  have hm1 := SL_mono (show n + 1 ≤ nE by omega)
  have hm2 := SL_mono (show j + 1 ≤ n by omega)
  have hzz : H.size = xad X n := hH.choose_spec.2.1
  have hNl := blt_lt hN
  have hr : inR v := ⟨by omega, by omega⟩
  have hnn : ¬ Int32.ofInt v < 0 := fun q => by
    have := (q_lt hr (r_lit (x := 0) rfl)).mp q
    omega
  have hnt : (Int32.ofInt v).toNatClampNeg = N := by
    show (Int32.ofInt v).toInt.toNat = N
    rw [q_toInt hr, hv]; rfl
  subst hnd
  refine W.anew hx hb hown (hts _ hkl) (va_AO.use (hao s hK)) rfl hd rfl hnn (by rw [hnt]; omega) (by omega) (by rw [hnt]; omega) fun cA kA comp f1 f2 f3 f4 => ?_
  obtain ⟨kA', comp', k1, k2, k3, k4⟩ := (hK.1.1.2 t0 _ ht).2
  have hcA : cA = X.2.2.1 ci := Option.some.inj (f1.symm.trans k4)
  subst hcA
  rw [hnt]
  generalize hH1 : H.push ({ cls := X.2.2.1 ci, slots := Array.replicate N .null, vm := .none } : Cell) = H1
  have z1 : H1.size = H.size + 1 := by rw [← hH1, Array.size_push]
  have e1 : H1[H.size]? = some (arrV (X.2.2.1 ci) N (fun _ => .null)) := by rw [← hH1, Array.getElem?_push_size, ← arrV_new]
  have o1 : ∀ q : Nat, q < H.size → H1[q]? = H[q]? := fun q hq => by rw [← hH1, Array.getElem?_push, if_neg (Nat.ne_of_lt hq)]
  refine W.eq (g2 := F0 mi (pc + 3) ls (.ref (xad X nd) :: S)) (by rw [hzz]) ?_
  have hg := b_grow (Nat.le_refl _) hj hH z1 o1 (fun pr hp hσ => by
    unfold bat
    rw [hs, if_neg hk, ← hzz]
    refine e1.trans (congrArg some (arrV_to fun k hkN => ?_))
    obtain ⟨r, hr⟩ := hrs k hkN
    unfold bval
    rw [hs]
    show _ = match rs.getD k none with | some r => if pr nd k = true then Value.ref (xad X r) else Value.null | none => vI (σ nd k)
    rw [hr, hp]
    exact (if_neg (fun q => by cases q)).symm)
  obtain ⟨pr, g1, g2, g3, g4, g5, g6, g7, g8, g9, g10, g11⟩ := hg
  have hma : ma = b0 := by rw [← g10, ha]; exact g5 nd (Nat.le_refl _)
  refine kk p l e s mi args below meth c H1 locs ls (cs + 1) (ss + N) C ?_ hl (by omega) (by omega)
  refine ⟨pr, g1, g2, g3, g4, fun i hi => g5 i (by omega), g6, g7, g8, g9, by rw [g10, hma], fun i h1 h2 h3 => ?_⟩
  exact g11 i h1 (by omega) h3
/-- a final field of a reference -/
def FPF (own : String) (ci N k : Nat) (ty : FieldType) : Prop := ∃ (C : String) (T : u_T) (t0 : Nat → FieldType), vwCl[ci]? = some (C, T, N) ∧ (∀ k, k < N → parseFieldDescriptor (T k).2.2.1 = some (t0 k)) ∧ (∀ a, a < N → ∀ b, b < N → a ≠ b → (T a).2.1 ≠ (T b).2.1) ∧ t0 k = ty ∧ (T k).2.2.2 = true ∧ (T k).1 = own
theorem b_putR {r k ci N idx : Nat} {ty : FieldType} {rs : List (Option Nat)} (hd : decode cc pc = .ok (.putfield idx, 3)) (hf : FL own idx ci N k) (hp : FPF own ci N k ty) (hs : xsh j = (ci, N, rs)) (hk : Nat.blt ci 20 = true) (hr : rs.getD k none = some r) (hjn : j < n) (haj : a ≠ j) (hnd : j < nd)
    (hn : narrow ty (.ref (xad X r)) = .ref (xad X r)) (hfit : fits ty (.ref (xad X r)) = true)
    (kk : bok X R own cc nL pr0 j nE a post (pc + 3) L S n nd (bset m k) ma σ) : bok X R own cc nL pr0 j nE a post pc L (.ref (xad X r) :: .ref (xad X j) :: S) n nd m ma σ := by
  intro p l e s mi args below meth c H locs ls cs ss C hH hl h1 h2
  obtain ⟨hx, hb, hre, hlo, hml, hown, hts, hK, hnm⟩ := id C
  obtain ⟨C0, T, hc, hkN, hin, hlink, hdecl⟩ := hf
  obtain ⟨C1, T1, t0, hc1, hty, hnmF, ht0, hfin, hdo⟩ := hp
  have e1 := hc1.symm.trans hc
  cases e1
  have hap := va_apart (own := own) hts hin t0 hty hnmF hK.1.1 hc
  obtain ⟨pr, g1, g2, g3, g4, g5, g6, g7, g8, g9, g10, g11⟩ := hH
  have hcell := g1 j hjn
  unfold bat at hcell
  rw [hs, if_pos (blt_lt hk)] at hcell
  obtain ⟨cell, q1, q2, q3, q4⟩ := hcell
  obtain ⟨hSl, hfc, kC, hkC, hkind⟩ := hK.1.1.1 ci _ hc
  obtain ⟨cf, kf, fi, f, hi, hsl⟩ := hSl k hkN
  have hlay := hts _ (hin _ (u_in_lay hkN))
  unfold u_lay at hlay
  rw [if_pos hfin] at hlay
  have hst := (u_facts hfc hkC (u_lays hts hin hkN) hi).1
  have hcf : mi.cls = cf := by
    obtain ⟨_, _, c', _, _, _, -, -, hf', -, -, -, hown2, -⟩ := Cond.laysFinal_spec hlay
    have e1 : c' = cf := by have := hi.symm.trans hf'; simp at this; exact this.1.symm
    rw [hdo] at hown2
    rw [← e1]; exact Option.some.inj (hown.symm.trans hown2)
  have hpd : parseFieldDescriptor (T k).2.2.1 = some ty := by rw [hty k hkN, ht0]
  have h6 := u_fits hfc hkC hkind (Or.inr hlay) hi hpd hn hfit
  refine W.putFinK hx hb hown (hts _ hlink) (by rw [← hdecl]; exact hi) hst hcf hnm (by rw [q2]; exact h6) q1 q3 (by rw [hsl]; exact k2_hasslot (q4 k hkN)) rfl rfl hd fun H' e1 e2 e3 => ?_
  rw [hsl] at e1
  refine kk p l e s mi args below meth c H' _ ls cs ss C ⟨pset pr j (bset m k), fun i hi => ?_, e2.trans g2, fun q hq => (e3 q (Nat.ne_of_lt (Nat.lt_of_lt_of_le hq (Nat.le_add_right _ _)))).trans (g3 q hq), fun l hl => ?_, fun i hi => ?_, g6, g7, fun i hi => ?_, pset_eq, by rw [pset_ne haj]; exact g10, fun i h1 h2 h3 => ?_⟩ hl h1 h2
  · by_cases e : i = j
    · subst e
      unfold bat
      rw [hs, if_pos (blt_lt hk)]
      refine t_OB.to (V := updV (bval X pr σ i) k (.ref (xad X r))) ⟨_, e1, q2, q3, t_set q4 hap hkN _⟩ (fun z hz => ?_)
      unfold updV bval
      rw [hs, pset_eq]
      by_cases hzk : z = k
      · subst hzk
        rw [if_pos rfl]
        show _ = match rs.getD z none with | some r => if bset m z z = true then Value.ref (xad X r) else Value.null | none => vI (σ i z)
        rw [hr]
        exact (if_pos bset_eq).symm
      · rw [if_neg hzk]
        show (match rs.getD z none with | some r => if pr i z = true then Value.ref (xad X r) else Value.null | none => vI (σ i z)) = match rs.getD z none with | some r => if bset m k z = true then Value.ref (xad X r) else Value.null | none => vI (σ i z)
        rw [bset_ne hzk, g9]
    · have hne : xad X i ≠ xad X j := by unfold xad; omega
      exact bat_to (pset_ne e) (fun _ => rfl) (bat_kept (g1 i hi) (e3 _ hne))
  · rcases List.mem_append.mp hl with h | h
    · exact g4 l h
    · rw [List.mem_singleton.mp h]; exact Nat.le_add_right _ _
  · rw [pset_ne (by omega)]; exact g5 i hi
  · rw [pset_ne (by omega)]; exact g8 i hi
  · intro z hz; rw [pset_ne (by omega)]; exact g11 i h1 h2 h3 z hz
theorem b_getR {r k ci N idx : Nat} {rs : List (Option Nat)} (hd : decode cc pc = .ok (.getfield idx, 3)) (hf : FL own idx ci N k) (hs : xsh j = (ci, N, rs)) (hk : Nat.blt ci 20 = true) (hr : rs.getD k none = some r) (hjn : j < n) (hm : m k = true)
    (kk : bok X R own cc nL pr0 j nE a post (pc + 3) L (.ref (xad X r) :: S) n nd m ma σ) : bok X R own cc nL pr0 j nE a post pc L (.ref (xad X j) :: S) n nd m ma σ := by
  refine b_go (fun p l e s mi args below meth c H locs ls cs ss Q C hH hl w => ?_) kk
  obtain ⟨hx, hb, hre, hlo, hml, hown, hts, hK, hnm⟩ := id C
  obtain ⟨C0, T, hc, hkN, hin, hlink, hdecl⟩ := hf
  obtain ⟨pr, g1, g2, g3, g4, g5, g6, g7, g8, g9, g10, g11⟩ := hH
  have hcell := g1 j hjn
  unfold bat at hcell
  rw [hs, if_pos (blt_lt hk)] at hcell
  obtain ⟨cell, q1, q2, q3, q4⟩ := hcell
  obtain ⟨hSl, hfc, kC, hkC, hkind⟩ := hK.1.1.1 ci _ hc
  obtain ⟨cf, kf, fi, f, hi, hsl⟩ := hSl k hkN
  refine W.getf hx hb hown (hts _ hlink) (by rw [← hdecl]; exact hi) (u_facts hfc hkC (u_lays hts hin hkN) hi).1 q1 (by rw [q3]; exact fun h => by cases h) (v := .ref (xad X r)) ?_ rfl rfl hd w
  rw [hsl, q4 k hkN]
  unfold bval
  rw [hs]
  show some (match rs.getD k none with | some r => if pr j k = true then Value.ref (xad X r) else Value.null | none => vI (σ j k)) = _
  rw [hr, g9]
  exact congrArg some (if_pos hm)
theorem b_iast {q N : Nat} {i v : Int} (hd : decode cc pc = .ok (.iastore, 1)) (hs : xsh q = (20, N, [])) (hq : q < n) (hN : Nat.blt N 2147483648 = true) (h0 : 0 ≤ i) (h1 : i < N) (hv : inR v) (kk : bok X R own cc nL pr0 j nE a post (pc + 1) L S n nd m ma (mset σ q i.toNat v)) : bok X R own cc nL pr0 j nE a post pc L (vI v :: vI i :: .ref (xad X q) :: S) n nd m ma σ := by
  intro p l e s mi args below meth c H locs ls cs ss C hH hl w1 w2
  obtain ⟨hx, hb, hre, hlo, hml, hown, hts, hK, hnm⟩ := id C
  obtain ⟨hi, hc⟩ := q_in (n := N) (blt_lt hN) h0 h1
  obtain ⟨pr, g1, g2, g3, g4, g5, g6, g7, g8, g9, g10, g11⟩ := hH
  have hcell := g1 q hq
  unfold bat at hcell
  rw [hs, if_neg (show ¬ (20 : Nat) < 20 by decide)] at hcell
  refine W.iast hx hb hcell ((hK.1.1.2 0 _ rfl).1 N _) (fun q => by cases q) (by rw [arrV_size]; exact hi) rfl rfl hd fun H1 e1 z oq => ?_
  refine kk p l e s mi args below meth c H1 _ ls cs ss C ⟨pr, fun z2 hz2 => ?_, z.trans g2, fun z2 hz2 => (oq z2 (Nat.ne_of_lt (Nat.lt_of_lt_of_le hz2 (Nat.le_add_right _ _)))).trans (g3 z2 hz2), fun l hl => ?_, g5, fun i2 hi2 k => ?_, mset_wf g7 hv, g8, g9, g10, g11⟩ hl w1 w2
  · by_cases e : z2 = q
    · subst e
      unfold bat
      rw [hs, if_neg (show ¬ (20 : Nat) < 20 by decide), e1, arrV_store, hc]
      congr 2
      funext z3
      unfold updV bval
      rw [hs]
      show (if z3 = i.toNat then vI v else vI (σ z2 z3)) = vI (mset σ z2 i.toNat v z2 z3)
      by_cases hz3 : z3 = i.toNat
      · rw [if_pos hz3, hz3, mset_eq]
      · rw [if_neg hz3, mset_nei hz3]
    · have hne : xad X z2 ≠ xad X q := by unfold xad; omega
      exact bat_to rfl (fun k => mset_ne e) (bat_kept (g1 z2 hz2) (oq _ hne))
  · rcases List.mem_append.mp hl with h | h
    · exact g4 l h
    · rw [List.mem_singleton.mp h]; exact Nat.le_add_right _ _
  · rw [mset_ne (by omega)]; exact g6 i2 hi2 k
theorem b_aast {r N ci ci2 N2 t0 mi0 : Nat} {C0 : String} {T : u_T} {rs rs2 : List (Option Nat)} {i : Int} (hd : decode cc pc = .ok (.aastore, 1)) (hs : xsh a = (ci, N, rs)) (hk : ¬ ci < 20) (han : a < n) (haj : j < a) (hand : a < nd) (ht : (xtys X)[t0]? = some (X.2.2.1 ci, .object C0)) (hcl : vwCl[ci2]? = some (C0, T, N2)) (hs2 : xsh r = (ci2, N2, rs2)) (hk2 : ci2 < 20) (hrn : r < n)
    (hN : Nat.blt N 2147483648 = true) (hi0 : i = (mi0 : Int)) (h1 : mi0 < N) (hr : rs.getD mi0 none = some r) (kk : bok X R own cc nL pr0 j nE a post (pc + 1) L S n nd m (bset ma mi0) σ) : bok X R own cc nL pr0 j nE a post pc L (.ref (xad X r) :: vI i :: .ref (xad X a) :: S) n nd m ma σ := by
  intro p l e s mi args below meth c H locs ls cs ss C hH hl w1 w2
  obtain ⟨hx, hb, hre, hlo, hml, hown, hts, hK, hnm⟩ := id C
  obtain ⟨hi, hc⟩ := q_in (x := i) (n := N) (blt_lt hN) (by omega) (by omega)
  obtain ⟨pr, g1, g2, g3, g4, g5, g6, g7, g8, g9, g10, g11⟩ := hH
  have hcell := g1 a han
  unfold bat at hcell
  rw [hs, if_neg hk] at hcell
  have hv := g1 r hrn
  unfold bat at hv
  rw [hs2, if_pos hk2] at hv
  obtain ⟨cellV, v1, v2, v3, -⟩ := hv
  have hcls := (hK.1.1.1 ci2 _ hcl).2
  obtain ⟨kA, comp, k1, k2, k3, -⟩ := (hK.1.1.2 t0 _ ht).2
  have hcomp : comp = X.2.1.1 ci2 := Option.some.inj (k3.symm.trans hcls.1)
  subst hcomp
  obtain ⟨kC, hkC, -⟩ := hcls.2
  have hin : i.toNat = mi0 := by omega
  rw [hin] at hc
  refine W.aast hx hb hcell (fun q h => by cases h) (fun h => by cases h) k1 k2 rfl hkC ⟨fun q => hi (Or.inl q), by rw [arrV_size, hc]; exact h1⟩ v1 (fun q h => by rw [v3] at h; cases h) (by rw [v2]; exact hkC) (by rw [v2]; exact va_assign hcls) rfl rfl hd fun H1 e1 z oq => ?_
  refine kk p l e s mi args below meth c H1 _ ls cs ss C ⟨pset pr a (bset ma mi0), fun z2 hz2 => ?_, z.trans g2, fun z2 hz2 => (oq z2 (Nat.ne_of_lt (Nat.lt_of_lt_of_le hz2 (Nat.le_add_right _ _)))).trans (g3 z2 hz2), fun l hl => ?_, fun i2 hi2 => ?_, g6, g7, fun i2 hi2 => ?_, ?_, pset_eq, fun i2 h1 h2 h3 => ?_⟩ hl w1 w2
  · by_cases e : z2 = a
    · subst e
      unfold bat
      rw [hs, if_neg hk, e1, arrV_store, hc]
      refine congrArg some (arrV_to fun z3 _ => ?_)
      unfold updV bval
      rw [hs, pset_eq, g10]
      by_cases hz3 : z3 = mi0
      · rw [if_pos hz3, hz3]
        show _ = match rs.getD mi0 none with | some r => if bset ma mi0 mi0 = true then Value.ref (xad X r) else Value.null | none => vI (σ z2 mi0)
        rw [hr]
        exact (if_pos bset_eq).symm
      · rw [if_neg hz3]
        show (match rs.getD z3 none with | some r => if ma z3 = true then Value.ref (xad X r) else Value.null | none => vI (σ z2 z3)) = match rs.getD z3 none with | some r => if bset ma mi0 z3 = true then Value.ref (xad X r) else Value.null | none => vI (σ z2 z3)
        rw [bset_ne hz3]
    · have hne : xad X z2 ≠ xad X a := by unfold xad; omega
      exact bat_to (pset_ne e) (fun _ => rfl) (bat_kept (g1 z2 hz2) (oq _ hne))
  · rcases List.mem_append.mp hl with h | h
    · exact g4 l h
    · rw [List.mem_singleton.mp h]; exact Nat.le_add_right _ _
  · rw [pset_ne (by omega)]; exact g5 i2 hi2
  · rw [pset_ne (by omega)]; exact g8 i2 hi2
  · rw [pset_ne (by omega)]; exact g9
  · intro z hz; rw [pset_ne h3]; exact g11 i2 h1 h2 h3 z hz
end BOK
