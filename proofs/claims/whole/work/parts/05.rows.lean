/-! THE WALK OVER THE STATIC PICTURE -/
abbrev XE : Type := Nat × va_G × (Nat → ClassId) × (Nat → Nat) × (Nat → Nat)
def xad (X : XE) (j : Nat) : Nat := X.1 + j
def xval (X : XE) (σ : Mem) (j k : Nat) : Value := match (xsh j).2.2.getD k none with
  | some r => .ref (xad X r)
  | none => vI (σ j k)
def xat (X : XE) (σ : Mem) (j : Nat) (H : Heap) : Prop := if (xsh j).1 < 20 then t_OB (xad X j) (X.2.1.1 (xsh j).1) (xsh j).2.1 (X.2.1.2 (xsh j).1) H (xval X σ j) else H[xad X j]? = some (arrV (X.2.2.1 (xsh j).1) (xsh j).2.1 (xval X σ j))
def xA (X : XE) : Nat → Prop := fun q => X.1 ≤ q ∧ q < X.1 + NC
def xcells (X : XE) (σ : Mem) (H : Heap) : Prop := ∀ j, j < NC → xat X σ j H
def xtys (X : XE) : List (ClassId × FieldType) := [(X.2.2.1 20, .int), (X.2.2.1 21, .boolean), (X.2.2.1 22, .byte), (X.2.2.1 23, .object RX1), (X.2.2.1 24, .object RX8)]
def lenK : List Nat := [4, 4, 6, 4, 4, 5]
def bytK : List (List Int32) := [[102, 114, 111, 109], [101, 100, 103, 101], [115, 112, 114, 101, 97, 100], [103, 114, 111, 119], [107, 101, 101, 112], [111, 116, 104, 101, 114]]
def xK (X : XE) (U : State) : Prop := va_K X.2.1 vwCl (xtys X) U ∧
  (va_Nw (.methodLinkNest RX6 92 yX11_isMeasure RX11) U ∧ va_Nw (.methodLinkNest RX0 81 yX11_bit RX11) U ∧ va_Nw (.methodLinkNest RX3 43 yX11_bit RX11) U ∧ va_Nw (.methodLinkNest RX10 74 yX11_bit RX11) U ∧ va_Nw (.methodLinkNest RX4 52 yX11_bit RX11) U ∧ va_Nw (.methodLinkNest RX2 74 yX11_bit RX11) U) ∧
  (vk_R RX6 38 "from" (X.2.2.2.1 0) U ∧ vk_R RX6 55 "edge" (X.2.2.2.1 1) U ∧ vk_R RX6 57 "spread" (X.2.2.2.1 2) U ∧ vk_R RX6 59 "grow" (X.2.2.2.1 3) U ∧ vk_R RX6 61 "keep" (X.2.2.2.1 4) U ∧ vk_R RX6 63 "other" (X.2.2.2.1 5) U)
def xS (X : XE) (U : State) (H : Heap) : Prop := vk_S 6 lenK bytK X.2.2.2.1 X.2.2.2.2 (xA X) U H ∧ va_Z RJ0 "COMPACT_STRINGS" "Z" (.int 1) (xA X) U H ∧ va_Zq RJ3 "SIOOBE_FORMATTER" "Ljava/util/function/BiFunction;" (xA X) U H
theorem xK.moved {X : XE} {u U : State} (hW : u.WarmedH U.vm) (h : xK X u) : xK X U := by
  obtain ⟨h1, ⟨a1, a2, a3, a4, a5, a6⟩, b1, b2, b3, b4, b5, b6⟩ := h
  exact ⟨va_K.moved hW.alike h1, ⟨va_Nw.warmM hW a1, va_Nw.warmM hW a2, va_Nw.warmM hW a3, va_Nw.warmM hW a4, va_Nw.warmM hW a5, va_Nw.warmM hW a6⟩, vk_R.warm hW b1, vk_R.warm hW b2, vk_R.warm hW b3, vk_R.warm hW b4, vk_R.warm hW b5, vk_R.warm hW b6⟩
theorem xK.same {X : XE} {u U : State} (hv : U.vm = u.vm) (h : xK X u) : xK X U := by
  obtain ⟨h1, ⟨a1, a2, a3, a4, a5, a6⟩, b1, b2, b3, b4, b5, b6⟩ := h
  exact ⟨va_K.moved (by rw [hv]; exact Vm.Alike.refl _) h1, ⟨va_Nw.same rfl hv.symm a1, va_Nw.same rfl hv.symm a2, va_Nw.same rfl hv.symm a3, va_Nw.same rfl hv.symm a4, va_Nw.same rfl hv.symm a5, va_Nw.same rfl hv.symm a6⟩, vk_R.same hv b1, vk_R.same hv b2, vk_R.same hv b3, vk_R.same hv b4, vk_R.same hv b5, vk_R.same hv b6⟩
theorem xS.moved {X : XE} {u U : State} {H : Heap} (hvm : u.vm.Alike U.vm) (h : xS X u H) : xS X U H := ⟨vk_S.moved hvm h.1, va_Z.moved hvm h.2.1, va_Zq.moved hvm h.2.2⟩
theorem xS.kept {X : XE} {U : State} {H H1 : Heap} (h : xS X U H) (hq : ∀ q : Nat, ¬ xA X q → H1[q]? = H[q]?) : xS X U H1 := ⟨vk_S.kept h.1 (fun a _ ha => hq a ha), va_Z.kept h.2.1 (fun a _ ha => hq a ha), va_Zq.kept h.2.2 (fun a _ ha => hq a ha)⟩
def xPI (X : XE) (σ : Mem) (U : State) : Prop := xK X U ∧ xS X U U.heap ∧ xcells X σ U.heap ∧ WF σ
def rv (rk : Nat) (r : Int) : Option Value := if rk = 0 then none else if rk = 1 then some (vI r) else some (vL r)
def rok (rk : Nat) (r : Int) : Prop := if rk = 0 then r = 0 else if rk = 1 then inR r else inL r
def xQ (X : XE) (rk : Nat) (post : Int → Mem → Prop) : Array Value → State → Outcome → State → Prop := fun _ st oc t =>
  ∃ (r : Int) (σ' : Mem), oc = .returned (rv rk r) ∧ rok rk r ∧ post r σ' ∧ WF σ' ∧ xcells X σ' t.heap ∧ t.heap.size = st.heap.size ∧ ∀ q : Nat, ¬ xA X q → t.heap[q]? = st.heap[q]?
def xC (own : String) (cc : ByteArray) (nL : Nat) (ret : Option FieldType) (X : XE) (p : Program) (s : State) (m : MethodId) (args : Array Value) (meth : Method) (c : Code) : Prop :=
  p.tables.exec = Jvm.exec ∧ c.code = cc ∧ meth.sig.returnType = ret ∧ meth.locks = false ∧ c.maxLocals = nL ∧ s.vm.findClass own = some m.cls ∧ (∀ w ∈ BIG, w.before args s = true) ∧ xK X s ∧ xS X s s.heap
def xH (X : XE) (σ : Mem) (s : State) (H : Heap) (locs : List Loc) : Prop := xcells X σ H ∧ H.size = s.heap.size ∧ (∀ q : Nat, ¬ xA X q → H[q]? = s.heap[q]?) ∧ (∀ l ∈ locs, xA X l.base) ∧ WF σ
/-- from this place of the method's code, with these locals, stack and contents, the machine comes to the method's end with 'post' -/
def ok (X : XE) (R : Room) (own : String) (cc : ByteArray) (nL : Nat) (ret : Option FieldType) (rk : Nat) (post : Int → Mem → Prop) (pc : Nat) (L : List (Nat × Value)) (S : List Value) (σ : Mem) : Prop :=
  ∀ (p : Program) (l : Launch) (e : Env) (s : State) (m : MethodId) (args : Array Value) (below : List Frame) (meth : Method) (c : Code) (H : Heap) (locs : List Loc) (ls : Array Slot),
    xC own cc nL ret X p s m args meth c → xH X σ s H locs → lv_has ls nL L →
    W p l e R s m args below meth c H locs 0 0 (MQ below (xQ X rk post) args s 0 0 (xA X)) (F0 m pc ls S)
def CT (X : XE) (y : MethodName) (cc : ByteArray) (nL : Nat) (ret : Option FieldType) (rm : Room) (rk : Nat) (args : List Value) (σ : Mem) (post : Int → Mem → Prop) : Prop :=
  ∀ l : Launch, Met l y (Cond.code y cc nL ret :: BIG) rm (va_Pc args (fun U => xPI X σ U)) (xQ X rk post) 0 0 (xA X)
theorem ct_of {X : XE} {own : String} {y : MethodName} {cc : ByteArray} {nL : Nat} {ret : Option FieldType} {rm : Room} {rk : Nat} {args : List Value} {σ : Mem} {post : Int → Mem → Prop} {L : List (Nat × Value)} (hy : plainName y.cls = true) (ho : y.cls = own) (hn : (lg_sl args).length ≤ nL) (hL : lv_args 0 args = L)
    (h : ok X rm own cc nL ret rk post 0 L [] σ) : CT X y cc nL ret rm rk args σ post := by
  intro l
  refine Met.ofW (cc := cc) (maxL := nL) (ret := ret) hy rfl ?_
  intro p e s m as below meth c s₁ B hml hv
  obtain ⟨rfl, hK, hS, hC, hW⟩ := hv
  have hts := atoms_spec (ws := Cond.code y cc nL ret :: BIG) B.pre
  have hl := lv_entry args hn
  rw [lg_entry_eq]
  subst hL
  exact h p l e s m _ below meth c s.heap [] _ ⟨B.exec, B.bytes, B.returns, B.notSynchronized, hml, ho ▸ findClass_of_methodNamed B.named, fun w hw => hts w (List.mem_cons_of_mem _ hw), hK, hS⟩ ⟨hC, rfl, fun _ _ => rfl, (fun _ hq => absurd hq List.not_mem_nil), hW⟩ hl
section OK
variable {X : XE} {R : Room} {own : String} {cc : ByteArray} {nL : Nat} {ret : Option FieldType} {rk : Nat} {post : Int → Mem → Prop} {pc : Nat} {L : List (Nat × Value)} {S st0 : List Value} {σ : Mem} {H : Heap}
theorem ok_wf (k : WF σ → ok X R own cc nL ret rk post pc L S σ) : ok X R own cc nL ret rk post pc L S σ :=
  fun p l e s m args below meth c H locs ls C hH hl => k hH.2.2.2.2 p l e s m args below meth c H locs ls C hH hl
/-- fewer locals are known -/
theorem ok_sub {L' : List (Nat × Value)} (ks : List Nat) (h : lv_pick L ks = L') (k : ok X R own cc nL ret rk post pc L' S σ) : ok X R own cc nL ret rk post pc L S σ :=
  fun p l e s m args below meth c H locs ls C hH hl => k p l e s m args below meth c H locs ls C hH (lv_sub hl ks h)
/-- a step that changes the stack alone -/
theorem ok_go {pc' : Nat} {S' : List Value} (h : ∀ (p : Program) (l : Launch) (e : Env) (s : State) (m : MethodId) (args : Array Value) (below : List Frame) (meth : Method) (c : Code) (H : Heap) (locs : List Loc) (ls : Array Slot) (Q : State → Prop), xC own cc nL ret X p s m args meth c → xH X σ s H locs → lv_has ls nL L → W p l e R s m args below meth c H locs 0 0 Q (F0 m pc' ls S') → W p l e R s m args below meth c H locs 0 0 Q (F0 m pc ls S))
    (k : ok X R own cc nL ret rk post pc' L S' σ) : ok X R own cc nL ret rk post pc L S σ :=
  fun p l e s m args below meth c H locs ls C hH hl => h p l e s m args below meth c H locs ls _ C hH hl (k p l e s m args below meth c H locs ls C hH hl)
theorem ok_iconst {n : Int} (hd : decode cc pc = .ok (.iconst n, 1)) (k : ok X R own cc nL ret rk post (pc + 1) L (vI n :: S) σ) : ok X R own cc nL ret rk post pc L S σ :=
  ok_go (fun p l e s m args below meth c H locs ls Q C hH hl w => lv_iconst C.1 C.2.1 hd rfl w) k
theorem ok_bipush {n : Int} (hd : decode cc pc = .ok (.bipush n, 2)) (hn : (decide (-128 ≤ n) && decide (n ≤ 127)) = true) (k : ok X R own cc nL ret rk post (pc + 2) L (vI n :: S) σ) : ok X R own cc nL ret rk post pc L S σ :=
  ok_go (fun p l e s m args below meth c H locs ls Q C hH hl w => lv_bipush C.1 C.2.1 hd (q_bip hn) w) k
theorem ok_sipush {n : Int} (hd : decode cc pc = .ok (.sipush n, 3)) (hn : (decide (-32768 ≤ n) && decide (n ≤ 32767)) = true) (k : ok X R own cc nL ret rk post (pc + 3) L (vI n :: S) σ) : ok X R own cc nL ret rk post pc L S σ :=
  ok_go (fun p l e s m args below meth c H locs ls Q C hH hl w => lv_sipush C.1 C.2.1 hd (q_sip hn) w) k
theorem ok_lconst {n : Fin 2} {v : Int} (hd : decode cc pc = .ok (.lconst n, 1)) (hv : Int64.ofNat (n : Nat) = Int64.ofInt v) (k : ok X R own cc nL ret rk post (pc + 1) L (vL v :: S) σ) : ok X R own cc nL ret rk post pc L S σ :=
  ok_go (fun p l e s m args below meth c H locs ls Q C hH hl w => lv_lconst C.1 C.2.1 hd hv w) k
theorem ok_ldc2 {i : Nat} {v : Int} (hd : decode cc pc = .ok (.ldc2_w i, 3)) (hw : Cond.constantLong own i (Int64.ofInt v) ∈ BIG) (k : ok X R own cc nL ret rk post (pc + 3) L (vL v :: S) σ) : ok X R own cc nL ret rk post pc L S σ :=
  ok_go (fun p l e s m args below meth c H locs ls Q C hH hl w => lv_ldc2 C.1 C.2.1 C.2.2.2.2.2.1 (C.2.2.2.2.2.2.1 _ hw) hd w) k
theorem ok_ldcw {i : Nat} {v : Int} (hd : decode cc pc = .ok (.ldc_w i, 3)) (hw : Cond.constant own i (Int32.ofInt v) ∈ BIG) (k : ok X R own cc nL ret rk post (pc + 3) L (vI v :: S) σ) : ok X R own cc nL ret rk post pc L S σ :=
  ok_go (fun p l e s m args below meth c H locs ls Q C hH hl w => lv_ldcw C.1 C.2.1 C.2.2.2.2.2.1 (C.2.2.2.2.2.2.1 _ hw) hd w) k
theorem ok_iload {i : Nat} {x : Int} (j : Nat) (hd : decode cc pc = .ok (.iload i, 2)) (hl : L[j]? = some (i, vI x)) (k : ok X R own cc nL ret rk post (pc + 2) L (vI x :: S) σ) : ok X R own cc nL ret rk post pc L S σ :=
  ok_go (fun p l e s m args below meth c H locs ls Q C hH h w => lv_iload C.1 C.2.1 hd (lv_at h j hl) w) k
theorem ok_iload_n {n : Fin 4} {i : Nat} {x : Int} (j : Nat) (hd : decode cc pc = .ok (.iload_n n, 1)) (hi : (n : Nat) = i) (hl : L[j]? = some (i, vI x)) (k : ok X R own cc nL ret rk post (pc + 1) L (vI x :: S) σ) : ok X R own cc nL ret rk post pc L S σ :=
  ok_go (fun p l e s m args below meth c H locs ls Q C hH h w => lv_iload_n C.1 C.2.1 hd hi (lv_at h j hl) w) k
theorem ok_lload {i : Nat} {x : Int} (j : Nat) (hd : decode cc pc = .ok (.lload i, 2)) (hl : L[j]? = some (i, vL x)) (k : ok X R own cc nL ret rk post (pc + 2) L (vL x :: S) σ) : ok X R own cc nL ret rk post pc L S σ :=
  ok_go (fun p l e s m args below meth c H locs ls Q C hH h w => lv_lload C.1 C.2.1 hd (lv_at h j hl) w) k
theorem ok_lload_n {n : Fin 4} {i : Nat} {x : Int} (j : Nat) (hd : decode cc pc = .ok (.lload_n n, 1)) (hi : (n : Nat) = i) (hl : L[j]? = some (i, vL x)) (k : ok X R own cc nL ret rk post (pc + 1) L (vL x :: S) σ) : ok X R own cc nL ret rk post pc L S σ :=
  ok_go (fun p l e s m args below meth c H locs ls Q C hH h w => lv_lload_n C.1 C.2.1 hd hi (lv_at h j hl) w) k
theorem ok_aload {i a : Nat} (j : Nat) (hd : decode cc pc = .ok (.aload i, 2)) (hl : L[j]? = some (i, .ref a)) (k : ok X R own cc nL ret rk post (pc + 2) L (.ref a :: S) σ) : ok X R own cc nL ret rk post pc L S σ :=
  ok_go (fun p l e s m args below meth c H locs ls Q C hH h w => lv_aload C.1 C.2.1 hd (lv_at h j hl) w) k
theorem ok_aload_n {n : Fin 4} {i a : Nat} (j : Nat) (hd : decode cc pc = .ok (.aload_n n, 1)) (hi : (n : Nat) = i) (hl : L[j]? = some (i, .ref a)) (k : ok X R own cc nL ret rk post (pc + 1) L (.ref a :: S) σ) : ok X R own cc nL ret rk post pc L S σ :=
  ok_go (fun p l e s m args below meth c H locs ls Q C hH h w => lv_aload_n C.1 C.2.1 hd hi (lv_at h j hl) w) k
theorem ok_istore {i : Nat} {x : Int} {L' : List (Nat × Value)} (hd : decode cc pc = .ok (.istore i, 2)) (hn : Nat.blt i nL = true) (hl : (i, vI x) :: L.filter (fun q => !(q.1 == i) && !(q.1 + 1 == i && q.2.category == 2)) = L') (k : ok X R own cc nL ret rk post (pc + 2) L' S σ) : ok X R own cc nL ret rk post pc L (vI x :: S) σ :=
  fun p l e s m args below meth c H locs ls C hH h => lv_istore C.1 C.2.1 hd h (blt_lt hn) hl (fun ls' h' => k p l e s m args below meth c H locs ls' C hH h')
theorem ok_istore_n {n : Fin 4} {i : Nat} {x : Int} {L' : List (Nat × Value)} (hd : decode cc pc = .ok (.istore_n n, 1)) (hi : (n : Nat) = i) (hn : Nat.blt i nL = true) (hl : (i, vI x) :: L.filter (fun q => !(q.1 == i) && !(q.1 + 1 == i && q.2.category == 2)) = L') (k : ok X R own cc nL ret rk post (pc + 1) L' S σ) : ok X R own cc nL ret rk post pc L (vI x :: S) σ :=
  fun p l e s m args below meth c H locs ls C hH h => lv_istore_n C.1 C.2.1 hd hi h (blt_lt hn) hl (fun ls' h' => k p l e s m args below meth c H locs ls' C hH h')
theorem ok_lstore {i : Nat} {x : Int} {L' : List (Nat × Value)} (hd : decode cc pc = .ok (.lstore i, 2)) (hn : Nat.blt (i + 1) nL = true) (hl : (i, vL x) :: L.filter (fun q => !(q.1 == i) && (!(q.1 == i + 1) && !(q.1 + 1 == i && q.2.category == 2))) = L') (k : ok X R own cc nL ret rk post (pc + 2) L' S σ) : ok X R own cc nL ret rk post pc L (vL x :: S) σ :=
  fun p l e s m args below meth c H locs ls C hH h => lv_lstore C.1 C.2.1 hd h (blt_lt hn) hl (fun ls' h' => k p l e s m args below meth c H locs ls' C hH h')
theorem ok_lstore_n {n : Fin 4} {i : Nat} {x : Int} {L' : List (Nat × Value)} (hd : decode cc pc = .ok (.lstore_n n, 1)) (hi : (n : Nat) = i) (hn : Nat.blt (i + 1) nL = true) (hl : (i, vL x) :: L.filter (fun q => !(q.1 == i) && (!(q.1 == i + 1) && !(q.1 + 1 == i && q.2.category == 2))) = L') (k : ok X R own cc nL ret rk post (pc + 1) L' S σ) : ok X R own cc nL ret rk post pc L (vL x :: S) σ :=
  fun p l e s m args below meth c H locs ls C hH h => lv_lstore_n C.1 C.2.1 hd hi h (blt_lt hn) hl (fun ls' h' => k p l e s m args below meth c H locs ls' C hH h')
theorem ok_astore {i a : Nat} {L' : List (Nat × Value)} (hd : decode cc pc = .ok (.astore i, 2)) (hn : Nat.blt i nL = true) (hl : (i, Value.ref a) :: L.filter (fun q => !(q.1 == i) && !(q.1 + 1 == i && q.2.category == 2)) = L') (k : ok X R own cc nL ret rk post (pc + 2) L' S σ) : ok X R own cc nL ret rk post pc L (.ref a :: S) σ :=
  fun p l e s m args below meth c H locs ls C hH h => lv_astore C.1 C.2.1 hd h (blt_lt hn) hl (fun ls' h' => k p l e s m args below meth c H locs ls' C hH h')
theorem ok_astore_n {n : Fin 4} {i a : Nat} {L' : List (Nat × Value)} (hd : decode cc pc = .ok (.astore_n n, 1)) (hi : (n : Nat) = i) (hn : Nat.blt i nL = true) (hl : (i, Value.ref a) :: L.filter (fun q => !(q.1 == i) && !(q.1 + 1 == i && q.2.category == 2)) = L') (k : ok X R own cc nL ret rk post (pc + 1) L' S σ) : ok X R own cc nL ret rk post pc L (.ref a :: S) σ :=
  fun p l e s m args below meth c H locs ls C hH h => lv_astore_n C.1 C.2.1 hd hi h (blt_lt hn) hl (fun ls' h' => k p l e s m args below meth c H locs ls' C hH h')
theorem ok_iinc {i : Nat} {n x : Int} {L' : List (Nat × Value)} (j : Nat) (hd : decode cc pc = .ok (.iinc i n, 3)) (hj : L[j]? = some (i, vI x)) (hn : Nat.blt i nL = true) (hl : (i, vI (x + n)) :: L.filter (fun q => !(q.1 == i) && !(q.1 + 1 == i && q.2.category == 2)) = L') (k : ok X R own cc nL ret rk post (pc + 3) L' S σ) : ok X R own cc nL ret rk post pc L S σ :=
  fun p l e s m args below meth c H locs ls C hH h => lv_iinc (v := Int32.ofInt (x + n)) C.1 C.2.1 hd h hj (Int32.ofInt_add x n).symm (blt_lt hn) hl (fun ls' h' => k p l e s m args below meth c H locs ls' C hH h')
theorem ok_iadd {x y : Int} (hd : decode cc pc = .ok (.iadd, 1)) (k : ok X R own cc nL ret rk post (pc + 1) L (vI (x + y) :: S) σ) : ok X R own cc nL ret rk post pc L (vI y :: vI x :: S) σ :=
  ok_go (fun p l e s m args below meth c H locs ls Q C hH hl w => lv_iadd C.1 C.2.1 hd (by rw [← Int32.ofInt_add]; exact w)) k
theorem ok_isub {x y : Int} (hd : decode cc pc = .ok (.isub, 1)) (k : ok X R own cc nL ret rk post (pc + 1) L (vI (x - y) :: S) σ) : ok X R own cc nL ret rk post pc L (vI y :: vI x :: S) σ :=
  ok_go (fun p l e s m args below meth c H locs ls Q C hH hl w => lv_isub C.1 C.2.1 hd (by rw [← Int32.ofInt_sub]; exact w)) k
theorem ok_imul {x y : Int} (hd : decode cc pc = .ok (.imul, 1)) (k : ok X R own cc nL ret rk post (pc + 1) L (vI (x * y) :: S) σ) : ok X R own cc nL ret rk post pc L (vI y :: vI x :: S) σ :=
  ok_go (fun p l e s m args below meth c H locs ls Q C hH hl w => lv_imul C.1 C.2.1 hd (by rw [← Int32.ofInt_mul]; exact w)) k
theorem ok_idiv {x y : Int} (hd : decode cc pc = .ok (.idiv, 1)) (hx : inR x) (hy : inR y) (h0 : y ≠ 0) (k : ok X R own cc nL ret rk post (pc + 1) L (vI (Int.tdiv x y) :: S) σ) : ok X R own cc nL ret rk post pc L (vI y :: vI x :: S) σ :=
  ok_go (fun p l e s m args below meth c H locs ls Q C hH hl w => lv_idiv C.1 C.2.1 hd (fun q => h0 ((q_eq hy (r_lit (x := 0) rfl)).mp q)) (by rw [q_div hx hy]; exact w)) k
theorem ok_irem {x y : Int} (hd : decode cc pc = .ok (.irem, 1)) (hx : inR x) (hy : inR y) (h0 : y ≠ 0) (k : ok X R own cc nL ret rk post (pc + 1) L (vI (Int.tmod x y) :: S) σ) : ok X R own cc nL ret rk post pc L (vI y :: vI x :: S) σ :=
  ok_go (fun p l e s m args below meth c H locs ls Q C hH hl w => lv_irem C.1 C.2.1 hd (fun q => h0 ((q_eq hy (r_lit (x := 0) rfl)).mp q)) (by rw [q_rem hx hy]; exact w)) k
theorem ok_iand {x y : Int} (hd : decode cc pc = .ok (.iand, 1)) (k : ok X R own cc nL ret rk post (pc + 1) L (vI (iand x y) :: S) σ) : ok X R own cc nL ret rk post pc L (vI y :: vI x :: S) σ :=
  ok_go (fun p l e s m args below meth c H locs ls Q C hH hl w => lv_iand C.1 C.2.1 hd (by rw [show Value.int (Int32.ofInt x &&& Int32.ofInt y) = vI (iand x y) from congrArg Value.int (Int32.ofInt_toInt _).symm]; exact w)) k
theorem ok_ior {x y : Int} (hd : decode cc pc = .ok (.ior, 1)) (k : ok X R own cc nL ret rk post (pc + 1) L (vI (ior x y) :: S) σ) : ok X R own cc nL ret rk post pc L (vI y :: vI x :: S) σ :=
  ok_go (fun p l e s m args below meth c H locs ls Q C hH hl w => lv_ior C.1 C.2.1 hd (by rw [show Value.int (Int32.ofInt x ||| Int32.ofInt y) = vI (ior x y) from congrArg Value.int (Int32.ofInt_toInt _).symm]; exact w)) k
theorem ok_ixor {x y : Int} (hd : decode cc pc = .ok (.ixor, 1)) (k : ok X R own cc nL ret rk post (pc + 1) L (vI (ixor x y) :: S) σ) : ok X R own cc nL ret rk post pc L (vI y :: vI x :: S) σ :=
  ok_go (fun p l e s m args below meth c H locs ls Q C hH hl w => lv_ixor C.1 C.2.1 hd (by rw [show Value.int (Int32.ofInt x ^^^ Int32.ofInt y) = vI (ixor x y) from congrArg Value.int (Int32.ofInt_toInt _).symm]; exact w)) k
theorem ok_ishl {x y : Int} (hd : decode cc pc = .ok (.ishl, 1)) (k : ok X R own cc nL ret rk post (pc + 1) L (vI (ishl x y) :: S) σ) : ok X R own cc nL ret rk post pc L (vI y :: vI x :: S) σ :=
  ok_go (fun p l e s m args below meth c H locs ls Q C hH hl w => lv_ishl C.1 C.2.1 hd (by rw [show Value.int (Int32.ofInt x <<< (Int32.ofInt y &&& 31)) = vI (ishl x y) from congrArg Value.int (Int32.ofInt_toInt _).symm]; exact w)) k
theorem ok_ishr {x y : Int} (hd : decode cc pc = .ok (.ishr, 1)) (k : ok X R own cc nL ret rk post (pc + 1) L (vI (ishr x y) :: S) σ) : ok X R own cc nL ret rk post pc L (vI y :: vI x :: S) σ :=
  ok_go (fun p l e s m args below meth c H locs ls Q C hH hl w => lv_ishr C.1 C.2.1 hd (by rw [show Value.int (Int32.ofInt x >>> (Int32.ofInt y &&& 31)) = vI (ishr x y) from congrArg Value.int (Int32.ofInt_toInt _).symm]; exact w)) k
theorem ok_i2b {x : Int} (hd : decode cc pc = .ok (.i2b, 1)) (k : ok X R own cc nL ret rk post (pc + 1) L (vI (i2bI x) :: S) σ) : ok X R own cc nL ret rk post pc L (vI x :: S) σ :=
  ok_go (fun p l e s m args below meth c H locs ls Q C hH hl w => lv_i2b C.1 C.2.1 hd (Int32.ofInt_toInt _).symm w) k
theorem ok_i2s {x : Int} (hd : decode cc pc = .ok (.i2s, 1)) (k : ok X R own cc nL ret rk post (pc + 1) L (vI (i2sI x) :: S) σ) : ok X R own cc nL ret rk post pc L (vI x :: S) σ :=
  ok_go (fun p l e s m args below meth c H locs ls Q C hH hl w => lv_i2s C.1 C.2.1 hd (Int32.ofInt_toInt _).symm w) k
theorem ok_i2l {x : Int} (hd : decode cc pc = .ok (.i2l, 1)) (hx : inR x) (k : ok X R own cc nL ret rk post (pc + 1) L (vL x :: S) σ) : ok X R own cc nL ret rk post pc L (vI x :: S) σ :=
  ok_go (fun p l e s m args below meth c H locs ls Q C hH hl w => lv_i2l C.1 C.2.1 hd (q_i2l hx) w) k
theorem ok_l2i {x : Int} (hd : decode cc pc = .ok (.l2i, 1)) (k : ok X R own cc nL ret rk post (pc + 1) L (vI (l2iI x) :: S) σ) : ok X R own cc nL ret rk post pc L (vL x :: S) σ :=
  ok_go (fun p l e s m args below meth c H locs ls Q C hH hl w => lv_l2i C.1 C.2.1 hd (Int32.ofInt_toInt _).symm w) k
theorem ok_ladd {x y : Int} (hd : decode cc pc = .ok (.ladd, 1)) (k : ok X R own cc nL ret rk post (pc + 1) L (vL (x + y) :: S) σ) : ok X R own cc nL ret rk post pc L (vL y :: vL x :: S) σ :=
  ok_go (fun p l e s m args below meth c H locs ls Q C hH hl w => lv_ladd C.1 C.2.1 hd (by rw [← Int64.ofInt_add]; exact w)) k
theorem ok_lsub {x y : Int} (hd : decode cc pc = .ok (.lsub, 1)) (k : ok X R own cc nL ret rk post (pc + 1) L (vL (x - y) :: S) σ) : ok X R own cc nL ret rk post pc L (vL y :: vL x :: S) σ :=
  ok_go (fun p l e s m args below meth c H locs ls Q C hH hl w => lv_lsub C.1 C.2.1 hd (by rw [← Int64.ofInt_sub]; exact w)) k
theorem ok_lmul {x y : Int} (hd : decode cc pc = .ok (.lmul, 1)) (k : ok X R own cc nL ret rk post (pc + 1) L (vL (x * y) :: S) σ) : ok X R own cc nL ret rk post pc L (vL y :: vL x :: S) σ :=
  ok_go (fun p l e s m args below meth c H locs ls Q C hH hl w => lv_lmul C.1 C.2.1 hd (by rw [← Int64.ofInt_mul]; exact w)) k
theorem ok_ldiv {x y : Int} (hd : decode cc pc = .ok (.ldiv, 1)) (hx : inL x) (hy : inL y) (h0 : y ≠ 0) (k : ok X R own cc nL ret rk post (pc + 1) L (vL (Int.tdiv x y) :: S) σ) : ok X R own cc nL ret rk post pc L (vL y :: vL x :: S) σ :=
  ok_go (fun p l e s m args below meth c H locs ls Q C hH hl w => lv_ldiv C.1 C.2.1 hd (fun q => h0 ((q_eqL hy (l_of_r (r_lit (x := 0) rfl))).mp q)) (by rw [q_divL hx hy]; exact w)) k
theorem ok_lrem {x y : Int} (hd : decode cc pc = .ok (.lrem, 1)) (hx : inL x) (hy : inL y) (h0 : y ≠ 0) (k : ok X R own cc nL ret rk post (pc + 1) L (vL (Int.tmod x y) :: S) σ) : ok X R own cc nL ret rk post pc L (vL y :: vL x :: S) σ :=
  ok_go (fun p l e s m args below meth c H locs ls Q C hH hl w => lv_lrem C.1 C.2.1 hd (fun q => h0 ((q_eqL hy (l_of_r (r_lit (x := 0) rfl))).mp q)) (by rw [q_remL hx hy]; exact w)) k
theorem ok_lshr {x y : Int} (hd : decode cc pc = .ok (.lshr, 1)) (k : ok X R own cc nL ret rk post (pc + 1) L (vL (lshrI x y) :: S) σ) : ok X R own cc nL ret rk post pc L (vI y :: vL x :: S) σ :=
  ok_go (fun p l e s m args below meth c H locs ls Q C hH hl w => lv_lshr C.1 C.2.1 hd (Int64.ofInt_toInt _).symm w) k
theorem ok_lcmp {x y : Int} (hd : decode cc pc = .ok (.lcmp, 1)) (hx : inL x) (hy : inL y) (k : ok X R own cc nL ret rk post (pc + 1) L (vI (lcmpI x y) :: S) σ) : ok X R own cc nL ret rk post pc L (vL y :: vL x :: S) σ :=
  ok_go (fun p l e s m args below meth c H locs ls Q C hH hl w => W.lcmp C.1 C.2.1 hd (by rw [q_cmp hx hy]; exact w)) k
theorem ok_dup {v : Value} (hd : decode cc pc = .ok (.dup, 1)) (hv : v.category = 1) (k : ok X R own cc nL ret rk post (pc + 1) L (v :: v :: S) σ) : ok X R own cc nL ret rk post pc L (v :: S) σ :=
  ok_go (fun p l e s m args below meth c H locs ls Q C hH hl w => lv_dup C.1 C.2.1 hd hv w) k
theorem ok_dup2 {v u : Value} (hd : decode cc pc = .ok (.dup2, 1)) (hv : v.category = 1) (hu : u.category = 1) (k : ok X R own cc nL ret rk post (pc + 1) L (v :: u :: v :: u :: S) σ) : ok X R own cc nL ret rk post pc L (v :: u :: S) σ :=
  ok_go (fun p l e s m args below meth c H locs ls Q C hH hl w => lv_dup2_11 C.1 C.2.1 hd hv hu w) k
theorem ok_pop {v : Value} (hd : decode cc pc = .ok (.pop, 1)) (hv : v.category = 1) (k : ok X R own cc nL ret rk post (pc + 1) L S σ) : ok X R own cc nL ret rk post pc L (v :: S) σ :=
  ok_go (fun p l e s m args below meth c H locs ls Q C hH hl w => lv_pop C.1 C.2.1 hd hv w) k
theorem ok_goto {off : Int} {tgt : Nat} (hd : decode cc pc = .ok (.goto off, 3)) (ht : (pc : Int) + off = (tgt : Int)) (k : ok X R own cc nL ret rk post tgt L S σ) : ok X R own cc nL ret rk post pc L S σ :=
  ok_go (fun p l e s m args below meth c H locs ls Q C hH hl w => lv_goto C.1 C.2.1 hd ht w) k
theorem ok_icmp_eq {x y : Int} {off : Int} {tgt : Nat} (hd : decode cc pc = .ok (.if_icmp .eq off, 3)) (ht : (pc : Int) + off = (tgt : Int)) (hx : inR x) (hy : inR y) (kt : x = y → ok X R own cc nL ret rk post tgt L S σ) (kf : ¬ x = y → ok X R own cc nL ret rk post (pc + 3) L S σ) : ok X R own cc nL ret rk post pc L (vI y :: vI x :: S) σ :=
  fun p l e s m args below meth c H locs ls C hH hl => lv_icmp_eq C.1 C.2.1 hd ht (fun h => kt ((q_eq hx hy).mp h) p l e s m args below meth c H locs ls C hH hl) (fun h => kf (fun q => h ((q_eq hx hy).mpr q)) p l e s m args below meth c H locs ls C hH hl)
theorem ok_icmp_ne {x y : Int} {off : Int} {tgt : Nat} (hd : decode cc pc = .ok (.if_icmp .ne off, 3)) (ht : (pc : Int) + off = (tgt : Int)) (hx : inR x) (hy : inR y) (kt : ¬ x = y → ok X R own cc nL ret rk post tgt L S σ) (kf : x = y → ok X R own cc nL ret rk post (pc + 3) L S σ) : ok X R own cc nL ret rk post pc L (vI y :: vI x :: S) σ :=
  fun p l e s m args below meth c H locs ls C hH hl => lv_icmp_ne C.1 C.2.1 hd ht (fun h => kt (fun q => h ((q_eq hx hy).mpr q)) p l e s m args below meth c H locs ls C hH hl) (fun h => kf ((q_eq hx hy).mp h) p l e s m args below meth c H locs ls C hH hl)
theorem ok_icmp_lt {x y : Int} {off : Int} {tgt : Nat} (hd : decode cc pc = .ok (.if_icmp .lt off, 3)) (ht : (pc : Int) + off = (tgt : Int)) (hx : inR x) (hy : inR y) (kt : x < y → ok X R own cc nL ret rk post tgt L S σ) (kf : ¬ x < y → ok X R own cc nL ret rk post (pc + 3) L S σ) : ok X R own cc nL ret rk post pc L (vI y :: vI x :: S) σ :=
  fun p l e s m args below meth c H locs ls C hH hl => lv_icmp_lt C.1 C.2.1 hd ht (fun h => kt ((q_lt hx hy).mp h) p l e s m args below meth c H locs ls C hH hl) (fun h => kf (fun q => h ((q_lt hx hy).mpr q)) p l e s m args below meth c H locs ls C hH hl)
theorem ok_icmp_ge {x y : Int} {off : Int} {tgt : Nat} (hd : decode cc pc = .ok (.if_icmp .ge off, 3)) (ht : (pc : Int) + off = (tgt : Int)) (hx : inR x) (hy : inR y) (kt : ¬ x < y → ok X R own cc nL ret rk post tgt L S σ) (kf : x < y → ok X R own cc nL ret rk post (pc + 3) L S σ) : ok X R own cc nL ret rk post pc L (vI y :: vI x :: S) σ :=
  fun p l e s m args below meth c H locs ls C hH hl => lv_icmp_ge C.1 C.2.1 hd ht (fun h => kt (Int.not_lt.mpr ((q_le hy hx).mp h)) p l e s m args below meth c H locs ls C hH hl) (fun h => kf (Int.not_le.mp (fun q => h ((q_le hy hx).mpr q))) p l e s m args below meth c H locs ls C hH hl)
theorem ok_icmp_gt {x y : Int} {off : Int} {tgt : Nat} (hd : decode cc pc = .ok (.if_icmp .gt off, 3)) (ht : (pc : Int) + off = (tgt : Int)) (hx : inR x) (hy : inR y) (kt : y < x → ok X R own cc nL ret rk post tgt L S σ) (kf : ¬ y < x → ok X R own cc nL ret rk post (pc + 3) L S σ) : ok X R own cc nL ret rk post pc L (vI y :: vI x :: S) σ :=
  fun p l e s m args below meth c H locs ls C hH hl => lv_icmp_gt C.1 C.2.1 hd ht (fun h => kt ((q_lt hy hx).mp h) p l e s m args below meth c H locs ls C hH hl) (fun h => kf (fun q => h ((q_lt hy hx).mpr q)) p l e s m args below meth c H locs ls C hH hl)
theorem ok_icmp_le {x y : Int} {off : Int} {tgt : Nat} (hd : decode cc pc = .ok (.if_icmp .le off, 3)) (ht : (pc : Int) + off = (tgt : Int)) (hx : inR x) (hy : inR y) (kt : ¬ y < x → ok X R own cc nL ret rk post tgt L S σ) (kf : y < x → ok X R own cc nL ret rk post (pc + 3) L S σ) : ok X R own cc nL ret rk post pc L (vI y :: vI x :: S) σ :=
  fun p l e s m args below meth c H locs ls C hH hl => lv_icmp_le C.1 C.2.1 hd ht (fun h => kt (Int.not_lt.mpr ((q_le hx hy).mp h)) p l e s m args below meth c H locs ls C hH hl) (fun h => kf (Int.not_le.mp (fun q => h ((q_le hx hy).mpr q))) p l e s m args below meth c H locs ls C hH hl)
theorem ok_if_eq {x : Int} {off : Int} {tgt : Nat} (hd : decode cc pc = .ok (.ifCond .eq off, 3)) (ht : (pc : Int) + off = (tgt : Int)) (hx : inR x) (kt : x = 0 → ok X R own cc nL ret rk post tgt L S σ) (kf : ¬ x = 0 → ok X R own cc nL ret rk post (pc + 3) L S σ) : ok X R own cc nL ret rk post pc L (vI x :: S) σ :=
  fun p l e s m args below meth c H locs ls C hH hl => lv_if_eq C.1 C.2.1 hd ht (fun h => kt ((q_eq hx (r_lit (x := 0) rfl)).mp h) p l e s m args below meth c H locs ls C hH hl) (fun h => kf (fun q => h ((q_eq hx (r_lit (x := 0) rfl)).mpr q)) p l e s m args below meth c H locs ls C hH hl)
theorem ok_if_ne {x : Int} {off : Int} {tgt : Nat} (hd : decode cc pc = .ok (.ifCond .ne off, 3)) (ht : (pc : Int) + off = (tgt : Int)) (hx : inR x) (kt : ¬ x = 0 → ok X R own cc nL ret rk post tgt L S σ) (kf : x = 0 → ok X R own cc nL ret rk post (pc + 3) L S σ) : ok X R own cc nL ret rk post pc L (vI x :: S) σ :=
  fun p l e s m args below meth c H locs ls C hH hl => lv_if_ne C.1 C.2.1 hd ht (fun h => kt (fun q => h ((q_eq hx (r_lit (x := 0) rfl)).mpr q)) p l e s m args below meth c H locs ls C hH hl) (fun h => kf ((q_eq hx (r_lit (x := 0) rfl)).mp h) p l e s m args below meth c H locs ls C hH hl)
theorem ok_if_lt {x : Int} {off : Int} {tgt : Nat} (hd : decode cc pc = .ok (.ifCond .lt off, 3)) (ht : (pc : Int) + off = (tgt : Int)) (hx : inR x) (kt : x < 0 → ok X R own cc nL ret rk post tgt L S σ) (kf : ¬ x < 0 → ok X R own cc nL ret rk post (pc + 3) L S σ) : ok X R own cc nL ret rk post pc L (vI x :: S) σ :=
  fun p l e s m args below meth c H locs ls C hH hl => lv_if_lt C.1 C.2.1 hd ht (fun h => kt ((q_lt hx (r_lit (x := 0) rfl)).mp h) p l e s m args below meth c H locs ls C hH hl) (fun h => kf (fun q => h ((q_lt hx (r_lit (x := 0) rfl)).mpr q)) p l e s m args below meth c H locs ls C hH hl)
theorem ok_if_ge {x : Int} {off : Int} {tgt : Nat} (hd : decode cc pc = .ok (.ifCond .ge off, 3)) (ht : (pc : Int) + off = (tgt : Int)) (hx : inR x) (kt : ¬ x < 0 → ok X R own cc nL ret rk post tgt L S σ) (kf : x < 0 → ok X R own cc nL ret rk post (pc + 3) L S σ) : ok X R own cc nL ret rk post pc L (vI x :: S) σ :=
  fun p l e s m args below meth c H locs ls C hH hl => lv_if_ge C.1 C.2.1 hd ht (fun h => kt (Int.not_lt.mpr ((q_le (r_lit (x := 0) rfl) hx).mp h)) p l e s m args below meth c H locs ls C hH hl) (fun h => kf (Int.not_le.mp (fun q => h ((q_le (r_lit (x := 0) rfl) hx).mpr q))) p l e s m args below meth c H locs ls C hH hl)
theorem ok_if_gt {x : Int} {off : Int} {tgt : Nat} (hd : decode cc pc = .ok (.ifCond .gt off, 3)) (ht : (pc : Int) + off = (tgt : Int)) (hx : inR x) (kt : 0 < x → ok X R own cc nL ret rk post tgt L S σ) (kf : ¬ 0 < x → ok X R own cc nL ret rk post (pc + 3) L S σ) : ok X R own cc nL ret rk post pc L (vI x :: S) σ :=
  fun p l e s m args below meth c H locs ls C hH hl => lv_if_gt C.1 C.2.1 hd ht (fun h => kt ((q_lt (r_lit (x := 0) rfl) hx).mp h) p l e s m args below meth c H locs ls C hH hl) (fun h => kf (fun q => h ((q_lt (r_lit (x := 0) rfl) hx).mpr q)) p l e s m args below meth c H locs ls C hH hl)
theorem ok_if_le {x : Int} {off : Int} {tgt : Nat} (hd : decode cc pc = .ok (.ifCond .le off, 3)) (ht : (pc : Int) + off = (tgt : Int)) (hx : inR x) (kt : ¬ 0 < x → ok X R own cc nL ret rk post tgt L S σ) (kf : 0 < x → ok X R own cc nL ret rk post (pc + 3) L S σ) : ok X R own cc nL ret rk post pc L (vI x :: S) σ :=
  fun p l e s m args below meth c H locs ls C hH hl => lv_if_le C.1 C.2.1 hd ht (fun h => kt (Int.not_lt.mpr ((q_le hx (r_lit (x := 0) rfl)).mp h)) p l e s m args below meth c H locs ls C hH hl) (fun h => kf (Int.not_le.mp (fun q => h ((q_le hx (r_lit (x := 0) rfl)).mpr q))) p l e s m args below meth c H locs ls C hH hl)
theorem ok_lswitch {dflt : Int} {ps : Array (Int × Int)} {len : Nat} {x off : Int} {tgt : Nat} (hd : decode cc pc = .ok (.lookupswitch dflt ps, len)) (hp : (ps.toList.zip (ps.toList.drop 1)).all (fun (a, next) => a.1 < next.1) = true) (hx : inR x) (ho : Op.lookupswitch.offset ps.toList dflt x = off) (ht : (pc : Int) + off = (tgt : Int)) (k : ok X R own cc nL ret rk post tgt L S σ) : ok X R own cc nL ret rk post pc L (vI x :: S) σ :=
  ok_go (fun p l e s m args below meth c H locs ls Q C hH hl w => lv_lookup C.1 C.2.1 hd hp (by rw [q_toInt hx]; exact ho) ht w) k
theorem ok_tout {dflt lo hi : Int} {offs : Array Int} {len : Nat} {x : Int} {tgt : Nat} (hd : decode cc pc = .ok (.tableswitch dflt lo hi offs, len)) (hx : inR x) (h : x < lo ∨ hi < x) (ht : (pc : Int) + dflt = (tgt : Int)) (k : ok X R own cc nL ret rk post tgt L S σ) : ok X R own cc nL ret rk post pc L (vI x :: S) σ :=
  ok_go (fun p l e s m args below meth c H locs ls Q C hH hl w => lv_tableOut C.1 C.2.1 hd (by rw [q_toInt hx]; exact h) ht w) k
theorem ok_tin {dflt lo hi : Int} {offs : Array Int} {len : Nat} {x : Int} {off : Int} {tgt : Nat} (hd : decode cc pc = .ok (.tableswitch dflt lo hi offs, len)) (hx : inR x) (h1 : ¬ x < lo) (h2 : ¬ hi < x) (ho : offs[(x - lo).toNat]? = some off) (ht : (pc : Int) + off = (tgt : Int)) (k : ok X R own cc nL ret rk post tgt L S σ) : ok X R own cc nL ret rk post pc L (vI x :: S) σ :=
  ok_go (fun p l e s m args below meth c H locs ls Q C hH hl w => lv_tableIn C.1 C.2.1 hd (by rw [q_toInt hx]; exact h1) (by rw [q_toInt hx]; exact h2) (by rw [q_toInt hx]; exact ho) ht w) k
/-- an object's cell -/
theorem x_obj {j ci N : Nat} {rs : List (Option Nat)} (hC : xcells X σ H) (hj : j < NC) (hs : xsh j = (ci, N, rs)) (hk : ci < 20) : t_OB (xad X j) (X.2.1.1 ci) N (X.2.1.2 ci) H (xval X σ j) := by
  have h := hC j hj
  unfold xat at h
  rw [hs, if_pos hk] at h
  exact h
theorem x_arr {j ci N : Nat} {rs : List (Option Nat)} (hC : xcells X σ H) (hj : j < NC) (hs : xsh j = (ci, N, rs)) (hk : ¬ ci < 20) : H[xad X j]? = some (arrV (X.2.2.1 ci) N (xval X σ j)) := by
  have h := hC j hj
  unfold xat at h
  rw [hs, if_neg hk] at h
  exact h
theorem x_arrI {j ci N : Nat} {rs : List (Option Nat)} (hs : xsh j = (ci, N, rs)) (hk : ¬ ci < 20) (h : H[xad X j]? = some (arrV (X.2.2.1 ci) N (xval X σ j))) : xat X σ j H := by
  unfold xat
  rw [hs, if_neg hk]
  exact h
theorem x_valI {j k ci N : Nat} {rs : List (Option Nat)} (hs : xsh j = (ci, N, rs)) (hr : rs.getD k none = none) : xval X σ j k = vI (σ j k) := by
  unfold xval
  rw [hs]
  simp only [hr]
theorem x_valR {j k ci N r : Nat} {rs : List (Option Nat)} (hs : xsh j = (ci, N, rs)) (hr : rs.getD k none = some r) : xval X σ j k = .ref (xad X r) := by
  unfold xval
  rw [hs]
  simp only [hr]
theorem x_set {j k ci N : Nat} {v : Int} {rs : List (Option Nat)} (hs : xsh j = (ci, N, rs)) (hr : rs.getD k none = none) (i : Nat) : updV (xval X σ j) k (vI v) i = xval X (mset σ j k v) j i := by
  unfold updV
  by_cases hi : i = k
  · rw [if_pos hi, hi, x_valI hs hr]
    simp [mset]
  · rw [if_neg hi]
    unfold xval
    simp only [mset, hi, and_false, if_false]
theorem x_other {j k i : Nat} {v : Int} (hi : i ≠ j) : xval X (mset σ j k v) i = xval X σ i := by
  funext n
  unfold xval
  simp only [mset, hi, false_and, if_false]
theorem x_put {j k ci N : Nat} {v : Int} {rs : List (Option Nat)} {s : State} {H1 : Heap} {locs : List Loc} {q : Nat} (hs : xsh j = (ci, N, rs)) (hj : j < NC) (hr : rs.getD k none = none) (hv : inR v) (hH : xH X σ s H locs) (hc : xat X (mset σ j k v) j H1) (hz : H1.size = H.size) (ho : ∀ q : Nat, q ≠ xad X j → H1[q]? = H[q]?) : xH X (mset σ j k v) s H1 (locs ++ [⟨xad X j, q⟩]) := by
  obtain ⟨h1, h2, h3, h4, h5⟩ := hH
  have hA : xA X (xad X j) := ⟨Nat.le_add_right _ _, Nat.add_lt_add_left hj _⟩
  refine ⟨fun i hi => ?_, hz.trans h2, fun q hq => (ho q (fun e => hq (by rw [e]; exact hA))).trans (h3 q hq), fun l hl => ?_, mset_wf h5 hv⟩
  · by_cases e : i = j
    · rw [e]; exact hc
    · have h := h1 i hi
      have ne : xad X i ≠ xad X j := fun q => e (Nat.add_left_cancel q)
      unfold xat at h ⊢
      rw [x_other e]
      by_cases hk : (xsh i).1 < 20
      · rw [if_pos hk] at h ⊢
        exact h.kept (ho _ ne)
      · rw [if_neg hk] at h ⊢
        rw [ho _ ne]
        exact h
  · rcases List.mem_append.mp hl with h | h
    · exact h4 l h
    · rw [List.mem_singleton.mp h]; exact hA
theorem ok_getI {j k ci N idx : Nat} {rs : List (Option Nat)} (hd : decode cc pc = .ok (.getfield idx, 3)) (hf : FL own idx ci N k) (hs : xsh j = (ci, N, rs)) (hj : j < NC) (hk : Nat.blt ci 20 = true) (hr : rs.getD k none = none) (kk : ok X R own cc nL ret rk post (pc + 3) L (vI (σ j k) :: S) σ) : ok X R own cc nL ret rk post pc L (.ref (xad X j) :: S) σ := by
  refine ok_go (fun p l e s m args below meth c H locs ls Q C hH hl w => ?_) kk
  obtain ⟨hx, hb, hre, hlk, hml, hown, hts, hK, hS⟩ := C
  obtain ⟨C0, T, hc, hkN, hin, hlink, hdecl⟩ := hf
  obtain ⟨cell, q1, q2, q3, q4⟩ := x_obj hH.1 hj hs (blt_lt hk)
  obtain ⟨hSl, hfc, kC, hkC, hkind⟩ := hK.1.1 ci _ hc
  obtain ⟨cf, kf, fi, f, hi, hsl⟩ := hSl k hkN
  refine W.getf hx hb hown (hts _ hlink) (by rw [← hdecl]; exact hi) (u_facts hfc hkC (u_lays hts hin hkN) hi).1 q1 (by rw [q3]; exact fun h => by cases h) (v := vI (σ j k)) ?_ rfl rfl hd w
  rw [hsl, q4 k hkN, x_valI hs hr]
theorem ok_getR {j k ci N idx r : Nat} {rs : List (Option Nat)} (hd : decode cc pc = .ok (.getfield idx, 3)) (hf : FL own idx ci N k) (hs : xsh j = (ci, N, rs)) (hj : j < NC) (hk : Nat.blt ci 20 = true) (hr : rs.getD k none = some r) (kk : ok X R own cc nL ret rk post (pc + 3) L (.ref (xad X r) :: S) σ) : ok X R own cc nL ret rk post pc L (.ref (xad X j) :: S) σ := by
  refine ok_go (fun p l e s m args below meth c H locs ls Q C hH hl w => ?_) kk
  obtain ⟨hx, hb, hre, hlk, hml, hown, hts, hK, hS⟩ := C
  obtain ⟨C0, T, hc, hkN, hin, hlink, hdecl⟩ := hf
  obtain ⟨cell, q1, q2, q3, q4⟩ := x_obj hH.1 hj hs (blt_lt hk)
  obtain ⟨hSl, hfc, kC, hkC, hkind⟩ := hK.1.1 ci _ hc
  obtain ⟨cf, kf, fi, f, hi, hsl⟩ := hSl k hkN
  refine W.getf hx hb hown (hts _ hlink) (by rw [← hdecl]; exact hi) (u_facts hfc hkC (u_lays hts hin hkN) hi).1 q1 (by rw [q3]; exact fun h => by cases h) (v := .ref (xad X r)) ?_ rfl rfl hd w
  rw [hsl, q4 k hkN, x_valR hs hr]
theorem ok_putI {j k ci N idx : Nat} {v : Int} {ty : FieldType} {rs : List (Option Nat)} (hd : decode cc pc = .ok (.putfield idx, 3)) (hf : FL own idx ci N k) (hp : FP ci N k ty) (hs : xsh j = (ci, N, rs)) (hj : j < NC) (hk : Nat.blt ci 20 = true) (hr : rs.getD k none = none) (hv : inR v) (hn : narrow ty (vI v) = vI v) (hfit : fits ty (vI v) = true)
    (kk : ok X R own cc nL ret rk post (pc + 3) L S (mset σ j k v)) : ok X R own cc nL ret rk post pc L (vI v :: .ref (xad X j) :: S) σ := by
  intro p l e s m args below meth c H locs ls C hH hl
  obtain ⟨hx, hb, hre, hlk, hml, hown, hts, hK, hS⟩ := id C
  obtain ⟨C0, T, hc, hkN, hin, hlink, hdecl⟩ := hf
  obtain ⟨C1, T1, t0, hc1, hty, hnm, ht0, hfin⟩ := hp
  have e1 := hc1.symm.trans hc
  cases e1
  have hap := va_apart (own := own) hts hin t0 hty hnm hK.1 hc
  obtain ⟨cell, q1, q2, q3, q4⟩ := x_obj hH.1 hj hs (blt_lt hk)
  obtain ⟨hSl, hfc, kC, hkC, hkind⟩ := hK.1.1 ci _ hc
  obtain ⟨cf, kf, fi, f, hi, hsl⟩ := hSl k hkN
  have hlay := hts _ (hin _ (u_in_lay hkN))
  unfold u_lay at hlay
  rw [if_neg (by rw [hfin]; decide)] at hlay
  have hst := (u_facts hfc hkC (u_lays hts hin hkN) hi).1
  have hpd : parseFieldDescriptor (T k).2.2.1 = some ty := by rw [hty k hkN, ht0]
  have h6 := u_store hfc hkC hkind hlay hi hpd hn hfit
  refine W.putK hx hb (f := f) ⟨hown, hts _ hlink, ⟨_, _, _, by rw [← hdecl]; exact hi⟩, hst⟩ (by rw [q2]; exact h6) q1 q3 (by rw [hsl]; exact k2_hasslot (q4 k hkN)) rfl rfl hd fun H' e1 e2 e3 => ?_
  rw [hsl] at e1
  refine kk p l e s m args below meth c H' _ ls C (x_put hs hj hr hv hH ?_ e2 e3) hl
  unfold xat
  rw [hs, if_pos (blt_lt hk)]
  exact t_OB.to (V := updV (xval X σ j) k (vI v)) ⟨_, e1, q2, q3, t_set q4 hap hkN _⟩ (fun i _ => x_set hs hr i)
theorem ok_iald {j N : Nat} {i : Int} (hd : decode cc pc = .ok (.iaload, 1)) (hs : xsh j = (20, N, [])) (hj : j < NC) (hN : Nat.blt N 2147483648 = true) (h0 : 0 ≤ i) (h1 : i < N) (kk : ok X R own cc nL ret rk post (pc + 1) L (vI (σ j i.toNat) :: S) σ) : ok X R own cc nL ret rk post pc L (vI i :: .ref (xad X j) :: S) σ := by
  refine ok_go (fun p l e s m args below meth c H locs ls Q C hH hl w => ?_) kk
  obtain ⟨hi, hc⟩ := q_in (n := N) (blt_lt hN) h0 h1
  have hlt : i.toNat < N := by omega
  refine W.iald (v := vI (σ j i.toNat)) C.1 C.2.1 (x_arr hH.1 hj hs (by decide)) ((C.2.2.2.2.2.2.2.1.1.2 0 _ rfl).1 N _) (fun q => by cases q) (by rw [arrV_size]; exact hi) ?_ rfl rfl hd w
  rw [hc, arrV_read _ _ hlt, x_valI hs (by simp)]
theorem ok_zald {j N : Nat} {i : Int} (hd : decode cc pc = .ok (.baload, 1)) (hs : xsh j = (21, N, [])) (hj : j < NC) (hN : Nat.blt N 2147483648 = true) (h0 : 0 ≤ i) (h1 : i < N) (kk : ok X R own cc nL ret rk post (pc + 1) L (vI (σ j i.toNat) :: S) σ) : ok X R own cc nL ret rk post pc L (vI i :: .ref (xad X j) :: S) σ := by
  refine ok_go (fun p l e s m args below meth c H locs ls Q C hH hl w => ?_) kk
  obtain ⟨hi, hc⟩ := q_in (n := N) (blt_lt hN) h0 h1
  have hlt : i.toNat < N := by omega
  refine W.zald (v := vI (σ j i.toNat)) C.1 C.2.1 (x_arr hH.1 hj hs (by decide)) ((C.2.2.2.2.2.2.2.1.1.2 1 _ rfl).1 N _) (fun q => by cases q) (by rw [arrV_size]; exact hi) ?_ rfl rfl hd w
  rw [hc, arrV_read _ _ hlt, x_valI hs (by simp)]
theorem ok_bald {j N : Nat} {i : Int} (hd : decode cc pc = .ok (.baload, 1)) (hs : xsh j = (22, N, [])) (hj : j < NC) (hN : Nat.blt N 2147483648 = true) (h0 : 0 ≤ i) (h1 : i < N) (kk : ok X R own cc nL ret rk post (pc + 1) L (vI (σ j i.toNat) :: S) σ) : ok X R own cc nL ret rk post pc L (vI i :: .ref (xad X j) :: S) σ := by
  refine ok_go (fun p l e s m args below meth c H locs ls Q C hH hl w => ?_) kk
  obtain ⟨hi, hc⟩ := q_in (n := N) (blt_lt hN) h0 h1
  have hlt : i.toNat < N := by omega
  refine W.bald (v := vI (σ j i.toNat)) C.1 C.2.1 (x_arr hH.1 hj hs (by decide)) ((C.2.2.2.2.2.2.2.1.1.2 2 _ rfl).1 N _) (fun q => by cases q) (by rw [arrV_size]; exact hi) ?_ rfl rfl hd w
  rw [hc, arrV_read _ _ hlt, x_valI hs (by simp)]
theorem ok_aald {j N ci r t0 : Nat} {C0 : String} {rs : List (Option Nat)} {i : Int} (hd : decode cc pc = .ok (.aaload, 1)) (hs : xsh j = (ci, N, rs)) (hj : j < NC) (hk : ¬ ci < 20) (ht : (xtys X)[t0]? = some (X.2.2.1 ci, .object C0)) (hN : Nat.blt N 2147483648 = true) (h0 : 0 ≤ i) (h1 : i < N) (hr : rs.getD i.toNat none = some r) (kk : ok X R own cc nL ret rk post (pc + 1) L (.ref (xad X r) :: S) σ) : ok X R own cc nL ret rk post pc L (vI i :: .ref (xad X j) :: S) σ := by
  refine ok_go (fun p l e s m args below meth c H locs ls Q C hH hl w => ?_) kk
  obtain ⟨hi, hc⟩ := q_in (n := N) (blt_lt hN) h0 h1
  have hlt : i.toNat < N := by omega
  refine W.aald (v := .ref (xad X r)) (ty := .object C0) C.1 C.2.1 (x_arr hH.1 hj hs hk) ((C.2.2.2.2.2.2.2.1.1.2 t0 _ ht).1 N _) rfl (fun q => by cases q) (by rw [arrV_size]; exact hi) ?_ rfl rfl hd w
  rw [hc, arrV_read _ _ hlt, x_valR hs hr]
theorem ok_iast {j N : Nat} {i v : Int} (hd : decode cc pc = .ok (.iastore, 1)) (hs : xsh j = (20, N, [])) (hj : j < NC) (hN : Nat.blt N 2147483648 = true) (h0 : 0 ≤ i) (h1 : i < N) (hv : inR v) (kk : ok X R own cc nL ret rk post (pc + 1) L S (mset σ j i.toNat v)) : ok X R own cc nL ret rk post pc L (vI v :: vI i :: .ref (xad X j) :: S) σ := by
  intro p l e s m args below meth c H locs ls C hH hl
  obtain ⟨hi, hc⟩ := q_in (n := N) (blt_lt hN) h0 h1
  refine W.iast C.1 C.2.1 (x_arr hH.1 hj hs (by decide)) ((C.2.2.2.2.2.2.2.1.1.2 0 _ rfl).1 N _) (fun q => by cases q) (by rw [arrV_size]; exact hi) rfl rfl hd fun H1 e1 z oq => ?_
  refine kk p l e s m args below meth c H1 _ ls C (x_put hs hj (by simp) hv hH ?_ z oq) hl
  refine x_arrI hs (by decide) ?_
  rw [e1, arrV_store, hc]
  congr 2
  funext n
  exact x_set hs (by simp) n
theorem ok_zast {j N : Nat} {i v : Int} (hd : decode cc pc = .ok (.bastore, 1)) (hs : xsh j = (21, N, [])) (hj : j < NC) (hN : Nat.blt N 2147483648 = true) (h0 : 0 ≤ i) (h1 : i < N) (hv : v = 0 ∨ v = 1) (kk : ok X R own cc nL ret rk post (pc + 1) L S (mset σ j i.toNat v)) : ok X R own cc nL ret rk post pc L (vI v :: vI i :: .ref (xad X j) :: S) σ := by
  intro p l e s m args below meth c H locs ls C hH hl
  obtain ⟨hi, hc⟩ := q_in (n := N) (blt_lt hN) h0 h1
  have hn : narrow .boolean (vI v) = vI v := by rcases hv with rfl | rfl <;> rfl
  refine W.zast C.1 C.2.1 (x_arr hH.1 hj hs (by decide)) ((C.2.2.2.2.2.2.2.1.1.2 1 _ rfl).1 N _) (fun q => by cases q) (by rw [arrV_size]; exact hi) rfl rfl hd fun H1 e1 z oq => ?_
  refine kk p l e s m args below meth c H1 _ ls C (x_put hs hj (by simp) (by rcases hv with rfl | rfl <;> exact r_lit rfl) hH ?_ z oq) hl
  refine x_arrI hs (by decide) ?_
  rw [e1, hn, arrV_store, hc]
  congr 2
  funext n
  exact x_set hs (by simp) n
theorem ok_bast {j N : Nat} {i v : Int} (hd : decode cc pc = .ok (.bastore, 1)) (hs : xsh j = (22, N, [])) (hj : j < NC) (hN : Nat.blt N 2147483648 = true) (h0 : 0 ≤ i) (h1 : i < N) (hv : -128 ≤ v ∧ v ≤ 127) (kk : ok X R own cc nL ret rk post (pc + 1) L S (mset σ j i.toNat v)) : ok X R own cc nL ret rk post pc L (vI v :: vI i :: .ref (xad X j) :: S) σ := by
  intro p l e s m args below meth c H locs ls C hH hl
  obtain ⟨hi, hc⟩ := q_in (n := N) (blt_lt hN) h0 h1
  have hr : inR v := ⟨by omega, by omega⟩
  have hn : narrow .byte (vI v) = vI v := by
    show Value.int _ = _
    congr 1
    exact lg_i2b_small (by rw [q_toInt hr]; omega) (by rw [q_toInt hr]; omega)
  refine W.bast C.1 C.2.1 (x_arr hH.1 hj hs (by decide)) ((C.2.2.2.2.2.2.2.1.1.2 2 _ rfl).1 N _) (fun q => by cases q) (by rw [arrV_size]; exact hi) rfl rfl hd fun H1 e1 z oq => ?_
  refine kk p l e s m args below meth c H1 _ ls C (x_put hs hj (by simp) hr hH ?_ z oq) hl
  refine x_arrI hs (by decide) ?_
  rw [e1, hn, arrV_store, hc]
  congr 2
  funext n
  exact x_set hs (by simp) n
-- ends
theorem ok_iret {v : Int} {ty : FieldType} (hd : decode cc pc = .ok (.ireturn, 1)) (hr : ret = some ty) (hk : rk = 1) (hn : narrow ty (vI v) = vI v) (hv : inR v) (h : post v σ) : ok X R own cc nL ret rk post pc L [vI v] σ := by
  intro p l e s m args below meth c H locs ls C hH hl
  refine W.zret C.1 C.2.1 (C.2.2.1.trans hr) hn (fun t ht hW => ⟨v, σ, by rw [hk]; rfl, by rw [hk]; exact hv, h, hH.2.2.2.2, by rw [ht]; exact hH.1, by rw [ht]; exact hH.2.1, fun q hq => by rw [ht]; exact hH.2.2.1 q hq⟩) hH.2.2.2.1 hd C.2.2.2.1
theorem ok_lret {v : Int} (hd : decode cc pc = .ok (.lreturn, 1)) (hr : ret = some .long) (hk : rk = 2) (hv : inL v) (h : post v σ) : ok X R own cc nL ret rk post pc L [vL v] σ := by
  intro p l e s m args below meth c H locs ls C hH hl
  refine W.lret C.1 C.2.1 (C.2.2.1.trans hr) (fun t ht hW => ⟨v, σ, by rw [hk]; rfl, by rw [hk]; exact hv, h, hH.2.2.2.2, by rw [ht]; exact hH.1, by rw [ht]; exact hH.2.1, fun q hq => by rw [ht]; exact hH.2.2.1 q hq⟩) hH.2.2.2.1 hd C.2.2.2.1
theorem ok_vret (hd : decode cc pc = .ok (.return_, 1)) (hr : ret = none) (hk : rk = 0) (h : post 0 σ) : ok X R own cc nL ret rk post pc L [] σ := by
  intro p l e s m args below meth c H locs ls C hH hl
  refine W.vret C.1 C.2.1 (C.2.2.1.trans hr) (fun t ht hW => ⟨0, σ, by rw [hk]; rfl, by rw [hk]; rfl, h, hH.2.2.2.2, by rw [ht]; exact hH.1, by rw [ht]; exact hH.2.1, fun q hq => by rw [ht]; exact hH.2.2.1 q hq⟩) hH.2.2.2.1 hd C.2.2.2.1
theorem nr_z {v : Int} (h : v = 0 ∨ v = 1) : narrow .boolean (vI v) = vI v := by rcases h with rfl | rfl <;> rfl
theorem fi_z {v : Int} (h : v = 0 ∨ v = 1) : fits .boolean (vI v) = true := by rcases h with rfl | rfl <;> rfl
-- calls
theorem x_run {s : State} {m : MethodId} {args : Array Value} {below : List Frame} {meth : Method} {c : Code} {p : Program} {l : Launch} {e : Env} {locs : List Loc} {ls : Array Slot} {rest : List Value} {rk' : Nat} {post' : Int → Mem → Prop} {as' : Array Value} {Q : State → Prop}
    (hH : xH X σ s H locs) (hr : va_Run p l e R s m args below meth c H locs 0 0 0 0 (F0 m pc ls st0) rest (xQ X rk' post' as') (xA X))
    (kk : ∀ (r : Int) (σ' : Mem) (H1 : Heap) (locs1 : List Loc), rok rk' r → post' r σ' → xH X σ' s H1 locs1 → W p l e R s m args below meth c H1 locs1 0 0 Q (F0 m (pc + 3) ls ((rv rk' r).toList ++ rest))) : W p l e R s m args below meth c H locs 0 0 Q (F0 m pc ls st0) := by
  intro T hT X0
  obtain ⟨v, st₀, t, T', L1, h0, X', hL, e1, e2, ⟨r, σ', hv, hrk, hp, hW, hC, hz, hk⟩, st⟩ := hr T hT X0
  cases hv
  rw [h0] at hz hk
  obtain ⟨g1, g2, g3, g4, g5⟩ := hH
  obtain ⟨t2, a1, b1⟩ := kk r σ' T'.heap (locs ++ L1) hrk hp ⟨by rw [e1]; exact hC, by rw [e1]; exact hz.trans g2, fun q hq => by rw [e1, hk q hq]; exact g3 q hq, fun q hq => by
      rcases List.mem_append.mp hq with h | h
      · exact g4 q h
      · exact hL q h, hW⟩ T' rfl X'
  exact ⟨t2, st t2 a1, b1⟩
theorem x_blind {as : List Value} : FrameBlind (va_Pc as (fun U => xPI X σ U)) := fun a U g mk q => ⟨q.1, xK.same rfl q.2.1, xS.moved (Vm.Alike.refl U.vm) q.2.2.1, q.2.2.2⟩
theorem x_pre {as : List Value} {s : State} {locs : List Loc} (hK : xK X s) (hS : xS X s s.heap) (hH : xH X σ s H locs) (U : State) (hU : U.heap = H) (hW : s.WarmedH U.vm) : va_Pc as (fun U => xPI X σ U) as.toArray U :=
  ⟨rfl, xK.moved hW hK, xS.moved hW.alike (xS.kept hS (fun q hq => by rw [hU]; exact hH.2.2.1 q hq)), by rw [hU]; exact hH.1, hH.2.2.2.2⟩
theorem x_goods {Ts : List Cond} {y : MethodName} {bytes : ByteArray} {maxL : Nat} {r : Option FieldType} (hT : ∀ w ∈ BIG, w ∈ Ts) (hc : Cond.code y bytes maxL r ∈ BIG) : GoodIn Ts (Cond.code y bytes maxL r :: BIG) := by
  intro w hw
  have h : w ∈ BIG := by
    rcases List.mem_cons.mp hw with h | h
    · rw [h]; exact hc
    · exact h
  exact ⟨hT w h, big_good w h⟩
def xdes (y : MethodName) (n : Nat) : Prop := y.cls ≠ "java/lang/invoke/MethodHandle" ∧ y.cls ≠ "java/lang/invoke/VarHandle" ∧ (parseMethodDescriptor y.desc).map (fun d => d.parameters.length) = some n
theorem ok_callV {y : MethodName} {bytes : ByteArray} {maxL j ci N n idx : Nat} {ret' : Option FieldType} {rm : Room} {rk' : Nat} {C0 : String} {T0 : u_T} {As rest : List Value} {rs : List (Option Nat)} {post' : Int → Mem → Prop}
    (hd : decode cc pc = .ok (.invokevirtual idx, 3)) (hm : ME C0 y bytes maxL ret') (hlk : Cond.methodLink own idx y ∈ BIG) (hcl : vwCl[ci]? = some (C0, T0, N)) (hs : xsh j = (ci, N, rs)) (hj : j < NC) (hk : Nat.blt ci 20 = true) (hdes : xdes y n) (hn : As.length = n)
    (hR : rm.cells = 0 ∧ rm.slots = 0 ∧ Nat.ble (rm.frames + 1) R.frames = true ∧ Nat.ble (8 + (maxL + 11) + rm.locals) R.locals = true) (hst : st0 = As.reverse ++ .ref (xad X j) :: rest) (hrest : Nat.ble ((rest.map fun v => v.category).sum) 8 = true)
    (hct : CT X y bytes maxL ret' rm rk' (.ref (xad X j) :: As) σ post') (kk : ∀ (r : Int) (σ' : Mem), rok rk' r → post' r σ' → ok X R own cc nL ret rk post (pc + 3) L ((rv rk' r).toList ++ rest) σ') : ok X R own cc nL ret rk post pc L st0 σ := by
  intro p l e s m args below meth c H locs ls C hH hl
  obtain ⟨hx, hb, hre, hlo, hml, hown, hts, hK, hS⟩ := id C
  obtain ⟨hy, h1, h2, h3, h4⟩ := hm
  obtain ⟨cell, q1, q2, q3, q4⟩ := x_obj hH.1 hj hs (blt_lt hk)
  obtain ⟨hSl, hfc, -⟩ := hK.1.1 ci _ hcl
  have hG : GoodIn BIG (Cond.code y bytes maxL ret' :: BIG) := x_goods (fun _ h => h) h4
  have cb : CallB R s args own idx y bytes maxL ret' (Cond.code y bytes maxL ret' :: BIG) rm 0 0 n := callB_of n hts hG rfl hR.1 hR.2.1 (by rw [hy]; exact hts _ h3) (hts _ hlk) hdes ⟨Nat.le_of_ble_eq_true hR.2.2.1, Nat.le_of_ble_eq_true hR.2.2.2⟩
  refine x_run hH (va_runV (C := C0) (b := xad X j) (As := As) (rest := rest) ⟨hx, hb, hml, hown, hts⟩ (hct l) ⟨cb, hts _ h1, hts _ h2⟩ ⟨x_blind, ⟨cell, q1, by rw [q3]; rfl, by rw [q2]; exact hfc⟩, fun U hU hW => x_pre hK hS hH U hU hW⟩ rfl hn (by show ls.size = nL; exact hl.1) hst (by show 2 * 0 + _ ≤ 8; have := Nat.le_of_ble_eq_true hrest; omega) hd ⟨Nat.zero_le _, Nat.zero_le _⟩) ?_
  intro r σ' H1 locs1 hrk hp hH1
  exact kk r σ' hrk hp p l e s m args below meth c H1 locs1 ls C hH1 hl
theorem ok_callS {y : MethodName} {bytes : ByteArray} {maxL n idx : Nat} {ret' : Option FieldType} {rm : Room} {rk' : Nat} {As rest : List Value} {post' : Int → Mem → Prop}
    (hd : decode cc pc = .ok (.invokestatic idx, 3)) (hm : MS y bytes maxL ret') (hlk : Cond.methodLink own idx y ∈ BIG) (hdes : xdes y n) (hn : As.length = n)
    (hR : rm.cells = 0 ∧ rm.slots = 0 ∧ Nat.ble (rm.frames + 1) R.frames = true ∧ Nat.ble (8 + (maxL + 11) + rm.locals) R.locals = true) (hst : st0 = As.reverse ++ rest) (hrest : Nat.ble ((rest.map fun v => v.category).sum) 8 = true)
    (hct : CT X y bytes maxL ret' rm rk' As σ post') (kk : ∀ (r : Int) (σ' : Mem), rok rk' r → post' r σ' → ok X R own cc nL ret rk post (pc + 3) L ((rv rk' r).toList ++ rest) σ') : ok X R own cc nL ret rk post pc L st0 σ := by
  intro p l e s m args below meth c H locs ls C hH hl
  obtain ⟨hx, hb, hre, hlo, hml, hown, hts, hK, hS⟩ := id C
  obtain ⟨h1, h3, h4⟩ := hm
  have hG : GoodIn BIG (Cond.code y bytes maxL ret' :: BIG) := x_goods (fun _ h => h) h4
  have cb : CallB R s args own idx y bytes maxL ret' (Cond.code y bytes maxL ret' :: BIG) rm 0 0 n := callB_of n hts hG rfl hR.1 hR.2.1 (hts _ h3) (hts _ hlk) hdes ⟨Nat.le_of_ble_eq_true hR.2.2.1, Nat.le_of_ble_eq_true hR.2.2.2⟩
  refine x_run hH (va_runS (As := As) (rest := rest) ⟨hx, hb, hml, hown, hts⟩ (hct l) ⟨cb, hts _ h1⟩ ⟨x_blind, fun U hU hW => x_pre hK hS hH U hU hW⟩ rfl hn (by show ls.size = nL; exact hl.1) hst (by show 2 * 0 + _ ≤ 8; have := Nat.le_of_ble_eq_true hrest; omega) hd ⟨Nat.zero_le _, Nat.zero_le _⟩) ?_
  intro r σ' H1 locs1 hrk hp hH1
  exact kk r σ' hrk hp p l e s m args below meth c H1 locs1 ls C hH1 hl
/-- a static method of the outer one, called from within -/
theorem ok_callN {y : MethodName} {bytes : ByteArray} {maxL n idx : Nat} {ret' : Option FieldType} {rm : Room} {rk' : Nat} {As rest : List Value} {post' : Int → Mem → Prop}
    (hd : decode cc pc = .ok (.invokestatic idx, 3)) (hm : MS y bytes maxL ret') (hlk : ∀ s : State, xK X s → va_Nw (.methodLinkNest own idx y RX11) s) (hdes : xdes y n) (hn : As.length = n)
    (hR : rm.cells = 0 ∧ rm.slots = 0 ∧ Nat.ble (rm.frames + 1) R.frames = true ∧ Nat.ble (8 + (maxL + 11) + rm.locals) R.locals = true) (hst : st0 = As.reverse ++ rest) (hrest : Nat.ble ((rest.map fun v => v.category).sum) 8 = true)
    (hct : CT X y bytes maxL ret' rm rk' As σ post') (kk : ∀ (r : Int) (σ' : Mem), rok rk' r → post' r σ' → ok X R own cc nL ret rk post (pc + 3) L ((rv rk' r).toList ++ rest) σ') : ok X R own cc nL ret rk post pc L st0 σ := by
  intro p l e s m args below meth c H locs ls C hH hl
  obtain ⟨hx, hb, hre, hlo, hml, hown, hts, hK, hS⟩ := id C
  obtain ⟨h1, h3, h4⟩ := hm
  have hG : GoodIn BIG (Cond.code y bytes maxL ret' :: BIG) := x_goods (fun _ h => h) h4
  have cb := va_cnB (R := R) (args := args) n hts hG rfl hR.1 hR.2.1 (hlk s hK) (hts _ h3) hdes ⟨Nat.le_of_ble_eq_true hR.2.2.1, Nat.le_of_ble_eq_true hR.2.2.2⟩
  refine x_run hH (va_runSN (As := As) (rest := rest) ⟨hx, hb, hml, hown, hts⟩ (hct l) ⟨cb, hts _ h1, trivial⟩ ⟨x_blind, fun U hU hW => x_pre hK hS hH U hU hW⟩ rfl hn (by show ls.size = nL; exact hl.1) hst (by show 2 * 0 + _ ≤ 8; have := Nat.le_of_ble_eq_true hrest; omega) hd ⟨Nat.zero_le _, Nat.zero_le _⟩) ?_
  intro r σ' H1 locs1 hrk hp hH1
  exact kk r σ' hrk hp p l e s m args below meth c H1 locs1 ls C hH1 hl
def imax (x y : Int) : Int := if x < y then y else x
def imin (x y : Int) : Int := if y < x then y else x
def iabs (x : Int) : Int := if x < 0 then -x else x
theorem ok_max {idx : Nat} {x y : Int} (hd : decode cc pc = .ok (.invokestatic idx, 3)) (hlk : Cond.methodLink own idx Lib.Math.max.name ∈ BIG) (hR : Nat.ble 1 R.frames = true ∧ Nat.ble ((S.map fun v => v.category).sum + 13) R.locals = true) (hx : inR x) (hy : inR y) (kk : ok X R own cc nL ret rk post (pc + 3) L (vI (imax x y) :: S) σ) : ok X R own cc nL ret rk post pc L (vI y :: vI x :: S) σ := by
  refine ok_go (fun p l e s m args below meth c H locs ls Q C hH hl w => ?_) kk
  obtain ⟨hx0, hb, hre, hlo, hml, hown, hts, hK, hS⟩ := C
  refine va_mmax hx0 hb (hml.trans hl.1.symm) hown (hts _ hlk) (hts _ mt_max.1) (hts _ in_J9) (hts _ mt_max.2) (Nat.le_of_ble_eq_true hR.1) (Nat.le_of_ble_eq_true hR.2) (Nat.zero_le _) (Nat.zero_le _) hd ?_
  have e1 : (if Int32.ofInt x < Int32.ofInt y then Int32.ofInt y else Int32.ofInt x) = Int32.ofInt (imax x y) := by
    unfold imax
    by_cases h : x < y
    · rw [if_pos h, if_pos ((q_lt hx hy).mpr h)]
    · rw [if_neg h, if_neg (fun q => h ((q_lt hx hy).mp q))]
  rw [e1]
  exact w
theorem ok_min {idx : Nat} {x y : Int} (hd : decode cc pc = .ok (.invokestatic idx, 3)) (hlk : Cond.methodLink own idx Lib.Math.min.name ∈ BIG) (hR : Nat.ble 1 R.frames = true ∧ Nat.ble ((S.map fun v => v.category).sum + 13) R.locals = true) (hx : inR x) (hy : inR y) (kk : ok X R own cc nL ret rk post (pc + 3) L (vI (imin x y) :: S) σ) : ok X R own cc nL ret rk post pc L (vI y :: vI x :: S) σ := by
  refine ok_go (fun p l e s m args below meth c H locs ls Q C hH hl w => ?_) kk
  obtain ⟨hx0, hb, hre, hlo, hml, hown, hts, hK, hS⟩ := C
  refine va_mmin hx0 hb (hml.trans hl.1.symm) hown (hts _ hlk) (hts _ mt_min.1) (hts _ in_J9) (hts _ mt_min.2) (Nat.le_of_ble_eq_true hR.1) (Nat.le_of_ble_eq_true hR.2) (Nat.zero_le _) (Nat.zero_le _) hd ?_
  have e1 : (if Int32.ofInt y < Int32.ofInt x then Int32.ofInt y else Int32.ofInt x) = Int32.ofInt (imin x y) := by
    unfold imin
    by_cases h : y < x
    · rw [if_pos h, if_pos ((q_lt hy hx).mpr h)]
    · rw [if_neg h, if_neg (fun q => h ((q_lt hy hx).mp q))]
  rw [e1]
  exact w
theorem ok_abs {idx : Nat} {x : Int} (hd : decode cc pc = .ok (.invokestatic idx, 3)) (hlk : Cond.methodLink own idx Lib.Math.abs.name ∈ BIG) (hR : Nat.ble 1 R.frames = true ∧ Nat.ble ((S.map fun v => v.category).sum + 13) R.locals = true) (hx : inR x) (kk : ok X R own cc nL ret rk post (pc + 3) L (vI (iabs x) :: S) σ) : ok X R own cc nL ret rk post pc L (vI x :: S) σ := by
  refine ok_go (fun p l e s m args below meth c H locs ls Q C hH hl w => ?_) kk
  obtain ⟨hx0, hb, hre, hlo, hml, hown, hts, hK, hS⟩ := C
  refine va_mabs hx0 hb (hml.trans hl.1.symm) hown (hts _ hlk) (hts _ mt_abs.1) (hts _ in_J9) (hts _ mt_abs.2) (Nat.le_of_ble_eq_true hR.1) (Nat.le_of_ble_eq_true hR.2) (Nat.zero_le _) (Nat.zero_le _) hd ?_
  have e1 : (if 0 ≤ Int32.ofInt x then Int32.ofInt x else 0 - Int32.ofInt x) = Int32.ofInt (iabs x) := by
    unfold iabs
    by_cases h : x < 0
    · rw [if_pos h, if_neg (show ¬ (0 : Int32) ≤ Int32.ofInt x from fun q => absurd ((q_le (r_lit (x := 0) rfl) hx).mp q) (Int.not_le.mpr h)), Int32.ofInt_neg]
      simp
    · rw [if_neg h, if_pos (show (0 : Int32) ≤ Int32.ofInt x from (q_le (r_lit (x := 0) rfl) hx).mpr (Int.not_lt.mp h))]
  rw [e1]
  exact w
end OK
theorem iteT {c : Prop} [Decidable c] {A B : Prop} (h : if c then A else B) (hc : c) : A := by rwa [if_pos hc] at h
theorem iteF {c : Prop} [Decidable c] {A B : Prop} (h : if c then A else B) (hc : ¬ c) : B := by rwa [if_neg hc] at h
section OK2
variable {X : XE} {R : Room} {own : String} {cc : ByteArray} {nL : Nat} {ret : Option FieldType} {rk : Nat} {post : Int → Mem → Prop} {pc : Nat} {L : List (Nat × Value)} {S st0 : List Value} {σ : Mem}
theorem lt_card {c : Nat} (h : c < 24) : 23 + 3 * c < NC ∧ 24 + 3 * c < NC ∧ 25 + 3 * c < NC := by unfold NC; omega
theorem lt_sheet {k : Nat} (h : k < 4) : 109 + 2 * k < NC ∧ 110 + 2 * k < NC := by unfold NC; omega
theorem ok_cards {i : Int} (hd : decode cc pc = .ok (.aaload, 1)) (h0 : 0 ≤ i) (h1 : i < 24) (kk : ok X R own cc nL ret rk post (pc + 1) L (.ref (xad X (23 + 3 * i.toNat)) :: S) σ) : ok X R own cc nL ret rk post pc L (vI i :: .ref (xad X 17) :: S) σ := by
  have e := sh_cards i.toNat (by omega)
  rw [sh_17] at e
  exact ok_aald (t0 := 3) hd sh_17 (Nat.le_of_ble_eq_true rfl) (by decide) rfl rfl h0 h1 e kk
theorem ok_sheets {i : Int} (hd : decode cc pc = .ok (.aaload, 1)) (h0 : 0 ≤ i) (h1 : i < 4) (kk : ok X R own cc nL ret rk post (pc + 1) L (.ref (xad X (109 + 2 * i.toNat)) :: S) σ) : ok X R own cc nL ret rk post pc L (vI i :: .ref (xad X 108) :: S) σ := by
  have e := sh_sheets i.toNat (by omega)
  rw [sh_108] at e
  exact ok_aald (t0 := 4) hd sh_108 (Nat.le_of_ble_eq_true rfl) (by decide) rfl rfl h0 h1 e kk
def iushr (x y : Int) : Int := ((Int32.ofInt x).toUInt32 >>> ((Int32.ofInt y).toUInt32 &&& Int32.toUInt32 31)).toInt32.toInt
theorem ok_iushr {x y : Int} (hd : decode cc pc = .ok (.iushr, 1)) (k : ok X R own cc nL ret rk post (pc + 1) L (vI (iushr x y) :: S) σ) : ok X R own cc nL ret rk post pc L (vI y :: vI x :: S) σ :=
  ok_go (fun p l e s m args below meth c H locs ls Q C hH hl w => lv_iushr C.1 C.2.1 hd (Int32.ofInt_toInt _).symm w) k
theorem ok_ldcS {i : Nat} {tx : String} {q : Nat} (hd : decode cc pc = .ok (.ldc i, 2)) (hs : ∀ s : State, xK X s → vk_R own i tx q s) (k : ok X R own cc nL ret rk post (pc + 2) L (.ref q :: S) σ) : ok X R own cc nL ret rk post pc L S σ :=
  ok_go (fun p l e s m args below meth c H locs ls Q C hH hl w => va_ldcS C.1 C.2.1 C.2.2.2.2.2.1 (hs s C.2.2.2.2.2.2.2.1) hd w) k
theorem xn_6 : ∀ s : State, xK X s → va_Nw (.methodLinkNest RX6 92 yX11_isMeasure RX11) s := fun _ h => h.2.1.1
theorem xn_0 : ∀ s : State, xK X s → va_Nw (.methodLinkNest RX0 81 yX11_bit RX11) s := fun _ h => h.2.1.2.1
theorem xn_3 : ∀ s : State, xK X s → va_Nw (.methodLinkNest RX3 43 yX11_bit RX11) s := fun _ h => h.2.1.2.2.1
theorem xn_10 : ∀ s : State, xK X s → va_Nw (.methodLinkNest RX10 74 yX11_bit RX11) s := fun _ h => h.2.1.2.2.2.1
theorem xn_4 : ∀ s : State, xK X s → va_Nw (.methodLinkNest RX4 52 yX11_bit RX11) s := fun _ h => h.2.1.2.2.2.2.1
theorem xn_2 : ∀ s : State, xK X s → va_Nw (.methodLinkNest RX2 74 yX11_bit RX11) s := fun _ h => h.2.1.2.2.2.2.2
theorem xr_38 : ∀ s : State, xK X s → vk_R RX6 38 "from" (X.2.2.2.1 0) s := fun _ h => h.2.2.1
theorem xr_55 : ∀ s : State, xK X s → vk_R RX6 55 "edge" (X.2.2.2.1 1) s := fun _ h => h.2.2.2.1
theorem xr_57 : ∀ s : State, xK X s → vk_R RX6 57 "spread" (X.2.2.2.1 2) s := fun _ h => h.2.2.2.2.1
theorem xr_59 : ∀ s : State, xK X s → vk_R RX6 59 "grow" (X.2.2.2.1 3) s := fun _ h => h.2.2.2.2.2.1
theorem xr_61 : ∀ s : State, xK X s → vk_R RX6 61 "keep" (X.2.2.2.1 4) s := fun _ h => h.2.2.2.2.2.2.1
theorem xr_63 : ∀ s : State, xK X s → vk_R RX6 63 "other" (X.2.2.2.1 5) s := fun _ h => h.2.2.2.2.2.2.2
theorem ok_callVv {y : MethodName} {bytes : ByteArray} {maxL j ci N n idx : Nat} {ret' : Option FieldType} {rm : Room} {C0 : String} {T0 : u_T} {As rest : List Value} {rs : List (Option Nat)} {post' : Int → Mem → Prop}
    (hd : decode cc pc = .ok (.invokevirtual idx, 3)) (hm : ME C0 y bytes maxL ret') (hlk : Cond.methodLink own idx y ∈ BIG) (hcl : vwCl[ci]? = some (C0, T0, N)) (hs : xsh j = (ci, N, rs)) (hj : j < NC) (hk : Nat.blt ci 20 = true) (hdes : xdes y n) (hn : As.length = n)
    (hR : rm.cells = 0 ∧ rm.slots = 0 ∧ Nat.ble (rm.frames + 1) R.frames = true ∧ Nat.ble (8 + (maxL + 11) + rm.locals) R.locals = true) (hst : st0 = As.reverse ++ .ref (xad X j) :: rest) (hrest : Nat.ble ((rest.map fun v => v.category).sum) 8 = true)
    (hct : CT X y bytes maxL ret' rm 0 (.ref (xad X j) :: As) σ post') (kk : ∀ (σ' : Mem), post' 0 σ' → ok X R own cc nL ret rk post (pc + 3) L rest σ') : ok X R own cc nL ret rk post pc L st0 σ :=
  ok_callV hd hm hlk hcl hs hj hk hdes hn hR hst hrest hct (fun r σ' hr hp => by
    have hr : r = 0 := hr
    subst hr
    exact kk σ' hp)
theorem ok_callVi {y : MethodName} {bytes : ByteArray} {maxL j ci N n idx : Nat} {ret' : Option FieldType} {rm : Room} {C0 : String} {T0 : u_T} {As rest : List Value} {rs : List (Option Nat)} {post' : Int → Mem → Prop}
    (hd : decode cc pc = .ok (.invokevirtual idx, 3)) (hm : ME C0 y bytes maxL ret') (hlk : Cond.methodLink own idx y ∈ BIG) (hcl : vwCl[ci]? = some (C0, T0, N)) (hs : xsh j = (ci, N, rs)) (hj : j < NC) (hk : Nat.blt ci 20 = true) (hdes : xdes y n) (hn : As.length = n)
    (hR : rm.cells = 0 ∧ rm.slots = 0 ∧ Nat.ble (rm.frames + 1) R.frames = true ∧ Nat.ble (8 + (maxL + 11) + rm.locals) R.locals = true) (hst : st0 = As.reverse ++ .ref (xad X j) :: rest) (hrest : Nat.ble ((rest.map fun v => v.category).sum) 8 = true)
    (hct : CT X y bytes maxL ret' rm 1 (.ref (xad X j) :: As) σ post') (kk : ∀ (r : Int) (σ' : Mem), inR r → post' r σ' → ok X R own cc nL ret rk post (pc + 3) L (vI r :: rest) σ') : ok X R own cc nL ret rk post pc L st0 σ :=
  ok_callV hd hm hlk hcl hs hj hk hdes hn hR hst hrest hct (fun r σ' hr hp => kk r σ' hr hp)
theorem ok_callVl {y : MethodName} {bytes : ByteArray} {maxL j ci N n idx : Nat} {ret' : Option FieldType} {rm : Room} {C0 : String} {T0 : u_T} {As rest : List Value} {rs : List (Option Nat)} {post' : Int → Mem → Prop}
    (hd : decode cc pc = .ok (.invokevirtual idx, 3)) (hm : ME C0 y bytes maxL ret') (hlk : Cond.methodLink own idx y ∈ BIG) (hcl : vwCl[ci]? = some (C0, T0, N)) (hs : xsh j = (ci, N, rs)) (hj : j < NC) (hk : Nat.blt ci 20 = true) (hdes : xdes y n) (hn : As.length = n)
    (hR : rm.cells = 0 ∧ rm.slots = 0 ∧ Nat.ble (rm.frames + 1) R.frames = true ∧ Nat.ble (8 + (maxL + 11) + rm.locals) R.locals = true) (hst : st0 = As.reverse ++ .ref (xad X j) :: rest) (hrest : Nat.ble ((rest.map fun v => v.category).sum) 8 = true)
    (hct : CT X y bytes maxL ret' rm 2 (.ref (xad X j) :: As) σ post') (kk : ∀ (r : Int) (σ' : Mem), inL r → post' r σ' → ok X R own cc nL ret rk post (pc + 3) L (vL r :: rest) σ') : ok X R own cc nL ret rk post pc L st0 σ :=
  ok_callV hd hm hlk hcl hs hj hk hdes hn hR hst hrest hct (fun r σ' hr hp => kk r σ' hr hp)
theorem ok_callSv {y : MethodName} {bytes : ByteArray} {maxL n idx : Nat} {ret' : Option FieldType} {rm : Room} {As rest : List Value} {post' : Int → Mem → Prop}
    (hd : decode cc pc = .ok (.invokestatic idx, 3)) (hm : MS y bytes maxL ret') (hlk : Cond.methodLink own idx y ∈ BIG) (hdes : xdes y n) (hn : As.length = n)
    (hR : rm.cells = 0 ∧ rm.slots = 0 ∧ Nat.ble (rm.frames + 1) R.frames = true ∧ Nat.ble (8 + (maxL + 11) + rm.locals) R.locals = true) (hst : st0 = As.reverse ++ rest) (hrest : Nat.ble ((rest.map fun v => v.category).sum) 8 = true)
    (hct : CT X y bytes maxL ret' rm 0 (As) σ post') (kk : ∀ (σ' : Mem), post' 0 σ' → ok X R own cc nL ret rk post (pc + 3) L rest σ') : ok X R own cc nL ret rk post pc L st0 σ :=
  ok_callS hd hm hlk hdes hn hR hst hrest hct (fun r σ' hr hp => by
    have hr : r = 0 := hr
    subst hr
    exact kk σ' hp)
theorem ok_callSi {y : MethodName} {bytes : ByteArray} {maxL n idx : Nat} {ret' : Option FieldType} {rm : Room} {As rest : List Value} {post' : Int → Mem → Prop}
    (hd : decode cc pc = .ok (.invokestatic idx, 3)) (hm : MS y bytes maxL ret') (hlk : Cond.methodLink own idx y ∈ BIG) (hdes : xdes y n) (hn : As.length = n)
    (hR : rm.cells = 0 ∧ rm.slots = 0 ∧ Nat.ble (rm.frames + 1) R.frames = true ∧ Nat.ble (8 + (maxL + 11) + rm.locals) R.locals = true) (hst : st0 = As.reverse ++ rest) (hrest : Nat.ble ((rest.map fun v => v.category).sum) 8 = true)
    (hct : CT X y bytes maxL ret' rm 1 (As) σ post') (kk : ∀ (r : Int) (σ' : Mem), inR r → post' r σ' → ok X R own cc nL ret rk post (pc + 3) L (vI r :: rest) σ') : ok X R own cc nL ret rk post pc L st0 σ :=
  ok_callS hd hm hlk hdes hn hR hst hrest hct (fun r σ' hr hp => kk r σ' hr hp)
theorem ok_callSl {y : MethodName} {bytes : ByteArray} {maxL n idx : Nat} {ret' : Option FieldType} {rm : Room} {As rest : List Value} {post' : Int → Mem → Prop}
    (hd : decode cc pc = .ok (.invokestatic idx, 3)) (hm : MS y bytes maxL ret') (hlk : Cond.methodLink own idx y ∈ BIG) (hdes : xdes y n) (hn : As.length = n)
    (hR : rm.cells = 0 ∧ rm.slots = 0 ∧ Nat.ble (rm.frames + 1) R.frames = true ∧ Nat.ble (8 + (maxL + 11) + rm.locals) R.locals = true) (hst : st0 = As.reverse ++ rest) (hrest : Nat.ble ((rest.map fun v => v.category).sum) 8 = true)
    (hct : CT X y bytes maxL ret' rm 2 (As) σ post') (kk : ∀ (r : Int) (σ' : Mem), inL r → post' r σ' → ok X R own cc nL ret rk post (pc + 3) L (vL r :: rest) σ') : ok X R own cc nL ret rk post pc L st0 σ :=
  ok_callS hd hm hlk hdes hn hR hst hrest hct (fun r σ' hr hp => kk r σ' hr hp)
theorem ok_callNv {y : MethodName} {bytes : ByteArray} {maxL n idx : Nat} {ret' : Option FieldType} {rm : Room} {As rest : List Value} {post' : Int → Mem → Prop}
    (hd : decode cc pc = .ok (.invokestatic idx, 3)) (hm : MS y bytes maxL ret') (hlk : ∀ s : State, xK X s → va_Nw (.methodLinkNest own idx y RX11) s) (hdes : xdes y n) (hn : As.length = n)
    (hR : rm.cells = 0 ∧ rm.slots = 0 ∧ Nat.ble (rm.frames + 1) R.frames = true ∧ Nat.ble (8 + (maxL + 11) + rm.locals) R.locals = true) (hst : st0 = As.reverse ++ rest) (hrest : Nat.ble ((rest.map fun v => v.category).sum) 8 = true)
    (hct : CT X y bytes maxL ret' rm 0 (As) σ post') (kk : ∀ (σ' : Mem), post' 0 σ' → ok X R own cc nL ret rk post (pc + 3) L rest σ') : ok X R own cc nL ret rk post pc L st0 σ :=
  ok_callN hd hm hlk hdes hn hR hst hrest hct (fun r σ' hr hp => by
    have hr : r = 0 := hr
    subst hr
    exact kk σ' hp)
theorem ok_callNi {y : MethodName} {bytes : ByteArray} {maxL n idx : Nat} {ret' : Option FieldType} {rm : Room} {As rest : List Value} {post' : Int → Mem → Prop}
    (hd : decode cc pc = .ok (.invokestatic idx, 3)) (hm : MS y bytes maxL ret') (hlk : ∀ s : State, xK X s → va_Nw (.methodLinkNest own idx y RX11) s) (hdes : xdes y n) (hn : As.length = n)
    (hR : rm.cells = 0 ∧ rm.slots = 0 ∧ Nat.ble (rm.frames + 1) R.frames = true ∧ Nat.ble (8 + (maxL + 11) + rm.locals) R.locals = true) (hst : st0 = As.reverse ++ rest) (hrest : Nat.ble ((rest.map fun v => v.category).sum) 8 = true)
    (hct : CT X y bytes maxL ret' rm 1 (As) σ post') (kk : ∀ (r : Int) (σ' : Mem), inR r → post' r σ' → ok X R own cc nL ret rk post (pc + 3) L (vI r :: rest) σ') : ok X R own cc nL ret rk post pc L st0 σ :=
  ok_callN hd hm hlk hdes hn hR hst hrest hct (fun r σ' hr hp => kk r σ' hr hp)
theorem ok_callNl {y : MethodName} {bytes : ByteArray} {maxL n idx : Nat} {ret' : Option FieldType} {rm : Room} {As rest : List Value} {post' : Int → Mem → Prop}
    (hd : decode cc pc = .ok (.invokestatic idx, 3)) (hm : MS y bytes maxL ret') (hlk : ∀ s : State, xK X s → va_Nw (.methodLinkNest own idx y RX11) s) (hdes : xdes y n) (hn : As.length = n)
    (hR : rm.cells = 0 ∧ rm.slots = 0 ∧ Nat.ble (rm.frames + 1) R.frames = true ∧ Nat.ble (8 + (maxL + 11) + rm.locals) R.locals = true) (hst : st0 = As.reverse ++ rest) (hrest : Nat.ble ((rest.map fun v => v.category).sum) 8 = true)
    (hct : CT X y bytes maxL ret' rm 2 (As) σ post') (kk : ∀ (r : Int) (σ' : Mem), inL r → post' r σ' → ok X R own cc nL ret rk post (pc + 3) L (vL r :: rest) σ') : ok X R own cc nL ret rk post pc L st0 σ :=
  ok_callN hd hm hlk hdes hn hR hst hrest hct (fun r σ' hr hp => kk r σ' hr hp)
end OK2
