/-! THE SMALL PICTURE: the cells 1 to 15 alone, as they stand when Now is made -/
def inS (j : Nat) : Bool := Nat.ble 1 j && Nat.ble j 15
def zxA (X : XE) : Nat → Prop := fun q => X.1 + 1 ≤ q ∧ q < X.1 + 16
theorem inA {X : XE} {j : Nat} (h : inS j = true) : zxA X (xad X j) := by
  simp only [inS, Bool.and_eq_true, Nat.ble_eq] at h
  unfold zxA xad
  omega
def zxcells (X : XE) (σ : Mem) (H : Heap) : Prop := ∀ j, inS j = true → xat X σ j H
def zxPI (X : XE) (σ : Mem) (U : State) : Prop := xK X U ∧ zxcells X σ U.heap ∧ WF σ
def zxQ (X : XE) (rk : Nat) (post : Int → Mem → Prop) : Array Value → State → Outcome → State → Prop := fun _ st oc t =>
  ∃ (r : Int) (σ' : Mem), oc = .returned (rv rk r) ∧ rok rk r ∧ post r σ' ∧ WF σ' ∧ zxcells X σ' t.heap ∧ t.heap.size = st.heap.size ∧ ∀ q : Nat, ¬ zxA X q → t.heap[q]? = st.heap[q]?
def zxC (own : String) (cc : ByteArray) (nL : Nat) (ret : Option FieldType) (X : XE) (p : Program) (s : State) (m : MethodId) (args : Array Value) (meth : Method) (c : Code) : Prop :=
  p.tables.exec = Jvm.exec ∧ c.code = cc ∧ meth.sig.returnType = ret ∧ meth.locks = false ∧ c.maxLocals = nL ∧ s.vm.findClass own = some m.cls ∧ (∀ w ∈ BIG, w.before args s = true) ∧ xK X s
def zxH (X : XE) (σ : Mem) (s : State) (H : Heap) (locs : List Loc) : Prop := zxcells X σ H ∧ H.size = s.heap.size ∧ (∀ q : Nat, ¬ zxA X q → H[q]? = s.heap[q]?) ∧ (∀ l ∈ locs, zxA X l.base) ∧ WF σ
/-- from this place of the method's code, with these locals, stack and contents, the machine comes to the method's end with 'post' -/
def zok (X : XE) (R : Room) (own : String) (cc : ByteArray) (nL : Nat) (ret : Option FieldType) (rk : Nat) (post : Int → Mem → Prop) (pc : Nat) (L : List (Nat × Value)) (S : List Value) (σ : Mem) : Prop :=
  ∀ (p : Program) (l : Launch) (e : Env) (s : State) (m : MethodId) (args : Array Value) (below : List Frame) (meth : Method) (c : Code) (H : Heap) (locs : List Loc) (ls : Array Slot),
    zxC own cc nL ret X p s m args meth c → zxH X σ s H locs → lv_has ls nL L →
    W p l e R s m args below meth c H locs 0 0 (MQ below (zxQ X rk post) args s 0 0 (zxA X)) (F0 m pc ls S)
def zCT (X : XE) (y : MethodName) (cc : ByteArray) (nL : Nat) (ret : Option FieldType) (rm : Room) (rk : Nat) (args : List Value) (σ : Mem) (post : Int → Mem → Prop) : Prop :=
  ∀ l : Launch, Met l y (Cond.code y cc nL ret :: BIG) rm (va_Pc args (fun U => zxPI X σ U)) (zxQ X rk post) 0 0 (zxA X)
theorem zct_of {X : XE} {own : String} {y : MethodName} {cc : ByteArray} {nL : Nat} {ret : Option FieldType} {rm : Room} {rk : Nat} {args : List Value} {σ : Mem} {post : Int → Mem → Prop} {L : List (Nat × Value)} (hy : plainName y.cls = true) (ho : y.cls = own) (hn : (lg_sl args).length ≤ nL) (hL : lv_args 0 args = L)
    (h : zok X rm own cc nL ret rk post 0 L [] σ) : zCT X y cc nL ret rm rk args σ post := by
  intro l
  refine Met.ofW (cc := cc) (maxL := nL) (ret := ret) hy rfl ?_
  intro p e s m as below meth c s₁ B hml hv
  obtain ⟨rfl, hK, hC, hW⟩ := hv
  have hts := atoms_spec (ws := Cond.code y cc nL ret :: BIG) B.pre
  have hl := lv_entry args hn
  rw [lg_entry_eq]
  subst hL
  exact h p l e s m _ below meth c s.heap [] _ ⟨B.exec, B.bytes, B.returns, B.notSynchronized, hml, ho ▸ findClass_of_methodNamed B.named, fun w hw => hts w (List.mem_cons_of_mem _ hw), hK⟩ ⟨hC, rfl, fun _ _ => rfl, (fun _ hq => absurd hq List.not_mem_nil), hW⟩ hl
section OK
variable {X : XE} {R : Room} {own : String} {cc : ByteArray} {nL : Nat} {ret : Option FieldType} {rk : Nat} {post : Int → Mem → Prop} {pc : Nat} {L : List (Nat × Value)} {S st0 : List Value} {σ : Mem} {H : Heap}
theorem zok_wf (k : WF σ → zok X R own cc nL ret rk post pc L S σ) : zok X R own cc nL ret rk post pc L S σ :=
  fun p l e s m args below meth c H locs ls C hH hl => k hH.2.2.2.2 p l e s m args below meth c H locs ls C hH hl
/-- fewer locals are known -/
theorem zok_sub {L' : List (Nat × Value)} (ks : List Nat) (h : lv_pick L ks = L') (k : zok X R own cc nL ret rk post pc L' S σ) : zok X R own cc nL ret rk post pc L S σ :=
  fun p l e s m args below meth c H locs ls C hH hl => k p l e s m args below meth c H locs ls C hH (lv_sub hl ks h)
/-- a step that changes the stack alone -/
theorem zok_go {pc' : Nat} {S' : List Value} (h : ∀ (p : Program) (l : Launch) (e : Env) (s : State) (m : MethodId) (args : Array Value) (below : List Frame) (meth : Method) (c : Code) (H : Heap) (locs : List Loc) (ls : Array Slot) (Q : State → Prop), zxC own cc nL ret X p s m args meth c → zxH X σ s H locs → lv_has ls nL L → W p l e R s m args below meth c H locs 0 0 Q (F0 m pc' ls S') → W p l e R s m args below meth c H locs 0 0 Q (F0 m pc ls S))
    (k : zok X R own cc nL ret rk post pc' L S' σ) : zok X R own cc nL ret rk post pc L S σ :=
  fun p l e s m args below meth c H locs ls C hH hl => h p l e s m args below meth c H locs ls _ C hH hl (k p l e s m args below meth c H locs ls C hH hl)
theorem zok_aload_n {n : Fin 4} {i a : Nat} (j : Nat) (hd : decode cc pc = .ok (.aload_n n, 1)) (hi : (n : Nat) = i) (hl : L[j]? = some (i, .ref a)) (k : zok X R own cc nL ret rk post (pc + 1) L (.ref a :: S) σ) : zok X R own cc nL ret rk post pc L S σ :=
  zok_go (fun p l e s m args below meth c H locs ls Q C hH h w => lv_aload_n C.1 C.2.1 hd hi (lv_at h j hl) w) k
theorem zok_bipush {n : Int} (hd : decode cc pc = .ok (.bipush n, 2)) (hn : (decide (-128 ≤ n) && decide (n ≤ 127)) = true) (k : zok X R own cc nL ret rk post (pc + 2) L (vI n :: S) σ) : zok X R own cc nL ret rk post pc L S σ :=
  zok_go (fun p l e s m args below meth c H locs ls Q C hH hl w => lv_bipush C.1 C.2.1 hd (q_bip hn) w) k
theorem zok_goto {off : Int} {tgt : Nat} (hd : decode cc pc = .ok (.goto off, 3)) (ht : (pc : Int) + off = (tgt : Int)) (k : zok X R own cc nL ret rk post tgt L S σ) : zok X R own cc nL ret rk post pc L S σ :=
  zok_go (fun p l e s m args below meth c H locs ls Q C hH hl w => lv_goto C.1 C.2.1 hd ht w) k
theorem zok_iconst {n : Int} (hd : decode cc pc = .ok (.iconst n, 1)) (k : zok X R own cc nL ret rk post (pc + 1) L (vI n :: S) σ) : zok X R own cc nL ret rk post pc L S σ :=
  zok_go (fun p l e s m args below meth c H locs ls Q C hH hl w => lv_iconst C.1 C.2.1 hd rfl w) k
theorem zok_icmp_ge {x y : Int} {off : Int} {tgt : Nat} (hd : decode cc pc = .ok (.if_icmp .ge off, 3)) (ht : (pc : Int) + off = (tgt : Int)) (hx : inR x) (hy : inR y) (kt : ¬ x < y → zok X R own cc nL ret rk post tgt L S σ) (kf : x < y → zok X R own cc nL ret rk post (pc + 3) L S σ) : zok X R own cc nL ret rk post pc L (vI y :: vI x :: S) σ :=
  fun p l e s m args below meth c H locs ls C hH hl => lv_icmp_ge C.1 C.2.1 hd ht (fun h => kt (Int.not_lt.mpr ((q_le hy hx).mp h)) p l e s m args below meth c H locs ls C hH hl) (fun h => kf (Int.not_le.mp (fun q => h ((q_le hy hx).mpr q))) p l e s m args below meth c H locs ls C hH hl)
theorem zok_icmp_gt {x y : Int} {off : Int} {tgt : Nat} (hd : decode cc pc = .ok (.if_icmp .gt off, 3)) (ht : (pc : Int) + off = (tgt : Int)) (hx : inR x) (hy : inR y) (kt : y < x → zok X R own cc nL ret rk post tgt L S σ) (kf : ¬ y < x → zok X R own cc nL ret rk post (pc + 3) L S σ) : zok X R own cc nL ret rk post pc L (vI y :: vI x :: S) σ :=
  fun p l e s m args below meth c H locs ls C hH hl => lv_icmp_gt C.1 C.2.1 hd ht (fun h => kt ((q_lt hy hx).mp h) p l e s m args below meth c H locs ls C hH hl) (fun h => kf (fun q => h ((q_lt hy hx).mpr q)) p l e s m args below meth c H locs ls C hH hl)
theorem zok_icmp_le {x y : Int} {off : Int} {tgt : Nat} (hd : decode cc pc = .ok (.if_icmp .le off, 3)) (ht : (pc : Int) + off = (tgt : Int)) (hx : inR x) (hy : inR y) (kt : ¬ y < x → zok X R own cc nL ret rk post tgt L S σ) (kf : y < x → zok X R own cc nL ret rk post (pc + 3) L S σ) : zok X R own cc nL ret rk post pc L (vI y :: vI x :: S) σ :=
  fun p l e s m args below meth c H locs ls C hH hl => lv_icmp_le C.1 C.2.1 hd ht (fun h => kt (Int.not_lt.mpr ((q_le hx hy).mp h)) p l e s m args below meth c H locs ls C hH hl) (fun h => kf (Int.not_le.mp (fun q => h ((q_le hx hy).mpr q))) p l e s m args below meth c H locs ls C hH hl)
theorem zok_icmp_lt {x y : Int} {off : Int} {tgt : Nat} (hd : decode cc pc = .ok (.if_icmp .lt off, 3)) (ht : (pc : Int) + off = (tgt : Int)) (hx : inR x) (hy : inR y) (kt : x < y → zok X R own cc nL ret rk post tgt L S σ) (kf : ¬ x < y → zok X R own cc nL ret rk post (pc + 3) L S σ) : zok X R own cc nL ret rk post pc L (vI y :: vI x :: S) σ :=
  fun p l e s m args below meth c H locs ls C hH hl => lv_icmp_lt C.1 C.2.1 hd ht (fun h => kt ((q_lt hx hy).mp h) p l e s m args below meth c H locs ls C hH hl) (fun h => kf (fun q => h ((q_lt hx hy).mpr q)) p l e s m args below meth c H locs ls C hH hl)
theorem zok_icmp_ne {x y : Int} {off : Int} {tgt : Nat} (hd : decode cc pc = .ok (.if_icmp .ne off, 3)) (ht : (pc : Int) + off = (tgt : Int)) (hx : inR x) (hy : inR y) (kt : ¬ x = y → zok X R own cc nL ret rk post tgt L S σ) (kf : x = y → zok X R own cc nL ret rk post (pc + 3) L S σ) : zok X R own cc nL ret rk post pc L (vI y :: vI x :: S) σ :=
  fun p l e s m args below meth c H locs ls C hH hl => lv_icmp_ne C.1 C.2.1 hd ht (fun h => kt (fun q => h ((q_eq hx hy).mpr q)) p l e s m args below meth c H locs ls C hH hl) (fun h => kf ((q_eq hx hy).mp h) p l e s m args below meth c H locs ls C hH hl)
theorem zok_if_eq {x : Int} {off : Int} {tgt : Nat} (hd : decode cc pc = .ok (.ifCond .eq off, 3)) (ht : (pc : Int) + off = (tgt : Int)) (hx : inR x) (kt : x = 0 → zok X R own cc nL ret rk post tgt L S σ) (kf : ¬ x = 0 → zok X R own cc nL ret rk post (pc + 3) L S σ) : zok X R own cc nL ret rk post pc L (vI x :: S) σ :=
  fun p l e s m args below meth c H locs ls C hH hl => lv_if_eq C.1 C.2.1 hd ht (fun h => kt ((q_eq hx (r_lit (x := 0) rfl)).mp h) p l e s m args below meth c H locs ls C hH hl) (fun h => kf (fun q => h ((q_eq hx (r_lit (x := 0) rfl)).mpr q)) p l e s m args below meth c H locs ls C hH hl)
theorem zok_if_ge {x : Int} {off : Int} {tgt : Nat} (hd : decode cc pc = .ok (.ifCond .ge off, 3)) (ht : (pc : Int) + off = (tgt : Int)) (hx : inR x) (kt : ¬ x < 0 → zok X R own cc nL ret rk post tgt L S σ) (kf : x < 0 → zok X R own cc nL ret rk post (pc + 3) L S σ) : zok X R own cc nL ret rk post pc L (vI x :: S) σ :=
  fun p l e s m args below meth c H locs ls C hH hl => lv_if_ge C.1 C.2.1 hd ht (fun h => kt (Int.not_lt.mpr ((q_le (r_lit (x := 0) rfl) hx).mp h)) p l e s m args below meth c H locs ls C hH hl) (fun h => kf (Int.not_le.mp (fun q => h ((q_le (r_lit (x := 0) rfl) hx).mpr q))) p l e s m args below meth c H locs ls C hH hl)
theorem zok_if_lt {x : Int} {off : Int} {tgt : Nat} (hd : decode cc pc = .ok (.ifCond .lt off, 3)) (ht : (pc : Int) + off = (tgt : Int)) (hx : inR x) (kt : x < 0 → zok X R own cc nL ret rk post tgt L S σ) (kf : ¬ x < 0 → zok X R own cc nL ret rk post (pc + 3) L S σ) : zok X R own cc nL ret rk post pc L (vI x :: S) σ :=
  fun p l e s m args below meth c H locs ls C hH hl => lv_if_lt C.1 C.2.1 hd ht (fun h => kt ((q_lt hx (r_lit (x := 0) rfl)).mp h) p l e s m args below meth c H locs ls C hH hl) (fun h => kf (fun q => h ((q_lt hx (r_lit (x := 0) rfl)).mpr q)) p l e s m args below meth c H locs ls C hH hl)
theorem zok_iinc {i : Nat} {n x : Int} {L' : List (Nat × Value)} (j : Nat) (hd : decode cc pc = .ok (.iinc i n, 3)) (hj : L[j]? = some (i, vI x)) (hn : Nat.blt i nL = true) (hl : (i, vI (x + n)) :: L.filter (fun q => !(q.1 == i) && !(q.1 + 1 == i && q.2.category == 2)) = L') (k : zok X R own cc nL ret rk post (pc + 3) L' S σ) : zok X R own cc nL ret rk post pc L S σ :=
  fun p l e s m args below meth c H locs ls C hH h => lv_iinc (v := Int32.ofInt (x + n)) C.1 C.2.1 hd h hj (Int32.ofInt_add x n).symm (blt_lt hn) hl (fun ls' h' => k p l e s m args below meth c H locs ls' C hH h')
theorem zok_iload {i : Nat} {x : Int} (j : Nat) (hd : decode cc pc = .ok (.iload i, 2)) (hl : L[j]? = some (i, vI x)) (k : zok X R own cc nL ret rk post (pc + 2) L (vI x :: S) σ) : zok X R own cc nL ret rk post pc L S σ :=
  zok_go (fun p l e s m args below meth c H locs ls Q C hH h w => lv_iload C.1 C.2.1 hd (lv_at h j hl) w) k
theorem zok_iload_n {n : Fin 4} {i : Nat} {x : Int} (j : Nat) (hd : decode cc pc = .ok (.iload_n n, 1)) (hi : (n : Nat) = i) (hl : L[j]? = some (i, vI x)) (k : zok X R own cc nL ret rk post (pc + 1) L (vI x :: S) σ) : zok X R own cc nL ret rk post pc L S σ :=
  zok_go (fun p l e s m args below meth c H locs ls Q C hH h w => lv_iload_n C.1 C.2.1 hd hi (lv_at h j hl) w) k
theorem zok_istore {i : Nat} {x : Int} {L' : List (Nat × Value)} (hd : decode cc pc = .ok (.istore i, 2)) (hn : Nat.blt i nL = true) (hl : (i, vI x) :: L.filter (fun q => !(q.1 == i) && !(q.1 + 1 == i && q.2.category == 2)) = L') (k : zok X R own cc nL ret rk post (pc + 2) L' S σ) : zok X R own cc nL ret rk post pc L (vI x :: S) σ :=
  fun p l e s m args below meth c H locs ls C hH h => lv_istore C.1 C.2.1 hd h (blt_lt hn) hl (fun ls' h' => k p l e s m args below meth c H locs ls' C hH h')
theorem zok_istore_n {n : Fin 4} {i : Nat} {x : Int} {L' : List (Nat × Value)} (hd : decode cc pc = .ok (.istore_n n, 1)) (hi : (n : Nat) = i) (hn : Nat.blt i nL = true) (hl : (i, vI x) :: L.filter (fun q => !(q.1 == i) && !(q.1 + 1 == i && q.2.category == 2)) = L') (k : zok X R own cc nL ret rk post (pc + 1) L' S σ) : zok X R own cc nL ret rk post pc L (vI x :: S) σ :=
  fun p l e s m args below meth c H locs ls C hH h => lv_istore_n C.1 C.2.1 hd hi h (blt_lt hn) hl (fun ls' h' => k p l e s m args below meth c H locs ls' C hH h')
theorem zok_isub {x y : Int} (hd : decode cc pc = .ok (.isub, 1)) (k : zok X R own cc nL ret rk post (pc + 1) L (vI (x - y) :: S) σ) : zok X R own cc nL ret rk post pc L (vI y :: vI x :: S) σ :=
  zok_go (fun p l e s m args below meth c H locs ls Q C hH hl w => lv_isub C.1 C.2.1 hd (by rw [← Int32.ofInt_sub]; exact w)) k
theorem zok_sipush {n : Int} (hd : decode cc pc = .ok (.sipush n, 3)) (hn : (decide (-32768 ≤ n) && decide (n ≤ 32767)) = true) (k : zok X R own cc nL ret rk post (pc + 3) L (vI n :: S) σ) : zok X R own cc nL ret rk post pc L S σ :=
  zok_go (fun p l e s m args below meth c H locs ls Q C hH hl w => lv_sipush C.1 C.2.1 hd (q_sip hn) w) k
/-- an object's cell -/
theorem zx_obj {j ci N : Nat} {rs : List (Option Nat)} (hC : zxcells X σ H) (hj : inS j = true) (hs : xsh j = (ci, N, rs)) (hk : ci < 20) : t_OB (xad X j) (X.2.1.1 ci) N (X.2.1.2 ci) H (xval X σ j) := by
  have h := hC j hj
  unfold xat at h
  rw [hs, if_pos hk] at h
  exact h
theorem zx_arr {j ci N : Nat} {rs : List (Option Nat)} (hC : zxcells X σ H) (hj : inS j = true) (hs : xsh j = (ci, N, rs)) (hk : ¬ ci < 20) : H[xad X j]? = some (arrV (X.2.2.1 ci) N (xval X σ j)) := by
  have h := hC j hj
  unfold xat at h
  rw [hs, if_neg hk] at h
  exact h
theorem zx_put {j k ci N : Nat} {v : Int} {rs : List (Option Nat)} {s : State} {H1 : Heap} {locs : List Loc} {q : Nat} (hs : xsh j = (ci, N, rs)) (hj : inS j = true) (hr : rs.getD k none = none) (hv : inR v) (hH : zxH X σ s H locs) (hc : xat X (mset σ j k v) j H1) (hz : H1.size = H.size) (ho : ∀ q : Nat, q ≠ xad X j → H1[q]? = H[q]?) : zxH X (mset σ j k v) s H1 (locs ++ [⟨xad X j, q⟩]) := by
  obtain ⟨h1, h2, h3, h4, h5⟩ := hH
  have hA : zxA X (xad X j) := inA hj
  refine ⟨fun i hi => ?_, hz.trans h2, fun q hq => (ho q (fun e => hq (by rw [e]; exact hA))).trans (h3 q hq), fun l hl => ?_, mset_wf h5 hv⟩
  · by_cases e : i = j
    · rw [e]; exact hc
    · have h := h1 i hi
      have ne : xad X i ≠ xad X j := fun q => e (Nat.add_left_cancel q)
      unfold xat at h ⊢
      rw [x_other e]
      by_cases hk : (xsh i).1 < 20
      · rw [if_pos hk] at h ⊢
        exact h.kept (ho _ ne)
      · rw [if_neg hk] at h ⊢
        rw [ho _ ne]
        exact h
  · rcases List.mem_append.mp hl with h | h
    · exact h4 l h
    · rw [List.mem_singleton.mp h]; exact hA
theorem zok_getI {j k ci N idx : Nat} {rs : List (Option Nat)} (hd : decode cc pc = .ok (.getfield idx, 3)) (hf : FL own idx ci N k) (hs : xsh j = (ci, N, rs)) (hj : inS j = true) (hk : Nat.blt ci 20 = true) (hr : rs.getD k none = none) (kk : zok X R own cc nL ret rk post (pc + 3) L (vI (σ j k) :: S) σ) : zok X R own cc nL ret rk post pc L (.ref (xad X j) :: S) σ := by
  refine zok_go (fun p l e s m args below meth c H locs ls Q C hH hl w => ?_) kk
  obtain ⟨hx, hb, hre, hlk, hml, hown, hts, hK⟩ := C
  obtain ⟨C0, T, hc, hkN, hin, hlink, hdecl⟩ := hf
  obtain ⟨cell, q1, q2, q3, q4⟩ := zx_obj hH.1 hj hs (blt_lt hk)
  obtain ⟨hSl, hfc, kC, hkC, hkind⟩ := hK.1.1 ci _ hc
  obtain ⟨cf, kf, fi, f, hi, hsl⟩ := hSl k hkN
  refine W.getf hx hb hown (hts _ hlink) (by rw [← hdecl]; exact hi) (u_facts hfc hkC (u_lays hts hin hkN) hi).1 q1 (by rw [q3]; exact fun h => by cases h) (v := vI (σ j k)) ?_ rfl rfl hd w
  rw [hsl, q4 k hkN, x_valI hs hr]
theorem zok_getR {j k ci N idx r : Nat} {rs : List (Option Nat)} (hd : decode cc pc = .ok (.getfield idx, 3)) (hf : FL own idx ci N k) (hs : xsh j = (ci, N, rs)) (hj : inS j = true) (hk : Nat.blt ci 20 = true) (hr : rs.getD k none = some r) (kk : zok X R own cc nL ret rk post (pc + 3) L (.ref (xad X r) :: S) σ) : zok X R own cc nL ret rk post pc L (.ref (xad X j) :: S) σ := by
  refine zok_go (fun p l e s m args below meth c H locs ls Q C hH hl w => ?_) kk
  obtain ⟨hx, hb, hre, hlk, hml, hown, hts, hK⟩ := C
  obtain ⟨C0, T, hc, hkN, hin, hlink, hdecl⟩ := hf
  obtain ⟨cell, q1, q2, q3, q4⟩ := zx_obj hH.1 hj hs (blt_lt hk)
  obtain ⟨hSl, hfc, kC, hkC, hkind⟩ := hK.1.1 ci _ hc
  obtain ⟨cf, kf, fi, f, hi, hsl⟩ := hSl k hkN
  refine W.getf hx hb hown (hts _ hlink) (by rw [← hdecl]; exact hi) (u_facts hfc hkC (u_lays hts hin hkN) hi).1 q1 (by rw [q3]; exact fun h => by cases h) (v := .ref (xad X r)) ?_ rfl rfl hd w
  rw [hsl, q4 k hkN, x_valR hs hr]
theorem zok_iald {j N : Nat} {i : Int} (hd : decode cc pc = .ok (.iaload, 1)) (hs : xsh j = (20, N, [])) (hj : inS j = true) (hN : Nat.blt N 2147483648 = true) (h0 : 0 ≤ i) (h1 : i < N) (kk : zok X R own cc nL ret rk post (pc + 1) L (vI (σ j i.toNat) :: S) σ) : zok X R own cc nL ret rk post pc L (vI i :: .ref (xad X j) :: S) σ := by
  refine zok_go (fun p l e s m args below meth c H locs ls Q C hH hl w => ?_) kk
  obtain ⟨hi, hc⟩ := q_in (n := N) (blt_lt hN) h0 h1
  have hlt : i.toNat < N := by omega
  refine W.iald (v := vI (σ j i.toNat)) C.1 C.2.1 (zx_arr hH.1 hj hs (by decide)) ((C.2.2.2.2.2.2.2.1.2 0 _ rfl).1 N _) (fun q => by cases q) (by rw [arrV_size]; exact hi) ?_ rfl rfl hd w
  rw [hc, arrV_read _ _ hlt, x_valI hs (by simp)]
theorem zok_iast {j N : Nat} {i v : Int} (hd : decode cc pc = .ok (.iastore, 1)) (hs : xsh j = (20, N, [])) (hj : inS j = true) (hN : Nat.blt N 2147483648 = true) (h0 : 0 ≤ i) (h1 : i < N) (hv : inR v) (kk : zok X R own cc nL ret rk post (pc + 1) L S (mset σ j i.toNat v)) : zok X R own cc nL ret rk post pc L (vI v :: vI i :: .ref (xad X j) :: S) σ := by
  intro p l e s m args below meth c H locs ls C hH hl
  obtain ⟨hi, hc⟩ := q_in (n := N) (blt_lt hN) h0 h1
  refine W.iast C.1 C.2.1 (zx_arr hH.1 hj hs (by decide)) ((C.2.2.2.2.2.2.2.1.2 0 _ rfl).1 N _) (fun q => by cases q) (by rw [arrV_size]; exact hi) rfl rfl hd fun H1 e1 z oq => ?_
  refine kk p l e s m args below meth c H1 _ ls C (zx_put hs hj (by simp) hv hH ?_ z oq) hl
  refine x_arrI hs (by decide) ?_
  rw [e1, arrV_store, hc]
  congr 2
  funext n
  exact x_set hs (by simp) n
theorem zok_iret {v : Int} {ty : FieldType} (hd : decode cc pc = .ok (.ireturn, 1)) (hr : ret = some ty) (hk : rk = 1) (hn : narrow ty (vI v) = vI v) (hv : inR v) (h : post v σ) : zok X R own cc nL ret rk post pc L [vI v] σ := by
  intro p l e s m args below meth c H locs ls C hH hl
  refine W.zret C.1 C.2.1 (C.2.2.1.trans hr) hn (fun t ht hW => ⟨v, σ, by rw [hk]; rfl, by rw [hk]; exact hv, h, hH.2.2.2.2, by rw [ht]; exact hH.1, by rw [ht]; exact hH.2.1, fun q hq => by rw [ht]; exact hH.2.2.1 q hq⟩) hH.2.2.2.1 hd C.2.2.2.1
theorem zok_vret (hd : decode cc pc = .ok (.return_, 1)) (hr : ret = none) (hk : rk = 0) (h : post 0 σ) : zok X R own cc nL ret rk post pc L [] σ := by
  intro p l e s m args below meth c H locs ls C hH hl
  refine W.vret C.1 C.2.1 (C.2.2.1.trans hr) (fun t ht hW => ⟨0, σ, by rw [hk]; rfl, by rw [hk]; rfl, h, hH.2.2.2.2, by rw [ht]; exact hH.1, by rw [ht]; exact hH.2.1, fun q hq => by rw [ht]; exact hH.2.2.1 q hq⟩) hH.2.2.2.1 hd C.2.2.2.1
theorem zx_run {s : State} {m : MethodId} {args : Array Value} {below : List Frame} {meth : Method} {c : Code} {p : Program} {l : Launch} {e : Env} {locs : List Loc} {ls : Array Slot} {rest : List Value} {rk' : Nat} {post' : Int → Mem → Prop} {as' : Array Value} {Q : State → Prop}
    (hH : zxH X σ s H locs) (hr : va_Run p l e R s m args below meth c H locs 0 0 0 0 (F0 m pc ls st0) rest (zxQ X rk' post' as') (zxA X))
    (kk : ∀ (r : Int) (σ' : Mem) (H1 : Heap) (locs1 : List Loc), rok rk' r → post' r σ' → zxH X σ' s H1 locs1 → W p l e R s m args below meth c H1 locs1 0 0 Q (F0 m (pc + 3) ls ((rv rk' r).toList ++ rest))) : W p l e R s m args below meth c H locs 0 0 Q (F0 m pc ls st0) := by
  intro T hT X0
  obtain ⟨v, st₀, t, T', L1, h0, X', hL, e1, e2, ⟨r, σ', hv, hrk, hp, hW, hC, hz, hk⟩, st⟩ := hr T hT X0
  cases hv
  rw [h0] at hz hk
  obtain ⟨g1, g2, g3, g4, g5⟩ := hH
  obtain ⟨t2, a1, b1⟩ := kk r σ' T'.heap (locs ++ L1) hrk hp ⟨by rw [e1]; exact hC, by rw [e1]; exact hz.trans g2, fun q hq => by rw [e1, hk q hq]; exact g3 q hq, fun q hq => by
      rcases List.mem_append.mp hq with h | h
      · exact g4 q h
      · exact hL q h, hW⟩ T' rfl X'
  exact ⟨t2, st t2 a1, b1⟩
theorem zx_blind {as : List Value} : FrameBlind (va_Pc as (fun U => zxPI X σ U)) := fun a U g mk q => ⟨q.1, xK.same rfl q.2.1, q.2.2⟩
theorem zx_pre {as : List Value} {s : State} {locs : List Loc} (hK : xK X s) (hH : zxH X σ s H locs) (U : State) (hU : U.heap = H) (hW : s.WarmedH U.vm) : va_Pc as (fun U => zxPI X σ U) as.toArray U :=
  ⟨rfl, xK.moved hW hK, by rw [hU]; exact hH.1, hH.2.2.2.2⟩
theorem zok_callV {y : MethodName} {bytes : ByteArray} {maxL j ci N n idx : Nat} {ret' : Option FieldType} {rm : Room} {rk' : Nat} {C0 : String} {T0 : u_T} {As rest : List Value} {rs : List (Option Nat)} {post' : Int → Mem → Prop}
    (hd : decode cc pc = .ok (.invokevirtual idx, 3)) (hm : ME C0 y bytes maxL ret') (hlk : Cond.methodLink own idx y ∈ BIG) (hcl : vwCl[ci]? = some (C0, T0, N)) (hs : xsh j = (ci, N, rs)) (hj : inS j = true) (hk : Nat.blt ci 20 = true) (hdes : xdes y n) (hn : As.length = n)
    (hR : rm.cells = 0 ∧ rm.slots = 0 ∧ Nat.ble (rm.frames + 1) R.frames = true ∧ Nat.ble (8 + (maxL + 11) + rm.locals) R.locals = true) (hst : st0 = As.reverse ++ .ref (xad X j) :: rest) (hrest : Nat.ble ((rest.map fun v => v.category).sum) 8 = true)
    (hct : zCT X y bytes maxL ret' rm rk' (.ref (xad X j) :: As) σ post') (kk : ∀ (r : Int) (σ' : Mem), rok rk' r → post' r σ' → zok X R own cc nL ret rk post (pc + 3) L ((rv rk' r).toList ++ rest) σ') : zok X R own cc nL ret rk post pc L st0 σ := by
  intro p l e s m args below meth c H locs ls C hH hl
  obtain ⟨hx, hb, hre, hlo, hml, hown, hts, hK⟩ := id C
  obtain ⟨hy, h1, h2, h3, h4⟩ := hm
  obtain ⟨cell, q1, q2, q3, q4⟩ := zx_obj hH.1 hj hs (blt_lt hk)
  obtain ⟨hSl, hfc, -⟩ := hK.1.1 ci _ hcl
  have hG : GoodIn BIG (Cond.code y bytes maxL ret' :: BIG) := x_goods (fun _ h => h) h4
  have cb : CallB R s args own idx y bytes maxL ret' (Cond.code y bytes maxL ret' :: BIG) rm 0 0 n := callB_of n hts hG rfl hR.1 hR.2.1 (by rw [hy]; exact hts _ h3) (hts _ hlk) hdes ⟨Nat.le_of_ble_eq_true hR.2.2.1, Nat.le_of_ble_eq_true hR.2.2.2⟩
  refine zx_run hH (va_runV (C := C0) (b := xad X j) (As := As) (rest := rest) ⟨hx, hb, hml, hown, hts⟩ (hct l) ⟨cb, hts _ h1, hts _ h2⟩ ⟨zx_blind, ⟨cell, q1, by rw [q3]; rfl, by rw [q2]; exact hfc⟩, fun U hU hW => zx_pre hK hH U hU hW⟩ rfl hn (by show ls.size = nL; exact hl.1) hst (by show 2 * 0 + _ ≤ 8; have := Nat.le_of_ble_eq_true hrest; omega) hd ⟨Nat.zero_le _, Nat.zero_le _⟩) ?_
  intro r σ' H1 locs1 hrk hp hH1
  exact kk r σ' hrk hp p l e s m args below meth c H1 locs1 ls C hH1 hl
theorem zok_callS {y : MethodName} {bytes : ByteArray} {maxL n idx : Nat} {ret' : Option FieldType} {rm : Room} {rk' : Nat} {As rest : List Value} {post' : Int → Mem → Prop}
    (hd : decode cc pc = .ok (.invokestatic idx, 3)) (hm : MS y bytes maxL ret') (hlk : Cond.methodLink own idx y ∈ BIG) (hdes : xdes y n) (hn : As.length = n)
    (hR : rm.cells = 0 ∧ rm.slots = 0 ∧ Nat.ble (rm.frames + 1) R.frames = true ∧ Nat.ble (8 + (maxL + 11) + rm.locals) R.locals = true) (hst : st0 = As.reverse ++ rest) (hrest : Nat.ble ((rest.map fun v => v.category).sum) 8 = true)
    (hct : zCT X y bytes maxL ret' rm rk' As σ post') (kk : ∀ (r : Int) (σ' : Mem), rok rk' r → post' r σ' → zok X R own cc nL ret rk post (pc + 3) L ((rv rk' r).toList ++ rest) σ') : zok X R own cc nL ret rk post pc L st0 σ := by
  intro p l e s m args below meth c H locs ls C hH hl
  obtain ⟨hx, hb, hre, hlo, hml, hown, hts, hK⟩ := id C
  obtain ⟨h1, h3, h4⟩ := hm
  have hG : GoodIn BIG (Cond.code y bytes maxL ret' :: BIG) := x_goods (fun _ h => h) h4
  have cb : CallB R s args own idx y bytes maxL ret' (Cond.code y bytes maxL ret' :: BIG) rm 0 0 n := callB_of n hts hG rfl hR.1 hR.2.1 (hts _ h3) (hts _ hlk) hdes ⟨Nat.le_of_ble_eq_true hR.2.2.1, Nat.le_of_ble_eq_true hR.2.2.2⟩
  refine zx_run hH (va_runS (As := As) (rest := rest) ⟨hx, hb, hml, hown, hts⟩ (hct l) ⟨cb, hts _ h1⟩ ⟨zx_blind, fun U hU hW => zx_pre hK hH U hU hW⟩ rfl hn (by show ls.size = nL; exact hl.1) hst (by show 2 * 0 + _ ≤ 8; have := Nat.le_of_ble_eq_true hrest; omega) hd ⟨Nat.zero_le _, Nat.zero_le _⟩) ?_
  intro r σ' H1 locs1 hrk hp hH1
  exact kk r σ' hrk hp p l e s m args below meth c H1 locs1 ls C hH1 hl
theorem zok_callVi {y : MethodName} {bytes : ByteArray} {maxL j ci N n idx : Nat} {ret' : Option FieldType} {rm : Room} {C0 : String} {T0 : u_T} {As rest : List Value} {rs : List (Option Nat)} {post' : Int → Mem → Prop}
    (hd : decode cc pc = .ok (.invokevirtual idx, 3)) (hm : ME C0 y bytes maxL ret') (hlk : Cond.methodLink own idx y ∈ BIG) (hcl : vwCl[ci]? = some (C0, T0, N)) (hs : xsh j = (ci, N, rs)) (hj : inS j = true) (hk : Nat.blt ci 20 = true) (hdes : xdes y n) (hn : As.length = n)
    (hR : rm.cells = 0 ∧ rm.slots = 0 ∧ Nat.ble (rm.frames + 1) R.frames = true ∧ Nat.ble (8 + (maxL + 11) + rm.locals) R.locals = true) (hst : st0 = As.reverse ++ .ref (xad X j) :: rest) (hrest : Nat.ble ((rest.map fun v => v.category).sum) 8 = true)
    (hct : zCT X y bytes maxL ret' rm 1 (.ref (xad X j) :: As) σ post') (kk : ∀ (r : Int) (σ' : Mem), inR r → post' r σ' → zok X R own cc nL ret rk post (pc + 3) L (vI r :: rest) σ') : zok X R own cc nL ret rk post pc L st0 σ :=
  zok_callV hd hm hlk hcl hs hj hk hdes hn hR hst hrest hct (fun r σ' hr hp => kk r σ' hr hp)
theorem zok_callSi {y : MethodName} {bytes : ByteArray} {maxL n idx : Nat} {ret' : Option FieldType} {rm : Room} {As rest : List Value} {post' : Int → Mem → Prop}
    (hd : decode cc pc = .ok (.invokestatic idx, 3)) (hm : MS y bytes maxL ret') (hlk : Cond.methodLink own idx y ∈ BIG) (hdes : xdes y n) (hn : As.length = n)
    (hR : rm.cells = 0 ∧ rm.slots = 0 ∧ Nat.ble (rm.frames + 1) R.frames = true ∧ Nat.ble (8 + (maxL + 11) + rm.locals) R.locals = true) (hst : st0 = As.reverse ++ rest) (hrest : Nat.ble ((rest.map fun v => v.category).sum) 8 = true)
    (hct : zCT X y bytes maxL ret' rm 1 (As) σ post') (kk : ∀ (r : Int) (σ' : Mem), inR r → post' r σ' → zok X R own cc nL ret rk post (pc + 3) L (vI r :: rest) σ') : zok X R own cc nL ret rk post pc L st0 σ :=
  zok_callS hd hm hlk hdes hn hR hst hrest hct (fun r σ' hr hp => kk r σ' hr hp)
end OK
set_option maxRecDepth 100000 in
set_option maxHeartbeats 4000000 in
theorem zw_X7_latest_3_41 (X : XE) (p1 : Int) (p2 : Int) (hp1 : inR p1) (hp2 : inR p2) (x3 : Int) (x4 : Int) (s0 : Int) (hx3 : inR x3) (hx4 : inR x4) (hs0 : inR s0) {K5 : Int → Int → Mem → Prop} {Q : Int → Mem → Prop} (hK5 : ∀ (x3 : Int) (x4 : Int) (σ : Mem), inR x3 → inR x4 → K5 x3 x4 σ → zok X rm_X7_latest_3 RX7 cX7_latest 6 (some .int) 1 Q 5 [(0, .ref (xad X 3)), (1, vI p1), (2, vI p2), (3, vI x3), (4, vI x4)] [] σ) {σ : Mem} (h : j_X7_latest_3_41 p1 p2 K5 Q x3 x4 s0 σ) : zok X rm_X7_latest_3 RX7 cX7_latest 6 (some .int) 1 Q 41 [(0, .ref (xad X 3)), (1, vI p1), (2, vI p2), (3, vI x3), (4, vI x4)] [vI s0] σ := by
  refine zok_istore (L' := [(5, vI s0), (0, .ref (xad X 3)), (1, vI p1), (2, vI p2), (3, vI x3), (4, vI x4)]) (pc := 41) dX7_latest_41 rfl rfl ?_
  refine zok_iload 0 (pc := 43) dX7_latest_43 rfl ?_
  refine zok_if_eq (tgt := 71) (pc := 45) dX7_latest_45 rfl hs0 (fun q1 => ?_) (fun q1 => ?_)
  · have h := iteT h q1
    refine zok_iinc (L' := [(4, vI (x4 + 1)), (5, vI s0), (0, .ref (xad X 3)), (1, vI p1), (2, vI p2), (3, vI x3)]) 5 (pc := 71) dX7_latest_71 rfl rfl rfl ?_
    refine zok_goto (tgt := 5) (pc := 74) dX7_latest_74 rfl ?_
    obtain ⟨h2, h⟩ := h
    refine zok_sub (L' := [(0, .ref (xad X 3)), (1, vI p1), (2, vI p2), (3, vI x3), (4, vI (x4 + 1))]) [2,3,4,5,0] rfl ?_
    exact hK5 x3 (x4 + 1) σ hx3 h2 h
  · have h := iteF h q1
    refine zok_iload_n 4 (pc := 48) dX7_latest_48 rfl rfl ?_
    refine zok_if_lt (tgt := 68) (pc := 49) dX7_latest_49 rfl hx3 (fun q3 => ?_) (fun q3 => ?_)
    · have h := iteT h q3
      refine zok_iload 5 (pc := 68) dX7_latest_68 rfl ?_
      refine zok_istore_n (L' := [(3, vI x4), (5, vI s0), (0, .ref (xad X 3)), (1, vI p1), (2, vI p2), (4, vI x4)]) (pc := 70) dX7_latest_70 rfl rfl rfl ?_
      refine zok_iinc (L' := [(4, vI (x4 + 1)), (3, vI x4), (5, vI s0), (0, .ref (xad X 3)), (1, vI p1), (2, vI p2)]) 5 (pc := 71) dX7_latest_71 rfl rfl rfl ?_
      refine zok_goto (tgt := 5) (pc := 74) dX7_latest_74 rfl ?_
      obtain ⟨h4, h⟩ := h
      refine zok_sub (L' := [(0, .ref (xad X 3)), (1, vI p1), (2, vI p2), (3, vI x4), (4, vI (x4 + 1))]) [3,4,5,1,0] rfl ?_
      exact hK5 x4 (x4 + 1) σ hx4 h4 h
    · have h := iteF h q3
      refine zok_aload_n 1 (pc := 52) dX7_latest_52 rfl rfl ?_
      refine zok_getR (pc := 53) dX7_latest_53 fl_X7_15 sh_3 rfl rfl rfl ?_
      refine zok_iload 5 (pc := 56) dX7_latest_56 rfl ?_
      obtain ⟨h5, h⟩ := h
      obtain ⟨h6, h⟩ := h
      refine zok_wf (fun hw7 => ?_)
      refine zok_iald (pc := 58) dX7_latest_58 sh_5 rfl rfl h5 h6 ?_
      refine zok_aload_n 1 (pc := 59) dX7_latest_59 rfl rfl ?_
      refine zok_getR (pc := 60) dX7_latest_60 fl_X7_15 sh_3 rfl rfl rfl ?_
      refine zok_iload_n 4 (pc := 63) dX7_latest_63 rfl rfl ?_
      obtain ⟨h8, h⟩ := h
      obtain ⟨h9, h⟩ := h
      refine zok_iald (pc := 64) dX7_latest_64 sh_5 rfl rfl h8 h9 ?_
      refine zok_icmp_le (tgt := 71) (pc := 65) dX7_latest_65 rfl (hw7 _ _) (hw7 _ _) (fun q10 => ?_) (fun q10 => ?_)
      · have h := iteF h q10
        refine zok_iinc (L' := [(4, vI (x4 + 1)), (5, vI s0), (0, .ref (xad X 3)), (1, vI p1), (2, vI p2), (3, vI x3)]) 5 (pc := 71) dX7_latest_71 rfl rfl rfl ?_
        refine zok_goto (tgt := 5) (pc := 74) dX7_latest_74 rfl ?_
        obtain ⟨h11, h⟩ := h
        refine zok_sub (L' := [(0, .ref (xad X 3)), (1, vI p1), (2, vI p2), (3, vI x3), (4, vI (x4 + 1))]) [2,3,4,5,0] rfl ?_
        exact hK5 x3 (x4 + 1) σ hx3 h11 h
      · have h := iteT h q10
        refine zok_iload 5 (pc := 68) dX7_latest_68 rfl ?_
        refine zok_istore_n (L' := [(3, vI x4), (5, vI s0), (0, .ref (xad X 3)), (1, vI p1), (2, vI p2), (4, vI x4)]) (pc := 70) dX7_latest_70 rfl rfl rfl ?_
        refine zok_iinc (L' := [(4, vI (x4 + 1)), (3, vI x4), (5, vI s0), (0, .ref (xad X 3)), (1, vI p1), (2, vI p2)]) 5 (pc := 71) dX7_latest_71 rfl rfl rfl ?_
        refine zok_goto (tgt := 5) (pc := 74) dX7_latest_74 rfl ?_
        obtain ⟨h12, h⟩ := h
        refine zok_sub (L' := [(0, .ref (xad X 3)), (1, vI p1), (2, vI p2), (3, vI x4), (4, vI (x4 + 1))]) [3,4,5,1,0] rfl ?_
        exact hK5 x4 (x4 + 1) σ hx4 h12 h
set_option maxRecDepth 100000 in
set_option maxHeartbeats 4000000 in
theorem zw_X7_latest_3_5 (X : XE) (p1 : Int) (p2 : Int) (hp1 : inR p1) (hp2 : inR p2) {Q : Int → Mem → Prop} : ∀ (n : Nat) (x3 : Int) (x4 : Int) (σ : Mem), inR x3 → inR x4 → l_X7_latest_3_5 p1 p2 Q n x3 x4 σ → zok X rm_X7_latest_3 RX7 cX7_latest 6 (some .int) 1 Q 5 [(0, .ref (xad X 3)), (1, vI p1), (2, vI p2), (3, vI x3), (4, vI x4)] [] σ := by
  intro n
  induction n with
  | zero => intro x3 x4 σ hx3 hx4 h; exact False.elim h
  | succ n ih =>
    intro x3 x4 σ hx3 hx4 h
    refine zok_iload 4 (pc := 5) dX7_latest_5 rfl ?_
    refine zok_aload_n 0 (pc := 7) dX7_latest_7 rfl rfl ?_
    refine zok_wf (fun hw1 => ?_)
    refine zok_getI (pc := 8) dX7_latest_8 fl_X7_24 sh_3 rfl rfl rfl ?_
    refine zok_icmp_ge (tgt := 77) (pc := 11) dX7_latest_11 rfl hx4 (hw1 _ _) (fun q2 => ?_) (fun q2 => ?_)
    · have h := iteF h q2
      refine zok_iload_n 3 (pc := 77) dX7_latest_77 rfl rfl ?_
      exact zok_iret (pc := 78) dX7_latest_78 rfl rfl rfl hx3 h
    · have h := iteT h q2
      refine zok_aload_n 0 (pc := 14) dX7_latest_14 rfl rfl ?_
      refine zok_getR (pc := 15) dX7_latest_15 fl_X7_11 sh_3 rfl rfl rfl ?_
      refine zok_iload 4 (pc := 18) dX7_latest_18 rfl ?_
      obtain ⟨h3, h⟩ := h
      obtain ⟨h4, h⟩ := h
      refine zok_iald (pc := 20) dX7_latest_20 sh_4 rfl rfl h3 h4 ?_
      refine zok_iload_n 1 (pc := 21) dX7_latest_21 rfl rfl ?_
      refine zok_icmp_ne (tgt := 40) (pc := 22) dX7_latest_22 rfl (hw1 _ _) hp1 (fun q5 => ?_) (fun q5 => ?_)
      · simp only [if_neg q5] at h
        refine zok_iconst (pc := 40) dX7_latest_40 ?_
        exact zw_X7_latest_3_41 X p1 p2 hp1 hp2 x3 x4 0 hx3 hx4 (r_lit rfl) (fun x3_ x4_ σ_ hx3_ hx4_ h_ => ih x3_ x4_ σ_ hx3_ hx4_ h_) h
      · simp only [if_pos q5] at h
        refine zok_aload_n 0 (pc := 25) dX7_latest_25 rfl rfl ?_
        refine zok_getR (pc := 26) dX7_latest_26 fl_X7_15 sh_3 rfl rfl rfl ?_
        refine zok_iload 4 (pc := 29) dX7_latest_29 rfl ?_
        refine zok_iald (pc := 31) dX7_latest_31 sh_5 rfl rfl h3 h4 ?_
        refine zok_iload_n 2 (pc := 32) dX7_latest_32 rfl rfl ?_
        refine zok_icmp_gt (tgt := 40) (pc := 33) dX7_latest_33 rfl (hw1 _ _) hp2 (fun q6 => ?_) (fun q6 => ?_)
        · simp only [if_pos q6] at h
          refine zok_iconst (pc := 40) dX7_latest_40 ?_
          exact zw_X7_latest_3_41 X p1 p2 hp1 hp2 x3 x4 0 hx3 hx4 (r_lit rfl) (fun x3_ x4_ σ_ hx3_ hx4_ h_ => ih x3_ x4_ σ_ hx3_ hx4_ h_) h
        · simp only [if_neg q6] at h
          refine zok_iconst (pc := 36) dX7_latest_36 ?_
          refine zok_goto (tgt := 41) (pc := 37) dX7_latest_37 rfl ?_
          exact zw_X7_latest_3_41 X p1 p2 hp1 hp2 x3 x4 1 hx3 hx4 (r_lit rfl) (fun x3_ x4_ σ_ hx3_ hx4_ h_ => ih x3_ x4_ σ_ hx3_ hx4_ h_) h
set_option maxRecDepth 100000 in
set_option maxHeartbeats 4000000 in
theorem zc_X7_latest_3 (X : XE) (p1 : Int) (p2 : Int) (hp1 : inR p1) (hp2 : inR p2) {σ : Mem} {Q : Int → Mem → Prop} (h : v_X7_latest_3 p1 p2 σ Q) : zCT X yX7_latest cX7_latest 6 (some .int) rm_X7_latest_3 1 [.ref (xad X 3), vI p1, vI p2] σ Q := by
  refine zct_of (own := RX7) (L := [(0, .ref (xad X 3)), (1, vI p1), (2, vI p2)]) rfl rfl (Nat.le_of_ble_eq_true rfl) rfl ?_
  refine zok_iconst (pc := 0) dX7_latest_0 ?_
  refine zok_istore_n (L' := [(3, vI (-1)), (0, .ref (xad X 3)), (1, vI p1), (2, vI p2)]) (pc := 1) dX7_latest_1 rfl rfl rfl ?_
  refine zok_iconst (pc := 2) dX7_latest_2 ?_
  refine zok_istore (L' := [(4, vI 0), (3, vI (-1)), (0, .ref (xad X 3)), (1, vI p1), (2, vI p2)]) (pc := 3) dX7_latest_3 rfl rfl ?_
  refine zok_sub (L' := [(0, .ref (xad X 3)), (1, vI p1), (2, vI p2), (3, vI (-1)), (4, vI 0)]) [2,3,4,1,0] rfl ?_
  obtain ⟨n1, h⟩ := h
  exact zw_X7_latest_3_5 X p1 p2 hp1 hp2 n1 (-1) 0 σ (r_lit rfl) (r_lit rfl) h
set_option maxRecDepth 100000 in
set_option maxHeartbeats 4000000 in
theorem zc_X7_usual (X : XE) (p0 : Int) (hp0 : inR p0) {σ : Mem} {Q : Int → Mem → Prop} (h : v_X7_usual p0 σ Q) : zCT X yX7_usual cX7_usual 1 (some .int) rm_X7_usual 1 [vI p0] σ Q := by
  refine zct_of (own := RX7) (L := [(0, vI p0)]) rfl rfl (Nat.le_of_ble_eq_true rfl) rfl ?_
  refine zok_iload_n 0 (pc := 0) dX7_usual_0 rfl rfl ?_
  refine zok_iconst (pc := 1) dX7_usual_1 ?_
  refine zok_icmp_ge (tgt := 9) (pc := 2) dX7_usual_2 rfl hp0 (r_lit rfl) (fun q1 => ?_) (fun q1 => ?_)
  · have h := iteF h q1
    refine zok_iload_n 0 (pc := 9) dX7_usual_9 rfl rfl ?_
    refine zok_bipush (pc := 10) dX7_usual_10 rfl ?_
    refine zok_icmp_ge (tgt := 19) (pc := 12) dX7_usual_12 rfl hp0 (r_lit rfl) (fun q2 => ?_) (fun q2 => ?_)
    · have h := iteF h q2
      refine zok_iload_n 0 (pc := 19) dX7_usual_19 rfl rfl ?_
      refine zok_bipush (pc := 20) dX7_usual_20 rfl ?_
      refine zok_icmp_ge (tgt := 27) (pc := 22) dX7_usual_22 rfl hp0 (r_lit rfl) (fun q3 => ?_) (fun q3 => ?_)
      · have h := iteF h q3
        refine zok_iload_n 0 (pc := 27) dX7_usual_27 rfl rfl ?_
        refine zok_bipush (pc := 28) dX7_usual_28 rfl ?_
        refine zok_icmp_ge (tgt := 35) (pc := 30) dX7_usual_30 rfl hp0 (r_lit rfl) (fun q4 => ?_) (fun q4 => ?_)
        · have h := iteF h q4
          refine zok_iload_n 0 (pc := 35) dX7_usual_35 rfl rfl ?_
          refine zok_bipush (pc := 36) dX7_usual_36 rfl ?_
          refine zok_icmp_ne (tgt := 47) (pc := 38) dX7_usual_38 rfl hp0 (r_lit rfl) (fun q5 => ?_) (fun q5 => ?_)
          · have h := iteF h q5
            refine zok_iconst (pc := 47) dX7_usual_47 ?_
            exact zok_iret (pc := 48) dX7_usual_48 rfl rfl rfl (r_lit rfl) h
          · have h := iteT h q5
            refine zok_sipush (pc := 41) dX7_usual_41 rfl ?_
            refine zok_goto (tgt := 48) (pc := 44) dX7_usual_44 rfl ?_
            exact zok_iret (pc := 48) dX7_usual_48 rfl rfl rfl (r_lit rfl) h
        · have h := iteT h q4
          refine zok_iconst (pc := 33) dX7_usual_33 ?_
          exact zok_iret (pc := 34) dX7_usual_34 rfl rfl rfl (r_lit rfl) h
      · have h := iteT h q3
        refine zok_iconst (pc := 25) dX7_usual_25 ?_
        exact zok_iret (pc := 26) dX7_usual_26 rfl rfl rfl (r_lit rfl) h
    · have h := iteT h q2
      refine zok_sipush (pc := 15) dX7_usual_15 rfl ?_
      exact zok_iret (pc := 18) dX7_usual_18 rfl rfl rfl (r_lit rfl) h
  · have h := iteT h q1
    refine zok_sipush (pc := 5) dX7_usual_5 rfl ?_
    exact zok_iret (pc := 8) dX7_usual_8 rfl rfl rfl (r_lit rfl) h
set_option maxRecDepth 100000 in
set_option maxHeartbeats 4000000 in
theorem zw_X7_value_3_29 (X : XE) (p1 : Int) (p2 : Int) (hp1 : inR p1) (hp2 : inR p2) (x3 : Int) (s0 : Int) (hx3 : inR x3) (hs0 : inR s0) {Q : Int → Mem → Prop} {σ : Mem} (h : j_X7_value_3_29 p1 p2 Q x3 s0 σ) : zok X rm_X7_value_3 RX7 cX7_value 5 (some .int) 1 Q 29 [(0, .ref (xad X 3)), (1, vI p1), (2, vI p2), (3, vI x3)] [vI s0, .ref (xad X 3)] σ := by
  refine zok_iload_n 2 (pc := 29) dX7_value_29 rfl rfl ?_
  refine zok_callVi (As := [vI s0, vI p2]) (rest := []) (rm := rm_X7_latest_3) (pc := 30) dX7_value_30 me_X7_latest ml_X7_32 (ci := 7) rfl sh_3 rfl rfl des_X7_latest rfl ⟨rfl, rfl, rfl, rfl⟩ rfl rfl (zc_X7_latest_3 X s0 p2 hs0 hp2 h) (fun r2 σ3 h1 h => ?_)
  refine zok_istore (L' := [(4, vI r2), (0, .ref (xad X 3)), (1, vI p1), (2, vI p2), (3, vI x3)]) (pc := 33) dX7_value_33 rfl rfl ?_
  refine zok_iload 0 (pc := 35) dX7_value_35 rfl ?_
  refine zok_if_ge (tgt := 45) (pc := 37) dX7_value_37 rfl h1 (fun q4 => ?_) (fun q4 => ?_)
  · have h := iteF h q4
    refine zok_iload_n 4 (pc := 45) dX7_value_45 rfl rfl ?_
    refine zok_if_eq (tgt := 59) (pc := 46) dX7_value_46 rfl hx3 (fun q5 => ?_) (fun q5 => ?_)
    · have h := iteT h q5
      refine zok_aload_n 1 (pc := 59) dX7_value_59 rfl rfl ?_
      refine zok_getR (pc := 60) dX7_value_60 fl_X7_18 sh_3 rfl rfl rfl ?_
      refine zok_iload 0 (pc := 63) dX7_value_63 rfl ?_
      obtain ⟨h6, h⟩ := h
      obtain ⟨h7, h⟩ := h
      refine zok_wf (fun hw8 => ?_)
      refine zok_iald (pc := 65) dX7_value_65 sh_6 rfl rfl h6 h7 ?_
      exact zok_iret (pc := 66) dX7_value_66 rfl rfl rfl (hw8 _ _) h
    · have h := iteF h q5
      refine zok_aload_n 1 (pc := 49) dX7_value_49 rfl rfl ?_
      refine zok_getR (pc := 50) dX7_value_50 fl_X7_21 sh_3 rfl rfl rfl ?_
      refine zok_iload 0 (pc := 53) dX7_value_53 rfl ?_
      obtain ⟨h9, h⟩ := h
      obtain ⟨h10, h⟩ := h
      refine zok_wf (fun hw11 => ?_)
      refine zok_iald (pc := 55) dX7_value_55 sh_7 rfl rfl h9 h10 ?_
      refine zok_goto (tgt := 66) (pc := 56) dX7_value_56 rfl ?_
      exact zok_iret (pc := 66) dX7_value_66 rfl rfl rfl (hw11 _ _) h
  · have h := iteT h q4
    refine zok_iload_n 2 (pc := 40) dX7_value_40 rfl rfl ?_
    refine zok_callSi (As := [vI p1]) (rest := []) (rm := rm_X7_usual) (pc := 41) dX7_value_41 me_X7_usual ml_X7_36 des_X7_usual rfl ⟨rfl, rfl, rfl, rfl⟩ rfl rfl (zc_X7_usual X p1 hp1 h) (fun r13 σ14 h12 h => ?_)
    exact zok_iret (pc := 44) dX7_value_44 rfl rfl rfl h12 h
set_option maxRecDepth 100000 in
set_option maxHeartbeats 4000000 in
theorem zw_X7_value_3_16 (X : XE) (p1 : Int) (p2 : Int) (hp1 : inR p1) (hp2 : inR p2) (s0 : Int) (hs0 : inR s0) {Q : Int → Mem → Prop} {σ : Mem} (h : j_X7_value_3_16 p1 p2 Q s0 σ) : zok X rm_X7_value_3 RX7 cX7_value 5 (some .int) 1 Q 16 [(0, .ref (xad X 3)), (1, vI p1), (2, vI p2)] [vI s0] σ := by
  refine zok_istore_n (L' := [(3, vI s0), (0, .ref (xad X 3)), (1, vI p1), (2, vI p2)]) (pc := 16) dX7_value_16 rfl rfl rfl ?_
  refine zok_aload_n 1 (pc := 17) dX7_value_17 rfl rfl ?_
  refine zok_iload_n 0 (pc := 18) dX7_value_18 rfl rfl ?_
  refine zok_if_eq (tgt := 28) (pc := 19) dX7_value_19 rfl hs0 (fun q1 => ?_) (fun q1 => ?_)
  · have h := iteT h q1
    refine zok_iload_n 2 (pc := 28) dX7_value_28 rfl rfl ?_
    refine zok_sub (L' := [(0, .ref (xad X 3)), (1, vI p1), (2, vI p2), (3, vI s0)]) [1,2,3,0] rfl ?_
    exact zw_X7_value_3_29 X p1 p2 hp1 hp2 s0 p1 hs0 hp1 h
  · have h := iteF h q1
    refine zok_iload_n 2 (pc := 22) dX7_value_22 rfl rfl ?_
    refine zok_iconst (pc := 23) dX7_value_23 ?_
    refine zok_isub (pc := 24) dX7_value_24 ?_
    refine zok_goto (tgt := 29) (pc := 25) dX7_value_25 rfl ?_
    obtain ⟨h2, h⟩ := h
    refine zok_sub (L' := [(0, .ref (xad X 3)), (1, vI p1), (2, vI p2), (3, vI s0)]) [1,2,3,0] rfl ?_
    exact zw_X7_value_3_29 X p1 p2 hp1 hp2 s0 (p1 - 4) hs0 h2 h
set_option maxRecDepth 100000 in
set_option maxHeartbeats 4000000 in
theorem zc_X7_value_3 (X : XE) (p1 : Int) (p2 : Int) (hp1 : inR p1) (hp2 : inR p2) {σ : Mem} {Q : Int → Mem → Prop} (h : v_X7_value_3 p1 p2 σ Q) : zCT X yX7_value cX7_value 5 (some .int) rm_X7_value_3 1 [.ref (xad X 3), vI p1, vI p2] σ Q := by
  refine zct_of (own := RX7) (L := [(0, .ref (xad X 3)), (1, vI p1), (2, vI p2)]) rfl rfl (Nat.le_of_ble_eq_true rfl) rfl ?_
  unfold v_X7_value_3 at h
  refine zok_iload_n 1 (pc := 0) dX7_value_0 rfl rfl ?_
  refine zok_iconst (pc := 1) dX7_value_1 ?_
  refine zok_icmp_lt (tgt := 15) (pc := 2) dX7_value_2 rfl hp1 (r_lit rfl) (fun q1 => ?_) (fun q1 => ?_)
  · simp only [if_pos q1] at h
    refine zok_iconst (pc := 15) dX7_value_15 ?_
    exact zw_X7_value_3_16 X p1 p2 hp1 hp2 0 (r_lit rfl) h
  · simp only [if_neg q1] at h
    refine zok_iload_n 1 (pc := 5) dX7_value_5 rfl rfl ?_
    refine zok_bipush (pc := 6) dX7_value_6 rfl ?_
    refine zok_icmp_ge (tgt := 15) (pc := 8) dX7_value_8 rfl hp1 (r_lit rfl) (fun q2 => ?_) (fun q2 => ?_)
    · simp only [if_neg q2] at h
      refine zok_iconst (pc := 15) dX7_value_15 ?_
      exact zw_X7_value_3_16 X p1 p2 hp1 hp2 0 (r_lit rfl) h
    · simp only [if_pos q2] at h
      refine zok_iconst (pc := 11) dX7_value_11 ?_
      refine zok_goto (tgt := 16) (pc := 12) dX7_value_12 rfl ?_
      exact zw_X7_value_3_16 X p1 p2 hp1 hp2 1 (r_lit rfl) h
set_option maxRecDepth 100000 in
set_option maxHeartbeats 4000000 in
theorem zw_X5_refresh_2 (X : XE) {Q : Int → Mem → Prop} : ∀ (n : Nat) (x1 : Int) (σ : Mem), inR x1 → l_X5_refresh_2 Q n x1 σ → zok X rm_X5_refresh RX5 cX5_refresh 2 none 0 Q 2 [(0, .ref (xad X 14)), (1, vI x1)] [] σ := by
  intro n
  induction n with
  | zero => intro x1 σ hx1 h; exact False.elim h
  | succ n ih =>
    intro x1 σ hx1 h
    refine zok_iload_n 1 (pc := 2) dX5_refresh_2 rfl rfl ?_
    refine zok_bipush (pc := 3) dX5_refresh_3 rfl ?_
    refine zok_icmp_ge (tgt := 32) (pc := 5) dX5_refresh_5 rfl hx1 (r_lit rfl) (fun q1 => ?_) (fun q1 => ?_)
    · have h := iteF h q1
      exact zok_vret (pc := 32) dX5_refresh_32 rfl rfl h
    · have h := iteT h q1
      refine zok_aload_n 0 (pc := 8) dX5_refresh_8 rfl rfl ?_
      refine zok_getR (pc := 9) dX5_refresh_9 fl_X5_9 sh_14 rfl rfl rfl ?_
      refine zok_iload_n 1 (pc := 12) dX5_refresh_12 rfl rfl ?_
      refine zok_aload_n 0 (pc := 13) dX5_refresh_13 rfl rfl ?_
      refine zok_getR (pc := 14) dX5_refresh_14 fl_X5_15 sh_14 rfl rfl rfl ?_
      refine zok_iload_n 1 (pc := 17) dX5_refresh_17 rfl rfl ?_
      refine zok_aload_n 0 (pc := 18) dX5_refresh_18 rfl rfl ?_
      refine zok_wf (fun hw2 => ?_)
      refine zok_getI (pc := 19) dX5_refresh_19 fl_X5_22 sh_14 rfl rfl rfl ?_
      refine zok_callVi (As := [vI x1, vI (σ 14 2)]) (rest := [vI x1, .ref (xad X 15)]) (rm := rm_X7_value_3) (pc := 22) dX5_refresh_22 me_X7_value ml_X5_26 (ci := 7) rfl sh_3 rfl rfl des_X7_value rfl ⟨rfl, rfl, rfl, rfl⟩ rfl rfl (zc_X7_value_3 X x1 (σ 14 2) hx1 (hw2 _ _) h) (fun r4 σ5 h3 h => ?_)
      obtain ⟨h6, h⟩ := h
      obtain ⟨h7, h⟩ := h
      refine zok_iast (pc := 25) dX5_refresh_25 sh_15 rfl rfl h6 h7 h3 ?_
      refine zok_iinc (L' := [(1, vI (x1 + 1)), (0, .ref (xad X 14))]) 1 (pc := 26) dX5_refresh_26 rfl rfl rfl ?_
      refine zok_goto (tgt := 2) (pc := 29) dX5_refresh_29 rfl ?_
      obtain ⟨h8, h⟩ := h
      refine zok_sub (L' := [(0, .ref (xad X 14)), (1, vI (x1 + 1))]) [1,0] rfl ?_
      exact ih (x1 + 1) (mset σ5 15 (x1.toNat) r4) h8 h
set_option maxRecDepth 100000 in
set_option maxHeartbeats 4000000 in
theorem zc_X5_refresh (X : XE) {σ : Mem} {Q : Int → Mem → Prop} (h : v_X5_refresh σ Q) : zCT X yX5_refresh cX5_refresh 2 none rm_X5_refresh 0 [.ref (xad X 14)] σ Q := by
  refine zct_of (own := RX5) (L := [(0, .ref (xad X 14))]) rfl rfl (Nat.le_of_ble_eq_true rfl) rfl ?_
  refine zok_iconst (pc := 0) dX5_refresh_0 ?_
  refine zok_istore_n (L' := [(1, vI 0), (0, .ref (xad X 14))]) (pc := 1) dX5_refresh_1 rfl rfl rfl ?_
  refine zok_sub (L' := [(0, .ref (xad X 14)), (1, vI 0)]) [1,0] rfl ?_
  obtain ⟨n1, h⟩ := h
  exact zw_X5_refresh_2 X n1 0 σ (r_lit rfl) h
