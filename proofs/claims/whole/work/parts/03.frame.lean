/-! THE STATIC PICTURE. Both objects make all their cells in their constructors; cell j of the picture lies at base + j. Contents: a function Mem of cell and place, in whole numbers. -/
theorem blt_lt {a b : Nat} (h : Nat.blt a b = true) : a < b := Nat.le_of_ble_eq_true h
theorem big_flt {w : Cond} {i : Nat} (h : lw_tbl[i]? = some w) (g : goodWord w = true) : w ∈ lw_tbl.filter goodWord := List.mem_filter.mpr ⟨List.mem_of_getElem? h, g⟩
def BIG : List Cond := lw_tbl.filter goodWord
theorem big_in {w : Cond} {i : Nat} (h : lw_tbl[i]? = some w) (g : goodWord w = true) : w ∈ BIG := big_flt h g
theorem big_1 {w : Cond} {i : Nat} (h : tables_1_1[i]? = some w) (g : goodWord w = true) : w ∈ BIG := List.mem_filter.mpr ⟨List.mem_append_right _ (List.mem_append_left _ (List.mem_of_getElem? h)), g⟩
theorem big_2 {w : Cond} {i : Nat} (h : tables_1_2[i]? = some w) (g : goodWord w = true) : w ∈ BIG := List.mem_filter.mpr ⟨List.mem_append_right _ (List.mem_append_right _ (List.mem_append_left _ (List.mem_of_getElem? h))), g⟩
theorem big_3 {w : Cond} {i : Nat} (h : tables_1_3[i]? = some w) (g : goodWord w = true) : w ∈ BIG := List.mem_filter.mpr ⟨List.mem_append_right _ (List.mem_append_right _ (List.mem_append_right _ (List.mem_append_left _ (List.mem_of_getElem? h)))), g⟩
theorem big_4 {w : Cond} {i : Nat} (h : tables_1_4[i]? = some w) (g : goodWord w = true) : w ∈ BIG := List.mem_filter.mpr ⟨List.mem_append_right _ (List.mem_append_right _ (List.mem_append_right _ (List.mem_append_right _ (List.mem_append_left _ (List.mem_of_getElem? h))))), g⟩
theorem big_5 {w : Cond} {i : Nat} (h : tables_1_5[i]? = some w) (g : goodWord w = true) : w ∈ BIG := List.mem_filter.mpr ⟨List.mem_append_right _ (List.mem_append_right _ (List.mem_append_right _ (List.mem_append_right _ (List.mem_append_right _ (List.mem_append_left _ (List.mem_of_getElem? h)))))), g⟩
theorem big_6 {w : Cond} {i : Nat} (h : tables_1_6[i]? = some w) (g : goodWord w = true) : w ∈ BIG := List.mem_filter.mpr ⟨List.mem_append_right _ (List.mem_append_right _ (List.mem_append_right _ (List.mem_append_right _ (List.mem_append_right _ (List.mem_append_right _ (List.mem_append_left _ (List.mem_of_getElem? h))))))), g⟩
theorem big_7 {w : Cond} {i : Nat} (h : tables_1_7[i]? = some w) (g : goodWord w = true) : w ∈ BIG := List.mem_filter.mpr ⟨List.mem_append_right _ (List.mem_append_right _ (List.mem_append_right _ (List.mem_append_right _ (List.mem_append_right _ (List.mem_append_right _ (List.mem_append_right _ (List.mem_of_getElem? h))))))), g⟩
theorem big_ws {ws : List Cond} (ps : List Nat) (h : ps.map (fun i => lw_tbl[i]?) = ws.map some) (g : ws.all goodWord = true) : ∀ w ∈ ws, w ∈ BIG := by
  intro w hw
  have h1 : some w ∈ ps.map (fun i => lw_tbl[i]?) := by rw [h]; exact List.mem_map.mpr ⟨w, hw, rfl⟩
  obtain ⟨i, -, hi⟩ := List.mem_map.mp h1
  exact big_flt hi (List.all_eq_true.mp g w hw)
theorem big_good : ∀ w ∈ BIG, (w.onTables && w.keeps) = true ∨ ∃ ty, w = .arrayClass ty := fun w hw => good_of_word (List.mem_filter.mp hw).2
theorem big_tbl : ∀ w ∈ BIG, w ∈ lw_tbl := fun w hw => (List.mem_filter.mp hw).1
def FL (own : String) (idx ci N k : Nat) : Prop := ∃ (C : String) (T : u_T), vwCl[ci]? = some (C, T, N) ∧ k < N ∧ (∀ w ∈ u_ws C T N, w ∈ BIG) ∧ Cond.fieldLink own idx C (T k).2.1 (T k).2.2.1 ∈ BIG ∧ (T k).1 = C
def FP (ci N k : Nat) (ty : FieldType) : Prop := ∃ (C : String) (T : u_T) (t0 : Nat → FieldType), vwCl[ci]? = some (C, T, N) ∧ (∀ k, k < N → parseFieldDescriptor (T k).2.2.1 = some (t0 k)) ∧ (∀ a, a < N → ∀ b, b < N → a ≠ b → (T a).2.1 ≠ (T b).2.1) ∧ t0 k = ty ∧ (T k).2.2.2 = false
def ME (C : String) (y : MethodName) (cc : ByteArray) (nL : Nat) (ret : Option FieldType) : Prop := y.cls = C ∧ Cond.instanceMethod y ∈ BIG ∧ Cond.selects C y y ∈ BIG ∧ Cond.initialized C ∈ BIG ∧ Cond.code y cc nL ret ∈ BIG
def MS (y : MethodName) (cc : ByteArray) (nL : Nat) (ret : Option FieldType) : Prop := Cond.static y ∈ BIG ∧ Cond.initialized y.cls ∈ BIG ∧ Cond.code y cc nL ret ∈ BIG
-- numbers
abbrev Mem : Type := Nat → Nat → Int
abbrev inR (x : Int) : Prop := -2147483648 ≤ x ∧ x ≤ 2147483647
abbrev inL (x : Int) : Prop := -9223372036854775808 ≤ x ∧ x ≤ 9223372036854775807
def mset (σ : Mem) (j k : Nat) (v : Int) : Mem := fun a b => if a = j ∧ b = k then v else σ a b
def WF (σ : Mem) : Prop := ∀ j k, inR (σ j k)
abbrev vI (x : Int) : Value := .int (Int32.ofInt x)
abbrev vL (x : Int) : Value := .long (Int64.ofInt x)
theorem r_lit {x : Int} (h : (decide (-2147483648 ≤ x) && decide (x ≤ 2147483647)) = true) : inR x := by simpa using h
theorem l_of_r {x : Int} (h : inR x) : inL x := ⟨Int.le_trans (by decide) h.1, Int.le_trans h.2 (by decide)⟩
theorem mset_wf {σ : Mem} {j k : Nat} {v : Int} (h : WF σ) (hv : inR v) : WF (mset σ j k v) := by
  intro a b
  show inR (if a = j ∧ b = k then v else σ a b)
  by_cases q : a = j ∧ b = k
  · rw [if_pos q]; exact hv
  · rw [if_neg q]; exact h a b
theorem q_toInt {x : Int} (h : inR x) : (Int32.ofInt x).toInt = x := Int32.toInt_ofInt_of_le (by have := h.1; omega) (by have := h.2; omega)
theorem q_toIntL {x : Int} (h : inL x) : (Int64.ofInt x).toInt = x := Int64.toInt_ofInt_of_le (by have := h.1; omega) (by have := h.2; omega)
theorem q_rng (x : Int32) : inR x.toInt := ⟨by have := x.le_toInt; omega, by have := x.toInt_lt; omega⟩
theorem q_rngL (x : Int64) : inL x.toInt := ⟨by have := x.le_toInt; omega, by have := x.toInt_lt; omega⟩
theorem q_lt {x y : Int} (hx : inR x) (hy : inR y) : Int32.ofInt x < Int32.ofInt y ↔ x < y := by rw [Int32.lt_iff_toInt_lt, q_toInt hx, q_toInt hy]
theorem q_le {x y : Int} (hx : inR x) (hy : inR y) : Int32.ofInt x ≤ Int32.ofInt y ↔ x ≤ y := by rw [Int32.le_iff_toInt_le, q_toInt hx, q_toInt hy]
theorem q_eq {x y : Int} (hx : inR x) (hy : inR y) : Int32.ofInt x = Int32.ofInt y ↔ x = y := ⟨fun h => by rw [← q_toInt hx, ← q_toInt hy, h], fun h => by rw [h]⟩
theorem q_ltL {x y : Int} (hx : inL x) (hy : inL y) : Int64.ofInt x < Int64.ofInt y ↔ x < y := by rw [Int64.lt_iff_toInt_lt, q_toIntL hx, q_toIntL hy]
theorem q_eqL {x y : Int} (hx : inL x) (hy : inL y) : Int64.ofInt x = Int64.ofInt y ↔ x = y := ⟨fun h => by rw [← q_toIntL hx, ← q_toIntL hy, h], fun h => by rw [h]⟩
def iand (x y : Int) : Int := (Int32.ofInt x &&& Int32.ofInt y).toInt
def ior (x y : Int) : Int := (Int32.ofInt x ||| Int32.ofInt y).toInt
def ixor (x y : Int) : Int := (Int32.ofInt x ^^^ Int32.ofInt y).toInt
def ishl (x y : Int) : Int := (Int32.ofInt x <<< (Int32.ofInt y &&& 31)).toInt
def ishr (x y : Int) : Int := (Int32.ofInt x >>> (Int32.ofInt y &&& 31)).toInt
def ldand (x y : Int) : Int := (Int64.ofInt x &&& Int64.ofInt y).toInt
def lshrI (x y : Int) : Int := (Int64.ofInt x >>> ((Int32.ofInt y).toInt64 &&& 63)).toInt
def l2iI (x : Int) : Int := (Int64.ofInt x).toInt32.toInt
def i2bI (x : Int) : Int := (Int32.ofInt x).toInt8.toInt32.toInt
def i2sI (x : Int) : Int := (Int32.ofInt x).toInt16.toInt32.toInt
def lcmpI (x y : Int) : Int := if y < x then 1 else if x = y then 0 else -1
theorem q_div {x y : Int} (hx : inR x) (hy : inR y) : Int32.ofInt x / Int32.ofInt y = Int32.ofInt (Int.tdiv x y) := by
  apply Int32.toInt_inj.mp
  rw [Int32.toInt_div, q_toInt hx, q_toInt hy, Int32.toInt_ofInt]
theorem q_rem {x y : Int} (hx : inR x) (hy : inR y) : Int32.ofInt x - Int32.ofInt x / Int32.ofInt y * Int32.ofInt y = Int32.ofInt (Int.tmod x y) := by
  rw [q_div hx hy, ← Int32.ofInt_mul, ← Int32.ofInt_sub]
  congr 1
  have := Int.tmod_add_mul_tdiv x y
  have e : x.tdiv y * y = y * x.tdiv y := Int.mul_comm _ _
  omega
theorem q_divL {x y : Int} (hx : inL x) (hy : inL y) : Int64.ofInt x / Int64.ofInt y = Int64.ofInt (Int.tdiv x y) := by
  apply Int64.toInt_inj.mp
  rw [Int64.toInt_div, q_toIntL hx, q_toIntL hy, Int64.toInt_ofInt]
theorem q_remL {x y : Int} (hx : inL x) (hy : inL y) : Int64.ofInt x - Int64.ofInt x / Int64.ofInt y * Int64.ofInt y = Int64.ofInt (Int.tmod x y) := by
  rw [q_divL hx hy, ← Int64.ofInt_mul, ← Int64.ofInt_sub]
  congr 1
  have := Int.tmod_add_mul_tdiv x y
  have e : x.tdiv y * y = y * x.tdiv y := Int.mul_comm _ _
  omega
theorem q_i2l {x : Int} (hx : inR x) : (Int32.ofInt x).toInt64 = Int64.ofInt x := by
  apply Int64.toInt_inj.mp
  rw [Int32.toInt_toInt64, q_toInt hx, q_toIntL (l_of_r hx)]
theorem q_cmp {x y : Int} (hx : inL x) (hy : inL y) : lg_cmp (Int64.ofInt x) (Int64.ofInt y) = Int32.ofInt (lcmpI x y) := by
  unfold lcmpI
  by_cases h1 : y < x
  · rw [if_pos h1]; unfold lg_cmp; rw [if_pos ((q_ltL hy hx).mpr h1)]; rfl
  · rw [if_neg h1]
    unfold lg_cmp
    rw [if_neg (fun q => h1 ((q_ltL hy hx).mp q))]
    by_cases h2 : x = y
    · rw [if_pos h2, if_pos (by rw [h2])]; rfl
    · rw [if_neg h2, if_neg (fun q => h2 ((q_eqL hx hy).mp q))]; rfl
theorem q_bip {n : Int} (h : (decide (-128 ≤ n) && decide (n ≤ 127)) = true) : (Int8.ofInt n).toInt32 = Int32.ofInt n := by
  simp only [Bool.and_eq_true, decide_eq_true_eq] at h
  apply Int32.toInt_inj.mp
  rw [q_toInt ⟨by omega, by omega⟩, Int8.toInt_toInt32, Int8.toInt_ofInt_of_le (by omega) (by omega)]
theorem q_sip {n : Int} (h : (decide (-32768 ≤ n) && decide (n ≤ 32767)) = true) : (Int16.ofInt n).toInt32 = Int32.ofInt n := by
  simp only [Bool.and_eq_true, decide_eq_true_eq] at h
  apply Int32.toInt_inj.mp
  rw [q_toInt ⟨by omega, by omega⟩, Int16.toInt_toInt32, Int16.toInt_ofInt_of_le (by omega) (by omega)]
theorem q_in {x : Int} {n : Nat} (hn : n < 2147483648) (h0 : 0 ≤ x) (h1 : x < n) : vp_in (Int32.ofInt x) n ∧ (Int32.ofInt x).toNatClampNeg = x.toNat := by
  have hr : inR x := ⟨by omega, by omega⟩
  refine ⟨vp_in_iff.mpr ⟨by rw [q_toInt hr]; exact h0, by rw [q_toInt hr]; exact h1⟩, ?_⟩
  show (Int32.ofInt x).toInt.toNat = x.toNat
  rw [q_toInt hr]
-- the cells: kind (an object: its place in vwCl; 20 ints, 21 booleans, 22 bytes, 23 Cards, 24 Sheets), how many places, which places hold which cell
def xshL : List (Nat × Nat × List (Option Nat)) := [(11, 17, [some 1, some 3, some 8, some 14, some 16, some 95, some 99, some 103, some 105, some 108, some 117, some 118, some 119, some 120, some 121, none, none]), (9, 2, [some 2, none]), (22, 240, []), (7, 5, [some 4, some 5, some 6, some 7, none]), (20, 16, []), (20, 16, []), (20, 16, []), (20, 16, []), (6, 7, [some 1, some 9, none, none, none, none, none]), (7, 5, [some 10, some 11, some 12, some 13, none]), (20, 16, []), (20, 16, []), (20, 16, []), (20, 16, []), (5, 3, [some 3, some 15, none]), (20, 20, []), (0, 10, [some 14, some 17, none, some 18, none, some 19, some 20, some 21, some 22, none]), (23, 24, [some 23, some 26, some 29, some 32, some 35, some 38, some 41, some 44, some 47, some 50, some 53, some 56, some 59, some 62, some 65, some 68, some 71, some 74, some 77, some 80, some 83, some 86, some 89, some 92]), (21, 576, []), (20, 40, []), (20, 40, []), (20, 40, []), (20, 40, []), (1, 8, [none, none, none, none, none, none, some 24, some 25]), (20, 4, []), (20, 4, []), (1, 8, [none, none, none, none, none, none, some 27, some 28]), (20, 4, []), (20, 4, []), (1, 8, [none, none, none, none, none, none, some 30, some 31]), (20, 4, []), (20, 4, []), (1, 8, [none, none, none, none, none, none, some 33, some 34]), (20, 4, []), (20, 4, []), (1, 8, [none, none, none, none, none, none, some 36, some 37]), (20, 4, []), (20, 4, []), (1, 8, [none, none, none, none, none, none, some 39, some 40]), (20, 4, []), (20, 4, []), (1, 8, [none, none, none, none, none, none, some 42, some 43]), (20, 4, []), (20, 4, []), (1, 8, [none, none, none, none, none, none, some 45, some 46]), (20, 4, []), (20, 4, []), (1, 8, [none, none, none, none, none, none, some 48, some 49]), (20, 4, []), (20, 4, []), (1, 8, [none, none, none, none, none, none, some 51, some 52]), (20, 4, []), (20, 4, []), (1, 8, [none, none, none, none, none, none, some 54, some 55]), (20, 4, []), (20, 4, []), (1, 8, [none, none, none, none, none, none, some 57, some 58]), (20, 4, []), (20, 4, []), (1, 8, [none, none, none, none, none, none, some 60, some 61]), (20, 4, []), (20, 4, []), (1, 8, [none, none, none, none, none, none, some 63, some 64]), (20, 4, []), (20, 4, []), (1, 8, [none, none, none, none, none, none, some 66, some 67]), (20, 4, []), (20, 4, []), (1, 8, [none, none, none, none, none, none, some 69, some 70]), (20, 4, []), (20, 4, []), (1, 8, [none, none, none, none, none, none, some 72, some 73]), (20, 4, []), (20, 4, []), (1, 8, [none, none, none, none, none, none, some 75, some 76]), (20, 4, []), (20, 4, []), (1, 8, [none, none, none, none, none, none, some 78, some 79]), (20, 4, []), (20, 4, []), (1, 8, [none, none, none, none, none, none, some 81, some 82]), (20, 4, []), (20, 4, []), (1, 8, [none, none, none, none, none, none, some 84, some 85]), (20, 4, []), (20, 4, []), (1, 8, [none, none, none, none, none, none, some 87, some 88]), (20, 4, []), (20, 4, []), (1, 8, [none, none, none, none, none, none, some 90, some 91]), (20, 4, []), (20, 4, []), (1, 8, [none, none, none, none, none, none, some 93, some 94]), (20, 4, []), (20, 4, []), (10, 7, [none, none, some 96, some 97, some 98, none, none]), (20, 4, []), (20, 24, []), (20, 24, []), (3, 6, [some 100, none, some 101, none, none, some 102]), (20, 27, []), (20, 27, []), (20, 9, []), (4, 4, [some 16, some 104, none, none]), (20, 24, []), (2, 7, [some 16, none, none, none, none, some 106, some 107]), (20, 100, []), (20, 100, []), (24, 4, [some 109, some 111, some 113, some 115]), (8, 4, [some 110, none, none, none]), (20, 96, []), (8, 4, [some 112, none, none, none]), (20, 96, []), (8, 4, [some 114, none, none, none]), (20, 96, []), (8, 4, [some 116, none, none, none]), (20, 96, []), (20, 96, []), (20, 12, []), (20, 12, []), (20, 12, []), (21, 12, []), (12, 62, [none, some 123, none, none, none, none, none, none, none, none, some 124, some 125, none, some 126, some 127, some 128, some 129, some 130, none, some 131, some 132, some 133, some 134, some 135, none, some 136, some 137, some 138, some 139, some 140, some 141, some 142, some 143, none, some 144, some 145, some 146, some 147, none, none, some 148, some 149, some 150, none, some 151, none, some 152, none, some 153, none, none, none, none, some 154, some 155, some 156, some 157, some 158, some 159, some 160, none, some 161]), (20, 240, []), (20, 7, []), (20, 27, []), (20, 16, []), (20, 16, []), (20, 16, []), (20, 16, []), (20, 16, []), (20, 16, []), (20, 16, []), (20, 16, []), (20, 16, []), (20, 16, []), (20, 24, []), (20, 24, []), (20, 96, []), (20, 96, []), (20, 24, []), (20, 24, []), (20, 24, []), (20, 24, []), (20, 40, []), (20, 40, []), (20, 40, []), (21, 576, []), (20, 4, []), (20, 9, []), (20, 3, []), (20, 27, []), (20, 4, []), (20, 24, []), (20, 12, []), (20, 12, []), (20, 12, []), (20, 12, []), (20, 4, []), (20, 4, []), (20, 384, []), (20, 96, [])]
def xsh (j : Nat) : Nat × Nat × List (Option Nat) := xshL.getD j (99, 0, [])
def NC : Nat := 162
theorem sh_0 : xsh 0 = (11, 17, [some 1, some 3, some 8, some 14, some 16, some 95, some 99, some 103, some 105, some 108, some 117, some 118, some 119, some 120, some 121, none, none]) := by decide +kernel
theorem sh_1 : xsh 1 = (9, 2, [some 2, none]) := by decide +kernel
theorem sh_2 : xsh 2 = (22, 240, []) := by decide +kernel
theorem sh_3 : xsh 3 = (7, 5, [some 4, some 5, some 6, some 7, none]) := by decide +kernel
theorem sh_4 : xsh 4 = (20, 16, []) := by decide +kernel
theorem sh_5 : xsh 5 = (20, 16, []) := by decide +kernel
theorem sh_6 : xsh 6 = (20, 16, []) := by decide +kernel
theorem sh_7 : xsh 7 = (20, 16, []) := by decide +kernel
theorem sh_8 : xsh 8 = (6, 7, [some 1, some 9, none, none, none, none, none]) := by decide +kernel
theorem sh_9 : xsh 9 = (7, 5, [some 10, some 11, some 12, some 13, none]) := by decide +kernel
theorem sh_10 : xsh 10 = (20, 16, []) := by decide +kernel
theorem sh_11 : xsh 11 = (20, 16, []) := by decide +kernel
theorem sh_12 : xsh 12 = (20, 16, []) := by decide +kernel
theorem sh_13 : xsh 13 = (20, 16, []) := by decide +kernel
theorem sh_14 : xsh 14 = (5, 3, [some 3, some 15, none]) := by decide +kernel
theorem sh_15 : xsh 15 = (20, 20, []) := by decide +kernel
theorem sh_16 : xsh 16 = (0, 10, [some 14, some 17, none, some 18, none, some 19, some 20, some 21, some 22, none]) := by decide +kernel
theorem sh_17 : xsh 17 = (23, 24, [some 23, some 26, some 29, some 32, some 35, some 38, some 41, some 44, some 47, some 50, some 53, some 56, some 59, some 62, some 65, some 68, some 71, some 74, some 77, some 80, some 83, some 86, some 89, some 92]) := by decide +kernel
theorem sh_18 : xsh 18 = (21, 576, []) := by decide +kernel
theorem sh_19 : xsh 19 = (20, 40, []) := by decide +kernel
theorem sh_20 : xsh 20 = (20, 40, []) := by decide +kernel
theorem sh_21 : xsh 21 = (20, 40, []) := by decide +kernel
theorem sh_22 : xsh 22 = (20, 40, []) := by decide +kernel
theorem sh_95 : xsh 95 = (10, 7, [none, none, some 96, some 97, some 98, none, none]) := by decide +kernel
theorem sh_96 : xsh 96 = (20, 4, []) := by decide +kernel
theorem sh_97 : xsh 97 = (20, 24, []) := by decide +kernel
theorem sh_98 : xsh 98 = (20, 24, []) := by decide +kernel
theorem sh_99 : xsh 99 = (3, 6, [some 100, none, some 101, none, none, some 102]) := by decide +kernel
theorem sh_100 : xsh 100 = (20, 27, []) := by decide +kernel
theorem sh_101 : xsh 101 = (20, 27, []) := by decide +kernel
theorem sh_102 : xsh 102 = (20, 9, []) := by decide +kernel
theorem sh_103 : xsh 103 = (4, 4, [some 16, some 104, none, none]) := by decide +kernel
theorem sh_104 : xsh 104 = (20, 24, []) := by decide +kernel
theorem sh_105 : xsh 105 = (2, 7, [some 16, none, none, none, none, some 106, some 107]) := by decide +kernel
theorem sh_106 : xsh 106 = (20, 100, []) := by decide +kernel
theorem sh_107 : xsh 107 = (20, 100, []) := by decide +kernel
theorem sh_108 : xsh 108 = (24, 4, [some 109, some 111, some 113, some 115]) := by decide +kernel
theorem sh_117 : xsh 117 = (20, 96, []) := by decide +kernel
theorem sh_118 : xsh 118 = (20, 12, []) := by decide +kernel
theorem sh_119 : xsh 119 = (20, 12, []) := by decide +kernel
theorem sh_120 : xsh 120 = (20, 12, []) := by decide +kernel
theorem sh_121 : xsh 121 = (21, 12, []) := by decide +kernel
theorem sh_122 : xsh 122 = (12, 62, [none, some 123, none, none, none, none, none, none, none, none, some 124, some 125, none, some 126, some 127, some 128, some 129, some 130, none, some 131, some 132, some 133, some 134, some 135, none, some 136, some 137, some 138, some 139, some 140, some 141, some 142, some 143, none, some 144, some 145, some 146, some 147, none, none, some 148, some 149, some 150, none, some 151, none, some 152, none, some 153, none, none, none, none, some 154, some 155, some 156, some 157, some 158, some 159, some 160, none, some 161]) := by decide +kernel
theorem sh_123 : xsh 123 = (20, 240, []) := by decide +kernel
theorem sh_124 : xsh 124 = (20, 7, []) := by decide +kernel
theorem sh_125 : xsh 125 = (20, 27, []) := by decide +kernel
theorem sh_126 : xsh 126 = (20, 16, []) := by decide +kernel
theorem sh_127 : xsh 127 = (20, 16, []) := by decide +kernel
theorem sh_128 : xsh 128 = (20, 16, []) := by decide +kernel
theorem sh_129 : xsh 129 = (20, 16, []) := by decide +kernel
theorem sh_130 : xsh 130 = (20, 16, []) := by decide +kernel
theorem sh_131 : xsh 131 = (20, 16, []) := by decide +kernel
theorem sh_132 : xsh 132 = (20, 16, []) := by decide +kernel
theorem sh_133 : xsh 133 = (20, 16, []) := by decide +kernel
theorem sh_134 : xsh 134 = (20, 16, []) := by decide +kernel
theorem sh_135 : xsh 135 = (20, 16, []) := by decide +kernel
theorem sh_136 : xsh 136 = (20, 24, []) := by decide +kernel
theorem sh_137 : xsh 137 = (20, 24, []) := by decide +kernel
theorem sh_138 : xsh 138 = (20, 96, []) := by decide +kernel
theorem sh_139 : xsh 139 = (20, 96, []) := by decide +kernel
theorem sh_140 : xsh 140 = (20, 24, []) := by decide +kernel
theorem sh_141 : xsh 141 = (20, 24, []) := by decide +kernel
theorem sh_142 : xsh 142 = (20, 24, []) := by decide +kernel
theorem sh_143 : xsh 143 = (20, 24, []) := by decide +kernel
theorem sh_144 : xsh 144 = (20, 40, []) := by decide +kernel
theorem sh_145 : xsh 145 = (20, 40, []) := by decide +kernel
theorem sh_146 : xsh 146 = (20, 40, []) := by decide +kernel
theorem sh_147 : xsh 147 = (21, 576, []) := by decide +kernel
theorem sh_148 : xsh 148 = (20, 4, []) := by decide +kernel
theorem sh_149 : xsh 149 = (20, 9, []) := by decide +kernel
theorem sh_150 : xsh 150 = (20, 3, []) := by decide +kernel
theorem sh_151 : xsh 151 = (20, 27, []) := by decide +kernel
theorem sh_152 : xsh 152 = (20, 4, []) := by decide +kernel
theorem sh_153 : xsh 153 = (20, 24, []) := by decide +kernel
theorem sh_154 : xsh 154 = (20, 12, []) := by decide +kernel
theorem sh_155 : xsh 155 = (20, 12, []) := by decide +kernel
theorem sh_156 : xsh 156 = (20, 12, []) := by decide +kernel
theorem sh_157 : xsh 157 = (20, 12, []) := by decide +kernel
theorem sh_158 : xsh 158 = (20, 4, []) := by decide +kernel
theorem sh_159 : xsh 159 = (20, 4, []) := by decide +kernel
theorem sh_160 : xsh 160 = (20, 384, []) := by decide +kernel
theorem sh_161 : xsh 161 = (20, 96, []) := by decide +kernel
theorem sh_card : ∀ c, c < 24 → xsh (23 + 3 * c) = (1, 8, [none, none, none, none, none, none, some (24 + 3 * c), some (25 + 3 * c)]) := by decide +kernel
theorem sh_cft : ∀ c, c < 24 → xsh (24 + 3 * c) = (20, 4, []) := by decide +kernel
theorem sh_cme : ∀ c, c < 24 → xsh (25 + 3 * c) = (20, 4, []) := by decide +kernel
theorem sh_sheet : ∀ k, k < 4 → xsh (109 + 2 * k) = (8, 4, [some (110 + 2 * k), none, none, none]) := by decide +kernel
theorem sh_scell : ∀ k, k < 4 → xsh (110 + 2 * k) = (20, 96, []) := by decide +kernel
theorem sh_cards : ∀ c, c < 24 → (xsh 17).2.2.getD c none = some (23 + 3 * c) := by decide +kernel
theorem sh_sheets : ∀ k, k < 4 → (xsh 108).2.2.getD k none = some (109 + 2 * k) := by decide +kernel
