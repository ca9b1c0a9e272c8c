theorem r_max {x y : Int} (hx : inR x) (hy : inR y) : inR (imax x y) := by
  unfold imax
  by_cases h : x < y
  · rw [if_pos h]; exact hy
  · rw [if_neg h]; exact hx
theorem r_min {x y : Int} (hx : inR x) (hy : inR y) : inR (imin x y) := by
  unfold imin
  by_cases h : y < x
  · rw [if_pos h]; exact hy
  · rw [if_neg h]; exact hx
theorem r_lcmp {x y : Int} : inR (lcmpI x y) := by
  unfold lcmpI
  by_cases h : y < x
  · rw [if_pos h]; exact r_lit rfl
  · rw [if_neg h]
    by_cases h2 : x = y
    · rw [if_pos h2]; exact r_lit rfl
    · rw [if_neg h2]; exact r_lit rfl
theorem r_i2b (x : Int) : -128 ≤ i2bI x ∧ i2bI x ≤ 127 := by
  have h := lg_i2b_range (Int32.ofInt x)
  exact ⟨h.1, by have h2 := h.2; unfold i2bI; omega⟩
theorem ls_out2 {k1 o1 k2 o2 d x : Int} (h1 : ¬ x = k1) (h2 : ¬ x = k2) : Op.lookupswitch.offset [(k1, o1), (k2, o2)] d x = d := by
  rw [Op.lookupswitch.offset_cons, if_neg (fun q => h1 q.symm), Op.lookupswitch.offset_cons, if_neg (fun q => h2 q.symm)]
  rfl
def strL (i : Nat) : Int := (lenK.getD i 0 : Nat)
def strC (i : Nat) (k : Int) : Int := ((bytK.getD i []).getD k.toNat 0).toInt
theorem r_strL (i : Nat) : inR (strL i) := by
  by_cases h : i < 6
  · have := kL_rng i h
    exact ⟨by unfold strL; unfold kL at this; omega, by unfold strL; unfold kL at this; omega⟩
  · have e : lenK.getD i 0 = 0 := by
      rw [List.getD_eq_getElem?_getD, List.getElem?_eq_none (show lenK.length ≤ i by show 6 ≤ i; omega)]
      rfl
    unfold strL
    rw [e]
    exact r_lit rfl
theorem r_strC (i : Nat) (k : Int) : inR (strC i k) := q_rng _
theorem mset_eq {σ : Mem} {j k : Nat} {v : Int} : mset σ j k v j k = v := if_pos ⟨rfl, rfl⟩
theorem mset_ne {σ : Mem} {j k a b : Nat} {v : Int} (h : a ≠ j) : mset σ j k v a b = σ a b := if_neg (fun q => h q.1)
theorem mset_nei {σ : Mem} {j k a b : Nat} {v : Int} (h : b ≠ k) : mset σ j k v a b = σ a b := if_neg (fun q => h q.2)
def wr (x : Int) : Int := (Int32.ofInt x).toInt
section STR
variable {X : XE} {R : Room} {own : String} {cc : ByteArray} {nL : Nat} {ret : Option FieldType} {rk : Nat} {post : Int → Mem → Prop} {pc : Nat} {L : List (Nat × Value)} {S st0 : List Value} {σ : Mem}
theorem ok_top {x y : Int} (e : x = y) (k : ok X R own cc nL ret rk post pc L (vI y :: S) σ) : ok X R own cc nL ret rk post pc L (vI x :: S) σ := by rw [e]; exact k
theorem ok_wr {x : Int} (k : ok X R own cc nL ret rk post pc L (vI (wr x) :: S) σ) : ok X R own cc nL ret rk post pc L (vI x :: S) σ := by
  have e : vI (wr x) = vI x := congrArg Value.int (Int32.ofInt_toInt _)
  rw [← e]; exact k
theorem ok_strlen {i idx : Nat} (hd : decode cc pc = .ok (.invokevirtual idx, 3)) (hlk : Cond.methodLink own idx yJ0_length_8abf5 ∈ BIG) (hi : i < 6) (hR : (Nat.ble 4 R.frames && Nat.ble 85 R.locals && Nat.ble ((S.map fun v => v.category).sum) 8) = true) (k : ok X R own cc nL ret rk post (pc + 3) L (vI (strL i) :: S) σ) : ok X R own cc nL ret rk post pc L (.ref (X.2.2.2.1 i) :: S) σ := by
  simp only [Bool.and_eq_true, Nat.ble_eq] at hR
  refine ok_callK (As := []) (rest := S) hd me_J0_length_8abf5 hlk hi ⟨by decide, by decide, rfl⟩ rfl ⟨rfl, rfl, Nat.ble_eq.mpr (by show 2 ≤ R.frames; omega), Nat.ble_eq.mpr (by show 40 ≤ R.locals; omega)⟩ rfl (Nat.ble_eq.mpr hR.2) (c_J0_length X hi) (fun r τ hr hp => ?_)
  obtain ⟨rfl, rfl⟩ := hp
  exact k
theorem ok_charAt {i idx : Nat} {x : Int} (hd : decode cc pc = .ok (.invokevirtual idx, 3)) (hlk : Cond.methodLink own idx yJ0_charAt_5068e ∈ BIG) (hi : i < 6) (h0 : 0 ≤ x) (h1 : x < strL i) (hR : (Nat.ble 4 R.frames && Nat.ble 85 R.locals && Nat.ble ((S.map fun v => v.category).sum) 8) = true) (k : ok X R own cc nL ret rk post (pc + 3) L (vI (strC i x) :: S) σ) : ok X R own cc nL ret rk post pc L (vI x :: .ref (X.2.2.2.1 i) :: S) σ := by
  simp only [Bool.and_eq_true, Nat.ble_eq] at hR
  refine ok_callK (As := [vI x]) (rest := S) hd me_J0_charAt_5068e hlk hi ⟨by decide, by decide, rfl⟩ rfl ⟨rfl, rfl, Nat.ble_eq.mpr (by show 4 ≤ R.frames; omega), Nat.ble_eq.mpr (by show 85 ≤ R.locals; omega)⟩ rfl (Nat.ble_eq.mpr hR.2) (c_J0_charAt X hi h0 h1) (fun r τ hr hp => ?_)
  obtain ⟨rfl, rfl⟩ := hp
  exact k
end STR
