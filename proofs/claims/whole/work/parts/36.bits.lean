/-! PURE FACTS, 7: words as sets of bits -/
def Bt (x : Int) (k : Nat) : Bool := (Int32.ofInt x).toBitVec.getLsbD k
theorem ofInt_toInt32 (a : Int32) : Int32.ofInt a.toInt = a := Int32.ofInt_toInt a
theorem Bt_and (x y : Int) (k : Nat) : Bt (iand x y) k = (Bt x k && Bt y k) := by
  unfold Bt iand; rw [ofInt_toInt32]; simp
theorem Bt_or (x y : Int) (k : Nat) : Bt (ior x y) k = (Bt x k || Bt y k) := by
  unfold Bt ior; rw [ofInt_toInt32]; simp
theorem Bt_ext {x y : Int} (hx : inR x) (hy : inR y) (h : ∀ k, k < 32 → Bt x k = Bt y k) : x = y := by
  have e : Int32.ofInt x = Int32.ofInt y := by
    apply Int32.toBitVec_inj.mp
    apply BitVec.eq_of_getLsbD_eq
    intro k hk
    exact h k hk
  have a : (Int32.ofInt x).toInt = x := Int32.toInt_ofInt_of_le (by omega) (by omega)
  have b : (Int32.ofInt y).toInt = y := Int32.toInt_ofInt_of_le (by omega) (by omega)
  rw [← a, ← b, e]
theorem iand_rng (x y : Int) : inR (iand x y) := by
  unfold iand; exact ⟨Int32.le_toInt _, Int32.toInt_le _⟩
theorem ior_rng (x y : Int) : inR (ior x y) := by
  unfold ior; exact ⟨Int32.le_toInt _, Int32.toInt_le _⟩
theorem ishl_rng (x y : Int) : inR (ishl x y) := by
  unfold ishl; exact ⟨Int32.le_toInt _, Int32.toInt_le _⟩
theorem ishr_rng (x y : Int) : inR (ishr x y) := by
  unfold ishr; exact ⟨Int32.le_toInt _, Int32.toInt_le _⟩
theorem Bt_0 (k : Nat) : Bt 0 k = false := by
  unfold Bt
  have : (Int32.ofInt 0).toBitVec = 0#32 := rfl
  rw [this]; simp
theorem Bt_1 (k : Nat) : Bt 1 k = decide (k = 0) := by
  unfold Bt
  have : (Int32.ofInt 1).toBitVec = 1#32 := rfl
  rw [this]
  by_cases h : k = 0
  · subst h; rfl
  · simp [h, BitVec.getLsbD_one]
theorem sh32 : ∀ i : Fin 32, (Int32.ofInt ((i.val : Nat) : Int) &&& 31) = Int32.ofInt ((i.val : Nat) : Int) := by decide
theorem Bt_shl1 {i : Nat} (hi : i < 32) (k : Nat) (hk : k < 32) : Bt (ishl 1 i) k = decide (k = i) := by
  have a : ∀ i : Fin 32, ∀ k : Fin 32, ((Int32.ofInt 1 <<< (Int32.ofInt ((i.val : Nat) : Int) &&& 31)).toBitVec.getLsbD k.val) = decide (k.val = i.val) := by decide
  unfold Bt ishl
  rw [ofInt_toInt32]
  exact a ⟨i, hi⟩ ⟨k, hk⟩
theorem Bt_has (x : Int) {i : Nat} (hi : i < 32) : iand (ishr x i) 1 = if Bt x i then 1 else 0 := by
  refine Bt_ext (iand_rng _ _) (by split <;> omega) (fun k hk => ?_)
  rw [Bt_and, Bt_1]
  by_cases h : k = 0
  · subst h
    have e : Bt (ishr x i) 0 = Bt x i := by
      unfold Bt ishr
      rw [ofInt_toInt32]
      have a : ∀ i : Fin 32, ((Int32.ofInt ((i.val : Nat) : Int) &&& 31).toBitVec.smod 32#32).toNat = i.val := by decide
      rw [Int32.toBitVec_shiftRight]
      simp [BitVec.getLsbD_sshiftRight]
      have b := a ⟨i, hi⟩
      simp at b
      rw [b]
      rw [BitVec.getElem_sshiftRight]
      simp [hi]
    rw [e]
    by_cases q : Bt x i = true
    · rw [if_pos q, q, Bt_1]; rfl
    · rw [if_neg q, Bt_0]; simp at q; rw [q]; rfl
  · have z : decide (k = 0) = false := by simp [h]
    rw [z, Bool.and_false]
    by_cases q : Bt x i = true
    · rw [if_pos q, Bt_1, z]
    · rw [if_neg q, Bt_0]
theorem ofInt_i32 {x : Int} (h : inR x) : (Int32.ofInt x).toInt = x := Int32.toInt_ofInt_of_le (by omega) (by omega)
theorem i2b_and (x : Int) : iand (i2bI x) 255 = iand x 255 := by
  refine Bt_ext (iand_rng _ _) (iand_rng _ _) (fun k hk => ?_)
  rw [Bt_and, Bt_and]
  by_cases h : k < 8
  · have e : Bt (i2bI x) k = Bt x k := by
      unfold Bt i2bI
      rw [ofInt_toInt32]
      generalize Int32.ofInt x = a
      simp [BitVec.getLsbD_signExtend, BitVec.getElem_signExtend, h, hk]
    rw [e]
  · have e : Bt 255 k = false := by
      have a : ∀ k : Fin 32, ¬ k.val < 8 → Bt 255 k.val = false := by decide
      exact a ⟨k, hk⟩ h
    rw [e, Bool.and_false, Bool.and_false]
theorem iand255 (x : Int) : 0 ≤ iand x 255 ∧ iand x 255 ≤ 255 := by
  unfold iand
  have e : (Int32.ofInt x &&& Int32.ofInt 255).toBitVec = (Int32.ofInt x).toBitVec &&& 255#32 := rfl
  have n : ((Int32.ofInt x).toBitVec &&& 255#32).toNat ≤ 255 := by
    rw [BitVec.toNat_and]; exact Nat.and_le_right
  have t : (Int32.ofInt x &&& Int32.ofInt 255).toInt = ((Int32.ofInt x).toBitVec &&& 255#32).toInt := rfl
  rw [t, BitVec.toInt_eq_toNat_of_lt (by omega)]
  omega
