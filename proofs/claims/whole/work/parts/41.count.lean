/-! PURE FACTS, 12: how many bits a word has -/
theorem iand_nat {a b : Nat} (ha : a < 2147483648) (hb : b < 2147483648) : iand a b = ((a &&& b : Nat) : Int) := by
  unfold iand
  have t : (Int32.ofInt (a : Int) &&& Int32.ofInt (b : Int)).toInt = (BitVec.ofInt 32 (a : Int) &&& BitVec.ofInt 32 (b : Int)).toInt := rfl
  have na : (BitVec.ofInt 32 (a : Int)).toNat = a := by rw [BitVec.ofInt_natCast, BitVec.toNat_ofNat]; omega
  have nb : (BitVec.ofInt 32 (b : Int)).toNat = b := by rw [BitVec.ofInt_natCast, BitVec.toNat_ofNat]; omega
  have n : (BitVec.ofInt 32 (a : Int) &&& BitVec.ofInt 32 (b : Int)).toNat = a &&& b := by rw [BitVec.toNat_and, na, nb]
  have l : a &&& b ≤ a := Nat.and_le_left
  rw [t, BitVec.toInt_eq_toNat_of_lt (by rw [n]; omega), n]
theorem iushr_nat {a : Nat} (ha : a < 2147483648) {y : Nat} (hy : y < 32) : iushr a y = ((a / 2 ^ y : Nat) : Int) := by
  unfold iushr
  have s : ∀ i : Fin 32, ((Int32.ofInt ((i.val : Nat) : Int)).toUInt32 &&& Int32.toUInt32 31).toNat = i.val := by decide
  have t : ∀ u : UInt32, u.toInt32.toInt = u.toBitVec.toInt := fun _ => rfl
  have na : (Int32.ofInt (a : Int)).toUInt32.toNat = a := by
    show (BitVec.ofInt 32 (a : Int)).toNat = a
    rw [BitVec.ofInt_natCast, BitVec.toNat_ofNat]; omega
  have n : ((Int32.ofInt (a : Int)).toUInt32 >>> ((Int32.ofInt (y : Int)).toUInt32 &&& Int32.toUInt32 31)).toBitVec.toNat = a / 2 ^ y := by
    show ((Int32.ofInt (a : Int)).toUInt32 >>> ((Int32.ofInt (y : Int)).toUInt32 &&& Int32.toUInt32 31)).toNat = a / 2 ^ y
    rw [UInt32.toNat_shiftRight, na, s ⟨y, hy⟩, Nat.shiftRight_eq_div_pow, Nat.mod_eq_of_lt hy]
  have l : a / 2 ^ y ≤ a := Nat.div_le_self _ _
  rw [t, BitVec.toInt_eq_toNat_of_lt (by rw [n]; omega), n]
theorem land8 {q b M m : Nat} (hb : b < 256) (hm : m < 256) : (256 * q + b) &&& (256 * M + m) = 256 * (q &&& M) + (b &&& m) := by
  apply Nat.eq_of_testBit_eq
  intro i
  have l : b &&& m < 2 ^ 8 := Nat.lt_of_le_of_lt Nat.and_le_left hb
  have hb' : b < 2 ^ 8 := hb
  have hm' : m < 2 ^ 8 := hm
  rw [Nat.testBit_and, show 256 = 2 ^ 8 from rfl, Nat.testBit_two_pow_mul_add _ hb', Nat.testBit_two_pow_mul_add _ hm', Nat.testBit_two_pow_mul_add _ l]
  by_cases h : i < 8
  · simp [h]
  · simp [h]
def stA (M n : Nat) : Nat := n - ((n / 2) &&& M)
def stB (M n : Nat) : Nat := (n &&& M) + ((n / 4) &&& M)
def stC (M n : Nat) : Nat := (n + n / 16) &&& M
theorem lowA : ∀ b : Fin 256, ∀ r : Fin 2, (128 * r.val + b.val / 2) &&& 85 = (b.val / 2) &&& 85 := by decide +kernel
theorem lowB : ∀ b : Fin 256, ∀ r : Fin 4, (64 * r.val + b.val / 4) &&& 51 = (b.val / 4) &&& 51 := by decide +kernel
theorem lowC : ∀ b : Fin 69, ∀ r : Fin 5, b.val % 16 ≤ 4 → (16 * r.val + (b.val + b.val / 16)) &&& 15 = (b.val + b.val / 16) &&& 15 := by decide +kernel
theorem stA8 {q b M : Nat} (hb : b < 256) : stA (256 * M + 85) (256 * q + b) = 256 * stA M q + stA 85 b := by
  unfold stA
  have e : (256 * q + b) / 2 = 256 * (q / 2) + (128 * (q % 2) + b / 2) := by omega
  have lw : (128 * (q % 2) + b / 2) &&& 85 = (b / 2) &&& 85 := lowA ⟨b, hb⟩ ⟨q % 2, by omega⟩
  rw [e, land8 (by omega) (by decide), lw]
  have l1 : (q / 2) &&& M ≤ q / 2 := Nat.and_le_left
  have l2 : (b / 2) &&& 85 ≤ b / 2 := Nat.and_le_left
  omega
theorem stB8 {q b M : Nat} (hb : b < 256) : stB (256 * M + 51) (256 * q + b) = 256 * stB M q + stB 51 b := by
  unfold stB
  have e : (256 * q + b) / 4 = 256 * (q / 4) + (64 * (q % 4) + b / 4) := by omega
  have lw : (64 * (q % 4) + b / 4) &&& 51 = (b / 4) &&& 51 := lowB ⟨b, hb⟩ ⟨q % 4, by omega⟩
  rw [e, land8 hb (by decide), land8 (by omega) (by decide), lw]
  omega
theorem stC8 {q b M : Nat} (hb : b ≤ 68) (hb2 : b % 16 ≤ 4) (hq : q % 16 ≤ 4) : stC (256 * M + 15) (256 * q + b) = 256 * stC M q + stC 15 b := by
  unfold stC
  have e : 256 * q + b + (256 * q + b) / 16 = 256 * (q + q / 16) + (16 * (q % 16) + (b + b / 16)) := by omega
  have lw : (16 * (q % 16) + (b + b / 16)) &&& 15 = (b + b / 16) &&& 15 := lowC ⟨b, by omega⟩ ⟨q % 16, by omega⟩ hb2
  rw [e, land8 (by omega) (by decide), lw]
def pc8 (b : Nat) : Nat := stC 15 (stB 51 (stA 85 b))
def bitsN (b : Nat) : Nat → Nat
  | 0 => 0
  | k + 1 => bitsN b k + (b.testBit k).toNat
theorem pc8_ok : ∀ b : Fin 256, stA 85 b.val < 256 ∧ stB 51 (stA 85 b.val) ≤ 68 ∧ stB 51 (stA 85 b.val) % 16 ≤ 4 ∧ pc8 b.val = bitsN b.val 8 ∧ bitsN b.val 8 ≤ 8 := by decide +kernel
theorem pc8_at {b : Nat} (h : b < 256) : stA 85 b < 256 ∧ stB 51 (stA 85 b) ≤ 68 ∧ stB 51 (stA 85 b) % 16 ≤ 4 ∧ pc8 b = bitsN b 8 ∧ bitsN b 8 ≤ 8 := pc8_ok ⟨b, h⟩
theorem swar {b0 b1 b2 b3 : Nat} (h0 : b0 < 256) (h1 : b1 < 256) (h2 : b2 < 256) (h3 : b3 < 256) : stC 252645135 (stB 858993459 (stA 1431655765 (b0 + 256 * b1 + 65536 * b2 + 16777216 * b3))) = pc8 b0 + 256 * pc8 b1 + 65536 * pc8 b2 + 16777216 * pc8 b3 := by
  have e : b0 + 256 * b1 + 65536 * b2 + 16777216 * b3 = 256 * (256 * (256 * b3 + b2) + b1) + b0 := by omega
  have p0 := pc8_at h0; have p1 := pc8_at h1; have p2 := pc8_at h2; have p3 := pc8_at h3
  rw [e, show 1431655765 = 256 * (256 * (256 * 85 + 85) + 85) + 85 from rfl, show 858993459 = 256 * (256 * (256 * 51 + 51) + 51) + 51 from rfl, show 252645135 = 256 * (256 * (256 * 15 + 15) + 15) + 15 from rfl]
  rw [stA8 h0, stA8 h1, stA8 h2, stB8 p0.1, stB8 p1.1, stB8 p2.1, stC8 p0.2.1 p0.2.2.1 (by omega), stC8 p1.2.1 p1.2.2.1 (by omega), stC8 p2.2.1 p2.2.2.1 (by omega)]
  show 256 * (256 * (256 * pc8 b3 + pc8 b2) + pc8 b1) + pc8 b0 = _
  omega
theorem bitsN_le (n : Nat) : ∀ k, bitsN n k ≤ k := by
  intro k
  induction k with
  | zero => exact Nat.le_refl _
  | succ k ih => show bitsN n k + (n.testBit k).toNat ≤ k + 1; have := Bool.toNat_le (n.testBit k); omega
theorem bitsN_add (b q : Nat) (hb : b < 256) : ∀ k, bitsN (256 * q + b) (8 + k) = bitsN b 8 + bitsN q k := by
  have hb' : b < 2 ^ 8 := hb
  have lo : ∀ k, k ≤ 8 → bitsN (256 * q + b) k = bitsN b k := by
    intro k
    induction k with
    | zero => intro _; rfl
    | succ k ih =>
      intro h
      show bitsN (256 * q + b) k + ((256 * q + b).testBit k).toNat = bitsN b k + (b.testBit k).toNat
      rw [ih (by omega), show 256 * q + b = 2 ^ 8 * q + b from rfl, Nat.testBit_two_pow_mul_add _ hb', if_pos (by omega)]
  intro k
  induction k with
  | zero => exact lo 8 (by omega)
  | succ k ih =>
    show bitsN (256 * q + b) (8 + k) + ((256 * q + b).testBit (8 + k)).toNat = bitsN b 8 + (bitsN q k + (q.testBit k).toNat)
    rw [ih, show 256 * q + b = 2 ^ 8 * q + b from rfl, Nat.testBit_two_pow_mul_add _ hb', if_neg (by omega), show 8 + k - 8 = k by omega]
    omega
theorem bits_all {b0 b1 b2 b3 : Nat} (h0 : b0 < 256) (h1 : b1 < 256) (h2 : b2 < 256) (h3 : b3 < 256) : bitsN (b0 + 256 * b1 + 65536 * b2 + 16777216 * b3) 32 = bitsN b0 8 + bitsN b1 8 + bitsN b2 8 + bitsN b3 8 := by
  have e : b0 + 256 * b1 + 65536 * b2 + 16777216 * b3 = 256 * (256 * (256 * b3 + b2) + b1) + b0 := by omega
  rw [e, show 32 = 8 + 24 from rfl, bitsN_add _ _ h0, show 24 = 8 + 16 from rfl, bitsN_add _ _ h1, show 16 = 8 + 8 from rfl, bitsN_add _ _ h2]
  omega
theorem s_bits {n : Nat} (hn : n < 1073741824) {σ : Mem} {Q : Int → Mem → Prop} (h : Q (bitsN n 32 : Nat) σ) : v_J6_bitCount_0f7a4 n σ Q := by
  unfold v_J6_bitCount_0f7a4
  obtain ⟨b0, b1, b2, b3, h0, h1, h2, h3, e⟩ : ∃ b0 b1 b2 b3, b0 < 256 ∧ b1 < 256 ∧ b2 < 256 ∧ b3 < 256 ∧ n = b0 + 256 * b1 + 65536 * b2 + 16777216 * b3 := ⟨n % 256, n / 256 % 256, n / 65536 % 256, n / 16777216, by omega, by omega, by omega, by omega, by omega⟩
  have sw := swar h0 h1 h2 h3
  rw [← e] at sw
  have p0 := pc8_at h0; have p1 := pc8_at h1; have p2 := pc8_at h2; have p3 := pc8_at h3
  have ba := bits_all h0 h1 h2 h3
  rw [← e] at ba
  have l1 : (n / 2) &&& 1431655765 ≤ n / 2 := Nat.and_le_left
  have eA : (n : Int) - iand (iushr n 1) 1431655765 = (stA 1431655765 n : Nat) := by
    rw [show (1 : Int) = ((1 : Nat) : Int) from rfl, iushr_nat (by omega) (by decide), show (1431655765 : Int) = ((1431655765 : Nat) : Int) from rfl, iand_nat (by omega) (by omega), show n / 2 ^ 1 = n / 2 from rfl]
    unfold stA
    omega
  rw [eA]
  have lA : stA 1431655765 n ≤ n := Nat.sub_le _ _
  generalize stA 1431655765 n = a at sw lA
  have lB1 : a &&& 858993459 ≤ 858993459 := Nat.and_le_right
  have lB2 : (a / 4) &&& 858993459 ≤ 858993459 := Nat.and_le_right
  have eB : iand a 858993459 + iand (iushr a 2) 858993459 = (stB 858993459 a : Nat) := by
    rw [show (2 : Int) = ((2 : Nat) : Int) from rfl, iushr_nat (by omega) (by decide), show (858993459 : Int) = ((858993459 : Nat) : Int) from rfl, iand_nat (by omega) (by omega), iand_nat (by omega) (by omega), show a / 2 ^ 2 = a / 4 from rfl]
    unfold stB
    omega
  rw [eB]
  have lB : stB 858993459 a < 1717986919 := by unfold stB; omega
  generalize stB 858993459 a = b at sw lB
  have eC : iand ((b : Int) + iushr b 4) 252645135 = (stC 252645135 b : Nat) := by
    rw [show (4 : Int) = ((4 : Nat) : Int) from rfl, iushr_nat (by omega) (by decide)]
    have : (b : Int) + ((b / 2 ^ 4 : Nat) : Int) = ((b + b / 16 : Nat) : Int) := by omega
    rw [this, show (252645135 : Int) = ((252645135 : Nat) : Int) from rfl, iand_nat (by omega) (by omega)]
    rfl
  rw [eC, sw]
  generalize hc : pc8 b0 + 256 * pc8 b1 + 65536 * pc8 b2 + 16777216 * pc8 b3 = c
  have eD : (c : Int) + iushr c 8 = ((c + c / 256 : Nat) : Int) := by
    rw [show (8 : Int) = ((8 : Nat) : Int) from rfl, iushr_nat (by omega) (by decide)]
    omega
  rw [eD]
  have eE : ((c + c / 256 : Nat) : Int) + iushr ((c + c / 256 : Nat) : Int) 16 = ((c + c / 256 + (c + c / 256) / 65536 : Nat) : Int) := by
    rw [show (16 : Int) = ((16 : Nat) : Int) from rfl, iushr_nat (by omega) (by decide)]
    omega
  rw [eE, show (63 : Int) = ((63 : Nat) : Int) from rfl, iand_nat (by omega) (by omega), show 63 = 2 ^ 6 - 1 from rfl, Nat.and_two_pow_sub_one_eq_mod]
  have fin : (c + c / 256 + (c + c / 256) / 65536) % 2 ^ 6 = bitsN n 32 := by
    have a0 := p0.2.2.2; have a1 := p1.2.2.2; have a2 := p2.2.2.2; have a3 := p3.2.2.2
    clear p0 p1 p2 p3 sw e eA eB eC eD eE lA lB lB1 lB2 l1
    generalize bitsN b0 8 = x0 at a0 ba
    generalize bitsN b1 8 = x1 at a1 ba
    generalize bitsN b2 8 = x2 at a2 ba
    generalize bitsN b3 8 = x3 at a3 ba
    rw [a0.1, a1.1, a2.1, a3.1] at hc
    have q1 : c / 256 = x1 + 256 * x2 + 65536 * x3 := by omega
    rw [q1]
    have q2 : (c + (x1 + 256 * x2 + 65536 * x3)) / 65536 = x2 + x3 + 256 * x3 := by omega
    rw [q2, ba]
    have q3 : c + (x1 + 256 * x2 + 65536 * x3) + (x2 + x3 + 256 * x3) = (x0 + x1 + x2 + x3) + 2 ^ 6 * (4 * (x1 + x2 + x3) + 1024 * (x2 + x3) + 262144 * x3) := by omega
    rw [q3, Nat.add_mul_mod_self_left]
    exact Nat.mod_eq_of_lt (by omega)
  rw [fin]; exact h
