/-! PURE FACTS, 13: sets made in a loop -/
theorem Bt_nat {n : Nat} (k : Nat) : Bt (n : Int) k = (decide (k < 32) && n.testBit k) := by
  unfold Bt
  have t : (Int32.ofInt (n : Int)).toBitVec = BitVec.ofNat 32 n := by
    show BitVec.ofInt 32 (n : Int) = _
    rw [BitVec.ofInt_natCast]
  rw [t, BitVec.getLsbD_ofNat]
theorem Bt_nn {x : Int} (hx : inR x) (h : ∀ k, 30 ≤ k → k < 32 → Bt x k = false) : ∃ n : Nat, x = n ∧ n < 1073741824 := by
  have l : (Int32.ofInt x).toBitVec.toNat < 2 ^ 30 := by
    apply Nat.lt_pow_two_of_testBit
    intro i hi
    by_cases h32 : i < 32
    · exact h i hi h32
    · exact BitVec.getLsbD_of_ge _ _ (by omega)
  refine ⟨(Int32.ofInt x).toBitVec.toNat, ?_, l⟩
  have e := ofInt_i32 hx
  have t : (Int32.ofInt x).toInt = (Int32.ofInt x).toBitVec.toInt := rfl
  rw [t, BitVec.toInt_eq_toNat_of_lt (by omega)] at e
  exact e.symm
def orF (P : Nat → Prop) [DecidablePred P] : Nat → Int
  | 0 => 0
  | n + 1 => if P n then ior (orF P n) (ishl 1 n) else orF P n
def cntF (P : Nat → Prop) [DecidablePred P] : Nat → Nat
  | 0 => 0
  | n + 1 => cntF P n + if P n then 1 else 0
theorem orF_congr {P R : Nat → Prop} [DecidablePred P] [DecidablePred R] : ∀ {n : Nat}, (∀ k, k < n → (P k ↔ R k)) → orF P n = orF R n := by
  intro n
  induction n with
  | zero => intro _; rfl
  | succ n ih =>
    intro h
    show (if P n then ior (orF P n) (ishl 1 n) else orF P n) = (if R n then ior (orF R n) (ishl 1 n) else orF R n)
    rw [ih (fun k hk => h k (by omega))]
    by_cases q : R n
    · rw [if_pos q, if_pos ((h n (by omega)).mpr q)]
    · rw [if_neg q, if_neg (fun z => q ((h n (by omega)).mp z))]
theorem cntF_congr {P R : Nat → Prop} [DecidablePred P] [DecidablePred R] : ∀ {n : Nat}, (∀ k, k < n → (P k ↔ R k)) → cntF P n = cntF R n := by
  intro n
  induction n with
  | zero => intro _; rfl
  | succ n ih =>
    intro h
    show cntF P n + (if P n then 1 else 0) = cntF R n + (if R n then 1 else 0)
    rw [ih (fun k hk => h k (by omega))]
    by_cases q : R n
    · rw [if_pos q, if_pos ((h n (by omega)).mpr q)]
    · rw [if_neg q, if_neg (fun z => q ((h n (by omega)).mp z))]
theorem cntF_le {P : Nat → Prop} [DecidablePred P] : ∀ n : Nat, cntF P n ≤ n := by
  intro n
  induction n with
  | zero => exact Nat.le_refl _
  | succ n ih =>
    show cntF P n + (if P n then 1 else 0) ≤ n + 1
    split <;> omega
theorem orF_rng {P : Nat → Prop} [DecidablePred P] : ∀ n : Nat, inR (orF P n) := by
  intro n
  cases n with
  | zero => exact ⟨by show (-2147483648 : Int) ≤ 0; omega, by show (0 : Int) ≤ 2147483647; omega⟩
  | succ n =>
    induction n with
    | zero =>
      show inR (if P 0 then ior (orF P 0) (ishl 1 ((0 : Nat) : Int)) else 0)
      split
      · exact ior_rng _ _
      · exact ⟨by omega, by omega⟩
    | succ n ih =>
      show inR (if P (n + 1) then ior (orF P (n + 1)) (ishl 1 ((n + 1 : Nat) : Int)) else orF P (n + 1))
      split
      · exact ior_rng _ _
      · exact ih
theorem orF_Bt {P : Nat → Prop} [DecidablePred P] : ∀ n : Nat, n ≤ 32 → ∀ k, k < 32 → Bt (orF P n) k = decide (k < n ∧ P k) := by
  intro n
  induction n with
  | zero => intro _ k _; show Bt 0 k = _; rw [Bt_0]; simp
  | succ n ih =>
    intro hn k hk
    show Bt (if P n then ior (orF P n) (ishl 1 n) else orF P n) k = _
    by_cases q : P n
    · rw [if_pos q, Bt_or, ih (by omega) k hk, Bt_shl1 (by omega) k hk]
      by_cases e : k = n
      · subst e; simp [q]
      · have : (k < n ∧ P k) ↔ (k < n + 1 ∧ P k) := ⟨fun z => ⟨by omega, z.2⟩, fun z => ⟨by omega, z.2⟩⟩
        simp [e, this]
    · rw [if_neg q, ih (by omega) k hk]
      have : (k < n ∧ P k) ↔ (k < n + 1 ∧ P k) := ⟨fun z => ⟨by omega, z.2⟩, fun z => ⟨by
        have : k ≠ n := fun e => by subst e; exact q z.2
        omega, z.2⟩⟩
      simp [this]
theorem orF_nat {P : Nat → Prop} [DecidablePred P] {n : Nat} (hn : n ≤ 30) : ∃ m : Nat, orF P n = m ∧ m < 1073741824 := by
  refine Bt_nn (orF_rng n) (fun k h1 h2 => ?_)
  rw [orF_Bt n (by omega) k h2]
  simp; omega
theorem bitsN_cnt {P : Nat → Prop} [DecidablePred P] {m : Nat} : ∀ n : Nat, (∀ k, k < n → m.testBit k = decide (P k)) → bitsN m n = cntF P n := by
  intro n
  induction n with
  | zero => intro _; rfl
  | succ n ih =>
    intro h
    show bitsN m n + (m.testBit n).toNat = cntF P n + (if P n then 1 else 0)
    rw [ih (fun k hk => h k (by omega)), h n (by omega)]
    by_cases q : P n <;> simp [q]
theorem cntF_cut {P : Nat → Prop} [DecidablePred P] {n : Nat} : ∀ d : Nat, cntF (fun k => k < n ∧ P k) (n + d) = cntF P n := by
  intro d
  induction d with
  | zero => exact cntF_congr (fun k hk => ⟨fun z => z.2, fun z => ⟨hk, z⟩⟩)
  | succ d ih =>
    show cntF (fun k => k < n ∧ P k) (n + d) + (if n + d < n ∧ P (n + d) then 1 else 0) = _
    rw [ih, if_neg (by omega)]; rfl
theorem s_bitsF {P : Nat → Prop} [DecidablePred P] {n : Nat} (hn : n ≤ 30) {σ : Mem} {Q : Int → Mem → Prop} (h : Q (cntF P n : Nat) σ) : v_J6_bitCount_0f7a4 (orF P n) σ Q := by
  obtain ⟨m, e, l⟩ := orF_nat (P := P) hn
  have b : bitsN m 32 = cntF P n := by
    rw [bitsN_cnt (P := fun k => k < n ∧ P k) 32 (fun k hk => ?_)]
    · have := cntF_cut (P := P) (n := n) (32 - n)
      rw [show n + (32 - n) = 32 by omega] at this
      exact this
    · have z := orF_Bt (P := P) n (by omega) k hk
      rw [e, Bt_nat] at z
      simpa [hk] using z
  rw [e]
  refine s_bits l ?_
  rw [b]; exact h
theorem s_size {m : Nat} (hm : m < 1073741824) {σ : Mem} {Q : Int → Mem → Prop} (h : Q (bitsN m 32 : Nat) σ) : v_X12_sizeOf m σ Q := by
  unfold v_X12_sizeOf
  have top : bitsN m 32 = bitsN m 30 := by
    show bitsN m 30 + (m.testBit 30).toNat + (m.testBit 31).toNat = _
    rw [Nat.testBit_lt_two_pow (by omega), Nat.testBit_lt_two_pow (by omega)]; rfl
  refine lp1a (l_X12_sizeOf_4 m Q) (fun k a s => a = (bitsN m k : Nat) ∧ s = σ) 30 0 σ ⟨rfl, rfl⟩ ?_ ?_
  · rintro n a b ⟨rfl, rfl⟩
    rw [l_X12_sizeOf_4, if_neg (by decide)]
    rw [top] at h; exact h
  · rintro n k a b hk ⟨rfl, rfl⟩ ih
    rw [l_X12_sizeOf_4, if_pos (by omega)]
    have l := bitsN_le m k
    rw [Bt_has _ (by omega), Bt_nat]
    have e : (if (decide (k < 32) && m.testBit k) = true then (1 : Int) else 0) = ((m.testBit k).toNat : Int) := by
      have : k < 32 := by omega
      cases m.testBit k <;> simp [this]
    rw [e]
    have l2 := Bool.toNat_le (m.testBit k)
    refine ⟨⟨by omega, by omega⟩, ⟨by omega, by omega⟩, ih _ _ ⟨?_, rfl⟩⟩
    show _ = ((bitsN m k + (m.testBit k).toNat : Nat) : Int)
    omega
theorem s_sizeF {P : Nat → Prop} [DecidablePred P] {n : Nat} (hn : n ≤ 30) {σ : Mem} {Q : Int → Mem → Prop} (h : Q (cntF P n : Nat) σ) : v_X12_sizeOf (orF P n) σ Q := by
  obtain ⟨m, e, l⟩ := orF_nat (P := P) hn
  have b : bitsN m 32 = cntF P n := by
    rw [bitsN_cnt (P := fun k => k < n ∧ P k) 32 (fun k hk => ?_)]
    · have := cntF_cut (P := P) (n := n) (32 - n)
      rw [show n + (32 - n) = 32 by omega] at this
      exact this
    · have z := orF_Bt (P := P) n (by omega) k hk
      rw [e, Bt_nat] at z
      simpa [hk] using z
  rw [e]
  refine s_size l ?_
  rw [b]; exact h
