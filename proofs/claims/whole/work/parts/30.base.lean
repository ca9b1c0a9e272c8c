/-! PURE FACTS, 1: numbers, small methods, the tie between the two objects -/
theorem s_isDay_t {p : Int} {σ : Mem} {Q : Int → Mem → Prop} (h : 0 ≤ p ∧ p ≤ 9999) : v_X11_isDay p σ Q = Q 1 σ := by
  unfold v_X11_isDay; rw [if_neg (by omega), if_neg (by omega)]
theorem s_isDay_f {p : Int} {σ : Mem} {Q : Int → Mem → Prop} (h : ¬ (0 ≤ p ∧ p ≤ 9999)) : v_X11_isDay p σ Q = Q 0 σ := by
  unfold v_X11_isDay
  by_cases q : p < 0
  · rw [if_pos q]
  · rw [if_neg q, if_pos (by omega)]
theorem s_isHand_t {p : Int} {σ : Mem} {Q : Int → Mem → Prop} (h : 0 ≤ p ∧ p ≤ 5) : v_X11_isHand p σ Q = Q 1 σ := by
  unfold v_X11_isHand; rw [if_neg (by omega), if_pos (by omega)]
theorem s_isHand_f {p : Int} {σ : Mem} {Q : Int → Mem → Prop} (h : ¬ (0 ≤ p ∧ p ≤ 5)) : v_X11_isHand p σ Q = Q 0 σ := by
  unfold v_X11_isHand
  by_cases q : p < 0
  · rw [if_pos q]
  · rw [if_neg q, if_neg (by omega)]
theorem s_isMeasure_t {p : Int} {σ : Mem} {Q : Int → Mem → Prop} (h : 0 ≤ p ∧ p ≤ 3) : v_X11_isMeasure p σ Q = Q 1 σ := by
  unfold v_X11_isMeasure; rw [if_neg (by omega), if_pos (by omega)]
theorem s_isMeasure_f {p : Int} {σ : Mem} {Q : Int → Mem → Prop} (h : ¬ (0 ≤ p ∧ p ≤ 3)) : v_X11_isMeasure p σ Q = Q 0 σ := by
  unfold v_X11_isMeasure
  by_cases q : p < 0
  · rw [if_pos q]
  · rw [if_neg q, if_neg (by omega)]
theorem s_isTold_t {p : Int} {σ : Mem} {Q : Int → Mem → Prop} (h : 0 ≤ p ∧ p ≤ 999) : v_X11_isTold p σ Q = Q 1 σ := by
  unfold v_X11_isTold; rw [if_neg (by omega), if_neg (by omega)]
theorem s_isTold_f {p : Int} {σ : Mem} {Q : Int → Mem → Prop} (h : ¬ (0 ≤ p ∧ p ≤ 999)) : v_X11_isTold p σ Q = Q 0 σ := by
  unfold v_X11_isTold
  by_cases q : p < 0
  · rw [if_pos q]
  · rw [if_neg q, if_pos (by omega)]
theorem s_isShare_t {p : Int} {σ : Mem} {Q : Int → Mem → Prop} (h : 0 ≤ p ∧ p ≤ 999) : v_X11_isShare p σ Q = Q 1 σ := by
  unfold v_X11_isShare; rw [if_neg (by omega), if_neg (by omega)]
theorem s_isShare_f {p : Int} {σ : Mem} {Q : Int → Mem → Prop} (h : ¬ (0 ≤ p ∧ p ≤ 999)) : v_X11_isShare p σ Q = Q 0 σ := by
  unfold v_X11_isShare
  by_cases q : p < 0
  · rw [if_pos q]
  · rw [if_neg q, if_pos (by omega)]
theorem s_isSheet_t {p : Int} {σ : Mem} {Q : Int → Mem → Prop} (h : 0 ≤ p ∧ p ≤ 3) : v_X11_isSheet p σ Q = Q 1 σ := by
  unfold v_X11_isSheet; rw [if_neg (by omega), if_pos (by omega)]
theorem s_isSheet_f {p : Int} {σ : Mem} {Q : Int → Mem → Prop} (h : ¬ (0 ≤ p ∧ p ≤ 3)) : v_X11_isSheet p σ Q = Q 0 σ := by
  unfold v_X11_isSheet
  by_cases q : p < 0
  · rw [if_pos q]
  · rw [if_neg q, if_neg (by omega)]
theorem s_isLane_t {p : Int} {σ : Mem} {Q : Int → Mem → Prop} (h : 0 ≤ p ∧ p ≤ 2) : v_X11_isLane p σ Q = Q 1 σ := by
  unfold v_X11_isLane; rw [if_neg (by omega), if_neg (by omega)]
theorem s_isLane_f {p : Int} {σ : Mem} {Q : Int → Mem → Prop} (h : ¬ (0 ≤ p ∧ p ≤ 2)) : v_X11_isLane p σ Q = Q 0 σ := by
  unfold v_X11_isLane
  by_cases q : p < 0
  · rw [if_pos q]
  · rw [if_neg q, if_pos (by omega)]
theorem s_isHold_t {p : Int} {σ : Mem} {Q : Int → Mem → Prop} (h : 0 ≤ p ∧ p < σ 0 15) : v_X11_isHold p σ Q = Q 1 σ := by
  unfold v_X11_isHold; rw [if_neg (by omega), if_pos h.2]
theorem s_isHold_f {p : Int} {σ : Mem} {Q : Int → Mem → Prop} (h : ¬ (0 ≤ p ∧ p < σ 0 15)) : v_X11_isHold p σ Q = Q 0 σ := by
  unfold v_X11_isHold
  by_cases q : p < 0
  · rw [if_pos q]
  · rw [if_neg q, if_neg (by omega)]
theorem s_has_t {p : Int} {σ : Mem} {Q : Int → Mem → Prop} (h : 0 ≤ p ∧ p < σ 16 2) : v_X0_has p σ Q = Q 1 σ := by
  unfold v_X0_has; rw [if_neg (by omega), if_pos h.2]
theorem s_has_f {p : Int} {σ : Mem} {Q : Int → Mem → Prop} (h : ¬ (0 ≤ p ∧ p < σ 16 2)) : v_X0_has p σ Q = Q 0 σ := by
  unfold v_X0_has
  by_cases q : p < 0
  · rw [if_pos q]
  · rw [if_neg q, if_neg (by omega)]
theorem s_bit {p : Int} {σ : Mem} {Q : Int → Mem → Prop} : v_X11_bit p σ Q = Q (if p = 0 then 0 else 1) σ := by
  unfold v_X11_bit
  by_cases q : p = 0
  · rw [if_pos q, if_pos q]
  · rw [if_neg q, if_neg q]
theorem lcmp_lt {x y : Int} : lcmpI x y < 0 ↔ x < y := by
  unfold lcmpI
  by_cases h : y < x
  · rw [if_pos h]; omega
  · rw [if_neg h]
    by_cases h2 : x = y
    · rw [if_pos h2]; omega
    · rw [if_neg h2]; omega
theorem lcmp_gt {x y : Int} : 0 < lcmpI x y ↔ y < x := by
  unfold lcmpI
  by_cases h : y < x
  · rw [if_pos h]; omega
  · rw [if_neg h]
    by_cases h2 : x = y
    · rw [if_pos h2]; omega
    · rw [if_neg h2]; omega
theorem lcmp_eq {x y : Int} : lcmpI x y = 0 ↔ x = y := by
  unfold lcmpI
  by_cases h : y < x
  · rw [if_pos h]; omega
  · rw [if_neg h]
    by_cases h2 : x = y
    · rw [if_pos h2]; omega
    · rw [if_neg h2]; omega
theorem s_in_t {v a b : Int} {σ : Mem} {Q : Int → Mem → Prop} (h : a ≤ v ∧ v ≤ b) : v_X12_in v a b σ Q = Q 1 σ := by
  unfold v_X12_in; rw [if_neg (by rw [lcmp_lt]; omega), if_neg (by rw [lcmp_gt]; omega)]
theorem s_in_f {v a b : Int} {σ : Mem} {Q : Int → Mem → Prop} (h : ¬ (a ≤ v ∧ v ≤ b)) : v_X12_in v a b σ Q = Q 0 σ := by
  unfold v_X12_in
  by_cases q : v < a
  · rw [if_pos (lcmp_lt.mpr q)]
  · rw [if_neg (by rw [lcmp_lt]; exact q), if_pos (by rw [lcmp_gt]; omega)]
theorem s_mMeasure_t {p : Int} {σ : Mem} {Q : Int → Mem → Prop} (h : 0 ≤ p ∧ p ≤ 999) : v_X12_isMeasure p σ Q = Q 1 σ := by
  unfold v_X12_isMeasure; rw [s_in_t h]; simp
theorem s_mMeasure_f {p : Int} {σ : Mem} {Q : Int → Mem → Prop} (h : ¬ (0 ≤ p ∧ p ≤ 999)) : v_X12_isMeasure p σ Q = Q 0 σ := by
  unfold v_X12_isMeasure; rw [s_in_f h]; simp
-- sums
def sumF (f : Nat → Int) : Nat → Int
  | 0 => 0
  | n + 1 => sumF f n + f n
theorem sumF_congr {f g : Nat → Int} : ∀ {n : Nat}, (∀ k, k < n → f k = g k) → sumF f n = sumF g n := by
  intro n
  induction n with
  | zero => intro _; rfl
  | succ n ih => intro h; show sumF f n + f n = sumF g n + g n; rw [ih (fun k hk => h k (by omega)), h n (by omega)]
theorem sumF_rng {f : Nat → Int} {b : Int} : ∀ {n : Nat}, (∀ k, k < n → 0 ≤ f k ∧ f k ≤ b) → 0 ≤ sumF f n ∧ sumF f n ≤ n * b := by
  intro n
  induction n with
  | zero => intro _; show (0:Int) ≤ 0 ∧ (0:Int) ≤ ((0:Nat):Int) * b; simp
  | succ n ih =>
    intro h
    have h1 := ih (fun k hk => h k (by omega))
    have h2 := h n (by omega)
    show 0 ≤ sumF f n + f n ∧ sumF f n + f n ≤ ((n + 1 : Nat) : Int) * b
    have e : ((n + 1 : Nat) : Int) * b = n * b + b := by push_cast; rw [Int.add_mul]; omega
    rw [e]
    omega
theorem sumF_bit {P : Nat → Prop} [DecidablePred P] (n : Nat) : 0 ≤ sumF (fun k => if P k then 1 else 0) n ∧ sumF (fun k => if P k then 1 else 0) n ≤ n := by
  have h := sumF_rng (f := fun k => if P k then 1 else 0) (b := 1) (n := n) (fun k _ => by
    by_cases q : P k
    · simp [q]
    · simp [q])
  omega
/-! THE TIE -/
def core (j k : Nat) : Bool :=
  if j = 8 then k == 2 else if j = 95 then k != 5 && k != 6 else if j = 122 then !([4, 5, 6, 7, 8, 9, 18, 43, 45, 47, 49, 50, 51].elem k)
  else !([9, 10, 11, 12, 13, 97, 98, 99, 100, 101, 102, 103, 104, 105, 106, 107, 117, 131, 132, 133, 134, 135, 149, 150, 151, 152, 153, 161].elem j)
def SAME (σ0 σ : Mem) : Prop := ∀ j k, core j k = true → σ j k = σ0 j k
theorem SAME.rf {σ : Mem} : SAME σ σ := fun _ _ _ => rfl
theorem SAME.tr {σ0 σ1 σ2 : Mem} (h : SAME σ0 σ1) (h2 : SAME σ1 σ2) : SAME σ0 σ2 := fun j k q => (h2 j k q).trans (h j k q)
theorem SAME.st {σ0 σ : Mem} (h : SAME σ0 σ) {j k : Nat} {v : Int} (hc : core j k = false) : SAME σ0 (mset σ j k v) := by
  intro a b q
  unfold mset
  by_cases e : a = j ∧ b = k
  · rw [e.1, e.2, hc] at q; cases q
  · rw [if_neg e]; exact h a b q
theorem core_rng {j k : Nat} (h1 : 14 ≤ j) (h2 : j < 95) : core j k = true := by
  unfold core
  rw [if_neg (by omega), if_neg (by omega), if_neg (by omega)]
  have : [9, 10, 11, 12, 13, 97, 98, 99, 100, 101, 102, 103, 104, 105, 106, 107, 117, 131, 132, 133, 134, 135, 149, 150, 151, 152, 153, 161].elem j = false := by
    simp only [List.elem_eq_mem, decide_eq_false_iff_not, List.mem_cons, List.not_mem_nil, or_false, not_or]
    omega
  rw [this]; rfl
theorem core_sh {j k : Nat} (h1 : 108 ≤ j) (h2 : j < 117) : core j k = true := by
  unfold core
  rw [if_neg (by omega), if_neg (by omega), if_neg (by omega)]
  have : [9, 10, 11, 12, 13, 97, 98, 99, 100, 101, 102, 103, 104, 105, 106, 107, 117, 131, 132, 133, 134, 135, 149, 150, 151, 152, 153, 161].elem j = false := by
    simp only [List.elem_eq_mem, decide_eq_false_iff_not, List.mem_cons, List.not_mem_nil, or_false, not_or]
    omega
  rw [this]; rfl
def I_tape (σ : Mem) : Prop := σ 122 2 = σ 1 1 ∧ 0 ≤ σ 1 1 ∧ σ 1 1 ≤ 240 ∧ ∀ k : Nat, (k : Int) < σ 1 1 → σ 123 k = iand (σ 2 k) 255 ∧ 0 ≤ σ 123 k ∧ σ 123 k ≤ 255
def endsL : List Int := [0, 4, 10, 14, 18, 23, 27]
def lettersL : List Int := [101, 100, 103, 101, 115, 112, 114, 101, 97, 100, 103, 114, 111, 119, 107, 101, 101, 112, 111, 116, 104, 101, 114, 102, 114, 111, 109]
def I_cst (σ : Mem) : Prop := (∀ k : Nat, k < 7 → σ 124 k = endsL.getD k 0) ∧ ∀ k : Nat, k < 27 → σ 125 k = lettersL.getD k 0
def I_fault (σ : Mem) : Prop := σ 122 3 = σ 8 2 ∧ σ 122 60 = σ 0 16
def keyF (what of : Int) : Int := if what = 0 then of else if what = 1 then 8 + of else if what = 2 then 14 + of else if what = 3 then 18 else 19
def whOK (what of : Int) : Prop := (what = 0 ∧ 0 ≤ of ∧ of < 4) ∨ (what = 1 ∧ 0 ≤ of ∧ of < 6) ∨ (what = 2 ∧ 0 ≤ of ∧ of < 4) ∨ (what = 3 ∧ of = 0) ∨ (what = 4 ∧ of = 0)
def lineV (what one two : Int) : Prop := (what = 0 → 1 ≤ one ∧ one ≤ 999 ∧ 1 ≤ two ∧ two ≤ 999) ∧ (what = 1 → 0 ≤ one ∧ one ≤ 20) ∧ (what = 2 → 0 ≤ one ∧ one ≤ 50) ∧ (what = 3 → 1 ≤ one ∧ one ≤ 9999) ∧ (what = 4 → 0 ≤ one ∧ one ≤ 20)
def I_rules (σ : Mem) : Prop := σ 122 12 = σ 3 4 ∧ 0 ≤ σ 3 4 ∧ σ 3 4 ≤ 16 ∧ ∀ k : Nat, (k : Int) < σ 3 4 → σ 128 k = σ 5 k ∧ σ 129 k = σ 6 k ∧ σ 130 k = σ 7 k ∧ σ 4 k = keyF (σ 126 k) (σ 127 k) ∧ whOK (σ 126 k) (σ 127 k) ∧ lineV (σ 126 k) (σ 6 k) (σ 7 k)
def bestF (P : Nat → Prop) [DecidablePred P] (fr : Nat → Int) : Nat → Int
  | 0 => -1
  | k + 1 => if P k ∧ (bestF P fr k < 0 ∨ fr (bestF P fr k).toNat < fr k) then (k : Int) else bestF P fr k
def lineF (σ : Mem) (key d : Int) : Int := bestF (fun k => σ 4 k = key ∧ σ 5 k ≤ d) (σ 5) (σ 3 4).toNat
def usualF (r : Int) : Int := if r < 4 then 333 else if r < 8 then 667 else if r < 14 then 3 else if r < 18 then 0 else if r = 18 then 9999 else 2
def ruleF (σ : Mem) (r d : Int) : Int := if lineF σ (if r < 4 then r else if r < 8 then r - 4 else r) d < 0 then usualF r else if r < 4 then σ 6 (lineF σ r d).toNat else if r < 8 then σ 7 (lineF σ (r - 4) d).toNat else σ 6 (lineF σ r d).toNat
def I_now (σ : Mem) : Prop := σ 122 0 = σ 14 2 ∧ 0 ≤ σ 14 2 ∧ σ 14 2 ≤ 9999 ∧ ∀ r : Nat, r < 20 → σ 15 r = ruleF σ r (σ 14 2)
def I_cards (σ : Mem) : Prop := σ 122 24 = σ 16 2 ∧ 0 ≤ σ 16 2 ∧ σ 16 2 ≤ 24 ∧ (∀ c : Nat, c < 24 → σ 16 2 ≤ c → σ (23 + 3 * c) 4 = 0) ∧ ∀ c : Nat, (c : Int) < σ 16 2 →
  (σ 136 c = σ (23 + 3 * c) 0 ∧ 0 ≤ σ (23 + 3 * c) 0 ∧ σ (23 + 3 * c) 0 ≤ 5) ∧ (σ 137 c = σ (23 + 3 * c) 1 ∧ 0 ≤ σ (23 + 3 * c) 1 ∧ σ (23 + 3 * c) 1 ≤ 2) ∧ (σ 140 c = σ (23 + 3 * c) 2 ∧ 0 ≤ σ (23 + 3 * c) 2 ∧ σ (23 + 3 * c) 2 ≤ 1023) ∧ (σ 141 c = σ (23 + 3 * c) 3 ∧ 0 ≤ σ (23 + 3 * c) 3 ∧ σ (23 + 3 * c) 3 ≤ σ 14 2) ∧ (σ 143 c = σ (23 + 3 * c) 4 ∧ 0 ≤ σ (23 + 3 * c) 4 ∧ σ (23 + 3 * c) 4 ≤ σ 16 9) ∧ (σ 142 c = σ (23 + 3 * c) 5 ∧ (σ (23 + 3 * c) 5 = -4 ∨ (0 ≤ σ (23 + 3 * c) 5 ∧ σ (23 + 3 * c) 5 ≤ 26))) ∧
  ∀ m : Nat, m < 4 → σ 139 (4 * c + m) = σ (24 + 3 * c) m ∧ (σ 138 (4 * c + m) = σ (25 + 3 * c) m ∧ 0 ≤ σ (25 + 3 * c) m ∧ σ (25 + 3 * c) m ≤ 999)
def I_anew (σ : Mem) : Prop := σ 122 33 = σ 16 9 ∧ 0 ≤ σ 16 9 ∧ σ 16 9 ≤ 40 ∧ ∀ k : Nat, (k : Int) < σ 16 9 → σ 144 k = 4 * σ 19 k + σ 20 k ∧ 0 ≤ σ 19 k ∧ σ 19 k < σ 16 2 ∧ 0 ≤ σ 20 k ∧ σ 20 k < 4 ∧ σ 145 k = σ 21 k ∧ σ 146 k = σ 22 k ∧ σ (23 + 3 * (σ 19 k).toNat) 3 ≤ σ 22 k
def I_bars (σ : Mem) : Prop := σ 122 38 = σ 16 4 ∧ ∀ c d : Nat, c < d → d < 24 → (σ 18 (24 * c + d) = 0 ∨ σ 18 (24 * c + d) = 1) ∧ σ 147 (24 * c + d) = σ 18 (24 * c + d) ∧ σ 147 (24 * d + c) = σ 18 (24 * c + d)
def I_tell (σ : Mem) : Prop := (σ 95 0 = 0 ∧ σ 122 39 = -4) ∨ (σ 95 0 = 1 ∧ σ 122 39 = σ 95 1 ∧ 0 ≤ σ 95 1 ∧ σ 95 1 ≤ 5 ∧ ∀ m : Nat, m < 4 → σ 148 m = σ 96 m ∧ 0 ≤ σ 96 m ∧ σ 96 m ≤ 999)
def I_hold (σ : Mem) : Prop := σ 122 52 = σ 0 15 ∧ 0 ≤ σ 0 15 ∧ σ 0 15 ≤ 12 ∧ (∀ k : Nat, k < 12 → σ 0 15 ≤ k → σ 121 k = 0) ∧ ∀ k : Nat, (k : Int) < σ 0 15 → (σ 154 k = σ 118 k ∧ 0 ≤ σ 118 k ∧ σ 118 k < σ 16 2) ∧ σ 155 k = σ 119 k ∧ σ 156 k = σ 120 k ∧ σ 157 k = σ 121 k ∧ (σ 121 k = 0 ∨ σ 121 k = 1)
def I_sheet (σ : Mem) : Prop := ∀ k : Nat, k < 4 → (σ (109 + 2 * k) 1 = 0 ∧ σ 158 k = -4) ∨ (σ (109 + 2 * k) 1 = 1 ∧ σ 158 k = σ (109 + 2 * k) 2 ∧ 0 ≤ σ (109 + 2 * k) 2 ∧ σ (109 + 2 * k) 2 ≤ 2 ∧ σ 159 k = σ (109 + 2 * k) 3 ∧ 0 ≤ σ (109 + 2 * k) 3 ∧ σ (109 + 2 * k) 3 ≤ 96 ∧ ∀ i : Nat, i < 96 → σ 160 (96 * k + i) = σ (110 + 2 * k) i)
def INV (σ : Mem) : Prop := I_tape σ ∧ I_cst σ ∧ I_fault σ ∧ I_rules σ ∧ I_now σ ∧ I_cards σ ∧ I_anew σ ∧ I_bars σ ∧ I_tell σ ∧ I_hold σ ∧ I_sheet σ
theorem same_fn {σ0 σ : Mem} (hs : SAME σ0 σ) (j : Nat) (h : ∀ k, core j k = true) : σ j = σ0 j := funext fun k => hs j k (h k)
theorem same_card {σ0 σ : Mem} (hs : SAME σ0 σ) {j : Nat} (h1 : 14 ≤ j) (h2 : j < 95) : σ j = σ0 j := funext fun k => hs j k (core_rng h1 h2)
theorem inv_core {σ0 σ : Mem} (hs : SAME σ0 σ) (h : INV σ0) : INV σ := by
  obtain ⟨h1, h2, h3, h4, h5, h6, h7, h8, h9, h10, h11⟩ := h
  have f := fun j h => same_fn hs j h
  have e1 := f 1 (fun _ => rfl); have e2 := f 2 (fun _ => rfl); have e3 := f 3 (fun _ => rfl); have e4 := f 4 (fun _ => rfl); have e5 := f 5 (fun _ => rfl)
  have e6 := f 6 (fun _ => rfl); have e7 := f 7 (fun _ => rfl); have e0 := f 0 (fun _ => rfl)
  have g := fun j h1 h2 => same_card hs (j := j) h1 h2
  have e14 := g 14 (by omega) (by omega); have e15 := g 15 (by omega) (by omega); have e16 := g 16 (by omega) (by omega); have e18 := g 18 (by omega) (by omega)
  have e19 := g 19 (by omega) (by omega); have e20 := g 20 (by omega) (by omega); have e21 := g 21 (by omega) (by omega); have e22 := g 22 (by omega) (by omega)
  have e96 := f 96 (fun _ => rfl); have e118 := f 118 (fun _ => rfl); have e119 := f 119 (fun _ => rfl); have e120 := f 120 (fun _ => rfl); have e121 := f 121 (fun _ => rfl)
  have m123 := f 123 (fun _ => rfl); have m124 := f 124 (fun _ => rfl); have m125 := f 125 (fun _ => rfl); have m126 := f 126 (fun _ => rfl); have m127 := f 127 (fun _ => rfl); have m128 := f 128 (fun _ => rfl); have m129 := f 129 (fun _ => rfl); have m130 := f 130 (fun _ => rfl)
  have m136 := f 136 (fun _ => rfl); have m137 := f 137 (fun _ => rfl); have m138 := f 138 (fun _ => rfl); have m139 := f 139 (fun _ => rfl); have m140 := f 140 (fun _ => rfl); have m141 := f 141 (fun _ => rfl); have m142 := f 142 (fun _ => rfl); have m143 := f 143 (fun _ => rfl); have m144 := f 144 (fun _ => rfl); have m145 := f 145 (fun _ => rfl); have m146 := f 146 (fun _ => rfl); have m147 := f 147 (fun _ => rfl); have m148 := f 148 (fun _ => rfl)
  have m154 := f 154 (fun _ => rfl); have m155 := f 155 (fun _ => rfl); have m156 := f 156 (fun _ => rfl); have m157 := f 157 (fun _ => rfl); have m158 := f 158 (fun _ => rfl); have m159 := f 159 (fun _ => rfl); have m160 := f 160 (fun _ => rfl)
  have t2 := hs 122 2 rfl; have t3 := hs 122 3 rfl; have t0 := hs 122 0 rfl; have t12 := hs 122 12 rfl; have t24 := hs 122 24 rfl; have t33 := hs 122 33 rfl; have t38 := hs 122 38 rfl; have t39 := hs 122 39 rfl; have t52 := hs 122 52 rfl; have t60 := hs 122 60 rfl
  have l0 := hs 95 0 rfl; have l1 := hs 95 1 rfl; have r2 := hs 8 2 rfl
  refine ⟨?_, ?_, ?_, ?_, ?_, ?_, ?_, ?_, ?_, ?_, ?_⟩
  · unfold I_tape at *; rw [e1, e2, t2, m123]; exact h1
  · unfold I_cst at *; rw [m124, m125]; exact h2
  · unfold I_fault at *; rw [t3, r2, t60, e0]; exact h3
  · unfold I_rules at *; rw [t12, e3, m128, m129, m130, m126, m127, e4, e5, e6, e7]; exact h4
  · unfold I_now ruleF lineF at *; rw [t0, e14, e15, e3, e4, e5, e6, e7]; exact h5
  · unfold I_cards at *
    rw [t24, e16, m136, m137, m140, m141, m143, m142, m139, m138, e14]
    obtain ⟨a1, a2, a3, a4, a5⟩ := h6
    refine ⟨a1, a2, a3, fun c hc hn => ?_, fun c hc => ?_⟩
    · rw [g (23 + 3 * c) (by omega) (by omega)]; exact a4 c hc hn
    · have b := a5 c hc
      rw [g (23 + 3 * c) (by omega) (by omega), g (24 + 3 * c) (by omega) (by omega), g (25 + 3 * c) (by omega) (by omega)]
      exact b
  · unfold I_anew at *
    rw [t33, e16, m144, m145, m146, e19, e20, e21, e22]
    obtain ⟨a1, a2, a3, a4⟩ := h7
    refine ⟨a1, a2, a3, fun k hk => ?_⟩
    have b := a4 k hk
    have b1 := b.2.1; have b2 := b.2.2.1
    have b3 := h6.2.2.1
    rw [g (23 + 3 * (σ0 19 k).toNat) (by omega) (by omega)]
    exact b
  · unfold I_bars at *; rw [t38, e16, e18, m147]; exact h8
  · unfold I_tell at *; rw [l0, l1, t39, m148, e96]; exact h9
  · unfold I_hold at *; rw [t52, e0, e16, m154, m155, m156, m157, e118, e119, e120, e121]; exact h10
  · unfold I_sheet at *
    rw [m158, m159, m160]
    intro k hk
    have b := h11 k hk
    rw [same_fn hs (109 + 2 * k) (fun _ => core_sh (by omega) (by omega)), same_fn hs (110 + 2 * k) (fun _ => core_sh (by omega) (by omega))]
    exact b
/-- loops that count up by one: no, one, two, three numbers carried -/
theorem lp0 (L : Nat → Int → Mem → Prop) (I : Nat → Mem → Prop) (N : Nat) (σ : Mem) (h0 : I 0 σ) (hx : ∀ n σ, I N σ → L (n + 1) N σ) (hs : ∀ n (i : Nat) σ, i < N → I i σ → (∀ σ', I (i + 1) σ' → L n ((i : Int) + 1) σ') → L (n + 1) i σ) : ∃ n, L n 0 σ :=
  loop_0 (fun n i s => L n i s) I N σ h0 hx hs
theorem lp1a (L : Nat → Int → Int → Mem → Prop) (I : Nat → Int → Mem → Prop) (N : Nat) (a : Int) (σ : Mem) (h0 : I 0 a σ) (hx : ∀ n a σ, I N a σ → L (n + 1) a N σ) (hs : ∀ n (i : Nat) a σ, i < N → I i a σ → (∀ a' σ', I (i + 1) a' σ' → L n a' ((i : Int) + 1) σ') → L (n + 1) a i σ) : ∃ n, L n a 0 σ :=
  loop_0 (fun n i (s : Int × Mem) => L n s.1 i s.2) (fun i s => I i s.1 s.2) N (a, σ) h0 (fun n s h => hx n s.1 s.2 h) (fun n i s hi h ih => hs n i s.1 s.2 hi h (fun a' σ' h' => ih (a', σ') h'))
theorem lp2a (L : Nat → Int → Int → Int → Mem → Prop) (I : Nat → Int → Int → Mem → Prop) (N : Nat) (a b : Int) (σ : Mem) (h0 : I 0 a b σ) (hx : ∀ n a b σ, I N a b σ → L (n + 1) a b N σ) (hs : ∀ n (i : Nat) a b σ, i < N → I i a b σ → (∀ a' b' σ', I (i + 1) a' b' σ' → L n a' b' ((i : Int) + 1) σ') → L (n + 1) a b i σ) : ∃ n, L n a b 0 σ :=
  loop_0 (fun n i (s : Int × Int × Mem) => L n s.1 s.2.1 i s.2.2) (fun i s => I i s.1 s.2.1 s.2.2) N (a, b, σ) h0 (fun n s h => hx n s.1 s.2.1 s.2.2 h) (fun n i s hi h ih => hs n i s.1 s.2.1 s.2.2 hi h (fun a' b' σ' h' => ih (a', b', σ') h'))
theorem lp3a (L : Nat → Int → Int → Int → Int → Mem → Prop) (I : Nat → Int → Int → Int → Mem → Prop) (N : Nat) (a b c : Int) (σ : Mem) (h0 : I 0 a b c σ) (hx : ∀ n a b c σ, I N a b c σ → L (n + 1) a b c N σ) (hs : ∀ n (i : Nat) a b c σ, i < N → I i a b c σ → (∀ a' b' c' σ', I (i + 1) a' b' c' σ' → L n a' b' c' ((i : Int) + 1) σ') → L (n + 1) a b c i σ) : ∃ n, L n a b c 0 σ :=
  loop_0 (fun n i (s : Int × Int × Int × Mem) => L n s.1 s.2.1 s.2.2.1 i s.2.2.2) (fun i s => I i s.1 s.2.1 s.2.2.1 s.2.2.2) N (a, b, c, σ) h0 (fun n s h => hx n s.1 s.2.1 s.2.2.1 s.2.2.2 h) (fun n i s hi h ih => hs n i s.1 s.2.1 s.2.2.1 s.2.2.2 hi h (fun a' b' c' σ' h' => ih (a', b', c', σ') h'))
