/-! PURE FACTS, 25: drawers by their chances -/
def hvF (σ : Mem) (B : Int) : Int := bestF (fun d => ¬ Bt B d = true) (fun d => (wtF σ d : Nat)) 27
def lkB (σ : Mem) : Nat → Int
  | 0 => 0
  | i + 1 => ior (lkB σ i) (ishl 1 (hvF σ (lkB σ i)))
def lkL (σ : Mem) : Nat → Int
  | 0 => (whF σ 3 : Nat)
  | i + 1 => lkL σ i - (wtF σ (hvF σ (lkB σ i)).toNat : Nat)
def frS (σ : Mem) (B : Int) : Int := sumF (fun d => if Bt B d = true then 0 else (wtF σ d : Nat)) 27
def frC (B : Int) : Int := sumF (fun d => if Bt B d = true then 0 else 1) 27
theorem sum_pt {f g : Nat → Int} {b : Nat} : ∀ n : Nat, b < n → (∀ d, d < n → d ≠ b → f d = g d) → sumF f n = sumF g n - g b + f b := by
  intro n
  induction n with
  | zero => intro h; omega
  | succ n ih =>
    intro hb h
    show sumF f n + f n = sumF g n + g n - g b + f b
    by_cases e : b = n
    · subst e
      rw [sumF_congr (f := f) (g := g) (fun k hk => h k (by omega) (by omega))]; omega
    · rw [ih (by omega) (fun d hd hne => h d (by omega) hne), h n (by omega) (by omega)]; omega
theorem sum_0 : ∀ n : Nat, sumF (fun _ => 0) n = 0 := by
  intro n
  induction n with
  | zero => rfl
  | succ n ih => show sumF (fun _ => 0) n + 0 = 0; omega
theorem sum_ge {f : Nat → Int} {b : Nat} : ∀ n : Nat, (∀ k, k < n → 0 ≤ f k) → b < n → f b ≤ sumF f n := by
  intro n
  induction n with
  | zero => intro _ h; omega
  | succ n ih =>
    intro h hb
    have z : 0 ≤ sumF f n := by
      have : ∀ m, m ≤ n → 0 ≤ sumF f m := by
        intro m
        induction m with
        | zero => intro _; exact Int.le_refl 0
        | succ m jh => intro hm; show 0 ≤ sumF f m + f m; have := jh (by omega); have := h m (by omega); omega
      exact this n (Nat.le_refl n)
    show f b ≤ sumF f n + f n
    by_cases e : b = n
    · subst e; omega
    · have := ih (fun k hk => h k (by omega)) (by omega)
      have := h n (by omega); omega
theorem bestF_ex {P : Nat → Prop} [DecidablePred P] {fr : Nat → Int} {d : Nat} : ∀ n : Nat, d < n → P d → 0 ≤ bestF P fr n := by
  intro n
  induction n with
  | zero => intro h; omega
  | succ n ih =>
    intro hd hP
    show 0 ≤ (if P n ∧ (bestF P fr n < 0 ∨ fr (bestF P fr n).toNat < fr n) then (n : Int) else bestF P fr n)
    by_cases q : P n ∧ (bestF P fr n < 0 ∨ fr (bestF P fr n).toNat < fr n)
    · rw [if_pos q]; omega
    · rw [if_neg q]
      by_cases e : d = n
      · subst e
        by_cases z : bestF P fr d < 0
        · exact absurd ⟨hP, Or.inl z⟩ q
        · omega
      · exact ih (by omega) hP
theorem wt_total {σ : Mem} : sumF (fun d => ((wtF σ d : Nat) : Int)) 27 = ((whF σ 3 : Nat) : Int) := by
  rw [← wh_cast, ← thF_sum 0, ← thF_sum 1, ← thF_sum 2]
  unfold wtF
  simp only [sumF]
  generalize thF σ 0 0 = a0; generalize thF σ 0 1 = a1; generalize thF σ 0 2 = a2
  generalize thF σ 1 0 = b0; generalize thF σ 1 1 = b1; generalize thF σ 1 2 = b2
  generalize thF σ 2 0 = c0; generalize thF σ 2 1 = c1; generalize thF σ 2 2 = c2
  simp only [Int.natCast_add, Int.natCast_mul, Int.add_mul, Int.mul_add]
  omega
theorem lk_inv {σ : Mem} : ∀ i : Nat, (∀ j, j < i → 0 < lkL σ j) → lkL σ i = frS σ (lkB σ i) ∧ frC (lkB σ i) = 27 - i ∧ lkL σ i ≤ (whF σ 3 : Nat) := by
  intro i
  induction i with
  | zero =>
    intro _
    have e : frS σ 0 = sumF (fun d => ((wtF σ d : Nat) : Int)) 27 := sumF_congr (fun k _ => by rw [Bt_0]; rfl)
    have e2 : frC 0 = sumF (fun _ => 1) 27 := sumF_congr (fun k _ => by rw [Bt_0]; rfl)
    refine ⟨?_, ?_, Int.le_refl _⟩
    · show ((whF σ 3 : Nat) : Int) = frS σ 0
      rw [e, wt_total]
    · show frC 0 = 27 - ((0 : Nat) : Int)
      rw [e2]; decide
  | succ i ih =>
    intro h
    obtain ⟨h1, h2, h3⟩ := ih (fun j hj => h j (by omega))
    have pos := h i (by omega)
    have ex : ∃ d, d < 27 ∧ ¬ Bt (lkB σ i) d = true := by
      by_cases z : ∃ d, d < 27 ∧ ¬ Bt (lkB σ i) d = true
      · exact z
      · have : frS σ (lkB σ i) = 0 := by
          rw [← sum_0 27]
          refine sumF_congr (fun k hk => ?_)
          by_cases y : Bt (lkB σ i) k = true
          · rw [if_pos y]
          · exact absurd ⟨k, hk, y⟩ z
        omega
    obtain ⟨d, hd, fd⟩ := ex
    have b0 : 0 ≤ hvF σ (lkB σ i) := bestF_ex 27 hd fd
    have b1 : hvF σ (lkB σ i) < 27 := (bestF_rng (P := fun d => ¬ Bt (lkB σ i) d = true) (fr := fun d => ((wtF σ d : Nat) : Int)) 27).2
    have bP : ¬ Bt (lkB σ i) (hvF σ (lkB σ i)).toNat = true := bestF_P 27 b0
    obtain ⟨b, hb⟩ : ∃ b : Nat, hvF σ (lkB σ i) = b := ⟨(hvF σ (lkB σ i)).toNat, by omega⟩
    have eB : lkB σ (i + 1) = ior (lkB σ i) (ishl 1 b) := by show ior (lkB σ i) (ishl 1 (hvF σ (lkB σ i))) = _; rw [hb]
    have eL : lkL σ (i + 1) = lkL σ i - (wtF σ b : Nat) := by show lkL σ i - ((wtF σ (hvF σ (lkB σ i)).toNat : Nat) : Int) = _; rw [hb, Int.toNat_natCast]
    rw [hb, Int.toNat_natCast] at bP
    have bt : ∀ k, k < 27 → Bt (lkB σ (i + 1)) k = (Bt (lkB σ i) k || decide (k = b)) := by
      intro k hk
      rw [eB, Bt_or, Bt_shl1 (by omega) k (by omega)]
    have btb : Bt (lkB σ (i + 1)) b = true := by rw [bt b (by omega)]; simp
    have btn : ∀ k, k < 27 → k ≠ b → Bt (lkB σ (i + 1)) k = Bt (lkB σ i) k := by
      intro k hk hn; rw [bt k hk]; simp [hn]
    have s1 : frS σ (lkB σ (i + 1)) = frS σ (lkB σ i) - (wtF σ b : Nat) + 0 := by
      have := sum_pt (f := fun d => if Bt (lkB σ (i + 1)) d = true then 0 else ((wtF σ d : Nat) : Int)) (g := fun d => if Bt (lkB σ i) d = true then 0 else ((wtF σ d : Nat) : Int)) (b := b) 27 (by omega) (fun k hk hn => by rw [btn k hk hn])
      rw [if_neg bP, if_pos btb] at this
      exact this
    have s2 : frC (lkB σ (i + 1)) = frC (lkB σ i) - 1 + 0 := by
      have := sum_pt (f := fun d => if Bt (lkB σ (i + 1)) d = true then (0 : Int) else 1) (g := fun d => if Bt (lkB σ i) d = true then (0 : Int) else 1) (b := b) 27 (by omega) (fun k hk hn => by rw [btn k hk hn])
      rw [if_neg bP, if_pos btb] at this
      exact this
    exact ⟨by omega, by omega, by omega⟩
theorem lk_nn {σ : Mem} {i : Nat} (h : ∀ j, j < i → 0 < lkL σ j) : 0 ≤ lkL σ i := by
  rw [(lk_inv i h).1]
  have f : ∀ k, 0 ≤ (if Bt (lkB σ i) k = true then 0 else ((wtF σ k : Nat) : Int)) := fun k => by split <;> omega
  exact Int.le_trans (f 0) (sum_ge 27 (fun k _ => f k) (by omega))
theorem lk_hv {σ : Mem} {i : Nat} (h : ∀ j, j < i → 0 < lkL σ j) (hp : 0 < lkL σ i) : i < 27 ∧ 0 ≤ hvF σ (lkB σ i) ∧ hvF σ (lkB σ i) < 27 := by
  obtain ⟨h1, h2, h3⟩ := lk_inv i h
  have ex : ∃ d, d < 27 ∧ ¬ Bt (lkB σ i) d = true := by
    by_cases z : ∃ d, d < 27 ∧ ¬ Bt (lkB σ i) d = true
    · exact z
    · have : frS σ (lkB σ i) = 0 := by
        rw [← sum_0 27]
        refine sumF_congr (fun k hk => ?_)
        by_cases y : Bt (lkB σ i) k = true
        · rw [if_pos y]
        · exact absurd ⟨k, hk, y⟩ z
      omega
  obtain ⟨d, hd, fd⟩ := ex
  refine ⟨?_, bestF_ex 27 hd fd, (bestF_rng (P := fun d => ¬ Bt (lkB σ i) d = true) (fr := fun d => ((wtF σ d : Nat) : Int)) 27).2⟩
  have g := sum_ge (f := fun d => if Bt (lkB σ i) d = true then (0 : Int) else 1) (b := d) 27 (fun k _ => by split <;> omega) hd
  rw [if_neg fd] at g
  have : 1 ≤ frC (lkB σ i) := g
  omega
theorem s_heaviest {σ ω : Mem} {Q : Int → Mem → Prop} (h1 : ∀ d, d < 27 → ω 100 d = (wtF σ d : Nat)) (h : Q (imax (hvF σ (ω 99 4)) 0) ω) : v_X3_heaviest ω Q := by
  unfold v_X3_heaviest
  refine lp1a (l_X3_heaviest_4 Q) (fun k a s => s = ω ∧ a = bestF (fun d => ¬ Bt (ω 99 4) d = true) (fun d => ((wtF σ d : Nat) : Int)) k) 27 (-1) ω ⟨rfl, rfl⟩ ?_ ?_
  · rintro n a s ⟨rfl, rfl⟩
    rw [l_X3_heaviest_4, if_neg (by decide)]; exact h
  · rintro n k a s hk ⟨hs, ha⟩ ih
    subst hs
    have rg := bestF_rng (P := fun d => ¬ Bt (s 99 4) d = true) (fr := fun d => ((wtF σ d : Nat) : Int)) k
    rw [← ha] at rg
    have e : bestF (fun d => ¬ Bt (s 99 4) d = true) (fun d => ((wtF σ d : Nat) : Int)) (k + 1) = if ¬ Bt (s 99 4) k = true ∧ (a < 0 ∨ ((wtF σ a.toNat : Nat) : Int) < (wtF σ k : Nat)) then (k : Int) else a := by rw [ha]; rfl
    have i1 : inR ((k : Int) + 1) := ⟨by omega, by omega⟩
    rw [l_X3_heaviest_4, if_pos (by omega), Bt_has _ (by omega)]
    unfold j_X3_heaviest_26
    by_cases g : Bt (s 99 4) k = true
    · rw [if_pos g, if_neg (show ¬ (1 : Int) = 0 by decide), if_pos rfl]
      exact ⟨i1, ih _ _ ⟨rfl, by rw [e, if_neg (fun z => z.1 g)]⟩⟩
    · rw [if_neg g, if_pos rfl, if_neg (show ¬ (1 : Int) = 0 by decide)]
      by_cases g2 : a < 0
      · rw [if_pos g2]
        exact ⟨i1, ih _ _ ⟨rfl, by rw [e, if_pos ⟨g, Or.inl g2⟩]⟩⟩
      · rw [if_neg g2, Int.toNat_natCast, h1 k hk, h1 a.toNat (by omega)]
        refine ⟨by omega, by omega, by omega, by omega, ?_⟩
        by_cases g3 : ((wtF σ a.toNat : Nat) : Int) < (wtF σ k : Nat)
        · rw [if_pos g3]
          exact ⟨i1, ih _ _ ⟨rfl, by rw [e, if_pos ⟨g, Or.inr g3⟩]⟩⟩
        · rw [if_neg g3]
          exact ⟨i1, ih _ _ ⟨rfl, by rw [e, if_neg (fun z => by rcases z.2 with y | y <;> omega)]⟩⟩
def stopQ (σ : Mem) (p : Int) (q : Nat) : Prop := (∀ i, i < q → p * (whF σ 3 : Nat) < lkL σ i * 1000) ∧ ¬ p * (whF σ 3 : Nat) < lkL σ q * 1000
theorem stop_uni {σ : Mem} {p : Int} {q r : Nat} (h1 : stopQ σ p q) (h2 : stopQ σ p r) : q = r := by
  rcases Nat.lt_trichotomy q r with z | z | z
  · exact absurd (h2.1 q z) h1.2
  · exact z
  · exact absurd (h1.1 r z) h2.2
theorem pw_rng {σ : Mem} {p : Int} (hI : INVt σ) (ht : ¬ σ 95 0 = 0) (hp : 0 ≤ p ∧ p ≤ 999) : 0 ≤ p * (whF σ 3 : Nat) ∧ p * (whF σ 3 : Nat) ≤ 68852079 := by
  have w := whF_rng hI ht
  refine ⟨Int.mul_nonneg hp.1 (by omega), ?_⟩
  have : p * (whF σ 3 : Nat) ≤ 999 * 68921 := Int.mul_le_mul hp.2 (by omega) (by omega) (by omega)
  omega
def tkd (σ ω : Mem) (p : Int) (q : Nat) : Prop := SAME σ ω ∧ q ≤ 27 ∧ stopQ σ p q ∧ ω 99 3 = q ∧ ω 99 4 = lkB σ q ∧ ∀ i, i < q → ω 101 i = hvF σ (lkB σ i)
theorem s_take {σ ω : Mem} {p : Int} {Q : Int → Mem → Prop} (hI : INVt σ) (ht : ¬ σ 95 0 = 0) (hp : 0 ≤ p ∧ p ≤ 999) (hw : wgh σ ω) (h : ∀ ψ q, tkd σ ψ p q → Q 0 ψ) : v_X3_take p ω Q := by
  obtain ⟨w1, w2, w3⟩ := hw
  have wr := whF_rng hI ht
  have pw := pw_rng hI ht hp
  unfold v_X3_take
  rw [w2]
  refine lp1a (l_X3_take_17 p Q) (fun i a s => SAME σ s ∧ s 99 1 = (whF σ 3 : Nat) ∧ (∀ d, d < 27 → s 100 d = (wtF σ d : Nat)) ∧ a = lkL σ i ∧ (∀ j, j < i → p * (whF σ 3 : Nat) < lkL σ j * 1000) ∧ s 99 3 = i ∧ s 99 4 = lkB σ i ∧ ∀ j, j < i → s 101 j = hvF σ (lkB σ j)) 27 _ _ ⟨(w1.st rfl).st rfl, by rw [mset_nei (by decide), mset_nei (by decide)]; exact w2, fun d hd => by rw [mset_ne (by decide), mset_ne (by decide)]; exact w3 d hd, rfl, fun j hj => absurd hj (by omega), by rw [mset_nei (by decide), mset_eq]; rfl, by rw [mset_eq]; rfl, fun j hj => absurd hj (by omega)⟩ ?_ ?_
  · rintro n a s ⟨g1, g2, g3, g4, g5, g6, g7, g8⟩
    have pos : ∀ j, j < 27 → 0 < lkL σ j := fun j hj => by have := g5 j hj; omega
    rw [l_X3_take_17, if_neg (by decide)]
    refine h s 27 ⟨g1, Nat.le_refl _, ⟨g5, fun z => ?_⟩, g6, g7, g8⟩
    have := (lk_hv pos (by omega)).1
    omega
  · rintro n i a s hi ⟨g1, g2, g3, g4, g5, g6, g7, g8⟩ ih
    subst g4
    have pos : ∀ j, j < i → 0 < lkL σ j := fun j hj => by have := g5 j hj; omega
    have li := lk_inv i pos
    have nn := lk_nn pos
    rw [l_X3_take_17, if_pos (by omega), g2]
    refine ⟨⟨by omega, by omega⟩, ⟨by omega, by omega⟩, ?_⟩
    by_cases c : p * (whF σ 3 : Nat) < lkL σ i * 1000
    · rw [if_pos (lcmp_gt.mpr c)]
      refine s_heaviest (σ := σ) g3 ?_
      rw [g7, g6]
      have hv := lk_hv pos (by omega)
      have im : imax (hvF σ (lkB σ i)) 0 = hvF σ (lkB σ i) := by unfold imax; rw [if_neg (by omega)]
      have wl := wtF_le hI ht (hvF σ (lkB σ i)).toNat
      rw [im, Int.toNat_natCast, g3 _ (by omega)]
      refine ⟨by omega, by omega, by omega, by omega, ⟨by omega, by omega⟩, ⟨by omega, by omega⟩, ⟨by omega, by omega⟩, ih _ _ ⟨((g1.st rfl).st rfl).st rfl, ?_, fun d hd => ?_, rfl, fun j hj => ?_, ?_, ?_, fun j hj => ?_⟩⟩
      · rw [mset_nei (by decide), mset_nei (by decide), mset_ne (by decide)]; exact g2
      · rw [mset_ne (by decide), mset_ne (by decide), mset_ne (by decide)]; exact g3 d hd
      · by_cases y : j = i
        · subst y; exact c
        · exact g5 j (by omega)
      · rw [mset_eq]; rfl
      · rw [mset_nei (by decide), mset_eq]; rfl
      · rw [mset_ne (by decide), mset_ne (by decide)]
        by_cases y : j = i
        · subst y; rw [mset_eq]
        · rw [mset_nei y]; exact g8 j (by omega)
    · rw [if_neg (fun z => c (lcmp_gt.mp z))]
      exact h s i ⟨g1, by omega, ⟨g5, c⟩, g6, g7, g8⟩
