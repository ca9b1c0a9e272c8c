/-! THE TWO OBJECTS, NEW: they answer alike -/
theorem lineF_0 {σ : Mem} {key d : Int} (h : σ 3 4 = 0) : lineF σ key d = -1 := by
  unfold lineF
  rw [h]
  rfl
theorem ruleF_0 {σ : Mem} {r d : Int} (h : σ 3 4 = 0) : ruleF σ r d = usualF r := by
  unfold ruleF
  rw [lineF_0 h, if_pos (by decide)]
theorem mI_ne {σ : Mem} {j k : Nat} (h1 : j ≠ 122) (h2 : j ≠ 124) (h3 : j ≠ 125) (h4 : j ≠ 158) : mInit σ j k = σ j k := by
  unfold mInit
  simp only [mset, h1, h2, h3, h4, false_and, if_false]
theorem mI_122 {σ : Mem} {k : Nat} (h : k ≠ 39) : mInit σ 122 k = σ 122 k := by
  unfold mInit
  simp only [mset, h, and_false, if_false, show (122 : Nat) ≠ 124 by decide, show (122 : Nat) ≠ 125 by decide, show (122 : Nat) ≠ 158 by decide, false_and]
theorem mI_39 {σ : Mem} : mInit σ 122 39 = -4 := rfl
theorem mI_124 {σ : Mem} : ∀ k, k < 7 → mInit σ 124 k = endsL.getD k 0
  | 0, _ => rfl
  | 1, _ => rfl
  | 2, _ => rfl
  | 3, _ => rfl
  | 4, _ => rfl
  | 5, _ => rfl
  | 6, _ => rfl
  | n + 7, h => absurd h (by omega)
theorem mI_125 {σ : Mem} : ∀ k, k < 27 → mInit σ 125 k = lettersL.getD k 0
  | 0, _ => rfl
  | 1, _ => rfl
  | 2, _ => rfl
  | 3, _ => rfl
  | 4, _ => rfl
  | 5, _ => rfl
  | 6, _ => rfl
  | 7, _ => rfl
  | 8, _ => rfl
  | 9, _ => rfl
  | 10, _ => rfl
  | 11, _ => rfl
  | 12, _ => rfl
  | 13, _ => rfl
  | 14, _ => rfl
  | 15, _ => rfl
  | 16, _ => rfl
  | 17, _ => rfl
  | 18, _ => rfl
  | 19, _ => rfl
  | 20, _ => rfl
  | 21, _ => rfl
  | 22, _ => rfl
  | 23, _ => rfl
  | 24, _ => rfl
  | 25, _ => rfl
  | 26, _ => rfl
  | n + 27, h => absurd h (by omega)
theorem mI_158 {σ : Mem} : ∀ k, k < 4 → mInit σ 158 k = -4
  | 0, _ => rfl
  | 1, _ => rfl
  | 2, _ => rfl
  | 3, _ => rfl
  | n + 4, h => absurd h (by omega)
theorem inv_new {τ : Mem} (h1 : ∀ j k, j ≠ 15 → τ j k = 0) (h2 : ∀ r : Nat, r < 20 → τ 15 r = usualF r) : INV (mInit τ) := by
  have z : ∀ j k, j ≠ 15 → j ≠ 122 → j ≠ 124 → j ≠ 125 → j ≠ 158 → mInit τ j k = 0 := fun j k a0 a1 a2 a3 a4 => (mI_ne a1 a2 a3 a4).trans (h1 j k a0)
  have zm : ∀ k, k ≠ 39 → mInit τ 122 k = 0 := fun k a => (mI_122 a).trans (h1 122 k (by decide))
  have e : ∀ j k, (decide (j ≠ 15) && decide (j ≠ 122) && decide (j ≠ 124) && decide (j ≠ 125) && decide (j ≠ 158)) = true → mInit τ j k = 0 := fun j k a => by
    simp only [Bool.and_eq_true, decide_eq_true_eq] at a
    exact z j k a.1.1.1.1 a.1.1.1.2 a.1.1.2 a.1.2 a.2
  refine ⟨?_, ⟨mI_124, mI_125⟩, ?_, ?_, ?_, ?_, ?_, ?_, ?_, ?_, ?_⟩
  · refine ⟨(zm 2 (by decide)).trans (e 1 1 rfl).symm, by rw [e 1 1 rfl]; decide, by rw [e 1 1 rfl]; decide, fun k hk => ?_⟩
    rw [e 1 1 rfl] at hk; omega
  · exact ⟨(zm 3 (by decide)).trans (e 8 2 rfl).symm, (zm 60 (by decide)).trans (e 0 16 rfl).symm⟩
  · refine ⟨(zm 12 (by decide)).trans (e 3 4 rfl).symm, by rw [e 3 4 rfl]; decide, by rw [e 3 4 rfl]; decide, fun k hk => ?_⟩
    rw [e 3 4 rfl] at hk; omega
  · refine ⟨(zm 0 (by decide)).trans (e 14 2 rfl).symm, by rw [e 14 2 rfl]; decide, by rw [e 14 2 rfl]; decide, fun r hr => ?_⟩
    rw [ruleF_0 (e 3 4 rfl), mI_ne (by decide) (by decide) (by decide) (by decide), h2 r hr]
  · refine ⟨(zm 24 (by decide)).trans (e 16 2 rfl).symm, by rw [e 16 2 rfl]; decide, by rw [e 16 2 rfl]; decide, fun c hc _ => z _ _ (by omega) (by omega) (by omega) (by omega) (by omega), fun c hc => ?_⟩
    rw [e 16 2 rfl] at hc; omega
  · refine ⟨(zm 33 (by decide)).trans (e 16 9 rfl).symm, by rw [e 16 9 rfl]; decide, by rw [e 16 9 rfl]; decide, fun c hc => ?_⟩
    rw [e 16 9 rfl] at hc; omega
  · refine ⟨(zm 38 (by decide)).trans (e 16 4 rfl).symm, fun c d _ _ => ?_⟩
    rw [e 18 _ rfl, e 147 _ rfl, e 147 _ rfl]
    exact ⟨Or.inl rfl, rfl, rfl⟩
  · exact Or.inl ⟨e 95 0 rfl, rfl⟩
  · refine ⟨(zm 52 (by decide)).trans (e 0 15 rfl).symm, by rw [e 0 15 rfl]; decide, by rw [e 0 15 rfl]; decide, fun k _ _ => e 121 k rfl, fun k hk => ?_⟩
    rw [e 0 15 rfl] at hk; omega
  · intro k hk
    exact Or.inl ⟨z _ _ (by omega) (by omega) (by omega) (by omega) (by omega), mI_158 k hk⟩
