/-! PURE FACTS, 20: a new card -/
theorem a_add {σ : Mem} {p k r : Int} {n : Nat} {Q : Int → Mem → Prop} (hn : σ 16 2 = n) (hn2 : n < 24) (h : ∀ τ : Mem, (∀ j x, ¬ ((j = 23 + 3 * n ∧ x ≠ 4) ∨ j = 24 + 3 * n ∨ j = 25 + 3 * n ∨ (j = 16 ∧ x = 2)) → τ j x = σ j x) → τ (23 + 3 * n) 0 = p → τ (23 + 3 * n) 1 = k → τ (23 + 3 * n) 2 = r → τ (23 + 3 * n) 3 = σ 14 2 → τ (23 + 3 * n) 5 = drwF (σ 15) (σ 117 0) (σ 117 1) (σ 117 2) → (∀ m, m < 4 → τ (24 + 3 * n) m = σ 117 m ∧ τ (25 + 3 * n) m = σ 117 m) → τ 16 2 = n + 1 → Q n τ) : v_X0_add p k r 0 σ Q := by
  unfold v_X0_add
  rw [hn, if_pos (by omega), Int.toNat_natCast]
  refine ⟨by omega, by omega, ?_⟩
  refine lp0 (l_X0_add_56 p k r 0 n Q) (fun i s => (∀ j x, ¬ ((j = 23 + 3 * n ∧ x ≠ 4 ∧ x ≠ 5) ∨ j = 24 + 3 * n ∨ j = 25 + 3 * n) → s j x = σ j x) ∧ s (23 + 3 * n) 0 = p ∧ s (23 + 3 * n) 1 = k ∧ s (23 + 3 * n) 2 = r ∧ s (23 + 3 * n) 3 = σ 14 2 ∧ ∀ m, m < i → s (24 + 3 * n) m = σ 117 m ∧ s (25 + 3 * n) m = σ 117 m) 4 _ ⟨fun j x z => ?_, ?_, ?_, ?_, ?_, fun m hm => absurd hm (by omega)⟩ ?_ ?_
  · rw [st_ne _ _ (by omega), st_ne _ _ (by omega), st_ne _ _ (by omega), st_ne _ _ (by omega)]
  · rw [mset_nei (by decide), mset_nei (by decide), mset_nei (by decide), mset_eq]
  · rw [mset_nei (by decide), mset_nei (by decide), mset_eq]
  · rw [mset_nei (by decide), mset_eq]
  · rw [mset_eq]
  · rintro q s ⟨s1, s2, s3, s4, s5, s6⟩
    rw [l_X0_add_56, if_neg (by decide)]
    refine s_drw_c ?_
    have e15 : s 15 = σ 15 := funext fun x => s1 15 x (by omega)
    have e16 : s 16 2 = n := by rw [s1 16 2 (by omega)]; exact hn
    rw [e15, (s6 0 (by decide)).2, (s6 1 (by decide)).2, (s6 2 (by decide)).2, e16]
    refine ⟨⟨by omega, by omega⟩, ⟨by omega, by omega⟩, ?_⟩
    rw [show (n : Int) + 1 - 1 = n by omega]
    refine h _ (fun j x z => ?_) ?_ ?_ ?_ ?_ ?_ (fun m hm => ?_) ?_
    · rw [st_ne _ _ (by omega), st_ne _ _ (by omega)]; exact s1 j x (by omega)
    · rw [mset_ne (by omega), mset_nei (by decide)]; exact s2
    · rw [mset_ne (by omega), mset_nei (by decide)]; exact s3
    · rw [mset_ne (by omega), mset_nei (by decide)]; exact s4
    · rw [mset_ne (by omega), mset_nei (by decide)]; exact s5
    · rw [mset_ne (by omega), mset_eq]
    · rw [mset_ne (by omega), mset_ne (by omega), mset_ne (by omega), mset_ne (by omega)]; exact s6 m hm
    · rw [mset_eq]
  · rintro q i s hi ⟨s1, s2, s3, s4, s5, s6⟩ ih
    rw [l_X0_add_56, if_pos (by omega), show (0 + (i : Int)).toNat = i by omega, Int.toNat_natCast]
    have e117 : s 117 i = σ 117 i := s1 117 i (by omega)
    rw [e117]
    refine ⟨by omega, by omega, by omega, by omega, ⟨by omega, by omega⟩, ih _ ⟨fun j x z => ?_, ?_, ?_, ?_, ?_, fun m hm => ?_⟩⟩
    · rw [st_ne _ _ (by omega), st_ne _ _ (by omega)]; exact s1 j x z
    · rw [mset_ne (by omega), mset_ne (by omega)]; exact s2
    · rw [mset_ne (by omega), mset_ne (by omega)]; exact s3
    · rw [mset_ne (by omega), mset_ne (by omega)]; exact s4
    · rw [mset_ne (by omega), mset_ne (by omega)]; exact s5
    · by_cases e : m = i
      · subst e
        exact ⟨by rw [mset_ne (by omega), mset_eq], by rw [mset_eq]⟩
      · rw [mset_ne (by omega), mset_nei e, mset_nei e, mset_ne (by omega)]; exact s6 m (by omega)
