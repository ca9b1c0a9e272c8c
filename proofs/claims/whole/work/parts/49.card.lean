/-! PURE FACTS, 20: a new card -/
theorem a_add {σ : Mem} {p k r : Int} {n : Nat} {Q : Int → Mem → Prop} (hn : σ 16 2 = n) (hn2 : n < 24) (h : ∀ τ : Mem, (∀ j x, ¬ ((j = 23 + 3 * n ∧ x ≠ 4) ∨ j = 24 + 3 * n ∨ j = 25 + 3 * n ∨ (j = 16 ∧ x = 2)) → τ j x = σ j x) → τ (23 + 3 * n) 0 = p → τ (23 + 3 * n) 1 = k → τ (23 + 3 * n) 2 = r → τ (23 + 3 * n) 3 = σ 14 2 → τ (23 + 3 * n) 5 = drwF (σ 15) (σ 117 0) (σ 117 1) (σ 117 2) → (∀ m, m < 4 → τ (24 + 3 * n) m = σ 117 m ∧ τ (25 + 3 * n) m = σ 117 m) → τ 16 2 = n + 1 → Q n τ) : v_X0_add p k r 0 σ Q := by
  unfold v_X0_add
  rw [hn, if_pos (by omega), Int.toNat_natCast]
  refine ⟨by omega, by omega, ?_⟩
  refine lp0 (l_X0_add_56 p k r 0 n Q) (fun i s => (∀ j x, ¬ ((j = 23 + 3 * n ∧ x ≠ 4 ∧ x ≠ 5) ∨ j = 24 + 3 * n ∨ j = 25 + 3 * n) → s j x = σ j x) ∧ s (23 + 3 * n) 0 = p ∧ s (23 + 3 * n) 1 = k ∧ s (23 + 3 * n) 2 = r ∧ s (23 + 3 * n) 3 = σ 14 2 ∧ ∀ m, m < i → s (24 + 3 * n) m = σ 117 m ∧ s (25 + 3 * n) m = σ 117 m) 4 _ ⟨fun j x z => ?_, ?_, ?_, ?_, ?_, fun m hm => absurd hm (by omega)⟩ ?_ ?_
  · rw [st_ne _ _ (by omega), st_ne _ _ (by omega), st_ne _ _ (by omega), st_ne _ _ (by omega)]
  · rw [mset_nei (by decide), mset_nei (by decide), mset_nei (by decide), mset_eq]
  · rw [mset_nei (by decide), mset_nei (by decide), mset_eq]
  · rw [mset_nei (by decide), mset_eq]
  · rw [mset_eq]
  · rintro q s ⟨s1, s2, s3, s4, s5, s6⟩
    rw [l_X0_add_56, if_neg (by decide)]
    refine s_drw_c ?_
    have e15 : s 15 = σ 15 := funext fun x => s1 15 x (by omega)
    have e16 : s 16 2 = n := by rw [s1 16 2 (by omega)]; exact hn
    rw [e15, (s6 0 (by decide)).2, (s6 1 (by decide)).2, (s6 2 (by decide)).2, e16]
    refine ⟨⟨by omega, by omega⟩, ⟨by omega, by omega⟩, ?_⟩
    rw [show (n : Int) + 1 - 1 = n by omega]
    refine h _ (fun j x z => ?_) ?_ ?_ ?_ ?_ ?_ (fun m hm => ?_) ?_
    · rw [st_ne _ _ (by omega), st_ne _ _ (by omega)]; exact s1 j x (by omega)
    · rw [mset_ne (by omega), mset_nei (by decide)]; exact s2
    · rw [mset_ne (by omega), mset_nei (by decide)]; exact s3
    · rw [mset_ne (by omega), mset_nei (by decide)]; exact s4
    · rw [mset_ne (by omega), mset_nei (by decide)]; exact s5
    · rw [mset_ne (by omega), mset_eq]
    · rw [mset_ne (by omega), mset_ne (by omega), mset_ne (by omega), mset_ne (by omega)]; exact s6 m hm
    · rw [mset_eq]
  · rintro q i s hi ⟨s1, s2, s3, s4, s5, s6⟩ ih
    rw [l_X0_add_56, if_pos (by omega), show (0 + (i : Int)).toNat = i by omega, Int.toNat_natCast]
    have e117 : s 117 i = σ 117 i := s1 117 i (by omega)
    rw [e117]
    refine ⟨by omega, by omega, by omega, by omega, ⟨by omega, by omega⟩, ih _ ⟨fun j x z => ?_, ?_, ?_, ?_, ?_, fun m hm => ?_⟩⟩
    · rw [st_ne _ _ (by omega), st_ne _ _ (by omega)]; exact s1 j x z
    · rw [mset_ne (by omega), mset_ne (by omega)]; exact s2
    · rw [mset_ne (by omega), mset_ne (by omega)]; exact s3
    · rw [mset_ne (by omega), mset_ne (by omega)]; exact s4
    · rw [mset_ne (by omega), mset_ne (by omega)]; exact s5
    · by_cases e : m = i
      · subst e
        exact ⟨by rw [mset_ne (by omega), mset_eq], by rw [mset_eq]⟩
      · rw [mset_ne (by omega), mset_nei e, mset_nei e, mset_ne (by omega)]; exact s6 m (by omega)
theorem b_add {σ : Mem} {p k a b c d r : Int} {n : Nat} {Q : Int → Mem → Prop} (hr : I_rules σ) (hw : I_now σ) (hn : σ 122 24 = n) (hn2 : n < 24) (h : ∀ τ : Mem, (∀ j x, ¬ ((136 ≤ j ∧ j ≤ 137 ∧ x = n) ∨ (138 ≤ j ∧ j ≤ 139 ∧ 4 * n ≤ x ∧ x < 4 * n + 4) ∨ (140 ≤ j ∧ j ≤ 143 ∧ x = n) ∨ (j = 122 ∧ x = 24)) → τ j x = σ j x) → τ 136 n = p → τ 137 n = k → τ 138 (4 * n) = a → τ 138 (4 * n + 1) = b → τ 138 (4 * n + 2) = c → τ 138 (4 * n + 3) = d → (∀ m, m < 4 → τ 139 (4 * n + m) = τ 138 (4 * n + m)) → τ 140 n = r → τ 141 n = σ 122 0 → τ 143 n = 0 → τ 142 n = drwF (σ 15) a b c → τ 122 24 = n + 1 → Q 0 τ) : v_X12_addCard p k a b c d r σ Q := by
  unfold v_X12_addCard
  rw [hn, Int.toNat_natCast, show (4 * (n : Int)).toNat = 4 * n by omega, show (4 * (n : Int) + 1).toNat = 4 * n + 1 by omega, show (4 * (n : Int) + 2).toNat = 4 * n + 2 by omega, show (4 * (n : Int) + 3).toNat = 4 * n + 3 by omega]
  refine ⟨by omega, by omega, by omega, by omega, by omega, by omega, by omega, by omega, by omega, by omega, ?_⟩
  refine lp0 (l_X12_addCard_74 p k a b c d r n Q) (fun i s => (∀ j x, ¬ ((136 ≤ j ∧ j ≤ 137 ∧ x = n) ∨ (138 ≤ j ∧ j ≤ 139 ∧ 4 * n ≤ x ∧ x < 4 * n + 4)) → s j x = σ j x) ∧ s 136 n = p ∧ s 137 n = k ∧ s 138 (4 * n) = a ∧ s 138 (4 * n + 1) = b ∧ s 138 (4 * n + 2) = c ∧ s 138 (4 * n + 3) = d ∧ ∀ m, m < i → s 139 (4 * n + m) = s 138 (4 * n + m)) 4 _ ⟨fun j x z => ?_, ?_, ?_, ?_, ?_, ?_, ?_, fun m hm => absurd hm (by omega)⟩ ?_ ?_
  · rw [st_ne _ _ (by omega), st_ne _ _ (by omega), st_ne _ _ (by omega), st_ne _ _ (by omega), st_ne _ _ (by omega), st_ne _ _ (by omega)]
  · rw [mset_ne (by decide), mset_ne (by decide), mset_ne (by decide), mset_ne (by decide), mset_ne (by decide), mset_eq]
  · rw [mset_ne (by decide), mset_ne (by decide), mset_ne (by decide), mset_ne (by decide), mset_eq]
  · rw [mset_nei (by omega), mset_nei (by omega), mset_nei (by omega), mset_eq]
  · rw [mset_nei (by omega), mset_nei (by omega), mset_eq]
  · rw [mset_nei (by omega), mset_eq]
  · rw [mset_eq]
  · rintro q s ⟨s1, s2, s3, s4, s5, s6, s7, s8⟩
    rw [l_X12_addCard_74, if_neg (by decide), Int.toNat_natCast]
    refine ⟨by omega, by omega, ?_⟩
    have e0 : s 122 0 = σ 122 0 := s1 122 0 (by omega)
    rw [e0]
    generalize hω : mset (mset (mset s 140 n r) 141 n (σ 122 0)) 143 n 0 = ω
    have w1 : ∀ j x, ¬ (140 ≤ j ∧ j ≤ 143 ∧ x = n) → ω j x = s j x := fun j x z => by
      rw [← hω, st_ne _ _ (by omega), st_ne _ _ (by omega), st_ne _ _ (by omega)]
    have gr : I_rules ω := k_rules (fun j x z => by have := d_rules z; rw [w1 j x (by omega), s1 j x (by omega)]) hr
    have gw : I_now ω := k_now (fun j x z => by have := d_now z; rw [w1 j x (by omega), s1 j x (by omega)]) hw
    refine s_mdrw gr gw rfl hn2 ?_
    have e15 : ω 15 = σ 15 := funext fun x => by rw [w1 15 x (by omega), s1 15 x (by omega)]
    have e24 : ω 122 24 = n := by rw [w1 122 24 (by omega), s1 122 24 (by omega)]; exact hn
    rw [e15, e24, w1 138 (4 * n) (by omega), w1 138 (4 * n + 1) (by omega), w1 138 (4 * n + 2) (by omega), s4, s5, s6]
    refine ⟨⟨by omega, by omega⟩, ?_⟩
    have w2 : ∀ j x, ¬ (140 ≤ j ∧ j ≤ 143 ∧ x = n) → ¬ (j = 122 ∧ x = 24) → mset (mset ω 142 n (drwF (σ 15) a b c)) 122 24 ((n : Int) + 1) j x = s j x := fun j x z z2 => by
      rw [st_ne _ _ (by omega), st_ne _ _ (by omega)]; exact w1 j x z
    refine h _ (fun j x z => ?_) ?_ ?_ ?_ ?_ ?_ ?_ (fun m hm => ?_) ?_ ?_ ?_ ?_ ?_
    · rw [w2 j x (by omega) (by omega)]; exact s1 j x (by omega)
    · rw [w2 _ _ (by omega) (by omega)]; exact s2
    · rw [w2 _ _ (by omega) (by omega)]; exact s3
    · rw [w2 _ _ (by omega) (by omega)]; exact s4
    · rw [w2 _ _ (by omega) (by omega)]; exact s5
    · rw [w2 _ _ (by omega) (by omega)]; exact s6
    · rw [w2 _ _ (by omega) (by omega)]; exact s7
    · rw [w2 _ _ (by omega) (by omega), w2 _ _ (by omega) (by omega)]; exact s8 m hm
    · rw [mset_ne (by decide), mset_ne (by decide), ← hω, mset_ne (by decide), mset_ne (by decide), mset_eq]
    · rw [mset_ne (by decide), mset_ne (by decide), ← hω, mset_ne (by decide), mset_eq]
    · rw [mset_ne (by decide), mset_ne (by decide), ← hω, mset_eq]
    · rw [mset_ne (by decide), mset_eq]
    · rw [mset_eq]
  · rintro q i s hi ⟨s1, s2, s3, s4, s5, s6, s7, s8⟩ ih
    rw [l_X12_addCard_74, if_pos (by omega), show (4 * (n : Int) + i).toNat = 4 * n + i by omega]
    refine ⟨by omega, by omega, ⟨by omega, by omega⟩, ih _ ⟨fun j x z => ?_, ?_, ?_, ?_, ?_, ?_, ?_, fun m hm => ?_⟩⟩
    · rw [st_ne _ _ (by omega)]; exact s1 j x z
    · rw [mset_ne (by decide)]; exact s2
    · rw [mset_ne (by decide)]; exact s3
    · rw [mset_ne (by decide)]; exact s4
    · rw [mset_ne (by decide)]; exact s5
    · rw [mset_ne (by decide)]; exact s6
    · rw [mset_ne (by decide)]; exact s7
    · by_cases e : m = i
      · subst e; rw [mset_eq, mset_ne (by decide)]
      · rw [mset_nei (by omega), mset_ne (by decide)]; exact s8 m (by omega)
