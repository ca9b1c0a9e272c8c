/-! PURE FACTS, 35: cards read, laid -/
theorem a_addO {σ : Mem} {p k r q0 : Int} {n o : Nat} {Q : Int → Mem → Prop} (ho : q0 = o) (ho2 : o + 4 ≤ 96) (hn : σ 16 2 = n) (hn2 : n < 24) (h : ∀ τ : Mem, (∀ j x, ¬ ((j = 23 + 3 * n ∧ x ≠ 4) ∨ j = 24 + 3 * n ∨ j = 25 + 3 * n ∨ (j = 16 ∧ x = 2)) → τ j x = σ j x) → τ (23 + 3 * n) 0 = p → τ (23 + 3 * n) 1 = k → τ (23 + 3 * n) 2 = r → τ (23 + 3 * n) 3 = σ 14 2 → τ (23 + 3 * n) 5 = drwF (σ 15) (σ 117 o) (σ 117 (o + 1)) (σ 117 (o + 2)) → (∀ m, m < 4 → τ (24 + 3 * n) m = σ 117 (o + m) ∧ τ (25 + 3 * n) m = σ 117 (o + m)) → τ 16 2 = n + 1 → Q n τ) : v_X0_add p k r q0 σ Q := by
  subst ho
  unfold v_X0_add
  rw [hn, if_pos (by omega), Int.toNat_natCast]
  refine ⟨by omega, by omega, ?_⟩
  refine lp0 (l_X0_add_56 p k r o n Q) (fun i s => (∀ j x, ¬ ((j = 23 + 3 * n ∧ x ≠ 4 ∧ x ≠ 5) ∨ j = 24 + 3 * n ∨ j = 25 + 3 * n) → s j x = σ j x) ∧ s (23 + 3 * n) 0 = p ∧ s (23 + 3 * n) 1 = k ∧ s (23 + 3 * n) 2 = r ∧ s (23 + 3 * n) 3 = σ 14 2 ∧ ∀ m, m < i → s (24 + 3 * n) m = σ 117 (o + m) ∧ s (25 + 3 * n) m = σ 117 (o + m)) 4 _ ⟨fun j x z => ?_, ?_, ?_, ?_, ?_, fun m hm => absurd hm (by omega)⟩ ?_ ?_
  · rw [st_ne _ _ (by omega), st_ne _ _ (by omega), st_ne _ _ (by omega), st_ne _ _ (by omega)]
  · rw [mset_nei (by decide), mset_nei (by decide), mset_nei (by decide), mset_eq]
  · rw [mset_nei (by decide), mset_nei (by decide), mset_eq]
  · rw [mset_nei (by decide), mset_eq]
  · rw [mset_eq]
  · rintro q s ⟨s1, s2, s3, s4, s5, s6⟩
    rw [l_X0_add_56, if_neg (by decide)]
    refine s_drw_c ?_
    have e15 : s 15 = σ 15 := funext fun x => s1 15 x (by omega)
    have e16 : s 16 2 = n := by rw [s1 16 2 (by omega)]; exact hn
    rw [e15, (s6 0 (by decide)).2, (s6 1 (by decide)).2, (s6 2 (by decide)).2, e16]
    refine ⟨⟨by omega, by omega⟩, ⟨by omega, by omega⟩, ?_⟩
    rw [show (n : Int) + 1 - 1 = n by omega]
    refine h _ (fun j x z => ?_) ?_ ?_ ?_ ?_ ?_ (fun m hm => ?_) ?_
    · rw [st_ne _ _ (by omega), st_ne _ _ (by omega)]; exact s1 j x (by omega)
    · rw [mset_ne (by omega), mset_nei (by decide)]; exact s2
    · rw [mset_ne (by omega), mset_nei (by decide)]; exact s3
    · rw [mset_ne (by omega), mset_nei (by decide)]; exact s4
    · rw [mset_ne (by omega), mset_nei (by decide)]; exact s5
    · rw [mset_ne (by omega), mset_eq]; rfl
    · rw [mset_ne (by omega), mset_ne (by omega), mset_ne (by omega), mset_ne (by omega)]; exact s6 m hm
    · rw [mset_eq]
  · rintro q i s hi ⟨s1, s2, s3, s4, s5, s6⟩ ih
    rw [l_X0_add_56, if_pos (by omega), show ((o : Int) + (i : Int)).toNat = o + i by omega, Int.toNat_natCast]
    have e117 : s 117 (o + i) = σ 117 (o + i) := s1 117 (o + i) (by omega)
    rw [e117]
    refine ⟨by omega, by omega, by omega, by omega, ⟨by omega, by omega⟩, ih _ ⟨fun j x z => ?_, ?_, ?_, ?_, ?_, fun m hm => ?_⟩⟩
    · rw [st_ne _ _ (by omega), st_ne _ _ (by omega)]; exact s1 j x z
    · rw [mset_ne (by omega), mset_ne (by omega)]; exact s2
    · rw [mset_ne (by omega), mset_ne (by omega)]; exact s3
    · rw [mset_ne (by omega), mset_ne (by omega)]; exact s4
    · rw [mset_ne (by omega), mset_ne (by omega)]; exact s5
    · by_cases e : m = i
      · subst e
        exact ⟨by rw [mset_ne (by omega), mset_eq], by rw [mset_eq]⟩
      · rw [mset_ne (by omega), mset_nei e, mset_nei e, mset_ne (by omega)]; exact s6 m (by omega)
/-- the class lays the cards that were read -/
theorem s_addN {σ : Mem} {p a2 a3 a4 a5 x7 : Int} {w n : Nat} {Q : Int → Mem → Prop} (hn : σ 16 2 = n) (hw : n + w ≤ 24) (h : ∀ τ : Mem, (∀ j x, ¬ ((23 + 3 * n ≤ j ∧ j < 23 + 3 * (n + w) ∧ (x ≠ 4 ∨ (j - 23) % 3 ≠ 0)) ∨ (j = 16 ∧ x = 2)) → τ j x = σ j x) → τ 16 2 = ((n + w : Nat) : Int) → (∀ i, i < w → τ (23 + 3 * (n + i)) 0 = p ∧ τ (23 + 3 * (n + i)) 1 = 0 ∧ τ (23 + 3 * (n + i)) 2 = 0 ∧ τ (23 + 3 * (n + i)) 3 = σ 14 2 ∧ τ (23 + 3 * (n + i)) 5 = drwF (σ 15) (σ 117 (4 * i)) (σ 117 (4 * i + 1)) (σ 117 (4 * i + 2)) ∧ ∀ m, m < 4 → τ (24 + 3 * (n + i)) m = σ 117 (4 * i + m) ∧ τ (25 + 3 * (n + i)) m = σ 117 (4 * i + m)) → Q w (mset τ 0 16 x7)) : ∃ n_, l_X11_read_179 p a2 a3 a4 a5 x7 w Q n_ 0 σ := by
  refine lp0 (l_X11_read_179 p a2 a3 a4 a5 x7 w Q) (fun k τ => (∀ j x, ¬ ((23 + 3 * n ≤ j ∧ j < 23 + 3 * (n + k) ∧ (x ≠ 4 ∨ (j - 23) % 3 ≠ 0)) ∨ (j = 16 ∧ x = 2)) → τ j x = σ j x) ∧ τ 16 2 = ((n + k : Nat) : Int) ∧ (∀ i, i < k → τ (23 + 3 * (n + i)) 0 = p ∧ τ (23 + 3 * (n + i)) 1 = 0 ∧ τ (23 + 3 * (n + i)) 2 = 0 ∧ τ (23 + 3 * (n + i)) 3 = σ 14 2 ∧ τ (23 + 3 * (n + i)) 5 = drwF (σ 15) (σ 117 (4 * i)) (σ 117 (4 * i + 1)) (σ 117 (4 * i + 2)) ∧ ∀ m, m < 4 → τ (24 + 3 * (n + i)) m = σ 117 (4 * i + m) ∧ τ (25 + 3 * (n + i)) m = σ 117 (4 * i + m))) w σ ⟨fun _ _ _ => rfl, by rw [hn]; rfl, fun i hi => absurd hi (by omega)⟩ ?_ ?_
  · rintro q τ ⟨h1, h2, h3⟩
    rw [l_X11_read_179, if_neg (by omega)]
    exact h τ h1 h2 h3
  · rintro q k τ hk ⟨h1, h2, h3⟩ ih
    rw [l_X11_read_179, if_pos (by omega)]
    refine ⟨⟨by omega, by omega⟩, a_addO (o := 4 * k) (n := n + k) (by omega) (by omega) h2 (by omega) (fun ω g0 g1 g2 g3 g4 g5 g6 g7 => ?_)⟩
    have e117 : τ 117 = σ 117 := funext fun x => h1 117 x (by omega)
    have e15 : τ 15 = σ 15 := funext fun x => h1 15 x (by omega)
    rw [h1 14 2 (by omega)] at g4
    rw [e15, e117] at g5
    rw [e117] at g6
    refine ⟨⟨by omega, by omega⟩, ih _ ⟨fun j x z => ?_, by rw [g7]; omega, fun i hi => ?_⟩⟩
    · rw [g0 j x (by omega)]; exact h1 j x (by omega)
    · by_cases e : i = k
      · subst e; exact ⟨g1, g2, g3, g4, g5, g6⟩
      · obtain ⟨y1, y2, y3, y4, y5, y6⟩ := h3 i (by omega)
        refine ⟨by rw [g0 _ 0 (by omega)]; exact y1, by rw [g0 _ 1 (by omega)]; exact y2, by rw [g0 _ 2 (by omega)]; exact y3, by rw [g0 _ 3 (by omega)]; exact y4, by rw [g0 _ 5 (by omega)]; exact y5, fun m hm => ?_⟩
        rw [g0 (24 + 3 * (n + i)) m (by omega), g0 (25 + 3 * (n + i)) m (by omega)]; exact y6 m hm
/-- the model does -/
theorem s_maddN {σ : Mem} {p a2 a3 a4 a5 x6 : Int} {w n : Nat} {Q : Int → Mem → Prop} (hr : I_rules σ) (hnw : I_now σ) (hn : σ 122 24 = n) (hw : n + w ≤ 24) (h : ∀ τ : Mem, (∀ j x, ¬ ((136 ≤ j ∧ j ≤ 137 ∧ n ≤ x ∧ x < n + w) ∨ (138 ≤ j ∧ j ≤ 139 ∧ 4 * n ≤ x ∧ x < 4 * (n + w)) ∨ (140 ≤ j ∧ j ≤ 143 ∧ n ≤ x ∧ x < n + w) ∨ (j = 122 ∧ x = 24)) → τ j x = σ j x) → τ 122 24 = ((n + w : Nat) : Int) → (∀ i, i < w → τ 136 (n + i) = p ∧ τ 137 (n + i) = 0 ∧ τ 140 (n + i) = 0 ∧ τ 141 (n + i) = σ 122 0 ∧ τ 143 (n + i) = 0 ∧ τ 142 (n + i) = drwF (σ 15) (σ 161 (4 * i)) (σ 161 (4 * i + 1)) (σ 161 (4 * i + 2)) ∧ ∀ m, m < 4 → τ 138 (4 * (n + i) + m) = σ 161 (4 * i + m) ∧ τ 139 (4 * (n + i) + m) = σ 161 (4 * i + m)) → Q w (mset τ 122 60 x6)) : ∃ n_, l_X12_read_222 p a2 a3 a4 a5 x6 w Q n_ 0 σ := by
  refine lp0 (l_X12_read_222 p a2 a3 a4 a5 x6 w Q) (fun k τ => (∀ j x, ¬ ((136 ≤ j ∧ j ≤ 137 ∧ n ≤ x ∧ x < n + k) ∨ (138 ≤ j ∧ j ≤ 139 ∧ 4 * n ≤ x ∧ x < 4 * (n + k)) ∨ (140 ≤ j ∧ j ≤ 143 ∧ n ≤ x ∧ x < n + k) ∨ (j = 122 ∧ x = 24)) → τ j x = σ j x) ∧ τ 122 24 = ((n + k : Nat) : Int) ∧ (∀ i, i < k → τ 136 (n + i) = p ∧ τ 137 (n + i) = 0 ∧ τ 140 (n + i) = 0 ∧ τ 141 (n + i) = σ 122 0 ∧ τ 143 (n + i) = 0 ∧ τ 142 (n + i) = drwF (σ 15) (σ 161 (4 * i)) (σ 161 (4 * i + 1)) (σ 161 (4 * i + 2)) ∧ ∀ m, m < 4 → τ 138 (4 * (n + i) + m) = σ 161 (4 * i + m) ∧ τ 139 (4 * (n + i) + m) = σ 161 (4 * i + m))) w σ ⟨fun _ _ _ => rfl, by rw [hn]; rfl, fun i hi => absurd hi (by omega)⟩ ?_ ?_
  · rintro q τ ⟨h1, h2, h3⟩
    rw [l_X12_read_222, if_neg (by omega)]
    exact h τ h1 h2 h3
  · rintro q k τ hk ⟨h1, h2, h3⟩ ih
    rw [l_X12_read_222, if_pos (by omega), show (4 * (k : Int)).toNat = 4 * k by omega, show (4 * (k : Int) + 1).toNat = 4 * k + 1 by omega, show (4 * (k : Int) + 2).toNat = 4 * k + 2 by omega, show (4 * (k : Int) + 3).toNat = 4 * k + 3 by omega]
    have e161 : τ 161 = σ 161 := funext fun x => h1 161 x (by omega)
    have e15 : τ 15 = σ 15 := funext fun x => h1 15 x (by omega)
    have gr : I_rules τ := k_rules (fun j x z => h1 j x (by have := d_rules z; omega)) hr
    have gw : I_now τ := k_now (fun j x z => h1 j x (by have := d_now z; omega)) hnw
    rw [e161]
    refine ⟨by omega, by omega, by omega, by omega, by omega, by omega, by omega, by omega, b_add gr gw (n := n + k) h2 (by omega) (fun ω f0 f1 f2 f3 f4 f5 f6 f7 f8 f9 f10 f11 f12 => ?_)⟩
    rw [e15] at f11
    rw [h1 122 0 (by omega)] at f9
    refine ⟨⟨by omega, by omega⟩, ih _ ⟨fun j x z => ?_, by rw [f12]; omega, fun i hi => ?_⟩⟩
    · rw [f0 j x (by omega)]; exact h1 j x (by omega)
    · by_cases e : i = k
      · subst e
        have m138 : ∀ m, m < 4 → ω 138 (4 * (n + i) + m) = σ 161 (4 * i + m) := by
          intro m hm
          have m4 : m = 0 ∨ m = 1 ∨ m = 2 ∨ m = 3 := by omega
          rcases m4 with q | q | q | q <;> subst q
          · exact f3
          · exact f4
          · exact f5
          · exact f6
        exact ⟨f1, f2, f8, f9, f10, f11, fun m hm => ⟨m138 m hm, by rw [f7 m hm]; exact m138 m hm⟩⟩
      · obtain ⟨y1, y2, y3, y4, y5, y6, y7⟩ := h3 i (by omega)
        refine ⟨by rw [f0 136 _ (by omega)]; exact y1, by rw [f0 137 _ (by omega)]; exact y2, by rw [f0 140 _ (by omega)]; exact y3, by rw [f0 141 _ (by omega)]; exact y4, by rw [f0 143 _ (by omega)]; exact y5, by rw [f0 142 _ (by omega)]; exact y6, fun m hm => ?_⟩
        rw [f0 138 _ (by omega), f0 139 _ (by omega)]; exact y7 m hm
