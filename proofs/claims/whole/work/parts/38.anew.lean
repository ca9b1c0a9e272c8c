/-! PURE FACTS, 9: which cells a clause reads; told anew -/
theorem d_tape {j k : Nat} (h : D_tape j k = true) : (j = 1 ∧ k = 1) ∨ (j = 122 ∧ k = 2) ∨ j = 2 ∨ j = 123 := by
  unfold D_tape at h
  repeat' split at h
  all_goals (simp at h; omega)
theorem d_cst {j k : Nat} (h : D_cst j k = true) : j = 124 ∨ j = 125 := by
  unfold D_cst at h; simp at h; omega
theorem d_fault {j k : Nat} (h : D_fault j k = true) : (j = 8 ∧ k = 2) ∨ (j = 122 ∧ (k = 3 ∨ k = 60)) ∨ (j = 0 ∧ k = 16) := by
  unfold D_fault at h
  repeat' split at h
  all_goals (simp at h; try omega)
theorem d_rules {j k : Nat} (h : D_rules j k = true) : (j = 122 ∧ k = 12) ∨ (j = 3 ∧ k = 4) ∨ (4 ≤ j ∧ j ≤ 7) ∨ (126 ≤ j ∧ j ≤ 130) := by
  unfold D_rules at h
  repeat' split at h
  all_goals (simp at h; omega)
theorem d_now {j k : Nat} (h : D_now j k = true) : (j = 122 ∧ k = 0) ∨ (j = 14 ∧ k = 2) ∨ (j = 3 ∧ k = 4) ∨ j = 15 ∨ (4 ≤ j ∧ j ≤ 7) := by
  unfold D_now at h
  repeat' split at h
  all_goals (simp at h; omega)
theorem d_cards {j k : Nat} (h : D_cards j k = true) : (j = 122 ∧ k = 24) ∨ (j = 16 ∧ (k = 2 ∨ k = 9)) ∨ (j = 14 ∧ k = 2) ∨ (23 ≤ j ∧ j < 95) ∨ (136 ≤ j ∧ j < 144) := by
  unfold D_cards at h
  repeat' split at h
  all_goals (simp at h; omega)
theorem d_bars {j k : Nat} (h : D_bars j k = true) : (j = 122 ∧ k = 38) ∨ (j = 16 ∧ k = 4) ∨ j = 18 ∨ j = 147 := by
  unfold D_bars at h
  repeat' split at h
  all_goals (simp at h; omega)
theorem d_tell {j k : Nat} (h : D_tell j k = true) : (j = 122 ∧ k = 39) ∨ (j = 95 ∧ (k = 0 ∨ k = 1)) ∨ j = 96 ∨ j = 148 := by
  unfold D_tell at h
  repeat' split at h
  all_goals (simp at h; omega)
theorem d_hold {j k : Nat} (h : D_hold j k = true) : (j = 122 ∧ k = 52) ∨ (j = 16 ∧ k = 2) ∨ (j = 0 ∧ k = 15) ∨ (118 ≤ j ∧ j ≤ 121) ∨ (154 ≤ j ∧ j ≤ 157) := by
  unfold D_hold at h
  repeat' split at h
  all_goals (simp at h; omega)
theorem d_sheet {j k : Nat} (h : D_sheet j k = true) : (109 ≤ j ∧ j < 117) ∨ (158 ≤ j ∧ j < 161) := by
  unfold D_sheet at h; simp at h; omega
theorem d_anew {j k : Nat} (h : D_anew j k = true) : (j = 122 ∧ k = 33) ∨ (j = 16 ∧ (k = 2 ∨ k = 9)) ∨ (23 ≤ j ∧ j < 95 ∧ k = 3) ∨ (19 ≤ j ∧ j ≤ 22) ∨ (144 ≤ j ∧ j ≤ 146) := by
  unfold D_anew at h
  repeat' split at h
  all_goals (simp at h; omega)
theorem f_anew {σ : Mem} (hI : INV σ) (p m v : Int) : v_X11_anew p m v σ (fun r1 σ1 => v_X12_anew p m v σ1 (fun r2 σ2 => r1 = r2 ∧ INV σ2)) := by
  unfold v_X11_anew
  by_cases c : 0 ≤ p ∧ p < σ 16 2
  · obtain ⟨i, rfl⟩ : ∃ i : Nat, p = i := ⟨p.toNat, by omega⟩
    rw [s_has_t c, if_neg (by decide)]
    by_cases c2 : 0 ≤ m ∧ m ≤ 3
    · obtain ⟨k, rfl⟩ : ∃ k : Nat, m = k := ⟨m.toNat, by omega⟩
      rw [s_isMeasure_t c2, if_neg (by decide)]
      by_cases c3 : 0 ≤ v ∧ v ≤ 999
      · rw [s_isTold_t c3, if_neg (by decide)]
        obtain ⟨h1, h2, h3, h4, h5, h6, h7, h8, h9, h10, h11⟩ := id hI
        obtain ⟨a1, a2, a3, a4, a5⟩ := id h6
        obtain ⟨g1, g2, g3, g4⟩ := id h7
        unfold v_X0_tellAnew
        by_cases c4 : σ 16 9 < 40
        · rw [if_pos c4]
          obtain ⟨b1, b2, b3, b4, b5, b6, b7⟩ := id (a5 i c.2)
          have hk : k < 4 := by omega
          rw [Int.toNat_natCast, Int.toNat_natCast]
          refine ⟨by omega, by omega, ⟨by omega, by omega⟩, by omega, by omega, by omega, by omega, ⟨by omega, by omega⟩, ?_⟩
          have e9 : ∃ q : Nat, σ 16 9 = q := ⟨(σ 16 9).toNat, by omega⟩
          obtain ⟨q, hq⟩ := e9
          rw [hq, Int.toNat_natCast]
          generalize hτ : mset (mset (mset (mset (mset (mset (mset σ 19 q i) 20 q k) 21 q v) 22 q (σ 14 2)) 16 9 ((q : Int) + 1)) (25 + 3 * i) k v) (23 + 3 * i) 4 (σ (23 + 3 * i) 4 + 1) = τ
          have hi : i < 24 := by omega
          have tl : ∀ j k, j < 16 ∨ 95 ≤ j → τ j k = σ j k := by
            intro j k2 z
            rw [← hτ, mset_ne (by omega), mset_ne (by omega), mset_ne (by omega), mset_ne (by omega), mset_ne (by omega), mset_ne (by omega), mset_ne (by omega)]
          have t122 : ∀ k, τ 122 k = σ 122 k := fun k => tl 122 k (Or.inr (by decide))
          unfold v_X12_anew
          dsimp only
          refine s_isCard_t (by rw [t122]; exact hI.n24) (by rw [t122, hI.eqn]; omega) ?_
          rw [if_neg (by decide), s_in_t (by omega), if_neg (by decide), s_mMeasure_t c3, if_neg (by decide), t122 33, t122 0, g1, hq, Int.toNat_natCast, Int.toNat_natCast, if_neg (by omega), tl 143 i (Or.inr (by decide))]
          have eI : (4 * (i : Int) + k).toNat = 4 * i + k := by omega
          rw [eI, tl 138 _ (Or.inr (by decide)), (b7 k hk).2.1]
          refine ⟨by omega, by omega, by omega, by omega, ⟨by omega, by omega⟩, ⟨by omega, by omega⟩, by omega, by omega, by rw [b5.1]; exact ⟨by omega, by omega⟩, rfl, ?_⟩
          generalize hω : mset (mset (mset (mset (mset (mset τ 138 (4 * i + k) v) 144 q (4 * (i : Int) + k)) 145 q v) 146 q (σ 122 0)) 122 33 ((q : Int) + 1)) 143 i (σ 143 i + 1) = ω
          have ag : ∀ j k2, ¬ ((j = 16 ∧ k2 = 9) ∨ (19 ≤ j ∧ j ≤ 22) ∨ (j = 25 + 3 * i ∧ k2 = k) ∨ (j = 23 + 3 * i ∧ k2 = 4) ∨ (j = 122 ∧ k2 = 33) ∨ (j = 138 ∧ k2 = 4 * i + k) ∨ (j = 143 ∧ k2 = i) ∨ (144 ≤ j ∧ j ≤ 146)) → ω j k2 = σ j k2 := by
            intro j k2 z
            have st : ∀ (s : Mem) (a b : Nat) (x : Int), (j ≠ a ∨ k2 ≠ b) → mset s a b x j k2 = s j k2 := fun s a b x z => by
              rcases z with z | z
              · exact mset_ne z
              · exact mset_nei z
            rw [← hω, st _ _ _ _ (by omega), st _ _ _ _ (by omega), st _ _ _ _ (by omega), st _ _ _ _ (by omega), st _ _ _ _ (by omega), st _ _ _ _ (by omega), ← hτ, st _ _ _ _ (by omega), st _ _ _ _ (by omega), st _ _ _ _ (by omega), st _ _ _ _ (by omega), st _ _ _ _ (by omega), st _ _ _ _ (by omega), st _ _ _ _ (by omega)]
          have w143 : ω 143 i = σ 143 i + 1 := by rw [← hω, mset_eq]
          have w33 : ω 122 33 = q + 1 := by rw [← hω, mset_ne (by decide), mset_eq]
          have w146 : ω 146 q = σ 122 0 := by rw [← hω, mset_ne (by decide), mset_ne (by decide), mset_eq]
          have w145 : ω 145 q = v := by rw [← hω, mset_ne (by decide), mset_ne (by decide), mset_ne (by decide), mset_eq]
          have w144 : ω 144 q = 4 * i + k := by rw [← hω, mset_ne (by decide), mset_ne (by decide), mset_ne (by decide), mset_ne (by decide), mset_eq]
          have w138 : ω 138 (4 * i + k) = v := by rw [← hω, mset_ne (by decide), mset_ne (by decide), mset_ne (by decide), mset_ne (by decide), mset_ne (by decide), mset_eq]
          have wl : ∀ j k2, j < 122 → ω j k2 = τ j k2 := by
            intro j k2 z
            rw [← hω, mset_ne (by omega), mset_ne (by omega), mset_ne (by omega), mset_ne (by omega), mset_ne (by omega), mset_ne (by omega)]
          have w4 : ω (23 + 3 * i) 4 = σ (23 + 3 * i) 4 + 1 := by rw [wl _ _ (by omega), ← hτ, mset_eq]
          have w25 : ω (25 + 3 * i) k = v := by rw [wl _ _ (by omega), ← hτ, mset_ne (by omega), mset_eq]
          have w9 : ω 16 9 = q + 1 := by rw [wl _ _ (by omega), ← hτ, mset_ne (by omega), mset_ne (by omega), mset_eq]
          have w22 : ω 22 q = σ 14 2 := by rw [wl _ _ (by omega), ← hτ, mset_ne (by omega), mset_ne (by omega), mset_ne (by omega), mset_eq]
          have w21 : ω 21 q = v := by rw [wl _ _ (by omega), ← hτ, mset_ne (by omega), mset_ne (by omega), mset_ne (by omega), mset_ne (by omega), mset_eq]
          have w20 : ω 20 q = k := by rw [wl _ _ (by omega), ← hτ, mset_ne (by omega), mset_ne (by omega), mset_ne (by omega), mset_ne (by omega), mset_ne (by omega), mset_eq]
          have w19 : ω 19 q = i := by rw [wl _ _ (by omega), ← hτ, mset_ne (by omega), mset_ne (by omega), mset_ne (by omega), mset_ne (by omega), mset_ne (by omega), mset_ne (by omega), mset_eq]
          have old : ∀ j k2, ((19 ≤ j ∧ j ≤ 22) ∨ (144 ≤ j ∧ j ≤ 146)) → k2 ≠ q → ω j k2 = σ j k2 := by
            intro j k2 z z2
            have st : ∀ (s : Mem) (a b : Nat) (x : Int), (j ≠ a ∨ k2 ≠ b) → mset s a b x j k2 = s j k2 := fun s a b x z => by
              rcases z with z | z
              · exact mset_ne z
              · exact mset_nei z
            rw [← hω, st _ _ _ _ (by omega), st _ _ _ _ (by omega), st _ _ _ _ (by omega), st _ _ _ _ (by omega), st _ _ _ _ (by omega), st _ _ _ _ (by omega), ← hτ, st _ _ _ _ (by omega), st _ _ _ _ (by omega), st _ _ _ _ (by omega), st _ _ _ _ (by omega), st _ _ _ _ (by omega), st _ _ _ _ (by omega), st _ _ _ _ (by omega)]
          refine ⟨k_tape (fun j k z => ag j k (by have := d_tape z; omega)) h1, k_cst (fun j k z => ag j k (by have := d_cst z; omega)) h2, k_fault (fun j k z => ag j k (by have := d_fault z; omega)) h3, k_rules (fun j k z => ag j k (by have := d_rules z; omega)) h4, k_now (fun j k z => ag j k (by have := d_now z; omega)) h5, ?_, ?_, k_bars (fun j k z => ag j k (by have := d_bars z; omega)) h8, k_tell (fun j k z => ag j k (by have := d_tell z; omega)) h9, k_hold (fun j k z => ag j k (by have := d_hold z; omega)) h10, k_sheet (fun j k z => ag j k (by have := d_sheet z; omega)) h11⟩
          · refine ⟨by rw [ag 122 24 (by omega), ag 16 2 (by omega)]; exact a1, by rw [ag 16 2 (by omega)]; exact a2, by rw [ag 16 2 (by omega)]; exact a3, fun x hx hn => ?_, fun x hx => ?_⟩
            · rw [ag 16 2 (by omega)] at hn
              rw [ag _ 4 (by omega)]; exact a4 x hx hn
            · rw [ag 16 2 (by omega)] at hx
              obtain ⟨x1, x2, x3, x4, x5, x6, x7⟩ := a5 x hx
              rw [ag 136 x (by omega), ag 137 x (by omega), ag 140 x (by omega), ag 141 x (by omega), ag 142 x (by omega), ag (23 + 3 * x) 0 (by omega), ag (23 + 3 * x) 1 (by omega), ag (23 + 3 * x) 2 (by omega), ag (23 + 3 * x) 3 (by omega), ag (23 + 3 * x) 5 (by omega), ag 14 2 (by omega), w9]
              refine ⟨x1, x2, x3, x4, ?_, x6, fun y hy => ?_⟩
              · by_cases e : x = i
                · subst e; rw [w143, w4]; omega
                · rw [ag 143 x (by omega), ag _ 4 (by omega)]; omega
              · obtain ⟨y1, y2, y3⟩ := x7 y hy
                rw [ag 139 _ (by omega), ag (24 + 3 * x) y (by omega)]
                refine ⟨y1, ?_⟩
                by_cases e : x = i ∧ y = k
                · rw [e.1, e.2, w138, w25]; exact ⟨rfl, c3⟩
                · rw [ag 138 _ (by omega), ag (25 + 3 * x) y (by omega)]; exact ⟨y2, y3⟩
          · refine ⟨by rw [w33, w9], by rw [w9]; omega, by rw [w9]; omega, fun x hx => ?_⟩
            rw [w9] at hx
            rw [ag 16 2 (by omega)]
            by_cases e : x = q
            · subst e
              rw [w144, w145, w146, w19, w20, w21, w22, Int.toNat_natCast, ag (23 + 3 * i) 3 (by omega)]
              have := h5.1
              refine ⟨rfl, by omega, by omega, by omega, by omega, rfl, this, b4.2.2⟩
            · obtain ⟨y1, y2, y3, y4, y5, y6, y7, y8⟩ := g4 x (by omega)
              rw [old 144 x (by omega) e, old 145 x (by omega) e, old 146 x (by omega) e, old 19 x (by omega) e, old 20 x (by omega) e, old 21 x (by omega) e, old 22 x (by omega) e, ag _ 3 (by omega)]
              exact ⟨y1, y2, y3, y4, y5, y6, y7, y8⟩
        · rw [if_neg c4]
          unfold v_X12_anew
          dsimp only
          refine s_isCard_t hI.n24 (by rw [hI.eqn]; omega) ?_
          rw [if_neg (by decide), s_in_t (by omega), if_neg (by decide), s_mMeasure_t c3, if_neg (by decide), if_pos (by omega)]
          exact ⟨rfl, hI⟩
      · rw [s_isTold_f c3, if_pos rfl]
        unfold v_X12_anew
        dsimp only
        refine s_isCard_t hI.n24 (by rw [hI.eqn]; omega) ?_
        rw [if_neg (by decide), s_in_t (by omega), if_neg (by decide), s_mMeasure_f c3, if_pos rfl]
        exact ⟨rfl, hI⟩
    · rw [s_isMeasure_f c2, if_pos rfl]
      unfold v_X12_anew
      dsimp only
      refine s_isCard_t hI.n24 (by rw [hI.eqn]; omega) ?_
      rw [if_neg (by decide), s_in_f c2, if_pos rfl]
      exact ⟨rfl, hI⟩
  · rw [s_has_f c, if_pos rfl]
    unfold v_X12_anew
    dsimp only
    refine s_isCard_f hI.n24 (by rw [hI.eqn]; exact c) ?_
    rw [if_pos rfl]
    exact ⟨rfl, hI⟩
