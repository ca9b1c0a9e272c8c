/-! PURE FACTS, 21: card -/
theorem a_card {σ : Mem} {p k a b c d r : Int} {Q : Int → Mem → Prop} (h : ((0 ≤ p ∧ p ≤ 5) ∧ (0 ≤ k ∧ k ≤ 2) ∧ (0 ≤ a ∧ a ≤ 999) ∧ (0 ≤ b ∧ b ≤ 999) ∧ (0 ≤ c ∧ c ≤ 999) ∧ (0 ≤ d ∧ d ≤ 999) ∧ (0 ≤ r ∧ r ≤ 1023)) → v_X0_add p k r 0 (mset (mset (mset (mset σ 117 0 a) 117 1 b) 117 2 c) 117 3 d) Q) (h2 : ¬ ((0 ≤ p ∧ p ≤ 5) ∧ (0 ≤ k ∧ k ≤ 2) ∧ (0 ≤ a ∧ a ≤ 999) ∧ (0 ≤ b ∧ b ≤ 999) ∧ (0 ≤ c ∧ c ≤ 999) ∧ (0 ≤ d ∧ d ≤ 999) ∧ (0 ≤ r ∧ r ≤ 1023)) → Q (-1) σ) : v_X11_card p k a b c d r σ Q := by
  have J : ∀ s0 : Int, (s0 = 0 ↔ ¬ ((0 ≤ a ∧ a ≤ 999) ∧ (0 ≤ b ∧ b ≤ 999) ∧ (0 ≤ c ∧ c ≤ 999) ∧ (0 ≤ d ∧ d ≤ 999))) → j_X11_card_36 p k a b c d r Q s0 σ := by
    intro s0 hs
    unfold j_X11_card_36 j_X11_card_52
    by_cases c1 : 0 ≤ p ∧ p ≤ 5
    · rw [s_isHand_t c1, if_neg (by decide)]
      by_cases c3 : 0 ≤ k ∧ k ≤ 2
      · rw [if_neg (show ¬ k < 0 by omega), if_neg (show ¬ 2 < k by omega), if_neg (by decide)]
        by_cases c2 : s0 = 0
        · rw [if_pos c2]; exact h2 (fun z => hs.mp c2 ⟨z.2.2.1, z.2.2.2.1, z.2.2.2.2.1, z.2.2.2.2.2.1⟩)
        · rw [if_neg c2]
          by_cases c4 : 0 ≤ r ∧ r ≤ 1023
          · rw [if_neg (show ¬ r < 0 by omega), if_pos (show r < 1024 by omega)]
            refine h ?_
            have w : (0 ≤ a ∧ a ≤ 999) ∧ (0 ≤ b ∧ b ≤ 999) ∧ (0 ≤ c ∧ c ≤ 999) ∧ (0 ≤ d ∧ d ≤ 999) := by
              by_cases w : (0 ≤ a ∧ a ≤ 999) ∧ (0 ≤ b ∧ b ≤ 999) ∧ (0 ≤ c ∧ c ≤ 999) ∧ (0 ≤ d ∧ d ≤ 999)
              · exact w
              · exact absurd (hs.mpr w) c2
            exact ⟨c1, c3, w.1, w.2.1, w.2.2.1, w.2.2.2, c4⟩
          · have no := h2 (fun z => c4 z.2.2.2.2.2.2)
            by_cases z : r < 0
            · rw [if_pos z]; exact no
            · rw [if_neg z, if_neg (show ¬ r < 1024 by omega)]; exact no
      · have no := h2 (fun z => c3 z.2.1)
        have e : (if k < 0 then (0 : Int) else (if 2 < k then 0 else 1)) = 0 := by
          by_cases z : k < 0
          · rw [if_pos z]
          · rw [if_neg z, if_pos (by omega)]
        rw [e, if_pos rfl]; exact no
    · rw [s_isHand_f c1, if_pos rfl]; exact h2 (fun z => c1 z.1)
  unfold v_X11_card
  by_cases c1 : 0 ≤ a ∧ a ≤ 999
  · rw [s_isTold_t c1, if_neg (by decide)]
    by_cases c2 : 0 ≤ b ∧ b ≤ 999
    · rw [s_isTold_t c2, if_neg (by decide)]
      by_cases c3 : 0 ≤ c ∧ c ≤ 999
      · rw [s_isTold_t c3, if_neg (by decide)]
        by_cases c4 : 0 ≤ d ∧ d ≤ 999
        · rw [s_isTold_t c4, if_neg (by decide)]
          exact J 1 ⟨fun z => absurd z (by decide), fun z => absurd ⟨c1, c2, c3, c4⟩ z⟩
        · rw [s_isTold_f c4, if_pos rfl]
          exact J 0 ⟨fun _ z => c4 z.2.2.2, fun _ => rfl⟩
      · rw [s_isTold_f c3, if_pos rfl]
        exact J 0 ⟨fun _ z => c3 z.2.2.1, fun _ => rfl⟩
    · rw [s_isTold_f c2, if_pos rfl]
      exact J 0 ⟨fun _ z => c2 z.2.1, fun _ => rfl⟩
  · rw [s_isTold_f c1, if_pos rfl]
    exact J 0 ⟨fun _ z => c1 z.1, fun _ => rfl⟩
theorem f_card {σ : Mem} (hI : INV σ) (p k a b c d r : Int) : v_X11_card p k a b c d r σ (fun r1 σ1 => v_X12_card p k a b c d r σ1 (fun r2 σ2 => r1 = r2 ∧ INV σ2)) := by
  obtain ⟨h1, h2, h3, h4, h5, h6, h7, h8, h9, h10, h11⟩ := id hI
  obtain ⟨a1, a2, a3, a4, a5⟩ := id h6
  refine a_card (fun ⟨c1, c2, c3, c4, c5, c6, c7⟩ => ?_) (fun no => ?_)
  · have in12 : ∀ (τ : Mem) (Q : Int → Mem → Prop), (if τ 122 24 = 24 then Q (-3) τ else v_X12_addCard p k a b c d r τ (fun _ σ33 => inR ((σ33 122 24) - 1) ∧ Q ((σ33 122 24) - 1) σ33)) → v_X12_card p k a b c d r τ Q := by
      intro τ Q h
      unfold v_X12_card
      rw [s_in_t c1, if_neg (by decide), s_in_t c2, if_neg (by decide), s_mMeasure_t c3, if_neg (by decide), s_mMeasure_t c4, if_neg (by decide), s_mMeasure_t c5, if_neg (by decide), s_mMeasure_t c6, if_neg (by decide), s_in_t c7, if_neg (by decide)]
      exact h
    generalize hτ : mset (mset (mset (mset σ 117 0 a) 117 1 b) 117 2 c) 117 3 d = τ
    have t : ∀ j x, j ≠ 117 → τ j x = σ j x := fun j x z => by rw [← hτ, mset_ne z, mset_ne z, mset_ne z, mset_ne z]
    have m0 : τ 117 0 = a := by rw [← hτ, mset_nei (by decide), mset_nei (by decide), mset_nei (by decide), mset_eq]
    have m1 : τ 117 1 = b := by rw [← hτ, mset_nei (by decide), mset_nei (by decide), mset_eq]
    have m2 : τ 117 2 = c := by rw [← hτ, mset_nei (by decide), mset_eq]
    have m3 : τ 117 3 = d := by rw [← hτ, mset_eq]
    have sT : SAME σ τ := by rw [← hτ]; exact (((SAME.rf.st rfl).st rfl).st rfl).st rfl
    by_cases full : σ 16 2 < 24
    · obtain ⟨n, hn⟩ : ∃ n : Nat, σ 16 2 = n := ⟨(σ 16 2).toNat, by omega⟩
      have n24 : n < 24 := by omega
      have e15 : τ 15 = σ 15 := funext fun x => t 15 x (by decide)
      refine a_add (n := n) (by rw [t 16 2 (by decide)]; exact hn) n24 (fun ω g0 g1 g2 g3 g4 g5 g6 g7 => ?_)
      rw [e15, m0, m1, m2] at g5
      rw [t 14 2 (by decide)] at g4
      have w : ∀ j x, ¬ ((j = 23 + 3 * n ∧ x ≠ 4) ∨ j = 24 + 3 * n ∨ j = 25 + 3 * n ∨ (j = 16 ∧ x = 2) ∨ j = 117) → ω j x = σ j x := fun j x z => by rw [g0 j x (by omega), t j x (by omega)]
      refine in12 _ _ ?_
      have e24 : ω 122 24 = n := by rw [w 122 24 (by omega), a1]; exact hn
      rw [if_neg (by omega)]
      have hr : I_rules ω := k_rules (fun j x z => w j x (by have := d_rules z; omega)) h4
      have hw : I_now ω := k_now (fun j x z => w j x (by have := d_now z; omega)) h5
      refine b_add hr hw e24 n24 (fun θ f0 f1 f2 f3 f4 f5 f6 f7 f8 f9 f10 f11 f12 => ?_)
      rw [f12]
      refine ⟨⟨by omega, by omega⟩, by omega, ?_⟩
      have fw15 : ω 15 = σ 15 := funext fun x => w 15 x (by omega)
      rw [fw15] at f11
      rw [w 122 0 (by omega), h5.1] at f9
      have ag : ∀ j x, ¬ ((j = 23 + 3 * n ∧ x ≠ 4) ∨ j = 24 + 3 * n ∨ j = 25 + 3 * n ∨ (j = 16 ∧ x = 2) ∨ j = 117 ∨ (136 ≤ j ∧ j ≤ 137 ∧ x = n) ∨ (138 ≤ j ∧ j ≤ 139 ∧ 4 * n ≤ x ∧ x < 4 * n + 4) ∨ (140 ≤ j ∧ j ≤ 143 ∧ x = n) ∨ (j = 122 ∧ x = 24)) → θ j x = σ j x := fun j x z => by rw [f0 j x (by omega), w j x (by omega)]
      have cw : ∀ j x, j < 122 → θ j x = ω j x := fun j x z => f0 j x (by omega)
      have n2 : θ 16 2 = n + 1 := by rw [cw 16 2 (by decide)]; exact g7
      have dr := drwF_rng (σ 15) a b c
      have q0 := h5.2.1
      have wn : ω (23 + 3 * n) 4 = 0 := by rw [w _ 4 (by omega)]; exact a4 n n24 (by omega)
      refine ⟨k_tape (fun j x z => ag j x (by have := d_tape z; omega)) h1, k_cst (fun j x z => ag j x (by have := d_cst z; omega)) h2, k_fault (fun j x z => ag j x (by have := d_fault z; omega)) h3, k_rules (fun j x z => ag j x (by have := d_rules z; omega)) h4, k_now (fun j x z => ag j x (by have := d_now z; omega)) h5, ?_, ?_, k_bars (fun j x z => ag j x (by have := d_bars z; omega)) h8, k_tell (fun j x z => ag j x (by have := d_tell z; omega)) h9, ?_, k_sheet (fun j x z => ag j x (by have := d_sheet z; omega)) h11⟩
      · refine ⟨by rw [f12, n2], by omega, by omega, fun x hx hn2 => ?_, fun x hx => ?_⟩
        · rw [n2] at hn2
          rw [ag _ 4 (by omega)]; exact a4 x hx (by omega)
        · rw [n2] at hx
          by_cases e : x = n
          · subst e
            rw [cw _ 0 (by omega), cw _ 1 (by omega), cw _ 2 (by omega), cw _ 3 (by omega), cw _ 4 (by omega), cw _ 5 (by omega), f1, f2, f8, f9, f10, f11, g1, g2, g3, g4, g5, wn, ag 14 2 (by omega), ag 16 9 (by omega)]
            refine ⟨⟨rfl, c1⟩, ⟨rfl, c2⟩, ⟨rfl, c7⟩, ⟨rfl, q0, Int.le_refl _⟩, ⟨rfl, Int.le_refl _, h7.2.1⟩, ⟨rfl, Or.inr dr⟩, fun m hm => ?_⟩
            rw [cw (24 + 3 * x) m (by omega), cw (25 + 3 * x) m (by omega), (g6 m hm).1, (g6 m hm).2, f7 m hm]
            have m4 : m = 0 ∨ m = 1 ∨ m = 2 ∨ m = 3 := by omega
            rcases m4 with q | q | q | q <;> subst q
            · rw [m0, show 4 * x + 0 = 4 * x by omega, f3]; exact ⟨rfl, rfl, c3⟩
            · rw [m1, f4]; exact ⟨rfl, rfl, c4⟩
            · rw [m2, f5]; exact ⟨rfl, rfl, c5⟩
            · rw [m3, f6]; exact ⟨rfl, rfl, c6⟩
          · obtain ⟨x1, x2, x3, x4, x5, x6, x7⟩ := a5 x (by omega)
            rw [ag 136 x (by omega), ag 137 x (by omega), ag 140 x (by omega), ag 141 x (by omega), ag 142 x (by omega), ag 143 x (by omega), ag (23 + 3 * x) 0 (by omega), ag (23 + 3 * x) 1 (by omega), ag (23 + 3 * x) 2 (by omega), ag (23 + 3 * x) 3 (by omega), ag (23 + 3 * x) 4 (by omega), ag (23 + 3 * x) 5 (by omega), ag 14 2 (by omega), ag 16 9 (by omega)]
            refine ⟨x1, x2, x3, x4, x5, x6, fun m hm => ?_⟩
            rw [ag 139 _ (by omega), ag 138 _ (by omega), ag (24 + 3 * x) m (by omega), ag (25 + 3 * x) m (by omega)]
            exact x7 m hm
      · obtain ⟨y1, y2, y3, y4⟩ := h7
        refine ⟨by rw [ag 122 33 (by omega), ag 16 9 (by omega)]; exact y1, by rw [ag 16 9 (by omega)]; exact y2, by rw [ag 16 9 (by omega)]; exact y3, fun x hx => ?_⟩
        rw [ag 16 9 (by omega)] at hx
        obtain ⟨z1, z2, z3, z4, z5, z6, z7, z8⟩ := y4 x hx
        rw [ag 144 x (by omega), ag 19 x (by omega), ag 20 x (by omega), ag 145 x (by omega), ag 21 x (by omega), ag 146 x (by omega), ag 22 x (by omega), n2, ag (23 + 3 * (σ 19 x).toNat) 3 (by omega)]
        exact ⟨z1, z2, by omega, z4, z5, z6, z7, z8⟩
      · obtain ⟨y1, y2, y3, y4, y5⟩ := h10
        refine ⟨by rw [ag 122 52 (by omega), ag 0 15 (by omega)]; exact y1, by rw [ag 0 15 (by omega)]; exact y2, by rw [ag 0 15 (by omega)]; exact y3, fun x hx hn2 => ?_, fun x hx => ?_⟩
        · rw [ag 0 15 (by omega)] at hn2
          rw [ag 121 x (by omega)]; exact y4 x hx hn2
        · rw [ag 0 15 (by omega)] at hx
          obtain ⟨z1, z2, z3, z4, z5⟩ := y5 x hx
          rw [ag 154 x (by omega), ag 118 x (by omega), ag 155 x (by omega), ag 119 x (by omega), ag 156 x (by omega), ag 120 x (by omega), ag 157 x (by omega), ag 121 x (by omega), n2]
          exact ⟨⟨z1.1, z1.2.1, by omega⟩, z2, z3, z4, z5⟩
    · unfold v_X0_add
      rw [t 16 2 (by decide), if_neg full]
      refine in12 _ _ ?_
      rw [t 122 24 (by decide), if_pos (by omega)]; exact ⟨rfl, inv_core sT hI⟩
  · unfold v_X12_card
    by_cases c1 : 0 ≤ p ∧ p ≤ 5
    · rw [s_in_t c1, if_neg (by decide)]
      by_cases c2 : 0 ≤ k ∧ k ≤ 2
      · rw [s_in_t c2, if_neg (by decide)]
        by_cases c3 : 0 ≤ a ∧ a ≤ 999
        · rw [s_mMeasure_t c3, if_neg (by decide)]
          by_cases c4 : 0 ≤ b ∧ b ≤ 999
          · rw [s_mMeasure_t c4, if_neg (by decide)]
            by_cases c5 : 0 ≤ c ∧ c ≤ 999
            · rw [s_mMeasure_t c5, if_neg (by decide)]
              by_cases c6 : 0 ≤ d ∧ d ≤ 999
              · rw [s_mMeasure_t c6, if_neg (by decide)]
                by_cases c7 : 0 ≤ r ∧ r ≤ 1023
                · exact absurd ⟨c1, c2, c3, c4, c5, c6, c7⟩ no
                · rw [s_in_f c7, if_pos rfl]; exact ⟨rfl, hI⟩
              · rw [s_mMeasure_f c6, if_pos rfl]; exact ⟨rfl, hI⟩
            · rw [s_mMeasure_f c5, if_pos rfl]; exact ⟨rfl, hI⟩
          · rw [s_mMeasure_f c4, if_pos rfl]; exact ⟨rfl, hI⟩
        · rw [s_mMeasure_f c3, if_pos rfl]; exact ⟨rfl, hI⟩
      · rw [s_in_f c2, if_pos rfl]; exact ⟨rfl, hI⟩
    · rw [s_in_f c1, if_pos rfl]; exact ⟨rfl, hI⟩
