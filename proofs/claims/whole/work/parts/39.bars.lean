/-! PURE FACTS, 10: bars, sheets -/
theorem st_ne {j k a b : Nat} (s : Mem) (x : Int) (h : j ≠ a ∨ k ≠ b) : mset s a b x j k = s j k := by
  rcases h with h | h
  · exact mset_ne h
  · exact mset_nei h
theorem inv_bar {σ : Mem} (hI : INV σ) {a b : Nat} {v w : Int} (hab : a < b) (hb : b < 24) (hv : v = 0 ∨ v = 1) : INV (mset (mset (mset (mset (mset σ 16 4 w) 18 (24 * a + b) v) 122 38 w) 147 (24 * a + b) v) 147 (24 * b + a) v) ∧ INV (mset (mset (mset (mset (mset σ 16 4 w) 18 (24 * a + b) v) 122 38 w) 147 (24 * b + a) v) 147 (24 * a + b) v) := by
  obtain ⟨h1, h2, h3, h4, h5, h6, h7, h8, h9, h10, h11⟩ := id hI
  have main : ∀ ω : Mem, (∀ j k, ¬ ((j = 16 ∧ k = 4) ∨ (j = 18 ∧ k = 24 * a + b) ∨ (j = 122 ∧ k = 38) ∨ (j = 147 ∧ (k = 24 * a + b ∨ k = 24 * b + a))) → ω j k = σ j k) → ω 16 4 = w → ω 122 38 = w → ω 18 (24 * a + b) = v → ω 147 (24 * a + b) = v → ω 147 (24 * b + a) = v → INV ω := by
    intro ω ag e1 e2 e3 e4 e5
    refine ⟨k_tape (fun j k z => ag j k (by have := d_tape z; omega)) h1, k_cst (fun j k z => ag j k (by have := d_cst z; omega)) h2, k_fault (fun j k z => ag j k (by have := d_fault z; omega)) h3, k_rules (fun j k z => ag j k (by have := d_rules z; omega)) h4, k_now (fun j k z => ag j k (by have := d_now z; omega)) h5, k_cards (fun j k z => ag j k (by have := d_cards z; omega)) h6, k_anew (fun j k z => ag j k (by have := d_anew z; omega)) h6.2.2.1 h7, ?_, k_tell (fun j k z => ag j k (by have := d_tell z; omega)) h9, k_hold (fun j k z => ag j k (by have := d_hold z; omega)) h10, k_sheet (fun j k z => ag j k (by have := d_sheet z; omega)) h11⟩
    refine ⟨by rw [e1, e2], fun c d hc hd => ?_⟩
    by_cases z : c = a ∧ d = b
    · rw [z.1, z.2, e3, e4, e5]; exact ⟨hv, rfl, rfl⟩
    · rw [ag 18 (24 * c + d) (by omega), ag 147 (24 * c + d) (by omega), ag 147 (24 * d + c) (by omega)]
      exact h8.2 c d hc hd
  constructor
  · refine main _ (fun j k z => ?_) ?_ ?_ ?_ ?_ ?_
    · rw [st_ne _ _ (by omega), st_ne _ _ (by omega), st_ne _ _ (by omega), st_ne _ _ (by omega), st_ne _ _ (by omega)]
    · rw [mset_ne (by decide), mset_ne (by decide), mset_ne (by decide), mset_ne (by decide), mset_eq]
    · rw [mset_ne (by decide), mset_ne (by decide), mset_eq]
    · rw [mset_ne (by decide), mset_ne (by decide), mset_ne (by decide), mset_eq]
    · rw [mset_nei (by omega), mset_eq]
    · rw [mset_eq]
  · refine main _ (fun j k z => ?_) ?_ ?_ ?_ ?_ ?_
    · rw [st_ne _ _ (by omega), st_ne _ _ (by omega), st_ne _ _ (by omega), st_ne _ _ (by omega), st_ne _ _ (by omega)]
    · rw [mset_ne (by decide), mset_ne (by decide), mset_ne (by decide), mset_ne (by decide), mset_eq]
    · rw [mset_ne (by decide), mset_ne (by decide), mset_eq]
    · rw [mset_ne (by decide), mset_ne (by decide), mset_ne (by decide), mset_eq]
    · rw [mset_eq]
    · rw [mset_nei (by omega), mset_eq]
theorem s_isBar {σ : Mem} {p q : Int} {a b : Nat} {Q : Int → Mem → Prop} (hI : I_bars σ) (hpq : (p = a ∧ q = b) ∨ (p = b ∧ q = a)) (hab : a < b) (hb : b < 24) (h : Q (σ 18 (24 * a + b)) σ) : v_X0_isBarred p q σ Q := by
  unfold v_X0_isBarred
  have e1 : imin p q = a := by unfold imin; split <;> omega
  have e2 : imax p q = b := by unfold imax; split <;> omega
  rw [e1, e2, show ((a : Int) * 24 + b).toNat = 24 * a + b by omega]
  exact ⟨by omega, by omega, (hI.2 a b hab hb).1, h⟩
theorem bit_of {x : Int} (h : x = 0 ∨ x = 1) : (if x = 0 then (0 : Int) else 1) = x := by
  rcases h with h | h <;> rw [h] <;> rfl
theorem f_bar {σ : Mem} (hI : INV σ) (p q v : Int) (hv : v = 0 ∨ v = 1) : v_X11_bar p q v σ (fun r1 σ1 => v_X12_bar p q v σ1 (fun r2 σ2 => r1 = r2 ∧ INV σ2)) := by
  unfold v_X11_bar
  by_cases c : 0 ≤ p ∧ p < σ 16 2
  · rw [s_has_t c, if_neg (by decide)]
    by_cases c2 : 0 ≤ q ∧ q < σ 16 2
    · rw [s_has_t c2, if_neg (by decide)]
      by_cases c3 : p = q
      · rw [if_pos c3]
        unfold v_X12_bar
        dsimp only
        refine s_isCard_t hI.n24 (by rw [hI.eqn]; omega) ?_
        rw [if_neg (by decide)]
        refine s_isCard_t hI.n24 (by rw [hI.eqn]; omega) ?_
        rw [if_neg (by decide), if_pos c3]
        exact ⟨rfl, hI⟩
      · rw [if_neg c3]
        have n24 := hI.c.2.2.1
        obtain ⟨a, b, hab, hb, hpq⟩ : ∃ a b : Nat, a < b ∧ (b : Int) < σ 16 2 ∧ ((p = a ∧ q = b) ∨ (p = b ∧ q = a)) := by
          by_cases z : p < q
          · exact ⟨p.toNat, q.toNat, by omega, by omega, Or.inl ⟨by omega, by omega⟩⟩
          · exact ⟨q.toNat, p.toNat, by omega, by omega, Or.inr ⟨by omega, by omega⟩⟩
        have hb2 : b < 24 := by omega
        have hB := hI.b
        obtain ⟨x1, x2, x3⟩ := hB.2 a b hab hb2
        refine s_isBar hB hpq hab hb2 ?_
        rw [s_bit, bit_of x1]
        unfold v_X0_setBar
        rw [s_bit, bit_of hv]
        refine s_isBar hB hpq hab hb2 ?_
        rw [s_bit, bit_of x1]
        have e1 : imin p q = a := by unfold imin; split <;> omega
        have e2 : imax p q = b := by unfold imax; split <;> omega
        rw [e1, e2, show ((a : Int) * 24 + b).toNat = 24 * a + b by omega]
        refine ⟨by omega, by omega, hv, ?_⟩
        generalize hw : wr (σ 16 4 + (v - σ 18 (24 * a + b))) = w
        have f : ∀ j k, j ≠ 16 → j ≠ 18 → mset (mset σ 16 4 w) 18 (24 * a + b) v j k = σ j k := fun j k z1 z2 => by rw [mset_ne z2, mset_ne z1]
        unfold v_X12_bar
        dsimp only
        refine s_isCard_t (by rw [f 122 24 (by decide) (by decide)]; exact hI.n24) (by rw [f 122 24 (by decide) (by decide), hI.eqn]; omega) ?_
        rw [if_neg (by decide)]
        refine s_isCard_t (by rw [f 122 24 (by decide) (by decide)]; exact hI.n24) (by rw [f 122 24 (by decide) (by decide), hI.eqn]; omega) ?_
        rw [if_neg (by decide), if_neg c3]
        unfold j_X12_bar_42 j_X12_bar_58
        rw [f 122 38 (by decide) (by decide), f 147 _ (by decide) (by decide), hB.1]
        have e147 : σ 147 (24 * p + q).toNat = σ 18 (24 * a + b) := by
          rcases hpq with z | z
          · rw [show (24 * p + q).toNat = 24 * a + b by omega]; exact x2
          · rw [show (24 * p + q).toNat = 24 * b + a by omega]; exact x3
        rw [e147, bit_of x1, bit_of hv, hw]
        refine ⟨by omega, by omega, by omega, by omega, hv, by omega, by omega, rfl, ?_⟩
        have iv := inv_bar (w := w) hI hab hb2 hv
        rcases hpq with z | z
        · rw [show (24 * p + q).toNat = 24 * a + b by omega, show (24 * q + p).toNat = 24 * b + a by omega]; exact iv.1
        · rw [show (24 * p + q).toNat = 24 * b + a by omega, show (24 * q + p).toNat = 24 * a + b by omega]; exact iv.2
    · rw [s_has_f c2, if_pos rfl]
      unfold v_X12_bar
      dsimp only
      refine s_isCard_t hI.n24 (by rw [hI.eqn]; omega) ?_
      rw [if_neg (by decide)]
      refine s_isCard_f hI.n24 (by rw [hI.eqn]; omega) ?_
      rw [if_pos rfl]
      exact ⟨rfl, hI⟩
  · rw [s_has_f c, if_pos rfl]
    unfold v_X12_bar
    dsimp only
    refine s_isCard_f hI.n24 (by rw [hI.eqn]; exact c) ?_
    rw [if_pos rfl]
    exact ⟨rfl, hI⟩
/-- sheets -/
theorem inv_sheets {σ ω : Mem} (hI : INV σ) (i : Nat) (hi : i < 4) (ag : ∀ j k, ¬ (j = 109 + 2 * i ∨ j = 110 + 2 * i ∨ (158 ≤ j ∧ j ≤ 159 ∧ k = i) ∨ (j = 160 ∧ 96 * i ≤ k ∧ k < 96 * i + 96)) → ω j k = σ j k) (hs : (ω (109 + 2 * i) 1 = 0 ∧ ω 158 i = -4) ∨ (ω (109 + 2 * i) 1 = 1 ∧ ω 158 i = ω (109 + 2 * i) 2 ∧ 0 ≤ ω (109 + 2 * i) 2 ∧ ω (109 + 2 * i) 2 ≤ 2 ∧ ω 159 i = ω (109 + 2 * i) 3 ∧ 0 ≤ ω (109 + 2 * i) 3 ∧ ω (109 + 2 * i) 3 ≤ 96 ∧ ∀ x : Nat, x < 96 → ω 160 (96 * i + x) = ω (110 + 2 * i) x)) : INV ω := by
  obtain ⟨h1, h2, h3, h4, h5, h6, h7, h8, h9, h10, h11⟩ := id hI
  refine ⟨k_tape (fun j k z => ag j k (by have := d_tape z; omega)) h1, k_cst (fun j k z => ag j k (by have := d_cst z; omega)) h2, k_fault (fun j k z => ag j k (by have := d_fault z; omega)) h3, k_rules (fun j k z => ag j k (by have := d_rules z; omega)) h4, k_now (fun j k z => ag j k (by have := d_now z; omega)) h5, k_cards (fun j k z => ag j k (by have := d_cards z; omega)) h6, k_anew (fun j k z => ag j k (by have := d_anew z; omega)) h6.2.2.1 h7, k_bars (fun j k z => ag j k (by have := d_bars z; omega)) h8, k_tell (fun j k z => ag j k (by have := d_tell z; omega)) h9, k_hold (fun j k z => ag j k (by have := d_hold z; omega)) h10, ?_⟩
  intro k hk
  by_cases e : k = i
  · subst e; exact hs
  · rw [ag (109 + 2 * k) 1 (by omega), ag (109 + 2 * k) 2 (by omega), ag (109 + 2 * k) 3 (by omega), ag 158 k (by omega), ag 159 k (by omega)]
    rcases h11 k hk with z | ⟨z1, z2, z3, z4, z5, z6, z7, z8⟩
    · exact Or.inl z
    · refine Or.inr ⟨z1, z2, z3, z4, z5, z6, z7, fun x hx => ?_⟩
      rw [ag 160 _ (by omega), ag (110 + 2 * k) x (by omega)]; exact z8 x hx
theorem f_sheet {σ : Mem} (hI : INV σ) (p l n : Int) : v_X11_sheet p l n σ (fun r1 σ1 => v_X12_sheet p l n σ1 (fun r2 σ2 => r1 = r2 ∧ INV σ2)) := by
  unfold v_X11_sheet
  by_cases c : 0 ≤ p ∧ p ≤ 3
  · rw [s_isSheet_t c, if_neg (by decide)]
    by_cases c2 : 0 ≤ l ∧ l ≤ 2
    · rw [s_isLane_t c2, if_neg (by decide)]
      by_cases c3 : 96 < n
      · rw [if_pos c3]
        unfold v_X12_sheet
        dsimp only
        rw [s_in_t c, if_neg (by decide), s_in_t c2, if_neg (by decide), if_pos c3]; exact ⟨rfl, hI⟩
      · rw [if_neg c3]
        by_cases c4 : n < 0
        · rw [if_pos c4]
          unfold v_X12_sheet
          dsimp only
          rw [s_in_t c, if_neg (by decide), s_in_t c2, if_neg (by decide), if_neg c3, if_pos c4]; exact ⟨rfl, hI⟩
        · rw [if_neg c4]
          refine ⟨by omega, by omega, ?_⟩
          obtain ⟨i, rfl⟩ : ∃ i : Nat, p = i := ⟨p.toNat, by omega⟩
          rw [Int.toNat_natCast]
          have hi : i < 4 := by omega
          unfold v_X8_renew
          refine lp0 (l_X8_renew_17 i l n _) (fun k s => (∀ j x, ¬ (j = 109 + 2 * i ∨ j = 110 + 2 * i) → s j x = σ j x) ∧ s (109 + 2 * i) 1 = 1 ∧ s (109 + 2 * i) 2 = l ∧ s (109 + 2 * i) 3 = n ∧ ∀ x : Nat, x < k → s (110 + 2 * i) x = 0) 96 _ ⟨fun j x z => ?_, ?_, ?_, ?_, fun x hx => absurd hx (by omega)⟩ ?_ ?_
          · rw [mset_ne (by omega), mset_ne (by omega), mset_ne (by omega)]
          · rw [mset_nei (by omega), mset_nei (by omega), mset_eq]
          · rw [mset_nei (by omega), mset_eq]
          · rw [mset_eq]
          · rintro n0 s ⟨q1, q2, q3, q4, q5⟩
            rw [l_X8_renew_17, if_neg (by decide)]
            unfold v_X12_sheet
            dsimp only
            rw [s_in_t c, if_neg (by decide), s_in_t c2, if_neg (by decide), if_neg c3, if_neg c4, Int.toNat_natCast]
            refine ⟨by omega, by omega, ?_⟩
            refine lp0 (l_X12_sheet_56 i l n _) (fun k w => (∀ j x, ¬ ((158 ≤ j ∧ j ≤ 159 ∧ x = i) ∨ (j = 160 ∧ 96 * i ≤ x ∧ x < 96 * i + 96)) → w j x = s j x) ∧ w 158 i = l ∧ w 159 i = n ∧ ∀ x : Nat, x < k → w 160 (96 * i + x) = 0) 96 _ ⟨fun j x z => ?_, ?_, ?_, fun x hx => absurd hx (by omega)⟩ ?_ ?_
            · rw [st_ne _ _ (by omega), st_ne _ _ (by omega)]
            · rw [mset_ne (by decide), mset_eq]
            · rw [mset_eq]
            · rintro n1 w ⟨w1, w2, w3, w4⟩
              rw [l_X12_sheet_56, if_neg (by decide)]
              refine ⟨rfl, inv_sheets hI i hi (fun j k z => by rw [w1 j k (by omega), q1 j k (by omega)]) (Or.inr ?_)⟩
              rw [w1 (109 + 2 * i) 1 (by omega), w1 (109 + 2 * i) 2 (by omega), w1 (109 + 2 * i) 3 (by omega), q2, q3, q4, w2, w3]
              refine ⟨rfl, rfl, c2.1, c2.2, rfl, by omega, by omega, fun x hx => ?_⟩
              rw [w4 x hx, w1 (110 + 2 * i) x (by omega), q5 x hx]
            · rintro n1 k w hk ⟨w1, w2, w3, w4⟩ ih
              rw [l_X12_sheet_56, if_pos (by omega), show (96 * (i : Int) + k).toNat = 96 * i + k by omega]
              refine ⟨by omega, by omega, ⟨by omega, by omega⟩, ih _ ⟨fun j x z => ?_, ?_, ?_, fun x hx => ?_⟩⟩
              · rw [st_ne _ _ (by omega)]; exact w1 j x z
              · rw [mset_ne (by decide)]; exact w2
              · rw [mset_ne (by decide)]; exact w3
              · by_cases e : x = k
                · subst e; rw [mset_eq]
                · rw [mset_nei (by omega)]; exact w4 x (by omega)
          · rintro n0 k s hk ⟨q1, q2, q3, q4, q5⟩ ih
            rw [l_X8_renew_17, if_pos (by omega), Int.toNat_natCast]
            refine ⟨by omega, by omega, ⟨by omega, by omega⟩, ih _ ⟨fun j x z => ?_, ?_, ?_, ?_, fun x hx => ?_⟩⟩
            · rw [mset_ne (by omega)]; exact q1 j x z
            · rw [mset_ne (by omega)]; exact q2
            · rw [mset_ne (by omega)]; exact q3
            · rw [mset_ne (by omega)]; exact q4
            · by_cases e : x = k
              · subst e; rw [mset_eq]
              · rw [mset_nei e]; exact q5 x (by omega)
    · rw [s_isLane_f c2, if_pos rfl]
      unfold v_X12_sheet
      dsimp only
      rw [s_in_t c, if_neg (by decide), s_in_f c2, if_pos rfl]; exact ⟨rfl, hI⟩
  · rw [s_isSheet_f c, if_pos rfl]
    unfold v_X12_sheet
    dsimp only
    rw [s_in_f c, if_pos rfl]; exact ⟨rfl, hI⟩
