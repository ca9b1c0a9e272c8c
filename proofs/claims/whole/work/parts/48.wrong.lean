/-! PURE FACTS, 19: held, wrong -/
theorem hold_c {σ : Mem} (hI : INV σ) : ∀ k : Nat, (k : Int) < σ 0 15 → 0 ≤ σ 118 k ∧ σ 118 k < σ 16 2 := fun k hk => (hI.h.2.2.2.2 k hk).1.2
theorem joinP_fn {σ τ : Mem} (h : ∀ j, j ≠ 157 → τ j = σ j) {a b : Nat} (ha : a < 24) (hb : b < 24) : joinP τ a b ↔ joinP σ a b := by
  have ms : ∀ (c : Nat), c < 24 → ∀ (t : Nat → Int) (s : Int) (k : Nat) (x : Int), missG τ c t s k x = missG σ c t s k x := by
    intro c hc t s k
    have o : ∀ m, oneF τ c t m = oneF σ c t m := by
      intro m; unfold oneF growF; rw [h 14 (by decide), h 15 (by decide), h (23 + 3 * c) (by omega), h (25 + 3 * c) (by omega)]
    induction k with
    | zero => intro x; rfl
    | succ k ih => intro x; unfold missG; rw [o, h (25 + 3 * c) (by omega), ih, ih]
  have sp : ∀ c, c < 24 → sprF τ c = sprF σ c := by
    intro c hc; unfold sprF; rw [h 15 (by decide), h (23 + 3 * c) (by omega)]
  unfold joinP
  rw [ms a ha, ms b hb, sp a ha, sp b hb, h (23 + 3 * a) (by omega), h (23 + 3 * b) (by omega), h (25 + 3 * a) (by omega), h (25 + 3 * b) (by omega), h 147 (by decide)]
theorem f_held {σ : Mem} (hI : INV σ) (p k : Int) : v_X11_held p k σ (fun r1 σ1 => v_X12_held p k σ1 (fun r2 σ2 => r1 = r2 ∧ INV σ2)) := by
  have h1 := hI.h.1; have h2 := hI.h.2.1; have h3 := hI.h.2.2.1
  have ir : inR (σ 122 52 - 1) := ⟨by omega, by omega⟩
  unfold v_X11_held
  by_cases c : 0 ≤ p ∧ p < σ 0 15
  · obtain ⟨i, rfl⟩ : ∃ i : Nat, p = i := ⟨p.toNat, by omega⟩
    have b := hI.h.2.2.2.2 i c.2
    have b1 := b.1.1; have b2 := b.2.1; have b3 := b.2.2.1; have b4 := b.2.2.2.1; have b5 := b.2.2.2.2
    have cm : 0 ≤ (i : Int) ∧ (i : Int) ≤ σ 122 52 - 1 := ⟨c.1, by omega⟩
    have i12 : (i : Int) < 12 := by omega
    have n12 : (σ 0 15).toNat ≤ 30 := by omega
    rw [s_isHold_t c, if_neg (by decide)]
    by_cases c2 : 0 ≤ k ∧ k ≤ 5
    · rw [if_neg (by omega), if_neg (by omega), Int.toNat_natCast]
      have k6 : k = 0 ∨ k = 1 ∨ k = 2 ∨ k = 3 ∨ k = 4 ∨ k = 5 := by omega
      rcases k6 with q | q | q | q | q | q <;> subst q
      · refine ⟨c.1, i12, ?_⟩
        unfold v_X12_held
        refine ⟨ir, ?_⟩
        rw [s_in_t cm]
        rw [if_neg (by decide), if_pos rfl, Int.toNat_natCast]
        exact ⟨c.1, i12, b1.symm, hI⟩
      · rw [if_neg (by decide), if_pos rfl]
        refine ⟨c.1, i12, ?_⟩
        unfold v_X12_held
        refine ⟨ir, ?_⟩
        rw [s_in_t cm, if_neg (by decide), if_neg (by decide), if_pos rfl, Int.toNat_natCast]
        exact ⟨c.1, i12, b2.symm, hI⟩
      · rw [if_neg (by decide), if_neg (by decide), if_pos rfl]
        refine ⟨c.1, i12, ?_⟩
        unfold v_X12_held
        refine ⟨ir, ?_⟩
        rw [s_in_t cm, if_neg (by decide), if_neg (by decide), if_neg (by decide), if_pos rfl, Int.toNat_natCast]
        exact ⟨c.1, i12, b3.symm, hI⟩
      · rw [if_neg (by decide), if_neg (by decide), if_neg (by decide), if_pos rfl]
        refine ⟨c.1, i12, ?_⟩
        rw [s_bit, bit_of b5]
        unfold v_X12_held
        refine ⟨ir, ?_⟩
        rw [s_in_t cm, if_neg (by decide), if_neg (by decide), if_neg (by decide), if_neg (by decide), if_pos rfl, Int.toNat_natCast]
        exact ⟨c.1, i12, b4.symm, hI⟩
      · rw [if_neg (by decide), if_neg (by decide), if_neg (by decide), if_neg (by decide), if_pos rfl]
        refine s_leaned hI.k ⟨h2, h3⟩ (hold_c hI) c.2 (s_bitsF n12 ?_)
        unfold v_X12_held
        refine ⟨ir, ?_⟩
        rw [s_in_t cm, if_neg (by decide), if_neg (by decide), if_neg (by decide), if_neg (by decide), if_neg (by decide), if_pos rfl]
        refine s_mleaned hI c.2 (fun τ t => s_sizeF n12 ⟨rfl, inv_core t hI⟩)
      · rw [if_neg (by decide), if_neg (by decide), if_neg (by decide), if_neg (by decide), if_neg (by decide)]
        refine s_leaned hI.k ⟨h2, h3⟩ (hold_c hI) c.2 ?_
        unfold v_X12_held
        refine ⟨ir, ?_⟩
        rw [s_in_t cm, if_neg (by decide), if_neg (by decide), if_neg (by decide), if_neg (by decide), if_neg (by decide), if_neg (by decide), if_pos rfl]
        refine s_mleaned hI c.2 (fun τ t => ⟨rfl, inv_core t hI⟩)
    · have no : v_X12_held i k σ (fun r2 σ2 => (-1 : Int) = r2 ∧ INV σ2) := by
        unfold v_X12_held
        refine ⟨ir, ?_⟩
        rw [s_in_t cm, if_neg (by decide), if_neg (by omega), if_neg (by omega), if_neg (by omega), if_neg (by omega), if_neg (by omega), if_neg (by omega)]
        exact ⟨rfl, hI⟩
      by_cases z : k < 0
      · rw [if_pos z]; exact no
      · rw [if_neg z, if_pos (by omega)]; exact no
  · rw [s_isHold_f c, if_pos rfl]
    unfold v_X12_held
    dsimp only
    refine ⟨ir, ?_⟩
    rw [s_in_f (by omega), if_pos rfl]; exact ⟨rfl, hI⟩
theorem f_wrong {σ : Mem} (hI : INV σ) (p : Int) : v_X11_wrong p σ (fun r1 σ1 => v_X12_wrong p σ1 (fun r2 σ2 => r1 = r2 ∧ INV σ2)) := by
  have h1 := hI.h.1; have h2 := hI.h.2.1; have h3 := hI.h.2.2.1
  have ir : inR (σ 122 52 - 1) := ⟨by omega, by omega⟩
  unfold v_X11_wrong
  by_cases c : 0 ≤ p ∧ p < σ 0 15
  · obtain ⟨i, rfl⟩ : ∃ i : Nat, p = i := ⟨p.toNat, by omega⟩
    have b := hI.h.2.2.2.2 i c.2
    have b4 := b.2.2.2.1; have b5 := b.2.2.2.2
    have cm : 0 ≤ (i : Int) ∧ (i : Int) ≤ σ 122 52 - 1 := ⟨c.1, by omega⟩
    have i12 : (i : Int) < 12 := by omega
    have n12 : (σ 0 15).toNat ≤ 30 := by omega
    rw [s_isHold_t c, if_neg (by decide), Int.toNat_natCast]
    refine ⟨c.1, i12, ?_⟩
    by_cases g : σ 121 i = 0
    · rw [if_pos g]
      have ag : ∀ j k, j ≠ 121 → mset σ 121 i 1 j k = σ j k := fun j k h => mset_ne h
      have cI : INVc (mset σ 121 i 1) := ⟨k_rules (fun j k z => ag j k (by have := d_rules z; omega)) hI.r, k_now (fun j k z => ag j k (by have := d_now z; omega)) hI.n, k_cards (fun j k z => ag j k (by have := d_cards z; omega)) hI.c, k_bars (fun j k z => ag j k (by have := d_bars z; omega)) hI.b⟩
      refine s_leaned cI (by rw [ag 0 15 (by decide)]; exact ⟨h2, h3⟩) (fun k hk => ?_) (by rw [ag 0 15 (by decide)]; exact c.2) ?_
      · rw [ag 0 15 (by decide)] at hk
        rw [ag 118 k (by decide), ag 16 2 (by decide)]; exact hold_c hI k hk
      · have e0 : mset σ 121 i 1 0 15 = σ 0 15 := ag 0 15 (by decide)
        rw [e0]
        refine s_bitsF n12 ?_
        unfold v_X12_wrong
        dsimp only
        have e52 : mset σ 121 i 1 122 52 = σ 122 52 := ag 122 52 (by decide)
        have e157 : mset σ 121 i 1 157 i = σ 157 i := ag 157 i (by decide)
        rw [e52]
        refine ⟨ir, ?_⟩
        rw [s_in_t cm, if_neg (by decide), Int.toNat_natCast, e157]
        refine ⟨c.1, i12, ?_⟩
        rw [if_neg (by omega)]
        generalize hω : mset (mset σ 121 i 1) 157 i 1 = ω
        have aw : ∀ j k, ¬ ((j = 121 ∧ k = i) ∨ (j = 157 ∧ k = i)) → ω j k = σ j k := fun j k z => by
          rw [← hω, st_ne _ _ (by omega), st_ne _ _ (by omega)]
        have at1 : ∀ j k, ¬ (j = 157 ∧ k = i) → ω j k = mset σ 121 i 1 j k := fun j k z => by
          rw [← hω, st_ne _ _ (by omega)]
        have wI : INV ω := by
          obtain ⟨y1, y2, y3, y4, y5, y6, y7, y8, y9, y10, y11⟩ := id hI
          refine ⟨k_tape (fun j k z => aw j k (by have := d_tape z; omega)) y1, k_cst (fun j k z => aw j k (by have := d_cst z; omega)) y2, k_fault (fun j k z => aw j k (by have := d_fault z; omega)) y3, k_rules (fun j k z => aw j k (by have := d_rules z; omega)) y4, k_now (fun j k z => aw j k (by have := d_now z; omega)) y5, k_cards (fun j k z => aw j k (by have := d_cards z; omega)) y6, k_anew (fun j k z => aw j k (by have := d_anew z; omega)) y6.2.2.1 y7, k_bars (fun j k z => aw j k (by have := d_bars z; omega)) y8, k_tell (fun j k z => aw j k (by have := d_tell z; omega)) y9, ?_, k_sheet (fun j k z => aw j k (by have := d_sheet z; omega)) y11⟩
          obtain ⟨z1, z2, z3, z4, z5⟩ := y10
          refine ⟨by rw [aw 122 52 (by omega), aw 0 15 (by omega)]; exact z1, by rw [aw 0 15 (by omega)]; exact z2, by rw [aw 0 15 (by omega)]; exact z3, fun k hk hn => ?_, fun k hk => ?_⟩
          · rw [aw 0 15 (by omega)] at hn
            rw [aw 121 k (by omega)]; exact z4 k hk hn
          · rw [aw 0 15 (by omega)] at hk
            obtain ⟨u1, u2, u3, u4, u5⟩ := z5 k hk
            rw [aw 154 k (by omega), aw 118 k (by omega), aw 16 2 (by omega), aw 155 k (by omega), aw 119 k (by omega), aw 156 k (by omega), aw 120 k (by omega)]
            refine ⟨u1, u2, u3, ?_⟩
            by_cases e : k = i
            · subst e
              have w1 : ω 157 k = 1 := by rw [← hω, mset_eq]
              have w2 : ω 121 k = 1 := by rw [← hω, mset_ne (by decide), mset_eq]
              rw [w1, w2]; exact ⟨rfl, Or.inr rfl⟩
            · rw [aw 157 k (by omega), aw 121 k (by omega)]; exact ⟨u4, u5⟩
        refine s_mleaned wI (by rw [aw 0 15 (by omega)]; exact c.2) (fun τ t => ?_)
        have e15 : ω 0 15 = σ 0 15 := aw 0 15 (by omega)
        rw [e15]
        refine s_sizeF n12 ⟨?_, inv_core t wI⟩
        have fw : ∀ j, j ≠ 157 → ω j = mset σ 121 i 1 j := fun j h => funext fun k => at1 j k (fun z => h z.1)
        have n24 := hI.c.2.2.1
        have cc := hold_c hI
        have b118 : ω 118 = σ 118 := funext fun k => aw 118 k (by omega)
        have c118 : mset σ 121 i 1 118 = σ 118 := funext fun k => ag 118 k (by decide)
        have w119 := fw 119 (by decide)
        have ti : (σ 118 i).toNat < 24 := by have := cc i c.2; omega
        congr 1
        refine cntF_congr (fun x hx => ?_)
        have tx : (σ 118 x).toNat < 24 := by have := cc x (by omega); omega
        have j := joinP_fn fw ti tx
        unfold leanP
        rw [b118, c118, w119, j]
    · rw [if_neg g]
      unfold v_X12_wrong
      dsimp only
      refine ⟨ir, ?_⟩
      rw [s_in_t cm, if_neg (by decide), Int.toNat_natCast]
      refine ⟨c.1, i12, ?_⟩
      rw [if_pos (by omega)]; exact ⟨rfl, hI⟩
  · rw [s_isHold_f c, if_pos rfl]
    unfold v_X12_wrong
    dsimp only
    refine ⟨ir, ?_⟩
    rw [s_in_f (by omega), if_pos rfl]; exact ⟨rfl, hI⟩
