/-! PURE FACTS, 6: feeding, a card's facts, told anew, filed, out -/
theorem INV.n24 {σ : Mem} (h : INV σ) : 0 ≤ σ 122 24 ∧ σ 122 24 ≤ 24 := by
  rw [h.c.1]; exact ⟨h.c.2.1, h.c.2.2.1⟩
theorem INV.eqn {σ : Mem} (h : INV σ) : σ 122 24 = σ 16 2 := h.c.1
def ofF (σ : Mem) (c : Nat) (k : Int) : Int := if k = 0 then σ (23 + 3 * c) 0 else if k = 1 then σ (23 + 3 * c) 1 else if k = 2 then σ (25 + 3 * c) 0 else if k = 3 then σ (25 + 3 * c) 1 else if k = 4 then σ (25 + 3 * c) 2 else if k = 5 then σ (25 + 3 * c) 3 else if k = 6 then σ (23 + 3 * c) 2 else if k = 7 then σ (23 + 3 * c) 3 else if k = 8 then σ (23 + 3 * c) 5 else if k = 9 then drwF (σ 15) (σ (25 + 3 * c) 0) (σ (25 + 3 * c) 1) (σ (25 + 3 * c) 2) else if k = 10 then (if σ (23 + 3 * c) 5 = -4 then 1 else 0) else if k = 11 then (if σ 14 2 - σ (23 + 3 * c) 3 < σ 15 18 then 0 else 1) else if k = 12 then sprF σ c else if k = 13 then σ (23 + 3 * c) 4 else -1
theorem ofF_no {σ : Mem} {c : Nat} {k : Int} (h : ¬ (0 ≤ k ∧ k ≤ 13)) : ofF σ c k = -1 := by
  unfold ofF
  repeat rw [if_neg (by omega)]
theorem k14 {k : Int} (h : 0 ≤ k ∧ k ≤ 13) : k = 0 ∨ k = 1 ∨ k = 2 ∨ k = 3 ∨ k = 4 ∨ k = 5 ∨ k = 6 ∨ k = 7 ∨ k = 8 ∨ k = 9 ∨ k = 10 ∨ k = 11 ∨ k = 12 ∨ k = 13 := by omega
theorem bit01 {P : Prop} [Decidable P] : (if (if P then (1 : Int) else 0) = 0 then (0 : Int) else 1) = if P then 1 else 0 := by
  by_cases h : P
  · rw [if_pos h]; rfl
  · rw [if_neg h]; rfl
theorem bit10 {P : Prop} [Decidable P] : (if (if P then (0 : Int) else 1) = 0 then (0 : Int) else 1) = if P then 0 else 1 := by
  by_cases h : P
  · rw [if_pos h]; rfl
  · rw [if_neg h]; rfl
theorem a_of {σ : Mem} {i : Nat} {k : Int} {Q : Int → Mem → Prop} (hI : INV σ) (c : (i : Int) < σ 16 2) (h : Q (ofF σ i k) σ) : v_X11_of i k σ Q := by
  have hc := hI.c
  have a := hc.2.2.2.2 i c
  have n := hI.n
  have n24 := hc.2.2.1
  unfold v_X11_of
  rw [s_has_t ⟨by omega, c⟩, if_neg (by decide)]
  by_cases c0 : 0 ≤ k ∧ k ≤ 13
  · rw [if_neg (by omega), if_neg (by omega), Int.toNat_natCast]
    refine ⟨by omega, by omega, ?_⟩
    rcases k14 c0 with q | q | q | q | q | q | q | q | q | q | q | q | q | q <;> subst q <;> unfold ofF at h
    · exact h
    · exact h
    · exact ⟨by omega, by omega, h⟩
    · exact ⟨by omega, by omega, h⟩
    · exact ⟨by omega, by omega, h⟩
    · exact ⟨by omega, by omega, h⟩
    · exact h
    · exact h
    · exact h
    · exact s_drw_c h
    · repeat rw [if_neg (by decide)]
      rw [if_pos rfl, s_isOut, s_bit, bit01]; exact h
    · repeat rw [if_neg (by decide)]
      rw [if_pos rfl]
      refine s_isDue ⟨a.2.2.2.1.2.1, a.2.2.2.1.2.2, n.2.2.1⟩ ?_
      rw [s_bit, bit10]; exact h
    · exact s_spr hI.k c h
    · exact h
  · rw [ofF_no c0] at h
    by_cases q : k < 0
    · rw [if_pos q]; exact h
    · rw [if_neg q, if_pos (by omega)]; exact h
theorem b_of {σ : Mem} {i : Nat} {k : Int} {Q : Int → Mem → Prop} (hI : INV σ) (c : (i : Int) < σ 16 2) (h : Q (ofF σ i k) σ) : v_X12_of i k σ Q := by
  have hc := hI.c
  have n24 := hc.2.2.1
  have a := hc.2.2.2.2 i c
  have am := fun m hm => (a.2.2.2.2.2.2 m hm).2.1
  unfold v_X12_of
  refine s_isCard_t hI.n24 (by rw [hI.eqn]; omega) ?_
  rw [if_neg (by decide)]
  by_cases c2 : 2 ≤ k ∧ k ≤ 5
  · rw [s_in_t c2, if_neg (by decide)]
    refine ⟨by omega, by omega, ?_⟩
    have : k = 2 ∨ k = 3 ∨ k = 4 ∨ k = 5 := by omega
    rcases this with q | q | q | q <;> subst q <;> unfold ofF at h
    · rw [show (4 * (i : Int) + 2 - 2).toNat = 4 * i + 0 by omega, am 0 (by omega)]; exact h
    · rw [show (4 * (i : Int) + 3 - 2).toNat = 4 * i + 1 by omega, am 1 (by omega)]; exact h
    · rw [show (4 * (i : Int) + 4 - 2).toNat = 4 * i + 2 by omega, am 2 (by omega)]; exact h
    · rw [show (4 * (i : Int) + 5 - 2).toNat = 4 * i + 3 by omega, am 3 (by omega)]; exact h
  · rw [s_in_f c2, if_pos rfl, Int.toNat_natCast]
    by_cases c0 : 0 ≤ k ∧ k ≤ 13
    · rcases k14 c0 with q | q | q | q | q | q | q | q | q | q | q | q | q | q <;> subst q <;> unfold ofF at h
      · refine ⟨by omega, by omega, ?_⟩; rw [a.1.1]; exact h
      · refine ⟨by omega, by omega, ?_⟩; rw [a.2.1.1]; exact h
      · omega
      · omega
      · omega
      · omega
      · refine ⟨by omega, by omega, ?_⟩; rw [a.2.2.1.1]; exact h
      · refine ⟨by omega, by omega, ?_⟩; rw [a.2.2.2.1.1]; exact h
      · refine ⟨by omega, by omega, ?_⟩; rw [a.2.2.2.2.2.1.1]; exact h
      · refine s_mdrw hI.r hI.n rfl (by omega) ?_
        have e0 : σ 138 (4 * i) = σ (25 + 3 * i) 0 := am 0 (by omega)
        rw [e0, am 1 (by omega), am 2 (by omega)]; exact h
      · refine s_mOut rfl (by omega) ?_
        rw [a.2.2.2.2.2.1.1]
        by_cases g : σ (23 + 3 * i) 5 = -4
        · rw [if_pos g]; simp only [if_pos g] at h; exact h
        · rw [if_neg g]; simp only [if_neg g] at h; exact h
      · refine s_mDue hI.r hI.n rfl (by omega) (by rw [a.2.2.2.1.1]; exact a.2.2.2.1.2) ?_
        rw [a.2.2.2.1.1]
        by_cases g : σ 14 2 - σ (23 + 3 * i) 3 < σ 15 18
        · rw [if_pos g]; simp only [if_pos g] at h; exact h
        · rw [if_neg g]; simp only [if_neg g] at h; exact h
      · exact s_mspr hI rfl c h
      · refine ⟨by omega, by omega, ?_⟩; rw [a.2.2.2.2.1.1]; exact h
    · rw [ofF_no c0] at h
      repeat rw [if_neg (by omega)]
      exact h
theorem f_of {σ : Mem} (hI : INV σ) (p k : Int) : v_X11_of p k σ (fun r1 σ1 => v_X12_of p k σ1 (fun r2 σ2 => r1 = r2 ∧ INV σ2)) := by
  by_cases c : 0 ≤ p ∧ p < σ 16 2
  · obtain ⟨i, rfl⟩ : ∃ i : Nat, p = i := ⟨p.toNat, by omega⟩
    exact a_of hI c.2 (b_of hI c.2 ⟨rfl, hI⟩)
  · unfold v_X11_of
    rw [s_has_f c, if_pos rfl]
    unfold v_X12_of
    refine s_isCard_f hI.n24 (by rw [hI.eqn]; exact c) ?_
    rw [if_pos rfl]
    exact ⟨rfl, hI⟩
/-- file, out -/
theorem inv_filed {σ : Mem} (hI : INV σ) {i : Nat} (c : (i : Int) < σ 16 2) {v : Int} (hv : v = -4 ∨ (0 ≤ v ∧ v ≤ 26)) : INV (mset (mset σ (23 + 3 * i) 5 v) 142 i v) := by
  obtain ⟨h1, h2, h3, h4, h5, h6, h7, h8, h9, h10, h11⟩ := id hI
  have n24 := h6.2.2.1
  obtain ⟨o1, o2, o3, o4, o5, o6, o7, o8, o9⟩ := D_off (j := 23 + 3 * i) (k := 5) (by omega) (by omega)
  have K : ∀ D : Nat → Nat → Bool, D (23 + 3 * i) 5 = false → D 142 i = false → KEEP D σ (mset (mset σ (23 + 3 * i) 5 v) 142 i v) := fun D q1 q2 => KEEP.st q2 (KEEP.st q1 KEEP.rf)
  refine ⟨k_tape (K _ o1 rfl) h1, k_cst (K _ o2 rfl) h2, k_fault (K _ o3 rfl) h3, k_rules (K _ o4 rfl) h4, k_now (K _ o5 rfl) h5, ?_, k_anew (K _ (Da_off (by omega) (by omega) (Or.inl (by decide))) rfl) n24 h7, k_bars (K _ o6 rfl) h8, k_tell (K _ o7 rfl) h9, k_hold (K _ o8 rfl) h10, k_sheet (K _ o9 rfl) h11⟩
  generalize hτ : mset (mset σ (23 + 3 * i) 5 v) 142 i v = τ
  have r : ∀ j k, j ≠ 142 → (j ≠ 23 + 3 * i ∨ k ≠ 5) → τ j k = σ j k := by
    intro j k a b
    rw [← hτ, mset_ne a]
    rcases b with b | b
    · exact mset_ne b
    · exact mset_nei b
  have rf : ∀ j, j ≠ 142 → j ≠ 23 + 3 * i → τ j = σ j := fun j a b => funext fun k => r j k a (Or.inl b)
  obtain ⟨a1, a2, a3, a4, a5⟩ := h6
  unfold I_cards
  rw [rf 16 (by decide) (by omega), rf 14 (by decide) (by omega), rf 122 (by decide) (by omega), rf 136 (by decide) (by omega), rf 137 (by decide) (by omega), rf 138 (by decide) (by omega), rf 139 (by decide) (by omega), rf 140 (by decide) (by omega), rf 141 (by decide) (by omega), rf 143 (by decide) (by omega)]
  refine ⟨a1, a2, a3, fun c2 hc hn => ?_, fun c2 hc => ?_⟩
  · rw [r _ 4 (by omega) (Or.inr (by decide))]; exact a4 c2 hc hn
  · obtain ⟨b1, b2, b3, b4, b5, b6, b7⟩ := a5 c2 hc
    rw [rf (24 + 3 * c2) (by omega) (by omega), rf (25 + 3 * c2) (by omega) (by omega), r _ 0 (by omega) (Or.inr (by decide)), r _ 1 (by omega) (Or.inr (by decide)), r _ 2 (by omega) (Or.inr (by decide)), r _ 3 (by omega) (Or.inr (by decide)), r _ 4 (by omega) (Or.inr (by decide))]
    refine ⟨b1, b2, b3, b4, b5, ?_, b7⟩
    by_cases e : c2 = i
    · subst e
      have e1 : τ 142 c2 = v := by rw [← hτ, mset_eq]
      have e2 : τ (23 + 3 * c2) 5 = v := by rw [← hτ, mset_ne (by omega), mset_eq]
      rw [e1, e2]; exact ⟨rfl, hv⟩
    · have e1 : τ 142 c2 = σ 142 c2 := by rw [← hτ, mset_nei e, mset_ne (by omega)]
      rw [e1, r _ 5 (by omega) (Or.inl (by omega))]; exact b6
def cdrw (σ : Mem) (i : Nat) : Int := drwF (σ 15) (σ (25 + 3 * i) 0) (σ (25 + 3 * i) 1) (σ (25 + 3 * i) 2)
theorem s_mdrwI {σ : Mem} {i : Nat} {p : Int} {Q : Int → Mem → Prop} (hI : INV σ) (hp : p = i) (c : (i : Int) < σ 16 2) (h : Q (cdrw σ i) σ) : v_X12_drawerOf p σ Q := by
  have n24 := hI.c.2.2.1
  have am := fun m hm => ((hI.c.2.2.2.2 i c).2.2.2.2.2.2 m hm).2.1
  refine s_mdrw hI.r hI.n hp (by omega) ?_
  have e0 : σ 138 (4 * i) = σ (25 + 3 * i) 0 := am 0 (by omega)
  rw [e0, am 1 (by omega), am 2 (by omega)]; exact h
theorem f_file {σ : Mem} (hI : INV σ) (p : Int) : v_X11_file p σ (fun r1 σ1 => v_X12_file p σ1 (fun r2 σ2 => r1 = r2 ∧ INV σ2)) := by
  by_cases c : 0 ≤ p ∧ p < σ 16 2
  · obtain ⟨i, rfl⟩ : ∃ i : Nat, p = i := ⟨p.toNat, by omega⟩
    have n24 := hI.c.2.2.1
    have a := hI.c.2.2.2.2 i c.2
    unfold v_X11_file
    rw [s_has_t c, if_neg (by decide), Int.toNat_natCast]
    refine ⟨by omega, by omega, ?_⟩
    rw [s_isOut]
    by_cases g : σ (23 + 3 * i) 5 = -4
    · rw [if_pos g, if_neg (by decide)]
      unfold v_X12_file
      refine s_isCard_t hI.n24 (by rw [hI.eqn]; omega) ?_
      rw [if_neg (by decide)]
      refine s_mOut rfl (by omega) ?_
      rw [a.2.2.2.2.2.1.1, if_pos g, if_neg (by decide)]; exact ⟨rfl, hI⟩
    · rw [if_neg g, if_pos rfl]
      refine s_drw_c ?_
      show v_X12_file _ (mset σ (23 + 3 * i) 5 (cdrw σ i)) _
      have cr := drwF_rng (σ 15) (σ (25 + 3 * i) 0) (σ (25 + 3 * i) 1) (σ (25 + 3 * i) 2)
      unfold v_X12_file
      have e24 : mset σ (23 + 3 * i) 5 (cdrw σ i) 122 24 = σ 122 24 := mset_ne (by omega)
      refine s_isCard_t (by rw [e24]; exact hI.n24) (by rw [e24, hI.eqn]; omega) ?_
      rw [if_neg (by decide)]
      refine s_mOut rfl (by omega) ?_
      have e142 : mset σ (23 + 3 * i) 5 (cdrw σ i) 142 i = σ (23 + 3 * i) 5 := by rw [mset_ne (by omega), a.2.2.2.2.2.1.1]
      rw [e142, if_neg g, if_pos rfl, Int.toNat_natCast]
      refine ⟨by omega, by omega, ?_⟩
      have rr : I_rules (mset σ (23 + 3 * i) 5 (cdrw σ i)) := k_rules (KEEP.st (D_off (by omega) (by omega)).2.2.2.1 KEEP.rf) hI.r
      have rn : I_now (mset σ (23 + 3 * i) 5 (cdrw σ i)) := k_now (KEEP.st (D_off (by omega) (by omega)).2.2.2.2.1 KEEP.rf) hI.n
      refine s_mdrw rr rn rfl (by omega) ?_
      have am := fun m hm => (a.2.2.2.2.2.2 m hm).2.1
      have e0 : σ 138 (4 * i) = σ (25 + 3 * i) 0 := am 0 (by omega)
      have f15 : mset σ (23 + 3 * i) 5 (cdrw σ i) 15 = σ 15 := funext fun k => mset_ne (by omega)
      have f138 : mset σ (23 + 3 * i) 5 (cdrw σ i) 138 = σ 138 := funext fun k => mset_ne (by omega)
      rw [f15, f138, e0, am 1 (by omega), am 2 (by omega)]
      exact ⟨e142.symm, inv_filed hI c.2 (Or.inr cr)⟩
  · unfold v_X11_file
    rw [s_has_f c, if_pos rfl]
    unfold v_X12_file
    refine s_isCard_f hI.n24 (by rw [hI.eqn]; exact c) ?_
    rw [if_pos rfl]
    exact ⟨rfl, hI⟩
theorem f_out {σ : Mem} (hI : INV σ) (p : Int) : v_X11_out p σ (fun r1 σ1 => v_X12_out p σ1 (fun r2 σ2 => r1 = r2 ∧ INV σ2)) := by
  by_cases c : 0 ≤ p ∧ p < σ 16 2
  · obtain ⟨i, rfl⟩ : ∃ i : Nat, p = i := ⟨p.toNat, by omega⟩
    have n24 := hI.c.2.2.1
    have a := hI.c.2.2.2.2 i c.2
    have n := hI.n
    unfold v_X11_out
    rw [s_has_t c, if_neg (by decide), Int.toNat_natCast]
    refine ⟨by omega, by omega, ?_⟩
    rw [s_isOut]
    by_cases g : σ (23 + 3 * i) 5 = -4
    · rw [if_pos g, if_neg (by decide)]
      unfold v_X12_out
      refine s_isCard_t hI.n24 (by rw [hI.eqn]; omega) ?_
      rw [if_neg (by decide)]
      refine s_mOut rfl (by omega) ?_
      rw [a.2.2.2.2.2.1.1, if_pos g, if_neg (by decide)]; exact ⟨rfl, hI⟩
    · rw [if_neg g, if_pos rfl]
      refine s_isDue ⟨a.2.2.2.1.2.1, a.2.2.2.1.2.2, n.2.2.1⟩ ?_
      by_cases g2 : σ 14 2 - σ (23 + 3 * i) 3 < σ 15 18
      · rw [if_pos g2, if_pos rfl]
        unfold v_X12_out
        refine s_isCard_t hI.n24 (by rw [hI.eqn]; omega) ?_
        rw [if_neg (by decide)]
        refine s_mOut rfl (by omega) ?_
        rw [a.2.2.2.2.2.1.1, if_neg g, if_pos rfl]
        refine s_mDue hI.r hI.n rfl (by omega) (by rw [a.2.2.2.1.1]; exact a.2.2.2.1.2) ?_
        rw [a.2.2.2.1.1, if_pos g2, if_pos rfl]; exact ⟨rfl, hI⟩
      · rw [if_neg g2, if_neg (by decide)]
        unfold v_X12_out
        have e24 : mset σ (23 + 3 * i) 5 (-4) 122 24 = σ 122 24 := mset_ne (by omega)
        refine s_isCard_t (by rw [e24]; exact hI.n24) (by rw [e24, hI.eqn]; omega) ?_
        rw [if_neg (by decide)]
        refine s_mOut rfl (by omega) ?_
        have f : ∀ j k, j ≠ 23 + 3 * i → mset σ (23 + 3 * i) 5 (-4) j k = σ j k := fun j k h => mset_ne h
        rw [f 142 i (by omega), a.2.2.2.2.2.1.1, if_neg g, if_pos rfl]
        have rr : I_rules (mset σ (23 + 3 * i) 5 (-4)) := k_rules (KEEP.st (D_off (by omega) (by omega)).2.2.2.1 KEEP.rf) hI.r
        have rn : I_now (mset σ (23 + 3 * i) 5 (-4)) := k_now (KEEP.st (D_off (by omega) (by omega)).2.2.2.2.1 KEEP.rf) hI.n
        refine s_mDue rr rn rfl (by omega) (by rw [f 141 i (by omega), f 14 2 (by omega), a.2.2.2.1.1]; exact a.2.2.2.1.2) ?_
        rw [f 141 i (by omega), f 14 2 (by omega), f 15 18 (by omega), a.2.2.2.1.1, if_neg g2, if_neg (by decide), Int.toNat_natCast]
        exact ⟨by omega, by omega, rfl, inv_filed hI c.2 (Or.inl rfl)⟩
  · unfold v_X11_out
    rw [s_has_f c, if_pos rfl]
    unfold v_X12_out
    refine s_isCard_f hI.n24 (by rw [hI.eqn]; exact c) ?_
    rw [if_pos rfl]
    exact ⟨rfl, hI⟩
