/-! PURE FACTS, 5: what a write leaves of the tie -/
def KEEP (D : Nat → Nat → Bool) (σ0 σ : Mem) : Prop := ∀ j k, D j k = true → σ j k = σ0 j k
theorem KEEP.rf {D : Nat → Nat → Bool} {σ : Mem} : KEEP D σ σ := fun _ _ _ => rfl
theorem KEEP.tr {D : Nat → Nat → Bool} {σ0 σ1 σ2 : Mem} (h : KEEP D σ0 σ1) (h2 : KEEP D σ1 σ2) : KEEP D σ0 σ2 := fun j k q => (h2 j k q).trans (h j k q)
theorem KEEP.st {D : Nat → Nat → Bool} {σ0 σ : Mem} {j k : Nat} {v : Int} (hc : D j k = false) (h : KEEP D σ0 σ) : KEEP D σ0 (mset σ j k v) := by
  intro a b q
  unfold mset
  by_cases e : a = j ∧ b = k
  · rw [e.1, e.2, hc] at q; cases q
  · rw [if_neg e]; exact h a b q
theorem KEEP.core {D : Nat → Nat → Bool} {σ0 σ : Mem} (hs : SAME σ0 σ) (hD : ∀ j k, D j k = true → core j k = true) : KEEP D σ0 σ := fun j k q => hs j k (hD j k q)
def D_tape (j k : Nat) : Bool := if j = 1 then k == 1 else if j = 122 then k == 2 else j == 2 || j == 123
def D_cst (j _k : Nat) : Bool := j == 124 || j == 125
def D_fault (j k : Nat) : Bool := if j = 8 then k == 2 else if j = 122 then k == 3 || k == 60 else if j = 0 then k == 16 else false
def D_rules (j k : Nat) : Bool := if j = 122 then k == 12 else if j = 3 then k == 4 else [4, 5, 6, 7, 126, 127, 128, 129, 130].elem j
def D_now (j k : Nat) : Bool := if j = 122 then k == 0 else if j = 14 then k == 2 else if j = 3 then k == 4 else [15, 4, 5, 6, 7].elem j
def D_cards (j k : Nat) : Bool := if j = 122 then k == 24 else if j = 16 then k == 2 || k == 9 else if j = 14 then k == 2 else decide (23 ≤ j ∧ j < 95) || decide (136 ≤ j ∧ j < 144)
def D_anew (j k : Nat) : Bool := if j = 122 then k == 33 else if j = 16 then k == 2 || k == 9 else if 23 ≤ j ∧ j < 95 then k == 3 && (j - 23) % 3 == 0 else [19, 20, 21, 22, 144, 145, 146].elem j
def D_bars (j k : Nat) : Bool := if j = 122 then k == 38 else if j = 16 then k == 4 else j == 18 || j == 147
def D_tell (j k : Nat) : Bool := if j = 122 then k == 39 else if j = 95 then k == 0 || k == 1 else j == 96 || j == 148
def D_hold (j k : Nat) : Bool := if j = 122 then k == 52 else if j = 16 then k == 2 else if j = 0 then k == 15 else [118, 119, 120, 121, 154, 155, 156, 157].elem j
def D_sheet (j _k : Nat) : Bool := decide (109 ≤ j ∧ j < 117) || decide (158 ≤ j ∧ j < 161)
theorem KEEP.fn {D : Nat → Nat → Bool} {σ0 σ : Mem} (h : KEEP D σ0 σ) (j : Nat) (hj : ∀ k, D j k = true) : σ j = σ0 j := funext fun k => h j k (hj k)
theorem k_tape {σ0 σ : Mem} (h : KEEP D_tape σ0 σ) (i : I_tape σ0) : I_tape σ := by
  unfold I_tape at *; rw [h 122 2 rfl, h 1 1 rfl, h.fn 2 (fun _ => rfl), h.fn 123 (fun _ => rfl)]; exact i
theorem k_cst {σ0 σ : Mem} (h : KEEP D_cst σ0 σ) (i : I_cst σ0) : I_cst σ := by
  unfold I_cst at *; rw [h.fn 124 (fun _ => rfl), h.fn 125 (fun _ => rfl)]; exact i
theorem k_fault {σ0 σ : Mem} (h : KEEP D_fault σ0 σ) (i : I_fault σ0) : I_fault σ := by
  unfold I_fault at *; rw [h 122 3 rfl, h 122 60 rfl, h 8 2 rfl, h 0 16 rfl]; exact i
theorem k_rules {σ0 σ : Mem} (h : KEEP D_rules σ0 σ) (i : I_rules σ0) : I_rules σ := by
  unfold I_rules at *; rw [h 122 12 rfl, h 3 4 rfl, h.fn 4 (fun _ => rfl), h.fn 5 (fun _ => rfl), h.fn 6 (fun _ => rfl), h.fn 7 (fun _ => rfl), h.fn 126 (fun _ => rfl), h.fn 127 (fun _ => rfl), h.fn 128 (fun _ => rfl), h.fn 129 (fun _ => rfl), h.fn 130 (fun _ => rfl)]; exact i
theorem k_now {σ0 σ : Mem} (h : KEEP D_now σ0 σ) (i : I_now σ0) : I_now σ := by
  unfold I_now ruleF lineF at *; rw [h 122 0 rfl, h 14 2 rfl, h 3 4 rfl, h.fn 4 (fun _ => rfl), h.fn 5 (fun _ => rfl), h.fn 6 (fun _ => rfl), h.fn 7 (fun _ => rfl), h.fn 15 (fun _ => rfl)]; exact i
theorem Dc_card {j k : Nat} (h1 : 23 ≤ j) (h2 : j < 95) : D_cards j k = true := by
  unfold D_cards
  rw [if_neg (by omega), if_neg (by omega), if_neg (by omega)]
  simp [h1, h2]
theorem k_cards {σ0 σ : Mem} (h : KEEP D_cards σ0 σ) (i : I_cards σ0) : I_cards σ := by
  have g := fun j h1 h2 => h.fn j (fun _ => Dc_card (j := j) h1 h2)
  unfold I_cards at *
  rw [h 122 24 rfl, h 16 2 rfl, h 16 9 rfl, h 14 2 rfl, h.fn 136 (fun _ => rfl), h.fn 137 (fun _ => rfl), h.fn 138 (fun _ => rfl), h.fn 139 (fun _ => rfl), h.fn 140 (fun _ => rfl), h.fn 141 (fun _ => rfl), h.fn 142 (fun _ => rfl), h.fn 143 (fun _ => rfl)]
  obtain ⟨a1, a2, a3, a4, a5⟩ := i
  refine ⟨a1, a2, a3, fun c hc hn => ?_, fun c hc => ?_⟩
  · rw [g (23 + 3 * c) (by omega) (by omega)]; exact a4 c hc hn
  · have b := a5 c hc
    rw [g (23 + 3 * c) (by omega) (by omega), g (24 + 3 * c) (by omega) (by omega), g (25 + 3 * c) (by omega) (by omega)]
    exact b
theorem Da_card {c : Nat} (h : c < 24) : D_anew (23 + 3 * c) 3 = true := by
  unfold D_anew
  rw [if_neg (by omega), if_neg (by omega), if_pos (by omega)]
  have : (23 + 3 * c - 23) % 3 = 0 := by omega
  rw [this]; rfl
theorem k_anew {σ0 σ : Mem} (h : KEEP D_anew σ0 σ) (hn : σ0 16 2 ≤ 24) (i : I_anew σ0) : I_anew σ := by
  unfold I_anew at *
  rw [h 122 33 rfl, h 16 9 rfl, h 16 2 rfl, h.fn 19 (fun _ => rfl), h.fn 20 (fun _ => rfl), h.fn 21 (fun _ => rfl), h.fn 22 (fun _ => rfl), h.fn 144 (fun _ => rfl), h.fn 145 (fun _ => rfl), h.fn 146 (fun _ => rfl)]
  obtain ⟨a1, a2, a3, a4⟩ := i
  refine ⟨a1, a2, a3, fun k hk => ?_⟩
  have b := a4 k hk
  have b1 := b.2.1; have b2 := b.2.2.1
  rw [h (23 + 3 * (σ0 19 k).toNat) 3 (Da_card (by omega))]
  exact b
theorem k_bars {σ0 σ : Mem} (h : KEEP D_bars σ0 σ) (i : I_bars σ0) : I_bars σ := by
  unfold I_bars at *; rw [h 122 38 rfl, h 16 4 rfl, h.fn 18 (fun _ => rfl), h.fn 147 (fun _ => rfl)]; exact i
theorem k_tell {σ0 σ : Mem} (h : KEEP D_tell σ0 σ) (i : I_tell σ0) : I_tell σ := by
  unfold I_tell at *; rw [h 122 39 rfl, h 95 0 rfl, h 95 1 rfl, h.fn 96 (fun _ => rfl), h.fn 148 (fun _ => rfl)]; exact i
theorem k_hold {σ0 σ : Mem} (h : KEEP D_hold σ0 σ) (i : I_hold σ0) : I_hold σ := by
  unfold I_hold at *; rw [h 122 52 rfl, h 0 15 rfl, h 16 2 rfl, h.fn 118 (fun _ => rfl), h.fn 119 (fun _ => rfl), h.fn 120 (fun _ => rfl), h.fn 121 (fun _ => rfl), h.fn 154 (fun _ => rfl), h.fn 155 (fun _ => rfl), h.fn 156 (fun _ => rfl), h.fn 157 (fun _ => rfl)]; exact i
theorem Ds_sheet {j k : Nat} (h1 : 109 ≤ j) (h2 : j < 117) : D_sheet j k = true := by unfold D_sheet; simp [h1, h2]
theorem k_sheet {σ0 σ : Mem} (h : KEEP D_sheet σ0 σ) (i : I_sheet σ0) : I_sheet σ := by
  unfold I_sheet at *
  rw [h.fn 158 (fun _ => rfl), h.fn 159 (fun _ => rfl), h.fn 160 (fun _ => rfl)]
  intro k hk
  have b := i k hk
  rw [h.fn (109 + 2 * k) (fun _ => Ds_sheet (by omega) (by omega)), h.fn (110 + 2 * k) (fun _ => Ds_sheet (by omega) (by omega))]
  exact b
/-- a card's cells are of no other clause -/
theorem D_off {j k : Nat} (h1 : 23 ≤ j) (h2 : j < 95) : D_tape j k = false ∧ D_cst j k = false ∧ D_fault j k = false ∧ D_rules j k = false ∧ D_now j k = false ∧ D_bars j k = false ∧ D_tell j k = false ∧ D_hold j k = false ∧ D_sheet j k = false := by
  unfold D_tape D_cst D_fault D_rules D_now D_bars D_tell D_hold D_sheet
  refine ⟨?_, ?_, ?_, ?_, ?_, ?_, ?_, ?_, ?_⟩
  · rw [if_neg (by omega), if_neg (by omega)]; simp; omega
  · simp; omega
  · rw [if_neg (by omega), if_neg (by omega), if_neg (by omega)]
  · rw [if_neg (by omega), if_neg (by omega)]; simp; omega
  · rw [if_neg (by omega), if_neg (by omega), if_neg (by omega)]; simp; omega
  · rw [if_neg (by omega), if_neg (by omega)]; simp; omega
  · rw [if_neg (by omega), if_neg (by omega)]; simp; omega
  · rw [if_neg (by omega), if_neg (by omega), if_neg (by omega)]; simp; omega
  · simp; omega
theorem Da_off {j k : Nat} (h1 : 23 ≤ j) (h2 : j < 95) (h3 : k ≠ 3 ∨ (j - 23) % 3 ≠ 0) : D_anew j k = false := by
  unfold D_anew
  rw [if_neg (by omega), if_neg (by omega), if_pos ⟨h1, h2⟩]
  rcases h3 with h | h
  · simp [h]
  · simp [h]
/-- a sheet's cells are of no other clause -/
theorem D_offS {j k : Nat} (h1 : 109 ≤ j) (h2 : j < 117) : D_tape j k = false ∧ D_cst j k = false ∧ D_fault j k = false ∧ D_rules j k = false ∧ D_now j k = false ∧ D_bars j k = false ∧ D_tell j k = false ∧ D_hold j k = false ∧ D_cards j k = false ∧ D_anew j k = false := by
  unfold D_tape D_cst D_fault D_rules D_now D_bars D_tell D_hold D_cards D_anew
  refine ⟨?_, ?_, ?_, ?_, ?_, ?_, ?_, ?_, ?_, ?_⟩
  · rw [if_neg (by omega), if_neg (by omega)]; simp; omega
  · simp; omega
  · rw [if_neg (by omega), if_neg (by omega), if_neg (by omega)]
  · rw [if_neg (by omega), if_neg (by omega)]; simp; omega
  · rw [if_neg (by omega), if_neg (by omega), if_neg (by omega)]; simp; omega
  · rw [if_neg (by omega), if_neg (by omega)]; simp; omega
  · rw [if_neg (by omega), if_neg (by omega)]; simp; omega
  · rw [if_neg (by omega), if_neg (by omega), if_neg (by omega)]; simp; omega
  · rw [if_neg (by omega), if_neg (by omega), if_neg (by omega)]; simp; omega
  · rw [if_neg (by omega), if_neg (by omega), if_neg (by omega)]; simp; omega
-- the simple calls
theorem f_fault {σ : Mem} (hI : INV σ) : v_X11_fault σ (fun r1 σ1 => v_X12_fault σ1 (fun r2 σ2 => r1 = r2 ∧ INV σ2)) := ⟨hI.2.2.1.1.symm, hI⟩
theorem f_torn {σ : Mem} (hI : INV σ) : v_X11_torn σ (fun r1 σ1 => v_X12_torn σ1 (fun r2 σ2 => r1 = r2 ∧ INV σ2)) := ⟨hI.2.2.1.2.symm, hI⟩
theorem f_day {σ : Mem} (hI : INV σ) (d : Int) : v_X11_day d σ (fun r1 σ1 => v_X12_day d σ1 (fun r2 σ2 => r1 = r2 ∧ INV σ2)) := by
  obtain ⟨h1, h2, h3, h4, h5, h6, h7, h8, h9, h10, h11⟩ := id hI
  unfold v_X11_day
  by_cases c : σ 14 2 ≤ d ∧ d ≤ 9999
  · have n0 := h5.2.1
    rw [s_isDay_t (by omega), if_neg (by decide), if_neg (by omega)]
    refine s_refresh h4.2.1 h4.2.2.1 ?_
    intro σ' hk hr
    unfold v_X12_day
    dsimp only
    have e0 : σ' 122 0 = σ 14 2 := by rw [hk 122 0 (by decide)]; exact h5.1
    rw [e0, s_in_t (by omega), if_neg (by decide)]
    refine ⟨e0.symm, ?_⟩
    have K : ∀ D : Nat → Nat → Bool, (∀ k, D 15 k = false) → D 14 2 = false → D 122 0 = false → KEEP D σ (mset σ' 122 0 d) := by
      intro D q1 q2 q3
      refine KEEP.st q3 (fun j k q => ?_)
      have hj : j ≠ 15 := fun e => by rw [e, q1] at q; cases q
      rw [hk j k hj]
      exact KEEP.st (D := D) q2 KEEP.rf j k q
    refine ⟨k_tape (K _ (fun _ => rfl) rfl rfl) h1, k_cst (K _ (fun _ => rfl) rfl rfl) h2, k_fault (K _ (fun _ => rfl) rfl rfl) h3, k_rules (K _ (fun _ => rfl) rfl rfl) h4, ?_, ?_, k_anew (K _ (fun _ => rfl) rfl rfl) h6.2.2.1 h7, k_bars (K _ (fun _ => rfl) rfl rfl) h8, k_tell (K _ (fun _ => rfl) rfl rfl) h9, k_hold (K _ (fun _ => rfl) rfl rfl) h10, k_sheet (K _ (fun _ => rfl) rfl rfl) h11⟩
    · have e14 : mset σ' 122 0 d 14 2 = d := by rw [mset_ne (by decide), hk 14 2 (by decide), mset_eq]
      refine ⟨by rw [mset_eq, e14], by rw [e14]; omega, by rw [e14]; omega, fun r hr2 => ?_⟩
      rw [e14, mset_ne (by decide), hr r hr2, mset_eq]
      have f : ∀ j, j ≠ 15 → j ≠ 14 → j ≠ 122 → mset σ' 122 0 d j = mset σ 14 2 d j := fun j a b c => funext fun k => by rw [mset_ne c, hk j k a]
      unfold ruleF lineF
      rw [f 3 (by decide) (by decide) (by decide), f 4 (by decide) (by decide) (by decide), f 5 (by decide) (by decide) (by decide), f 6 (by decide) (by decide) (by decide), f 7 (by decide) (by decide) (by decide)]
    · have e14 : mset σ' 122 0 d 14 2 = d := by rw [mset_ne (by decide), hk 14 2 (by decide), mset_eq]
      have f : ∀ j k, j ≠ 15 → j ≠ 14 → j ≠ 122 → mset σ' 122 0 d j k = σ j k := fun j k a b c => by rw [mset_ne c, hk j k a, mset_ne b]
      have f1 : ∀ j, j ≠ 15 → j ≠ 14 → j ≠ 122 → mset σ' 122 0 d j = σ j := fun j a b c => funext fun k => f j k a b c
      obtain ⟨a1, a2, a3, a4, a5⟩ := h6
      unfold I_cards
      rw [e14, f 16 2 (by decide) (by decide) (by decide), f 16 9 (by decide) (by decide) (by decide), mset_nei (j := 122) (k := 0) (b := 24) (by decide), hk 122 24 (by decide), mset_ne (j := 14) (a := 122) (by decide), f1 136 (by decide) (by decide) (by decide), f1 137 (by decide) (by decide) (by decide), f1 138 (by decide) (by decide) (by decide), f1 139 (by decide) (by decide) (by decide), f1 140 (by decide) (by decide) (by decide), f1 141 (by decide) (by decide) (by decide), f1 142 (by decide) (by decide) (by decide), f1 143 (by decide) (by decide) (by decide)]
      refine ⟨a1, a2, a3, fun c hc hn => ?_, fun c hc => ?_⟩
      · rw [f1 (23 + 3 * c) (by omega) (by omega) (by omega)]; exact a4 c hc hn
      · have b := a5 c hc
        rw [f1 (23 + 3 * c) (by omega) (by omega) (by omega), f1 (24 + 3 * c) (by omega) (by omega) (by omega), f1 (25 + 3 * c) (by omega) (by omega) (by omega)]
        obtain ⟨b1, b2, b3, b4, b5⟩ := b
        exact ⟨b1, b2, b3, ⟨b4.1, b4.2.1, by omega⟩, b5⟩
  · have no : v_X12_day d σ (fun r2 σ2 => (-1 : Int) = r2 ∧ INV σ2) := by
      unfold v_X12_day
      rw [s_in_f (by rw [h5.1]; exact c), if_pos rfl]; exact ⟨rfl, hI⟩
    by_cases c2 : 0 ≤ d ∧ d ≤ 9999
    · rw [s_isDay_t c2, if_neg (by decide), if_pos (by omega)]; exact no
    · rw [s_isDay_f c2, if_pos rfl]; exact no
theorem f_end {σ : Mem} (hI : INV σ) (n : Int) : v_X11_end n σ (fun r1 σ1 => v_X12_end n σ1 (fun r2 σ2 => r1 = r2 ∧ INV σ2)) := by
  obtain ⟨h1, h2, h3, h4, h5, h6, h7, h8, h9, h10, h11⟩ := id hI
  unfold v_X11_end
  by_cases c : 0 ≤ n ∧ n ≤ σ 1 1
  · rw [if_neg (by omega), if_neg (by omega)]
    unfold v_X12_end
    dsimp only
    have e : mset σ 1 1 n 122 2 = σ 1 1 := by rw [mset_ne (by decide)]; exact h1.1
    rw [e, s_in_t c, if_neg (by decide)]
    refine ⟨e.symm, ?_⟩
    have K : ∀ D : Nat → Nat → Bool, D 1 1 = false → D 122 2 = false → KEEP D σ (mset (mset σ 1 1 n) 122 2 n) := fun D q1 q2 => KEEP.st q2 (KEEP.st q1 KEEP.rf)
    refine ⟨?_, k_cst (K _ rfl rfl) h2, k_fault (K _ rfl rfl) h3, k_rules (K _ rfl rfl) h4, k_now (K _ rfl rfl) h5, k_cards (K _ rfl rfl) h6, k_anew (K _ rfl rfl) h6.2.2.1 h7, k_bars (K _ rfl rfl) h8, k_tell (K _ rfl rfl) h9, k_hold (K _ rfl rfl) h10, k_sheet (K _ rfl rfl) h11⟩
    have e1 : mset (mset σ 1 1 n) 122 2 n 1 1 = n := by rw [mset_ne (by decide), mset_eq]
    have h12 := h1.2.2.1
    refine ⟨by rw [mset_eq, e1], by rw [e1]; omega, by rw [e1]; omega, fun k hk => ?_⟩
    rw [e1] at hk
    rw [mset_ne (by decide), mset_ne (by decide), mset_ne (by decide), mset_ne (by decide)]
    exact h1.2.2.2 k (by omega)
  · have no : v_X12_end n σ (fun r2 σ2 => (-1 : Int) = r2 ∧ INV σ2) := by
      unfold v_X12_end
      rw [s_in_f (by rw [h1.1]; exact c), if_pos rfl]; exact ⟨rfl, hI⟩
    by_cases c2 : n < 0
    · rw [if_pos c2]; exact no
    · rw [if_neg c2, if_pos (by omega)]; exact no
