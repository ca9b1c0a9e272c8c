/-! PURE FACTS, 3: the model's rules, what holds today -/
theorem ruleF_1 {σ : Mem} {r d : Int} (h : r < 4) : ruleF σ r d = if lineF σ r d < 0 then usualF r else σ 6 (lineF σ r d).toNat := by
  unfold ruleF; rw [if_pos h, if_pos h]
theorem ruleF_2 {σ : Mem} {r d : Int} (h : 4 ≤ r) (h2 : r < 8) : ruleF σ r d = if lineF σ (r - 4) d < 0 then usualF r else σ 7 (lineF σ (r - 4) d).toNat := by
  have c1 : ¬ r < 4 := by omega
  unfold ruleF; simp only [if_neg c1, if_pos h2]
theorem ruleF_3 {σ : Mem} {r d : Int} (h : 8 ≤ r) : ruleF σ r d = if lineF σ r d < 0 then usualF r else σ 6 (lineF σ r d).toNat := by
  have c1 : ¬ r < 4 := by omega
  have c2 : ¬ r < 8 := by omega
  unfold ruleF; simp only [if_neg c1, if_neg c2]
theorem lineF_P {σ : Mem} {key d : Int} (h : ¬ lineF σ key d < 0) : σ 4 (lineF σ key d).toNat = key := (bestF_P _ (Int.not_lt.mp h)).1
theorem ruleF_rng {σ : Mem} {r d : Int} (hI : I_rules σ) (h : 0 ≤ r ∧ r < 20) : (r < 8 → 1 ≤ ruleF σ r d ∧ ruleF σ r d ≤ 999) ∧ (8 ≤ r → r < 14 → 0 ≤ ruleF σ r d ∧ ruleF σ r d ≤ 20) ∧ (14 ≤ r → r < 18 → 0 ≤ ruleF σ r d ∧ ruleF σ r d ≤ 50) ∧ (r = 18 → 1 ≤ ruleF σ r d ∧ ruleF σ r d ≤ 9999) ∧ (r = 19 → 0 ≤ ruleF σ r d ∧ ruleF σ r d ≤ 20) := by
  obtain ⟨h12, h0, h1, hk⟩ := hI
  have one : ∀ key, ¬ lineF σ key d < 0 → keyF (σ 126 (lineF σ key d).toNat) (σ 127 (lineF σ key d).toNat) = key ∧ whOK (σ 126 (lineF σ key d).toNat) (σ 127 (lineF σ key d).toNat) ∧ lineV (σ 126 (lineF σ key d).toNat) (σ 6 (lineF σ key d).toNat) (σ 7 (lineF σ key d).toNat) := by
    intro key hn
    have rg := lineF_rng σ key d
    have a := hk (lineF σ key d).toNat (by omega)
    exact ⟨by rw [← a.2.2.2.1]; exact lineF_P hn, a.2.2.2.2.1, a.2.2.2.2.2⟩
  have wh : ∀ w o key, keyF w o = key → whOK w o → (0 ≤ key → key < 4 → w = 0) ∧ (8 ≤ key → key < 14 → w = 1) ∧ (14 ≤ key → key < 18 → w = 2) ∧ (key = 18 → w = 3) ∧ (key = 19 → w = 4) := by
    intro w o key e hw
    unfold whOK at hw
    unfold keyF at e
    rcases hw with q | q | q | q | q <;> rw [q.1] at e ⊢ <;> simp at e <;> omega
  refine ⟨fun q => ?_, fun q q2 => ?_, fun q q2 => ?_, fun q => ?_, fun q => ?_⟩
  · by_cases c : r < 4
    · rw [ruleF_1 c]
      by_cases z : lineF σ r d < 0
      · rw [if_pos z]; unfold usualF; rw [if_pos c]; omega
      · rw [if_neg z]
        obtain ⟨a1, a2, a3⟩ := one r z
        have := a3.1 ((wh _ _ _ a1 a2).1 h.1 c); omega
    · rw [ruleF_2 (by omega) q]
      by_cases z : lineF σ (r - 4) d < 0
      · rw [if_pos z]; unfold usualF; rw [if_neg c, if_pos q]; omega
      · rw [if_neg z]
        obtain ⟨a1, a2, a3⟩ := one (r - 4) z
        have := a3.1 ((wh _ _ _ a1 a2).1 (by omega) (by omega)); omega
  · rw [ruleF_3 q]
    by_cases z : lineF σ r d < 0
    · rw [if_pos z]; unfold usualF; rw [if_neg (by omega), if_neg (by omega), if_pos q2]; omega
    · rw [if_neg z]
      obtain ⟨a1, a2, a3⟩ := one r z
      exact a3.2.1 ((wh _ _ _ a1 a2).2.1 q q2)
  · rw [ruleF_3 (by omega)]
    by_cases z : lineF σ r d < 0
    · rw [if_pos z]; unfold usualF; rw [if_neg (by omega), if_neg (by omega), if_neg (by omega), if_pos q2]; omega
    · rw [if_neg z]
      obtain ⟨a1, a2, a3⟩ := one r z
      exact a3.2.2.1 ((wh _ _ _ a1 a2).2.2.1 q q2)
  · rw [ruleF_3 (by omega)]
    by_cases z : lineF σ r d < 0
    · rw [if_pos z]; unfold usualF; rw [if_neg (by omega), if_neg (by omega), if_neg (by omega), if_neg (by omega), if_pos q]; omega
    · rw [if_neg z]
      obtain ⟨a1, a2, a3⟩ := one r z
      exact a3.2.2.2.1 ((wh _ _ _ a1 a2).2.2.2.1 q)
  · rw [ruleF_3 (by omega)]
    by_cases z : lineF σ r d < 0
    · rw [if_pos z]; unfold usualF; rw [if_neg (by omega), if_neg (by omega), if_neg (by omega), if_neg (by omega), if_neg (by omega)]; omega
    · rw [if_neg z]
      obtain ⟨a1, a2, a3⟩ := one r z
      exact a3.2.2.2.2 ((wh _ _ _ a1 a2).2.2.2.2 q)
theorem mB_neg {σ : Mem} {k d : Int} : mB (lineF σ k d) = -4 ↔ lineF σ k d < 0 := by
  have := lineF_rng σ k d
  unfold mB
  by_cases h : lineF σ k d < 0
  · rw [if_pos h]; simp [h]
  · rw [if_neg h]; omega
theorem mB_pos {σ : Mem} {k d : Int} (h : ¬ lineF σ k d < 0) : mB (lineF σ k d) = lineF σ k d := if_neg h
theorem s_holdsThen {w o d df : Int} {σ : Mem} {Q : Int → Mem → Prop} (hI : I_rules σ) (hw : whOK w o) (h : Q (if lineF σ (keyF w o) d < 0 then df else σ 6 (lineF σ (keyF w o) d).toNat) σ) : v_X12_holdsThen w o d df σ Q := by
  unfold v_X12_holdsThen
  refine s_lineAt hI hw ?_
  have rg := lineF_rng σ (keyF w o) d
  obtain ⟨h12, h0, h1, hk⟩ := hI
  by_cases c : lineF σ (keyF w o) d < 0
  · rw [if_pos (mB_neg.mpr c)]; rw [if_pos c] at h; exact h
  · rw [if_neg (fun z => c (mB_neg.mp z)), mB_pos c]
    rw [if_neg c] at h
    refine ⟨by omega, by omega, ?_⟩
    rw [(hk _ (by omega)).2.1]; exact h
theorem s_firstEdge {m d : Int} {σ : Mem} {Q : Int → Mem → Prop} (hI : I_rules σ) (hm : 0 ≤ m ∧ m < 4) (h : Q (ruleF σ m d) σ) : v_X12_firstEdge m d σ Q := by
  unfold v_X12_firstEdge
  refine s_holdsThen hI (Or.inl ⟨rfl, hm.1, hm.2⟩) ?_
  have e : keyF 0 m = m := by unfold keyF; rw [if_pos rfl]
  rw [e]
  rw [ruleF_1 hm.2] at h
  have u : usualF m = 333 := by unfold usualF; rw [if_pos hm.2]
  rw [u] at h; exact h
theorem s_secondEdge {m d : Int} {σ : Mem} {Q : Int → Mem → Prop} (hI : I_rules σ) (hm : 0 ≤ m ∧ m < 4) (h : Q (ruleF σ (4 + m) d) σ) : v_X12_secondEdge m d σ Q := by
  unfold v_X12_secondEdge
  refine s_lineAt hI (Or.inl ⟨rfl, hm.1, hm.2⟩) ?_
  have e : keyF 0 m = m := by unfold keyF; rw [if_pos rfl]
  rw [e]
  rw [ruleF_2 (by omega) (by omega), show 4 + m - 4 = m by omega] at h
  have u : usualF (4 + m) = 667 := by unfold usualF; rw [if_neg (by omega), if_pos (by omega)]
  rw [u] at h
  have rg := lineF_rng σ m d
  obtain ⟨h12, h0, h1, hk⟩ := hI
  by_cases c : lineF σ m d < 0
  · rw [if_pos (mB_neg.mpr c)]; rw [if_pos c] at h; exact h
  · rw [if_neg (fun z => c (mB_neg.mp z)), mB_pos c]
    rw [if_neg c] at h
    refine ⟨by omega, by omega, ?_⟩
    rw [(hk _ (by omega)).2.2.1]; exact h
theorem s_mspread {a d : Int} {σ : Mem} {Q : Int → Mem → Prop} (hI : I_rules σ) (hm : 0 ≤ a ∧ a < 6) (h : Q (ruleF σ (8 + a) d) σ) : v_X12_spreadOf a d σ Q := by
  unfold v_X12_spreadOf
  refine s_holdsThen hI (Or.inr (Or.inl ⟨rfl, hm.1, hm.2⟩)) ?_
  have e : keyF 1 a = 8 + a := by unfold keyF; rw [if_neg (by decide), if_pos rfl]
  rw [e]
  rw [ruleF_3 (by omega)] at h
  have u : usualF (8 + a) = 3 := by unfold usualF; rw [if_neg (by omega), if_neg (by omega), if_pos (by omega)]
  rw [u] at h; exact h
theorem s_mgrow {m d : Int} {σ : Mem} {Q : Int → Mem → Prop} (hI : I_rules σ) (hm : 0 ≤ m ∧ m < 4) (h : Q (ruleF σ (14 + m) d) σ) : v_X12_growOf m d σ Q := by
  unfold v_X12_growOf
  refine s_holdsThen hI (Or.inr (Or.inr (Or.inl ⟨rfl, hm.1, hm.2⟩))) ?_
  have e : keyF 2 m = 14 + m := by unfold keyF; rw [if_neg (by decide), if_neg (by decide), if_pos rfl]
  rw [e]
  rw [ruleF_3 (by omega)] at h
  have u : usualF (14 + m) = 0 := by unfold usualF; rw [if_neg (by omega), if_neg (by omega), if_neg (by omega), if_pos (by omega)]
  rw [u] at h; exact h
theorem s_mkeep {d : Int} {σ : Mem} {Q : Int → Mem → Prop} (hI : I_rules σ) (h : Q (ruleF σ 18 d) σ) : v_X12_holdsThen 3 0 d 9999 σ Q := by
  refine s_holdsThen hI (Or.inr (Or.inr (Or.inr (Or.inl ⟨rfl, rfl⟩)))) ?_
  rw [ruleF_3 (by omega)] at h; exact h
theorem s_mother {d : Int} {σ : Mem} {Q : Int → Mem → Prop} (hI : I_rules σ) (h : Q (ruleF σ 19 d) σ) : v_X12_holdsThen 4 0 d 2 σ Q := by
  refine s_holdsThen hI (Or.inr (Or.inr (Or.inr (Or.inr ⟨rfl, rfl⟩)))) ?_
  rw [ruleF_3 (by omega)] at h; exact h
def INVc (σ : Mem) : Prop := I_rules σ ∧ I_now σ ∧ I_cards σ ∧ I_bars σ
theorem INVc.r {σ : Mem} (h : INVc σ) : I_rules σ := h.1
theorem INVc.n {σ : Mem} (h : INVc σ) : I_now σ := h.2.1
theorem INVc.c {σ : Mem} (h : INVc σ) : I_cards σ := h.2.2.1
theorem INVc.b {σ : Mem} (h : INVc σ) : I_bars σ := h.2.2.2
theorem INVc.k {σ : Mem} (h : INVc σ) : INVc σ := h
theorem INV.k {σ : Mem} (h : INV σ) : INVc σ := ⟨h.2.2.2.1, h.2.2.2.2.1, h.2.2.2.2.2.1, h.2.2.2.2.2.2.2.1⟩
/-- today's rules, as the class keeps them at hand -/
theorem now_rule {σ : Mem} (hI : INVc σ) (r : Nat) (h : r < 20) : ruleF σ r (σ 122 0) = σ 15 r := by
  rw [hI.n.1]; exact (hI.n.2.2.2 r h).symm
theorem INV.r {σ : Mem} (h : INV σ) : I_rules σ := h.2.2.2.1
theorem INV.n {σ : Mem} (h : INV σ) : I_now σ := h.2.2.2.2.1
theorem INV.c {σ : Mem} (h : INV σ) : I_cards σ := h.2.2.2.2.2.1
theorem INV.a {σ : Mem} (h : INV σ) : I_anew σ := h.2.2.2.2.2.2.1
theorem INV.b {σ : Mem} (h : INV σ) : I_bars σ := h.2.2.2.2.2.2.2.1
theorem INV.t {σ : Mem} (h : INV σ) : I_tell σ := h.2.2.2.2.2.2.2.2.1
theorem INV.h {σ : Mem} (h : INV σ) : I_hold σ := h.2.2.2.2.2.2.2.2.2.1
theorem INV.s {σ : Mem} (h : INV σ) : I_sheet σ := h.2.2.2.2.2.2.2.2.2.2
theorem now_rng {σ : Mem} (hI : INVc σ) : (∀ r : Nat, r < 8 → 1 ≤ σ 15 r ∧ σ 15 r ≤ 999) ∧ (∀ r : Nat, 8 ≤ r → r < 14 → 0 ≤ σ 15 r ∧ σ 15 r ≤ 20) ∧ (∀ r : Nat, 14 ≤ r → r < 18 → 0 ≤ σ 15 r ∧ σ 15 r ≤ 50) ∧ (1 ≤ σ 15 18 ∧ σ 15 18 ≤ 9999) ∧ (0 ≤ σ 15 19 ∧ σ 15 19 ≤ 20) := by
  have e := fun r h => now_rule hI r h
  refine ⟨fun r h => ?_, fun r h h2 => ?_, fun r h h2 => ?_, ?_, ?_⟩
  · rw [← e r (by omega)]; exact (ruleF_rng hI.r (by omega)).1 (by omega)
  · rw [← e r (by omega)]; exact (ruleF_rng hI.r (by omega)).2.1 (by omega) (by omega)
  · rw [← e r (by omega)]; exact (ruleF_rng hI.r (by omega)).2.2.1 (by omega) (by omega)
  · rw [← e 18 (by omega)]; exact (ruleF_rng hI.r (by omega)).2.2.2.1 rfl
  · rw [← e 19 (by omega)]; exact (ruleF_rng hI.r (by omega)).2.2.2.2 rfl
def ruleV (σ : Mem) (r d : Int) : Int := if (0 ≤ r ∧ r ≤ 19) ∧ (0 ≤ d ∧ d ≤ 9999) then ruleF σ r d else -1
theorem a_rule {σ : Mem} {r d : Int} {Q : Int → Mem → Prop} (hI : I_rules σ) (h : Q (ruleV σ r d) σ) : v_X11_rule r d σ Q := by
  unfold v_X11_rule
  unfold ruleV at h
  by_cases c : 0 ≤ r ∧ r ≤ 19
  · rw [if_neg (by omega), if_pos (by omega)]
    by_cases hd : 0 ≤ d ∧ d ≤ 9999
    · rw [s_isDay_t hd, if_neg (by decide)]
      rw [if_pos ⟨c, hd⟩] at h
      exact s_value hI.2.1 hI.2.2.1 (by omega) h
    · rw [s_isDay_f hd, if_pos rfl]
      rw [if_neg (fun q => hd q.2)] at h; exact h
  · rw [if_neg (fun q => c q.1)] at h
    by_cases c2 : r < 0
    · rw [if_pos c2]; exact h
    · rw [if_neg c2, if_neg (by omega)]; exact h
theorem b_rule {σ : Mem} {r d : Int} {Q : Int → Mem → Prop} (hI : I_rules σ) (h : Q (ruleV σ r d) σ) : v_X12_rule r d σ Q := by
  unfold v_X12_rule
  unfold ruleV at h
  by_cases c : 0 ≤ r ∧ r ≤ 19
  · by_cases hd : 0 ≤ d ∧ d ≤ 9999
    · rw [if_pos ⟨c, hd⟩] at h
      rw [s_in_t c, if_neg (by decide), s_in_t hd, if_neg (by decide)]
      by_cases c1 : r < 4
      · rw [if_pos c1]; exact s_firstEdge hI (by omega) h
      · rw [if_neg c1]
        by_cases c2 : r < 8
        · rw [if_pos c2]; exact ⟨⟨by omega, by omega⟩, s_secondEdge hI (by omega) (by rw [show 4 + (r - 4) = r by omega]; exact h)⟩
        · rw [if_neg c2]
          by_cases c3 : r < 14
          · rw [if_pos c3]; exact ⟨⟨by omega, by omega⟩, s_mspread hI (by omega) (by rw [show 8 + (r - 8) = r by omega]; exact h)⟩
          · rw [if_neg c3]
            by_cases c4 : r < 18
            · rw [if_pos c4]; exact ⟨⟨by omega, by omega⟩, s_mgrow hI (by omega) (by rw [show 14 + (r - 14) = r by omega]; exact h)⟩
            · rw [if_neg c4]
              by_cases c5 : r = 18
              · rw [if_pos c5]; rw [c5] at h; exact s_mkeep hI h
              · rw [if_neg c5]; rw [show r = 19 by omega] at h; exact s_mother hI h
    · rw [if_neg (fun q => hd q.2)] at h
      rw [s_in_t c, if_neg (by decide), s_in_f hd, if_pos rfl]; exact h
  · rw [if_neg (fun q => c q.1)] at h
    rw [s_in_f c, if_pos rfl]; exact h
theorem f_rule {σ : Mem} (hI : INV σ) (r d : Int) : v_X11_rule r d σ (fun r1 σ1 => v_X12_rule r d σ1 (fun r2 σ2 => r1 = r2 ∧ INV σ2)) := a_rule hI.r (b_rule hI.r ⟨rfl, hI⟩)
