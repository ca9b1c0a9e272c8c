/-! PURE FACTS, 21: match, hold -/
theorem srt_same {σ τ : Mem} (hs : SAME σ τ) {o : Nat → Int} {q n : Nat} (hn : n ≤ 24) (h : Srt (matP σ) (missT σ) o q n) : Srt (matP τ) (missT τ) o q n := by
  obtain ⟨a1, a2, a3⟩ := srt_congr (w2 := missT τ) h (fun c hc => (missT_same hs (by omega)).symm) (fun i _ => rfl)
  refine ⟨fun i hi => ?_, fun c hc m => a2 c hc (fun z => m (by rw [missT_same hs (by omega)]; exact z)), a3⟩
  obtain ⟨c, hc, m, e⟩ := a1 i hi
  exact ⟨c, hc, fun z => m (by rw [← missT_same hs (by omega)]; exact z), e⟩
theorem matP_same {σ τ : Mem} (hs : SAME σ τ) {n : Nat} (hn : n ≤ 24) : orF (matP τ) n = orF (matP σ) n ∧ cntF (matP τ) n = cntF (matP σ) n :=
  ⟨orF_congr (fun k hk => by unfold matP; rw [missT_same hs (by omega)]), cntF_congr (fun k hk => by unfold matP; rw [missT_same hs (by omega)])⟩
abbrev matV (σ : Mem) (p : Int) : Prop := (0 ≤ p ∧ p ≤ 1) ∨ (10 ≤ p ∧ p ≤ 33) ∨ (50 ≤ p ∧ p - 50 < σ 16 2)
theorem a_match {σ : Mem} {p : Int} {Q : Int → Mem → Prop} (hp : inR p) (h1 : 0 ≤ p ∧ p ≤ 1 → j_X11_match_63 p Q 0 0 σ) (h2 : 10 ≤ p ∧ p ≤ 33 → j_X11_match_63 p Q 1 0 σ) (h3 : 50 ≤ p ∧ p - 50 < σ 16 2 → j_X11_match_63 p Q 0 1 σ) (h4 : ¬ matV σ p → Q (-1) σ) : v_X11_match p σ Q := by
  unfold v_X11_match j_X11_match_17 j_X11_match_43
  by_cases c1 : p < 10
  · rw [if_pos c1, if_pos (by omega), if_pos rfl, if_pos rfl]
    by_cases c2 : p = 0
    · rw [if_pos c2]; exact h1 (by omega)
    · rw [if_neg c2]
      by_cases c3 : p = 1
      · rw [if_pos c3]; exact h1 (by omega)
      · rw [if_neg c3]; exact h4 (by unfold matV; omega)
  · rw [if_neg c1]
    by_cases c2 : p < 34
    · rw [if_pos c2, if_pos (by omega), if_neg (by decide)]; exact h2 (by omega)
    · rw [if_neg c2]
      by_cases c3 : p < 50
      · rw [if_pos c3, if_pos rfl, if_pos rfl, if_neg (by omega), if_neg (by omega)]
        exact h4 (by unfold matV; omega)
      · rw [if_neg c3]
        refine ⟨⟨by omega, by omega⟩, ?_⟩
        by_cases c4 : p - 50 < σ 16 2
        · rw [s_has_t ⟨by omega, c4⟩, if_pos rfl, if_neg (show ¬ (1 : Int) = 0 by decide), if_neg (by decide)]
          exact h3 (by omega)
        · rw [s_has_f (fun z => c4 z.2), if_pos rfl, if_pos rfl, if_pos rfl, if_neg (by omega), if_neg (by omega)]
          exact h4 (by unfold matV; omega)
theorem b_match {σ : Mem} {p : Int} {Q : Int → Mem → Prop} (hI : INV σ) (h1 : matV σ p → j_X12_match_45 p Q σ) (h4 : ¬ matV σ p → Q (-1) σ) : v_X12_match p σ Q := by
  have n24 := hI.n24
  have en := hI.eqn
  unfold v_X12_match
  by_cases c1 : 0 ≤ p ∧ p ≤ 1
  · rw [s_in_t c1, if_neg (by decide)]; exact h1 (Or.inl c1)
  · rw [s_in_f c1, if_pos rfl]
    by_cases c2 : 10 ≤ p ∧ p ≤ 33
    · rw [s_in_t c2, if_neg (by decide)]; exact h1 (Or.inr (Or.inl c2))
    · rw [s_in_f c2, if_pos rfl]
      refine ⟨⟨by omega, by omega⟩, ?_⟩
      by_cases c3 : 50 ≤ p ∧ p ≤ 49 + σ 122 24
      · rw [s_in_t c3, if_neg (by decide)]; exact h1 (Or.inr (Or.inr (by omega)))
      · rw [s_in_f c3, if_pos rfl]; exact h4 (by unfold matV; omega)
theorem f_match {σ : Mem} (hI : INV σ) (p : Int) (hp : inR p) : v_X11_match p σ (fun r1 σ1 => v_X12_match p σ1 (fun r2 σ2 => r1 = r2 ∧ INV σ2)) := by
  have n24 := hI.c.2.2.1
  have n0 := hI.c.2.1
  have no : σ 95 0 = 0 → matV σ p → v_X12_match p σ (fun r2 σ2 => (-2 : Int) = r2 ∧ INV σ2) := by
    intro ht hV
    refine b_match hI (fun _ => ?_) (fun z => absurd hV z)
    unfold j_X12_match_45
    rw [if_pos (tellN hI.kt ht)]; exact ⟨rfl, hI⟩
  have yes : ∀ (τ : Mem) (r : Int), ¬ σ 95 0 = 0 → matV σ p → SAME σ τ → (∀ ω, trT τ ω → INV ω → (if p = 0 then (v_X12_sizeOf (orF (matP τ) (τ 16 2).toNat) ω (fun r18 σ19 => r = r18 ∧ INV σ19)) else (if p = 1 then (r = orF (matP τ) (τ 16 2).toNat ∧ INV ω) else (if p < 50 then (inR (p - 10) ∧ (v_X12_matchAt (orF (matP τ) (τ 16 2).toNat) (p - 10) ω (fun r15 σ16 => r = r15 ∧ INV σ16))) else (inR (p - 50) ∧ (v_X12_missOf (p - 50) ω (fun r11 σ12 => r = r11 ∧ INV σ12))))))) → v_X12_match p τ (fun r2 σ2 => r = r2 ∧ INV σ2) := by
    intro τ r ht hV hs h
    have jI := inv_core hs hI
    have kt : ¬ τ 95 0 = 0 := by rw [hs 95 0 rfl]; exact ht
    have k39 := (tellD jI.kt kt).1
    have k1 := (tellD jI.kt kt).2.1
    refine b_match jI (fun _ => ?_) (fun z => absurd (by unfold matV; rw [hs.n]; exact hV) z)
    unfold j_X12_match_45
    rw [if_neg (by omega)]
    exact s_matches jI.kt kt (fun ω hω => h ω hω (inv_core hω.1 jI))
  refine a_match hp (fun c => ?_) (fun c => ?_) (fun c => ?_) (fun c => ?_)
  · have hV : matV σ p := Or.inl c
    unfold j_X11_match_63
    by_cases ht : σ 95 0 = 0
    · rw [if_pos ht]; exact no ht hV
    · rw [if_neg ht]
      refine s_findM hI ht (fun τ hs e5 e6 e97 srt => ?_)
      rw [if_pos rfl, if_pos rfl]
      have ms := matP_same hs (n := (σ 16 2).toNat) (by omega)
      by_cases p0 : p = 0
      · rw [if_pos p0]
        refine yes τ _ ht hV hs (fun ω hω wI => ?_)
        rw [if_pos p0, hs.n]
        exact s_sizeF (by omega) ⟨by rw [e5, ms.2], wI⟩
      · rw [if_neg p0]
        refine yes τ _ ht hV hs (fun ω hω wI => ?_)
        rw [if_neg p0, if_pos (by omega), hs.n]
        exact ⟨by rw [e6, ms.1], wI⟩
  · have hV : matV σ p := Or.inr (Or.inl c)
    unfold j_X11_match_63
    by_cases ht : σ 95 0 = 0
    · rw [if_pos ht]; exact no ht hV
    · rw [if_neg ht]
      refine s_findM hI ht (fun τ hs e5 e6 e97 srt => ?_)
      rw [if_neg (by decide)]
      obtain ⟨i, hi⟩ : ∃ i : Nat, p - 10 = i := ⟨(p - 10).toNat, by omega⟩
      rw [hi, e5, Int.toNat_natCast]
      refine ⟨⟨by omega, by omega⟩, ?_⟩
      have kt : ¬ τ 95 0 = 0 := by rw [hs 95 0 rfl]; exact ht
      have jI := inv_core hs hI
      have sr := srt_same hs (by omega) srt
      have fin : ∀ r, r = (if i < cntF (matP σ) (σ 16 2).toNat then τ 98 i else -4) → v_X12_match p τ (fun r2 σ2 => r = r2 ∧ INV σ2) := by
        intro r hr
        refine yes τ r ht hV hs (fun ω hω wI => ?_)
        rw [if_neg (by omega), if_neg (by omega), if_pos (by omega), hi]
        refine ⟨⟨by omega, by omega⟩, s_matchAt (q := cntF (matP σ) (σ 16 2).toNat) (o := τ 98) jI.kt kt hω (by omega) (by rw [hs.n]; exact sr) ⟨hr, wI⟩⟩
      by_cases g : (i : Int) < (cntF (matP σ) (σ 16 2).toNat : Nat)
      · rw [if_pos g]
        exact ⟨by omega, by omega, fin _ (by rw [if_pos (by omega)])⟩
      · rw [if_neg g]
        exact fin _ (by rw [if_neg (by omega)])
  · have hV : matV σ p := Or.inr (Or.inr c)
    unfold j_X11_match_63
    by_cases ht : σ 95 0 = 0
    · rw [if_pos ht]; exact no ht hV
    · rw [if_neg ht]
      refine s_findM hI ht (fun τ hs e5 e6 e97 srt => ?_)
      rw [if_pos rfl, if_neg (by decide)]
      obtain ⟨i, hi⟩ : ∃ i : Nat, p - 50 = i := ⟨(p - 50).toNat, by omega⟩
      have kt : ¬ τ 95 0 = 0 := by rw [hs 95 0 rfl]; exact ht
      have jI := inv_core hs hI
      rw [hi, Int.toNat_natCast, e97 i (by omega)]
      refine ⟨by omega, by omega, ?_⟩
      refine yes τ _ ht hV hs (fun ω hω wI => ?_)
      rw [if_neg (by omega), if_neg (by omega), if_neg (by omega), hi]
      exact ⟨⟨by omega, by omega⟩, s_missTT jI.kt kt hω rfl (by rw [hs.n]; omega) ⟨(missT_same hs (by omega)).symm, wI⟩⟩
  · refine b_match hI (fun z => absurd z c) (fun _ => ⟨rfl, hI⟩)
theorem missT_fn {σ τ : Mem} (h : ∀ j, j ≠ 0 → j < 118 → τ j = σ j) {c : Nat} (hc : c < 24) : missT τ c = missT σ c := by
  have o : ∀ m, oneF τ c (σ 96) m = oneF σ c (σ 96) m := by
    intro m; unfold oneF growF; rw [h 14 (by decide) (by decide), h 15 (by decide) (by decide), h (23 + 3 * c) (by omega) (by omega), h (25 + 3 * c) (by omega) (by omega)]
  have ms : ∀ (s : Int) (k : Nat) (x : Int), missG τ c (σ 96) s k x = missG σ c (σ 96) s k x := by
    intro s k
    induction k with
    | zero => intro x; rfl
    | succ k ih => intro x; unfold missG; rw [o, h (25 + 3 * c) (by omega) (by omega), ih, ih]
  unfold missT sprF
  rw [h 15 (by decide) (by decide), h (23 + 3 * c) (by omega) (by omega), h 96 (by decide) (by decide), h 95 (by decide) (by decide), ms]
theorem f_hold {σ : Mem} (hI : INV σ) (p : Int) : v_X11_hold p σ (fun r1 σ1 => v_X12_hold p σ1 (fun r2 σ2 => r1 = r2 ∧ INV σ2)) := by
  have n24 := hI.c.2.2.1
  have n0 := hI.c.2.1
  obtain ⟨z1, z2, z3, z4, z5⟩ := hI.h
  unfold v_X11_hold
  by_cases c : 0 ≤ p ∧ p < σ 16 2
  · obtain ⟨i, rfl⟩ : ∃ i : Nat, p = i := ⟨p.toNat, by omega⟩
    rw [s_has_t c, if_neg (by decide)]
    by_cases ht : σ 95 0 = 0
    · rw [if_pos ht]
      unfold v_X12_hold
      dsimp only
      refine s_isCard_t hI.n24 (by rw [hI.eqn]; exact c) ?_
      rw [if_neg (by decide), if_pos (tellN hI.kt ht)]; exact ⟨rfl, hI⟩
    · rw [if_neg ht]
      refine s_findM hI ht (fun τ hs e5 e6 e97 srt => ?_)
      have jI := inv_core hs hI
      have kt : ¬ τ 95 0 = 0 := by rw [hs 95 0 rfl]; exact ht
      have en : τ 16 2 = σ 16 2 := hs.n
      have et := tellD jI.kt kt
      rw [Int.toNat_natCast, e97 i (by omega)]
      refine ⟨by omega, by omega, ?_⟩
      have bt : ∀ ω : Mem, missT ω i = missT σ i → ω 16 2 = σ 16 2 → (iand (ishr (orF (matP ω) (ω 16 2).toNat) i) 1 = 0 ↔ missT σ i = -4) := by
        intro ω h1 h2
        rw [Bt_has _ (by omega), orF_Bt _ (by omega) i (by omega), h2]
        unfold matP
        by_cases g : missT σ i = -4
        · simp [g, h1]
        · have : i < (σ 16 2).toNat := by omega
          simp [g, h1, this]
      by_cases g : missT σ i = -4
      · rw [if_pos g]
        unfold v_X12_hold
        dsimp only
        refine s_isCard_t jI.n24 (by rw [jI.eqn, en]; exact c) ?_
        rw [if_neg (by decide), if_neg (by omega)]
        refine s_matches jI.kt kt (fun ω hω => ?_)
        rw [if_pos ((bt τ (missT_same hs (by omega)) en).mpr g)]
        exact ⟨rfl, inv_core hω.1 jI⟩
      · rw [if_neg g]
        have e15 : τ 0 15 = σ 0 15 := hs 0 15 rfl
        rw [e15]
        by_cases g2 : σ 0 15 < 12
        · rw [if_pos g2]
          obtain ⟨h, hh⟩ : ∃ h : Nat, σ 0 15 = h := ⟨(σ 0 15).toNat, by omega⟩
          rw [hh, Int.toNat_natCast]
          refine ⟨by omega, by omega, ⟨by omega, by omega⟩, ⟨by omega, by omega⟩, ?_⟩
          generalize hω : mset (mset (mset (mset τ 118 h i) 119 h (τ 14 2)) 120 h (τ 95 1)) 0 15 ((h : Int) + 1) = ω
          have aw : ∀ j k, ¬ ((j = 0 ∧ k = 15) ∨ ((j = 118 ∨ j = 119 ∨ j = 120) ∧ k = h)) → ω j k = τ j k := fun j k z => by
            rw [← hω, st_ne _ _ (by omega), st_ne _ _ (by omega), st_ne _ _ (by omega), st_ne _ _ (by omega)]
          have wt : INVt ω := by
            obtain ⟨⟨y1, y2, y3, y4⟩, y5⟩ := jI.kt
            exact ⟨⟨k_rules (fun j k z => aw j k (by have := d_rules z; omega)) y1, k_now (fun j k z => aw j k (by have := d_now z; omega)) y2, k_cards (fun j k z => aw j k (by have := d_cards z; omega)) y3, k_bars (fun j k z => aw j k (by have := d_bars z; omega)) y4⟩, k_tell (fun j k z => aw j k (by have := d_tell z; omega)) y5⟩
          have wn : ω 16 2 = σ 16 2 := by rw [aw 16 2 (by omega)]; exact en
          have w95 : ω 95 0 = τ 95 0 := aw 95 0 (by omega)
          have wk : ¬ ω 95 0 = 0 := by rw [w95]; exact kt
          have w39 : ω 122 39 = τ 122 39 := aw 122 39 (by omega)
          have wm : missT ω i = missT σ i := by
            rw [← missT_same hs (by omega : i < 24)]
            exact missT_fn (fun j h1 h2 => funext fun k => aw j k (by omega)) (by omega)
          unfold v_X12_hold
          dsimp only
          refine s_isCard_t wt.k.n24 (by rw [wt.k.eqn, wn]; exact c) ?_
          rw [if_neg (by decide), w39, if_neg (by omega)]
          refine s_matches wt wk (fun ψ hψ => ?_)
          rw [if_neg (fun z => g ((bt ω wm wn).mp z))]
          have p52 : ψ 122 52 = h := by rw [hψ.1 122 52 rfl, aw 122 52 (by omega), hs 122 52 rfl, z1]; exact hh
          have p0 : ψ 122 0 = τ 14 2 := by rw [hψ.1 122 0 rfl, aw 122 0 (by omega)]; exact jI.n.1
          have p39 : ψ 122 39 = τ 95 1 := by rw [hψ.1 122 39 rfl, w39]; exact et.1
          rw [p52, p0, p39, if_neg (by omega), Int.toNat_natCast]
          refine ⟨by omega, by omega, ⟨by omega, by omega⟩, ⟨by omega, by omega⟩, rfl, ?_⟩
          generalize hφ : mset (mset (mset (mset (mset ψ 154 h i) 155 h (τ 14 2)) 156 h (τ 95 1)) 157 h 0) 122 52 ((h : Int) + 1) = φ
          have af : ∀ j k, ¬ ((j = 122 ∧ k = 52) ∨ ((j = 154 ∨ j = 155 ∨ j = 156 ∨ j = 157) ∧ k = h)) → φ j k = ψ j k := fun j k z => by
            rw [← hφ, st_ne _ _ (by omega), st_ne _ _ (by omega), st_ne _ _ (by omega), st_ne _ _ (by omega), st_ne _ _ (by omega)]
          have al : ∀ j k, core j k = true → ¬ ((j = 122 ∧ k = 52) ∨ (j = 0 ∧ k = 15) ∨ ((j = 118 ∨ j = 119 ∨ j = 120 ∨ j = 154 ∨ j = 155 ∨ j = 156 ∨ j = 157) ∧ k = h)) → φ j k = σ j k := fun j k q z => by
            rw [af j k (by omega), hψ.1 j k q, aw j k (by omega), hs j k q]
          obtain ⟨y1, y2, y3, y4, y5, y6, y7, y8, y9, y10, y11⟩ := id hI
          refine ⟨k_tape (fun j k z => al j k (co_tape z) (by have := d_tape z; omega)) y1, k_cst (fun j k z => al j k (co_cst z) (by have := d_cst z; omega)) y2, k_fault (fun j k z => al j k (co_fault z) (by have := d_fault z; omega)) y3, k_rules (fun j k z => al j k (co_rules z) (by have := d_rules z; omega)) y4, k_now (fun j k z => al j k (co_now z) (by have := d_now z; omega)) y5, k_cards (fun j k z => al j k (co_cards z) (by have := d_cards z; omega)) y6, k_anew (fun j k z => al j k (co_anew z) (by have := d_anew z; omega)) y6.2.2.1 y7, k_bars (fun j k z => al j k (co_bars z) (by have := d_bars z; omega)) y8, k_tell (fun j k z => al j k (co_tell z) (by have := d_tell z; omega)) y9, ?_, k_sheet (fun j k z => al j k (co_sheet z) (by have := d_sheet z; omega)) y11⟩
          have f52 : φ 122 52 = (h : Int) + 1 := by rw [← hφ, mset_eq]
          have f15 : φ 0 15 = (h : Int) + 1 := by rw [af 0 15 (by omega), hψ.1 0 15 rfl, ← hω, mset_eq]
          unfold I_hold
          rw [f52, f15, al 16 2 rfl (by omega)]
          refine ⟨rfl, by omega, by omega, fun k hk hn => ?_, fun k hk => ?_⟩
          · rw [al 121 k rfl (by omega)]; exact z4 k hk (by omega)
          · by_cases e : k = h
            · subst e
              have v154 : φ 154 k = i := by rw [← hφ, mset_ne (by decide), mset_ne (by decide), mset_ne (by decide), mset_ne (by decide), mset_eq]
              have v155 : φ 155 k = τ 14 2 := by rw [← hφ, mset_ne (by decide), mset_ne (by decide), mset_ne (by decide), mset_eq]
              have v156 : φ 156 k = τ 95 1 := by rw [← hφ, mset_ne (by decide), mset_ne (by decide), mset_eq]
              have v157 : φ 157 k = 0 := by rw [← hφ, mset_ne (by decide), mset_eq]
              have v118 : φ 118 k = i := by rw [af 118 k (by omega), hψ.1 118 k rfl, ← hω, mset_ne (by decide), mset_ne (by decide), mset_ne (by decide), mset_eq]
              have v119 : φ 119 k = τ 14 2 := by rw [af 119 k (by omega), hψ.1 119 k rfl, ← hω, mset_ne (by decide), mset_ne (by decide), mset_eq]
              have v120 : φ 120 k = τ 95 1 := by rw [af 120 k (by omega), hψ.1 120 k rfl, ← hω, mset_ne (by decide), mset_eq]
              have v121 : φ 121 k = 0 := by rw [al 121 k rfl (by omega)]; exact z4 k (by omega) (by omega)
              rw [v154, v155, v156, v157, v118, v119, v120, v121]
              exact ⟨⟨rfl, by omega, c.2⟩, rfl, rfl, rfl, Or.inl rfl⟩
            · rw [al 154 k rfl (by omega), al 155 k rfl (by omega), al 156 k rfl (by omega), al 157 k rfl (by omega), al 118 k rfl (by omega), al 119 k rfl (by omega), al 120 k rfl (by omega), al 121 k rfl (by omega)]
              exact z5 k (by omega)
        · rw [if_neg g2]
          unfold v_X12_hold
          dsimp only
          refine s_isCard_t jI.n24 (by rw [jI.eqn, en]; exact c) ?_
          rw [if_neg (by decide), if_neg (by omega)]
          refine s_matches jI.kt kt (fun ω hω => ?_)
          rw [if_neg (fun z => g ((bt τ (missT_same hs (by omega)) en).mp z)), if_pos (by rw [hω.1 122 52 rfl, hs 122 52 rfl]; omega)]
          exact ⟨rfl, inv_core hω.1 jI⟩
  · rw [s_has_f c, if_pos rfl]
    unfold v_X12_hold
    dsimp only
    refine s_isCard_f hI.n24 (by rw [hI.eqn]; exact c) ?_
    rw [if_pos rfl]; exact ⟨rfl, hI⟩
