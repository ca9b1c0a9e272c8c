/-! PURE FACTS, 45: text -/
theorem txt_loop {L : Nat} {b : Nat → Int} : ∀ d line : Nat, line + d = 17 → ∀ σ, WCs L b σ → (σ 8 2 = 0 → σ 9 4 = line) → ∃ σF, WCs L b σF ∧ FCs σ σF ∧ (∀ Q : Int → Mem → Prop, Q (if σF 8 2 = 0 then 1 else 0) σF → l_X6_readText_24 Q (d + 1) line σ) ∧ ∀ τ, RLs L b σ τ → ∃ τF, RLs L b σF τF ∧ FMs τ τF ∧ ∀ Q : Int → Mem → Prop, j_X12_text_40 Q τF → ∃ n, l_X12_text_19 Q n τ := by
  intro d
  induction d with
  | zero =>
    intro line hl σ w hx
    have nz : σ 8 2 ≠ 0 := fun z => by have := hx z; have := w.2.1.2; omega
    refine ⟨σ, w, fun _ _ _ => rfl, fun Q h => ?_, fun τ R => ⟨τ, R, fun _ _ _ => rfl, fun Q h => ⟨1, ?_⟩⟩⟩
    · rw [if_neg nz] at h
      rw [l_X6_readText_24, if_pos (by omega)]
      unfold j_X6_readText_92
      rw [if_neg nz]; exact h
    · rw [l_X12_text_19, if_neg (by rw [R.2.2.1]; exact nz)]; exact h
  | succ d ih =>
    intro line hl σ w hx
    have ends : (σ 8 2 ≠ 0 ∨ σ 8 5 = 0) → ∃ σF, WCs L b σF ∧ FCs σ σF ∧ (∀ Q : Int → Mem → Prop, Q (if σF 8 2 = 0 then 1 else 0) σF → l_X6_readText_24 Q (d + 1 + 1) line σ) ∧ ∀ τ, RLs L b σ τ → ∃ τF, RLs L b σF τF ∧ FMs τ τF ∧ ∀ Q : Int → Mem → Prop, j_X12_text_40 Q τF → ∃ n, l_X12_text_19 Q n τ := by
      intro he
      refine ⟨σ, w, fun _ _ _ => rfl, fun Q h => ?_, fun τ R => ⟨τ, R, fun _ _ _ => rfl, fun Q h => ⟨1, ?_⟩⟩⟩
      · rw [l_X6_readText_24, if_neg (by omega)]
        unfold j_X6_readText_92
        by_cases z : σ 8 2 = 0
        · rw [if_pos z] at h
          rw [if_pos z, if_pos (by rcases he with y | y; exact absurd z y; exact y), if_pos z]; exact h
        · rw [if_neg z] at h
          rw [if_neg z, if_neg z]; exact h
      · rw [l_X12_text_19]
        by_cases z : σ 8 2 = 0
        · rw [if_pos (by rw [R.2.2.1]; exact z), if_pos (by rw [(R.2.2.2.2.1 z).2.2.1]; rcases he with y | y; exact absurd z y; exact y)]; exact h
        · rw [if_neg (by rw [R.2.2.1]; exact z)]; exact h
    by_cases z : σ 8 2 = 0
    rotate_left
    · exact ends (Or.inl z)
    by_cases k0 : σ 8 5 = 0
    · exact ends (Or.inr k0)
    obtain ⟨rc, rm, σ1, W1, F1, p1, C1, M1⟩ := OP.body w z (hx z)
    obtain ⟨σF, WF, FF, CF, MF⟩ := ih (line + 1) (by omega) σ1 W1 (fun y => by rw [p1 y, hx z]; omega)
    refine ⟨σF, WF, F1.tr FF, fun Q h => ?_, fun τ R => ?_⟩
    · have c := C1 (fun _ s' => inR ((line : Int) + 1) ∧ l_X6_readText_24 Q (d + 1) ((line : Int) + 1) s') (fun r _ => ⟨⟨by omega, by omega⟩, by have q := CF Q h; rw [show ((line + 1 : Nat) : Int) = (line : Int) + 1 by omega] at q; exact q⟩)
      rw [l_X6_readText_24, if_neg (by omega), if_pos z, if_neg k0]
      unfold bodC bo68 at c
      unfold j_X6_readText_68
      exact c
    · obtain ⟨τ1, R1, G1, N1⟩ := M1 τ R
      obtain ⟨τF, RF, GF, NF⟩ := MF τ1 R1
      refine ⟨τF, RF, G1.tr GF, fun Q h => ?_⟩
      obtain ⟨n, hn⟩ := NF Q h
      refine ⟨n + 1, ?_⟩
      rw [l_X12_text_19, if_pos (by rw [R.2.2.1]; exact z), if_neg (by rw [(R.2.2.2.2.1 z).2.2.1]; exact k0)]
      exact N1 _ (fun r _ _ => hn)
/-- the class takes the lines over -/
theorem s_become {σ : Mem} {Q : Int → Mem → Prop} (hn : 0 ≤ σ 9 4 ∧ σ 9 4 ≤ 16) (h : ∀ ω : Mem, (∀ j k, ¬ ((j = 3 ∧ k = 4) ∨ (4 ≤ j ∧ j ≤ 7)) → ω j k = σ j k) → ω 3 4 = σ 9 4 → (∀ k : Nat, (k : Int) < σ 9 4 → ω 4 k = σ 10 k ∧ ω 5 k = σ 11 k ∧ ω 6 k = σ 12 k ∧ ω 7 k = σ 13 k) → Q 0 ω) : v_X7_become_3 σ Q := by
  unfold v_X7_become_3
  refine lp0 (l_X7_become_3_7 Q) (fun i s => (∀ j k, ¬ ((j = 3 ∧ k = 4) ∨ (4 ≤ j ∧ j ≤ 7)) → s j k = σ j k) ∧ s 3 4 = i ∧ ∀ k : Nat, k < i → s 4 k = σ 10 k ∧ s 5 k = σ 11 k ∧ s 6 k = σ 12 k ∧ s 7 k = σ 13 k) (σ 9 4).toNat _ ⟨fun j k z => by rw [st_ne _ _ (by omega)], by rw [mset_eq]; rfl, fun k hk => absurd hk (by omega)⟩ ?_ ?_
  · rintro n s ⟨h1, h2, h3⟩
    rw [l_X7_become_3_7, h1 9 4 (by omega), if_neg (by omega)]
    exact h s h1 (by omega) (fun k hk => h3 k (by omega))
  · rintro n i s hi ⟨h1, h2, h3⟩ ih
    rw [l_X7_become_3_7, h1 9 4 (by omega), if_pos (by omega), Int.toNat_natCast, h1 10 i (by omega), h1 11 i (by omega), h1 12 i (by omega), h1 13 i (by omega)]
    refine ⟨by omega, by omega, ?_⟩
    unfold v_X7_add_3
    rw [h2, if_pos (by omega), Int.toNat_natCast]
    refine ⟨by omega, by omega, ⟨by omega, by omega⟩, ⟨by omega, by omega⟩, ih _ ⟨fun j k z => ?_, by rw [mset_eq]; omega, fun k hk => ?_⟩⟩
    · rw [st_ne _ _ (by omega), st_ne _ _ (by omega), st_ne _ _ (by omega), st_ne _ _ (by omega), st_ne _ _ (by omega)]; exact h1 j k z
    · by_cases e : k = i
      · subst e
        refine ⟨?_, ?_, ?_, ?_⟩
        · rw [mset_ne (by decide), mset_ne (by decide), mset_ne (by decide), mset_ne (by decide), mset_eq]
        · rw [mset_ne (by decide), mset_ne (by decide), mset_ne (by decide), mset_eq]
        · rw [mset_ne (by decide), mset_ne (by decide), mset_eq]
        · rw [mset_ne (by decide), mset_eq]
      · have q := h3 k (by omega)
        rw [st_ne _ _ (by omega), st_ne _ _ (by omega), st_ne _ _ (by omega), st_ne _ _ (by omega), st_ne _ _ (by omega), st_ne _ _ (by omega), st_ne _ _ (by omega), st_ne _ _ (by omega), st_ne _ _ (by omega), st_ne _ _ (by omega), st_ne _ _ (by omega), st_ne _ _ (by omega), st_ne _ _ (by omega), st_ne _ _ (by omega), st_ne _ _ (by omega), st_ne _ _ (by omega), st_ne _ _ (by omega), st_ne _ _ (by omega), st_ne _ _ (by omega), st_ne _ _ (by omega)]
        exact q
theorem s_laylines {τ : Mem} {Q : Int → Mem → Prop} (h : ∀ ω : Mem, (∀ j k, ¬ (126 ≤ j ∧ j ≤ 130) → ω j k = τ j k) → (∀ k : Nat, k < 16 → ω 126 k = τ 131 k ∧ ω 127 k = τ 132 k ∧ ω 128 k = τ 133 k ∧ ω 129 k = τ 134 k ∧ ω 130 k = τ 135 k) → Q (ω 122 12) ω) : ∃ n, l_X12_text_78 Q n 0 τ := by
  refine lp0 (l_X12_text_78 Q) (fun i s => (∀ j k, ¬ (126 ≤ j ∧ j ≤ 130) → s j k = τ j k) ∧ ∀ k : Nat, k < i → s 126 k = τ 131 k ∧ s 127 k = τ 132 k ∧ s 128 k = τ 133 k ∧ s 129 k = τ 134 k ∧ s 130 k = τ 135 k) 16 τ ⟨fun _ _ _ => rfl, fun k hk => absurd hk (by omega)⟩ ?_ ?_
  · rintro n s ⟨h1, h2⟩
    rw [l_X12_text_78, if_neg (by decide)]
    exact h s h1 h2
  · rintro n i s hi ⟨h1, h2⟩ ih
    rw [l_X12_text_78, if_pos (by omega), Int.toNat_natCast, h1 131 i (by omega), h1 132 i (by omega), h1 133 i (by omega), h1 134 i (by omega), h1 135 i (by omega)]
    refine ⟨by omega, by omega, ⟨by omega, by omega⟩, ih _ ⟨fun j k z => ?_, fun k hk => ?_⟩⟩
    · rw [st_ne _ _ (by omega), st_ne _ _ (by omega), st_ne _ _ (by omega), st_ne _ _ (by omega), st_ne _ _ (by omega)]; exact h1 j k z
    · by_cases e : k = i
      · subst e
        refine ⟨?_, ?_, ?_, ?_, ?_⟩
        · rw [mset_ne (by decide), mset_ne (by decide), mset_ne (by decide), mset_ne (by decide), mset_eq]
        · rw [mset_ne (by decide), mset_ne (by decide), mset_ne (by decide), mset_eq]
        · rw [mset_ne (by decide), mset_ne (by decide), mset_eq]
        · rw [mset_ne (by decide), mset_eq]
        · rw [mset_eq]
      · have q := h2 k (by omega)
        have st : ∀ j, mset (mset (mset (mset (mset s 126 i (τ 131 i)) 127 i (τ 132 i)) 128 i (τ 133 i)) 129 i (τ 134 i)) 130 i (τ 135 i) j k = s j k := fun j => by
          rw [st_ne _ _ (by omega), st_ne _ _ (by omega), st_ne _ _ (by omega), st_ne _ _ (by omega), st_ne _ _ (by omega)]
        rw [st, st, st, st, st]; exact q
theorem f_text {σ : Mem} (hI : INV σ) : v_X11_text σ (fun r1 σ1 => v_X12_text σ1 (fun r2 σ2 => r1 = r2 ∧ INV σ2)) := by
  obtain ⟨h1, h2, h3, h4, h5, h6, h7, h8, h9, h10, h11⟩ := id hI
  obtain ⟨t1, t2, t3, t4⟩ := id h1
  obtain ⟨L, hL⟩ : ∃ L : Nat, σ 1 1 = L := ⟨(σ 1 1).toNat, by omega⟩
  obtain ⟨b, hb⟩ : ∃ b : Nat → Int, b = fun k => iand (σ 2 k) 255 := ⟨_, rfl⟩
  have tb : ∀ k : Nat, k < L → iand (σ 2 k) 255 = b k ∧ 0 ≤ b k ∧ b k ≤ 255 := fun k hk => by rw [hb]; exact ⟨rfl, iand255 _⟩
  generalize hS : mset (mset (mset σ 9 4 0) 8 2 0) 8 4 0 = S
  have s0 : ∀ j k, ¬ ((j = 9 ∧ k = 4) ∨ (j = 8 ∧ (k = 2 ∨ k = 4))) → S j k = σ j k := fun j k z => by rw [← hS, st_ne _ _ (by omega), st_ne _ _ (by omega), st_ne _ _ (by omega)]
  have tS : tapC S L b := ⟨by rw [s0 1 1 (by omega)]; exact hL, by omega, fun k hk => by rw [s0 2 k (by omega)]; exact tb k hk⟩
  have s94 : S 9 4 = 0 := by rw [← hS, mset_ne (by decide), mset_ne (by decide), mset_eq]
  have s82 : S 8 2 = 0 := by rw [← hS, mset_nei (by decide), mset_eq]
  have s84 : S 8 4 = ((0 : Nat) : Int) := by rw [← hS, mset_eq]; rfl
  obtain ⟨σ1, W1, F1, P1, C1, M1⟩ := op_step tS (by rw [s94]; omega) s82 (a := 0) s84 (Nat.zero_le L) (P := fun s => s 9 4 = 0) (fun s F => by rw [F 9 4 (by omega)]; exact s94)
  obtain ⟨σF, WF, FF, CF, MF⟩ := txt_loop 17 0 rfl σ1 W1 (fun _ => by rw [P1]; rfl)
  have fr : ∀ j k, ¬ ((j = 8 ∧ 2 ≤ k) ∨ (j = 9 ∧ k = 4) ∨ (10 ≤ j ∧ j ≤ 13)) → σF j k = σ j k := fun j k z => by rw [FF j k z, F1 j k z, s0 j k (by omega)]
  -- the model, from any state that has its cells as they were
  have model : ∀ (Z : Mem) (r : Int), (∀ j k, 122 ≤ j → Z j k = σ j k) → (∀ τF, RLs L b σF τF → (∀ j k, ¬ ((j = 122 ∧ ((4 ≤ k ∧ k ≤ 9) ∨ k = 18)) ∨ (131 ≤ j ∧ j ≤ 135)) → τF j k = Z j k) → j_X12_text_40 (fun r2 σ2 => r = r2 ∧ INV σ2) τF) → v_X12_text Z (fun r2 σ2 => r = r2 ∧ INV σ2) := by
    intro Z r hz K
    unfold v_X12_text
    generalize hU : mset (mset (mset Z 122 4 0) 122 6 0) 122 18 0 = U
    have u0 : ∀ j k, ¬ (j = 122 ∧ (k = 4 ∨ k = 6 ∨ k = 18)) → U j k = Z j k := fun j k z => by rw [← hU, st_ne _ _ (by omega), st_ne _ _ (by omega), st_ne _ _ (by omega)]
    have u4 : U 122 4 = 0 := by rw [← hU, mset_nei (by decide), mset_nei (by decide), mset_eq]
    have u6 : U 122 6 = ((0 : Nat) : Int) := by rw [← hU, mset_nei (by decide), mset_eq]; rfl
    have u18 : U 122 18 = 0 := by rw [← hU, mset_eq]
    obtain ⟨τ1, R1, G1, N1⟩ := M1 U ⟨by rw [u0 122 2 (by omega), hz 122 2 (by decide), t1]; exact hL, fun k hk => by rw [u0 123 k (by omega), hz 123 k (by decide), (t4 k (by omega)).1]; exact (tb k hk).1⟩ ⟨fun k hk => by rw [u0 124 k (by omega), hz 124 k (by decide)]; exact h2.1 k hk, fun k hk => by rw [u0 125 k (by omega), hz 125 k (by decide)]; exact h2.2 k hk⟩ u4 u6 ⟨by rw [u18, s94], fun k hk => by rw [s94] at hk; omega⟩
    obtain ⟨τF, RF, GF, NF⟩ := MF τ1 R1
    exact N1 _ (NF _ (K τF RF (fun j k z => by rw [GF j k z, G1 j k z, u0 j k (by omega)])))
  have start : ∀ Q : Int → Mem → Prop, (if (if σF 8 2 = 0 then (1 : Int) else 0) = 0 then (inR ((-10) - (σF 8 3)) ∧ Q ((-10) - (σF 8 3)) (mset σF 1 1 0)) else (v_X7_become_3 (mset σF 1 1 0) (fun _ σ7 => v_X5_refresh σ7 (fun _ σ10 => Q (σ10 3 4) σ10)))) → v_X11_text σ Q := by
    intro Q h
    unfold v_X11_text v_X6_readText
    rw [hS]
    exact C1 _ ⟨18, CF _ h⟩
  refine start _ ?_
  have b3 := WF.2.2.2.1.1
  by_cases z : σF 8 2 = 0
  · rw [if_pos z, if_neg (by decide)]
    have n16 := WF.2.1
    refine s_become (by rw [mset_ne (by decide)]; exact n16) (fun ω w1 w2 w3 => ?_)
    rw [mset_ne (by decide)] at w2 w3
    have wf : ∀ j k, ¬ ((j = 3 ∧ k = 4) ∨ (4 ≤ j ∧ j ≤ 7) ∨ (j = 1 ∧ k = 1)) → ω j k = σF j k := fun j k y => by rw [w1 j k (by omega), st_ne _ _ (by omega)]
    refine s_refresh (by rw [w2]; omega) (by rw [w2]; omega) (fun Z z1 z2 => ?_)
    have zc : ∀ j k, ¬ ((j = 3 ∧ k = 4) ∨ (4 ≤ j ∧ j ≤ 7) ∨ (j = 1 ∧ k = 1) ∨ j = 15 ∨ (j = 8 ∧ 2 ≤ k) ∨ (j = 9 ∧ k = 4) ∨ (10 ≤ j ∧ j ≤ 13)) → Z j k = σ j k := fun j k y => by rw [z1 j k (by omega), wf j k (by omega), fr j k (by omega)]
    have zn : Z 3 4 = σF 9 4 := by rw [z1 3 4 (by decide)]; exact w2
    refine model Z _ (fun j k y => zc j k (by omega)) (fun τF R G => ?_)
    obtain ⟨r1, r2, r3, r4, r5, r6, d1, d2⟩ := R
    unfold j_X12_text_40
    rw [if_neg (by rw [r3, z]; decide)]
    refine s_laylines (fun φ p1 p2 => ?_)
    have pm : ∀ j k, ¬ ((126 ≤ j ∧ j ≤ 130) ∨ (j = 122 ∧ (k = 2 ∨ k = 3 ∨ k = 12))) → φ j k = τF j k := fun j k y => by rw [p1 j k (by omega), st_ne _ _ (by omega), st_ne _ _ (by omega), st_ne _ _ (by omega)]
    have pz : ∀ j k, ¬ ((126 ≤ j ∧ j ≤ 135) ∨ (j = 122 ∧ (k = 2 ∨ k = 3 ∨ k = 12 ∨ (4 ≤ k ∧ k ≤ 9) ∨ k = 18))) → φ j k = Z j k := fun j k y => by rw [pm j k (by omega), G j k (by omega)]
    have ag : ∀ j k, ¬ ((126 ≤ j ∧ j ≤ 135) ∨ (j = 122 ∧ (k = 2 ∨ k = 3 ∨ k = 12 ∨ (4 ≤ k ∧ k ≤ 9) ∨ k = 18)) ∨ (j = 3 ∧ k = 4) ∨ (4 ≤ j ∧ j ≤ 7) ∨ (j = 1 ∧ k = 1) ∨ j = 15 ∨ (j = 8 ∧ 2 ≤ k) ∨ (j = 9 ∧ k = 4) ∨ (10 ≤ j ∧ j ≤ 13)) → φ j k = σ j k := fun j k y => by rw [pz j k (by omega), zc j k (by omega)]
    have v12 : φ 122 12 = σF 9 4 := by rw [p1 122 12 (by omega), mset_eq]; exact d1
    have v2 : φ 122 2 = 0 := by rw [p1 122 2 (by omega), st_ne _ _ (by omega), st_ne _ _ (by omega), mset_eq]
    have v3 : φ 122 3 = 0 := by rw [p1 122 3 (by omega), st_ne _ _ (by omega), mset_eq, r3, z]
    have v34 : φ 3 4 = σF 9 4 := by rw [pz 3 4 (by omega)]; exact zn
    refine ⟨by rw [v12, zn], ?_, k_cst (fun j x q => ag j x (by have := d_cst q; omega)) h2, ?_, ?_, ?_, k_cards (fun j x q => ag j x (by have := d_cards q; omega)) h6, k_anew (fun j x q => ag j x (by have := d_anew q; omega)) h6.2.2.1 h7, k_bars (fun j x q => ag j x (by have := d_bars q; omega)) h8, k_tell (fun j x q => ag j x (by have := d_tell q; omega)) h9, k_hold (fun j x q => ag j x (by have := d_hold q; omega)) h10, k_sheet (fun j x q => ag j x (by have := d_sheet q; omega)) h11⟩
    · have v11 : φ 1 1 = 0 := by rw [pz 1 1 (by omega), z1 1 1 (by decide), w1 1 1 (by omega), mset_eq]
      exact ⟨by rw [v2, v11], by rw [v11]; omega, by rw [v11]; omega, fun k hk => by rw [v11] at hk; omega⟩
    · exact ⟨by rw [v3, pz 8 2 (by omega), z1 8 2 (by decide), wf 8 2 (by omega), z], by rw [ag 122 60 (by omega), ag 0 16 (by omega)]; exact h3.2⟩
    · refine ⟨by rw [v12, v34], by rw [v34]; omega, by rw [v34]; omega, fun k hk => ?_⟩
      rw [v34] at hk
      obtain ⟨e1, e2, e3, e4, e5, e6⟩ := d2 k hk
      obtain ⟨y1, y2, y3, y4⟩ := w3 k hk
      rw [mset_ne (by decide)] at y1 y2 y3 y4
      have q := p2 k (by omega)
      have tf : ∀ j : Nat, 131 ≤ j → mset (mset (mset τF 122 2 0) 122 3 (τF 122 4)) 122 12 (τF 122 18) j k = τF j k := fun j hj => by rw [st_ne _ _ (by omega), st_ne _ _ (by omega), st_ne _ _ (by omega)]
      rw [tf 131 (by omega), tf 132 (by omega), tf 133 (by omega), tf 134 (by omega), tf 135 (by omega)] at q
      rw [q.1, q.2.1, q.2.2.1, q.2.2.2.1, q.2.2.2.2, pz 4 k (by omega), pz 5 k (by omega), pz 6 k (by omega), pz 7 k (by omega), z1 4 k (by decide), z1 5 k (by decide), z1 6 k (by decide), z1 7 k (by decide), y1, y2, y3, y4]
      exact ⟨e1.symm, e2.symm, e3.symm, e4, e5, e6⟩
    · refine ⟨by rw [ag 122 0 (by omega), ag 14 2 (by omega)]; exact h5.1, by rw [ag 14 2 (by omega)]; exact h5.2.1, by rw [ag 14 2 (by omega)]; exact h5.2.2.1, fun r hr => ?_⟩
      have fe : ∀ j, j = 3 ∨ (4 ≤ j ∧ j ≤ 7) → φ j = ω j := fun j hj => funext fun k => by rw [pz j k (by omega), z1 j k (by omega)]
      rw [pz 15 r (by omega), z2 r hr, pz 14 2 (by omega), z1 14 2 (by decide)]
      unfold ruleF lineF
      rw [fe 3 (by omega), fe 4 (by omega), fe 5 (by omega), fe 6 (by omega), fe 7 (by omega)]
  · rw [if_neg z, if_pos rfl]
    refine ⟨⟨by omega, by omega⟩, model _ _ (fun j k y => by rw [st_ne _ _ (by omega), fr j k (by omega)]) (fun τF R G => ?_)⟩
    obtain ⟨r1, r2, r3, r4, r5, r6, d1, d2⟩ := R
    have zp := WF.2.2.1
    have e5 := r6 z
    unfold j_X12_text_40
    rw [if_pos (by rw [r3]; omega), e5]
    refine ⟨⟨by omega, by omega⟩, rfl, ?_⟩
    generalize hφ : mset (mset τF 122 2 0) 122 3 (τF 122 4) = φ
    have pm : ∀ j k, ¬ (j = 122 ∧ (k = 2 ∨ k = 3)) → φ j k = τF j k := fun j k y => by rw [← hφ, st_ne _ _ (by omega), st_ne _ _ (by omega)]
    have pz : ∀ j k, ¬ ((131 ≤ j ∧ j ≤ 135) ∨ (j = 122 ∧ (k = 2 ∨ k = 3 ∨ (4 ≤ k ∧ k ≤ 9) ∨ k = 18)) ∨ (j = 1 ∧ k = 1)) → φ j k = σF j k := fun j k y => by rw [pm j k (by omega), G j k (by omega), st_ne _ _ (by omega)]
    have ag : ∀ j k, ¬ ((131 ≤ j ∧ j ≤ 135) ∨ (j = 122 ∧ (k = 2 ∨ k = 3 ∨ (4 ≤ k ∧ k ≤ 9) ∨ k = 18)) ∨ (j = 1 ∧ k = 1) ∨ (j = 8 ∧ 2 ≤ k) ∨ (j = 9 ∧ k = 4) ∨ (10 ≤ j ∧ j ≤ 13)) → φ j k = σ j k := fun j k y => by rw [pz j k (by omega), fr j k (by omega)]
    have v2 : φ 122 2 = 0 := by rw [← hφ, st_ne _ _ (by omega), mset_eq]
    have v3 : φ 122 3 = σF 8 2 := by rw [← hφ, mset_eq]; exact r3
    have v11 : φ 1 1 = 0 := by rw [pm 1 1 (by omega), G 1 1 (by omega), mset_eq]
    refine ⟨⟨by rw [v2, v11], by rw [v11]; omega, by rw [v11]; omega, fun k hk => by rw [v11] at hk; omega⟩, k_cst (fun j x q => ag j x (by have := d_cst q; omega)) h2, ⟨by rw [v3, pz 8 2 (by omega)], by rw [ag 122 60 (by omega), ag 0 16 (by omega)]; exact h3.2⟩, k_rules (fun j x q => ag j x (by have := d_rules q; omega)) h4, k_now (fun j x q => ag j x (by have := d_now q; omega)) h5, k_cards (fun j x q => ag j x (by have := d_cards q; omega)) h6, k_anew (fun j x q => ag j x (by have := d_anew q; omega)) h6.2.2.1 h7, k_bars (fun j x q => ag j x (by have := d_bars q; omega)) h8, k_tell (fun j x q => ag j x (by have := d_tell q; omega)) h9, k_hold (fun j x q => ag j x (by have := d_hold q; omega)) h10, k_sheet (fun j x q => ag j x (by have := d_sheet q; omega)) h11⟩
