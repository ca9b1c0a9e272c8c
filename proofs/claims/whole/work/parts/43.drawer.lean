/-! PURE FACTS, 14: grown, drawer, count -/
theorem f_grown {σ : Mem} (hI : INV σ) (p m d : Int) : v_X11_grown p m d σ (fun r1 σ1 => v_X12_grown p m d σ1 (fun r2 σ2 => r1 = r2 ∧ INV σ2)) := by
  unfold v_X11_grown
  by_cases c : 0 ≤ p ∧ p < σ 16 2
  · obtain ⟨i, rfl⟩ : ∃ i : Nat, p = i := ⟨p.toNat, by omega⟩
    have n24 := hI.c.2.2.1
    have a := hI.c.2.2.2.2 i c.2
    have hi : i < 24 := by omega
    rw [s_has_t c, if_neg (by decide)]
    by_cases c2 : 0 ≤ m ∧ m ≤ 3
    · obtain ⟨k, rfl⟩ : ∃ k : Nat, m = k := ⟨m.toNat, by omega⟩
      rw [s_isMeasure_t c2, if_neg (by decide)]
      have no : ¬ (σ (23 + 3 * i) 3 ≤ d ∧ d ≤ 9999) → v_X12_grown i k d σ (fun r2 σ2 => (-1 : Int) = r2 ∧ INV σ2) := by
        intro h
        unfold v_X12_grown
        refine s_isCard_t hI.n24 (by rw [hI.eqn]; omega) ?_
        rw [if_neg (by decide), s_in_t c2, if_neg (by decide), Int.toNat_natCast]
        refine ⟨by omega, by omega, ?_⟩
        rw [s_in_f (by rw [a.2.2.2.1.1]; exact h), if_pos rfl]; exact ⟨rfl, hI⟩
      by_cases c3 : 0 ≤ d ∧ d ≤ 9999
      · rw [s_isDay_t c3, if_neg (by decide), Int.toNat_natCast]
        refine ⟨by omega, by omega, ?_⟩
        by_cases c4 : d < σ (23 + 3 * i) 3
        · rw [if_pos c4]; exact no (by omega)
        · rw [if_neg c4]
          refine ⟨⟨by omega, by omega⟩, s_value hI.r.2.1 hI.r.2.2.1 (by omega) ?_⟩
          have rr := (ruleF_rng (d := d) hI.r (r := 14 + k) (by omega)).2.2.1 (by omega) (by omega)
          refine s_canM hI.k rfl c.2 (by omega) rr (by omega) ?_
          unfold v_X12_grown
          dsimp only
          refine s_isCard_t hI.n24 (by rw [hI.eqn]; omega) ?_
          rw [if_neg (by decide), s_in_t c2, if_neg (by decide), Int.toNat_natCast]
          refine ⟨by omega, by omega, ?_⟩
          rw [s_in_t (by rw [a.2.2.2.1.1]; omega), if_neg (by decide)]
          exact s_mgrown hI rfl rfl c.2 (by omega) (by omega) ⟨rfl, hI⟩
      · rw [s_isDay_f c3, if_pos rfl]
        exact no (by have := a.2.2.2.1.2.1; omega)
    · rw [s_isMeasure_f c2, if_pos rfl]
      unfold v_X12_grown
      dsimp only
      refine s_isCard_t hI.n24 (by rw [hI.eqn]; omega) ?_
      rw [if_neg (by decide), s_in_f c2, if_pos rfl]; exact ⟨rfl, hI⟩
  · rw [s_has_f c, if_pos rfl]
    unfold v_X12_grown
    dsimp only
    refine s_isCard_f hI.n24 (by rw [hI.eqn]; exact c) ?_
    rw [if_pos rfl]
    exact ⟨rfl, hI⟩
/-- the cards filed in a set of drawers -/
abbrev filP (σ : Mem) (w : Int) : Nat → Prop := fun c => ¬ σ (23 + 3 * c) 5 = -4 ∧ Bt w (σ (23 + 3 * c) 5).toNat = true
theorem s_filedIn {σ : Mem} {w : Int} {Q : Int → Mem → Prop} (hI : INV σ) (h : Q (orF (filP σ w) (σ 16 2).toNat) σ) : v_X0_filedIn w σ Q := by
  obtain ⟨a1, a2, a3, a4, a5⟩ := hI.c
  unfold v_X0_filedIn
  refine lp1a (l_X0_filedIn_4 w Q) (fun k a s => a = orF (filP σ w) k ∧ s = σ) (σ 16 2).toNat 0 σ ⟨rfl, rfl⟩ ?_ ?_
  · rintro n a b ⟨rfl, rfl⟩
    rw [l_X0_filedIn_4, if_neg (by omega)]; exact h
  · rintro n k a b hk ⟨ha, hb⟩ ih
    subst hb
    have x := a5 k (by omega)
    rw [l_X0_filedIn_4, if_pos (by omega), Int.toNat_natCast]
    refine ⟨by omega, by omega, ?_⟩
    rw [s_isOut]
    have e : orF (filP b w) (k + 1) = if filP b w k then ior a (ishl 1 k) else a := by rw [ha]; rfl
    by_cases g : b (23 + 3 * k) 5 = -4
    · rw [if_pos g, if_neg (by decide)]
      exact ⟨⟨by omega, by omega⟩, ih _ _ ⟨by rw [e, if_neg (fun z => z.1 g)], rfl⟩⟩
    · rw [if_neg g, if_pos rfl]
      have f : ∃ f : Nat, b (23 + 3 * k) 5 = f ∧ f < 27 := ⟨(b (23 + 3 * k) 5).toNat, by omega, by omega⟩
      obtain ⟨f, hf, hf2⟩ := f
      rw [hf, Bt_has _ (by omega)]
      by_cases q : Bt w f = true
      · rw [if_pos q, if_pos rfl]
        exact ⟨⟨by omega, by omega⟩, ih _ _ ⟨by rw [e, if_pos ⟨g, by rw [hf]; exact q⟩], rfl⟩⟩
      · rw [if_neg q, if_neg (by decide)]
        exact ⟨⟨by omega, by omega⟩, ih _ _ ⟨by rw [e, if_neg (fun z => q (by have := z.2; rw [hf] at this; exact this))], rfl⟩⟩
theorem s_elsewhere {σ : Mem} {w : Int} {Q : Int → Mem → Prop} (hI : INV σ) (h : Q (cntF (fun c => Bt w c = true ∧ ¬ σ (23 + 3 * c) 5 = cdrw σ c) (σ 16 2).toNat : Nat) σ) : v_X0_elsewhere w σ Q := by
  obtain ⟨a1, a2, a3, a4, a5⟩ := hI.c
  unfold v_X0_elsewhere
  refine lp1a (l_X0_elsewhere_4 w Q) (fun k a s => a = (cntF (fun c => Bt w c = true ∧ ¬ σ (23 + 3 * c) 5 = cdrw σ c) k : Nat) ∧ s = σ) (σ 16 2).toNat 0 σ ⟨rfl, rfl⟩ ?_ ?_
  · rintro n a b ⟨rfl, rfl⟩
    rw [l_X0_elsewhere_4, if_neg (by omega)]; exact h
  · rintro n k a b hk ⟨ha, hb⟩ ih
    subst hb
    rw [l_X0_elsewhere_4, if_pos (by omega), Int.toNat_natCast]
    refine ⟨by omega, by omega, s_drw_c ?_⟩
    have le := cntF_le (P := fun c => Bt w c = true ∧ ¬ b (23 + 3 * c) 5 = cdrw b c) k
    have e : cntF (fun c => Bt w c = true ∧ ¬ b (23 + 3 * c) 5 = cdrw b c) (k + 1) = cntF (fun c => Bt w c = true ∧ ¬ b (23 + 3 * c) 5 = cdrw b c) k + if Bt w k = true ∧ ¬ b (23 + 3 * k) 5 = cdrw b k then 1 else 0 := rfl
    show j_X0_elsewhere_45 w _ Q a k (if b (23 + 3 * k) 5 = cdrw b k then 0 else 1) b
    unfold j_X0_elsewhere_45 j_X0_elsewhere_67
    rw [s_bit, Bt_has _ (by omega)]
    have v : (if (if (if Bt w k = true then (1 : Int) else 0) = 1 then (if (if b (23 + 3 * k) 5 = cdrw b k then (0 : Int) else 1) = 0 then (0 : Int) else 1) else 0) = 0 then (0 : Int) else 1) = ((if Bt w k = true ∧ ¬ b (23 + 3 * k) 5 = cdrw b k then 1 else 0 : Nat) : Int) := by
      by_cases g : Bt w k = true
      · by_cases g2 : b (23 + 3 * k) 5 = cdrw b k
        · simp [g, g2]
        · simp [g, g2]
      · simp [g]
    rw [v]
    have l2 : (if Bt w k = true ∧ ¬ b (23 + 3 * k) 5 = cdrw b k then 1 else 0 : Nat) ≤ 1 := by split <;> omega
    refine ⟨⟨by omega, by omega⟩, ⟨by omega, by omega⟩, ih _ _ ⟨?_, rfl⟩⟩
    rw [e, ha]; omega
theorem f_drawer {σ : Mem} (hI : INV σ) (p k : Int) : v_X11_drawer p k σ (fun r1 σ1 => v_X12_drawer p k σ1 (fun r2 σ2 => r1 = r2 ∧ INV σ2)) := by
  obtain ⟨a1, a2, a3, a4, a5⟩ := hI.c
  unfold v_X11_drawer
  by_cases c : 0 ≤ p ∧ p ≤ 26
  · rw [if_neg (by omega), if_pos (by omega)]
    obtain ⟨d, rfl⟩ : ∃ d : Nat, p = d := ⟨p.toNat, by omega⟩
    by_cases c2 : 0 ≤ k ∧ k ≤ 2
    · rw [if_neg (by omega), if_neg (by omega)]
      refine s_filedIn hI ?_
      have eq : orF (filP σ (ishl 1 d)) (σ 16 2).toNat = orF (fun c => σ (23 + 3 * c) 5 = d) (σ 16 2).toNat := by
        refine orF_congr (fun x hx => ?_)
        have y := (a5 x (by omega)).2.2.2.2.2.1
        unfold filP
        constructor
        · rintro ⟨z1, z2⟩
          rw [Bt_shl1 (by omega) _ (by omega)] at z2
          simp at z2; omega
        · intro z
          refine ⟨by omega, ?_⟩
          rw [Bt_shl1 (by omega) _ (by omega)]
          simp; omega
      rw [eq]
      have model : ∀ v : Int, (v = if k = 0 then ((cntF (fun c => σ (23 + 3 * c) 5 = d) (σ 16 2).toNat : Nat) : Int) else if k = 1 then orF (fun c => σ (23 + 3 * c) 5 = d) (σ 16 2).toNat else ((cntF (fun c => σ (23 + 3 * c) 5 = d ∧ ¬ cdrw σ c = d) (σ 16 2).toNat : Nat) : Int)) → v_X12_drawer d k σ (fun r2 σ2 => v = r2 ∧ INV σ2) := by
        intro v hv
        unfold v_X12_drawer
        rw [s_in_t c, if_neg (by decide), s_in_t c2, if_neg (by decide)]
        refine lp3a (l_X12_drawer_37 d k _) (fun x n s e τ => τ = σ ∧ n = (cntF (fun c => σ (23 + 3 * c) 5 = d) x : Nat) ∧ s = orF (fun c => σ (23 + 3 * c) 5 = d) x ∧ e = (cntF (fun c => σ (23 + 3 * c) 5 = d ∧ ¬ cdrw σ c = d) x : Nat)) (σ 16 2).toNat 0 0 0 σ ⟨rfl, rfl, rfl, rfl⟩ ?_ ?_
        · rintro n x s e τ ⟨rfl, rfl, rfl, rfl⟩
          rw [l_X12_drawer_37, if_neg (by omega)]
          by_cases k0 : k = 0
          · rw [if_pos k0]; rw [if_pos k0] at hv; exact ⟨hv, hI⟩
          · rw [if_neg k0]; rw [if_neg k0] at hv
            by_cases k1 : k = 1
            · rw [if_pos k1]; rw [if_pos k1] at hv; exact ⟨hv, hI⟩
            · rw [if_neg k1]; rw [if_neg k1] at hv; exact ⟨hv, hI⟩
        · rintro n x m s e τ hx ⟨hτ, h1, h2, h3⟩ ih
          subst hτ
          have y := a5 x (by omega)
          have l1 := cntF_le (P := fun c => τ (23 + 3 * c) 5 = d) x
          have l2 := cntF_le (P := fun c => τ (23 + 3 * c) 5 = d ∧ ¬ cdrw τ c = d) x
          have e1 : cntF (fun c => τ (23 + 3 * c) 5 = d) (x + 1) = cntF (fun c => τ (23 + 3 * c) 5 = d) x + if τ (23 + 3 * x) 5 = d then 1 else 0 := rfl
          have e2 : orF (fun c => τ (23 + 3 * c) 5 = d) (x + 1) = if τ (23 + 3 * x) 5 = d then ior s (ishl 1 x) else s := by rw [h2]; rfl
          have e3 : cntF (fun c => τ (23 + 3 * c) 5 = d ∧ ¬ cdrw τ c = d) (x + 1) = cntF (fun c => τ (23 + 3 * c) 5 = d ∧ ¬ cdrw τ c = d) x + if τ (23 + 3 * x) 5 = d ∧ ¬ cdrw τ x = d then 1 else 0 := rfl
          rw [l_X12_drawer_37, if_pos (by omega), Int.toNat_natCast, y.2.2.2.2.2.1.1]
          refine ⟨by omega, by omega, ?_⟩
          by_cases g : τ (23 + 3 * x) 5 = d
          · rw [if_pos g]
            refine s_mdrwI hI rfl (by omega) ?_
            by_cases g2 : cdrw τ x = d
            · rw [if_pos g2]
              refine ⟨⟨by omega, by omega⟩, ⟨by omega, by omega⟩, ⟨by omega, by omega⟩, ih _ _ _ _ ⟨rfl, ?_, ?_, ?_⟩⟩
              · rw [e1, if_pos g]; omega
              · rw [e2, if_pos g]
              · rw [e3, if_neg (fun z => z.2 g2)]; omega
            · rw [if_neg g2]
              refine ⟨⟨by omega, by omega⟩, ⟨by omega, by omega⟩, ⟨by omega, by omega⟩, ih _ _ _ _ ⟨rfl, ?_, ?_, ?_⟩⟩
              · rw [e1, if_pos g]; omega
              · rw [e2, if_pos g]
              · rw [e3, if_pos ⟨g, g2⟩]; omega
          · rw [if_neg g]
            refine ⟨⟨by omega, by omega⟩, ih _ _ _ _ ⟨rfl, ?_, ?_, ?_⟩⟩
            · rw [e1, if_neg g]; omega
            · rw [e2, if_neg g]
            · rw [e3, if_neg (fun z => g z.1)]; omega
      by_cases k0 : k = 0
      · rw [if_pos k0]
        exact s_bitsF (by omega) (model _ (by rw [if_pos k0]))
      · rw [if_neg k0]
        by_cases k1 : k = 1
        · rw [if_pos k1]; exact model _ (by rw [if_neg k0, if_pos k1])
        · rw [if_neg k1]
          refine s_elsewhere hI (model _ ?_)
          rw [if_neg k0, if_neg k1]
          congr 1
          refine cntF_congr (fun x hx => ?_)
          rw [orF_Bt _ (by omega) x (by omega)]
          simp only [decide_eq_true_eq]
          constructor
          · rintro ⟨⟨z1, z2⟩, z3⟩; exact ⟨z2, fun z => z3 (by rw [z2, z])⟩
          · rintro ⟨z1, z2⟩; exact ⟨⟨hx, z1⟩, fun z => z2 (by rw [← z, z1])⟩
    · have no : v_X12_drawer d k σ (fun r2 σ2 => (-1 : Int) = r2 ∧ INV σ2) := by
        unfold v_X12_drawer
        rw [s_in_t c, if_neg (by decide), s_in_f c2, if_pos rfl]; exact ⟨rfl, hI⟩
      by_cases z : k < 0
      · rw [if_pos z]; exact no
      · rw [if_neg z, if_pos (by omega)]; exact no
  · have no : v_X12_drawer p k σ (fun r2 σ2 => (-1 : Int) = r2 ∧ INV σ2) := by
      unfold v_X12_drawer
      rw [s_in_f c, if_pos rfl]; exact ⟨rfl, hI⟩
    by_cases z : p < 0
    · rw [if_pos z]; exact no
    · rw [if_neg z, if_neg (by omega)]; exact no
