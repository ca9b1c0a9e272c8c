/-! PURE FACTS, 17: joined -/
theorem same_now {σ0 σ : Mem} (hs : SAME σ0 σ) : σ 14 = σ0 14 ∧ σ 15 = σ0 15 := ⟨same_card hs (by decide) (by decide), same_card hs (by decide) (by decide)⟩
theorem missG_same {σ0 σ : Mem} (hs : SAME σ0 σ) {c : Nat} (hc : c < 24) {t : Nat → Int} {s : Int} : ∀ k a, missG σ c t s k a = missG σ0 c t s k a := by
  have e1 := (same_now hs).1; have e2 := (same_now hs).2
  have e3 := same_card hs (j := 23 + 3 * c) (by omega) (by omega)
  have e4 := same_card hs (j := 25 + 3 * c) (by omega) (by omega)
  have o : ∀ m, oneF σ c t m = oneF σ0 c t m := by
    intro m; unfold oneF growF; rw [e1, e2, e3, e4]
  intro k
  induction k with
  | zero => intro a; rfl
  | succ k ih => intro a; unfold missG; rw [o, e4, ih, ih]
theorem missG_congr {σ : Mem} {c : Nat} {t u : Nat → Int} {s : Int} (h : ∀ m, m < 4 → t m = u m) : ∀ k a, k ≤ 4 → missG σ c t s k a = missG σ c u s k a := by
  intro k
  induction k with
  | zero => intro a _; rfl
  | succ k ih =>
    intro a hk
    have o : oneF σ c t (3 - k) = oneF σ c u (3 - k) := by unfold oneF; rw [h _ (by omega)]
    unfold missG
    rw [o, h _ (by omega), ih _ (by omega), ih _ (by omega)]
theorem sprF_same {σ0 σ : Mem} (hs : SAME σ0 σ) {c : Nat} (hc : c < 24) : sprF σ c = sprF σ0 c := by
  unfold sprF; rw [(same_now hs).2, same_card hs (j := 23 + 3 * c) (by omega) (by omega)]
theorem SAME.n {σ0 σ : Mem} (hs : SAME σ0 σ) : σ 16 2 = σ0 16 2 := hs 16 2 rfl
abbrev joinP (σ : Mem) (a b : Nat) : Prop := (¬ σ (23 + 3 * a) 5 = -4 ∧ ¬ σ (23 + 3 * b) 5 = -4 ∧ σ 147 (24 * a + b) = 0) ∧ ¬ missG σ b (σ (25 + 3 * a)) (sprF σ a + sprF σ b) 4 0 = -4 ∧ ¬ missG σ a (σ (25 + 3 * b)) (sprF σ a + sprF σ b) 4 0 = -4
theorem joinP_same {σ0 σ : Mem} (hs : SAME σ0 σ) {a b : Nat} (ha : a < 24) (hb : b < 24) : joinP σ a b ↔ joinP σ0 a b := by
  unfold joinP
  rw [missG_same hs ha, missG_same hs hb, sprF_same hs ha, sprF_same hs hb, same_card hs (j := 23 + 3 * a) (by omega) (by omega), same_card hs (j := 23 + 3 * b) (by omega) (by omega), same_card hs (j := 25 + 3 * a) (by omega) (by omega), same_card hs (j := 25 + 3 * b) (by omega) (by omega), hs 147 _ rfl]
theorem s_joined {σ : Mem} {p q : Int} {a b : Nat} {Q : Int → Mem → Prop} (hI : INVc σ) (hp : p = a) (hq : q = b) (hab : a ≠ b) (ha : (a : Int) < σ 16 2) (hb : (b : Int) < σ 16 2) (h : Q (if joinP σ a b then 1 else 0) σ) : v_X0_joined p q σ Q := by
  subst hp; subst hq
  have n24 := hI.c.2.2.1
  unfold v_X0_joined
  rw [Int.toNat_natCast, Int.toNat_natCast]
  refine ⟨by omega, by omega, by omega, by omega, ?_⟩
  rw [s_isOut]
  by_cases g1 : σ (23 + 3 * a) 5 = -4
  · rw [if_pos g1, if_neg (by decide)]; rw [if_neg (fun z => z.1.1 g1)] at h; exact h
  rw [if_neg g1, if_pos rfl, s_isOut]
  by_cases g2 : σ (23 + 3 * b) 5 = -4
  · rw [if_pos g2, if_neg (by decide)]; rw [if_neg (fun z => z.1.2.1 g2)] at h; exact h
  rw [if_neg g2, if_pos rfl]
  have bar : ∀ v, v = σ 147 (24 * a + b) → (v = 0 → (v_X1_spread a σ (fun r20 σ21 => v_X1_spread b σ21 (fun r23 σ24 => inR (r20 + r23) ∧ (v_X1_miss_c a b (r20 + r23) σ24 (fun r27 σ28 => if r27 = (-4) then (Q 0 σ28)
        else (v_X1_miss_c b a (r20 + r23) σ28 (fun r31 σ32 => if r31 = (-4) then (Q 0 σ32)
          else (Q 1 σ32))))))))) ∧ (v ≠ 0 → Q 0 σ) := by
    intro v hv
    constructor
    · intro v0
      refine s_spr hI.k ha (s_spr hI.k hb ?_)
      have r1 := sprF_rng hI.k ha
      have r2 := sprF_rng hI.k hb
      refine ⟨⟨by omega, by omega⟩, s_missC hI.k ha hb ?_⟩
      rw [if_neg g1]
      by_cases g3 : missG σ a (σ (25 + 3 * b)) (sprF σ a + sprF σ b) 4 0 = -4
      · rw [if_pos g3]; rw [if_neg (fun z => z.2.2 g3)] at h; exact h
      rw [if_neg g3]
      refine s_missC hI.k hb ha ?_
      rw [if_neg g2]
      by_cases g4 : missG σ b (σ (25 + 3 * a)) (sprF σ a + sprF σ b) 4 0 = -4
      · rw [if_pos g4]; rw [if_neg (fun z => z.2.1 g4)] at h; exact h
      rw [if_neg g4]
      rw [if_pos ⟨⟨g1, g2, by rw [← hv]; exact v0⟩, g4, g3⟩] at h; exact h
    · intro v0
      rw [if_neg (fun z => v0 (by rw [hv]; exact z.1.2.2))] at h; exact h
  have hB := hI.b.2
  rcases Nat.lt_or_gt_of_ne hab with z | z
  · obtain ⟨x1, x2, x3⟩ := hB a b z (by omega)
    refine s_isBar hI.b (Or.inl ⟨rfl, rfl⟩) z (by omega) ?_
    have B := bar (σ 18 (24 * a + b)) x2.symm
    by_cases y : σ 18 (24 * a + b) = 0
    · rw [if_pos y]; exact B.1 y
    · rw [if_neg y]; exact B.2 y
  · obtain ⟨x1, x2, x3⟩ := hB b a z (by omega)
    refine s_isBar hI.b (Or.inr ⟨rfl, rfl⟩) z (by omega) ?_
    have B := bar (σ 18 (24 * b + a)) x3.symm
    by_cases y : σ 18 (24 * b + a) = 0
    · rw [if_pos y]; exact B.1 y
    · rw [if_neg y]; exact B.2 y
theorem s_tryCard {σ : Mem} {p : Int} {a : Nat} {Q : Int → Mem → Prop} (hI : INV σ) (hp : p = a) (ha : (a : Int) < σ 16 2) (h : ∀ τ, SAME σ τ → (∀ m, m < 4 → τ 152 m = σ (25 + 3 * a) m) → τ 122 47 = sprF σ a → Q 0 τ) : v_X12_tryCard p σ Q := by
  subst hp
  have n24 := hI.c.2.2.1
  have am := (hI.c.2.2.2.2 a ha).2.2.2.2.2.2
  unfold v_X12_tryCard
  refine lp0 (l_X12_tryCard_2 a Q) (fun k τ => SAME σ τ ∧ ∀ m, m < k → τ 152 m = σ (25 + 3 * a) m) 4 σ ⟨SAME.rf, fun m hm => absurd hm (by omega)⟩ ?_ ?_
  · rintro n τ ⟨h1, h2⟩
    rw [l_X12_tryCard_2, if_neg (by decide)]
    refine s_mspr (inv_core h1 hI) rfl (by rw [h1.n]; exact ha) ?_
    refine h _ (h1.st rfl) (fun m hm => by rw [mset_ne (by decide)]; exact h2 m hm) ?_
    rw [mset_eq, sprF_same h1 (by omega)]
  · rintro n k τ hk ⟨h1, h2⟩ ih
    rw [l_X12_tryCard_2, if_pos (by omega), show (4 * (a : Int) + k).toNat = 4 * a + k by omega, Int.toNat_natCast]
    refine ⟨by omega, by omega, by omega, by omega, ⟨by omega, by omega⟩, ih _ ⟨h1.st rfl, fun m hm => ?_⟩⟩
    by_cases e : m = k
    · subst e; rw [mset_eq, h1 138 _ rfl]; exact (am m hk).2.1
    · rw [mset_nei e]; exact h2 m (by omega)
theorem s_doJoin {σ : Mem} {p q : Int} {a b : Nat} {Q : Int → Mem → Prop} (hI : INV σ) (hp : p = a) (hq : q = b) (ha : (a : Int) < σ 16 2) (hb : (b : Int) < σ 16 2) (h : ∀ τ, SAME σ τ → Q (if joinP σ a b then 1 else 0) τ) : v_X12_doJoin p q σ Q := by
  subst hp; subst hq
  have n24 := hI.c.2.2.1
  have xa := hI.c.2.2.2.2 a ha
  have xb := hI.c.2.2.2.2 b hb
  have ra := sprF_rng hI.k ha
  have rb := sprF_rng hI.k hb
  unfold v_X12_doJoin
  refine s_mOut rfl (by omega) ?_
  rw [xa.2.2.2.2.2.1.1]
  by_cases g1 : σ (23 + 3 * a) 5 = -4
  · rw [if_pos g1, if_neg (by decide)]; have h := h σ SAME.rf; rw [if_neg (fun z => z.1.1 g1)] at h; exact h
  rw [if_neg g1, if_pos rfl]
  refine s_mOut rfl (by omega) ?_
  rw [xb.2.2.2.2.2.1.1]
  by_cases g2 : σ (23 + 3 * b) 5 = -4
  · rw [if_pos g2, if_neg (by decide)]; have h := h σ SAME.rf; rw [if_neg (fun z => z.1.2.1 g2)] at h; exact h
  rw [if_neg g2, if_pos rfl, show (24 * (a : Int) + b).toNat = 24 * a + b by omega]
  refine ⟨by omega, by omega, ?_⟩
  by_cases g3 : σ 147 (24 * a + b) = 0
  · rw [if_pos g3]
    refine s_tryCard hI rfl ha (fun τ t1 t2 t3 => ?_)
    have tI := inv_core t1 hI
    refine s_missOf tI rfl (by rw [t1.n]; exact hb) (fun m hm => by rw [t2 m hm]; exact (xa.2.2.2.2.2.2 m hm).2.2) (by rw [t3]; exact ra) ?_
    have e1 : missG τ b (τ 152) (sprF τ b + τ 122 47) 4 0 = missG σ b (σ (25 + 3 * a)) (sprF σ a + sprF σ b) 4 0 := by
      rw [missG_same t1 (by omega), missG_congr t2 4 0 (by omega), t3, sprF_same t1 (by omega), Int.add_comm]
    rw [e1, same_card t1 (j := 23 + 3 * b) (by omega) (by omega), if_neg g2]
    unfold j_X12_doJoin_52
    refine s_tryCard tI rfl (by rw [t1.n]; exact hb) (fun ω w1 w2 w3 => ?_)
    have w0 := t1.tr w1
    by_cases g4 : missG σ b (σ (25 + 3 * a)) (sprF σ a + sprF σ b) 4 0 = -4
    · rw [if_pos g4, if_pos rfl]
      have h := h ω w0; rw [if_neg (fun z => z.2.1 g4)] at h; exact h
    · rw [if_neg g4, if_neg (by decide)]
      have wI := inv_core w0 hI
      have w2' : ∀ m, m < 4 → ω 152 m = σ (25 + 3 * b) m := fun m hm => by rw [w2 m hm, same_card t1 (j := 25 + 3 * b) (by omega) (by omega)]
      refine s_missOf wI rfl (by rw [w0.n]; exact ha) (fun m hm => by rw [w2' m hm]; exact (xb.2.2.2.2.2.2 m hm).2.2) (by rw [w3, sprF_same t1 (by omega)]; exact rb) ?_
      have e2 : missG ω a (ω 152) (sprF ω a + ω 122 47) 4 0 = missG σ a (σ (25 + 3 * b)) (sprF σ a + sprF σ b) 4 0 := by
        rw [missG_same w0 (by omega), missG_congr w2' 4 0 (by omega), w3, sprF_same w0 (by omega), sprF_same t1 (by omega)]
      rw [e2, same_card w0 (j := 23 + 3 * a) (by omega) (by omega), if_neg g1]
      have h := h ω w0
      by_cases g5 : missG σ a (σ (25 + 3 * b)) (sprF σ a + sprF σ b) 4 0 = -4
      · rw [if_pos g5]; rw [if_neg (fun z => z.2.2 g5)] at h; exact h
      · rw [if_neg g5]; rw [if_pos ⟨⟨g1, g2, g3⟩, g4, g5⟩] at h; exact h
  · rw [if_neg g3]; have h := h σ SAME.rf; rw [if_neg (fun z => g3 z.1.2.2)] at h; exact h
theorem f_join {σ : Mem} (hI : INV σ) (p q : Int) : v_X11_join p q σ (fun r1 σ1 => v_X12_join p q σ1 (fun r2 σ2 => r1 = r2 ∧ INV σ2)) := by
  unfold v_X11_join
  by_cases c : 0 ≤ p ∧ p < σ 16 2
  · rw [s_has_t c, if_neg (by decide)]
    by_cases c2 : 0 ≤ q ∧ q < σ 16 2
    · rw [s_has_t c2, if_neg (by decide)]
      by_cases c3 : p = q
      · rw [if_pos c3]
        unfold v_X12_join
        dsimp only
        refine s_isCard_t hI.n24 (by rw [hI.eqn]; omega) ?_
        rw [if_neg (by decide)]
        refine s_isCard_t hI.n24 (by rw [hI.eqn]; omega) ?_
        rw [if_neg (by decide), if_pos c3]
        exact ⟨rfl, hI⟩
      · rw [if_neg c3]
        refine s_joined (a := p.toNat) (b := q.toNat) hI.k (by omega) (by omega) (by omega) (by omega) (by omega) ?_
        rw [s_bit]
        unfold v_X12_join
        dsimp only
        refine s_isCard_t hI.n24 (by rw [hI.eqn]; omega) ?_
        rw [if_neg (by decide)]
        refine s_isCard_t hI.n24 (by rw [hI.eqn]; omega) ?_
        rw [if_neg (by decide), if_neg c3]
        refine s_doJoin (a := p.toNat) (b := q.toNat) hI (by omega) (by omega) (by omega) (by omega) (fun τ t => ?_)
        by_cases j : joinP σ p.toNat q.toNat
        · rw [if_pos j, if_neg (by decide), if_neg (by decide)]; exact ⟨rfl, inv_core t hI⟩
        · rw [if_neg j, if_pos rfl, if_pos rfl]; exact ⟨rfl, inv_core t hI⟩
    · rw [s_has_f c2, if_pos rfl]
      unfold v_X12_join
      dsimp only
      refine s_isCard_t hI.n24 (by rw [hI.eqn]; omega) ?_
      rw [if_neg (by decide)]
      refine s_isCard_f hI.n24 (by rw [hI.eqn]; omega) ?_
      rw [if_pos rfl]
      exact ⟨rfl, hI⟩
  · rw [s_has_f c, if_pos rfl]
    unfold v_X12_join
    dsimp only
    refine s_isCard_f hI.n24 (by rw [hI.eqn]; exact c) ?_
    rw [if_pos rfl]
    exact ⟨rfl, hI⟩
