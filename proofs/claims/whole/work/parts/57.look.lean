/-! PURE FACTS, 26: look, beside -/
def mtk (σ ω : Mem) (p : Int) (q : Nat) : Prop := SAME σ ω ∧ q ≤ 27 ∧ stopQ σ p q ∧ ω 122 43 = q ∧ ω 122 45 = lkB σ q ∧ ∀ i, i < q → ω 151 i = hvF σ (lkB σ i)
theorem s_layLook {σ τ : Mem} {p : Int} {Q : Int → Mem → Prop} (hI : INVt σ) (ht : ¬ σ 95 0 = 0) (hp : 0 ≤ p ∧ p ≤ 999) (h0 : SAME σ τ) (h : ∀ ψ q, mtk σ ψ p q → Q 0 ψ) : v_X12_layLook p τ Q := by
  have wr := whF_rng hI ht
  have pw := pw_rng hI ht hp
  unfold v_X12_layLook
  refine s_layT hI ht h0 (fun ω hω => ?_)
  obtain ⟨q1, q2, q3⟩ := hω
  rw [q3 0 (by decide), q3 1 (by decide), q3 2 (by decide), wh_cast]
  refine ⟨⟨by omega, by omega⟩, ?_⟩
  have LL := lp1a (fun n a _ s => l_X12_layLook_39 p (whF σ 3 : Nat) Q n a s) (fun i a s => SAME σ s ∧ (∀ m t, m < 3 → t < 3 → s 149 (3 * m + t) = (thF σ m t : Nat)) ∧ a = lkL σ i ∧ (∀ j, j < i → p * (whF σ 3 : Nat) < lkL σ j * 1000) ∧ s 122 43 = i ∧ s 122 45 = lkB σ i ∧ ∀ j, j < i → s 151 j = hvF σ (lkB σ j)) 27 (whF σ 3 : Nat) (mset (mset ω 122 43 0) 122 45 0) ⟨(q1.st rfl).st rfl, fun m t hm ht2 => by rw [mset_ne (by decide), mset_ne (by decide)]; exact q2 m t hm ht2, rfl, fun j hj => absurd hj (by omega), by rw [mset_nei (by decide), mset_eq]; rfl, by rw [mset_eq]; rfl, fun j hj => absurd hj (by omega)⟩ ?_ ?_
  · exact LL
  · rintro n a s ⟨g1, g2, g4, g5, g6, g7, g8⟩
    try dsimp only
    subst g4
    have pos : ∀ j, j < 27 → 0 < lkL σ j := fun j hj => by have := g5 j hj; omega
    have li := lk_inv 27 pos
    have nn := lk_nn pos
    have z : ¬ 0 < lkL σ 27 := fun z => by have := (lk_hv pos z).1; omega
    rw [l_X12_layLook_39]
    refine ⟨⟨by omega, by omega⟩, ⟨by omega, by omega⟩, ?_⟩
    rw [if_neg (fun y => by rw [lcmp_gt] at y; omega)]
    exact h s 27 ⟨g1, Nat.le_refl _, ⟨g5, by omega⟩, g6, g7, g8⟩
  · rintro n i a s hi ⟨g1, g2, g4, g5, g6, g7, g8⟩ ih
    try dsimp only at ih ⊢
    subst g4
    have pos : ∀ j, j < i → 0 < lkL σ j := fun j hj => by have := g5 j hj; omega
    have li := lk_inv i pos
    have nn := lk_nn pos
    rw [l_X12_layLook_39]
    refine ⟨⟨by omega, by omega⟩, ⟨by omega, by omega⟩, ?_⟩
    by_cases c : p * (whF σ 3 : Nat) < lkL σ i * 1000
    · rw [if_pos (lcmp_gt.mpr (by omega))]
      have hv := lk_hv pos (by omega)
      refine lp1a (l_X12_layLook_60 p (whF σ 3 : Nat) (lkL σ i) (fun x4_ σ_ => l_X12_layLook_39 p (whF σ 3 : Nat) Q n x4_ σ_) Q) (fun k a w => w = s ∧ a = mB (bestF (fun d => ¬ Bt (lkB σ i) d = true) (fun d => ((wtF σ d : Nat) : Int)) k)) 27 (-4) s ⟨rfl, rfl⟩ ?_ ?_
      · rintro n2 a w ⟨rfl, ha⟩
        have e : a = hvF σ (lkB σ i) := by rw [ha]; show mB (hvF σ (lkB σ i)) = _; unfold mB; rw [if_neg (by omega)]
        obtain ⟨b, hb⟩ : ∃ b : Nat, hvF σ (lkB σ i) = b := ⟨(hvF σ (lkB σ i)).toNat, by omega⟩
        have wl := wtF_le hI ht b
        rw [l_X12_layLook_60, if_neg (by decide), g6, g7, e, Int.toNat_natCast]
        refine ⟨by omega, by omega, ⟨by omega, by omega⟩, ?_⟩
        refine s_chanceOf (σ := σ) (d := b) hI ht (fun m t hm ht2 => by rw [mset_ne (by decide), mset_ne (by decide), mset_ne (by decide)]; exact g2 m t hm ht2) hb (by omega) ?_
        have eL : lkL σ i - (wtF σ b : Nat) = lkL σ (i + 1) := by show _ = lkL σ i - ((wtF σ (hvF σ (lkB σ i)).toNat : Nat) : Int); rw [hb, Int.toNat_natCast]
        refine ⟨⟨by omega, by omega⟩, ?_⟩
        rw [eL]
        refine ih _ _ ⟨((g1.st rfl).st rfl).st rfl, fun m t hm ht2 => ?_, rfl, fun j hj => ?_, ?_, ?_, fun j hj => ?_⟩
        · rw [mset_ne (by decide), mset_ne (by decide), mset_ne (by decide)]; exact g2 m t hm ht2
        · by_cases y : j = i
          · subst y; exact c
          · exact g5 j (by omega)
        · rw [mset_nei (by decide), mset_eq]; rfl
        · rw [mset_eq]; rfl
        · rw [mset_ne (by decide), mset_ne (by decide)]
          by_cases y : j = i
          · subst y; rw [mset_eq]
          · rw [mset_nei y]; exact g8 j (by omega)
      · rintro n2 k a w hk ⟨hw, ha⟩ jh
        subst hw
        have rg := bestF_rng (P := fun d => ¬ Bt (lkB σ i) d = true) (fr := fun d => ((wtF σ d : Nat) : Int)) k
        generalize hB : bestF (fun d => ¬ Bt (lkB σ i) d = true) (fun d => ((wtF σ d : Nat) : Int)) k = B at ha rg
        have e : bestF (fun d => ¬ Bt (lkB σ i) d = true) (fun d => ((wtF σ d : Nat) : Int)) (k + 1) = if ¬ Bt (lkB σ i) k = true ∧ (B < 0 ∨ ((wtF σ B.toNat : Nat) : Int) < (wtF σ k : Nat)) then (k : Int) else B := by rw [← hB]; rfl
        have i1 : inR ((k : Int) + 1) := ⟨by omega, by omega⟩
        have mi : mB (k : Int) = k := by unfold mB; rw [if_neg (by omega)]
        rw [l_X12_layLook_60, if_pos (by omega), g7, Bt_has _ (by omega)]
        by_cases g : Bt (lkB σ i) k = true
        · rw [if_pos g, if_neg (by decide)]
          exact ⟨i1, jh _ _ ⟨rfl, by rw [e, if_neg (fun z => z.1 g)]; exact ha⟩⟩
        · rw [if_neg g, if_pos rfl]
          by_cases c4 : B < 0
          · have e4 : a = -4 := by rw [ha]; unfold mB; rw [if_pos c4]
            rw [if_pos e4]
            exact ⟨i1, jh _ _ ⟨rfl, by rw [e, if_pos ⟨g, Or.inl c4⟩, mi]⟩⟩
          · have e4 : a = B := by rw [ha]; unfold mB; rw [if_neg c4]
            rw [if_neg (by omega)]
            refine s_chanceOf (σ := σ) (d := k) hI ht g2 rfl hk (s_chanceOf (σ := σ) (d := B.toNat) hI ht g2 (by omega) (by omega) ?_)
            by_cases g3 : ((wtF σ B.toNat : Nat) : Int) < (wtF σ k : Nat)
            · rw [if_pos g3]
              exact ⟨i1, jh _ _ ⟨rfl, by rw [e, if_pos ⟨g, Or.inr g3⟩, mi]⟩⟩
            · rw [if_neg g3]
              exact ⟨i1, jh _ _ ⟨rfl, by rw [e, if_neg (fun z => by rcases z.2 with y | y <;> omega)]; exact ha⟩⟩
    · rw [if_neg (fun z => c (by have := lcmp_gt.mp z; omega))]
      exact h s i ⟨g1, by omega, ⟨g5, c⟩, g6, g7, g8⟩
theorem filP_same {σ τ : Mem} (hs : SAME σ τ) {w : Int} {n : Nat} (hn : n ≤ 24) : orF (filP τ w) n = orF (filP σ w) n ∧ cntF (filP τ w) n = cntF (filP σ w) n := by
  have e : ∀ k, k < n → (filP τ w k ↔ filP σ w k) := fun k hk => by unfold filP; rw [same_card hs (j := 23 + 3 * k) (by omega) (by omega)]
  exact ⟨orF_congr e, cntF_congr e⟩
theorem s_isLooked {τ : Mem} {c : Nat} {p B : Int} {Q : Int → Mem → Prop} (hI : INVc τ) (hB : τ 122 45 = B) (hp : p = c) (hc : (c : Int) < τ 16 2) (h : Q (if filP τ B c then 1 else 0) τ) : v_X12_isLooked p τ Q := by
  subst hp
  have n24 := hI.c.2.2.1
  have x := hI.c.2.2.2.2 c hc
  unfold v_X12_isLooked
  refine s_mOut rfl (by omega) ?_
  rw [x.2.2.2.2.2.1.1, hB]
  by_cases g : τ (23 + 3 * c) 5 = -4
  · rw [if_pos g, if_neg (by decide)]
    rw [if_neg (fun z => z.1 g)] at h; exact h
  · rw [if_neg g, if_pos rfl, Int.toNat_natCast, x.2.2.2.2.2.1.1]
    obtain ⟨f, hf, hf2⟩ : ∃ f : Nat, τ (23 + 3 * c) 5 = f ∧ f < 27 := ⟨(τ (23 + 3 * c) 5).toNat, by omega, by omega⟩
    rw [hf, Bt_has _ (by omega)]
    refine ⟨by omega, by omega, ?_⟩
    by_cases q : Bt B f = true
    · rw [if_pos q, if_pos rfl]
      rw [if_pos ⟨g, by rw [hf, Int.toNat_natCast]; exact q⟩] at h; exact h
    · rw [if_neg q, if_neg (by decide)]
      rw [if_neg (fun z => q (by have := z.2; rw [hf, Int.toNat_natCast] at this; exact this))] at h; exact h
abbrev lookV (p w : Int) : Prop := (0 ≤ p ∧ p ≤ 999) ∧ ((0 ≤ w ∧ w ≤ 2) ∨ (10 ≤ w ∧ w ≤ 36))
def lookA (σ : Mem) (w : Int) (q : Nat) : Int := if w = 0 then q else if w = 1 then lkB σ q else if w = 2 then (cntF (filP σ (lkB σ q)) (σ 16 2).toNat : Nat) else if w - 10 < q then hvF σ (lkB σ (w - 10).toNat) else -4
theorem a_look {σ : Mem} {p w : Int} {Q : Int → Mem → Prop} (hI : INV σ) (h1 : ¬ lookV p w → Q (-1) σ) (h2 : lookV p w → σ 95 0 = 0 → Q (-2) σ) (h3 : lookV p w → ¬ σ 95 0 = 0 → ∀ τ q, SAME σ τ → stopQ σ p q → q ≤ 27 → Q (lookA σ w q) τ) : v_X11_look p w σ Q := by
  have n24 := hI.c.2.2.1
  unfold v_X11_look j_X11_look_17
  by_cases c : 0 ≤ p ∧ p ≤ 999
  · rw [s_isShare_t c, if_neg (by decide)]
    have main : lookV p w → j_X11_look_40 p w Q (if w < 10 then 0 else (if w < 37 then 1 else 0)) σ := by
      intro hV
      unfold j_X11_look_40
      by_cases ht : σ 95 0 = 0
      · rw [if_pos ht]; exact h2 hV ht
      · rw [if_neg ht]
        refine s_weigh hI.kt ht (fun ω hω => s_take hI.kt ht c hω (fun ψ q hq => ?_))
        obtain ⟨k1, k2, k3, k4, k5, k6⟩ := hq
        have K := h3 hV ht ψ q k1 k3 k2
        unfold lookA at K
        rw [k4, k5]
        by_cases w0 : w = 0
        · subst w0
          exact K
        rw [if_neg w0] at K
        by_cases w1 : w = 1
        · subst w1
          exact K
        rw [if_neg w1] at K
        by_cases w2 : w = 2
        · subst w2
          rw [if_pos (by decide), if_neg (by decide), if_neg (by decide)]
          have fs := filP_same k1 (w := lkB σ q) (n := (σ 16 2).toNat) (by omega)
          refine s_filedIn (inv_core k1 hI) ?_
          rw [k1.n, fs.1]
          exact s_bitsF (by omega) K
        rw [if_neg w2] at K
        have hw : 10 ≤ w ∧ w ≤ 36 := by rcases hV.2 with z | z <;> omega
        rw [if_neg (show ¬ w < 10 by omega), if_pos (show w < 37 by omega), if_neg (by decide)]
        refine ⟨⟨by omega, by omega⟩, ?_⟩
        by_cases g : w - 10 < q
        · rw [if_pos g]; rw [if_pos g] at K
          rw [k6 _ (by omega)]
          exact ⟨by omega, by omega, K⟩
        · rw [if_neg g]; rw [if_neg g] at K; exact K
    by_cases z : 10 ≤ w ∧ w < 37
    · have M := main ⟨c, Or.inr (by omega)⟩
      rw [if_neg (show ¬ w < 10 by omega), if_pos z.2] at M ⊢
      rw [if_neg (by decide)]; exact M
    · have e : (if w < 10 then (0 : Int) else (if w < 37 then 1 else 0)) = 0 := by
        by_cases y : w < 10
        · rw [if_pos y]
        · rw [if_neg y, if_neg (by omega)]
      rw [e] at main ⊢
      rw [if_pos rfl]
      by_cases y : w < 0
      · rw [if_pos y]; exact h1 (fun x => by rcases x.2 with x | x <;> omega)
      · rw [if_neg y]
        by_cases y2 : 2 < w
        · rw [if_pos y2]; exact h1 (fun x => by rcases x.2 with x | x <;> omega)
        · rw [if_neg y2]; exact main ⟨c, Or.inl (by omega)⟩
  · rw [s_isShare_f c, if_pos rfl]; exact h1 (fun x => c x.1)
theorem b_look {σ τ : Mem} {p w : Int} {Q : Int → Mem → Prop} (hI : INV σ) (h0 : SAME σ τ) (h1 : ¬ lookV p w → Q (-1) τ) (h2 : lookV p w → σ 95 0 = 0 → Q (-2) τ) (h3 : lookV p w → ¬ σ 95 0 = 0 → ∀ ψ q, SAME σ ψ → stopQ σ p q → Q (lookA σ w q) ψ) : v_X12_look p w τ Q := by
  have n24 := hI.c.2.2.1
  have n0 := hI.c.2.1
  unfold v_X12_look
  by_cases c : 0 ≤ p ∧ p ≤ 999
  · rw [s_in_t c, if_neg (by decide)]
    have main : lookV p w → j_X12_look_40 p w Q τ := by
      intro hV
      unfold j_X12_look_40
      rw [h0 122 39 rfl]
      by_cases ht : σ 95 0 = 0
      · rw [if_pos (tellN hI.kt ht)]; exact h2 hV ht
      · have td := tellD hI.kt ht
        rw [if_neg (by omega)]
        refine s_layLook hI.kt ht c h0 (fun ψ q hq => ?_)
        obtain ⟨k1, k2, k3, k4, k5, k6⟩ := hq
        have K := h3 hV ht ψ q k1 k3
        have jI := inv_core k1 hI
        have en : ψ 122 24 = σ 16 2 := by rw [k1 122 24 rfl]; exact hI.eqn
        refine lp1a (l_X12_look_62 p w Q) (fun k a s => s = ψ ∧ a = (cntF (filP ψ (lkB σ q)) k : Nat)) (σ 16 2).toNat 0 ψ ⟨rfl, rfl⟩ ?_ ?_
        · rintro n a s ⟨rfl, rfl⟩
          have fs := filP_same k1 (w := lkB σ q) (n := (σ 16 2).toNat) (by omega)
          rw [l_X12_look_62, if_neg (by omega), k4, k5, fs.2]
          unfold lookA at K
          by_cases w0 : w = 0
          · rw [if_pos w0] at K ⊢; exact K
          rw [if_neg w0] at K ⊢
          by_cases w1 : w = 1
          · rw [if_pos w1] at K ⊢; exact K
          rw [if_neg w1] at K ⊢
          by_cases w2 : w = 2
          · rw [if_pos w2] at K ⊢; exact K
          rw [if_neg w2] at K ⊢
          have hw : 10 ≤ w ∧ w ≤ 36 := by rcases hV.2 with z | z <;> omega
          refine ⟨⟨by omega, by omega⟩, ?_⟩
          by_cases g : w - 10 < q
          · rw [if_pos g]; rw [if_pos g] at K
            rw [k6 _ (by omega)]
            exact ⟨by omega, by omega, K⟩
          · rw [if_neg g]; rw [if_neg g] at K; exact K
        · rintro n k a s hk ⟨hs, ha⟩ ih
          subst hs
          have le := cntF_le (P := filP s (lkB σ q)) k
          have st := cnt_step (filP s (lkB σ q)) k
          rw [l_X12_look_62, if_pos (by omega)]
          refine s_isLooked jI.k k5 rfl (by rw [k1.n]; omega) ?_
          by_cases g : filP s (lkB σ q) k
          · rw [if_pos g, if_neg (by decide)]
            rw [if_pos g] at st
            exact ⟨⟨by omega, by omega⟩, ⟨by omega, by omega⟩, ih _ _ ⟨rfl, by omega⟩⟩
          · rw [if_neg g, if_pos rfl]
            rw [if_neg g] at st
            exact ⟨⟨by omega, by omega⟩, ⟨by omega, by omega⟩, ih _ _ ⟨rfl, by omega⟩⟩
    by_cases z : 0 ≤ w ∧ w ≤ 2
    · rw [s_in_t z, if_neg (by decide)]; exact main ⟨c, Or.inl z⟩
    · rw [s_in_f z, if_pos rfl]
      by_cases y : 10 ≤ w ∧ w ≤ 36
      · rw [s_in_t y, if_neg (by decide)]; exact main ⟨c, Or.inr y⟩
      · rw [s_in_f y, if_pos rfl]; exact h1 (fun x => by rcases x.2 with x | x; exact z x; exact y x)
  · rw [s_in_f c, if_pos rfl]; exact h1 (fun x => c x.1)
theorem f_look {σ : Mem} (hI : INV σ) (p w : Int) : v_X11_look p w σ (fun r1 σ1 => v_X12_look p w σ1 (fun r2 σ2 => r1 = r2 ∧ INV σ2)) := by
  refine a_look hI (fun c => b_look hI SAME.rf (fun _ => ⟨rfl, hI⟩) (fun z _ => absurd z c) (fun z _ => absurd z c)) (fun c ht => b_look hI SAME.rf (fun z => absurd c z) (fun _ _ => ⟨rfl, hI⟩) (fun _ z => absurd ht z)) (fun c ht τ q hs hq _ => b_look hI hs (fun z => absurd c z) (fun _ z => absurd z ht) (fun _ _ ψ r k1 k2 => ⟨by rw [stop_uni hq k2], inv_core k1 hI⟩))
