/-! PURE FACTS, 27: beside -/
theorem s_tryT2 {σ : Mem} {Q : Int → Mem → Prop} (hI : INVt σ) (ht : ¬ σ 95 0 = 0) (h : ∀ τ, trT σ τ → τ 122 45 = σ 122 45 → Q 0 τ) : v_X12_tryTelling σ Q := by
  obtain ⟨t1, t2, t3, t4⟩ := tellD hI ht
  unfold v_X12_tryTelling
  refine lp0 (l_X12_tryTelling_2 Q) (fun k τ => SAME σ τ ∧ τ 122 45 = σ 122 45 ∧ ∀ m, m < k → τ 152 m = σ 96 m) 4 σ ⟨SAME.rf, rfl, fun m hm => absurd hm (by omega)⟩ ?_ ?_
  · rintro n τ ⟨h1, h3, h2⟩
    have jI := invt_core h1 hI
    rw [l_X12_tryTelling_2, if_neg (by decide), h1 122 39 rfl, t1]
    refine s_mspread jI.r (by omega) ?_
    have e : ruleF τ (8 + σ 95 1) (τ 122 0) = σ 15 (8 + σ 95 1).toNat := by
      rw [show (8 : Int) + σ 95 1 = (((8 + σ 95 1).toNat : Nat) : Int) by omega, now_r jI.n _ (by omega), (same_now h1).2, Int.toNat_natCast]
    rw [e]
    exact h _ ⟨h1.st rfl, fun m hm => by rw [mset_ne (by decide)]; exact h2 m hm, by rw [mset_eq]⟩ (by rw [mset_nei (by decide)]; exact h3)
  · rintro n k τ hk ⟨h1, h3, h2⟩ ih
    rw [l_X12_tryTelling_2, if_pos (by omega), Int.toNat_natCast]
    refine ⟨by omega, by omega, ⟨by omega, by omega⟩, ih _ ⟨h1.st rfl, by rw [mset_ne (by decide)]; exact h3, fun m hm => ?_⟩⟩
    by_cases e : m = k
    · subst e; rw [mset_eq, h1 148 _ rfl]; exact (t4 m hk).1
    · rw [mset_nei e]; exact h2 m (by omega)
theorem s_matches2 {σ : Mem} {Q : Int → Mem → Prop} (hI : INVt σ) (ht : ¬ σ 95 0 = 0) (h : ∀ τ, trT σ τ → τ 122 45 = σ 122 45 → Q (orF (matP σ) (σ 16 2).toNat) τ) : v_X12_matches σ Q := by
  have n24 := hI.c.2.2.1
  have n0 := hI.c.2.1
  unfold v_X12_matches
  refine s_tryT2 hI ht (fun τ hτ h45 => ?_)
  have en : τ 122 24 = σ 16 2 := by rw [hτ.1 122 24 rfl]; exact hI.k.eqn
  refine lp1a (l_X12_matches_8 Q) (fun k x ω => ω = τ ∧ x = orF (matP σ) k) (σ 16 2).toNat 0 τ ⟨rfl, rfl⟩ ?_ ?_
  · rintro n x ω ⟨rfl, rfl⟩
    rw [l_X12_matches_8, if_neg (by omega)]; exact h ω hτ h45
  · rintro n k x ω hk ⟨hω, hx⟩ ih
    subst hω
    have xr : inR x := by rw [hx]; exact orF_rng _
    rw [l_X12_matches_8, if_pos (by omega)]
    refine s_missTT hI ht hτ rfl (by omega) ?_
    have so : orF (matP σ) (k + 1) = if matP σ k then ior (orF (matP σ) k) (ishl 1 k) else orF (matP σ) k := rfl
    by_cases g : missT σ k = -4
    · rw [if_pos g, ior_0 xr]
      exact ⟨⟨by omega, by omega⟩, ih _ _ ⟨rfl, by rw [so, if_neg (fun z => z g)]; exact hx⟩⟩
    · rw [if_neg g]
      exact ⟨⟨by omega, by omega⟩, ih _ _ ⟨rfl, by rw [so, if_pos g, hx]⟩⟩
theorem iand_orF {P M : Nat → Prop} [DecidablePred P] [DecidablePred M] {n : Nat} (hn : n ≤ 32) : iand (orF P n) (orF M n) = orF (fun c => P c ∧ M c) n := by
  refine Bt_ext (iand_rng _ _) (orF_rng n) (fun k hk => ?_)
  rw [Bt_and, orF_Bt n hn k hk, orF_Bt n hn k hk, orF_Bt n hn k hk]
  by_cases a : k < n <;> by_cases b : P k <;> by_cases c : M k <;> simp [a, b, c]
abbrev prP (σ : Mem) (ones : Int) : Nat → Prop := fun c => ¬ σ (23 + 3 * c) 5 = -4 ∧ ((bitsN (σ (23 + 3 * c) 2).toNat 32 : Nat) : Int) = ones
theorem prP_same {σ τ : Mem} (hs : SAME σ τ) {o : Int} {k : Nat} (hk : k < 24) : prP τ o k ↔ prP σ o k := by unfold prP; rw [same_card hs (j := 23 + 3 * k) (by omega) (by omega)]
theorem filP_sm {σ τ : Mem} (hs : SAME σ τ) {w : Int} {k : Nat} (hk : k < 24) : filP τ w k ↔ filP σ w k := by unfold filP; rw [same_card hs (j := 23 + 3 * k) (by omega) (by omega)]
theorem matP_sm {σ τ : Mem} (hs : SAME σ τ) {k : Nat} (hk : k < 24) : matP τ k ↔ matP σ k := by unfold matP; rw [missT_same hs hk]
theorem s_printed {σ : Mem} {p : Int} {Q : Int → Mem → Prop} (hI : INV σ) (h : Q (orF (prP σ p) (σ 16 2).toNat) σ) : v_X0_printed p σ Q := by
  obtain ⟨a1, a2, a3, a4, a5⟩ := hI.c
  unfold v_X0_printed
  refine lp1a (l_X0_printed_4 p Q) (fun k a s => s = σ ∧ a = orF (prP σ p) k) (σ 16 2).toNat 0 σ ⟨rfl, rfl⟩ ?_ ?_
  · rintro n a s ⟨rfl, rfl⟩
    rw [l_X0_printed_4, if_neg (by omega)]; exact h
  · rintro n k a s hk ⟨hs, ha⟩ ih
    subst hs
    have x := a5 k (by omega)
    have e : orF (prP s p) (k + 1) = if prP s p k then ior a (ishl 1 k) else a := by rw [ha]; rfl
    have i1 : inR ((k : Int) + 1) := ⟨by omega, by omega⟩
    rw [l_X0_printed_4, if_pos (by omega), Int.toNat_natCast]
    refine ⟨by omega, by omega, ?_⟩
    rw [s_isOut]
    by_cases g : s (23 + 3 * k) 5 = -4
    · rw [if_pos g, if_neg (by decide)]
      exact ⟨i1, ih _ _ ⟨rfl, by rw [e, if_neg (fun z => z.1 g)]⟩⟩
    · rw [if_neg g, if_pos rfl]
      have ep : s (23 + 3 * k) 2 = (((s (23 + 3 * k) 2).toNat : Nat) : Int) := by omega
      have bp : v_J6_bitCount_0f7a4 (((s (23 + 3 * k) 2).toNat : Nat) : Int) s (fun r14 σ15 => if r14 = p then (inR ((k : Int) + 1) ∧ l_X0_printed_4 p Q n (ior a (ishl 1 k)) (k + 1) σ15) else (inR ((k : Int) + 1) ∧ l_X0_printed_4 p Q n a (k + 1) σ15)) := by
        refine s_bits (by omega) ?_
        by_cases y : ((bitsN (s (23 + 3 * k) 2).toNat 32 : Nat) : Int) = p
        · rw [if_pos y]; exact ⟨i1, ih _ _ ⟨rfl, by rw [e, if_pos ⟨g, y⟩]⟩⟩
        · rw [if_neg y]; exact ⟨i1, ih _ _ ⟨rfl, by rw [e, if_neg (fun z => y z.2)]⟩⟩
      rw [← ep] at bp
      exact bp
abbrev besV (o p w : Int) : Prop := (0 ≤ o ∧ o ≤ 10) ∧ (0 ≤ p ∧ p ≤ 999) ∧ (0 ≤ w ∧ w ≤ 3)
abbrev besP (σ : Mem) (o w : Int) (q : Nat) : Nat → Prop := fun c => (if w = 0 ∨ w = 2 then filP σ (lkB σ q) c else prP σ o c) ∧ (w < 2 ∨ matP σ c)
theorem a_beside {σ : Mem} {o p w : Int} {Q : Int → Mem → Prop} (hI : INV σ) (h1 : ¬ besV o p w → Q (-1) σ) (h2 : besV o p w → σ 95 0 = 0 → Q (-2) σ) (h3 : besV o p w → ¬ σ 95 0 = 0 → ∀ τ, SAME σ τ → ∀ q : Nat, (w = 0 ∨ w = 2 → stopQ σ p q) → Q (cntF (besP σ o w q) (σ 16 2).toNat : Nat) τ) : v_X11_beside o p w σ Q := by
  have n24 := hI.c.2.2.1
  unfold v_X11_beside
  by_cases c1 : 0 ≤ o ∧ o ≤ 10
  rotate_left
  · by_cases z : o < 0
    · rw [if_pos z]; exact h1 (fun x => c1 x.1)
    · rw [if_neg z, if_pos (by omega)]; exact h1 (fun x => c1 x.1)
  rw [if_neg (by omega), if_neg (by omega)]
  by_cases c2 : 0 ≤ p ∧ p ≤ 999
  rotate_left
  · rw [s_isShare_f c2, if_pos rfl]; exact h1 (fun x => c2 x.2.1)
  rw [s_isShare_t c2, if_neg (by decide)]
  by_cases c3 : 0 ≤ w ∧ w ≤ 3
  rotate_left
  · by_cases z : w < 0
    · rw [if_pos z]; exact h1 (fun x => c3 x.2.2)
    · rw [if_neg z, if_pos (by omega)]; exact h1 (fun x => c3 x.2.2)
  rw [if_neg (by omega), if_neg (by omega)]
  have V : besV o p w := ⟨c1, c2, c3⟩
  by_cases ht : σ 95 0 = 0
  · rw [if_pos ht]; exact h2 V ht
  rw [if_neg ht]
  -- behind the set
  have rest : ∀ (ψ : Mem) (P : Nat → Prop) [DecidablePred P] (q : Nat), SAME σ ψ → (w = 0 ∨ w = 2 → stopQ σ p q) → (∀ k, k < 24 → (besP σ o w q k ↔ (P k ∧ (w < 2 ∨ matP σ k)))) → j_X11_beside_102 o p w Q (orF P (σ 16 2).toNat) ψ := by
    intro ψ P _ q hs hq hP
    have K := fun τ hτ => h3 V ht τ hτ q hq
    unfold j_X11_beside_102 j_X11_beside_130
    by_cases w2 : w < 2
    · rw [if_pos w2]
      refine s_bitsF (by omega) ?_
      have e : cntF P (σ 16 2).toNat = cntF (besP σ o w q) (σ 16 2).toNat := cntF_congr (fun k hk => by rw [hP k (by omega)]; exact ⟨fun z => ⟨z, Or.inl w2⟩, fun z => z.1⟩)
      rw [e]; exact K ψ hs
    · rw [if_neg w2]
      have jI := inv_core hs hI
      have kt : ¬ ψ 95 0 = 0 := by rw [hs 95 0 rfl]; exact ht
      refine s_findM jI kt (fun τ t1 t2 t3 t4 t5 => ?_)
      have ms := matP_same hs (n := (σ 16 2).toNat) (by omega)
      rw [t3, hs.n, ms.1, iand_orF (by omega)]
      refine s_bitsF (by omega) ?_
      have e : cntF (fun c => P c ∧ matP σ c) (σ 16 2).toNat = cntF (besP σ o w q) (σ 16 2).toNat := cntF_congr (fun k hk => by rw [hP k (by omega)]; exact ⟨fun z => ⟨z.1, Or.inr z.2⟩, fun z => ⟨z.1, by rcases z.2 with y | y; exact absurd y w2; exact y⟩⟩)
      rw [e]; exact K τ (hs.tr t1)
  have looked : w = 0 ∨ w = 2 → j_X11_beside_50 o p w Q σ := by
    intro hw
    unfold j_X11_beside_50
    refine s_weigh hI.kt ht (fun ω hω => s_take hI.kt ht c2 hω (fun ψ q hq => ?_))
    obtain ⟨k1, k2, k3, k4, k5, k6⟩ := hq
    have fs := filP_same k1 (w := lkB σ q) (n := (σ 16 2).toNat) (by omega)
    rw [k5]
    refine s_filedIn (inv_core k1 hI) ?_
    rw [k1.n, fs.1]
    refine rest ψ (filP σ (lkB σ q)) q k1 (fun _ => k3) (fun k hk => ?_)
    unfold besP
    rw [if_pos hw]
  by_cases w0 : w = 0
  · rw [if_pos w0]; exact looked (Or.inl w0)
  rw [if_neg w0]
  by_cases w2 : w = 2
  · rw [if_pos w2]; exact looked (Or.inr w2)
  rw [if_neg w2]
  refine s_printed hI ?_
  refine rest σ (prP σ o) 0 SAME.rf (fun z => by rcases z with z | z; exact absurd z w0; exact absurd z w2) (fun k hk => ?_)
  unfold besP
  rw [if_neg (fun z => by rcases z with z | z; exact absurd z w0; exact absurd z w2)]
theorem b_beside {σ τ : Mem} {o p w : Int} {Q : Int → Mem → Prop} (hI : INV σ) (h0 : SAME σ τ) (h1 : ¬ besV o p w → Q (-1) τ) (h2 : besV o p w → σ 95 0 = 0 → Q (-2) τ) (h3 : besV o p w → ¬ σ 95 0 = 0 → ∀ ψ q, SAME σ ψ → stopQ σ p q → Q (cntF (besP σ o w q) (σ 16 2).toNat : Nat) ψ) : v_X12_beside o p w τ Q := by
  have n24 := hI.c.2.2.1
  have n0 := hI.c.2.1
  unfold v_X12_beside
  by_cases c1 : 0 ≤ o ∧ o ≤ 10
  rotate_left
  · rw [s_in_f c1, if_pos rfl]; exact h1 (fun x => c1 x.1)
  rw [s_in_t c1, if_neg (by decide)]
  by_cases c2 : 0 ≤ p ∧ p ≤ 999
  rotate_left
  · rw [s_in_f c2, if_pos rfl]; exact h1 (fun x => c2 x.2.1)
  rw [s_in_t c2, if_neg (by decide)]
  by_cases c3 : 0 ≤ w ∧ w ≤ 3
  rotate_left
  · rw [s_in_f c3, if_pos rfl]; exact h1 (fun x => c3 x.2.2)
  rw [s_in_t c3, if_neg (by decide), h0 122 39 rfl]
  have V : besV o p w := ⟨c1, c2, c3⟩
  by_cases ht : σ 95 0 = 0
  · rw [if_pos (tellN hI.kt ht)]; exact h2 V ht
  have td := tellD hI.kt ht
  rw [if_neg (by omega)]
  refine s_layLook hI.kt ht c2 h0 (fun ψ q hq => ?_)
  obtain ⟨k1, k2, k3, k4, k5, k6⟩ := hq
  have jI := inv_core k1 hI
  have kt : ¬ ψ 95 0 = 0 := by rw [k1 95 0 rfl]; exact ht
  refine s_matches2 jI.kt kt (fun ω hω h45 => ?_)
  have wI := inv_core hω.1 jI
  have s1 : SAME σ ω := k1.tr hω.1
  have en : ω 122 24 = σ 16 2 := by rw [s1 122 24 rfl]; exact hI.eqn
  have w45 : ω 122 45 = lkB σ q := by rw [h45]; exact k5
  have ms := matP_same k1 (n := (σ 16 2).toNat) (by omega)
  rw [k1.n, ms.1]
  refine lp1a (l_X12_beside_67 o p w (orF (matP σ) (σ 16 2).toNat) Q) (fun k a s => s = ω ∧ a = (cntF (besP σ o w q) k : Nat)) (σ 16 2).toNat 0 ω ⟨rfl, rfl⟩ ?_ ?_
  · rintro n a s ⟨rfl, rfl⟩
    rw [l_X12_beside_67, if_neg (by omega)]
    exact h3 V ht s q s1 k3
  · rintro n k a s hk ⟨hs, ha⟩ ih
    subst hs
    have le := cntF_le (P := besP σ o w q) k
    have st := cnt_step (besP σ o w q) k
    have x := wI.c.2.2.2.2 k (by rw [s1.n]; omega)
    have no : ¬ besP σ o w q k → j_X12_beside_148 o p w (fun x5_ x6_ σ_ => l_X12_beside_67 o p w (orF (matP σ) (σ 16 2).toNat) Q n x5_ x6_ σ_) Q (orF (matP σ) (σ 16 2).toNat) k a s := by
      intro z
      rw [if_neg z] at st
      exact ⟨⟨by omega, by omega⟩, ⟨by omega, by omega⟩, ih _ _ ⟨rfl, by omega⟩⟩
    have yes : besP σ o w q k → j_X12_beside_144 o p w (fun x5_ x6_ σ_ => l_X12_beside_67 o p w (orF (matP σ) (σ 16 2).toNat) Q n x5_ x6_ σ_) Q (orF (matP σ) (σ 16 2).toNat) k a s := by
      intro z
      rw [if_pos z] at st
      exact ⟨⟨by omega, by omega⟩, ⟨by omega, by omega⟩, ih _ _ ⟨rfl, by omega⟩⟩
    have fin : ∀ (s0 : Int) (P : Prop), (s0 = 0 ↔ ¬ P) → (besP σ o w q k ↔ (P ∧ (w < 2 ∨ matP σ k))) → j_X12_beside_119 o p w (fun x5_ x6_ σ_ => l_X12_beside_67 o p w (orF (matP σ) (σ 16 2).toNat) Q n x5_ x6_ σ_) Q (orF (matP σ) (σ 16 2).toNat) a k s0 s := by
      intro s0 P e1 e2
      unfold j_X12_beside_119
      by_cases z : s0 = 0
      · rw [if_pos z]; exact no (fun y => e1.mp z (e2.mp y).1)
      · rw [if_neg z]
        have hP : P := Classical.byContradiction (fun y => z (e1.mpr y))
        by_cases y : w < 2
        · rw [if_pos y]; exact yes (e2.mpr ⟨hP, Or.inl y⟩)
        · rw [if_neg y, Bt_has _ (by omega), orF_Bt _ (by omega) k (by omega)]
          by_cases m : matP σ k
          · have d : decide (k < (σ 16 2).toNat ∧ matP σ k) = true := by
              rw [decide_eq_true_eq]; exact ⟨hk, m⟩
            rw [d, if_pos rfl, if_pos rfl]; exact yes (e2.mpr ⟨hP, Or.inr m⟩)
          · have d : decide (k < (σ 16 2).toNat ∧ matP σ k) = false := by
              rw [decide_eq_false_iff_not]; exact fun v => m v.2
            rw [d, if_neg (by decide)]
            exact no (fun v => by rcases (e2.mp v).2 with u | u; exact y u; exact m u)
    have k24 : k < 24 := by omega
    have w4 : w = 0 ∨ w = 1 ∨ w = 2 ∨ w = 3 := by omega
    have odd : (w = 1 ∨ w = 3) → v_X12_isOut k s (fun r6 σ7 => if r6 = 0 then (0 ≤ (k : Int) ∧ (k : Int) < 24 ∧ (v_X12_onesOf (σ7 140 (k : Int).toNat) σ7 (fun r13 σ14 => j_X12_beside_119 o p w (fun x5_ x6_ σ_ => l_X12_beside_67 o p w (orF (matP σ) (σ 16 2).toNat) Q n x5_ x6_ σ_) Q (orF (matP σ) (σ 16 2).toNat) a k (if r13 = o then 1 else 0) σ14))) else (j_X12_beside_119 o p w (fun x5_ x6_ σ_ => l_X12_beside_67 o p w (orF (matP σ) (σ 16 2).toNat) Q n x5_ x6_ σ_) Q (orF (matP σ) (σ 16 2).toNat) a k 0 σ7)) := by
      intro hw
      have nw : ¬ (w = 0 ∨ w = 2) := by omega
      have bE : besP σ o w q k ↔ (prP s o k ∧ (w < 2 ∨ matP σ k)) := by
        unfold besP
        rw [if_neg nw, prP_same s1 k24]
      refine s_mOut rfl k24 ?_
      rw [x.2.2.2.2.2.1.1]
      by_cases g : s (23 + 3 * k) 5 = -4
      · rw [if_pos g, if_neg (by decide)]
        exact fin 0 (prP s o k) ⟨fun _ z => z.1 g, fun _ => rfl⟩ bE
      · rw [if_neg g, if_pos rfl, Int.toNat_natCast, x.2.2.1.1]
        refine ⟨by omega, by omega, ?_⟩
        unfold v_X12_onesOf
        have ep : s (23 + 3 * k) 2 = (((s (23 + 3 * k) 2).toNat : Nat) : Int) := by omega
        have bp : v_X12_sizeOf (((s (23 + 3 * k) 2).toNat : Nat) : Int) s (fun r13 σ14 => j_X12_beside_119 o p w (fun x5_ x6_ σ_ => l_X12_beside_67 o p w (orF (matP σ) (σ 16 2).toNat) Q n x5_ x6_ σ_) Q (orF (matP σ) (σ 16 2).toNat) a k (if r13 = o then 1 else 0) σ14) := by
          refine s_size (by omega) ?_
          refine fin _ (prP s o k) ?_ bE
          by_cases y : ((bitsN (s (23 + 3 * k) 2).toNat 32 : Nat) : Int) = o
          · rw [if_pos y]; exact ⟨fun z => absurd z (by decide), fun z => absurd ⟨g, y⟩ z⟩
          · rw [if_neg y]; exact ⟨fun _ z => y z.2, fun _ => rfl⟩
        rw [← ep] at bp
        exact bp
    have even : (w = 0 ∨ w = 2) → v_X12_isLooked k s (fun r17 σ18 => j_X12_beside_119 o p w (fun x5_ x6_ σ_ => l_X12_beside_67 o p w (orF (matP σ) (σ 16 2).toNat) Q n x5_ x6_ σ_) Q (orF (matP σ) (σ 16 2).toNat) a k r17 σ18) := by
      intro hw
      refine s_isLooked wI.k w45 rfl (by rw [s1.n]; omega) ?_
      refine fin _ (filP s (lkB σ q) k) ?_ ?_
      · by_cases y : filP s (lkB σ q) k
        · rw [if_pos y]; exact ⟨fun z => absurd z (by decide), fun z => absurd y z⟩
        · rw [if_neg y]; exact ⟨fun _ => y, fun _ => rfl⟩
      · unfold besP
        rw [if_pos hw, filP_sm s1 k24]
    rw [l_X12_beside_67, if_pos (by omega)]
    rcases w4 with rfl | rfl | rfl | rfl
    · exact ⟨by decide, even (Or.inl rfl)⟩
    · exact ⟨by decide, odd (Or.inl rfl)⟩
    · exact ⟨by decide, even (Or.inr rfl)⟩
    · exact ⟨by decide, odd (Or.inr rfl)⟩
theorem f_beside {σ : Mem} (hI : INV σ) (o p w : Int) : v_X11_beside o p w σ (fun r1 σ1 => v_X12_beside o p w σ1 (fun r2 σ2 => r1 = r2 ∧ INV σ2)) := by
  refine a_beside hI (fun c => b_beside hI SAME.rf (fun _ => ⟨rfl, hI⟩) (fun z _ => absurd z c) (fun z _ => absurd z c)) (fun c ht => b_beside hI SAME.rf (fun z => absurd c z) (fun _ _ => ⟨rfl, hI⟩) (fun _ z => absurd ht z)) (fun c ht τ hs q hq => b_beside hI hs (fun z => absurd c z) (fun _ z => absurd z ht) (fun _ _ ψ r k1 k2 => ⟨?_, inv_core k1 hI⟩))
  congr 1
  refine cntF_congr (fun k hk => ?_)
  unfold besP
  by_cases z : w = 0 ∨ w = 2
  · rw [stop_uni (hq z) k2]
  · rw [if_neg z, if_neg z]
