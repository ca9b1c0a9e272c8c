/-! PURE FACTS, 18: held, wrong -/
theorem ior_0 {x : Int} (h : inR x) : ior x 0 = x := by
  refine Bt_ext (ior_rng _ _) h (fun k _ => ?_)
  rw [Bt_or, Bt_0, Bool.or_false]
theorem joinP_sym {σ : Mem} (hB : I_bars σ) {a b : Nat} (hab : a ≠ b) (ha : a < 24) (hb : b < 24) : joinP σ a b ↔ joinP σ b a := by
  have e : σ 147 (24 * a + b) = σ 147 (24 * b + a) := by
    rcases Nat.lt_or_gt_of_ne hab with z | z
    · obtain ⟨x1, x2, x3⟩ := hB.2 a b z hb; rw [x2, x3]
    · obtain ⟨x1, x2, x3⟩ := hB.2 b a z ha; rw [x2, x3]
  unfold joinP
  rw [e, Int.add_comm (sprF σ b) (sprF σ a)]
  constructor
  · rintro ⟨⟨z1, z2, z3⟩, z4, z5⟩; exact ⟨⟨z2, z1, z3⟩, z5, z4⟩
  · rintro ⟨⟨z1, z2, z3⟩, z4, z5⟩; exact ⟨⟨z2, z1, z3⟩, z5, z4⟩
abbrev leanP (σ : Mem) (p : Nat) : Nat → Prop := fun k => k ≠ p ∧ ¬ σ 119 k < σ 119 p ∧ (σ 118 k = σ 118 p ∨ joinP σ (σ 118 p).toNat (σ 118 k).toNat)
theorem s_leaned {σ : Mem} {p : Nat} {Q : Int → Mem → Prop} (hI : INVc σ) (hn : 0 ≤ σ 0 15 ∧ σ 0 15 ≤ 12) (hc : ∀ k : Nat, (k : Int) < σ 0 15 → 0 ≤ σ 118 k ∧ σ 118 k < σ 16 2) (hp : (p : Int) < σ 0 15) (h : Q (orF (leanP σ p) (σ 0 15).toNat) σ) : v_X11_leaned p σ Q := by
  have n24 := hI.c.2.2.1
  unfold v_X11_leaned
  refine lp1a (l_X11_leaned_4 p Q) (fun k x τ => τ = σ ∧ x = orF (leanP σ p) k) (σ 0 15).toNat 0 σ ⟨rfl, rfl⟩ ?_ ?_
  · rintro n x τ ⟨rfl, rfl⟩
    rw [l_X11_leaned_4, if_neg (by omega)]; exact h
  · rintro n k x τ hk ⟨hτ, hx⟩ ih
    subst hτ
    have e : orF (leanP τ p) (k + 1) = if leanP τ p k then ior x (ishl 1 k) else x := by rw [hx]; rfl
    have ck := hc k (by omega)
    have cp := hc p hp
    have i1 : inR ((k : Int) + 1) := ⟨by omega, by omega⟩
    rw [l_X11_leaned_4, if_pos (by omega)]
    have no : ¬ leanP τ p k → inR ((k : Int) + 1) ∧ l_X11_leaned_4 p Q n x (k + 1) τ := fun z => ⟨i1, ih _ _ ⟨rfl, by rw [e, if_neg z]⟩⟩
    have yes : leanP τ p k → inR ((k : Int) + 1) ∧ l_X11_leaned_4 p Q n (ior x (ishl 1 k)) (k + 1) τ := fun z => ⟨i1, ih _ _ ⟨rfl, by rw [e, if_pos z]⟩⟩
    by_cases c1 : (k : Int) = p
    · rw [if_pos c1]
      unfold j_X11_leaned_37 j_X11_leaned_59
      refine ⟨by omega, by omega, by omega, by omega, ?_⟩
      rw [if_pos rfl]
      exact no (fun z => z.1 (Int.ofNat_inj.mp c1))
    · rw [if_neg c1, Int.toNat_natCast, Int.toNat_natCast]
      refine ⟨by omega, by omega, by omega, by omega, ?_⟩
      unfold j_X11_leaned_37 j_X11_leaned_59
      rw [Int.toNat_natCast, Int.toNat_natCast]
      refine ⟨by omega, by omega, by omega, by omega, ?_⟩
      by_cases c2 : τ 119 k < τ 119 p
      · rw [if_pos c2, if_pos rfl]
        exact no (fun z => z.2.1 c2)
      · rw [if_neg c2, if_neg (by decide)]
        by_cases c3 : τ 118 k = τ 118 p
        · rw [if_pos c3, if_neg (by decide)]
          exact yes ⟨fun z => c1 (by rw [z]), c2, Or.inl c3⟩
        · rw [if_neg c3, if_pos rfl]
          refine ⟨by omega, by omega, by omega, by omega, ?_⟩
          refine s_joined (a := (τ 118 p).toNat) (b := (τ 118 k).toNat) hI (by omega) (by omega) (by omega) (by omega) (by omega) ?_
          by_cases j : joinP τ (τ 118 p).toNat (τ 118 k).toNat
          · rw [if_pos j, if_neg (by decide)]
            exact yes ⟨fun z => c1 (by rw [z]), c2, Or.inr j⟩
          · rw [if_neg j, if_pos rfl]
            exact no (fun z => by rcases z.2.2 with z | z; exact c3 z; exact j z)
theorem s_mleaned {σ : Mem} {p : Nat} {Q : Int → Mem → Prop} (hI : INV σ) (hp : (p : Int) < σ 0 15) (h : ∀ τ, SAME σ τ → Q (orF (leanP σ p) (σ 0 15).toNat) τ) : v_X12_leaned p σ Q := by
  have n24 := hI.c.2.2.1
  obtain ⟨b1, b2, b3, b4, b5⟩ := hI.h
  unfold v_X12_leaned
  refine lp1a (l_X12_leaned_4 p Q) (fun k x τ => SAME σ τ ∧ x = orF (leanP σ p) k) (σ 0 15).toNat 0 σ ⟨SAME.rf, rfl⟩ ?_ ?_
  · rintro n x τ ⟨h1, rfl⟩
    rw [l_X12_leaned_4, h1 122 52 rfl, if_neg (by omega)]; exact h τ h1
  · rintro n k x τ hk ⟨hτ, hx⟩ ih
    have xr : inR x := by rw [hx]; exact orF_rng _
    have kn : (k : Int) < σ 0 15 := by omega
    have i1 : inR ((k : Int) + 1) := ⟨by omega, by omega⟩
    have k0 : 0 ≤ (k : Int) := by omega
    have k12 : (k : Int) < 12 := by omega
    have p0 : 0 ≤ (p : Int) := by omega
    have p12 : (p : Int) < 12 := by omega
    have ck1 := (b5 k kn).1; have ck2 := (b5 k kn).2.1
    have cp1 := (b5 p hp).1; have cp2 := (b5 p hp).2.1
    have nk : (k : Int) < τ 122 52 := by rw [hτ 122 52 rfl]; omega
    clear b5 b4
    have tk : (σ 118 k).toNat < 24 := by omega
    have tp : (σ 118 p).toNat < 24 := by omega
    have uk : (((σ 118 k).toNat : Nat) : Int) < σ 16 2 := by omega
    have up : (((σ 118 p).toNat : Nat) : Int) < σ 16 2 := by omega
    have vk : σ 118 k = (((σ 118 k).toNat : Nat) : Int) := by omega
    have vp : σ 118 p = (((σ 118 p).toNat : Nat) : Int) := by omega
    have ne : ¬ σ 118 k = σ 118 p → (σ 118 k).toNat ≠ (σ 118 p).toNat := by intro z z2; omega
    rw [l_X12_leaned_4, if_pos nk, Int.toNat_natCast, Int.toNat_natCast, hτ 154 k rfl, hτ 154 p rfl, ck1.1, cp1.1]
    refine ⟨k0, k12, p0, p12, ?_⟩
    have e : orF (leanP σ p) (k + 1) = if leanP σ p k then ior x (ishl 1 k) else x := by rw [hx]; rfl
    have fin : ∀ (s0 : Int) (ω : Mem), SAME σ ω → (s0 = 0 ↔ ¬ (σ 118 k = σ 118 p ∨ joinP σ (σ 118 p).toNat (σ 118 k).toNat)) → j_X12_leaned_51 p (fun x2_ x3_ σ_ => l_X12_leaned_4 p Q n x2_ x3_ σ_) Q x k s0 ω := by
      intro s0 ω hω hs
      have no : ¬ leanP σ p k → inR ((k : Int) + 1) ∧ l_X12_leaned_4 p Q n (ior x 0) (k + 1) ω := fun z => ⟨i1, ih _ _ ⟨hω, by rw [ior_0 xr, e, if_neg z]⟩⟩
      unfold j_X12_leaned_51 j_X12_leaned_85
      rw [Int.toNat_natCast, Int.toNat_natCast, hω 155 k rfl, hω 155 p rfl, ck2, cp2]
      by_cases c1 : (k : Int) = p
      · rw [if_pos c1]; exact no (fun z => z.1 (Int.ofNat_inj.mp c1))
      · rw [if_neg c1]
        refine ⟨k0, k12, p0, p12, ?_⟩
        by_cases c2 : σ 119 k < σ 119 p
        · rw [if_pos c2]; exact no (fun z => z.2.1 c2)
        · rw [if_neg c2]
          by_cases c3 : s0 = 0
          · rw [if_pos c3]; exact no (fun z => hs.mp c3 z.2.2)
          · rw [if_neg c3]
            have w : σ 118 k = σ 118 p ∨ joinP σ (σ 118 p).toNat (σ 118 k).toNat := by
              by_cases w : σ 118 k = σ 118 p ∨ joinP σ (σ 118 p).toNat (σ 118 k).toNat
              · exact w
              · exact absurd (hs.mpr w) c3
            have l : leanP σ p k := ⟨fun z => c1 (by rw [z]), c2, w⟩
            exact ⟨i1, ih _ _ ⟨hω, by rw [e, if_pos l]⟩⟩
    by_cases c3 : σ 118 k = σ 118 p
    · rw [if_pos c3]
      exact fin 1 τ hτ ⟨fun z => absurd z (by decide), fun z => absurd (Or.inl c3) z⟩
    · rw [if_neg c3]
      have sy := joinP_sym hI.b (ne c3) tk tp
      refine s_doJoin (inv_core hτ hI) vk vp (by rw [hτ.n]; exact uk) (by rw [hτ.n]; exact up) (fun ω hω => ?_)
      have js := joinP_same hτ tk tp
      refine fin _ ω (hτ.tr hω) ?_
      by_cases j : joinP τ (σ 118 k).toNat (σ 118 p).toNat
      · rw [if_pos j]
        have j2 := sy.mp (js.mp j)
        exact ⟨fun z => absurd z (by decide), fun z => absurd (Or.inr j2) z⟩
      · rw [if_neg j]
        exact ⟨fun _ z => z.elim (fun z => c3 z) (fun z => j (js.mpr (sy.mpr z))), fun _ => rfl⟩
