/-! PURE FACTS, 31: the model's men -/
def muM (σ s : Mem) : Int := sumF (fun c => s 153 c + 4) (σ 16 2).toNat
theorem sum_nn {f : Nat → Int} : ∀ n : Nat, (∀ k, k < n → 0 ≤ f k) → 0 ≤ sumF f n := by
  intro n
  induction n with
  | zero => intro _; exact Int.le_refl 0
  | succ n ih => intro h; show 0 ≤ sumF f n + f n; have := ih (fun k hk => h k (by omega)); have := h n (by omega); omega
theorem Lab.nn {σ : Mem} {l : Nat → Int} (h : Lab σ l) {c : Nat} (hc : (c : Int) < σ 16 2) : -4 ≤ l c := by
  rcases h c hc with ⟨_, e⟩ | ⟨_, k, e, _, _⟩ <;> omega
theorem Lab.out {σ : Mem} {l : Nat → Int} (h : Lab σ l) {c : Nat} (hc : (c : Int) < σ 16 2) : l c = -4 ↔ σ (23 + 3 * c) 5 = -4 := by
  rcases h c hc with ⟨o, e⟩ | ⟨o, k, e, _, _⟩
  · exact ⟨fun _ => o, fun _ => e⟩
  · exact ⟨fun z => by omega, fun z => absurd z o⟩
theorem Jn.o1 {σ : Mem} {a b : Nat} (h : Jn σ a b) : ¬ σ (23 + 3 * a) 5 = -4 := h.2.2.2.1.1
theorem Jn.o2 {σ : Mem} {a b : Nat} (h : Jn σ a b) : ¬ σ (23 + 3 * b) 5 = -4 := h.2.2.2.1.2.1
def pasI (σ s0 : Mem) (D : Nat → Nat → Prop) (x1 : Int) (s : Mem) : Prop := SAME σ s ∧ Lab σ (s 153) ∧ ((x1 = 0 ∧ (∀ k, s 153 k = s0 153 k) ∧ ∀ a b, D a b → Jn σ a b → ¬ s0 153 b < s0 153 a) ∨ (x1 = 1 ∧ muM σ s < muM σ s0))
theorem s_layMen {σ τ : Mem} {Q : Int → Mem → Prop} (hI : INVc σ) (h0 : SAME σ τ) (h : ∀ ω, SAME σ ω → FinL σ (ω 153) → Q 0 ω) : v_X12_layMen τ Q := by
  have n24 := hI.c.2.2.1
  have n0 := hI.c.2.1
  have en : ∀ s, SAME σ s → s 122 24 = σ 16 2 := fun s hs => by rw [hs 122 24 rfl]; exact hI.eqn
  -- passes
  have passes : ∀ (M : Nat) (s : Mem), SAME σ s → Lab σ (s 153) → muM σ s < M → l_X12_layMen_38 Q (M + 1) 1 s := by
    intro M
    induction M with
    | zero =>
      intro s hs hl hm
      have : 0 ≤ muM σ s := sum_nn _ (fun k hk => by have := hl.nn (c := k) (by omega); omega)
      omega
    | succ M IH =>
      intro s0 hs0 hl0 hm
      rw [l_X12_layMen_38, if_neg (by decide)]
      refine lp1a (l_X12_layMen_46 (fun x1_ σ_ => l_X12_layMen_38 Q (M + 1) x1_ σ_) Q) (fun c x s => pasI σ s0 (fun a _ => a < c) x s) (σ 16 2).toNat 0 s0 ⟨hs0, hl0, Or.inl ⟨rfl, fun _ => rfl, fun a b ha => absurd ha (by omega)⟩⟩ ?_ ?_
      · rintro n x s ⟨g1, g2, g3⟩
        rw [l_X12_layMen_46, en s g1, if_neg (by omega)]
        rcases g3 with ⟨rfl, e, d⟩ | ⟨rfl, lt⟩
        · rw [l_X12_layMen_38, if_pos rfl]
          refine h s g1 ⟨g2, fun a b j => ?_⟩
          have d1 := d a b (by have := j.1; omega) j
          have d2 := d b a (by have := j.2.1; omega) (j.sym hI)
          rw [e a, e b]; omega
        · exact IH s g1 g2 (by omega)
      · rintro n c x s hc ⟨g1, g2, g3⟩ ih
        rw [l_X12_layMen_46, en s g1, if_pos (by omega)]
        refine lp1a (l_X12_layMen_56 c (fun x1_ σ_ => l_X12_layMen_38 Q (M + 1) x1_ σ_) (fun x1_ x2_ σ_ => l_X12_layMen_46 (fun x1_ σ_ => l_X12_layMen_38 Q (M + 1) x1_ σ_) Q n x1_ x2_ σ_) Q) (fun d x s => pasI σ s0 (fun a b => a < c ∨ (a = c ∧ b < d)) x s) (σ 16 2).toNat x s ⟨g1, g2, ?_⟩ ?_ ?_
        · rcases g3 with ⟨z1, z2, z3⟩ | z
          · exact Or.inl ⟨z1, z2, fun a b hd j => z3 a b (by omega) j⟩
          · exact Or.inr z
        · rintro n2 x s ⟨k1, k2, k3⟩
          rw [l_X12_layMen_56, en s k1, if_neg (by omega)]
          refine ⟨⟨by omega, by omega⟩, ih _ _ ⟨k1, k2, ?_⟩⟩
          rcases k3 with ⟨z1, z2, z3⟩ | z
          · exact Or.inl ⟨z1, z2, fun a b hd j => z3 a b (by have := j.2.1; omega) j⟩
          · exact Or.inr z
        · rintro n2 d x s hd ⟨k1, k2, k3⟩ jh
          have hcn : (c : Int) < σ 16 2 := by omega
          have hdn : (d : Int) < σ 16 2 := by omega
          have i1 : inR ((d : Int) + 1) := ⟨by omega, by omega⟩
          have skip : ∀ ω : Mem, SAME σ ω → (∀ k, ω 153 k = s 153 k) → (x = 0 → Jn σ c d → ¬ s0 153 d < s0 153 c) → inR ((d : Int) + 1) ∧ l_X12_layMen_56 c (fun x1_ σ_ => l_X12_layMen_38 Q (M + 1) x1_ σ_) (fun x1_ x2_ σ_ => l_X12_layMen_46 (fun x1_ σ_ => l_X12_layMen_38 Q (M + 1) x1_ σ_) Q n x1_ x2_ σ_) Q n2 x (d + 1) ω := by
            intro ω w1 w2 w3
            have fn : ω 153 = s 153 := funext w2
            refine ⟨i1, jh _ _ ⟨w1, by rw [fn]; exact k2, ?_⟩⟩
            rcases k3 with ⟨z1, z2, z3⟩ | ⟨z1, z2⟩
            · refine Or.inl ⟨z1, fun k => by rw [w2 k]; exact z2 k, fun a b hd2 j => ?_⟩
              by_cases y : a = c ∧ b = d
              · obtain ⟨rfl, rfl⟩ := y; exact w3 z1 j
              · exact z3 a b (by omega) j
            · refine Or.inr ⟨z1, ?_⟩
              unfold muM; rw [fn]; exact z2
          rw [l_X12_layMen_56, en s k1, if_pos (by omega), Int.toNat_natCast, Int.toNat_natCast]
          by_cases c1 : (c : Int) = d
          · rw [if_pos c1]
            exact skip s k1 (fun _ => rfl) (fun _ j => absurd (Int.ofNat_inj.mp c1) j.2.2.1)
          · rw [if_neg c1]
            refine ⟨by omega, by omega, ?_⟩
            by_cases c2 : s 153 c = -4
            · rw [if_pos c2]
              exact skip s k1 (fun _ => rfl) (fun _ j => absurd ((k2.out hcn).mp c2) j.o1)
            · rw [if_neg c2]
              refine ⟨by omega, by omega, ?_⟩
              by_cases c3 : s 153 d = -4
              · rw [if_pos c3]
                exact skip s k1 (fun _ => rfl) (fun _ j => absurd ((k2.out hdn).mp c3) j.o2)
              · rw [if_neg c3]
                by_cases c4 : s 153 d < s 153 c
                · rw [if_pos c4]
                  refine s_doJoin2 (a := c) (b := d) (invc_core k1 hI) rfl rfl (by rw [k1.n]; exact hcn) (by rw [k1.n]; exact hdn) (fun ω hω => ?_)
                  have sω := k1.tr hω.1
                  by_cases q : joinP s c d
                  · rw [if_pos q, if_neg (by decide)]
                    have J : Jn σ c d := Jn.mk hcn hdn (fun e => c1 (by rw [e])) ((joinP_dn k1 hcn hdn n24).mp q)
                    clear q
                    refine ⟨i1, jh _ _ ⟨sω.st rfl, fun e he => ?_, Or.inr ⟨rfl, ?_⟩⟩⟩
                    · by_cases z : e = c
                      · subst z
                        rcases k2 e hcn with ⟨o, _⟩ | ⟨o, a, ea, la, ra⟩
                        · exact absurd o J.o1
                        rcases k2 d hdn with ⟨o2, _⟩ | ⟨o2, b, eb, lb, rb⟩
                        · exact absurd o2 J.o2
                        refine Or.inr ⟨o, b, by rw [mset_eq, hω.2 d]; exact eb, by omega, (Rch.one J).tr rb⟩
                      · rw [mset_nei z, hω.2 e]; exact k2 e he
                    · have sp := sum_pt (f := fun k => mset ω 153 c (ω 153 d) 153 k + 4) (g := fun k => s 153 k + 4) (b := c) (σ 16 2).toNat (by omega) (fun k _ hk => by rw [mset_nei hk, hω.2 k])
                      rw [mset_eq, hω.2 d] at sp
                      have lt : muM σ (mset ω 153 c (ω 153 d)) < muM σ s := by
                        show sumF (fun k => mset ω 153 c (ω 153 d) 153 k + 4) (σ 16 2).toNat < sumF (fun k => s 153 k + 4) (σ 16 2).toNat
                        rw [hω.2 d]
                        omega
                      rcases k3 with ⟨_, z2, _⟩ | ⟨_, z2⟩
                      · have : muM σ s = muM σ s0 := by unfold muM; rw [show s 153 = s0 153 from funext z2]
                        omega
                      · omega
                  · rw [if_neg q, if_pos rfl]
                    refine skip ω sω hω.2 (fun _ j => absurd ((joinP_dn k1 hcn hdn n24).mpr j.2.2.2) q)
                · rw [if_neg c4]
                  refine skip s k1 (fun _ => rfl) (fun z _ => ?_)
                  rcases k3 with ⟨_, z2, _⟩ | ⟨z1, _⟩
                  · rw [← z2 d, ← z2 c]; exact c4
                  · omega
  unfold v_X12_layMen
  refine lp0 (l_X12_layMen_2 Q) (fun i s => SAME σ s ∧ ∀ c : Nat, c < i → s 153 c = if σ (23 + 3 * c) 5 = -4 then -4 else (c : Int)) (σ 16 2).toNat τ ⟨h0, fun c hc => absurd hc (by omega)⟩ ?_ ?_
  · rintro n s ⟨h1, h2⟩
    rw [l_X12_layMen_2, en s h1, if_neg (by omega)]
    have base : Lab σ (s 153) := by
      intro c hc
      have e := h2 c (by omega)
      by_cases o : σ (23 + 3 * c) 5 = -4
      · rw [if_pos o] at e; exact Or.inl ⟨o, e⟩
      · rw [if_neg o] at e; exact Or.inr ⟨o, c, e, Nat.le_refl c, Rch.rf⟩
    obtain ⟨M, hM⟩ : ∃ M : Nat, muM σ s < M := ⟨(muM σ s + 1).toNat, by omega⟩
    exact ⟨M + 1, passes M s h1 base hM⟩
  · rintro n i s hi ⟨h1, h2⟩ ih
    have jI := invc_core h1 hI
    have x := jI.c.2.2.2.2 i (by rw [h1.n]; omega)
    rw [l_X12_layMen_2, en s h1, if_pos (by omega), Int.toNat_natCast]
    refine s_mOut rfl (by omega) ?_
    rw [x.2.2.2.2.2.1.1, same_card h1 (j := 23 + 3 * i) (by omega) (by omega)]
    by_cases o : σ (23 + 3 * i) 5 = -4
    · rw [if_pos o, if_neg (by decide)]
      refine ⟨by omega, by omega, ⟨by omega, by omega⟩, ih _ ⟨h1.st rfl, fun c hc => ?_⟩⟩
      by_cases z : c = i
      · subst z; rw [mset_eq, if_pos o]
      · rw [mset_nei z]; exact h2 c (by omega)
    · rw [if_neg o, if_pos rfl]
      refine ⟨by omega, by omega, ⟨by omega, by omega⟩, ih _ ⟨h1.st rfl, fun c hc => ?_⟩⟩
      by_cases z : c = i
      · subst z; rw [mset_eq, if_neg o]
      · rw [mset_nei z]; exact h2 c (by omega)
