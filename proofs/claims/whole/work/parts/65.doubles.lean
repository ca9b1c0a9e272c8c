/-! PURE FACTS, 34: guess -/
theorem sum_ext {f : Nat → Int} {c : Nat} : ∀ k : Nat, (∀ d, c ≤ d → d < c + k → f d = 0) → sumF f (c + k) = sumF f c := by
  intro k
  induction k with
  | zero => intro _; rfl
  | succ k ih =>
    intro h
    have e := sum_step f (c + k)
    rw [show c + (k + 1) = c + k + 1 by omega, e, ih (fun d h1 h2 => h d h1 (by omega)), h (c + k) (by omega) (by omega)]; omega
theorem db_swap {f : Nat → Nat → Int} {n : Nat} (h : ∀ c d, d ≤ c → f c d = 0) : sumF (fun c => sumF (fun d => f d c) c) n = sumF (fun c => sumF (f c) n) n := by
  rw [sum_swap (f := f)]
  refine sumF_congr (fun c hc => ?_)
  have e := sum_ext (f := fun d => f d c) (c := c) (n - c) (fun d h1 h2 => h d c h1)
  rw [show c + (n - c) = n by omega] at e
  exact e.symm
theorem dbN_z {σ : Mem} {l : Nat → Int} {h : Int} {m c d : Nat} (x : d ≤ c) : dbN σ l h m c d = 0 := dbN_f (fun z => by have := z.1; omega)
theorem dbA_z {σ : Mem} {l : Nat → Int} {h : Int} {m c d : Nat} (x : d ≤ c) : dbA σ l h m c d = 0 := dbA_f (fun z => by have := z.1; omega)
theorem s_findD {σ ω : Mem} {h p2 : Int} {m : Nat} {Q : Int → Mem → Prop} (hI : INVc σ) (h1 : SAME σ ω) (hp : p2 = m) (hm : m < 4) (hQ : ∀ s, SAME σ s → s 103 2 = dbNs σ (ω 104) h m (σ 16 2).toNat → s 103 3 = dbAs σ (ω 104) h m (σ 16 2).toNat → Q 0 s) : v_X4_findDoubles h p2 ω Q := by
  subst hp
  have n24 := hI.c.2.2.1
  have n0 := hI.c.2.1
  have nN : (((σ 16 2).toNat : Nat) : Int) ≤ 24 := by omega
  have rN : ∀ c k : Nat, 0 ≤ sumF (dbN σ (ω 104) h m c) k ∧ sumF (dbN σ (ω 104) h m c) k ≤ k * 1 := fun c k => sumF_rng (fun _ _ => dbN_rng)
  have rA : ∀ c k : Nat, c < (σ 16 2).toNat → k ≤ (σ 16 2).toNat → 0 ≤ sumF (dbA σ (ω 104) h m c) k ∧ sumF (dbA σ (ω 104) h m c) k ≤ k * 999 := fun c k hc hk => sumF_rng (fun d hd => dbA_rng hI hm hc (by omega))
  have oN : ∀ k : Nat, 0 ≤ sumF (fun c => sumF (dbN σ (ω 104) h m c) (σ 16 2).toNat) k ∧ sumF (fun c => sumF (dbN σ (ω 104) h m c) (σ 16 2).toNat) k ≤ k * 24 := fun k => sumF_rng (fun c _ => by have := rN c (σ 16 2).toNat; omega)
  have oA : ∀ k : Nat, k ≤ (σ 16 2).toNat → 0 ≤ sumF (fun c => sumF (dbA σ (ω 104) h m c) (σ 16 2).toNat) k ∧ sumF (fun c => sumF (dbA σ (ω 104) h m c) (σ 16 2).toNat) k ≤ k * 23976 := fun k hk => sumF_rng (fun c hc => by have := rA c (σ 16 2).toNat (by omega) (Nat.le_refl _); omega)
  have smc : ∀ s : Mem, (∀ j k, j ≠ 103 → s j k = ω j k) → SAME σ s := fun s hs => h1.tr (fun j k q => hs j k (fun e => by subst e; cases q))
  unfold v_X4_findDoubles
  refine lp0 (l_X4_findDoubles_12 h m Q) (fun c s => (∀ j k, j ≠ 103 → s j k = ω j k) ∧ s 103 2 = sumF (fun c => sumF (dbN σ (ω 104) h m c) (σ 16 2).toNat) c ∧ s 103 3 = sumF (fun c => sumF (dbA σ (ω 104) h m c) (σ 16 2).toNat) c) (σ 16 2).toNat _ ⟨fun j k hj => by rw [mset_ne hj, mset_ne hj], by rw [mset_nei (by decide), mset_eq]; rfl, by rw [mset_eq]; rfl⟩ ?_ ?_
  · rintro n s ⟨g1, g2, g3⟩
    rw [l_X4_findDoubles_12, (smc s g1).n, if_neg (by omega)]
    exact hQ s (smc s g1) g2 g3
  · rintro n c s hc ⟨g1, g2, g3⟩ ih
    rw [l_X4_findDoubles_12, (smc s g1).n, if_pos (by omega)]
    refine ⟨⟨by omega, by omega⟩, ?_⟩
    have LL := loop_0 (fun n2 (k : Nat) (t : Mem) => l_X4_findDoubles_28 h m c (fun x3_ σ_ => l_X4_findDoubles_12 h m Q n x3_ σ_) Q n2 ((c + 1 + k : Nat) : Int) t) (fun k t => (∀ j k, j ≠ 103 → t j k = ω j k) ∧ t 103 2 = s 103 2 + sumF (dbN σ (ω 104) h m c) (c + 1 + k) ∧ t 103 3 = s 103 3 + sumF (dbA σ (ω 104) h m c) (c + 1 + k)) ((σ 16 2).toNat - (c + 1)) s ⟨g1, ?_, ?_⟩ ?_ ?_
    · exact LL
    · rw [sum_z (fun k hk => dbN_z (by omega))]; omega
    · rw [sum_z (fun k hk => dbA_z (by omega))]; omega
    · rintro n2 t ⟨k1, k2, k3⟩
      rw [l_X4_findDoubles_28, (smc t k1).n, if_neg (by omega)]
      have e : c + 1 + ((σ 16 2).toNat - (c + 1)) = (σ 16 2).toNat := by omega
      rw [e] at k2 k3
      refine ⟨⟨by omega, by omega⟩, ih _ ⟨k1, ?_, ?_⟩⟩
      · rw [k2, g2]; rfl
      · rw [k3, g3]; rfl
    · rintro n2 k t hk ⟨k1, k2, k3⟩ jh
      have sT := smc t k1
      obtain ⟨d, hd⟩ : ∃ d : Nat, d = c + 1 + k := ⟨_, rfl⟩
      have e1 : ((c + 1 + k : Nat) : Int) + 1 = ((c + 1 + (k + 1) : Nat) : Int) := by omega
      have i1 : inR ((c + 1 + (k + 1) : Nat) : Int) := ⟨by omega, by omega⟩
      have stN := sum_step (dbN σ (ω 104) h m c) (c + 1 + k)
      have stA := sum_step (dbA σ (ω 104) h m c) (c + 1 + k)
      have bN := rN c (c + 1 + k)
      have bA := rA c (c + 1 + k) hc (by omega)
      have obN := oN c
      have obA := oA c (by omega)
      rw [← hd] at stN stA bN bA k2 k3
      have c23 := same_card sT (j := 23 + 3 * c) (by omega) (by omega)
      have c25 := same_card sT (j := 25 + 3 * c) (by omega) (by omega)
      have d23 := same_card sT (j := 23 + 3 * d) (by omega) (by omega)
      have d25 := same_card sT (j := 25 + 3 * d) (by omega) (by omega)
      have mc := (hI.c.2.2.2.2 c (by omega)).2.2.2.2.2.2 m hm
      have md := (hI.c.2.2.2.2 d (by omega)).2.2.2.2.2.2 m hm
      have t104 : t 104 = ω 104 := funext fun k => k1 104 k (by decide)
      have e2 : c + 1 + (k + 1) = d + 1 := by omega
      have skip : ¬ dbP σ (ω 104) h m c d → inR ((c + 1 + (k + 1) : Nat) : Int) ∧ l_X4_findDoubles_28 h m c (fun x3_ σ_ => l_X4_findDoubles_12 h m Q n x3_ σ_) Q n2 ((c + 1 + (k + 1) : Nat) : Int) t := by
        intro nd
        rw [dbN_f nd] at stN; rw [dbA_f nd] at stA
        exact ⟨i1, jh _ ⟨k1, by rw [e2]; omega, by rw [e2]; omega⟩⟩
      rw [l_X4_findDoubles_28, sT.n, if_pos (by omega), ← hd, Int.toNat_natCast, Int.toNat_natCast]
      refine ⟨by omega, by omega, by omega, by omega, ?_⟩
      unfold j_X4_findDoubles_86 j_X4_findDoubles_113
      rw [Int.toNat_natCast, c23, c25, d23, d25]
      have e3 : (d : Int) + 1 = ((c + 1 + (k + 1) : Nat) : Int) := by omega
      rw [e3]
      refine ⟨by omega, by omega, ?_⟩
      have x7 : ∀ R1 R2 : Prop, (¬ (σ (23 + 3 * c) 0 = h ∨ σ (23 + 3 * d) 0 = h) → R1) → ((σ (23 + 3 * c) 0 = h ∨ σ (23 + 3 * d) 0 = h) → R2) → (if (if σ (23 + 3 * c) 0 = h then (1 : Int) else (if σ (23 + 3 * d) 0 = h then 1 else 0)) = 0 then R1 else R2) := by
        intro R1 R2 r1 r2
        by_cases q1 : σ (23 + 3 * c) 0 = h
        · rw [if_pos q1, if_neg (by decide)]; exact r2 (Or.inl q1)
        · rw [if_neg q1]
          by_cases q2 : σ (23 + 3 * d) 0 = h
          · rw [if_pos q2, if_neg (by decide)]; exact r2 (Or.inr q2)
          · rw [if_neg q2, if_pos rfl]; exact r1 (fun z => by rcases z with z | z; exact q1 z; exact q2 z)
      refine x7 _ _ (fun q => skip (fun z => q z.2.1)) (fun q1 => ?_)
      by_cases q2 : σ (23 + 3 * c) 0 = σ (23 + 3 * d) 0
      · rw [if_pos q2]; exact skip (fun z => z.2.2.1 q2)
      · rw [if_neg q2]
        by_cases q3 : 0 < σ (25 + 3 * c) m
        rotate_left
        · rw [if_neg q3, if_pos rfl]; exact skip (fun z => q3 z.2.2.2.1)
        rw [if_pos q3]
        by_cases q4 : 0 < σ (25 + 3 * d) m
        rotate_left
        · rw [if_neg q4, if_pos rfl]; exact skip (fun z => q4 z.2.2.2.2.1)
        rw [if_pos q4, if_neg (by decide)]
        refine s_isOne rfl rfl (by omega) (by omega) ?_
        rw [t104]
        by_cases q5 : oneP (ω 104) c d
        · rw [if_pos q5, if_neg (by decide)]
          have D : dbP σ (ω 104) h m c d := ⟨by omega, q1, q2, q3, q4, q5.1, q5.2⟩
          rw [dbN_t D] at stN; rw [dbA_t D] at stA
          have ia : 0 ≤ iabs (σ (25 + 3 * c) m - σ (25 + 3 * d) m) ∧ iabs (σ (25 + 3 * c) m - σ (25 + 3 * d) m) ≤ 999 := by unfold iabs; split <;> omega
          rw [c25, d25]
          refine ⟨⟨by omega, by omega⟩, by omega, by omega, ⟨by omega, by omega⟩, ⟨by omega, by omega⟩, i1, jh _ ⟨fun j k hj => by rw [mset_ne hj, mset_ne hj]; exact k1 j k hj, ?_, ?_⟩⟩
          · rw [mset_nei (by decide), mset_eq, e2]; omega
          · rw [mset_eq, e2]; omega
        · rw [if_neg q5, if_pos rfl]; exact skip (fun z => q5 ⟨z.2.2.2.2.2.1, z.2.2.2.2.2.2⟩)
def gueA (N A : Int) (w : Int) (Q : Int → Prop) : Prop := if w = 2 then Q N else if N = 0 then Q (-4) else Q (l2iI (lowF A.toNat N.toNat w))
theorem s_gueLoop {σ ψ : Mem} {h p2 w : Int} {m : Nat} {Q : Int → Mem → Prop} (hI : INVc σ) (h1 : SAME σ ψ) (hp : p2 = m) (hm : m < 4) (hQ : gueA (dbNs σ (ψ 153) h m (σ 16 2).toNat) (dbAs σ (ψ 153) h m (σ 16 2).toNat) w (fun r => Q r ψ)) : ∃ n_, l_X12_guess_51 h p2 w Q n_ 0 0 0 ψ := by
  subst hp
  have n24 := hI.c.2.2.1
  have n0 := hI.c.2.1
  have nN : (((σ 16 2).toNat : Nat) : Int) ≤ 24 := by omega
  have en : ψ 122 24 = σ 16 2 := by rw [h1 122 24 rfl]; exact hI.eqn
  have jI := invc_core h1 hI
  have rN : ∀ c k : Nat, 0 ≤ sumF (fun d => dbN σ (ψ 153) h m d c) k ∧ sumF (fun d => dbN σ (ψ 153) h m d c) k ≤ k * 1 := fun c k => sumF_rng (fun _ _ => dbN_rng)
  have rA : ∀ c k : Nat, c < (σ 16 2).toNat → k ≤ (σ 16 2).toNat → 0 ≤ sumF (fun d => dbA σ (ψ 153) h m d c) k ∧ sumF (fun d => dbA σ (ψ 153) h m d c) k ≤ k * 999 := fun c k hc hk => sumF_rng (fun d hd => dbA_rng hI hm (by omega) hc)
  have oN : ∀ k : Nat, k ≤ (σ 16 2).toNat → 0 ≤ sumF (fun c => sumF (fun d => dbN σ (ψ 153) h m d c) c) k ∧ sumF (fun c => sumF (fun d => dbN σ (ψ 153) h m d c) c) k ≤ k * 24 := fun k hk => sumF_rng (fun c hc => by have := rN c c; omega)
  have oA : ∀ k : Nat, k ≤ (σ 16 2).toNat → 0 ≤ sumF (fun c => sumF (fun d => dbA σ (ψ 153) h m d c) c) k ∧ sumF (fun c => sumF (fun d => dbA σ (ψ 153) h m d c) c) k ≤ k * 23976 := fun k hk => sumF_rng (fun c hc => by have := rA c c (by omega) (by omega); omega)
  have eN : sumF (fun c => sumF (fun d => dbN σ (ψ 153) h m d c) c) (σ 16 2).toNat = dbNs σ (ψ 153) h m (σ 16 2).toNat := db_swap (fun c d hd => dbN_z hd)
  have eA : sumF (fun c => sumF (fun d => dbA σ (ψ 153) h m d c) c) (σ 16 2).toNat = dbAs σ (ψ 153) h m (σ 16 2).toNat := db_swap (fun c d hd => dbA_z hd)
  have LL := loop_0 (fun n (c : Nat) (s : Int × Int × Mem) => l_X12_guess_51 h m w Q n s.1 s.2.1 c s.2.2) (fun c s => s.2.2 = ψ ∧ s.1 = sumF (fun c => sumF (fun d => dbN σ (ψ 153) h m d c) c) c ∧ s.2.1 = sumF (fun c => sumF (fun d => dbA σ (ψ 153) h m d c) c) c) (σ 16 2).toNat (0, 0, ψ) ⟨rfl, rfl, rfl⟩ ?_ ?_
  · exact LL
  · rintro n ⟨x, y, s⟩ ⟨hs, hx, hy⟩
    dsimp only at hs hx hy ⊢
    subst hs
    have bN := oN (σ 16 2).toNat (Nat.le_refl _)
    have bA := oA (σ 16 2).toNat (Nat.le_refl _)
    rw [eN] at hx bN; rw [eA] at hy bA
    rw [l_X12_guess_51, if_neg (by omega)]
    unfold gueA at hQ
    rw [← hx, ← hy] at hQ
    by_cases w2 : w = 2
    · rw [if_pos w2] at hQ ⊢; exact hQ
    · rw [if_neg w2] at hQ ⊢
      by_cases x0 : x = 0
      · rw [if_pos x0] at hQ ⊢; exact hQ
      · rw [if_neg x0] at hQ ⊢
        exact s_mlowest (a := y.toNat) (b := x.toNat) (by omega) (by omega) (by omega) (by omega) (by omega) hQ
  · rintro n c ⟨x, y, s⟩ hc ⟨hs, hx, hy⟩ ih
    dsimp only at hs hx hy ih ⊢
    have ih := fun b1 b2 (s1 : Mem) hh => ih (b1, b2, s1) hh
    dsimp only at ih
    subst hs
    have stN := sum_step (fun c => sumF (fun d => dbN σ (s 153) h m d c) c) c
    have stA := sum_step (fun c => sumF (fun d => dbA σ (s 153) h m d c) c) c
    have obN := oN c (by omega)
    have obA := oA c (by omega)
    rw [l_X12_guess_51, if_pos (by omega)]
    have KK := loop_0 (fun n2 (d : Nat) (t : Int × Int × Mem) => l_X12_guess_63 h m w c (fun x4_ x5_ x6_ σ_ => l_X12_guess_51 h m w Q n x4_ x5_ x6_ σ_) Q n2 t.1 t.2.1 d t.2.2) (fun d t => t.2.2 = s ∧ t.1 = x + sumF (fun d => dbN σ (s 153) h m d c) d ∧ t.2.1 = y + sumF (fun d => dbA σ (s 153) h m d c) d) c (x, y, s) ⟨rfl, by dsimp only; show x = x + 0; omega, by dsimp only; show y = y + 0; omega⟩ ?_ ?_
    · exact KK
    · rintro n2 ⟨u, v, t⟩ ⟨ht, hu, hv⟩
      dsimp only at ht hu hv ⊢
      subst ht
      rw [l_X12_guess_63, if_neg (by omega)]
      exact ⟨⟨by omega, by omega⟩, ih _ _ _ ⟨rfl, by rw [stN, hu, hx], by rw [stA, hv, hy]⟩⟩
    · rintro n2 d ⟨u, v, t⟩ hd ⟨ht, hu, hv⟩ jh
      dsimp only at ht hu hv jh ⊢
      have jh := fun b1 b2 (s1 : Mem) hh => jh (b1, b2, s1) hh
      dsimp only at jh
      subst ht
      have iN := sum_step (fun d => dbN σ (t 153) h m d c) d
      have iA := sum_step (fun d => dbA σ (t 153) h m d c) d
      have bN := rN c d
      have bA := rA c d (by omega) (by omega)
      have i1 : inR ((d : Int) + 1) := ⟨by omega, by omega⟩
      have uc := jI.c.2.2.2.2 c (by rw [h1.n]; omega)
      have ud := jI.c.2.2.2.2 d (by rw [h1.n]; omega)
      have mc := uc.2.2.2.2.2.2 m hm
      have md := ud.2.2.2.2.2.2 m hm
      have c23 := same_card h1 (j := 23 + 3 * c) (by omega) (by omega)
      have c25 := same_card h1 (j := 25 + 3 * c) (by omega) (by omega)
      have d23 := same_card h1 (j := 23 + 3 * d) (by omega) (by omega)
      have d25 := same_card h1 (j := 25 + 3 * d) (by omega) (by omega)
      rw [l_X12_guess_63, if_pos (by omega), show (4 * (c : Int) + m).toNat = 4 * c + m by omega, show (4 * (d : Int) + m).toNat = 4 * d + m by omega, Int.toNat_natCast, Int.toNat_natCast, mc.2.1, md.2.1, uc.1.1, ud.1.1, c23, d23, c25, d25]
      rw [c25] at mc; rw [d25] at md
      refine ⟨by omega, by omega, by omega, by omega, by omega, by omega, by omega, by omega, ?_⟩
      have skip : ¬ dbP σ (t 153) h m d c → inR ((d : Int) + 1) ∧ l_X12_guess_63 h m w c (fun x4_ x5_ x6_ σ_ => l_X12_guess_51 h m w Q n x4_ x5_ x6_ σ_) Q n2 u v (d + 1) t := by
        intro nd
        have z1 : dbN σ (t 153) h m d c = 0 := dbN_f nd
        have z2 : dbA σ (t 153) h m d c = 0 := dbA_f nd
        exact ⟨i1, jh _ _ _ ⟨rfl, by rw [iN, z1]; omega, by rw [iA, z2]; omega⟩⟩
      unfold j_X12_guess_140
      rw [Int.toNat_natCast, Int.toNat_natCast]
      have x7 : ∀ R1 R2 : Prop, (¬ (¬ σ (23 + 3 * d) 0 = σ (23 + 3 * c) 0 ∧ (σ (23 + 3 * d) 0 = h ∨ σ (23 + 3 * c) 0 = h)) → R1) → ((¬ σ (23 + 3 * d) 0 = σ (23 + 3 * c) 0 ∧ (σ (23 + 3 * d) 0 = h ∨ σ (23 + 3 * c) 0 = h)) → R2) → (if (if σ (23 + 3 * c) 0 = σ (23 + 3 * d) 0 then (0 : Int) else (if σ (23 + 3 * c) 0 = h then 1 else (if σ (23 + 3 * d) 0 = h then 1 else 0))) = 0 then R1 else R2) := by
        intro R1 R2 r1 r2
        by_cases q0 : σ (23 + 3 * c) 0 = σ (23 + 3 * d) 0
        · rw [if_pos q0, if_pos rfl]; exact r1 (fun z => z.1 q0.symm)
        · rw [if_neg q0]
          by_cases q1 : σ (23 + 3 * c) 0 = h
          · rw [if_pos q1, if_neg (by decide)]; exact r2 ⟨fun z => q0 z.symm, Or.inr q1⟩
          · rw [if_neg q1]
            by_cases q2 : σ (23 + 3 * d) 0 = h
            · rw [if_pos q2, if_neg (by decide)]; exact r2 ⟨fun z => q0 z.symm, Or.inl q2⟩
            · rw [if_neg q2, if_pos rfl]; exact r1 (fun z => by rcases z.2 with z | z; exact q2 z; exact q1 z)
      refine x7 _ _ (fun q => skip (fun z => q ⟨z.2.2.1, z.2.1⟩)) (fun q => ?_)
      refine ⟨by omega, by omega, ?_⟩
      by_cases q3 : t 153 c = -4
      · rw [if_pos q3]; exact skip (fun z => z.2.2.2.2.2.1 (by rw [z.2.2.2.2.2.2]; exact q3))
      · rw [if_neg q3]
        refine ⟨by omega, by omega, ?_⟩
        by_cases q4 : t 153 c = t 153 d
        rotate_left
        · rw [if_neg q4]; exact skip (fun z => q4 z.2.2.2.2.2.2.symm)
        rw [if_pos q4]
        by_cases q5 : 0 < σ (25 + 3 * c) m
        rotate_left
        · rw [if_neg q5]; exact skip (fun z => q5 z.2.2.2.2.1)
        rw [if_pos q5]
        by_cases q6 : 0 < σ (25 + 3 * d) m
        rotate_left
        · rw [if_neg q6]; exact skip (fun z => q6 z.2.2.2.1)
        rw [if_pos q6]
        have D : dbP σ (t 153) h m d c := ⟨hd, q.2, q.1, q6, q5, by rw [← q4]; exact q3, q4.symm⟩
        have z1 : dbN σ (t 153) h m d c = 1 := dbN_t D
        have z2 : dbA σ (t 153) h m d c = iabs (σ (25 + 3 * d) m - σ (25 + 3 * c) m) := dbA_t D
        by_cases q7 : σ (25 + 3 * c) m < σ (25 + 3 * d) m
        · rw [if_pos q7]
          have z3 : iabs (σ (25 + 3 * d) m - σ (25 + 3 * c) m) = σ (25 + 3 * d) m - σ (25 + 3 * c) m := by unfold iabs; rw [if_neg (by omega)]
          exact ⟨⟨by omega, by omega⟩, ⟨by omega, by omega⟩, i1, jh _ _ _ ⟨rfl, by rw [iN, z1]; omega, by rw [iA, z2, z3]; omega⟩⟩
        · rw [if_neg q7]
          have z3 : iabs (σ (25 + 3 * d) m - σ (25 + 3 * c) m) = σ (25 + 3 * c) m - σ (25 + 3 * d) m := by unfold iabs; split <;> omega
          exact ⟨⟨by omega, by omega⟩, ⟨by omega, by omega⟩, i1, jh _ _ _ ⟨rfl, by rw [iN, z1]; omega, by rw [iA, z2, z3]; omega⟩⟩
theorem db_congr {σ : Mem} {l l2 : Nat → Int} {h : Int} {m n : Nat} (e : ∀ c, c < n → l c = l2 c) : dbNs σ l h m n = dbNs σ l2 h m n ∧ dbAs σ l h m n = dbAs σ l2 h m n := by
  have q : ∀ c d, c < n → d < n → (dbP σ l h m c d ↔ dbP σ l2 h m c d) := fun c d hc hd => by unfold dbP; rw [e c hc, e d hd]
  refine ⟨sumF_congr (fun c hc => sumF_congr (fun d hd => ?_)), sumF_congr (fun c hc => sumF_congr (fun d hd => ?_))⟩
  · by_cases x : dbP σ l h m c d
    · rw [dbN_t x, dbN_t ((q c d hc hd).mp x)]
    · rw [dbN_f x, dbN_f (fun z => x ((q c d hc hd).mpr z))]
  · by_cases x : dbP σ l h m c d
    · rw [dbA_t x, dbA_t ((q c d hc hd).mp x)]
    · rw [dbA_f x, dbA_f (fun z => x ((q c d hc hd).mpr z))]
theorem db_rng {σ : Mem} (hI : INVc σ) {l : Nat → Int} {h : Int} {m : Nat} (hm : m < 4) : 0 ≤ dbNs σ l h m (σ 16 2).toNat ∧ dbNs σ l h m (σ 16 2).toNat ≤ 576 ∧ 0 ≤ dbAs σ l h m (σ 16 2).toNat ∧ dbAs σ l h m (σ 16 2).toNat ≤ 575424 := by
  have n24 := hI.c.2.2.1
  have rN : ∀ c k : Nat, 0 ≤ sumF (dbN σ l h m c) k ∧ sumF (dbN σ l h m c) k ≤ k * 1 := fun c k => sumF_rng (fun _ _ => dbN_rng)
  have rA : ∀ c k : Nat, c < (σ 16 2).toNat → k ≤ (σ 16 2).toNat → 0 ≤ sumF (dbA σ l h m c) k ∧ sumF (dbA σ l h m c) k ≤ k * 999 := fun c k hc hk => sumF_rng (fun d hd => dbA_rng hI hm hc (by omega))
  have oN : 0 ≤ dbNs σ l h m (σ 16 2).toNat ∧ dbNs σ l h m (σ 16 2).toNat ≤ (σ 16 2).toNat * 24 := sumF_rng (fun c _ => by have := rN c (σ 16 2).toNat; omega)
  have oA : 0 ≤ dbAs σ l h m (σ 16 2).toNat ∧ dbAs σ l h m (σ 16 2).toNat ≤ (σ 16 2).toNat * 23976 := sumF_rng (fun c hc => by have := rA c (σ 16 2).toNat (by omega) (Nat.le_refl _); omega)
  omega
theorem f_guess {σ : Mem} (hI : INV σ) (h m w : Int) : v_X11_guess h m w σ (fun r1 σ1 => v_X12_guess h m w σ1 (fun r2 σ2 => r1 = r2 ∧ INV σ2)) := by
  have n24 := hI.c.2.2.1
  have no : ¬ ((0 ≤ h ∧ h ≤ 5) ∧ (0 ≤ m ∧ m ≤ 3) ∧ (0 ≤ w ∧ w ≤ 2)) → v_X12_guess h m w σ (fun r2 σ2 => (-1 : Int) = r2 ∧ INV σ2) := by
    intro nV
    unfold v_X12_guess
    by_cases c1 : 0 ≤ h ∧ h ≤ 5
    · rw [s_in_t c1, if_neg (by decide)]
      by_cases c2 : 0 ≤ m ∧ m ≤ 3
      · rw [s_in_t c2, if_neg (by decide), s_in_f (fun z => nV ⟨c1, c2, z⟩), if_pos rfl]; exact ⟨rfl, hI⟩
      · rw [s_in_f c2, if_pos rfl]; exact ⟨rfl, hI⟩
    · rw [s_in_f c1, if_pos rfl]; exact ⟨rfl, hI⟩
  unfold v_X11_guess
  by_cases c1 : 0 ≤ h ∧ h ≤ 5
  rotate_left
  · rw [s_isHand_f c1, if_pos rfl]; exact no (fun z => c1 z.1)
  rw [s_isHand_t c1, if_neg (by decide)]
  by_cases c2 : 0 ≤ m ∧ m ≤ 3
  rotate_left
  · rw [s_isMeasure_f c2, if_pos rfl]; exact no (fun z => c2 z.2.1)
  rw [s_isMeasure_t c2, if_neg (by decide)]
  by_cases c3 : 0 ≤ w ∧ w ≤ 2
  rotate_left
  · by_cases z : w < 0
    · rw [if_pos z]; exact no (fun z => c3 z.2.2)
    · rw [if_neg z, if_pos (by omega)]; exact no (fun z => c3 z.2.2)
  rw [if_neg (by omega), if_neg (by omega)]
  obtain ⟨k, rfl⟩ : ∃ k : Nat, m = k := ⟨m.toNat, by omega⟩
  refine s_gather hI.k (fun ω h1 hF => s_findD hI.k h1 rfl (by omega) (fun s g1 g2 g3 => ?_))
  have rg := db_rng hI.k (l := ω 104) (h := h) (m := k) (by omega)
  have model : ∀ r : Int, gueA (dbNs σ (ω 104) h k (σ 16 2).toNat) (dbAs σ (ω 104) h k (σ 16 2).toNat) w (fun r2 => r = r2) → v_X12_guess h k w s (fun r2 σ2 => r = r2 ∧ INV σ2) := by
    intro r hr
    unfold v_X12_guess
    rw [s_in_t c1, if_neg (by decide), s_in_t c2, if_neg (by decide), s_in_t c3, if_neg (by decide)]
    refine s_layMen hI.k g1 (fun ψ k1 k2 => s_gueLoop hI.k k1 rfl (by omega) ?_)
    have e := db_congr (σ := σ) (l := ω 104) (l2 := ψ 153) (h := h) (m := k) (n := (σ 16 2).toNat) (fun c hc => hF.uni k2 (by omega))
    rw [← e.1, ← e.2]
    have kI := inv_core k1 hI
    unfold gueA at hr ⊢
    by_cases w2 : w = 2
    · rw [if_pos w2] at hr ⊢; exact ⟨hr, kI⟩
    · rw [if_neg w2] at hr ⊢
      by_cases x0 : dbNs σ (ω 104) h k (σ 16 2).toNat = 0
      · rw [if_pos x0] at hr ⊢; exact ⟨hr, kI⟩
      · rw [if_neg x0] at hr ⊢; exact ⟨hr, kI⟩
  rw [g2, g3]
  by_cases w2 : w = 2
  · rw [if_pos w2]; exact model _ (by unfold gueA; rw [if_pos w2])
  · rw [if_neg w2]
    by_cases x0 : dbNs σ (ω 104) h k (σ 16 2).toNat = 0
    · rw [if_pos x0]; exact model _ (by unfold gueA; rw [if_neg w2, if_pos x0])
    · rw [if_neg x0]
      exact s_lowest (a := (dbAs σ (ω 104) h k (σ 16 2).toNat).toNat) (b := (dbNs σ (ω 104) h k (σ 16 2).toNat).toNat) (by omega) (by omega) (by omega) (by omega) (by omega) (model _ (by unfold gueA; rw [if_neg w2, if_neg x0]))
