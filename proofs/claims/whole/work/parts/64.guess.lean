/-! PURE FACTS, 33: men, guess -/
theorem mx_congr {f g : Nat → Nat} : ∀ n : Nat, (∀ k, k < n → f k = g k) → mxF f n = mxF g n := by
  intro n
  induction n with
  | zero => intro _; rfl
  | succ n ih =>
    intro h
    show (if mxF f n < f n then f n else mxF f n) = (if mxF g n < g n then g n else mxF g n)
    rw [ih (fun k hk => h k (by omega)), h n (by omega)]
theorem s_menLoop {ψ : Mem} {p : Int} {Q : Int → Mem → Prop} (hI : INVc ψ) (hp : (0 ≤ p ∧ p ≤ 2) ∨ (10 ≤ p ∧ p - 10 < ψ 16 2)) (h0 : p = 0 → Q (cntF (fun c => 0 < ownF (ψ 153) (ψ 16 2).toNat c) (ψ 16 2).toNat : Nat) ψ) (h1 : p = 1 → Q (mxF (ownF (ψ 153) (ψ 16 2).toNat) (ψ 16 2).toNat : Nat) ψ) (h2 : p = 2 → Q (sumF (fun c => sumF (quM ψ (ψ 153) c) (ψ 16 2).toNat) (ψ 16 2).toNat) ψ) (h3 : 10 ≤ p → Q (ψ 153 (p - 10).toNat) ψ) : ∃ n_, l_X12_men_47 p Q n_ 0 0 0 0 ψ := by
  have n24 := hI.c.2.2.1
  have n0 := hI.c.2.1
  have en := hI.eqn
  have rin : ∀ c k : Nat, 0 ≤ sumF (quM ψ (ψ 153) c) k ∧ sumF (quM ψ (ψ 153) c) k ≤ k * 1 := fun c k => sumF_rng (fun _ _ => quM_rng)
  have rout : ∀ k : Nat, 0 ≤ sumF (fun c => sumF (quM ψ (ψ 153) c) (ψ 16 2).toNat) k ∧ sumF (fun c => sumF (quM ψ (ψ 153) c) (ψ 16 2).toNat) k ≤ k * 24 := fun k => sumF_rng (fun c _ => by have := rin c (ψ 16 2).toNat; omega)
  have LL := loop_0 (fun n (c : Nat) (s : Int × Int × Int × Mem) => l_X12_men_47 p Q n s.1 s.2.1 s.2.2.1 c s.2.2.2) (fun c s => s.2.2.2 = ψ ∧ s.1 = (cntF (fun c => 0 < ownF (ψ 153) (ψ 16 2).toNat c) c : Nat) ∧ s.2.1 = (mxF (ownF (ψ 153) (ψ 16 2).toNat) c : Nat) ∧ s.2.2.1 = sumF (fun c => sumF (quM ψ (ψ 153) c) (ψ 16 2).toNat) c) (ψ 16 2).toNat (0, 0, 0, ψ) ⟨rfl, rfl, rfl, rfl⟩ ?_ ?_
  · exact LL
  · rintro n ⟨x, y, z, s⟩ ⟨hs, hx, hy, hz⟩
    dsimp only at hs hx hy hz ⊢
    subst hs
    rw [l_X12_men_47, if_neg (by omega)]
    by_cases p0 : p = 0
    · rw [if_pos p0, hx]; exact h0 p0
    rw [if_neg p0]
    by_cases p1 : p = 1
    · rw [if_pos p1, hy]; exact h1 p1
    rw [if_neg p1]
    by_cases p2 : p = 2
    · rw [if_pos p2, hz]; exact h2 p2
    rw [if_neg p2]
    exact ⟨by omega, by omega, h3 (by omega)⟩
  · rintro n c ⟨x, y, z, s⟩ hc ⟨hs, hx, hy, hz⟩ ih
    dsimp only at hs hx hy hz ih ⊢
    have ih := fun b1 b2 b3 (s1 : Mem) hh => ih (b1, b2, b3, s1) hh
    dsimp only at ih
    subst hs
    have ro := rout c
    have lx := cntF_le (P := fun c => 0 < ownF (s 153) (s 16 2).toNat c) c
    have stx := cnt_step (fun c => 0 < ownF (s 153) (s 16 2).toNat c) c
    have stz := sum_step (fun c => sumF (quM s (s 153) c) (s 16 2).toNat) c
    have sty : mxF (ownF (s 153) (s 16 2).toNat) (c + 1) = if mxF (ownF (s 153) (s 16 2).toNat) c < ownF (s 153) (s 16 2).toNat c then ownF (s 153) (s 16 2).toNat c else mxF (ownF (s 153) (s 16 2).toNat) c := rfl
    rw [l_X12_men_47, if_pos (by omega)]
    have KK := loop_0 (fun n2 (d : Nat) (t : Int × Int × Mem) => l_X12_men_62 p x y c (fun x2_ x3_ x4_ x5_ σ_ => l_X12_men_47 p Q n x2_ x3_ x4_ x5_ σ_) Q n2 t.1 t.2.1 d t.2.2) (fun d t => t.2.2 = s ∧ t.1 = z + sumF (quM s (s 153) c) d ∧ t.2.1 = (ownF (s 153) d c : Nat)) (s 16 2).toNat (z, 0, s) ⟨rfl, by dsimp only; show z = z + 0; omega, rfl⟩ ?_ ?_
    · exact KK
    · rintro n2 ⟨u, v, t⟩ ⟨ht, hu, hv⟩
      dsimp only at ht hu hv ⊢
      subst ht
      have lo := cntF_le (P := fun d => t 153 d = (c : Int)) (t 16 2).toNat
      rw [l_X12_men_62, if_neg (by omega)]
      unfold j_X12_men_172
      have g1 : x + (if 0 < v then 1 else 0) = (cntF (fun c => 0 < ownF (t 153) (t 16 2).toNat c) (c + 1) : Nat) := by
        rw [stx]
        by_cases q : 0 < ownF (t 153) (t 16 2).toNat c
        · rw [if_pos q, if_pos (by omega)]; omega
        · rw [if_neg q, if_neg (by omega)]; omega
      have g2 : u = sumF (fun c => sumF (quM t (t 153) c) (t 16 2).toNat) (c + 1) := by rw [stz, hu, hz]
      have ri : inR (x + (if 0 < v then 1 else 0)) := by split <;> exact ⟨by omega, by omega⟩
      by_cases q : y < v
      · rw [if_pos q]
        exact ⟨ri, ⟨by omega, by omega⟩, ih _ _ _ _ ⟨rfl, g1, by rw [sty, if_pos (by omega)]; exact hv, g2⟩⟩
      · rw [if_neg q]
        exact ⟨ri, ⟨by omega, by omega⟩, ih _ _ _ _ ⟨rfl, g1, by rw [sty, if_neg (by omega)]; exact hy, g2⟩⟩
    · rintro n2 d ⟨u, v, t⟩ hd ⟨ht, hu, hv⟩ jh
      dsimp only at ht hu hv jh ⊢
      have jh := fun b1 b2 (s1 : Mem) hh => jh (b1, b2, s1) hh
      dsimp only at jh
      subst ht
      have lo := cntF_le (P := fun d => t 153 d = (c : Int)) d
      have sto := cnt_step (fun d => t 153 d = (c : Int)) d
      have hv : v = (cntF (fun d => t 153 d = (c : Int)) d : Nat) := hv
      have stq := sum_step (quM t (t 153) c) d
      have ri := rin c d
      rw [l_X12_men_62, if_pos (by omega), Int.toNat_natCast]
      refine ⟨by omega, by omega, ?_⟩
      have go : v + (if t 153 d = (c : Int) then 1 else 0) = (ownF (t 153) (d + 1) c : Nat) := by
        show _ = ((cntF (fun d => t 153 d = (c : Int)) (d + 1) : Nat) : Int)
        by_cases q : t 153 d = (c : Int)
        · rw [if_pos q] at sto ⊢; omega
        · rw [if_neg q] at sto ⊢; omega
      have rv : inR (v + (if t 153 d = (c : Int) then 1 else 0)) := by
        by_cases q : t 153 d = (c : Int)
        · rw [if_pos q]; exact ⟨by omega, by omega⟩
        · rw [if_neg q]; exact ⟨by omega, by omega⟩
      have i1 : inR ((d : Int) + 1) := ⟨by omega, by omega⟩
      have no : ¬ (d < c ∧ oneP (t 153) c d ∧ ¬ t 147 (24 * c + d) = 0) → inR (v + (if t 153 d = (c : Int) then 1 else 0)) ∧ j_X12_men_151 p (fun x2_ x3_ x4_ x5_ σ_ => l_X12_men_47 p Q n x2_ x3_ x4_ x5_ σ_) (fun x4_ x6_ x7_ σ_ => l_X12_men_62 p x y c (fun x2_ x3_ x4_ x5_ σ_ => l_X12_men_47 p Q n x2_ x3_ x4_ x5_ σ_) Q n2 x4_ x6_ x7_ σ_) Q x y c (v + (if t 153 d = (c : Int) then 1 else 0)) d u t := by
        intro q
        have e : quM t (t 153) c d = 0 := by unfold quM; rw [if_neg q]
        exact ⟨rv, ⟨by omega, by omega⟩, i1, jh _ _ _ ⟨rfl, by rw [stq, e]; omega, go⟩⟩
      unfold j_X12_men_90
      rw [Int.toNat_natCast, Int.toNat_natCast]
      by_cases c1 : (d : Int) < c
      · rw [if_pos c1]
        refine ⟨by omega, by omega, ?_⟩
        by_cases c2 : t 153 c = -4
        · rw [if_pos c2]; exact no (fun w => w.2.1.1 c2)
        · rw [if_neg c2]
          refine ⟨by omega, by omega, ?_⟩
          by_cases c3 : t 153 c = t 153 d
          · rw [if_pos c3, show (24 * (c : Int) + d).toNat = 24 * c + d by omega]
            refine ⟨by omega, by omega, ?_⟩
            by_cases c4 : t 147 (24 * c + d) = 0
            · rw [if_pos c4]; exact no (fun w => w.2.2 c4)
            · rw [if_neg c4]
              have e : quM t (t 153) c d = 1 := by unfold quM; rw [if_pos ⟨by omega, ⟨c2, c3⟩, c4⟩]
              exact ⟨⟨by omega, by omega⟩, rv, i1, jh _ _ _ ⟨rfl, by rw [stq, e]; omega, go⟩⟩
          · rw [if_neg c3]; exact no (fun w => c3 w.2.1.2)
      · rw [if_neg c1]; exact no (fun w => c1 (by omega))
abbrev menV (σ : Mem) (p : Int) : Prop := (0 ≤ p ∧ p ≤ 2) ∨ (10 ≤ p ∧ p - 10 < σ 16 2)
theorem f_men {σ : Mem} (hI : INV σ) (p : Int) (hp : inR p) : v_X11_men p σ (fun r1 σ1 => v_X12_men p σ1 (fun r2 σ2 => r1 = r2 ∧ INV σ2)) := by
  have n24 := hI.c.2.2.1
  have n0 := hI.c.2.1
  have no : ¬ menV σ p → v_X12_men p σ (fun r2 σ2 => (-1 : Int) = r2 ∧ INV σ2) := by
    intro nV
    have en := hI.eqn
    unfold v_X12_men
    rw [s_in_f (fun z => nV (Or.inl z)), if_pos rfl]
    refine ⟨⟨by omega, by omega⟩, ?_⟩
    rw [s_in_f (fun z => nV (Or.inr (by omega))), if_pos rfl]; exact ⟨rfl, hI⟩
  have main : menV σ p → ∀ x2 : Int, (x2 = 0 ↔ p < 10) → j_X11_men_41 p (fun r1 σ1 => v_X12_men p σ1 (fun r2 σ2 => r1 = r2 ∧ INV σ2)) x2 σ := by
    intro V x2 hx
    unfold j_X11_men_41
    refine s_gather hI.k (fun ω h1 hF => ?_)
    have jI := inv_core h1 hI
    have en : ω 122 24 = σ 16 2 := by rw [h1 122 24 rfl]; exact hI.eqn
    have wn := h1.n
    have model : ∀ r : Int, (∀ ψ : Mem, SAME σ ψ → FinL σ (ψ 153) → (p = 0 → r = (cntF (fun c => 0 < ownF (ψ 153) (ψ 16 2).toNat c) (ψ 16 2).toNat : Nat)) ∧ (p = 1 → r = (mxF (ownF (ψ 153) (ψ 16 2).toNat) (ψ 16 2).toNat : Nat)) ∧ (p = 2 → r = sumF (fun c => sumF (quM ψ (ψ 153) c) (ψ 16 2).toNat) (ψ 16 2).toNat) ∧ (10 ≤ p → r = ψ 153 (p - 10).toNat)) → v_X12_men p ω (fun r2 σ2 => r = r2 ∧ INV σ2) := by
      intro r hr
      have goM : j_X12_men_33 p (fun r2 σ2 => r = r2 ∧ INV σ2) ω := by
        unfold j_X12_men_33
        refine s_layMen hI.k h1 (fun ψ g1 g2 => ?_)
        have R := hr ψ g1 g2
        have kI := inv_core g1 hI
        exact s_menLoop kI.k (by rw [g1.n]; exact V) (fun z => ⟨R.1 z, kI⟩) (fun z => ⟨R.2.1 z, kI⟩) (fun z => ⟨R.2.2.1 z, kI⟩) (fun z => ⟨R.2.2.2 z, kI⟩)
      unfold v_X12_men
      by_cases c : 0 ≤ p ∧ p ≤ 2
      · rw [s_in_t c, if_neg (by decide)]; exact goM
      · rw [s_in_f c, if_pos rfl]
        refine ⟨⟨by omega, by omega⟩, ?_⟩
        rw [s_in_t (by rcases V with z | z; exact absurd z c; omega), if_neg (by decide)]; exact goM
    have agree : ∀ ψ : Mem, FinL σ (ψ 153) → ∀ c : Nat, c < (σ 16 2).toNat → ω 104 c = ψ 153 c := fun ψ g c hc => hF.uni g (by omega)
    by_cases x0 : x2 = 0
    · rw [if_pos x0]
      have p10 := hx.mp x0
      have p2 : 0 ≤ p ∧ p ≤ 2 := by rcases V with z | z; exact z; omega
      by_cases p0 : p = 0
      · rw [if_pos p0]
        refine s_number (by rw [wn]; exact ⟨n0, n24⟩) (model _ (fun ψ g1 g2 => ⟨fun _ => ?_, fun z => by omega, fun z => by omega, fun z => by omega⟩))
        rw [wn, g1.n, ← num_eq g2]
        congr 1
        exact cntF_congr (fun k hk => by rw [agree ψ g2 k hk])
      · rw [if_neg p0]
        by_cases p1 : p = 1
        · rw [if_pos p1]
          refine s_greatest (by rw [wn]; exact ⟨n0, n24⟩) (model _ (fun ψ g1 g2 => ⟨fun z => by omega, fun _ => ?_, fun z => by omega, fun z => by omega⟩))
          rw [wn, g1.n, grt_eq hF]
          congr 1
          exact mx_congr _ (fun k hk => cntF_congr (fun d hd => by rw [agree ψ g2 d hd]))
        · rw [if_neg p1]
          refine s_quarrels jI.b (by rw [wn]; exact ⟨n0, n24⟩) (model _ (fun ψ g1 g2 => ⟨fun z => by omega, fun z => by omega, fun _ => ?_, fun z => by omega⟩))
          have kI := inv_core g1 hI
          rw [← qua_eq kI.b (by rw [g1.n]; exact n24), wn, g1.n]
          refine sumF_congr (fun c hc => sumF_congr (fun d hd => ?_))
          unfold quC oneP
          rw [agree ψ g2 c hc, agree ψ g2 d hd, h1 18 _ rfl, g1 18 _ rfl]
    · rw [if_neg x0]
      have p10 : 10 ≤ p := by
        rcases Int.lt_or_le p 10 with z | z
        · exact absurd (hx.mpr z) x0
        · exact z
      have pn : p - 10 < σ 16 2 := by rcases V with z | z <;> omega
      refine ⟨by omega, by omega, model _ (fun ψ g1 g2 => ⟨fun z => by omega, fun z => by omega, fun z => by omega, fun _ => agree ψ g2 _ (by omega)⟩)⟩
  unfold v_X11_men
  by_cases c : p < 10
  · rw [if_pos c]
    unfold j_X11_men_25
    rw [if_pos rfl]
    by_cases c2 : p < 0
    · rw [if_pos c2]; exact no (by unfold menV; omega)
    · rw [if_neg c2]
      by_cases c3 : 2 < p
      · rw [if_pos c3]; exact no (by unfold menV; omega)
      · rw [if_neg c3]; exact main (Or.inl (by omega)) 0 ⟨fun _ => c, fun _ => rfl⟩
  · rw [if_neg c]
    refine ⟨⟨by omega, by omega⟩, ?_⟩
    unfold j_X11_men_25
    by_cases c2 : p - 10 < σ 16 2
    · rw [s_has_t ⟨by omega, c2⟩, if_neg (show ¬ (1 : Int) = 0 by decide), if_neg (by decide)]
      exact main (Or.inr ⟨by omega, c2⟩) 1 ⟨fun z => absurd z (by decide), fun z => absurd z c⟩
    · rw [s_has_f (fun z => c2 z.2), if_pos rfl, if_pos rfl, if_neg (by omega), if_pos (by omega)]
      exact no (by unfold menV; omega)
/-- doubles -/
def dbP (σ : Mem) (l : Nat → Int) (h : Int) (m c d : Nat) : Prop := c < d ∧ (σ (23 + 3 * c) 0 = h ∨ σ (23 + 3 * d) 0 = h) ∧ ¬ σ (23 + 3 * c) 0 = σ (23 + 3 * d) 0 ∧ 0 < σ (25 + 3 * c) m ∧ 0 < σ (25 + 3 * d) m ∧ ¬ l c = -4 ∧ l c = l d
noncomputable def dbN (σ : Mem) (l : Nat → Int) (h : Int) (m c d : Nat) : Int := by
  classical
  exact if dbP σ l h m c d then 1 else 0
noncomputable def dbA (σ : Mem) (l : Nat → Int) (h : Int) (m c d : Nat) : Int := by
  classical
  exact if dbP σ l h m c d then iabs (σ (25 + 3 * c) m - σ (25 + 3 * d) m) else 0
theorem dbN_t {σ : Mem} {l : Nat → Int} {h : Int} {m c d : Nat} (x : dbP σ l h m c d) : dbN σ l h m c d = 1 := if_pos x
theorem dbN_f {σ : Mem} {l : Nat → Int} {h : Int} {m c d : Nat} (x : ¬ dbP σ l h m c d) : dbN σ l h m c d = 0 := if_neg x
theorem dbA_t {σ : Mem} {l : Nat → Int} {h : Int} {m c d : Nat} (x : dbP σ l h m c d) : dbA σ l h m c d = iabs (σ (25 + 3 * c) m - σ (25 + 3 * d) m) := if_pos x
theorem dbA_f {σ : Mem} {l : Nat → Int} {h : Int} {m c d : Nat} (x : ¬ dbP σ l h m c d) : dbA σ l h m c d = 0 := if_neg x
theorem dbN_rng {σ : Mem} {l : Nat → Int} {h : Int} {m c d : Nat} : 0 ≤ dbN σ l h m c d ∧ dbN σ l h m c d ≤ 1 := by
  by_cases x : dbP σ l h m c d
  · rw [dbN_t x]; omega
  · rw [dbN_f x]; omega
theorem dbA_rng {σ : Mem} (hI : INVc σ) {l : Nat → Int} {h : Int} {m c d : Nat} (hm : m < 4) (hc : c < (σ 16 2).toNat) (hd : d < (σ 16 2).toNat) : 0 ≤ dbA σ l h m c d ∧ dbA σ l h m c d ≤ 999 := by
  by_cases x : dbP σ l h m c d
  · rw [dbA_t x]
    have a := (hI.c.2.2.2.2 c (by omega)).2.2.2.2.2.2 m hm
    have b := (hI.c.2.2.2.2 d (by omega)).2.2.2.2.2.2 m hm
    unfold iabs; split <;> omega
  · rw [dbA_f x]; omega
noncomputable def dbNs (σ : Mem) (l : Nat → Int) (h : Int) (m n : Nat) : Int := sumF (fun c => sumF (dbN σ l h m c) n) n
noncomputable def dbAs (σ : Mem) (l : Nat → Int) (h : Int) (m n : Nat) : Int := sumF (fun c => sumF (dbA σ l h m c) n) n
