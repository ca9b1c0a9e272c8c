/-! PURE FACTS, 22: lowest terms, by chance -/
theorem tmod_nat (a b : Nat) : Int.tmod (a : Int) (b : Int) = ((a % b : Nat) : Int) := rfl
theorem tdiv_nat (a b : Nat) : Int.tdiv (a : Int) (b : Int) = ((a / b : Nat) : Int) := rfl
def lowF (a b : Nat) (w : Int) : Int := (((if w = 0 then a else b) / Nat.gcd a b : Nat) : Int)
theorem lcmp_00 : lcmpI ((0 : Nat) : Int) 0 = 0 := lcmp_eq.mpr rfl
theorem inL_nat {a : Nat} (h : a < 4611686018427387904) : inL (a : Int) := ⟨by omega, by omega⟩
theorem div_lt {a g B : Nat} (h : a < B) : a / g < B := Nat.lt_of_le_of_lt (Nat.div_le_self a g) h
theorem s_low_j {a b : Nat} {w : Int} {σ : Mem} {Q : Int → Mem → Prop} (ha : a < 4611686018427387904) (hb : b < 4611686018427387904) (hp : 0 < b) (h : Q (lowF a b w) σ) : j_X11_lowest_44 a b w Q (Nat.gcd a b : Nat) σ := by
  have g := Nat.gcd_pos_of_pos_right a hp
  unfold j_X11_lowest_44
  rw [if_neg (by rw [lcmp_eq]; omega), tdiv_nat, tdiv_nat]
  unfold lowF at h
  by_cases z : w = 0
  · rw [if_pos z]; rw [if_pos z] at h
    exact ⟨by omega, inL_nat (div_lt ha), h⟩
  · rw [if_neg z]; rw [if_neg z] at h
    exact ⟨by omega, inL_nat (div_lt hb), h⟩
theorem s_lowC {p0 p2 w : Int} {σ : Mem} {Q : Int → Mem → Prop} {g : Nat} (K : j_X11_lowest_44 p0 p2 w Q g σ) : ∀ k n a b i : Nat, b < 2 ^ k → a < 4611686018427387904 → b < 4611686018427387904 → i + 2 * k ≤ 100 → Nat.gcd a b = g → 2 * k + 1 ≤ n → l_X11_lowest_9 p0 p2 w Q n a b i σ := by
  intro k
  induction k with
  | zero =>
    intro n a b i hb ha hb2 hi hg hn
    have b0 : b = 0 := by simpa using hb
    subst b0
    rw [Nat.gcd_zero_right] at hg
    subst hg
    obtain ⟨n, rfl⟩ : ∃ m, n = m + 1 := ⟨n - 1, by omega⟩
    rw [l_X11_lowest_9]
    by_cases c : (i : Int) < 100
    · rw [if_pos c, if_pos lcmp_00]; exact K
    · rw [if_neg c]; exact K
  | succ k ih =>
    intro n a b i hb ha hb2 hi hg hn
    obtain ⟨n, rfl⟩ : ∃ m, n = m + 1 := ⟨n - 1, by omega⟩
    rw [l_X11_lowest_9, if_pos (by omega)]
    by_cases z : b = 0
    · subst z
      rw [Nat.gcd_zero_right] at hg
      subst hg
      rw [if_pos lcmp_00]; exact K
    · have l1 : a % b < b := Nat.mod_lt _ (by omega)
      rw [if_neg (by rw [lcmp_eq]; omega), tmod_nat]
      refine ⟨by omega, inL_nat (by omega), ⟨by omega, by omega⟩, ?_⟩
      obtain ⟨n, rfl⟩ : ∃ m, n = m + 1 := ⟨n - 1, by omega⟩
      have hg2 : Nat.gcd b (a % b) = g := by rw [← hg, Nat.gcd_comm a b, Nat.gcd_rec b a, Nat.gcd_comm]
      rw [l_X11_lowest_9, if_pos (by omega)]
      by_cases z2 : a % b = 0
      · rw [z2, Nat.gcd_zero_right] at hg2
        rw [z2]
        subst hg2
        rw [if_pos lcmp_00]; exact K
      · have l2 : b % (a % b) < a % b := Nat.mod_lt _ (by omega)
        have e2 : 2 ^ (k + 1) = 2 * 2 ^ k := by rw [Nat.pow_succ, Nat.mul_comm]
        have l3 : 2 * (b % (a % b)) < b := by
          have d := Nat.div_add_mod b (a % b)
          have q : 0 < b / (a % b) := Nat.div_pos (by omega) (by omega)
          have m : a % b * 1 ≤ a % b * (b / (a % b)) := Nat.mul_le_mul_left _ q
          omega
        rw [if_neg (by rw [lcmp_eq]; omega), tmod_nat]
        refine ⟨by omega, inL_nat (by omega), ⟨by omega, by omega⟩, ?_⟩
        have e : (i : Int) + 1 + 1 = ((i + 2 : Nat) : Int) := by omega
        rw [e]
        refine ih n (a % b) (b % (a % b)) (i + 2) (by omega) (by omega) (by omega) (by omega) ?_ (by omega)
        rw [← hg2, Nat.gcd_comm b (a % b), Nat.gcd_rec (a % b) b, Nat.gcd_comm]
theorem s_lowest {p0 p2 : Int} {a b : Nat} {w : Int} {σ : Mem} {Q : Int → Mem → Prop} (e0 : p0 = a) (e2 : p2 = b) (ha : a < 4611686018427387904) (hb : b < 562949953421312) (hp : 0 < b) (h : Q (lowF a b w) σ) : v_X11_lowest p0 p2 w σ Q := by
  subst e0; subst e2
  exact ⟨2 * 49 + 1, s_lowC (s_low_j ha (by omega) hp h) 49 _ a b 0 (by omega) ha (by omega) (by omega) rfl (Nat.le_refl _)⟩
theorem s_mlowest {p0 p2 : Int} {a b : Nat} {w : Int} {σ : Mem} {Q : Int → Mem → Prop} (e0 : p0 = a) (e2 : p2 = b) (ha : a < 4611686018427387904) (hb : b < 562949953421312) (hp : 0 < b) (h : Q (lowF a b w) σ) : v_X12_lowest p0 p2 w σ Q := by
  subst e0; subst e2
  have gp := Nat.gcd_pos_of_pos_right a hp
  have main : ∀ n x y : Nat, y < n → x < 4611686018427387904 → y < 4611686018427387904 → Nat.gcd x y = Nat.gcd a b → l_X12_lowest_6 a b w Q n x y σ := by
    intro n
    induction n with
    | zero => intro x y hy; omega
    | succ n ih =>
      intro x y hy hx hy2 hg
      rw [l_X12_lowest_6]
      by_cases z : y = 0
      · subst z
        rw [Nat.gcd_zero_right] at hg
        rw [if_pos lcmp_00, hg, tdiv_nat, tdiv_nat]
        unfold lowF at h
        by_cases z : w = 0
        · rw [if_pos z]; rw [if_pos z] at h
          exact ⟨by omega, inL_nat (div_lt ha), h⟩
        · rw [if_neg z]; rw [if_neg z] at h
          exact ⟨by omega, inL_nat (div_lt (by omega)), h⟩
      · have l1 : x % y < y := Nat.mod_lt _ (by omega)
        rw [if_neg (by rw [lcmp_eq]; omega), tmod_nat]
        refine ⟨by omega, inL_nat (by omega), ih y (x % y) (by omega) hy2 (by omega) ?_⟩
        rw [← hg, Nat.gcd_comm x y, Nat.gcd_rec y x, Nat.gcd_comm]
  exact ⟨b + 1, main (b + 1) a b (by omega) ha (by omega) rfl⟩
/-- by chance -/
abbrev nearP (σ : Mem) (m : Nat) : Nat → Prop := fun c => ¬ σ (23 + 3 * c) 5 = -4 ∧ 0 < σ (25 + 3 * c) m ∧ ¬ σ 15 (8 + σ 95 1).toNat < iabs (σ (25 + 3 * c) m - σ 96 m)
abbrev keptP (σ : Mem) : Nat → Prop := fun k => ¬ outP σ k
theorem s_near {σ : Mem} {m : Nat} {p : Int} {Q : Int → Mem → Prop} (hI : INV σ) (ht : ¬ σ 95 0 = 0) (hp : p = m) (hm : m < 4) (h : Q (cntF (nearP σ m) (σ 16 2).toNat : Nat) σ) : v_X10_near p σ Q := by
  subst hp
  obtain ⟨t1, t2, t3, t4⟩ := tellD hI.kt ht
  obtain ⟨a1, a2, a3, a4, a5⟩ := hI.c
  have tm := t4 m hm
  unfold v_X10_near
  refine s_spreadOf ⟨t2, t3⟩ ?_
  refine lp1a (l_X10_near_18 m (σ 15 (8 + σ 95 1).toNat) Q) (fun k a s => a = (cntF (nearP σ m) k : Nat) ∧ s = σ) (σ 16 2).toNat 0 σ ⟨rfl, rfl⟩ ?_ ?_
  · rintro n a b ⟨rfl, rfl⟩
    rw [l_X10_near_18, if_neg (by omega)]; exact h
  · rintro n k a b hk ⟨ha, hb⟩ ih
    subst hb
    have x := a5 k (by omega)
    have am := (x.2.2.2.2.2.2 m hm).2
    have le := cntF_le (P := nearP b m) k
    have st := cnt_step (nearP b m) k
    rw [l_X10_near_18, if_pos (by omega), Int.toNat_natCast]
    refine ⟨by omega, by omega, ?_⟩
    rw [s_isOut]
    unfold j_X10_near_59 j_X10_near_94
    have no : ¬ nearP b m k → v_X11_bit 0 b (fun r2 σ3 => inR (a + r2) ∧ inR ((k : Int) + 1) ∧ l_X10_near_18 m (b 15 (8 + b 95 1).toNat) Q n (a + r2) (k + 1) σ3) := by
      intro z
      rw [if_neg z] at st
      rw [s_bit, if_pos rfl]
      exact ⟨⟨by omega, by omega⟩, ⟨by omega, by omega⟩, ih _ _ ⟨by omega, rfl⟩⟩
    by_cases g : b (23 + 3 * k) 5 = -4
    · rw [if_pos g, if_neg (show ¬ (1 : Int) = 0 by decide), if_pos rfl]
      exact no (fun z => z.1 g)
    · rw [if_neg g, if_pos rfl, Int.toNat_natCast]
      refine ⟨by omega, by omega, ?_⟩
      by_cases g2 : 0 < b (25 + 3 * k) m
      · rw [if_pos g2, if_neg (show ¬ (1 : Int) = 0 by decide)]
        have ia : 0 ≤ iabs (b (25 + 3 * k) m - b 96 m) ∧ iabs (b (25 + 3 * k) m - b 96 m) ≤ 999 := by
          unfold iabs; split <;> omega
        refine ⟨by omega, by omega, ⟨by omega, by omega⟩, ⟨by omega, by omega⟩, ?_⟩
        by_cases g3 : b 15 (8 + b 95 1).toNat < iabs (b (25 + 3 * k) m - b 96 m)
        · rw [if_pos g3]; exact no (fun z => z.2.2 g3)
        · rw [if_neg g3, s_bit, if_neg (show ¬ (1 : Int) = 0 by decide)]
          rw [if_pos ⟨g, g2, g3⟩] at st
          exact ⟨⟨by omega, by omega⟩, ⟨by omega, by omega⟩, ih _ _ ⟨by omega, rfl⟩⟩
      · rw [if_neg g2, if_pos rfl]; exact no (fun z => g2 z.2.1)
def ovF (σ : Mem) : Nat → Nat
  | 0 => cntF (keptP σ) (σ 16 2).toNat
  | m + 1 => if 0 < σ 96 m then ovF σ m * cntF (nearP σ m) (σ 16 2).toNat else ovF σ m
def unF (σ : Mem) : Nat → Nat
  | 0 => 1
  | m + 1 => if 0 < σ 96 m then unF σ m * cntF (keptP σ) (σ 16 2).toNat else unF σ m
theorem ovF_le {σ : Mem} (h : σ 16 2 ≤ 24) : ∀ m, ovF σ m ≤ 24 ^ (m + 1) := by
  intro m
  induction m with
  | zero => have := cntF_le (P := keptP σ) (σ 16 2).toNat; show cntF (keptP σ) (σ 16 2).toNat ≤ 24 ^ 1; omega
  | succ m ih =>
    have c := cntF_le (P := nearP σ m) (σ 16 2).toNat
    show (if 0 < σ 96 m then ovF σ m * cntF (nearP σ m) (σ 16 2).toNat else ovF σ m) ≤ 24 ^ (m + 1 + 1)
    rw [Nat.pow_succ]
    split
    · exact Nat.mul_le_mul ih (by omega)
    · omega
theorem unF_le {σ : Mem} (h : σ 16 2 ≤ 24) (h0 : 0 < cntF (keptP σ) (σ 16 2).toNat) : ∀ m, unF σ m ≤ 24 ^ m ∧ 0 < unF σ m := by
  intro m
  induction m with
  | zero => exact ⟨Nat.le_refl _, Nat.one_pos⟩
  | succ m ih =>
    have c := cntF_le (P := keptP σ) (σ 16 2).toNat
    show (if 0 < σ 96 m then unF σ m * cntF (keptP σ) (σ 16 2).toNat else unF σ m) ≤ 24 ^ (m + 1) ∧ 0 < (if 0 < σ 96 m then unF σ m * cntF (keptP σ) (σ 16 2).toNat else unF σ m)
    rw [Nat.pow_succ]
    split
    · exact ⟨Nat.mul_le_mul ih.1 (by omega), Nat.mul_pos ih.2 h0⟩
    · exact ⟨by omega, ih.2⟩
theorem pow24 {m : Nat} (h : m ≤ 4) : 24 ^ (m + 1) ≤ 7962624 ∧ 24 ^ m ≤ 331776 := by
  have : m = 0 ∨ m = 1 ∨ m = 2 ∨ m = 3 ∨ m = 4 := by omega
  rcases this with rfl | rfl | rfl | rfl | rfl <;> exact ⟨by decide, by decide⟩
theorem a_byChance {σ : Mem} {p : Int} {Q : Int → Mem → Prop} (hI : INV σ) (hp : 0 ≤ p ∧ p ≤ 1) (ht : ¬ σ 95 0 = 0) (h0 : cntF (keptP σ) (σ 16 2).toNat = 0 → Q (-4) σ) (h1 : 0 < cntF (keptP σ) (σ 16 2).toNat → Q (lowF (ovF σ 4) (unF σ 4) p) σ) : v_X11_byChance p σ Q := by
  obtain ⟨t1, t2, t3, t4⟩ := tellD hI.kt ht
  have n24 := hI.c.2.2.1
  unfold v_X11_byChance
  rw [if_neg (by omega), if_neg (by omega), if_neg ht]
  refine s_kept hI ?_
  by_cases z : cntF (keptP σ) (σ 16 2).toNat = 0
  · rw [if_pos (by exact Int.ofNat_eq_zero.mpr z)]; exact h0 z
  · have z0 : 0 < cntF (keptP σ) (σ 16 2).toNat := by omega
    rw [if_neg (fun y => z (Int.ofNat_eq_zero.mp y))]
    refine lp2a (fun n a b i s => l_X11_byChance_52 p (cntF (keptP σ) (σ 16 2).toNat : Nat) Q n a b i s) (fun k a b s => s = σ ∧ a = (ovF σ k : Nat) ∧ b = (unF σ k : Nat)) 4 (cntF (keptP σ) (σ 16 2).toNat : Nat) 1 σ ⟨rfl, rfl, rfl⟩ ?_ ?_
    · rintro n a b s ⟨rfl, rfl, rfl⟩
      try dsimp only
      have u := unF_le n24 z0 4
      have o := ovF_le n24 4
      have pw := pow24 (m := 4) (by omega)
      rw [l_X11_byChance_52, if_neg (by decide)]
      exact s_lowest rfl rfl (by omega) (by omega) u.2 (h1 z0)
    · rintro n k a b s hk ⟨hs, ha, hb⟩ ih
      subst hs
      try dsimp only
      have u := unF_le n24 z0 (k + 1)
      have o := ovF_le n24 (k + 1)
      have pw := pow24 (m := k + 1) (by omega)
      have eo : ovF s (k + 1) = if 0 < s 96 k then ovF s k * cntF (nearP s k) (s 16 2).toNat else ovF s k := rfl
      have eu : unF s (k + 1) = if 0 < s 96 k then unF s k * cntF (keptP s) (s 16 2).toNat else unF s k := rfl
      rw [l_X11_byChance_52, if_pos (by omega), Int.toNat_natCast]
      refine ⟨by omega, by omega, ?_⟩
      by_cases g : 0 < s 96 k
      · rw [if_pos g] at eo eu
        rw [if_pos g]
        refine s_near hI ht rfl hk ?_
        have e1 : a * (cntF (nearP s k) (s 16 2).toNat : Nat) = (ovF s (k + 1) : Nat) := by rw [ha, eo, Int.natCast_mul]
        have e2 : b * (cntF (keptP s) (s 16 2).toNat : Nat) = (unF s (k + 1) : Nat) := by rw [hb, eu, Int.natCast_mul]
        rw [e1, e2]
        exact ⟨⟨by omega, by omega⟩, ⟨by omega, by omega⟩, ⟨by omega, by omega⟩, ih _ _ _ ⟨rfl, rfl, rfl⟩⟩
      · rw [if_neg g] at eo eu
        rw [if_neg g]
        exact ⟨⟨by omega, by omega⟩, ih _ _ _ ⟨rfl, by rw [eo]; exact ha, by rw [eu]; exact hb⟩⟩
theorem b_byChance {σ : Mem} {p : Int} {Q : Int → Mem → Prop} (hI : INV σ) (hp : 0 ≤ p ∧ p ≤ 1) (ht : ¬ σ 95 0 = 0) (h0 : cntF (keptP σ) (σ 16 2).toNat = 0 → Q (-4) σ) (h1 : 0 < cntF (keptP σ) (σ 16 2).toNat → Q (lowF (ovF σ 4) (unF σ 4) p) σ) : v_X12_byChance p σ Q := by
  obtain ⟨t1, t2, t3, t4⟩ := tellD hI.kt ht
  obtain ⟨a1, a2, a3, a4, a5⟩ := hI.c
  have nr := (now_rng hI.k).2.1 (8 + σ 95 1).toNat (by omega) (by omega)
  unfold v_X12_byChance
  rw [s_in_t hp, if_neg (by decide), if_neg (by omega)]
  refine lp1a (fun n a i s => l_X12_byChance_31 p Q n a i s) (fun k a s => s = σ ∧ a = (cntF (keptP σ) k : Nat)) (σ 16 2).toNat 0 σ ⟨rfl, rfl⟩ ?_ ?_
  · rintro n a s ⟨rfl, rfl⟩
    try dsimp only
    rw [l_X12_byChance_31, if_neg (by omega)]
    by_cases z : cntF (keptP s) (s 16 2).toNat = 0
    · rw [if_pos (by exact Int.ofNat_eq_zero.mpr z)]; exact h0 z
    · have z0 : 0 < cntF (keptP s) (s 16 2).toNat := by omega
      rw [if_neg (fun y => z (Int.ofNat_eq_zero.mp y)), t1]
      refine s_mspread hI.r (by omega) ?_
      have e : ruleF s (8 + s 95 1) (s 122 0) = s 15 (8 + s 95 1).toNat := by
        rw [show (8 : Int) + s 95 1 = (((8 + s 95 1).toNat : Nat) : Int) by omega, now_r hI.n _ (by omega), Int.toNat_natCast]
      rw [e]
      generalize hS : s 15 (8 + s 95 1).toNat = S at nr
      refine lp2a (fun n a b i t => l_X12_byChance_92 p (cntF (keptP s) (s 16 2).toNat : Nat) S Q n a b i t) (fun k a b t => t = s ∧ a = (ovF s k : Nat) ∧ b = (unF s k : Nat)) 4 (cntF (keptP s) (s 16 2).toNat : Nat) 1 s ⟨rfl, rfl, rfl⟩ ?_ ?_
      · rintro n a b t ⟨rfl, rfl, rfl⟩
        try dsimp only
        have u := unF_le a3 z0 4
        have o := ovF_le a3 4
        have pw := pow24 (m := 4) (by omega)
        rw [l_X12_byChance_92, if_neg (by decide)]
        exact s_mlowest rfl rfl (by omega) (by omega) u.2 (h1 z0)
      · rintro n_ k a b t hk ⟨ht2, ha, hb⟩ ih
        subst ht2
        try dsimp only
        have u := unF_le a3 z0 (k + 1)
        have o := ovF_le a3 (k + 1)
        have pw := pow24 (m := k + 1) (by omega)
        have eo : ovF t (k + 1) = if 0 < t 96 k then ovF t k * cntF (nearP t k) (t 16 2).toNat else ovF t k := rfl
        have eu : unF t (k + 1) = if 0 < t 96 k then unF t k * cntF (keptP t) (t 16 2).toNat else unF t k := rfl
        have tm := t4 k hk
        rw [l_X12_byChance_92, if_pos (by omega), Int.toNat_natCast, tm.1]
        refine ⟨by omega, by omega, ?_⟩
        by_cases g : 0 < t 96 k
        · rw [if_pos g] at eo eu
          rw [if_pos g]
          refine lp1a (fun n x i w => l_X12_byChance_114 p (cntF (keptP t) (t 16 2).toNat : Nat) S a b k (fun x4_ x6_ x8_ σ_ => l_X12_byChance_92 p (cntF (keptP t) (t 16 2).toNat : Nat) S Q n_ x4_ x6_ x8_ σ_) Q n x i w) (fun c x w => w = t ∧ x = (cntF (nearP t k) c : Nat)) (t 16 2).toNat 0 t ⟨rfl, rfl⟩ ?_ ?_
          · rintro n x w ⟨rfl, rfl⟩
            try dsimp only
            have e1 : a * (cntF (nearP w k) (w 16 2).toNat : Nat) = (ovF w (k + 1) : Nat) := by rw [ha, eo, Int.natCast_mul]
            have e2 : b * (cntF (keptP w) (w 16 2).toNat : Nat) = (unF w (k + 1) : Nat) := by rw [hb, eu, Int.natCast_mul]
            rw [l_X12_byChance_114, if_neg (by omega), e1, e2]
            exact ⟨⟨by omega, by omega⟩, ⟨by omega, by omega⟩, ⟨by omega, by omega⟩, ih _ _ _ ⟨rfl, rfl, rfl⟩⟩
          · rintro n c x w hc ⟨hw, hx⟩ jh
            subst hw
            try dsimp only
            have y := a5 c (by omega)
            have am := (y.2.2.2.2.2.2 k hk).2
            have le := cntF_le (P := nearP w k) c
            have st := cnt_step (nearP w k) c
            have no : ¬ nearP w k c → j_X12_byChance_186 p (fun x4_ x6_ x8_ σ_ => l_X12_byChance_92 p (cntF (keptP w) (w 16 2).toNat : Nat) S Q n_ x4_ x6_ x8_ σ_) (fun x9_ x10_ σ_ => l_X12_byChance_114 p (cntF (keptP w) (w 16 2).toNat : Nat) S a b k (fun x4_ x6_ x8_ σ_ => l_X12_byChance_92 p (cntF (keptP w) (w 16 2).toNat : Nat) S Q n_ x4_ x6_ x8_ σ_) Q n x9_ x10_ σ_) Q (cntF (keptP w) (w 16 2).toNat : Nat) S a b k c x w := by
              intro z
              rw [if_neg z] at st
              exact ⟨⟨by omega, by omega⟩, ⟨by omega, by omega⟩, jh _ _ ⟨rfl, by omega⟩⟩
            rw [l_X12_byChance_114, if_pos (by omega), show (4 * (c : Int) + k).toNat = 4 * c + k by omega, Int.toNat_natCast, am.1]
            refine ⟨by omega, by omega, s_mOut rfl (by omega) ?_⟩
            rw [y.2.2.2.2.2.1.1]
            by_cases g1 : w (23 + 3 * c) 5 = -4
            · rw [if_pos g1, if_neg (by decide)]; exact no (fun z => z.1 g1)
            · rw [if_neg g1, if_pos rfl]
              by_cases g2 : 0 < w (25 + 3 * c) k
              · rw [if_pos g2, tm.1]
                refine ⟨by omega, by omega, ⟨by omega, by omega⟩, ⟨by omega, by omega⟩, ?_⟩
                have ia : (w 96 k - S ≤ w (25 + 3 * c) k ∧ w (25 + 3 * c) k ≤ w 96 k + S) ↔ ¬ S < iabs (w (25 + 3 * c) k - w 96 k) := by
                  unfold iabs; split <;> omega
                by_cases g3 : w 96 k - S ≤ w (25 + 3 * c) k ∧ w (25 + 3 * c) k ≤ w 96 k + S
                · rw [s_in_t g3, if_neg (by decide)]
                  have np : nearP w k c := ⟨g1, g2, by rw [hS]; exact ia.mp g3⟩
                  rw [if_pos np] at st
                  exact ⟨⟨by omega, by omega⟩, ⟨by omega, by omega⟩, jh _ _ ⟨rfl, by omega⟩⟩
                · rw [s_in_f g3, if_pos rfl]
                  exact no (fun z => g3 (ia.mpr (by rw [← hS]; exact z.2.2)))
              · rw [if_neg g2]; exact no (fun z => g2 z.2.1)
        · rw [if_neg g] at eo eu
          rw [if_neg g]
          exact ⟨⟨by omega, by omega⟩, ih _ _ _ ⟨rfl, by rw [eo]; exact ha, by rw [eu]; exact hb⟩⟩
  · rintro n k a s hk ⟨hs, ha⟩ ih
    subst hs
    try dsimp only
    have x := a5 k (by omega)
    have le := cntF_le (P := keptP s) k
    have st := cnt_step (keptP s) k
    rw [l_X12_byChance_31, if_pos (by omega)]
    refine s_mOut rfl (by omega) ?_
    rw [x.2.2.2.2.2.1.1]
    by_cases g : s (23 + 3 * k) 5 = -4
    · rw [if_pos g, if_neg (by decide)]
      rw [if_neg (fun z => z g)] at st
      exact ⟨⟨by omega, by omega⟩, ⟨by omega, by omega⟩, ih _ _ ⟨rfl, by omega⟩⟩
    · rw [if_neg g, if_pos rfl]
      rw [if_pos g] at st
      exact ⟨⟨by omega, by omega⟩, ⟨by omega, by omega⟩, ih _ _ ⟨rfl, by omega⟩⟩
theorem f_byChance {σ : Mem} (hI : INV σ) (p : Int) : v_X11_byChance p σ (fun r1 σ1 => v_X12_byChance p σ1 (fun r2 σ2 => r1 = r2 ∧ INV σ2)) := by
  by_cases c : 0 ≤ p ∧ p ≤ 1
  · by_cases ht : σ 95 0 = 0
    · unfold v_X11_byChance
      rw [if_neg (by omega), if_neg (by omega), if_pos ht]
      unfold v_X12_byChance
      dsimp only
      rw [s_in_t c, if_neg (by decide), if_pos (tellN hI.kt ht)]; exact ⟨rfl, hI⟩
    · refine a_byChance hI c ht (fun z => b_byChance hI c ht (fun _ => ⟨rfl, hI⟩) (fun y => absurd z (by omega))) (fun z => b_byChance hI c ht (fun y => absurd z (by omega)) (fun _ => ⟨rfl, hI⟩))
  · have no : v_X12_byChance p σ (fun r2 σ2 => (-1 : Int) = r2 ∧ INV σ2) := by
      unfold v_X12_byChance
      rw [s_in_f c, if_pos rfl]; exact ⟨rfl, hI⟩
    unfold v_X11_byChance
    by_cases z : p < 0
    · rw [if_pos z]; exact no
    · rw [if_neg z, if_pos (by omega)]; exact no
