/-! PURE FACTS, 16: misses, joined cards -/
def oneF (σ : Mem) (c : Nat) (t : Nat → Int) (m : Nat) : Int := imax 0 (imax (σ (25 + 3 * c) m - t m) (t m - growF σ c m (σ 15 (14 + m)) (σ 14 2)))
def missG (σ : Mem) (c : Nat) (t : Nat → Int) (s : Int) : Nat → Int → Int
  | 0, a => a
  | k + 1, a => if 0 < t (3 - k) ∧ 0 < σ (25 + 3 * c) (3 - k) then (if s < oneF σ c t (3 - k) then -4 else missG σ c t s k (a + oneF σ c t (3 - k))) else missG σ c t s k a
theorem imax_0 (x : Int) : 0 ≤ imax 0 x := by unfold imax; split <;> omega
theorem imax_le {x y z : Int} (h : x ≤ z) (h2 : y ≤ z) : imax x y ≤ z := by unfold imax; split <;> omega
theorem oneF_rng {σ : Mem} (hI : INVc σ) {c m : Nat} {t : Nat → Int} (hc : (c : Int) < σ 16 2) (hm : m < 4) (ht : 0 ≤ t m ∧ t m ≤ 999) : 0 ≤ oneF σ c t m ∧ oneF σ c t m ≤ 999 := by
  have a := hI.c.2.2.2.2 c hc
  have am := (a.2.2.2.2.2.2 m hm).2
  have hn := hI.n
  have nr := (now_rng hI.k).2.2.1 (14 + m) (by omega) (by omega)
  have g := growF_rng hI.k hc hm nr (d := σ 14 2) ⟨a.2.2.2.1.2.2, hn.2.2.1⟩
  exact ⟨imax_0 _, imax_le (by omega) (imax_le (by omega) (by omega))⟩
theorem s_missT {σ : Mem} {c : Nat} {s : Int} {Q : Int → Mem → Prop} (hI : INV σ) (hc : (c : Int) < σ 16 2) (ht : ∀ m, m < 4 → 0 ≤ σ 96 m ∧ σ 96 m ≤ 999) (h : Q (if σ (23 + 3 * c) 5 = -4 then -4 else missG σ c (σ 96) s 4 0) σ) : v_X1_miss_t c s σ Q := by
  unfold v_X1_miss_t
  rw [s_isOut]
  by_cases g : σ (23 + 3 * c) 5 = -4
  · rw [if_pos g, if_neg (by decide)]; rw [if_pos g] at h; exact h
  · rw [if_neg g, if_pos rfl]; rw [if_neg g] at h
    have a := hI.c.2.2.2.2 c hc
    have hn := hI.n
    refine lp1a (l_X1_miss_t_16 c s Q) (fun k x τ => τ = σ ∧ 0 ≤ x ∧ x ≤ 999 * k ∧ missG σ c (σ 96) s (4 - k) x = missG σ c (σ 96) s 4 0) 4 0 σ ⟨rfl, by omega, by omega, rfl⟩ ?_ ?_
    · rintro n x τ ⟨rfl, h1, h2, h3⟩
      rw [l_X1_miss_t_16, if_neg (by decide)]
      rw [← h3] at h; exact h
    · rintro n k x τ hk ⟨hτ, h1, h2, h3⟩ ih
      subst hτ
      have am := (a.2.2.2.2.2.2 k hk).2
      have tm := ht k hk
      have nr := (now_rng hI.k).2.2.1 (14 + k) (by omega) (by omega)
      have gr := growF_rng hI.k hc hk nr (d := τ 14 2) ⟨a.2.2.2.1.2.2, hn.2.2.1⟩
      have or := oneF_rng hI.k (t := τ 96) hc hk tm
      have st : missG τ c (τ 96) s (4 - k) x = if 0 < τ 96 k ∧ 0 < τ (25 + 3 * c) k then (if s < oneF τ c (τ 96) k then -4 else missG τ c (τ 96) s (4 - (k + 1)) (x + oneF τ c (τ 96) k)) else missG τ c (τ 96) s (4 - (k + 1)) x := by
        rw [show 4 - k = (4 - (k + 1)) + 1 by omega, missG, show 3 - (4 - (k + 1)) = k by omega]
      rw [l_X1_miss_t_16, if_pos (by omega), Int.toNat_natCast]
      refine ⟨by omega, by omega, ?_⟩
      by_cases q1 : 0 < τ 96 k
      · rw [if_pos q1]
        by_cases q2 : 0 < τ (25 + 3 * c) k
        · rw [if_pos q2, show (14 + (k : Int)).toNat = 14 + k by omega]
          rw [if_pos ⟨q1, q2⟩] at st
          refine ⟨by omega, by omega, s_canM hI.k rfl hc hk nr ⟨a.2.2.2.1.2.2, hn.2.2.1⟩ ?_⟩
          refine ⟨⟨by omega, by omega⟩, ⟨by omega, by omega⟩, ?_⟩
          show if s < oneF τ c (τ 96) k then _ else _
          by_cases q3 : s < oneF τ c (τ 96) k
          · rw [if_pos q3]
            rw [if_pos q3] at st
            rw [← h3, st] at h; exact h
          · rw [if_neg q3]
            rw [if_neg q3] at st
            exact ⟨⟨by show -2147483648 ≤ x + oneF τ c (τ 96) k; omega, by show x + oneF τ c (τ 96) k ≤ 2147483647; omega⟩, ⟨by omega, by omega⟩, ih _ _ ⟨rfl, by show 0 ≤ x + oneF τ c (τ 96) k; omega, by show x + oneF τ c (τ 96) k ≤ _; omega, by rw [← h3, st]; rfl⟩⟩
        · rw [if_neg q2]
          rw [if_neg (fun z => q2 z.2)] at st
          exact ⟨⟨by omega, by omega⟩, ih _ _ ⟨rfl, by omega, by omega, by rw [← h3, st]⟩⟩
      · rw [if_neg q1]
        rw [if_neg (fun z => q1 z.1)] at st
        exact ⟨⟨by omega, by omega⟩, ih _ _ ⟨rfl, by omega, by omega, by rw [← h3, st]⟩⟩
theorem s_missC {σ : Mem} {c e : Nat} {s : Int} {Q : Int → Mem → Prop} (hI : INVc σ) (hc : (c : Int) < σ 16 2) (he : (e : Int) < σ 16 2) (h : Q (if σ (23 + 3 * c) 5 = -4 then -4 else missG σ c (σ (25 + 3 * e)) s 4 0) σ) : v_X1_miss_c c e s σ Q := by
  unfold v_X1_miss_c
  rw [s_isOut]
  by_cases g : σ (23 + 3 * c) 5 = -4
  · rw [if_pos g, if_neg (by decide)]; rw [if_pos g] at h; exact h
  · rw [if_neg g, if_pos rfl]; rw [if_neg g] at h
    have a := hI.c.2.2.2.2 c hc
    have ae := hI.c.2.2.2.2 e he
    have hn := hI.n
    refine lp1a (l_X1_miss_c_16 c e s Q) (fun k x τ => τ = σ ∧ 0 ≤ x ∧ x ≤ 999 * k ∧ missG σ c (σ (25 + 3 * e)) s (4 - k) x = missG σ c (σ (25 + 3 * e)) s 4 0) 4 0 σ ⟨rfl, by omega, by omega, rfl⟩ ?_ ?_
    · rintro n x τ ⟨rfl, h1, h2, h3⟩
      rw [l_X1_miss_c_16, if_neg (by decide)]
      rw [← h3] at h; exact h
    · rintro n k x τ hk ⟨hτ, h1, h2, h3⟩ ih
      subst hτ
      have am := (a.2.2.2.2.2.2 k hk).2
      have tm := (ae.2.2.2.2.2.2 k hk).2.2
      have nr := (now_rng hI.k).2.2.1 (14 + k) (by omega) (by omega)
      have gr := growF_rng hI.k hc hk nr (d := τ 14 2) ⟨a.2.2.2.1.2.2, hn.2.2.1⟩
      have or := oneF_rng hI.k (t := τ (25 + 3 * e)) hc hk tm
      have st : missG τ c (τ (25 + 3 * e)) s (4 - k) x = if 0 < τ (25 + 3 * e) k ∧ 0 < τ (25 + 3 * c) k then (if s < oneF τ c (τ (25 + 3 * e)) k then -4 else missG τ c (τ (25 + 3 * e)) s (4 - (k + 1)) (x + oneF τ c (τ (25 + 3 * e)) k)) else missG τ c (τ (25 + 3 * e)) s (4 - (k + 1)) x := by
        rw [show 4 - k = (4 - (k + 1)) + 1 by omega, missG, show 3 - (4 - (k + 1)) = k by omega]
      rw [l_X1_miss_c_16, if_pos (by omega), Int.toNat_natCast]
      refine ⟨by omega, by omega, ?_⟩
      by_cases q1 : 0 < τ (25 + 3 * e) k
      · rw [if_pos q1]
        by_cases q2 : 0 < τ (25 + 3 * c) k
        · rw [if_pos q2, show (14 + (k : Int)).toNat = 14 + k by omega]
          rw [if_pos ⟨q1, q2⟩] at st
          refine ⟨by omega, by omega, s_canM hI.k rfl hc hk nr ⟨a.2.2.2.1.2.2, hn.2.2.1⟩ ?_⟩
          refine ⟨⟨by omega, by omega⟩, ⟨by omega, by omega⟩, ?_⟩
          show if s < oneF τ c (τ (25 + 3 * e)) k then _ else _
          by_cases q3 : s < oneF τ c (τ (25 + 3 * e)) k
          · rw [if_pos q3]
            rw [if_pos q3] at st
            rw [← h3, st] at h; exact h
          · rw [if_neg q3]
            rw [if_neg q3] at st
            exact ⟨⟨by show -2147483648 ≤ x + oneF τ c (τ (25 + 3 * e)) k; omega, by show x + oneF τ c (τ (25 + 3 * e)) k ≤ 2147483647; omega⟩, ⟨by omega, by omega⟩, ih _ _ ⟨rfl, by show 0 ≤ x + oneF τ c (τ (25 + 3 * e)) k; omega, by show x + oneF τ c (τ (25 + 3 * e)) k ≤ _; omega, by rw [← h3, st]; rfl⟩⟩
        · rw [if_neg q2]
          rw [if_neg (fun z => q2 z.2)] at st
          exact ⟨⟨by omega, by omega⟩, ih _ _ ⟨rfl, by omega, by omega, by rw [← h3, st]⟩⟩
      · rw [if_neg q1]
        rw [if_neg (fun z => q1 z.1)] at st
        exact ⟨⟨by omega, by omega⟩, ih _ _ ⟨rfl, by omega, by omega, by rw [← h3, st]⟩⟩
/-- the model's miss of what is tried -/
theorem s_missOf {σ : Mem} {c : Nat} {p : Int} {Q : Int → Mem → Prop} (hI : INV σ) (hp : p = c) (hc : (c : Int) < σ 16 2) (ht : ∀ m, m < 4 → 0 ≤ σ 152 m ∧ σ 152 m ≤ 999) (hs : 0 ≤ σ 122 47 ∧ σ 122 47 ≤ 40) (h : Q (if σ (23 + 3 * c) 5 = -4 then -4 else missG σ c (σ 152) (sprF σ c + σ 122 47) 4 0) σ) : v_X12_missOf p σ Q := by
  subst hp
  have n24 := hI.c.2.2.1
  have a := hI.c.2.2.2.2 c hc
  have hn := hI.n
  unfold v_X12_missOf
  refine s_mOut rfl (by omega) ?_
  rw [a.2.2.2.2.2.1.1]
  by_cases g : σ (23 + 3 * c) 5 = -4
  · rw [if_pos g, if_neg (by decide)]; rw [if_pos g] at h; exact h
  · rw [if_neg g, if_pos rfl]; rw [if_neg g] at h
    refine s_mspr hI rfl hc ?_
    have sr := sprF_rng hI.k hc
    refine ⟨⟨by omega, by omega⟩, ?_⟩
    generalize hS : sprF σ c + σ 122 47 = S at h
    refine lp1a (l_X12_missOf_27 c S Q) (fun k x τ => τ = σ ∧ 0 ≤ x ∧ x ≤ 999 * k ∧ missG σ c (σ 152) S (4 - k) x = missG σ c (σ 152) S 4 0) 4 0 σ ⟨rfl, by omega, by omega, rfl⟩ ?_ ?_
    · rintro n x τ ⟨rfl, h1, h2, h3⟩
      rw [l_X12_missOf_27, if_neg (by decide)]
      rw [← h3] at h; exact h
    · rintro n k x τ hk ⟨hτ, h1, h2, h3⟩ ih
      subst hτ
      have am := (a.2.2.2.2.2.2 k hk).2
      have tm := ht k hk
      have nr := (now_rng hI.k).2.2.1 (14 + k) (by omega) (by omega)
      have gr := growF_rng hI.k hc hk nr (d := τ 14 2) ⟨a.2.2.2.1.2.2, hn.2.2.1⟩
      have or := oneF_rng hI.k (t := τ 152) hc hk tm
      have st : missG τ c (τ 152) S (4 - k) x = if 0 < τ 152 k ∧ 0 < τ (25 + 3 * c) k then (if S < oneF τ c (τ 152) k then -4 else missG τ c (τ 152) S (4 - (k + 1)) (x + oneF τ c (τ 152) k)) else missG τ c (τ 152) S (4 - (k + 1)) x := by
        rw [show 4 - k = (4 - (k + 1)) + 1 by omega, missG, show 3 - (4 - (k + 1)) = k by omega]
      rw [l_X12_missOf_27, if_pos (by omega), show (4 * (c : Int) + k).toNat = 4 * c + k by omega, Int.toNat_natCast, am.1]
      refine ⟨by omega, by omega, ?_⟩
      by_cases q2 : 0 < τ (25 + 3 * c) k
      · rw [if_pos q2]
        refine ⟨by omega, by omega, ?_⟩
        by_cases q1 : 0 < τ 152 k
        · rw [if_pos q1]
          rw [if_pos ⟨q1, q2⟩] at st
          refine s_mgrown hI rfl rfl hc hk (by rw [hn.1]; exact ⟨a.2.2.2.1.2.2, hn.2.2.1⟩) ?_
          have e14 : ruleF τ (14 + (k : Int)) (τ 122 0) = τ 15 (14 + k) := by
            rw [← now_r hn (14 + k) (by omega)]; congr 1
          rw [e14, hn.1]
          have go : ∀ w, w = oneF τ c (τ 152) k → j_X12_missOf_115 c (fun x3_ x4_ σ_ => l_X12_missOf_27 c S Q n x3_ x4_ σ_) Q S x k w τ := by
            intro w hw
            subst hw
            unfold j_X12_missOf_115
            by_cases q3 : S < oneF τ c (τ 152) k
            · rw [if_pos q3]
              rw [if_pos q3] at st
              rw [← h3, st] at h; exact h
            · rw [if_neg q3]
              rw [if_neg q3] at st
              exact ⟨⟨by omega, by omega⟩, ⟨by omega, by omega⟩, ih _ _ ⟨rfl, by omega, by omega, by rw [← h3, st]⟩⟩
          refine ⟨⟨by omega, by omega⟩, ?_⟩
          have eo : oneF τ c (τ 152) k = imax 0 (imax (τ (25 + 3 * c) k - τ 152 k) (τ 152 k - growF τ c k (τ 15 (14 + k)) (τ 14 2))) := rfl
          generalize growF τ c k (τ 15 (14 + k)) (τ 14 2) = G at gr eo ⊢
          by_cases q4 : 0 < τ 152 k - G
          · rw [if_pos q4]
            refine go _ ?_
            rw [eo]; unfold imax; repeat' split
            all_goals omega
          · rw [if_neg q4]
            refine ⟨⟨by omega, by omega⟩, go _ ?_⟩
            rw [eo]; unfold imax; repeat' split
            all_goals omega
        · rw [if_neg q1]
          rw [if_neg (fun z => q1 z.1)] at st
          exact ⟨⟨by omega, by omega⟩, ih _ _ ⟨rfl, by omega, by omega, by rw [← h3, st]⟩⟩
      · rw [if_neg q2]
        rw [if_neg (fun z => q2 z.2)] at st
        exact ⟨⟨by omega, by omega⟩, ih _ _ ⟨rfl, by omega, by omega, by rw [← h3, st]⟩⟩
