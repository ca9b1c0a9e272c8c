/-! PURE FACTS, 19b: the model over less of the tie -/
theorem s_msprC {σ : Mem} {Q : Int → Mem → Prop} (hI : INVc σ) {c : Nat} {p : Int} (hp : p = c) (hc : (c : Int) < σ 16 2) (h : Q (sprF σ c) σ) : v_X12_spreadAt p σ Q := by
  have a := hI.c.2.2.2.2 c hc
  have n := hI.c.2.2.1
  have g := sprF_rng hI.k hc
  unfold v_X12_spreadAt
  rw [show p.toNat = c by omega]
  refine ⟨by omega, by omega, s_mspread hI.r (by omega) ?_⟩
  have e : ruleF σ (8 + σ 136 c) (σ 122 0) = σ 15 (8 + σ (23 + 3 * c) 0).toNat := by
    rw [← now_r hI.n (8 + σ (23 + 3 * c) 0).toNat (by omega), a.1.1]
    congr 1; omega
  rw [e, a.2.1.1]
  unfold sprF at h g
  by_cases q : σ (23 + 3 * c) 1 = 2
  · rw [if_pos q]; rw [if_pos q] at h g
    refine s_mother hI.r ?_
    rw [show ruleF σ 19 (σ 122 0) = σ 15 19 from now_r hI.n 19 (by omega)]
    exact ⟨⟨by omega, by omega⟩, h⟩
  · rw [if_neg q]; rw [if_neg q] at h g; exact ⟨⟨by omega, by omega⟩, h⟩
theorem s_mgrownC {σ : Mem} {Q : Int → Mem → Prop} (hI : INVc σ) {c m : Nat} {p1 p2 d : Int} (hp : p1 = c) (hp2 : p2 = m) (hc : (c : Int) < σ 16 2) (hm : m < 4) (hd : σ (23 + 3 * c) 3 ≤ d ∧ d ≤ 9999) (h : Q (growF σ c m (ruleF σ (14 + m) d) d) σ) : v_X12_grownOf p1 p2 d σ Q := by
  have a := hI.c.2.2.2.2 c hc
  have n := hI.c.2.2.1
  have am := (a.2.2.2.2.2.2 m hm).2
  have rr := (ruleF_rng (d := d) hI.r (r := 14 + m) (by omega)).2.2.1 (by omega) (by omega)
  have gr := grow_rng rr (n := d - σ (23 + 3 * c) 3) (by omega)
  unfold v_X12_grownOf
  rw [show p1.toNat = c by omega, show (4 * p1 + p2).toNat = 4 * c + m by omega, am.1]
  unfold growF at h
  refine ⟨by omega, by omega, ?_⟩
  by_cases q : σ (25 + 3 * c) m = 0
  · rw [if_pos q]; rw [if_pos q] at h; exact h
  · rw [if_neg q]; rw [if_neg q] at h
    refine ⟨by omega, by omega, ?_⟩
    rw [a.2.1.1]
    by_cases q2 : σ (23 + 3 * c) 1 = 1
    · rw [if_pos q2]; rw [if_pos q2] at h
      refine s_mgrow hI.r (by omega) ?_
      rw [hp2, a.2.2.2.1.1]
      exact ⟨⟨by omega, by omega⟩, ⟨by omega, by omega⟩, h⟩
    · rw [if_neg q2]; rw [if_neg q2] at h; exact h
theorem s_missOfC {σ : Mem} {c : Nat} {p : Int} {Q : Int → Mem → Prop} (hI : INVc σ) (hp : p = c) (hc : (c : Int) < σ 16 2) (ht : ∀ m, m < 4 → 0 ≤ σ 152 m ∧ σ 152 m ≤ 999) (hs : 0 ≤ σ 122 47 ∧ σ 122 47 ≤ 40) (h : Q (if σ (23 + 3 * c) 5 = -4 then -4 else missG σ c (σ 152) (sprF σ c + σ 122 47) 4 0) σ) : v_X12_missOf p σ Q := by
  subst hp
  have n24 := hI.c.2.2.1
  have a := hI.c.2.2.2.2 c hc
  have hn := hI.n
  unfold v_X12_missOf
  refine s_mOut rfl (by omega) ?_
  rw [a.2.2.2.2.2.1.1]
  by_cases g : σ (23 + 3 * c) 5 = -4
  · rw [if_pos g, if_neg (by decide)]; rw [if_pos g] at h; exact h
  · rw [if_neg g, if_pos rfl]; rw [if_neg g] at h
    refine s_msprC hI rfl hc ?_
    have sr := sprF_rng hI.k hc
    refine ⟨⟨by omega, by omega⟩, ?_⟩
    generalize hS : sprF σ c + σ 122 47 = S at h
    refine lp1a (l_X12_missOf_27 c S Q) (fun k x τ => τ = σ ∧ 0 ≤ x ∧ x ≤ 999 * k ∧ missG σ c (σ 152) S (4 - k) x = missG σ c (σ 152) S 4 0) 4 0 σ ⟨rfl, by omega, by omega, rfl⟩ ?_ ?_
    · rintro n x τ ⟨rfl, h1, h2, h3⟩
      rw [l_X12_missOf_27, if_neg (by decide)]
      rw [← h3] at h; exact h
    · rintro n k x τ hk ⟨hτ, h1, h2, h3⟩ ih
      subst hτ
      have am := (a.2.2.2.2.2.2 k hk).2
      have tm := ht k hk
      have nr := (now_rng hI.k).2.2.1 (14 + k) (by omega) (by omega)
      have gr := growF_rng hI.k hc hk nr (d := τ 14 2) ⟨a.2.2.2.1.2.2, hn.2.2.1⟩
      have or := oneF_rng hI.k (t := τ 152) hc hk tm
      have st : missG τ c (τ 152) S (4 - k) x = if 0 < τ 152 k ∧ 0 < τ (25 + 3 * c) k then (if S < oneF τ c (τ 152) k then -4 else missG τ c (τ 152) S (4 - (k + 1)) (x + oneF τ c (τ 152) k)) else missG τ c (τ 152) S (4 - (k + 1)) x := by
        rw [show 4 - k = (4 - (k + 1)) + 1 by omega, missG, show 3 - (4 - (k + 1)) = k by omega]
      rw [l_X12_missOf_27, if_pos (by omega), show (4 * (c : Int) + k).toNat = 4 * c + k by omega, Int.toNat_natCast, am.1]
      refine ⟨by omega, by omega, ?_⟩
      by_cases q2 : 0 < τ (25 + 3 * c) k
      · rw [if_pos q2]
        refine ⟨by omega, by omega, ?_⟩
        by_cases q1 : 0 < τ 152 k
        · rw [if_pos q1]
          rw [if_pos ⟨q1, q2⟩] at st
          refine s_mgrownC hI rfl rfl hc hk (by rw [hn.1]; exact ⟨a.2.2.2.1.2.2, hn.2.2.1⟩) ?_
          have e14 : ruleF τ (14 + (k : Int)) (τ 122 0) = τ 15 (14 + k) := by
            rw [← now_r hn (14 + k) (by omega)]; congr 1
          rw [e14, hn.1]
          have go : ∀ w, w = oneF τ c (τ 152) k → j_X12_missOf_115 c (fun x3_ x4_ σ_ => l_X12_missOf_27 c S Q n x3_ x4_ σ_) Q S x k w τ := by
            intro w hw
            subst hw
            unfold j_X12_missOf_115
            by_cases q3 : S < oneF τ c (τ 152) k
            · rw [if_pos q3]
              rw [if_pos q3] at st
              rw [← h3, st] at h; exact h
            · rw [if_neg q3]
              rw [if_neg q3] at st
              exact ⟨⟨by omega, by omega⟩, ⟨by omega, by omega⟩, ih _ _ ⟨rfl, by omega, by omega, by rw [← h3, st]⟩⟩
          refine ⟨⟨by omega, by omega⟩, ?_⟩
          have eo : oneF τ c (τ 152) k = imax 0 (imax (τ (25 + 3 * c) k - τ 152 k) (τ 152 k - growF τ c k (τ 15 (14 + k)) (τ 14 2))) := rfl
          generalize growF τ c k (τ 15 (14 + k)) (τ 14 2) = G at gr eo ⊢
          by_cases q4 : 0 < τ 152 k - G
          · rw [if_pos q4]
            refine go _ ?_
            rw [eo]; unfold imax; repeat' split
            all_goals omega
          · rw [if_neg q4]
            refine ⟨⟨by omega, by omega⟩, go _ ?_⟩
            rw [eo]; unfold imax; repeat' split
            all_goals omega
        · rw [if_neg q1]
          rw [if_neg (fun z => q1 z.1)] at st
          exact ⟨⟨by omega, by omega⟩, ih _ _ ⟨rfl, by omega, by omega, by rw [← h3, st]⟩⟩
      · rw [if_neg q2]
        rw [if_neg (fun z => q2 z.2)] at st
        exact ⟨⟨by omega, by omega⟩, ih _ _ ⟨rfl, by omega, by omega, by rw [← h3, st]⟩⟩
def INVt (σ : Mem) : Prop := INVc σ ∧ I_tell σ
theorem INV.kt {σ : Mem} (h : INV σ) : INVt σ := ⟨h.k, h.t⟩
theorem INVt.k {σ : Mem} (h : INVt σ) : INVc σ := h.1
theorem INVt.r {σ : Mem} (h : INVt σ) : I_rules σ := h.1.r
theorem INVt.n {σ : Mem} (h : INVt σ) : I_now σ := h.1.n
theorem INVt.c {σ : Mem} (h : INVt σ) : I_cards σ := h.1.c
theorem INVt.t {σ : Mem} (h : INVt σ) : I_tell σ := h.2
theorem INVc.n24 {σ : Mem} (h : INVc σ) : 0 ≤ σ 122 24 ∧ σ 122 24 ≤ 24 := by rw [h.c.1]; exact ⟨h.c.2.1, h.c.2.2.1⟩
theorem INVc.eqn {σ : Mem} (h : INVc σ) : σ 122 24 = σ 16 2 := h.c.1
theorem co_rules {j k : Nat} (h : D_rules j k = true) : core j k = true := by
  have := d_rules h
  unfold core
  rcases this with ⟨rfl, rfl⟩ | ⟨rfl, rfl⟩ | z | z
  · rfl
  · rfl
  · rw [if_neg (by omega), if_neg (by omega), if_neg (by omega)]
    simp only [List.elem_eq_mem, Bool.not_eq_true', decide_eq_false_iff_not, List.mem_cons, List.not_mem_nil, or_false, not_or]; omega
  · rw [if_neg (by omega), if_neg (by omega), if_neg (by omega)]
    simp only [List.elem_eq_mem, Bool.not_eq_true', decide_eq_false_iff_not, List.mem_cons, List.not_mem_nil, or_false, not_or]; omega
theorem co_now {j k : Nat} (h : D_now j k = true) : core j k = true := by
  have := d_now h
  rcases this with ⟨rfl, rfl⟩ | ⟨rfl, rfl⟩ | ⟨rfl, rfl⟩ | rfl | z
  · rfl
  · rfl
  · rfl
  · rfl
  · unfold core
    rw [if_neg (by omega), if_neg (by omega), if_neg (by omega)]
    simp only [List.elem_eq_mem, Bool.not_eq_true', decide_eq_false_iff_not, List.mem_cons, List.not_mem_nil, or_false, not_or]; omega
theorem co_cards {j k : Nat} (h : D_cards j k = true) : core j k = true := by
  have := d_cards h
  rcases this with ⟨rfl, rfl⟩ | ⟨rfl, rfl | rfl⟩ | ⟨rfl, rfl⟩ | z | z
  · rfl
  · rfl
  · rfl
  · rfl
  · exact core_rng (by omega) (by omega)
  · unfold core
    rw [if_neg (by omega), if_neg (by omega), if_neg (by omega)]
    simp only [List.elem_eq_mem, Bool.not_eq_true', decide_eq_false_iff_not, List.mem_cons, List.not_mem_nil, or_false, not_or]; omega
theorem co_bars {j k : Nat} (h : D_bars j k = true) : core j k = true := by
  have := d_bars h
  rcases this with ⟨rfl, rfl⟩ | ⟨rfl, rfl⟩ | rfl | rfl <;> rfl
theorem co_tell {j k : Nat} (h : D_tell j k = true) : core j k = true := by
  have := d_tell h
  rcases this with ⟨rfl, rfl⟩ | ⟨rfl, rfl | rfl⟩ | rfl | rfl <;> rfl
theorem invc_core {σ0 σ : Mem} (hs : SAME σ0 σ) (h : INVc σ0) : INVc σ := ⟨k_rules (KEEP.core hs (fun _ _ => co_rules)) h.r, k_now (KEEP.core hs (fun _ _ => co_now)) h.n, k_cards (KEEP.core hs (fun _ _ => co_cards)) h.c, k_bars (KEEP.core hs (fun _ _ => co_bars)) h.b⟩
theorem invt_core {σ0 σ : Mem} (hs : SAME σ0 σ) (h : INVt σ0) : INVt σ := ⟨invc_core hs h.1, k_tell (KEEP.core hs (fun _ _ => co_tell)) h.2⟩
theorem co_off {j k : Nat} (h : (14 ≤ j ∧ j < 95) ∨ j = 0 ∨ j = 1 ∨ j = 2 ∨ (3 ≤ j ∧ j < 8) ∨ (108 ≤ j ∧ j < 117) ∨ (118 ≤ j ∧ j < 122) ∨ (123 ≤ j ∧ j < 131) ∨ (136 ≤ j ∧ j < 149) ∨ (154 ≤ j ∧ j < 161)) : core j k = true := by
  unfold core
  rw [if_neg (by omega), if_neg (by omega), if_neg (by omega)]
  simp only [List.elem_eq_mem, Bool.not_eq_true', decide_eq_false_iff_not, List.mem_cons, List.not_mem_nil, or_false, not_or]; omega
theorem co_tape {j k : Nat} (h : D_tape j k = true) : core j k = true := by
  rcases d_tape h with ⟨rfl, rfl⟩ | ⟨rfl, rfl⟩ | rfl | rfl <;> rfl
theorem co_cst {j k : Nat} (h : D_cst j k = true) : core j k = true := by
  rcases d_cst h with rfl | rfl <;> rfl
theorem co_fault {j k : Nat} (h : D_fault j k = true) : core j k = true := by
  rcases d_fault h with ⟨rfl, rfl⟩ | ⟨rfl, rfl | rfl⟩ | ⟨rfl, rfl⟩ <;> rfl
theorem co_anew {j k : Nat} (h : D_anew j k = true) : core j k = true := by
  rcases d_anew h with ⟨rfl, rfl⟩ | ⟨rfl, rfl | rfl⟩ | z | z | z
  · rfl
  · rfl
  · rfl
  · exact co_off (by omega)
  · exact co_off (by omega)
  · exact co_off (by omega)
theorem co_hold {j k : Nat} (h : D_hold j k = true) : core j k = true := by
  rcases d_hold h with ⟨rfl, rfl⟩ | ⟨rfl, rfl⟩ | ⟨rfl, rfl⟩ | z | z
  · rfl
  · rfl
  · rfl
  · exact co_off (by omega)
  · exact co_off (by omega)
theorem co_sheet {j k : Nat} (h : D_sheet j k = true) : core j k = true := co_off (by have := d_sheet h; omega)
