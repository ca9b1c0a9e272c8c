/-! PURE FACTS, 4: thirds, drawers, spreads, cards -/
theorem now_r {σ : Mem} (hn : I_now σ) (r : Nat) (h : r < 20) : ruleF σ r (σ 122 0) = σ 15 r := by
  rw [hn.1]; exact (hn.2.2.2 r h).symm
def thirdF (h : Nat → Int) (m : Nat) (v : Int) : Int := if v = 0 then 1 else if v < h m then 0 else if v < h (4 + m) then 1 else 2
theorem thirdF_rng (h : Nat → Int) (m : Nat) (v : Int) : 0 ≤ thirdF h m v ∧ thirdF h m v ≤ 2 := by
  unfold thirdF
  repeat' split
  all_goals omega
def drwF (h : Nat → Int) (a b c : Int) : Int := 9 * thirdF h 0 a + 3 * thirdF h 1 b + thirdF h 2 c
theorem drwF_rng (h : Nat → Int) (a b c : Int) : 0 ≤ drwF h a b c ∧ drwF h a b c ≤ 26 := by
  have h0 := thirdF_rng h 0 a; have h1 := thirdF_rng h 1 b; have h2 := thirdF_rng h 2 c
  unfold drwF; omega
theorem s_third {m : Nat} {p v : Int} {σ : Mem} {Q : Int → Mem → Prop} (hp : p = m) (hm : m < 4) (h : Q (thirdF (σ 15) m v) σ) : v_X5_third p v σ Q := by
  unfold v_X5_third
  unfold thirdF at h
  by_cases c : v = 0
  · rw [if_pos c]; rw [if_pos c] at h; exact h
  · rw [if_neg c]; rw [if_neg c] at h
    refine ⟨by omega, by omega, ?_⟩
    rw [show (0 + p).toNat = m by omega, show (4 + p).toNat = 4 + m by omega]
    by_cases c2 : v < σ 15 m
    · rw [if_pos c2]; rw [if_pos c2] at h; exact h
    · rw [if_neg c2]; rw [if_neg c2] at h
      refine ⟨by omega, by omega, ?_⟩
      by_cases c3 : v < σ 15 (4 + m)
      · rw [if_pos c3]; rw [if_pos c3] at h; exact h
      · rw [if_neg c3]; rw [if_neg c3] at h; exact h
theorem s_mthird {m : Nat} {p v d : Int} {σ : Mem} {Q : Int → Mem → Prop} (hr : I_rules σ) (hn : I_now σ) (hp : p = m) (hm : m < 4) (hd : d = σ 122 0) (h : Q (thirdF (σ 15) m v) σ) : v_X12_thirdOf p v d σ Q := by
  unfold v_X12_thirdOf
  unfold thirdF at h
  by_cases c : v = 0
  · rw [if_pos c]; rw [if_pos c] at h; exact h
  · rw [if_neg c]; rw [if_neg c] at h
    refine s_firstEdge hr (by omega) ?_
    have e1 : ruleF σ p d = σ 15 m := by rw [hp, hd]; exact now_r hn m (by omega)
    rw [e1]
    by_cases c2 : v < σ 15 m
    · rw [if_pos c2]; rw [if_pos c2] at h; exact h
    · rw [if_neg c2]; rw [if_neg c2] at h
      refine s_secondEdge hr (by omega) ?_
      have e2 : ruleF σ (4 + p) d = σ 15 (4 + m) := by rw [hp, hd]; exact now_r hn (4 + m) (by omega)
      rw [e2]
      by_cases c3 : v < σ 15 (4 + m)
      · rw [if_pos c3]; rw [if_pos c3] at h; exact h
      · rw [if_neg c3]; rw [if_neg c3] at h; exact h
theorem s_drw_c {c : Nat} {σ : Mem} {Q : Int → Mem → Prop} (h : Q (drwF (σ 15) (σ (25 + 3 * c) 0) (σ (25 + 3 * c) 1) (σ (25 + 3 * c) 2)) σ) : v_X5_drawerBy_c c σ Q := by
  unfold v_X5_drawerBy_c
  refine s_third (m := 0) rfl (by omega) (s_third (m := 1) rfl (by omega) (s_third (m := 2) rfl (by omega) ?_))
  have g := drwF_rng (σ 15) (σ (25 + 3 * c) 0) (σ (25 + 3 * c) 1) (σ (25 + 3 * c) 2)
  unfold drwF at g h
  exact ⟨⟨by omega, by omega⟩, h⟩
theorem s_drw_t {σ : Mem} {Q : Int → Mem → Prop} (h : Q (drwF (σ 15) (σ 96 0) (σ 96 1) (σ 96 2)) σ) : v_X5_drawerBy_t σ Q := by
  unfold v_X5_drawerBy_t
  refine s_third (m := 0) rfl (by omega) (s_third (m := 1) rfl (by omega) (s_third (m := 2) rfl (by omega) ?_))
  have g := drwF_rng (σ 15) (σ 96 0) (σ 96 1) (σ 96 2)
  unfold drwF at g h
  exact ⟨⟨by omega, by omega⟩, h⟩
theorem s_mdrw {c : Nat} {p : Int} {σ : Mem} {Q : Int → Mem → Prop} (hr : I_rules σ) (hn : I_now σ) (hp : p = c) (hc : c < 24) (h : Q (drwF (σ 15) (σ 138 (4 * c)) (σ 138 (4 * c + 1)) (σ 138 (4 * c + 2))) σ) : v_X12_drawerOf p σ Q := by
  unfold v_X12_drawerOf
  rw [show (4 * p).toNat = 4 * c by omega, show (4 * p + 1).toNat = 4 * c + 1 by omega, show (4 * p + 2).toNat = 4 * c + 2 by omega]
  refine ⟨by omega, by omega, s_mthird (m := 0) hr hn rfl (by omega) rfl ⟨by omega, by omega, s_mthird (m := 1) hr hn rfl (by omega) rfl ⟨by omega, by omega, s_mthird (m := 2) hr hn rfl (by omega) rfl ?_⟩⟩⟩
  have g := drwF_rng (σ 15) (σ 138 (4 * c)) (σ 138 (4 * c + 1)) (σ 138 (4 * c + 2))
  unfold drwF at g h
  exact ⟨⟨by omega, by omega⟩, h⟩
theorem s_isOut {c : Nat} {σ : Mem} {Q : Int → Mem → Prop} : v_X1_isOut c σ Q = Q (if σ (23 + 3 * c) 5 = -4 then 1 else 0) σ := by
  unfold v_X1_isOut
  by_cases h : σ (23 + 3 * c) 5 = -4
  · rw [if_pos h, if_pos h]
  · rw [if_neg h, if_neg h]
theorem s_mOut {c : Nat} {p : Int} {σ : Mem} {Q : Int → Mem → Prop} (hp : p = c) (hc : c < 24) (h : Q (if σ 142 c = -4 then 1 else 0) σ) : v_X12_isOut p σ Q := by
  unfold v_X12_isOut
  rw [show p.toNat = c by omega]
  refine ⟨by omega, by omega, ?_⟩
  by_cases g : σ 142 c = -4
  · rw [if_pos g]; rw [if_pos g] at h; exact h
  · rw [if_neg g]; rw [if_neg g] at h; exact h
theorem s_isCard_t {p : Int} {σ : Mem} {Q : Int → Mem → Prop} (hn : 0 ≤ σ 122 24 ∧ σ 122 24 ≤ 24) (hp : 0 ≤ p ∧ p < σ 122 24) (h : Q 1 σ) : v_X12_isCard p σ Q := by
  unfold v_X12_isCard
  refine ⟨⟨by omega, by omega⟩, ?_⟩
  rw [s_in_t (by omega)]; exact ⟨Or.inr rfl, h⟩
theorem s_isCard_f {p : Int} {σ : Mem} {Q : Int → Mem → Prop} (hn : 0 ≤ σ 122 24 ∧ σ 122 24 ≤ 24) (hp : ¬ (0 ≤ p ∧ p < σ 122 24)) (h : Q 0 σ) : v_X12_isCard p σ Q := by
  unfold v_X12_isCard
  refine ⟨⟨by omega, by omega⟩, ?_⟩
  rw [s_in_f (by omega)]; exact ⟨Or.inl rfl, h⟩
/-- due -/
theorem s_isDue {c : Nat} {σ : Mem} {Q : Int → Mem → Prop} (h0 : 0 ≤ σ (23 + 3 * c) 3 ∧ σ (23 + 3 * c) 3 ≤ σ 14 2 ∧ σ 14 2 ≤ 9999) (h : Q (if σ 14 2 - σ (23 + 3 * c) 3 < σ 15 18 then 0 else 1) σ) : v_X1_isDue c σ Q := by
  unfold v_X1_isDue
  refine ⟨⟨by omega, by omega⟩, ?_⟩
  by_cases g : σ 14 2 - σ (23 + 3 * c) 3 < σ 15 18
  · rw [if_pos g]; rw [if_pos g] at h; exact h
  · rw [if_neg g]; rw [if_neg g] at h; exact h
theorem s_mDue {c : Nat} {p : Int} {σ : Mem} {Q : Int → Mem → Prop} (hr : I_rules σ) (hn : I_now σ) (hp : p = c) (hc : c < 24) (h0 : 0 ≤ σ 141 c ∧ σ 141 c ≤ σ 14 2) (h : Q (if σ 14 2 - σ 141 c < σ 15 18 then 0 else 1) σ) : v_X12_isDue p σ Q := by
  unfold v_X12_isDue
  rw [show p.toNat = c by omega]
  refine ⟨by omega, by omega, s_mkeep hr ?_⟩
  rw [show ruleF σ 18 (σ 122 0) = σ 15 18 from now_r hn 18 (by omega)]
  have h1 := hn.1; have h2 := hn.2.2.1; have h3 := hn.2.1
  refine ⟨⟨by omega, by omega⟩, ?_⟩
  rw [h1]
  by_cases g : σ 14 2 - σ 141 c < σ 15 18
  · rw [if_pos g]; rw [if_pos g] at h; exact h
  · rw [if_neg g]; rw [if_neg g] at h; exact h
/-- the spread of a card -/
def sprF (σ : Mem) (c : Nat) : Int := σ 15 (8 + σ (23 + 3 * c) 0).toNat + (if σ (23 + 3 * c) 1 = 2 then σ 15 19 else 0)
theorem sprF_rng {σ : Mem} (hI : INVc σ) {c : Nat} (hc : (c : Int) < σ 16 2) : 0 ≤ sprF σ c ∧ sprF σ c ≤ 40 := by
  have a := hI.c.2.2.2.2 c hc
  have n := now_rng hI.k
  have b := n.2.1 (8 + σ (23 + 3 * c) 0).toNat (by omega) (by omega)
  unfold sprF
  split <;> omega
theorem s_spreadOf {p : Int} {σ : Mem} {Q : Int → Mem → Prop} (hp : 0 ≤ p ∧ p ≤ 5) (h : Q (σ 15 (8 + p).toNat) σ) : v_X5_spreadOf p σ Q := ⟨by omega, by omega, h⟩
theorem s_spr {σ : Mem} {Q : Int → Mem → Prop} (hI : INVc σ) {c : Nat} (hc : (c : Int) < σ 16 2) (h : Q (sprF σ c) σ) : v_X1_spread c σ Q := by
  have a := hI.c.2.2.2.2 c hc
  have g := sprF_rng hI.k hc
  unfold v_X1_spread
  refine s_spreadOf ⟨a.1.2.1, a.1.2.2⟩ ?_
  unfold sprF at h g
  by_cases q : σ (23 + 3 * c) 1 = 2
  · rw [if_pos q]; rw [if_pos q] at h g; exact ⟨⟨by omega, by omega⟩, h⟩
  · rw [if_neg q]; rw [if_neg q, Int.add_zero] at h; exact h
theorem s_mspr {σ : Mem} {Q : Int → Mem → Prop} (hI : INV σ) {c : Nat} {p : Int} (hp : p = c) (hc : (c : Int) < σ 16 2) (h : Q (sprF σ c) σ) : v_X12_spreadAt p σ Q := by
  have a := hI.c.2.2.2.2 c hc
  have n := hI.c.2.2.1
  have g := sprF_rng hI.k hc
  unfold v_X12_spreadAt
  rw [show p.toNat = c by omega]
  refine ⟨by omega, by omega, s_mspread hI.r (by omega) ?_⟩
  have e : ruleF σ (8 + σ 136 c) (σ 122 0) = σ 15 (8 + σ (23 + 3 * c) 0).toNat := by
    rw [← now_r hI.n (8 + σ (23 + 3 * c) 0).toNat (by omega), a.1.1]
    congr 1; omega
  rw [e, a.2.1.1]
  unfold sprF at h g
  by_cases q : σ (23 + 3 * c) 1 = 2
  · rw [if_pos q]; rw [if_pos q] at h g
    refine s_mother hI.r ?_
    rw [show ruleF σ 19 (σ 122 0) = σ 15 19 from now_r hI.n 19 (by omega)]
    exact ⟨⟨by omega, by omega⟩, h⟩
  · rw [if_neg q]; rw [if_neg q] at h g; exact ⟨⟨by omega, by omega⟩, h⟩
/-- what a measure can be on a day -/
def growF (σ : Mem) (c m : Nat) (g d : Int) : Int := if σ (25 + 3 * c) m = 0 then σ (25 + 3 * c) m else if σ (23 + 3 * c) 1 = 1 then σ (25 + 3 * c) m + Int.tdiv (g * (d - σ (23 + 3 * c) 3)) 100 else σ (25 + 3 * c) m
theorem grow_rng {g n : Int} (hg : 0 ≤ g ∧ g ≤ 50) (hn : 0 ≤ n ∧ n ≤ 9999) : 0 ≤ g * n ∧ g * n ≤ 499950 ∧ 0 ≤ Int.tdiv (g * n) 100 ∧ Int.tdiv (g * n) 100 ≤ 4999 := by
  have h1 : 0 ≤ g * n := Int.mul_nonneg hg.1 hn.1
  have h2 : g * n ≤ 50 * 9999 := Int.mul_le_mul hg.2 hn.2 hn.1 (by omega)
  rw [Int.tdiv_eq_ediv_of_nonneg h1]
  omega
theorem s_canM {σ : Mem} {Q : Int → Mem → Prop} (hI : INVc σ) {c m : Nat} {p g d : Int} (hp : p = m) (hc : (c : Int) < σ 16 2) (hm : m < 4) (hg : 0 ≤ g ∧ g ≤ 50) (hd : σ (23 + 3 * c) 3 ≤ d ∧ d ≤ 9999) (h : Q (growF σ c m g d) σ) : v_X1_canMeasure c p d g σ Q := by
  have a := hI.c.2.2.2.2 c hc
  have am := (a.2.2.2.2.2.2 m hm).2
  have gr := grow_rng hg (n := d - σ (23 + 3 * c) 3) (by omega)
  unfold v_X1_canMeasure j_X1_canMeasure_17
  rw [show p.toNat = m by omega]
  unfold growF at h
  refine ⟨by omega, by omega, ?_⟩
  by_cases q : σ (25 + 3 * c) m = 0
  · rw [if_pos q]; rw [if_pos q] at h; exact ⟨by omega, by omega, h⟩
  · rw [if_neg q]; rw [if_neg q] at h
    by_cases q2 : σ (23 + 3 * c) 1 = 1
    · rw [if_pos q2]; rw [if_pos q2] at h; exact ⟨⟨by omega, by omega⟩, ⟨by omega, by omega⟩, h⟩
    · rw [if_neg q2]; rw [if_neg q2] at h; exact ⟨by omega, by omega, h⟩
theorem s_mgrown {σ : Mem} {Q : Int → Mem → Prop} (hI : INV σ) {c m : Nat} {p1 p2 d : Int} (hp : p1 = c) (hp2 : p2 = m) (hc : (c : Int) < σ 16 2) (hm : m < 4) (hd : σ (23 + 3 * c) 3 ≤ d ∧ d ≤ 9999) (h : Q (growF σ c m (ruleF σ (14 + m) d) d) σ) : v_X12_grownOf p1 p2 d σ Q := by
  have a := hI.c.2.2.2.2 c hc
  have n := hI.c.2.2.1
  have am := (a.2.2.2.2.2.2 m hm).2
  have rr := (ruleF_rng (d := d) hI.r (r := 14 + m) (by omega)).2.2.1 (by omega) (by omega)
  have gr := grow_rng rr (n := d - σ (23 + 3 * c) 3) (by omega)
  unfold v_X12_grownOf
  rw [show p1.toNat = c by omega, show (4 * p1 + p2).toNat = 4 * c + m by omega, am.1]
  unfold growF at h
  refine ⟨by omega, by omega, ?_⟩
  by_cases q : σ (25 + 3 * c) m = 0
  · rw [if_pos q]; rw [if_pos q] at h; exact h
  · rw [if_neg q]; rw [if_neg q] at h
    refine ⟨by omega, by omega, ?_⟩
    rw [a.2.1.1]
    by_cases q2 : σ (23 + 3 * c) 1 = 1
    · rw [if_pos q2]; rw [if_pos q2] at h
      refine s_mgrow hI.r (by omega) ?_
      rw [hp2, a.2.2.2.1.1]
      exact ⟨⟨by omega, by omega⟩, ⟨by omega, by omega⟩, h⟩
    · rw [if_neg q2]; rw [if_neg q2] at h; exact h
theorem growF_rng {σ : Mem} (hI : INVc σ) {c m : Nat} {g d : Int} (hc : (c : Int) < σ 16 2) (hm : m < 4) (hg : 0 ≤ g ∧ g ≤ 50) (hd : σ (23 + 3 * c) 3 ≤ d ∧ d ≤ 9999) : σ (25 + 3 * c) m ≤ growF σ c m g d ∧ growF σ c m g d ≤ 6000 := by
  have a := hI.c.2.2.2.2 c hc
  have am := (a.2.2.2.2.2.2 m hm).2
  have gr := grow_rng hg (n := d - σ (23 + 3 * c) 3) (by omega)
  unfold growF
  repeat' split
  all_goals omega
