/-! PURE FACTS, 37: the text's tokens -/
theorem mset_mset {σ : Mem} {j k : Nat} {x y : Int} : mset (mset σ j k x) j k y = mset σ j k y := by
  funext a c
  unfold mset
  by_cases h : a = j ∧ c = k
  · rw [if_pos h, if_pos h]
  · rw [if_neg h, if_neg h, if_neg h]
theorem mset_self {σ : Mem} {j k : Nat} {x : Int} (h : σ j k = x) : mset σ j k x = σ := by
  funext a c
  unfold mset
  by_cases e : a = j ∧ c = k
  · rw [if_pos e, e.1, e.2, h]
  · rw [if_neg e]
theorem mset_swap {σ : Mem} {j k l : Nat} {x y : Int} (h : k ≠ l) : mset (mset σ j k x) j l y = mset (mset σ j l y) j k x := by
  funext a c
  unfold mset
  by_cases e : a = j ∧ c = k
  · rw [if_neg (fun z => h (e.2.symm.trans z.2)), if_pos e]; rw [if_pos e]
  · by_cases e2 : a = j ∧ c = l
    · simp only [if_neg e, if_pos e2]
    · simp only [if_neg e, if_neg e2]
def tapC (σ : Mem) (L : Nat) (b : Nat → Int) : Prop := σ 1 1 = L ∧ L ≤ 240 ∧ ∀ k : Nat, k < L → iand (σ 2 k) 255 = b k ∧ 0 ≤ b k ∧ b k ≤ 255
def tapM (τ : Mem) (L : Nat) (b : Nat → Int) : Prop := τ 122 2 = L ∧ ∀ k : Nat, k < L → τ 123 k = b k
theorem tapC.st {σ : Mem} {L : Nat} {b : Nat → Int} (h : tapC σ L b) {j k : Nat} {v : Int} (hj : j ≠ 1 ∧ j ≠ 2) : tapC (mset σ j k v) L b := by
  obtain ⟨h1, h2, h3⟩ := h
  refine ⟨by rw [mset_ne (fun e => hj.1 e.symm)]; exact h1, h2, fun i hi => ?_⟩
  rw [mset_ne (fun e => hj.2 e.symm)]; exact h3 i hi
theorem tapM.st {τ : Mem} {L : Nat} {b : Nat → Int} (h : tapM τ L b) {j k : Nat} {v : Int} (hj : (j ≠ 122 ∨ k ≠ 2) ∧ j ≠ 123) : tapM (mset τ j k v) L b := by
  obtain ⟨h1, h3⟩ := h
  refine ⟨by rw [st_ne _ _ (by omega)]; exact h1, fun i hi => ?_⟩
  rw [mset_ne (fun e => hj.2 e.symm)]; exact h3 i hi
theorem s_signAt {σ : Mem} {L q : Nat} {b : Nat → Int} {p : Int} {Q : Int → Mem → Prop} (hT : tapC σ L b) (hp : p = q) (h : Q (if q < L then b q else -1) σ) : v_X9_signAt p σ Q := by
  subst hp
  obtain ⟨h1, h2, h3⟩ := hT
  unfold v_X9_signAt
  rw [if_neg (by omega), h1, Int.toNat_natCast]
  by_cases c : q < L
  · rw [if_pos c] at h
    rw [if_pos (by omega), (h3 q c).1]; exact ⟨by omega, by omega, h⟩
  · rw [if_neg c] at h
    rw [if_neg (by omega)]; exact h
theorem s_byteAt {τ : Mem} {L q : Nat} {b : Nat → Int} {p : Int} {Q : Int → Mem → Prop} (hL : L ≤ 240) (hT : tapM τ L b) (hp : p = q) (h : Q (if q < L then b q else -4) τ) : v_X12_byteAt p τ Q := by
  subst hp
  obtain ⟨h1, h3⟩ := hT
  unfold v_X12_byteAt
  rw [h1, Int.toNat_natCast]
  by_cases c : q < L
  · rw [if_pos c] at h
    rw [if_pos (by omega), h3 q c]; exact ⟨by omega, by omega, h⟩
  · rw [if_neg c] at h
    rw [if_neg (by omega)]; exact h
theorem s_low_t {p : Int} {σ : Mem} {Q : Int → Mem → Prop} (h : 97 ≤ p ∧ p ≤ 122) : v_X6_isLow p σ Q = Q 1 σ := by
  unfold v_X6_isLow; rw [if_neg (by omega), if_neg (by omega)]
theorem s_low_f {p : Int} {σ : Mem} {Q : Int → Mem → Prop} (h : ¬ (97 ≤ p ∧ p ≤ 122)) : v_X6_isLow p σ Q = Q 0 σ := by
  unfold v_X6_isLow
  by_cases q : p < 97
  · rw [if_pos q]
  · rw [if_neg q, if_pos (by omega)]
theorem s_fig_t {p : Int} {σ : Mem} {Q : Int → Mem → Prop} (h : 48 ≤ p ∧ p ≤ 57) : v_X6_isFigure p σ Q = Q 1 σ := by
  unfold v_X6_isFigure; rw [if_neg (by omega), if_neg (by omega)]
theorem s_fig_f {p : Int} {σ : Mem} {Q : Int → Mem → Prop} (h : ¬ (48 ≤ p ∧ p ≤ 57)) : v_X6_isFigure p σ Q = Q 0 σ := by
  unfold v_X6_isFigure
  by_cases q : p < 48
  · rw [if_pos q]
  · rw [if_neg q, if_pos (by omega)]
/-- what is read from a place on -/
def numV (b : Nat → Int) (p : Nat) : Nat → Int
  | 0 => 0
  | k + 1 => if k < 4 then 10 * numV b p k + b (p + k) - 48 else numV b p k
theorem numV_rng {b : Nat → Int} {p : Nat} : ∀ k : Nat, (∀ i, i < k → 48 ≤ b (p + i) ∧ b (p + i) ≤ 57) → 0 ≤ numV b p k ∧ numV b p k ≤ 9999 ∧ (k ≤ 3 → numV b p k ≤ 999) ∧ (k ≤ 2 → numV b p k ≤ 99) ∧ (k ≤ 1 → numV b p k ≤ 9) ∧ (k ≤ 0 → numV b p k = 0) := by
  intro k
  induction k with
  | zero =>
    intro _
    have e : numV b p 0 = 0 := rfl
    rw [e]; omega
  | succ k ih =>
    intro h
    have i := ih (fun i hi => h i (by omega))
    have d := h k (by omega)
    have e : numV b p (k + 1) = if k < 4 then 10 * numV b p k + b (p + k) - 48 else numV b p k := rfl
    rw [e]
    by_cases c : k < 4
    · rw [if_pos c]; omega
    · rw [if_neg c]; omega
def TK (L : Nat) (b : Nat → Int) (a pl bh : Nat) (kd vl fl : Int) : Prop := a ≤ pl ∧ pl ≤ bh ∧ bh ≤ L ∧ (∀ k, a ≤ k → k < pl → b k = 32) ∧ (pl < L → b pl ≠ 32) ∧ 0 ≤ vl ∧ vl ≤ 9999 ∧
  ((pl = L ∧ bh = L ∧ kd = 0 ∧ fl = 0) ∨
   (pl < bh ∧ (∀ k, pl ≤ k → k < bh → 97 ≤ b k ∧ b k ≤ 122) ∧ (bh < L → ¬ (97 ≤ b bh ∧ b bh ≤ 122)) ∧ kd = 1 ∧ fl = 0) ∨
   (pl < bh ∧ (∀ k, pl ≤ k → k < bh → 48 ≤ b k ∧ b k ≤ 57) ∧ (bh < L → ¬ (48 ≤ b bh ∧ b bh ≤ 57)) ∧ kd = 2 ∧ vl = numV b pl (bh - pl) ∧ fl = (if 4 < bh - pl then 1 else 0)) ∨
   (pl < L ∧ bh = pl + 1 ∧ b pl = 59 ∧ kd = 3 ∧ fl = 0) ∨
   (pl < L ∧ bh = pl + 1 ∧ b pl ≠ 59 ∧ ¬ (97 ≤ b pl ∧ b pl ≤ 122) ∧ ¬ (48 ≤ b pl ∧ b pl ≤ 57) ∧ kd = 3 ∧ fl = 1))
theorem run_ex (P : Nat → Prop) [DecidablePred P] (L : Nat) : ∀ d p : Nat, p + d = L → ∃ q, p ≤ q ∧ q ≤ L ∧ (∀ k, p ≤ k → k < q → P k) ∧ (q < L → ¬ P q) := by
  intro d
  induction d with
  | zero => intro p h; exact ⟨p, Nat.le_refl p, by omega, fun k h1 h2 => by omega, fun h1 => by omega⟩
  | succ d ih =>
    intro p h
    by_cases c : P p
    · obtain ⟨q, h1, h2, h3, h4⟩ := ih (p + 1) (by omega)
      refine ⟨q, by omega, h2, fun k k1 k2 => ?_, h4⟩
      by_cases e : k = p
      · subst e; exact c
      · exact h3 k (by omega) k2
    · exact ⟨p, Nat.le_refl p, by omega, fun k h1 h2 => by omega, fun _ => c⟩
theorem tok_ex {L a : Nat} {b : Nat → Int} (ha : a ≤ L) : ∃ pl bh kd vl fl, TK L b a pl bh kd vl fl := by
  obtain ⟨pl, h1, h2, h3, h4⟩ := run_ex (fun k => b k = 32) L (L - a) a (by omega)
  by_cases c0 : pl = L
  · exact ⟨pl, pl, 0, 0, 0, h1, Nat.le_refl _, h2, h3, h4, by omega, by omega, Or.inl ⟨c0, c0, rfl, rfl⟩⟩
  · have hl : pl < L := by omega
    by_cases c1 : 97 ≤ b pl ∧ b pl ≤ 122
    · obtain ⟨bh, g1, g2, g3, g4⟩ := run_ex (fun k => 97 ≤ b k ∧ b k ≤ 122) L (L - pl) pl (by omega)
      have lt : pl < bh := by
        rcases Nat.lt_or_ge pl bh with z | z
        · exact z
        · have : bh = pl := by omega
          subst this; exact absurd c1 (g4 hl)
      exact ⟨pl, bh, 1, 0, 0, h1, g1, g2, h3, h4, by omega, by omega, Or.inr (Or.inl ⟨lt, g3, g4, rfl, rfl⟩)⟩
    · by_cases c2 : 48 ≤ b pl ∧ b pl ≤ 57
      · obtain ⟨bh, g1, g2, g3, g4⟩ := run_ex (fun k => 48 ≤ b k ∧ b k ≤ 57) L (L - pl) pl (by omega)
        have lt : pl < bh := by
          rcases Nat.lt_or_ge pl bh with z | z
          · exact z
          · have : bh = pl := by omega
            subst this; exact absurd c2 (g4 hl)
        have nr := numV_rng (b := b) (p := pl) (bh - pl) (fun i hi => g3 (pl + i) (by omega) (by omega))
        exact ⟨pl, bh, 2, numV b pl (bh - pl), if 4 < bh - pl then 1 else 0, h1, g1, g2, h3, h4, nr.1, nr.2.1, Or.inr (Or.inr (Or.inl ⟨lt, g3, g4, rfl, rfl, rfl⟩))⟩
      · by_cases c3 : b pl = 59
        · exact ⟨pl, pl + 1, 3, 0, 0, h1, by omega, by omega, h3, h4, by omega, by omega, Or.inr (Or.inr (Or.inr (Or.inl ⟨hl, rfl, c3, rfl, rfl⟩)))⟩
        · exact ⟨pl, pl + 1, 3, 0, 1, h1, by omega, by omega, h3, h4, by omega, by omega, Or.inr (Or.inr (Or.inr (Or.inr ⟨hl, rfl, c3, c1, c2, rfl, rfl⟩)))⟩
/-- the class -/
theorem skC {σ : Mem} {L a pl : Nat} {b : Nat → Int} {Q : Int → Mem → Prop} (hT : tapC σ L b) (h1 : a ≤ pl) (h2 : pl ≤ L) (h3 : ∀ k, a ≤ k → k < pl → b k = 32) (h4 : pl < L → b pl ≠ 32) (h : j_X6_step_59 Q (mset σ 8 3 pl)) : ∃ n_, l_X6_step_16 Q n_ (mset σ 8 3 a) := by
  have main : ∀ d x : Nat, x + d = pl → a ≤ x → l_X6_step_16 Q (d + 1) (mset σ 8 3 x) := by
    intro d
    induction d with
    | zero =>
      intro x hx hax
      have e : x = pl := by omega
      subst e
      have t := hT.st (j := 8) (k := 3) (v := (x : Int)) ⟨by decide, by decide⟩
      rw [l_X6_step_16, mset_eq, t.1]
      by_cases c : (x : Int) < L
      · rw [if_pos c]
        refine s_signAt t rfl ?_
        rw [if_pos (show x < L by omega), if_neg (h4 (by omega))]; exact h
      · rw [if_neg c]; exact h
    | succ d ih =>
      intro x hx hax
      have t := hT.st (j := 8) (k := 3) (v := (x : Int)) ⟨by decide, by decide⟩
      have tl := hT.2.1
      rw [l_X6_step_16, mset_eq, t.1, if_pos (by omega)]
      refine s_signAt t rfl ?_
      rw [if_pos (show x < L by omega), if_pos (h3 x hax (by omega)), mset_eq, mset_mset, show (x : Int) + 1 = ((x + 1 : Nat) : Int) by omega]
      exact ⟨⟨by omega, by omega⟩, ih (x + 1) (by omega) (by omega)⟩
  exact ⟨pl - a + 1, main (pl - a) a (by omega) (Nat.le_refl a)⟩
theorem nmC {σ : Mem} {L pl bh : Nat} {b : Nat → Int} {Q : Int → Mem → Prop} (hT : tapC σ L b) (h1 : pl ≤ bh) (h2 : bh ≤ L) (h3 : ∀ k, pl ≤ k → k < bh → 97 ≤ b k ∧ b k ≤ 122) (h4 : bh < L → ¬ (97 ≤ b bh ∧ b bh ≤ 122)) (h : Q 0 (mset σ 8 4 bh)) : ∃ n_, l_X6_stepName_5 Q n_ (mset σ 8 4 pl) := by
  have main : ∀ d x : Nat, x + d = bh → pl ≤ x → l_X6_stepName_5 Q (d + 1) (mset σ 8 4 x) := by
    intro d
    induction d with
    | zero =>
      intro x hx hax
      have e : x = bh := by omega
      subst e
      have t := hT.st (j := 8) (k := 4) (v := (x : Int)) ⟨by decide, by decide⟩
      rw [l_X6_stepName_5, mset_eq, t.1]
      by_cases c : (x : Int) < L
      · rw [if_pos c]
        refine s_signAt t rfl ?_
        rw [if_pos (by omega), s_low_f (h4 (by omega)), if_pos rfl]; exact h
      · rw [if_neg c]; exact h
    | succ d ih =>
      intro x hx hax
      have t := hT.st (j := 8) (k := 4) (v := (x : Int)) ⟨by decide, by decide⟩
      have tl := hT.2.1
      rw [l_X6_stepName_5, mset_eq, t.1, if_pos (by omega)]
      refine s_signAt t rfl ?_
      rw [if_pos (by omega), s_low_t (h3 x hax (by omega)), if_neg (by decide), mset_eq, mset_mset, show (x : Int) + 1 = ((x + 1 : Nat) : Int) by omega]
      exact ⟨⟨by omega, by omega⟩, ih (x + 1) (by omega) (by omega)⟩
  exact ⟨bh - pl + 1, main (bh - pl) pl (by omega) (Nat.le_refl pl)⟩
theorem nuC {σ : Mem} {L pl bh : Nat} {b : Nat → Int} {Q : Int → Mem → Prop} (hT : tapC σ L b) (hp : σ 8 3 = pl) (h1 : pl ≤ bh) (h2 : bh ≤ L) (h3 : ∀ k, pl ≤ k → k < bh → 48 ≤ b k ∧ b k ≤ 57) (h4 : bh < L → ¬ (48 ≤ b bh ∧ b bh ≤ 57)) (h : j_X6_stepNumber_93 Q (mset (mset σ 8 4 bh) 8 6 (numV b pl (bh - pl)))) : ∃ n_, l_X6_stepNumber_10 Q n_ (mset (mset σ 8 4 pl) 8 6 0) := by
  have main : ∀ d x : Nat, x + d = bh → pl ≤ x → l_X6_stepNumber_10 Q (d + 1) (mset (mset σ 8 4 x) 8 6 (numV b pl (x - pl))) := by
    intro d
    induction d with
    | zero =>
      intro x hx hax
      have e : x = bh := by omega
      subst e
      have t := (hT.st (j := 8) (k := 4) (v := (x : Int)) ⟨by decide, by decide⟩).st (j := 8) (k := 6) (v := numV b pl (x - pl)) ⟨by decide, by decide⟩
      have e4 : mset (mset σ 8 4 (x : Int)) 8 6 (numV b pl (x - pl)) 8 4 = x := by rw [mset_nei (by decide), mset_eq]
      rw [l_X6_stepNumber_10, e4, t.1]
      by_cases c : (x : Int) < L
      · rw [if_pos c]
        refine s_signAt t rfl ?_
        rw [if_pos (by omega), s_fig_f (h4 (by omega)), if_pos rfl]; exact h
      · rw [if_neg c]; exact h
    | succ d ih =>
      intro x hx hax
      have t := (hT.st (j := 8) (k := 4) (v := (x : Int)) ⟨by decide, by decide⟩).st (j := 8) (k := 6) (v := numV b pl (x - pl)) ⟨by decide, by decide⟩
      have tl := hT.2.1
      have e4 : mset (mset σ 8 4 (x : Int)) 8 6 (numV b pl (x - pl)) 8 4 = x := by rw [mset_nei (by decide), mset_eq]
      have e3 : mset (mset σ 8 4 (x : Int)) 8 6 (numV b pl (x - pl)) 8 3 = pl := by rw [mset_nei (by decide), mset_nei (by decide)]; exact hp
      have e6 : mset (mset σ 8 4 (x : Int)) 8 6 (numV b pl (x - pl)) 8 6 = numV b pl (x - pl) := mset_eq
      have fg := h3 x hax (by omega)
      have nr := numV_rng (b := b) (p := pl) (x - pl) (fun i hi => h3 (pl + i) (by omega) (by omega))
      have ns : numV b pl (x + 1 - pl) = if x - pl < 4 then 10 * numV b pl (x - pl) + b (pl + (x - pl)) - 48 else numV b pl (x - pl) := by
        rw [show x + 1 - pl = (x - pl) + 1 by omega]; rfl
      rw [show pl + (x - pl) = x by omega] at ns
      have go := ih (x + 1) (by omega) (by omega)
      rw [l_X6_stepNumber_10, e4, t.1, if_pos (by omega)]
      refine s_signAt t rfl ?_
      rw [if_pos (by omega), s_fig_t fg, if_neg (by decide), e4, e3]
      refine ⟨⟨by omega, by omega⟩, ?_⟩
      unfold j_X6_stepNumber_80
      by_cases c : (x : Int) - pl < 4
      · rw [if_pos c]
        refine s_signAt t e4 ?_
        rw [if_pos (by omega), e6]
        rw [if_pos (by omega)] at ns
        have e7 : mset (mset (mset σ 8 4 (x : Int)) 8 6 (numV b pl (x - pl))) 8 6 (numV b pl (x - pl) * 10 + b x - 48) 8 4 = x := by rw [mset_nei (by decide)]; exact e4
        rw [e7, mset_mset, mset_swap (by decide), mset_mset, show (x : Int) + 1 = ((x + 1 : Nat) : Int) by omega, show numV b pl (x - pl) * 10 + b x - 48 = numV b pl (x + 1 - pl) by omega]
        refine ⟨⟨by omega, by omega⟩, ⟨by omega, by omega⟩, go⟩
      · rw [if_neg c]
        rw [if_neg (by omega)] at ns
        rw [e4, mset_swap (by decide), mset_mset, show (x : Int) + 1 = ((x + 1 : Nat) : Int) by omega, ← ns]
        exact ⟨⟨by omega, by omega⟩, go⟩
  have m := main (bh - pl) pl (by omega) (Nat.le_refl pl)
  rw [Nat.sub_self] at m
  exact ⟨bh - pl + 1, m⟩
def FT (σ σ' : Mem) : Prop := ∀ j k, ¬ (j = 8 ∧ 2 ≤ k) → σ' j k = σ j k
theorem FT.st {σ σ' : Mem} (h : FT σ σ') {k : Nat} {v : Int} (hk : 2 ≤ k) : FT σ (mset σ' 8 k v) := fun j i z => by rw [st_ne _ _ (by omega)]; exact h j i z
theorem FT.rf {σ : Mem} : FT σ σ := fun _ _ _ => rfl
theorem tokC {σ : Mem} {L a pl bh : Nat} {b : Nat → Int} {kd vl fl : Int} (hT : tapC σ L b) (h0 : σ 8 2 = 0) (h4 : σ 8 4 = a) (tk : TK L b a pl bh kd vl fl) : ∃ σ', FT σ σ' ∧ σ' 8 2 = fl ∧ σ' 8 3 = pl ∧ (0 ≤ σ' 8 4 ∧ σ' 8 4 ≤ 240) ∧ (fl = 0 → σ' 8 4 = bh ∧ σ' 8 5 = kd ∧ (kd = 2 → σ' 8 6 = vl)) ∧ ∀ Q : Int → Mem → Prop, Q 0 σ' → v_X6_step σ Q := by
  obtain ⟨k1, k2, k3, k4, k5, k6, k7, cases⟩ := tk
  have tl := hT.2.1
  have t3 := hT.st (j := 8) (k := 3) (v := (pl : Int)) ⟨by decide, by decide⟩
  have t4 := t3.st (j := 8) (k := 4) (v := (pl : Int)) ⟨by decide, by decide⟩
  have start : ∀ Q : Int → Mem → Prop, (v_X9_signAt pl (mset (mset σ 8 3 pl) 8 4 pl) (fun r6 σ7 => if r6 < 0 then (Q 0 (mset σ7 8 5 0)) else (v_X6_isLow r6 σ7 (fun r10 σ11 => if r10 = 0 then (v_X6_isFigure r6 σ11 (fun r14 σ15 => if r14 = 0 then (if r6 = 59 then (inR ((σ15 8 4) + 1) ∧ Q 0 (mset (mset σ15 8 5 3) 8 4 ((σ15 8 4) + 1))) else (v_X6_fail 1 (mset σ15 8 5 4) (fun _ σ20 => Q 0 σ20))) else (v_X6_stepNumber σ15 (fun _ σ27 => Q 0 σ27)))) else (v_X6_stepName σ11 (fun _ σ30 => Q 0 σ30)))))) → v_X6_step σ Q := by
    intro Q h
    unfold v_X6_step
    rw [if_pos h0, h4]
    refine skC hT k1 (by omega) k4 k5 ?_
    unfold j_X6_step_59
    rw [mset_eq]; exact h
  have s4 : mset (mset σ 8 3 (pl : Int)) 8 4 (pl : Int) 8 4 = pl := mset_eq
  have s3 : mset (mset σ 8 3 (pl : Int)) 8 4 (pl : Int) 8 3 = pl := by rw [mset_nei (by decide), mset_eq]
  have s2 : mset (mset σ 8 3 (pl : Int)) 8 4 (pl : Int) 8 2 = 0 := by rw [mset_nei (by decide), mset_nei (by decide)]; exact h0
  have fS : FT σ (mset (mset σ 8 3 (pl : Int)) 8 4 (pl : Int)) := (FT.rf.st (by decide)).st (by decide)
  generalize hS : mset (mset σ 8 3 (pl : Int)) 8 4 (pl : Int) = S at *
  rcases cases with ⟨e1, e2, e3, e4⟩ | ⟨e1, e2, e3, e4, e5⟩ | ⟨e1, e2, e3, e4, e5, e6⟩ | ⟨e1, e2, e3, e4, e5⟩ | ⟨e1, e2, e3, e4, e5, e6, e7⟩
  · refine ⟨mset S 8 5 0, fS.st (by decide), by rw [mset_nei (by decide), e4]; exact s2, by rw [mset_nei (by decide)]; exact s3, by rw [mset_nei (by decide), s4]; omega, fun _ => ⟨by rw [mset_nei (by decide), s4]; omega, by rw [mset_eq, e3], fun z => by omega⟩, fun Q h => start Q (s_signAt t4 rfl ?_)⟩
    rw [if_neg (show ¬ pl < L by omega), if_pos (show (-1 : Int) < 0 by decide)]; exact h
  · have b0 := e2 pl (Nat.le_refl _) e1
    have lt : pl < L := by omega
    have hself : mset (mset S 8 5 1) 8 4 (pl : Int) = mset S 8 5 1 := mset_self (by rw [mset_nei (by decide)]; exact s4)
    refine ⟨mset (mset S 8 5 1) 8 4 bh, (fS.st (by decide)).st (by decide), by rw [mset_nei (by decide), mset_nei (by decide), e5]; exact s2, by rw [mset_nei (by decide), mset_nei (by decide)]; exact s3, by rw [mset_eq]; omega, fun _ => ⟨mset_eq, by rw [mset_nei (by decide), mset_eq, e4], fun z => by omega⟩, fun Q h => start Q (s_signAt t4 rfl ?_)⟩
    rw [if_pos lt, if_neg (by omega), s_low_t b0, if_neg (by decide)]
    unfold v_X6_stepName
    have := nmC (σ := mset S 8 5 1) (pl := pl) (Q := fun _ σ30 => Q 0 σ30) (t4.st ⟨by decide, by decide⟩) k2 k3 e2 e3 h
    rw [hself] at this; exact this
  · have b0 := e2 pl (Nat.le_refl _) e1
    have lt : pl < L := by omega
    have hself : mset (mset S 8 5 2) 8 4 (pl : Int) = mset S 8 5 2 := mset_self (by rw [mset_nei (by decide)]; exact s4)
    have nu : ∀ Q : Int → Mem → Prop, j_X6_stepNumber_93 Q (mset (mset (mset S 8 5 2) 8 4 bh) 8 6 (numV b pl (bh - pl))) → v_X6_stepNumber S Q := by
      intro Q h
      unfold v_X6_stepNumber
      have := nuC (σ := mset S 8 5 2) (pl := pl) (Q := Q) (t4.st ⟨by decide, by decide⟩) (by rw [mset_nei (by decide)]; exact s3) k2 k3 e2 e3 h
      rw [hself] at this; exact this
    have z4 : mset (mset (mset S 8 5 2) 8 4 (bh : Int)) 8 6 (numV b pl (bh - pl)) 8 4 = bh := by rw [mset_nei (by decide), mset_eq]
    have z3 : mset (mset (mset S 8 5 2) 8 4 (bh : Int)) 8 6 (numV b pl (bh - pl)) 8 3 = pl := by rw [mset_nei (by decide), mset_nei (by decide), mset_nei (by decide)]; exact s3
    have z2 : mset (mset (mset S 8 5 2) 8 4 (bh : Int)) 8 6 (numV b pl (bh - pl)) 8 2 = 0 := by rw [mset_nei (by decide), mset_nei (by decide), mset_nei (by decide)]; exact s2
    have z5 : mset (mset (mset S 8 5 2) 8 4 (bh : Int)) 8 6 (numV b pl (bh - pl)) 8 5 = 2 := by rw [mset_nei (by decide), mset_nei (by decide), mset_eq]
    have z6 : mset (mset (mset S 8 5 2) 8 4 (bh : Int)) 8 6 (numV b pl (bh - pl)) 8 6 = numV b pl (bh - pl) := mset_eq
    have zf : FT σ (mset (mset (mset S 8 5 2) 8 4 (bh : Int)) 8 6 (numV b pl (bh - pl))) := ((fS.st (by decide)).st (by decide)).st (by decide)
    have pre : ∀ Q : Int → Mem → Prop, v_X6_stepNumber S (fun _ σ27 => Q 0 σ27) → v_X6_step σ Q := by
      intro Q h
      refine start Q (s_signAt t4 rfl ?_)
      rw [if_pos lt, if_neg (by omega), s_low_f (by omega), if_pos rfl, s_fig_t b0, if_neg (by decide)]; exact h
    generalize mset (mset (mset S 8 5 2) 8 4 (bh : Int)) 8 6 (numV b pl (bh - pl)) = Z at *
    by_cases c : 4 < bh - pl
    · rw [if_pos c] at e6
      refine ⟨mset (mset Z 8 5 4) 8 2 1, (zf.st (by decide)).st (by decide), by rw [mset_eq, e6], by rw [mset_nei (by decide), mset_nei (by decide)]; exact z3, by rw [mset_nei (by decide), mset_nei (by decide), z4]; omega, fun z => by omega, fun Q h => pre Q (nu _ ?_)⟩
      unfold j_X6_stepNumber_93 v_X6_fail
      rw [z4, z3, if_pos (by omega), mset_nei (by decide), z2, if_pos rfl]
      exact ⟨⟨by omega, by omega⟩, h⟩
    · rw [if_neg c] at e6
      refine ⟨Z, zf, by rw [z2, e6], z3, by rw [z4]; omega, fun _ => ⟨z4, by rw [z5, e4], fun _ => by rw [z6, e5]⟩, fun Q h => pre Q (nu _ ?_)⟩
      unfold j_X6_stepNumber_93
      rw [z4, z3, if_neg (by omega)]
      exact ⟨⟨by omega, by omega⟩, h⟩
  · refine ⟨mset (mset S 8 5 3) 8 4 ((pl : Int) + 1), (fS.st (by decide)).st (by decide), by rw [mset_nei (by decide), mset_nei (by decide), e5]; exact s2, by rw [mset_nei (by decide), mset_nei (by decide)]; exact s3, by rw [mset_eq]; omega, fun _ => ⟨by rw [mset_eq]; omega, by rw [mset_nei (by decide), mset_eq, e4], fun z => by omega⟩, fun Q h => start Q (s_signAt t4 rfl ?_)⟩
    rw [if_pos e1, e3, if_neg (by decide), s_low_f (by decide), if_pos rfl, s_fig_f (by decide), if_pos rfl, if_pos rfl, s4]
    exact ⟨⟨by omega, by omega⟩, h⟩
  · have bb := (hT.2.2 pl e1).2
    refine ⟨mset (mset S 8 5 4) 8 2 1, (fS.st (by decide)).st (by decide), by rw [mset_eq, e7], by rw [mset_nei (by decide), mset_nei (by decide)]; exact s3, by rw [mset_nei (by decide), mset_nei (by decide), s4]; omega, fun z => by omega, fun Q h => start Q (s_signAt t4 rfl ?_)⟩
    rw [if_pos e1, if_neg (by omega), s_low_f e4, if_pos rfl, s_fig_f e5, if_pos rfl, if_neg e3]
    unfold v_X6_fail
    rw [mset_nei (by decide), s2, if_pos rfl]; exact h
