/-! PURE FACTS, 38: the model's tokens -/
def FU (τ τ' : Mem) : Prop := ∀ j k, ¬ (j = 122 ∧ 4 ≤ k ∧ k ≤ 9) → τ' j k = τ j k
theorem FU.st {σ σ' : Mem} (h : FU σ σ') {k : Nat} {v : Int} (hk : 4 ≤ k ∧ k ≤ 9) : FU σ (mset σ' 122 k v) := fun j i z => by rw [st_ne _ _ (by omega)]; exact h j i z
theorem FU.rf {σ : Mem} : FU σ σ := fun _ _ _ => rfl
theorem skM {τ : Mem} {L a pl : Nat} {b : Nat → Int} {Q : Int → Mem → Prop} (hL : L ≤ 240) (hT : tapM τ L b) (h1 : a ≤ pl) (h2 : pl ≤ L) (h3 : ∀ k, a ≤ k → k < pl → b k = 32) (h4 : pl < L → b pl ≠ 32) (ha : τ 122 6 = a) (h : v_X12_byteAt pl (mset (mset τ 122 6 pl) 122 7 pl) (fun r11 σ12 => if r11 = (-4) then (Q 0 (mset (mset σ12 122 9 0) 122 8 0)) else (v_X12_in r11 97 122 (mset σ12 122 9 0) (fun r15 σ16 => if r15 = 0 then (v_X12_in r11 48 57 σ16 (fun r19 σ20 => if r19 = 0 then (inR ((σ20 122 6) + 1) ∧ (if r11 = 59 then (Q 0 (mset (mset σ20 122 8 3) 122 6 ((σ20 122 6) + 1))) else (v_X12_fails 1 (mset (mset σ20 122 8 3) 122 6 ((σ20 122 6) + 1)) (fun _ σ29 => Q 0 σ29)))) else ((∃ n_ : Nat, l_X12_next_140 Q n_ σ20)))) else ((∃ n_ : Nat, l_X12_next_84 Q n_ σ16)))))) : ∃ n_, l_X12_next_8 Q n_ τ := by
  have main : ∀ d x : Nat, x + d = pl → a ≤ x → l_X12_next_8 Q (d + 1) (mset τ 122 6 x) := by
    intro d
    induction d with
    | zero =>
      intro x hx hax
      have e : x = pl := by omega
      subst e
      have t := hT.st (j := 122) (k := 6) (v := (x : Int)) (by omega)
      rw [l_X12_next_8]
      refine s_byteAt hL t (by rw [mset_eq]) ?_
      have ne : ¬ (if x < L then b x else -4) = 32 := by
        by_cases c : x < L
        · rw [if_pos c]; exact h4 c
        · rw [if_neg c]; decide
      rw [if_neg ne, mset_eq]; exact h
    | succ d ih =>
      intro x hx hax
      have t := hT.st (j := 122) (k := 6) (v := (x : Int)) (by omega)
      rw [l_X12_next_8]
      refine s_byteAt hL t (by rw [mset_eq]) ?_
      rw [if_pos (show x < L by omega), if_pos (h3 x hax (by omega)), mset_eq, mset_mset, show (x : Int) + 1 = ((x + 1 : Nat) : Int) by omega]
      exact ⟨⟨by omega, by omega⟩, ih (x + 1) (by omega) (by omega)⟩
  have m := main (pl - a) a (by omega) (Nat.le_refl a)
  rw [mset_self ha] at m
  exact ⟨pl - a + 1, m⟩
theorem nmM {τ : Mem} {L pl bh : Nat} {b : Nat → Int} {Q : Int → Mem → Prop} (hL : L ≤ 240) (hT : tapM τ L b) (h1 : pl ≤ bh) (h2 : bh ≤ L) (h3 : ∀ k, pl ≤ k → k < bh → 97 ≤ b k ∧ b k ≤ 122) (h4 : bh < L → ¬ (97 ≤ b bh ∧ b bh ≤ 122)) (ha : τ 122 6 = pl) (h : Q 0 (mset (mset τ 122 6 bh) 122 8 1)) : ∃ n_, l_X12_next_84 Q n_ τ := by
  have main : ∀ d x : Nat, x + d = bh → pl ≤ x → l_X12_next_84 Q (d + 1) (mset τ 122 6 x) := by
    intro d
    induction d with
    | zero =>
      intro x hx hax
      have e : x = bh := by omega
      subst e
      have t := hT.st (j := 122) (k := 6) (v := (x : Int)) (by omega)
      rw [l_X12_next_84]
      refine s_byteAt hL t (by rw [mset_eq]) ?_
      have ne : ¬ (97 ≤ (if x < L then b x else -4) ∧ (if x < L then b x else -4) ≤ 122) := by
        by_cases c : x < L
        · rw [if_pos c]; exact h4 c
        · rw [if_neg c]; decide
      rw [s_in_f ne, if_pos rfl]; exact h
    | succ d ih =>
      intro x hx hax
      have t := hT.st (j := 122) (k := 6) (v := (x : Int)) (by omega)
      rw [l_X12_next_84]
      refine s_byteAt hL t (by rw [mset_eq]) ?_
      rw [if_pos (by omega), s_in_t (h3 x hax (by omega)), if_neg (by decide), mset_eq, mset_mset, show (x : Int) + 1 = ((x + 1 : Nat) : Int) by omega]
      exact ⟨⟨by omega, by omega⟩, ih (x + 1) (by omega) (by omega)⟩
  have m := main (bh - pl) pl (by omega) (Nat.le_refl pl)
  rw [mset_self ha] at m
  exact ⟨bh - pl + 1, m⟩
theorem nuM {τ : Mem} {L pl bh : Nat} {b : Nat → Int} {Q : Int → Mem → Prop} (hL : L ≤ 240) (hT : tapM τ L b) (hp : τ 122 7 = pl) (h1 : pl ≤ bh) (h2 : bh ≤ L) (h3 : ∀ k, pl ≤ k → k < bh → 48 ≤ b k ∧ b k ≤ 57) (h4 : bh < L → ¬ (48 ≤ b bh ∧ b bh ≤ 57)) (ha : τ 122 6 = pl) (hz : τ 122 9 = 0) (h : inR ((bh : Int) - pl) ∧ (if 4 < (bh : Int) - pl then v_X12_fails 1 (mset (mset (mset τ 122 6 bh) 122 9 (numV b pl (bh - pl))) 122 8 2) (fun _ σ18 => Q 0 σ18) else Q 0 (mset (mset (mset τ 122 6 bh) 122 9 (numV b pl (bh - pl))) 122 8 2))) : ∃ n_, l_X12_next_140 Q n_ τ := by
  have main : ∀ d x : Nat, x + d = bh → pl ≤ x → l_X12_next_140 Q (d + 1) (mset (mset τ 122 6 x) 122 9 (numV b pl (x - pl))) := by
    intro d
    induction d with
    | zero =>
      intro x hx hax
      have e : x = bh := by omega
      subst e
      have t := (hT.st (j := 122) (k := 6) (v := (x : Int)) (by omega)).st (j := 122) (k := 9) (v := numV b pl (x - pl)) (by omega)
      have e6 : mset (mset τ 122 6 (x : Int)) 122 9 (numV b pl (x - pl)) 122 6 = x := by rw [mset_nei (by decide), mset_eq]
      have e7 : mset (mset τ 122 6 (x : Int)) 122 9 (numV b pl (x - pl)) 122 7 = pl := by rw [mset_nei (by decide), mset_nei (by decide)]; exact hp
      rw [l_X12_next_140]
      refine s_byteAt hL t e6 ?_
      have ne : ¬ (48 ≤ (if x < L then b x else -4) ∧ (if x < L then b x else -4) ≤ 57) := by
        by_cases c : x < L
        · rw [if_pos c]; exact h4 c
        · rw [if_neg c]; decide
      rw [s_in_f ne, if_pos rfl, e6, e7]; exact h
    | succ d ih =>
      intro x hx hax
      have t := (hT.st (j := 122) (k := 6) (v := (x : Int)) (by omega)).st (j := 122) (k := 9) (v := numV b pl (x - pl)) (by omega)
      have e6 : mset (mset τ 122 6 (x : Int)) 122 9 (numV b pl (x - pl)) 122 6 = x := by rw [mset_nei (by decide), mset_eq]
      have e7 : mset (mset τ 122 6 (x : Int)) 122 9 (numV b pl (x - pl)) 122 7 = pl := by rw [mset_nei (by decide), mset_nei (by decide)]; exact hp
      have e9 : mset (mset τ 122 6 (x : Int)) 122 9 (numV b pl (x - pl)) 122 9 = numV b pl (x - pl) := mset_eq
      have fg := h3 x hax (by omega)
      have nr := numV_rng (b := b) (p := pl) (x - pl) (fun i hi => h3 (pl + i) (by omega) (by omega))
      have ns : numV b pl (x + 1 - pl) = if x - pl < 4 then 10 * numV b pl (x - pl) + b (pl + (x - pl)) - 48 else numV b pl (x - pl) := by
        rw [show x + 1 - pl = (x - pl) + 1 by omega]; rfl
      rw [show pl + (x - pl) = x by omega] at ns
      have go := ih (x + 1) (by omega) (by omega)
      have stp : ∀ v : Int, v = numV b pl (x + 1 - pl) → j_X12_next_201 (fun σ_ => l_X12_next_140 Q (d + 1) σ_) Q v (mset (mset τ 122 6 x) 122 9 (numV b pl (x - pl))) := by
        intro v hv
        unfold j_X12_next_201
        rw [e6, mset_mset, mset_swap (by decide), mset_mset, show (x : Int) + 1 = ((x + 1 : Nat) : Int) by omega, hv]
        exact ⟨⟨by omega, by omega⟩, go⟩
      rw [l_X12_next_140]
      refine s_byteAt hL t e6 ?_
      rw [if_pos (by omega), s_in_t fg, if_neg (by decide), e6, e7]
      refine ⟨⟨by omega, by omega⟩, ?_⟩
      by_cases c : (x : Int) - pl < 4
      · rw [if_pos c]
        refine s_byteAt hL t rfl ?_
        rw [if_pos (by omega), e9]
        rw [if_pos (by omega)] at ns
        exact ⟨⟨by omega, by omega⟩, stp _ ns.symm⟩
      · rw [if_neg c, e9]
        rw [if_neg (by omega)] at ns
        exact stp _ ns.symm
  have m := main (bh - pl) pl (by omega) (Nat.le_refl pl)
  rw [Nat.sub_self, mset_self ha] at m
  have e0 : numV b pl 0 = 0 := rfl
  rw [e0, mset_self hz] at m
  exact ⟨bh - pl + 1, m⟩
theorem tokM {τ : Mem} {L a pl bh : Nat} {b : Nat → Int} {kd vl fl : Int} (hL : L ≤ 240) (hb : ∀ k, k < L → 0 ≤ b k) (hT : tapM τ L b) (h0 : τ 122 4 = 0) (h6 : τ 122 6 = a) (tk : TK L b a pl bh kd vl fl) : ∃ τ', FU τ τ' ∧ τ' 122 4 = fl ∧ τ' 122 7 = pl ∧ τ' 122 6 = bh ∧ τ' 122 8 = kd ∧ 0 ≤ τ' 122 9 ∧ τ' 122 9 ≤ 9999 ∧ (kd = 2 → τ' 122 9 = vl) ∧ (fl ≠ 0 → τ' 122 5 = pl) ∧ ∀ Q : Int → Mem → Prop, Q 0 τ' → v_X12_next τ Q := by
  obtain ⟨k1, k2, k3, k4, k5, k6, k7, cases⟩ := tk
  have t6 := hT.st (j := 122) (k := 6) (v := (pl : Int)) (by omega)
  have t7 := t6.st (j := 122) (k := 7) (v := (pl : Int)) (by omega)
  have t9 := t7.st (j := 122) (k := 9) (v := (0 : Int)) (by omega)
  have start : ∀ Q : Int → Mem → Prop, (v_X12_byteAt pl (mset (mset τ 122 6 pl) 122 7 pl) (fun r11 σ12 => if r11 = (-4) then (Q 0 (mset (mset σ12 122 9 0) 122 8 0)) else (v_X12_in r11 97 122 (mset σ12 122 9 0) (fun r15 σ16 => if r15 = 0 then (v_X12_in r11 48 57 σ16 (fun r19 σ20 => if r19 = 0 then (inR ((σ20 122 6) + 1) ∧ (if r11 = 59 then (Q 0 (mset (mset σ20 122 8 3) 122 6 ((σ20 122 6) + 1))) else (v_X12_fails 1 (mset (mset σ20 122 8 3) 122 6 ((σ20 122 6) + 1)) (fun _ σ29 => Q 0 σ29)))) else ((∃ n_ : Nat, l_X12_next_140 Q n_ σ20)))) else ((∃ n_ : Nat, l_X12_next_84 Q n_ σ16)))))) → v_X12_next τ Q := by
    intro Q h
    unfold v_X12_next
    rw [if_neg (by omega)]
    exact skM hL hT k1 (by omega) k4 k5 h6 h
  have s6 : mset (mset (mset τ 122 6 (pl : Int)) 122 7 (pl : Int)) 122 9 0 122 6 = pl := by rw [mset_nei (by decide), mset_nei (by decide), mset_eq]
  have s7 : mset (mset (mset τ 122 6 (pl : Int)) 122 7 (pl : Int)) 122 9 0 122 7 = pl := by rw [mset_nei (by decide), mset_eq]
  have s9 : mset (mset (mset τ 122 6 (pl : Int)) 122 7 (pl : Int)) 122 9 0 122 9 = 0 := mset_eq
  have s4 : mset (mset (mset τ 122 6 (pl : Int)) 122 7 (pl : Int)) 122 9 0 122 4 = 0 := by rw [mset_nei (by decide), mset_nei (by decide), mset_nei (by decide)]; exact h0
  have fS : FU τ (mset (mset (mset τ 122 6 (pl : Int)) 122 7 (pl : Int)) 122 9 0) := ((FU.rf.st (by decide)).st (by decide)).st (by decide)
  generalize hS : mset (mset (mset τ 122 6 (pl : Int)) 122 7 (pl : Int)) 122 9 0 = S at *
  rcases cases with ⟨e1, e2, e3, e4⟩ | ⟨e1, e2, e3, e4, e5⟩ | ⟨e1, e2, e3, e4, e5, e6⟩ | ⟨e1, e2, e3, e4, e5⟩ | ⟨e1, e2, e3, e4, e5, e6, e7⟩
  · refine ⟨mset S 122 8 0, fS.st (by decide), by rw [mset_nei (by decide), e4]; exact s4, by rw [mset_nei (by decide)]; exact s7, by rw [mset_nei (by decide), s6]; omega, by rw [mset_eq, e3], by rw [mset_nei (by decide), s9]; omega, by rw [mset_nei (by decide), s9]; omega, fun z => by omega, fun z => absurd e4 z, fun Q h => start Q (s_byteAt hL t7 rfl ?_)⟩
    rw [if_neg (show ¬ pl < L by omega), if_pos rfl, hS]; exact h
  · have b0 := e2 pl (Nat.le_refl _) e1
    have lt : pl < L := by omega
    refine ⟨mset (mset S 122 6 bh) 122 8 1, (fS.st (by decide)).st (by decide), by rw [mset_nei (by decide), mset_nei (by decide), e5]; exact s4, by rw [mset_nei (by decide), mset_nei (by decide)]; exact s7, by rw [mset_nei (by decide), mset_eq], by rw [mset_eq, e4], by rw [mset_nei (by decide), mset_nei (by decide), s9]; omega, by rw [mset_nei (by decide), mset_nei (by decide), s9]; omega, fun z => by omega, fun z => absurd e5 z, fun Q h => start Q (s_byteAt hL t7 rfl ?_)⟩
    rw [if_pos lt, if_neg (show ¬ b pl = -4 by omega), hS, s_in_t b0, if_neg (by decide)]
    exact nmM hL t9 k2 k3 e2 e3 s6 h
  · have b0 := e2 pl (Nat.le_refl _) e1
    have lt : pl < L := by omega
    have nr := numV_rng (b := b) (p := pl) (bh - pl) (fun i hi => e2 (pl + i) (by omega) (by omega))
    have z6 : mset (mset (mset S 122 6 (bh : Int)) 122 9 (numV b pl (bh - pl))) 122 8 2 122 6 = bh := by rw [mset_nei (by decide), mset_nei (by decide), mset_eq]
    have z7 : mset (mset (mset S 122 6 (bh : Int)) 122 9 (numV b pl (bh - pl))) 122 8 2 122 7 = pl := by rw [mset_nei (by decide), mset_nei (by decide), mset_nei (by decide)]; exact s7
    have z4 : mset (mset (mset S 122 6 (bh : Int)) 122 9 (numV b pl (bh - pl))) 122 8 2 122 4 = 0 := by rw [mset_nei (by decide), mset_nei (by decide), mset_nei (by decide)]; exact s4
    have z8 : mset (mset (mset S 122 6 (bh : Int)) 122 9 (numV b pl (bh - pl))) 122 8 2 122 8 = 2 := mset_eq
    have z9 : mset (mset (mset S 122 6 (bh : Int)) 122 9 (numV b pl (bh - pl))) 122 8 2 122 9 = numV b pl (bh - pl) := by rw [mset_nei (by decide), mset_eq]
    have zf : FU τ (mset (mset (mset S 122 6 (bh : Int)) 122 9 (numV b pl (bh - pl))) 122 8 2) := ((fS.st (by decide)).st (by decide)).st (by decide)
    have pre : ∀ Q : Int → Mem → Prop, (inR ((bh : Int) - pl) ∧ (if 4 < (bh : Int) - pl then v_X12_fails 1 (mset (mset (mset S 122 6 bh) 122 9 (numV b pl (bh - pl))) 122 8 2) (fun _ σ18 => Q 0 σ18) else Q 0 (mset (mset (mset S 122 6 bh) 122 9 (numV b pl (bh - pl))) 122 8 2))) → v_X12_next τ Q := by
      intro Q h
      refine start Q (s_byteAt hL t7 rfl ?_)
      rw [if_pos lt, if_neg (show ¬ b pl = -4 by omega), hS, s_in_f (by omega), if_pos rfl, s_in_t b0, if_neg (by decide)]
      exact nuM hL t9 s7 k2 k3 e2 e3 s6 s9 h
    generalize mset (mset (mset S 122 6 (bh : Int)) 122 9 (numV b pl (bh - pl))) 122 8 2 = Z at *
    by_cases c : 4 < bh - pl
    · rw [if_pos c] at e6
      refine ⟨mset (mset Z 122 4 1) 122 5 pl, (zf.st (by decide)).st (by decide), by rw [mset_nei (by decide), mset_eq, e6], by rw [mset_nei (by decide), mset_nei (by decide)]; exact z7, by rw [mset_nei (by decide), mset_nei (by decide)]; exact z6, by rw [mset_nei (by decide), mset_nei (by decide), z8, e4], by rw [mset_nei (by decide), mset_nei (by decide), z9]; exact nr.1, by rw [mset_nei (by decide), mset_nei (by decide), z9]; exact nr.2.1, fun _ => by rw [mset_nei (by decide), mset_nei (by decide), z9, e5], fun _ => mset_eq, fun Q h => pre Q ⟨⟨by omega, by omega⟩, ?_⟩⟩
      rw [if_pos (by omega)]
      unfold v_X12_fails
      rw [if_pos z4, z7]; exact h
    · rw [if_neg c] at e6
      refine ⟨Z, zf, by rw [z4, e6], z7, z6, by rw [z8, e4], by rw [z9]; exact nr.1, by rw [z9]; exact nr.2.1, fun _ => by rw [z9, e5], fun z => absurd e6 z, fun Q h => pre Q ⟨⟨by omega, by omega⟩, ?_⟩⟩
      rw [if_neg (by omega)]; exact h
  · refine ⟨mset (mset S 122 8 3) 122 6 ((pl : Int) + 1), (fS.st (by decide)).st (by decide), by rw [mset_nei (by decide), mset_nei (by decide), e5]; exact s4, by rw [mset_nei (by decide), mset_nei (by decide)]; exact s7, by rw [mset_eq]; omega, by rw [mset_nei (by decide), mset_eq, e4], by rw [mset_nei (by decide), mset_nei (by decide), s9]; omega, by rw [mset_nei (by decide), mset_nei (by decide), s9]; omega, fun z => by omega, fun z => absurd e5 z, fun Q h => start Q (s_byteAt hL t7 rfl ?_)⟩
    rw [if_pos e1, e3, if_neg (by decide), hS, s_in_f (by decide), if_pos rfl, s_in_f (by decide), if_pos rfl, if_pos rfl, s6]
    exact ⟨⟨by omega, by omega⟩, h⟩
  · have bb := hb pl e1
    refine ⟨mset (mset (mset (mset S 122 8 3) 122 6 ((pl : Int) + 1)) 122 4 1) 122 5 pl, (((fS.st (by decide)).st (by decide)).st (by decide)).st (by decide), by rw [mset_nei (by decide), mset_eq, e7], by rw [mset_nei (by decide), mset_nei (by decide), mset_nei (by decide), mset_nei (by decide)]; exact s7, by rw [mset_nei (by decide), mset_nei (by decide), mset_eq]; omega, by rw [mset_nei (by decide), mset_nei (by decide), mset_nei (by decide), mset_eq, e6], by rw [mset_nei (by decide), mset_nei (by decide), mset_nei (by decide), mset_nei (by decide), s9]; omega, by rw [mset_nei (by decide), mset_nei (by decide), mset_nei (by decide), mset_nei (by decide), s9]; omega, fun z => by omega, fun _ => mset_eq, fun Q h => start Q (s_byteAt hL t7 rfl ?_)⟩
    rw [if_pos e1, if_neg (show ¬ b pl = -4 by omega), hS, s_in_f e4, if_pos rfl, s_in_f e5, if_pos rfl, if_neg e3, s6]
    unfold v_X12_fails
    rw [mset_nei (by decide), mset_nei (by decide), s4, if_pos rfl, mset_nei (by decide), mset_nei (by decide), s7]
    exact ⟨⟨by omega, by omega⟩, h⟩
