/-! PURE FACTS, 2: the rules that hold -/
theorem bestF_rng {P : Nat → Prop} [DecidablePred P] {fr : Nat → Int} : ∀ n : Nat, -1 ≤ bestF P fr n ∧ bestF P fr n < n := by
  intro n
  induction n with
  | zero => show -1 ≤ (-1 : Int) ∧ (-1 : Int) < ((0 : Nat) : Int); omega
  | succ n ih =>
    show -1 ≤ (if P n ∧ (bestF P fr n < 0 ∨ fr (bestF P fr n).toNat < fr n) then (n : Int) else bestF P fr n) ∧ (if P n ∧ (bestF P fr n < 0 ∨ fr (bestF P fr n).toNat < fr n) then (n : Int) else bestF P fr n) < ((n + 1 : Nat) : Int)
    by_cases q : P n ∧ (bestF P fr n < 0 ∨ fr (bestF P fr n).toNat < fr n)
    · rw [if_pos q]; omega
    · rw [if_neg q]; omega
theorem bestF_P {P : Nat → Prop} [DecidablePred P] {fr : Nat → Int} : ∀ n : Nat, 0 ≤ bestF P fr n → P (bestF P fr n).toNat := by
  intro n
  induction n with
  | zero => intro h; have h : (0 : Int) ≤ -1 := h; omega
  | succ n ih =>
    intro h
    have e : bestF P fr (n + 1) = if P n ∧ (bestF P fr n < 0 ∨ fr (bestF P fr n).toNat < fr n) then (n : Int) else bestF P fr n := rfl
    by_cases q : P n ∧ (bestF P fr n < 0 ∨ fr (bestF P fr n).toNat < fr n)
    · rw [e, if_pos q]; simpa using q.1
    · rw [e, if_neg q] at h ⊢; exact ih h
theorem bestF_congr {P R : Nat → Prop} [DecidablePred P] [DecidablePred R] {fr gr : Nat → Int} : ∀ {n : Nat}, (∀ k, k < n → (P k ↔ R k)) → (∀ k, k < n → fr k = gr k) → bestF P fr n = bestF R gr n := by
  intro n
  induction n with
  | zero => intro _ _; rfl
  | succ n ih =>
    intro h1 h2
    have i := ih (fun k hk => h1 k (by omega)) (fun k hk => h2 k (by omega))
    have rg := bestF_rng (P := R) (fr := gr) n
    show (if P n ∧ (bestF P fr n < 0 ∨ fr (bestF P fr n).toNat < fr n) then (n : Int) else bestF P fr n) = (if R n ∧ (bestF R gr n < 0 ∨ gr (bestF R gr n).toNat < gr n) then (n : Int) else bestF R gr n)
    rw [i]
    have hi : bestF R gr n < 0 ∨ fr (bestF R gr n).toNat = gr (bestF R gr n).toNat := by
      rcases Int.lt_or_le (bestF R gr n) 0 with q | q
      · exact Or.inl q
      · exact Or.inr (h2 _ (by omega))
    have e : (P n ∧ (bestF R gr n < 0 ∨ fr (bestF R gr n).toNat < fr n)) ↔ (R n ∧ (bestF R gr n < 0 ∨ gr (bestF R gr n).toNat < gr n)) := by
      rw [h1 n (by omega), h2 n (by omega)]
      rcases hi with q | q
      · simp [q]
      · rw [q]
    by_cases q : R n ∧ (bestF R gr n < 0 ∨ gr (bestF R gr n).toNat < gr n)
    · rw [if_pos q, if_pos (e.mpr q)]
    · rw [if_neg q, if_neg (fun z => q (e.mp z))]
theorem lineF_rng (σ : Mem) (key d : Int) : -1 ≤ lineF σ key d ∧ lineF σ key d < (σ 3 4).toNat := bestF_rng _
theorem s_latest {key d : Int} {σ : Mem} {Q : Int → Mem → Prop} (h0 : 0 ≤ σ 3 4) (h1 : σ 3 4 ≤ 16) (h : Q (lineF σ key d) σ) : v_X7_latest_3 key d σ Q := by
  unfold v_X7_latest_3
  refine lp1a (l_X7_latest_3_5 key d Q) (fun k a s => a = bestF (fun k => σ 4 k = key ∧ σ 5 k ≤ d) (σ 5) k ∧ s = σ) (σ 3 4).toNat (-1) σ ⟨rfl, rfl⟩ ?_ ?_
  · rintro n a b ⟨rfl, rfl⟩
    rw [l_X7_latest_3_5, if_neg (by omega)]
    exact h
  · rintro n i a b hi ⟨ha, hb⟩ ih
    subst hb
    have rg := bestF_rng (P := fun k => b 4 k = key ∧ b 5 k ≤ d) (fr := b 5) i
    rw [← ha] at rg
    rw [l_X7_latest_3_5, if_pos (by omega)]
    refine ⟨by omega, by omega, ?_⟩
    have e2 : bestF (fun k => b 4 k = key ∧ b 5 k ≤ d) (b 5) (i + 1) = if (b 4 i = key ∧ b 5 i ≤ d) ∧ (a < 0 ∨ b 5 a.toNat < b 5 i) then (i : Int) else a := by rw [ha]; rfl
    have go : ∀ v, v = bestF (fun k => b 4 k = key ∧ b 5 k ≤ d) (b 5) (i + 1) → inR ((i : Int) + 1) ∧ l_X7_latest_3_5 key d Q n v (i + 1) b := fun v hv => ⟨⟨by omega, by omega⟩, ih v b ⟨hv, rfl⟩⟩
    unfold j_X7_latest_3_41
    simp only [Int.toNat_natCast]
    by_cases c1 : b 4 i = key
    · by_cases c2 : d < b 5 i
      · rw [if_pos c1, if_pos c2, if_pos rfl]
        exact go a (by rw [e2, if_neg (by omega)])
      · rw [if_pos c1, if_neg c2, if_neg (by decide)]
        by_cases c3 : a < 0
        · rw [if_pos c3]; exact go i (by rw [e2, if_pos ⟨⟨c1, by omega⟩, Or.inl c3⟩])
        · rw [if_neg c3]
          refine ⟨by omega, by omega, by omega, by omega, ?_⟩
          by_cases c4 : b 5 a.toNat < b 5 i
          · rw [if_pos c4]; exact go i (by rw [e2, if_pos ⟨⟨c1, by omega⟩, Or.inr c4⟩])
          · rw [if_neg c4]; exact go a (by rw [e2, if_neg (by omega)])
    · rw [if_neg c1, if_pos rfl]
      exact go a (by rw [e2, if_neg (fun z => c1 z.1.1)])
theorem s_usual {r : Int} {σ : Mem} {Q : Int → Mem → Prop} : v_X7_usual r σ Q = Q (usualF r) σ := by
  unfold v_X7_usual usualF
  repeat' split
  all_goals rfl
theorem s_value {r d : Int} {σ : Mem} {Q : Int → Mem → Prop} (h0 : 0 ≤ σ 3 4) (h1 : σ 3 4 ≤ 16) (hr : 0 ≤ r ∧ r < 20) (h : Q (ruleF σ r d) σ) : v_X7_value_3 r d σ Q := by
  unfold v_X7_value_3 j_X7_value_3_16
  unfold ruleF at h
  have rg := fun key => lineF_rng σ key d
  have main : ∀ (x3 key : Int), (lineF σ key d < 0 → Q (usualF r) σ) → (¬ lineF σ key d < 0 → x3 = 0 → Q (σ 6 (lineF σ key d).toNat) σ) → (¬ lineF σ key d < 0 → x3 ≠ 0 → Q (σ 7 (lineF σ key d).toNat) σ) → j_X7_value_3_29 r d Q x3 key σ := by
    intro x3 key k1 k2 k3
    unfold j_X7_value_3_29
    refine s_latest h0 h1 ?_
    have g := rg key
    by_cases c : lineF σ key d < 0
    · rw [if_pos c, s_usual]; exact k1 c
    · rw [if_neg c]
      by_cases c2 : x3 = 0
      · rw [if_pos c2]; exact ⟨by omega, by omega, k2 c c2⟩
      · rw [if_neg c2]; exact ⟨by omega, by omega, k3 c c2⟩
  by_cases c1 : r < 4
  · rw [if_pos c1] at h ⊢
    rw [if_pos rfl]
    refine main 0 r (fun c => ?_) (fun c _ => ?_) (fun c q => absurd rfl q)
    · rw [if_pos c] at h; exact h
    · rw [if_neg c, if_pos c1] at h; exact h
  · rw [if_neg c1] at h ⊢
    by_cases c2 : r < 8
    · rw [if_pos c2] at h ⊢
      rw [if_neg (by decide)]
      refine ⟨⟨by omega, by omega⟩, main 1 (r - 4) (fun c => ?_) (fun c q => absurd q (by decide)) (fun c q => ?_)⟩
      · rw [if_pos c] at h; exact h
      · rw [if_neg c, if_neg c1, if_pos c2] at h; exact h
    · rw [if_neg c2] at h ⊢
      rw [if_pos rfl]
      refine main 0 r (fun c => ?_) (fun c _ => ?_) (fun c q => absurd rfl q)
      · rw [if_pos c] at h; exact h
      · rw [if_neg c, if_neg c1, if_neg c2] at h; exact h
/-- the day's rules are laid anew -/
theorem s_refresh {σ : Mem} {Q : Int → Mem → Prop} (h0 : 0 ≤ σ 3 4) (h1 : σ 3 4 ≤ 16) (h : ∀ σ' : Mem, (∀ j k, j ≠ 15 → σ' j k = σ j k) → (∀ r : Nat, r < 20 → σ' 15 r = ruleF σ r (σ 14 2)) → Q 0 σ') : v_X5_refresh σ Q := by
  unfold v_X5_refresh
  have rf : ∀ σ' : Mem, (∀ j k, j ≠ 15 → σ' j k = σ j k) → ∀ r d, ruleF σ' r d = ruleF σ r d := by
    intro σ' hs r d
    have f : ∀ j, j ≠ 15 → σ' j = σ j := fun j hj => funext fun k => hs j k hj
    unfold ruleF lineF
    rw [f 3 (by decide), f 4 (by decide), f 5 (by decide), f 6 (by decide), f 7 (by decide)]
  refine lp0 (l_X5_refresh_2 Q) (fun k s => (∀ j i, j ≠ 15 → s j i = σ j i) ∧ ∀ r : Nat, r < k → s 15 r = ruleF σ r (σ 14 2)) 20 σ ⟨fun _ _ _ => rfl, fun r hr => absurd hr (by omega)⟩ ?_ ?_
  · rintro n s ⟨hs, hr⟩
    rw [l_X5_refresh_2, if_neg (by decide)]
    exact h s hs hr
  · rintro n i s hi ⟨hs, hr⟩ ih
    rw [l_X5_refresh_2, if_pos (by omega)]
    refine s_value (by rw [hs 3 4 (by decide)]; exact h0) (by rw [hs 3 4 (by decide)]; exact h1) ⟨by omega, by omega⟩ ?_
    refine ⟨by omega, by omega, ⟨by omega, by omega⟩, ih _ ⟨fun j k hj => ?_, fun r hr2 => ?_⟩⟩
    · rw [mset_ne hj]; exact hs j k hj
    · rw [Int.toNat_natCast]
      by_cases e : r = i
      · rw [e, mset_eq, rf s hs, hs 14 2 (by decide)]
      · rw [mset_nei e]; exact hr r (by omega)
/-- the model's line that holds -/
theorem keyF_inj {w o w2 o2 : Int} (h1 : whOK w o) (h2 : whOK w2 o2) : keyF w o = keyF w2 o2 ↔ (w = w2 ∧ o = o2) := by
  unfold whOK at h1 h2
  unfold keyF
  rcases h1 with h | h | h | h | h <;> rcases h2 with g | g | g | g | g <;> simp only [h.1, g.1] <;> simp <;> omega
def mB (x : Int) : Int := if x < 0 then -4 else x
theorem s_lineAt {w o d : Int} {σ : Mem} {Q : Int → Mem → Prop} (hI : I_rules σ) (hw : whOK w o) (h : Q (mB (lineF σ (keyF w o) d)) σ) : v_X12_lineAt w o d σ Q := by
  obtain ⟨h12, h0, h1, hk⟩ := hI
  have fo : (fun k : Nat => k) = fun k => k := rfl
  have eq : lineF σ (keyF w o) d = bestF (fun k => σ 126 k = w ∧ σ 127 k = o ∧ σ 128 k ≤ d) (σ 128) (σ 3 4).toNat := by
    unfold lineF
    refine bestF_congr (fun k hk2 => ?_) (fun k hk2 => ((hk k (by omega)).1).symm)
    obtain ⟨a1, a2, a3, a4, a5, a6⟩ := hk k (by omega)
    rw [a4, a1, keyF_inj a5 hw]
    exact and_assoc
  rw [eq] at h
  unfold v_X12_lineAt
  refine lp1a (l_X12_lineAt_7 w o d Q) (fun k a s => a = mB (bestF (fun k => σ 126 k = w ∧ σ 127 k = o ∧ σ 128 k ≤ d) (σ 128) k) ∧ s = σ) (σ 3 4).toNat (-4) σ ⟨rfl, rfl⟩ ?_ ?_
  · rintro n a b ⟨rfl, rfl⟩
    rw [l_X12_lineAt_7, if_neg (by omega)]
    exact h
  · rintro n i a b hi ⟨ha, hb⟩ ih
    subst hb
    have rg := bestF_rng (P := fun k => b 126 k = w ∧ b 127 k = o ∧ b 128 k ≤ d) (fr := b 128) i
    generalize hB : bestF (fun k => b 126 k = w ∧ b 127 k = o ∧ b 128 k ≤ d) (b 128) i = B at ha rg
    have e2 : bestF (fun k => b 126 k = w ∧ b 127 k = o ∧ b 128 k ≤ d) (b 128) (i + 1) = if (b 126 i = w ∧ b 127 i = o ∧ b 128 i ≤ d) ∧ (B < 0 ∨ b 128 B.toNat < b 128 i) then (i : Int) else B := by rw [← hB]; rfl
    rw [l_X12_lineAt_7, if_pos (by omega)]
    simp only [Int.toNat_natCast]
    refine ⟨by omega, by omega, ?_⟩
    have go : ∀ v, v = mB (bestF (fun k => b 126 k = w ∧ b 127 k = o ∧ b 128 k ≤ d) (b 128) (i + 1)) → inR ((i : Int) + 1) ∧ l_X12_lineAt_7 w o d Q n v (i + 1) b := fun v hv => ⟨⟨by omega, by omega⟩, ih v b ⟨hv, rfl⟩⟩
    have mi : mB (i : Int) = i := by unfold mB; rw [if_neg (by omega)]
    by_cases c1 : b 126 i = w
    · rw [if_pos c1]
      by_cases c2 : b 127 i = o
      · rw [if_pos c2]
        by_cases c3 : d < b 128 i
        · rw [if_pos c3]; exact go a (by rw [e2, if_neg (by omega)]; exact ha)
        · rw [if_neg c3]
          by_cases c4 : B < 0
          · have e : a = -4 := by rw [ha]; unfold mB; rw [if_pos c4]
            rw [if_pos e]; exact go i (by rw [e2, if_pos ⟨⟨c1, c2, by omega⟩, Or.inl c4⟩, mi])
          · have e : a = B := by rw [ha]; unfold mB; rw [if_neg c4]
            rw [if_neg (by omega), e]
            refine ⟨by omega, by omega, ?_⟩
            by_cases c5 : b 128 B.toNat < b 128 i
            · rw [if_pos c5]; exact go i (by rw [e2, if_pos ⟨⟨c1, c2, by omega⟩, Or.inr c5⟩, mi])
            · rw [if_neg c5]; exact go B (by rw [e2, if_neg (by omega), ← ha, e])
      · rw [if_neg c2]; exact go a (by rw [e2, if_neg (fun z => c2 z.1.2.1)]; exact ha)
    · rw [if_neg c1]; exact go a (by rw [e2, if_neg (fun z => c1 z.1.1)]; exact ha)
