/-! PURE FACTS, 23: weights of drawers, chance -/
abbrev tspr (σ : Mem) : Int := σ 15 (8 + σ 95 1).toNat
abbrev thP (σ : Mem) (m t : Nat) : Nat → Prop := fun i => 0 < σ 96 m - tspr σ + (i : Int) ∧ thirdF (σ 15) m (σ 96 m - tspr σ + (i : Int)) = (t : Int)
abbrev poP (b : Int) : Nat → Prop := fun i => 0 < b + (i : Int)
def thF (σ : Mem) (m t : Nat) : Nat := if σ 96 m = 0 then 1 else cntF (thP σ m t) (2 * tspr σ + 1).toNat
def alF (σ : Mem) (m : Nat) : Nat := if σ 96 m = 0 then 3 else cntF (poP (σ 96 m - tspr σ)) (2 * tspr σ + 1).toNat
def whF (σ : Mem) : Nat → Nat
  | 0 => 1
  | m + 1 => whF σ m * alF σ m
def wtF (σ : Mem) (d : Nat) : Nat := thF σ 0 (d / 9) * thF σ 1 (d / 3 % 3) * thF σ 2 (d % 3)
theorem tsprR {σ : Mem} (hI : INVt σ) (ht : ¬ σ 95 0 = 0) : 0 ≤ tspr σ ∧ tspr σ ≤ 20 := by
  obtain ⟨t1, t2, t3, t4⟩ := tellD hI ht
  exact (now_rng hI.k).2.1 (8 + σ 95 1).toNat (by omega) (by omega)
theorem cnt_pos (b : Int) : ∀ n : Nat, ((cntF (poP b) n : Nat) : Int) = if 1 ≤ b then (n : Int) else if b + n ≤ 1 then 0 else b + n - 1 := by
  intro n
  induction n with
  | zero =>
    show ((0 : Nat) : Int) = _
    repeat' split
    all_goals omega
  | succ n ih =>
    have st := cnt_step (poP b) n
    rw [st]
    by_cases g : 0 < b + (n : Int)
    · rw [if_pos g]
      revert ih
      repeat' split
      all_goals omega
    · rw [if_neg g]
      revert ih
      repeat' split
      all_goals omega
theorem th_sum {σ : Mem} {m : Nat} : ∀ n : Nat, cntF (thP σ m 0) n + cntF (thP σ m 1) n + cntF (thP σ m 2) n = cntF (poP (σ 96 m - tspr σ)) n := by
  intro n
  induction n with
  | zero => rfl
  | succ n ih =>
    rw [cnt_step, cnt_step, cnt_step, cnt_step]
    have g := thirdF_rng (σ 15) m (σ 96 m - tspr σ + (n : Int))
    by_cases z : 0 < σ 96 m - tspr σ + (n : Int)
    · have z3 : thirdF (σ 15) m (σ 96 m - tspr σ + (n : Int)) = ((0 : Nat) : Int) ∨ thirdF (σ 15) m (σ 96 m - tspr σ + (n : Int)) = ((1 : Nat) : Int) ∨ thirdF (σ 15) m (σ 96 m - tspr σ + (n : Int)) = ((2 : Nat) : Int) := by omega
      rw [if_pos z]
      rcases z3 with y | y | y
      · rw [if_pos ⟨z, y⟩, if_neg (fun x => by have := x.2; omega), if_neg (fun x => by have := x.2; omega)]; omega
      · rw [if_neg (fun x => by have := x.2; omega), if_pos ⟨z, y⟩, if_neg (fun x => by have := x.2; omega)]; omega
      · rw [if_neg (fun x => by have := x.2; omega), if_neg (fun x => by have := x.2; omega), if_pos ⟨z, y⟩]; omega
    · rw [if_neg z, if_neg (fun x => z x.1), if_neg (fun x => z x.1), if_neg (fun x => z x.1)]; omega
theorem thF_sum {σ : Mem} (m : Nat) : thF σ m 0 + thF σ m 1 + thF σ m 2 = alF σ m := by
  unfold thF alF
  by_cases z : σ 96 m = 0
  · rw [if_pos z, if_pos z, if_pos z, if_pos z]
  · rw [if_neg z, if_neg z, if_neg z, if_neg z]; exact th_sum _
theorem alF_rng {σ : Mem} (hI : INVt σ) (ht : ¬ σ 95 0 = 0) {m : Nat} (hm : m < 4) : 0 < alF σ m ∧ alF σ m ≤ 41 := by
  have s := tsprR hI ht
  have t := (tellD hI ht).2.2.2 m hm
  unfold alF
  by_cases z : σ 96 m = 0
  · rw [if_pos z]; omega
  · rw [if_neg z]
    have c := cnt_pos (σ 96 m - tspr σ) (2 * tspr σ + 1).toNat
    have l := cntF_le (P := poP (σ 96 m - tspr σ)) (2 * tspr σ + 1).toNat
    revert c
    repeat' split
    all_goals omega
theorem thF_le {σ : Mem} (hI : INVt σ) (ht : ¬ σ 95 0 = 0) {m : Nat} (hm : m < 4) (t : Nat) : thF σ m t ≤ 41 := by
  have s := tsprR hI ht
  unfold thF
  by_cases z : σ 96 m = 0
  · rw [if_pos z]; omega
  · rw [if_neg z]
    have l := cntF_le (P := thP σ m t) (2 * tspr σ + 1).toNat
    omega
theorem mul3_le {a b c : Nat} (ha : a ≤ 41) (hb : b ≤ 41) (hc : c ≤ 41) : a * b * c ≤ 68921 := Nat.mul_le_mul (Nat.mul_le_mul ha hb) hc
theorem wtF_le {σ : Mem} (hI : INVt σ) (ht : ¬ σ 95 0 = 0) (d : Nat) : wtF σ d ≤ 68921 := mul3_le (thF_le hI ht (by omega) _) (thF_le hI ht (by omega) _) (thF_le hI ht (by omega) _)
theorem whF_rng {σ : Mem} (hI : INVt σ) (ht : ¬ σ 95 0 = 0) : whF σ 3 ≤ 68921 ∧ 0 < whF σ 3 := by
  have a0 := alF_rng hI ht (m := 0) (by omega)
  have a1 := alF_rng hI ht (m := 1) (by omega)
  have a2 := alF_rng hI ht (m := 2) (by omega)
  have e : whF σ 3 = alF σ 0 * alF σ 1 * alF σ 2 := by
    show 1 * alF σ 0 * alF σ 1 * alF σ 2 = _
    rw [Nat.one_mul]
  rw [e]
  exact ⟨mul3_le a0.2 a1.2 a2.2, Nat.mul_pos (Nat.mul_pos a0.1 a1.1) a2.1⟩
theorem same_102 {σ τ : Mem} (h : ∀ j k, j ≠ 102 → τ j k = σ j k) : SAME σ τ := fun j k q => h j k (fun e => by subst e; cases q)
/-- the class's share of one measure -/
theorem s_share {σ τ : Mem} {m : Nat} {p1 p2 p3 : Int} {Q : Int → Mem → Prop} (hm : m < 3) (e1 : p1 = m) (e2 : p2 = σ 96 m) (e3 : p3 = tspr σ) (hS : 0 ≤ tspr σ ∧ tspr σ ≤ 20) (hT : 0 ≤ σ 96 m ∧ σ 96 m ≤ 999) (h15 : τ 15 = σ 15) (h : ∀ ω : Mem, (∀ j k, j ≠ 102 → ω j k = τ j k) → (∀ k, ¬ (3 * m ≤ k ∧ k < 3 * m + 3) → ω 102 k = τ 102 k) → (∀ t, t < 3 → ω 102 (3 * m + t) = (thF σ m t : Nat)) → Q (alF σ m : Nat) ω) : v_X3_share p1 p2 p3 τ Q := by
  subst e1; subst e2; subst e3
  unfold v_X3_share
  refine lp0 (l_X3_share_3 m (σ 96 m) (tspr σ) Q) (fun i ω => (∀ j k, j ≠ 102 → ω j k = τ j k) ∧ (∀ k, ¬ (3 * m ≤ k ∧ k < 3 * m + 3) → ω 102 k = τ 102 k) ∧ (∀ t, t < i → ω 102 (3 * m + t) = if σ 96 m = 0 then 1 else 0)) 3 τ ⟨fun _ _ _ => rfl, fun _ _ => rfl, fun t ht => absurd ht (by omega)⟩ ?_ ?_
  · rintro n ω ⟨h1, h2, h3⟩
    rw [l_X3_share_3, if_neg (by decide)]
    by_cases z : σ 96 m = 0
    · rw [if_pos z]
      have a : (alF σ m : Nat) = 3 := by unfold alF; rw [if_pos z]
      rw [a] at h
      refine h ω h1 h2 (fun t ht => ?_)
      rw [h3 t ht, if_pos z]
      unfold thF; rw [if_pos z]; rfl
    · rw [if_neg z]
      refine ⟨⟨by omega, by omega⟩, ?_⟩
      have lo : 1 ≤ imax 1 (σ 96 m - tspr σ) ∧ σ 96 m - tspr σ ≤ imax 1 (σ 96 m - tspr σ) ∧ (imax 1 (σ 96 m - tspr σ) = 1 ∨ imax 1 (σ 96 m - tspr σ) = σ 96 m - tspr σ) := by
        unfold imax; split <;> omega
      have al : (alF σ m : Nat) = σ 96 m + tspr σ - imax 1 (σ 96 m - tspr σ) + 1 := by
        unfold alF
        rw [if_neg z]
        have c := cnt_pos (σ 96 m - tspr σ) (2 * tspr σ + 1).toNat
        rw [c]
        repeat' split
        all_goals omega
      generalize imax 1 (σ 96 m - tspr σ) = L at lo al
      obtain ⟨d, hd⟩ : ∃ d : Nat, L = σ 96 m - tspr σ + d := ⟨(L - (σ 96 m - tspr σ)).toNat, by omega⟩
      obtain ⟨K, hK⟩ : ∃ K : Nat, (K : Int) = σ 96 m + tspr σ - L + 1 := ⟨(σ 96 m + tspr σ - L + 1).toNat, by omega⟩
      have c0 : ∀ t j, j ≤ d → cntF (thP σ m t) j = 0 := by
        intro t j
        induction j with
        | zero => intro _; rfl
        | succ j ih =>
          intro hj
          rw [cnt_step, ih (by omega), if_neg (fun y => by have := y.1; omega)]
      have LL := lp0 (fun n i s => l_X3_share_57 m (σ 96 m) (tspr σ) L Q n (L + i) s) (fun i s => (∀ j k, j ≠ 102 → s j k = τ j k) ∧ (∀ k, ¬ (3 * m ≤ k ∧ k < 3 * m + 3) → s 102 k = τ 102 k) ∧ (∀ t, t < 3 → s 102 (3 * m + t) = (cntF (thP σ m t) (d + i) : Nat))) K ω ⟨h1, h2, fun t ht => by rw [h3 t ht, if_neg z, c0 t (d + 0) (by omega)]; rfl⟩ ?_ ?_
      · obtain ⟨n, hn⟩ := LL
        try dsimp only at hn
        rw [Int.add_zero] at hn
        exact ⟨n, hn⟩
      · rintro n s ⟨g1, g2, g3⟩
        try dsimp only
        rw [l_X3_share_57, if_pos (by omega)]
        refine ⟨⟨by omega, by omega⟩, ⟨by omega, by omega⟩, ?_⟩
        rw [← al]
        refine h s g1 g2 (fun t ht => ?_)
        rw [g3 t ht]
        unfold thF
        rw [if_neg z, show d + K = (2 * tspr σ + 1).toNat by omega]
      · rintro n i s hi ⟨g1, g2, g3⟩ ih
        try dsimp only at ih ⊢
        rw [l_X3_share_57, if_neg (by omega)]
        refine ⟨⟨by omega, by omega⟩, s_third (m := m) rfl (by omega) ?_⟩
        have s15 : s 15 = σ 15 := by rw [← h15]; exact funext fun k => g1 15 k (by decide)
        rw [s15]
        have tr := thirdF_rng (σ 15) m (L + i)
        obtain ⟨t, ht⟩ : ∃ t : Nat, thirdF (σ 15) m (L + i) = t := ⟨(thirdF (σ 15) m (L + i)).toNat, by omega⟩
        have cl := cntF_le (P := thP σ m t) (d + i)
        rw [ht, show (3 * (m : Int) + t).toNat = 3 * m + t by omega, g3 t (by omega)]
        refine ⟨by omega, by omega, ⟨by omega, by omega⟩, ⟨by omega, by omega⟩, ?_⟩
        rw [show L + (i : Int) + 1 = L + ((i : Int) + 1) by omega]
        refine ih _ ⟨fun j k hj => ?_, fun k hk => ?_, fun u hu => ?_⟩
        · rw [mset_ne hj]; exact g1 j k hj
        · rw [mset_nei (by omega)]; exact g2 k hk
        · have st := cnt_step (thP σ m u) (d + i)
          rw [show d + (i + 1) = d + i + 1 by omega]
          have ev : σ 96 m - tspr σ + ((d + i : Nat) : Int) = L + i := by omega
          by_cases e : u = t
          · subst e
            rw [if_pos ⟨by rw [ev]; omega, by rw [ev]; exact ht⟩] at st
            rw [mset_eq, st]; omega
          · rw [if_neg (fun y => by have := y.2; rw [ev, ht] at this; omega)] at st
            rw [mset_nei (by omega), g3 u hu, st]; rfl
  · rintro n i ω hi ⟨h1, h2, h3⟩ ih
    have go : ∀ v : Int, v = (if σ 96 m = 0 then 1 else 0) → (if v = 0 then (0 : Int) else 1) = v → inR (3 * (m : Int) + i) ∧ j_X3_share_28 m (σ 96 m) (tspr σ) (fun x5_ σ_ => l_X3_share_3 m (σ 96 m) (tspr σ) Q n x5_ σ_) Q i v (3 * m + i) ω := by
      intro v hv hv2
      unfold j_X3_share_28
      rw [s_bit, hv2, show (3 * (m : Int) + i).toNat = 3 * m + i by omega]
      refine ⟨⟨by omega, by omega⟩, by omega, by omega, ⟨by omega, by omega⟩, ih _ ⟨fun j k hj => ?_, fun k hk => ?_, fun t ht => ?_⟩⟩
      · rw [mset_ne hj]; exact h1 j k hj
      · rw [mset_nei (by omega)]; exact h2 k hk
      · by_cases e : t = i
        · subst e; rw [mset_eq]; exact hv
        · rw [mset_nei (by omega)]; exact h3 t (by omega)
    rw [l_X3_share_3, if_pos (by omega)]
    by_cases z : σ 96 m = 0
    · rw [if_pos z]; exact go 1 (by rw [if_pos z]) rfl
    · rw [if_neg z]; exact go 0 (by rw [if_neg z]) rfl
def wgh (σ ω : Mem) : Prop := SAME σ ω ∧ ω 99 1 = (whF σ 3 : Nat) ∧ ∀ d, d < 27 → ω 100 d = (wtF σ d : Nat)
theorem s_weigh {σ : Mem} {Q : Int → Mem → Prop} (hI : INVt σ) (ht : ¬ σ 95 0 = 0) (h : ∀ ω, wgh σ ω → Q 0 ω) : v_X3_weigh σ Q := by
  obtain ⟨t1, t2, t3, t4⟩ := tellD hI ht
  have ts := tsprR hI ht
  unfold v_X3_weigh
  refine lp0 (l_X3_weigh_7 Q) (fun i ω => SAME σ ω ∧ ω 99 1 = (whF σ i : Nat) ∧ ∀ m t, m < i → t < 3 → ω 102 (3 * m + t) = (thF σ m t : Nat)) 3 _ ⟨SAME.rf.st rfl, by rw [mset_eq]; rfl, fun m t hm => absurd hm (by omega)⟩ ?_ ?_
  · rintro n ω ⟨h1, h2, h3⟩
    rw [l_X3_weigh_7, if_neg (by decide)]
    refine lp0 (l_X3_weigh_49 Q) (fun i s => SAME σ s ∧ s 99 1 = (whF σ 3 : Nat) ∧ (∀ m t, m < 3 → t < 3 → s 102 (3 * m + t) = (thF σ m t : Nat)) ∧ ∀ d, d < i → s 100 d = (wtF σ d : Nat)) 27 ω ⟨h1, h2, h3, fun d hd => absurd hd (by omega)⟩ ?_ ?_
    · rintro n s ⟨g1, g2, g3, g4⟩
      rw [l_X3_weigh_49, if_neg (by decide)]
      exact h s ⟨g1, g2, g4⟩
    · rintro n k s hk ⟨g1, g2, g3, g4⟩ ih
      have wl := wtF_le hI ht k
      have e9 : Int.tdiv (k : Int) 9 = ((k / 9 : Nat) : Int) := rfl
      have e3 : Int.tdiv (k : Int) 3 = ((k / 3 : Nat) : Int) := rfl
      have em : Int.tmod ((k / 3 : Nat) : Int) 3 = ((k / 3 % 3 : Nat) : Int) := rfl
      have en : Int.tmod (k : Int) 3 = ((k % 3 : Nat) : Int) := rfl
      have u0 : s 102 (k / 9) = (thF σ 0 (k / 9) : Nat) := by
        have := g3 0 (k / 9) (by omega) (by omega)
        rw [show 3 * 0 + k / 9 = k / 9 by omega] at this; exact this
      have u1 : s 102 (3 + k / 3 % 3) = (thF σ 1 (k / 3 % 3) : Nat) := g3 1 (k / 3 % 3) (by omega) (by omega)
      have u2 : s 102 (6 + k % 3) = (thF σ 2 (k % 3) : Nat) := g3 2 (k % 3) (by omega) (by omega)
      rw [l_X3_weigh_49, if_pos (by omega), e9, e3, em, en, Int.toNat_natCast, show (3 + ((k / 3 % 3 : Nat) : Int)).toNat = 3 + k / 3 % 3 by omega, show (6 + ((k % 3 : Nat) : Int)).toNat = 6 + k % 3 by omega, u0, u1, u2, Int.toNat_natCast]
      have ep : ((thF σ 0 (k / 9) : Nat) : Int) * (thF σ 1 (k / 3 % 3) : Nat) * (thF σ 2 (k % 3) : Nat) = ((wtF σ k : Nat) : Int) := by
        unfold wtF; rw [Int.natCast_mul, Int.natCast_mul]
      rw [ep]
      refine ⟨by omega, by omega, ⟨by omega, by omega⟩, by omega, by omega, by omega, by omega, by omega, by omega, ⟨by omega, by omega⟩, ⟨by omega, by omega⟩, ih _ ⟨g1.st rfl, ?_, fun m t hm ht => ?_, fun d hd => ?_⟩⟩
      · rw [mset_ne (by decide)]; exact g2
      · rw [mset_ne (by decide)]; exact g3 m t hm ht
      · by_cases e : d = k
        · subst e; rw [mset_eq]
        · rw [mset_nei e]; exact g4 d (by omega)
  · rintro n m ω hm ⟨h1, h2, h3⟩ ih
    have w15 := (same_now h1).2
    rw [l_X3_weigh_7, if_pos (by omega), h1 95 1 rfl, Int.toNat_natCast]
    refine ⟨by omega, by omega, s_spreadOf ⟨t2, t3⟩ ?_⟩
    refine s_share (σ := σ) (m := m) hm rfl (h1 96 m rfl) (by rw [w15]) ts (t4 m (by omega)).2 w15 (fun ψ p1 p2 p3 => ?_)
    have sψ : SAME σ ψ := h1.tr (same_102 p1)
    have bw : whF σ (m + 1) ≤ 68921 := by
      have a0 := alF_rng hI ht (m := 0) (by omega)
      have a1 := alF_rng hI ht (m := 1) (by omega)
      have a2 := alF_rng hI ht (m := 2) (by omega)
      have : m = 0 ∨ m = 1 ∨ m = 2 := by omega
      rcases this with rfl | rfl | rfl
      · show 1 * alF σ 0 ≤ _; omega
      · show 1 * alF σ 0 * alF σ 1 ≤ _
        exact Nat.le_trans (Nat.mul_le_mul (Nat.mul_le_mul (Nat.le_refl 1) a0.2) a1.2) (by decide)
      · exact (whF_rng hI ht).1
    have ep : ω 99 1 * (alF σ m : Nat) = (whF σ (m + 1) : Nat) := by
      rw [h2, ← Int.natCast_mul]; rfl
    rw [ep]
    refine ⟨⟨by omega, by omega⟩, ⟨by omega, by omega⟩, ih _ ⟨sψ.st rfl, by rw [mset_eq], fun a t ha ht2 => ?_⟩⟩
    rw [mset_ne (by decide)]
    by_cases e : a = m
    · subst e; exact p3 t ht2
    · rw [p2 _ (by omega)]; exact h3 a t (by omega) ht2
