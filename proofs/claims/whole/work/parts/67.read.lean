/-! PURE FACTS, 36: read -/
def celF (σ : Mem) (k : Nat) (f : Int) (i : Nat) : Int := σ (110 + 2 * k) (f + i).toNat
def rdF (σ : Mem) (k : Nat) (f N : Int) : Nat → Nat → Int × Int × Nat
  | 0, i => (0, 0, i / 4)
  | r + 1, i => if ¬ (0 ≤ f + (i : Int) ∧ f + (i : Int) < σ (109 + 2 * k) 3) then (0, 2, i / 4) else if 999 < celF σ k f i then (-20 - (i : Int), 0, 0) else if 24 < N + ((i + 1) / 4 : Nat) then (-3, 0, 0) else rdF σ k f N r (i + 1)
theorem wr_in {f : Int} {i : Nat} (hf : inR f) (hi : i < 96) : (f + (i : Int) ≤ 2147483647 → wr (f + (i : Int)) = f + (i : Int)) ∧ (2147483647 < f + (i : Int) → wr (f + (i : Int)) < 0) := by
  constructor
  · intro h
    unfold wr; exact ofInt_i32 ⟨by omega, h⟩
  · intro h
    unfold wr
    rw [Int32.toInt_ofInt]
    simp only [Int.bmod, Int32.size]
    split <;> omega
theorem s_hasW {τ : Mem} {k : Nat} {f : Int} {i : Nat} {Q : Int → Mem → Prop} (hf : inR f) (hi : i < 96) (hz : τ (109 + 2 * k) 3 ≤ 96) (h1 : 0 ≤ f + (i : Int) ∧ f + (i : Int) < τ (109 + 2 * k) 3 → wr (f + (i : Int)) = f + (i : Int) → Q 1 τ) (h0 : ¬ (0 ≤ f + (i : Int) ∧ f + (i : Int) < τ (109 + 2 * k) 3) → Q 0 τ) : v_X8_has k (wr (f + (i : Int))) τ Q := by
  have w := wr_in hf hi
  unfold v_X8_has
  by_cases c : f + (i : Int) ≤ 2147483647
  · rw [w.1 c]
    by_cases c2 : f + (i : Int) < 0
    · rw [if_pos c2]; exact h0 (by omega)
    · rw [if_neg c2]
      by_cases c3 : f + (i : Int) < τ (109 + 2 * k) 3
      · rw [if_pos c3]; exact h1 (by omega) (w.1 c)
      · rw [if_neg c3]; exact h0 (by omega)
  · rw [if_pos (w.2 (by omega))]; exact h0 (by omega)
theorem s_scanC {σ : Mem} {p a2 a3 f a5 : Int} {k n : Nat} {R : Int × Int × Nat} {Q : Int → Mem → Prop} (hf : inR f) (hn : a5 = n) (hn2 : n ≤ 24) (hz : 0 ≤ σ (109 + 2 * k) 3 ∧ σ (109 + 2 * k) 3 ≤ 96) (hk : k < 4) (h16 : 0 ≤ σ 16 2 ∧ σ 16 2 ≤ 24) (q1 : R.1 ≠ 0 → ∀ s : Mem, (∀ j x, j ≠ 117 → s j x = σ j x) → Q R.1 s) (q2 : R.1 = 0 → σ 16 2 + (R.2.2 : Nat) ≤ 24 → ∀ s : Mem, (∀ j x, j ≠ 117 → s j x = σ j x) → (∀ j, j < 4 * R.2.2 → s 117 j = imax (celF σ k f j) 0 ∧ celF σ k f j ≤ 999) → ∃ n_, l_X11_read_179 p a2 a3 f a5 R.2.1 R.2.2 Q n_ 0 s) : ∀ r i : Nat, i + r = 4 * n → rdF σ k f (σ 16 2) r i = R → σ 16 2 + (i / 4 : Nat) ≤ 24 → ∀ s : Mem, (∀ j x, j ≠ 117 → s j x = σ j x) → (∀ j, j < i → s 117 j = imax (celF σ k f j) 0 ∧ celF σ k f j ≤ 999) → l_X11_read_66 p a2 a3 f a5 k Q (r + 2) 0 (i / 4 : Nat) i s := by
  subst hn
  intro r
  induction r with
  | zero =>
    intro i hi hR cap s hs h117
    have hR : ((0 : Int), (0 : Int), i / 4) = R := hR
    subst hR
    rw [l_X11_read_66, if_neg (by omega)]
    exact ⟨⟨by omega, by omega⟩, q2 rfl cap s hs (fun j hj => h117 j (by have hj : j < 4 * (i / 4) := hj; omega))⟩
  | succ r ih =>
    intro i hi hR cap s hs h117
    have i96 : i < 96 := by omega
    have e3 : s (109 + 2 * k) 3 = σ (109 + 2 * k) 3 := hs _ 3 (by omega)
    have e16 : s 16 2 = σ 16 2 := hs 16 2 (by decide)
    rw [l_X11_read_66, if_pos (by omega), if_pos rfl]
    refine ⟨⟨by omega, by omega⟩, ?_⟩
    have hR2 : (if ¬ (0 ≤ f + (i : Int) ∧ f + (i : Int) < σ (109 + 2 * k) 3) then ((0 : Int), (2 : Int), i / 4) else if 999 < celF σ k f i then (-20 - (i : Int), 0, 0) else if 24 < σ 16 2 + ((i + 1) / 4 : Nat) then (-3, 0, 0) else rdF σ k f (σ 16 2) r (i + 1)) = R := hR
    refine s_hasW hf i96 (by rw [e3]; exact hz.2) (fun c ew => ?_) (fun c => ?_)
    · rw [e3] at c
      rw [if_neg (fun z => z c)] at hR2
      have ec : s (110 + 2 * k) (f + (i : Int)).toNat = celF σ k f i := hs _ _ (by omega)
      rw [if_neg (by decide), ew, ec]
      refine ⟨by omega, by omega, ?_⟩
      by_cases c2 : 999 < celF σ k f i
      · rw [if_pos c2] at hR2 ⊢
        subst hR2
        exact ⟨⟨by omega, by omega⟩, q1 (by show -20 - (i : Int) ≠ 0; omega) s hs⟩
      · rw [if_neg c2] at hR2 ⊢
        have td : Int.tdiv ((i : Int) + 1) 4 = (((i + 1) / 4 : Nat) : Int) := rfl
        unfold j_X11_read_152
        rw [td, mset_ne (by decide), e16, Int.toNat_natCast]
        refine ⟨by omega, by omega, ⟨by omega, by omega⟩, ⟨by omega, by omega⟩, ⟨by omega, by omega⟩, ?_⟩
        have hs2 : ∀ j x, j ≠ 117 → mset s 117 i (imax (celF σ k f i) 0) j x = σ j x := fun j x hj => by rw [mset_ne hj]; exact hs j x hj
        by_cases c3 : 24 < σ 16 2 + ((i + 1) / 4 : Nat)
        · rw [if_pos c3] at hR2 ⊢
          subst hR2
          exact q1 (by decide) _ hs2
        · rw [if_neg c3] at hR2 ⊢
          refine ⟨⟨by omega, by omega⟩, ?_⟩
          have := ih (i + 1) (by omega) hR2 (by omega) _ hs2 (fun j hj => ?_)
          · exact this
          · by_cases e : j = i
            · subst e; rw [mset_eq]; exact ⟨rfl, by omega⟩
            · rw [mset_nei e]; exact h117 j (by omega)
    · rw [e3] at c
      rw [if_pos c] at hR2
      subst hR2
      rw [if_pos rfl]
      unfold j_X11_read_152
      rw [e16, if_neg (by omega)]
      refine ⟨⟨by omega, by omega⟩, ⟨by omega, by omega⟩, ?_⟩
      dsimp only
      rw [l_X11_read_66]
      refine ⟨⟨by omega, by omega⟩, ?_⟩
      have K := q2 rfl cap s hs (fun j hj => h117 j (by have hj : j < 4 * (i / 4) := hj; omega))
      by_cases c4 : (i : Int) + 1 < (n : Int) * 4
      · rw [if_pos c4, if_neg (by decide)]; exact K
      · rw [if_neg c4]; exact K
theorem s_scanM {σ τ : Mem} {p a2 a3 f a5 : Int} {k n : Nat} {R : Int × Int × Nat} {Q : Int → Mem → Prop} (hf : inR f) (hn : a5 = n) (hn2 : n ≤ 24) (hz : 0 ≤ σ (109 + 2 * k) 3 ∧ σ (109 + 2 * k) 3 ≤ 96) (hk : k < 4) (hk2 : a2 = k) (h16 : 0 ≤ σ 16 2 ∧ σ 16 2 ≤ 24) (e24 : τ 122 24 = σ 16 2) (e158 : τ 158 k = a3 ∧ a3 ≠ -4) (e159 : τ 159 k = σ (109 + 2 * k) 3) (e160 : ∀ i, i < 96 → τ 160 (96 * k + i) = σ (110 + 2 * k) i) (q1 : R.1 ≠ 0 → ∀ s : Mem, (∀ j x, j ≠ 161 → s j x = τ j x) → Q R.1 s) (q2 : R.1 = 0 → ∀ s : Mem, (∀ j x, j ≠ 161 → s j x = τ j x) → (∀ j, j < 4 * R.2.2 → s 161 j = imax (celF σ k f j) 0) → ∃ n_, l_X12_read_222 p a2 a3 f a5 R.2.1 R.2.2 Q n_ 0 s) : ∀ r i : Nat, i + r = 4 * n → rdF σ k f (σ 16 2) r i = R → σ 16 2 + (i / 4 : Nat) ≤ 24 → ∀ s : Mem, (∀ j x, j ≠ 161 → s j x = τ j x) → (∀ j, j < i → s 161 j = imax (celF σ k f j) 0) → l_X12_read_60 p a2 a3 f a5 Q (r + 2) 0 (i / 4 : Nat) i s := by
  subst hn; subst hk2
  intro r
  induction r with
  | zero =>
    intro i hi hR cap s hs h161
    have hR : ((0 : Int), (0 : Int), i / 4) = R := hR
    subst hR
    rw [l_X12_read_60, if_neg (by omega)]
    exact ⟨⟨by omega, by omega⟩, q2 rfl s hs (fun j hj => h161 j (by have hj : j < 4 * (i / 4) := hj; omega))⟩
  | succ r ih =>
    intro i hi hR cap s hs h161
    have i96 : i < 96 := by omega
    rw [l_X12_read_60, if_pos (by omega), if_pos rfl, Int.toNat_natCast, hs 158 k (by decide), hs 159 k (by decide), e158.1, e159]
    refine ⟨⟨by omega, by omega⟩, by omega, by omega, ?_⟩
    rw [if_neg e158.2, if_pos rfl]
    refine ⟨⟨by omega, by omega⟩, ⟨by omega, by omega⟩, ?_⟩
    have hR2 : (if ¬ (0 ≤ f + (i : Int) ∧ f + (i : Int) < σ (109 + 2 * k) 3) then ((0 : Int), (2 : Int), i / 4) else if 999 < celF σ k f i then (-20 - (i : Int), 0, 0) else if 24 < σ 16 2 + ((i + 1) / 4 : Nat) then (-3, 0, 0) else rdF σ k f (σ 16 2) r (i + 1)) = R := hR
    unfold j_X12_read_131
    by_cases c : 0 ≤ f + (i : Int) ∧ f + (i : Int) < σ (109 + 2 * k) 3
    · rw [s_in_t ⟨c.1, by omega⟩, if_neg (show ¬ (1 : Int) = 0 by decide), if_pos rfl]
      rw [if_neg (fun z => z c)] at hR2
      have ei : ((96 * (k : Int) + f) + (i : Int)).toNat = 96 * k + (f + (i : Int)).toNat := by omega
      have ec : s 160 ((96 * (k : Int) + f) + (i : Int)).toNat = celF σ k f i := by
        rw [ei, hs 160 _ (by decide), e160 _ (by omega)]; rfl
      rw [ec]
      refine ⟨by omega, by omega, ?_⟩
      by_cases c2 : 999 < celF σ k f i
      · rw [if_pos c2] at hR2 ⊢
        subst hR2
        exact ⟨⟨by omega, by omega⟩, q1 (by show -20 - (i : Int) ≠ 0; omega) s hs⟩
      · rw [if_neg c2] at hR2 ⊢
        have ev : (if celF σ k f i < 0 then (0 : Int) else celF σ k f i) = imax (celF σ k f i) 0 := by unfold imax; rfl
        have tm : Int.tmod (i : Int) 4 = ((i % 4 : Nat) : Int) := rfl
        unfold j_X12_read_186
        rw [ev, tm, hs 122 24 (by decide), e24, Int.toNat_natCast]
        refine ⟨by omega, by omega, ⟨by omega, by omega⟩, ?_⟩
        have hs2 : ∀ j x, j ≠ 161 → mset s 161 i (imax (celF σ k f i) 0) j x = τ j x := fun j x hj => by rw [mset_ne hj]; exact hs j x hj
        have hv2 : ∀ j, j < i + 1 → mset s 161 i (imax (celF σ k f i) 0) 161 j = imax (celF σ k f j) 0 := by
          intro j hj
          by_cases e : j = i
          · subst e; rw [mset_eq]
          · rw [mset_nei e]; exact h161 j (by omega)
        by_cases c5 : ((i % 4 : Nat) : Int) = 3
        · rw [if_pos c5]
          have d1 : ((i / 4 : Nat) : Int) + 1 = (((i + 1) / 4 : Nat) : Int) := by omega
          rw [d1]
          refine ⟨⟨by omega, by omega⟩, ?_⟩
          by_cases c3 : 24 < σ 16 2 + ((i + 1) / 4 : Nat)
          · rw [if_pos c3] at hR2 ⊢
            subst hR2
            exact q1 (by decide) _ hs2
          · rw [if_neg c3] at hR2 ⊢
            exact ⟨⟨by omega, by omega⟩, ⟨by omega, by omega⟩, ih (i + 1) (by omega) hR2 (by omega) _ hs2 hv2⟩
        · rw [if_neg c5]
          have d1 : i / 4 = (i + 1) / 4 := by omega
          rw [if_neg (by omega)] at hR2
          rw [d1]
          exact ⟨⟨by omega, by omega⟩, ih (i + 1) (by omega) hR2 (by omega) _ hs2 hv2⟩
    · rw [s_in_f (fun z => c ⟨z.1, by omega⟩), if_pos rfl, if_neg (by decide)]
      rw [if_pos c] at hR2
      subst hR2
      refine ⟨⟨by omega, by omega⟩, ?_⟩
      dsimp only
      rw [l_X12_read_60]
      refine ⟨⟨by omega, by omega⟩, ?_⟩
      have K := q2 rfl s hs (fun j hj => h161 j (by have hj : j < 4 * (i / 4) := hj; omega))
      by_cases c4 : (i : Int) + 1 < 4 * (n : Int)
      · rw [if_pos c4, if_neg (by decide)]; exact K
      · rw [if_neg c4]; exact K
def rdR (σ : Mem) (k : Nat) (lane f : Int) (n : Nat) : Int × Int × Nat := if n = 0 then (0, 0, 0) else if σ (109 + 2 * k) 1 = 0 then (0, 1, 0) else if σ (109 + 2 * k) 2 = lane then rdF σ k f (σ 16 2) (4 * n) 0 else (0, 3, 0)
abbrev reaV (p k l n : Int) : Prop := (0 ≤ p ∧ p ≤ 5) ∧ (0 ≤ k ∧ k ≤ 3) ∧ (0 ≤ l ∧ l ≤ 2) ∧ (0 ≤ n ∧ n ≤ 24)
theorem a_read {σ : Mem} {p l f : Int} {k n : Nat} {Q : Int → Mem → Prop} (hI : INV σ) (hf : inR f) (V : reaV p k l n) (q1 : (rdR σ k l f n).1 ≠ 0 → ∀ s : Mem, (∀ j x, j ≠ 117 → s j x = σ j x) → Q (rdR σ k l f n).1 s) (q2 : (rdR σ k l f n).1 = 0 → σ 16 2 + ((rdR σ k l f n).2.2 : Nat) ≤ 24 → ∀ s : Mem, (∀ j x, j ≠ 117 → s j x = σ j x) → (∀ j, j < 4 * (rdR σ k l f n).2.2 → s 117 j = imax (celF σ k f j) 0 ∧ celF σ k f j ≤ 999) → ∃ n_, l_X11_read_179 p k l f n (rdR σ k l f n).2.1 (rdR σ k l f n).2.2 Q n_ 0 s) : v_X11_read p k l f n σ Q := by
  have n24 := hI.c.2.2.1
  have n0 := hI.c.2.1
  unfold v_X11_read
  rw [s_isHand_t V.1, if_neg (by decide), s_isSheet_t V.2.1, if_neg (by decide), s_isLane_t V.2.2.1, if_neg (by decide), if_neg (by omega), if_neg (by omega), Int.toNat_natCast]
  refine ⟨by omega, by omega, ?_⟩
  unfold j_X11_read_58 v_X8_refusal
  by_cases z : n = 0
  · subst z
    have e : rdR σ k l f 0 = (0, 0, 0) := by unfold rdR; rw [if_pos rfl]
    rw [e] at q1 q2
    rw [if_pos (show ((0 : Nat) : Int) = 0 from rfl)]
    refine ⟨1, ?_⟩
    rw [l_X11_read_66, if_neg (by decide)]
    exact ⟨⟨by decide, by decide⟩, q2 rfl (by show σ 16 2 + ((0 : Nat) : Int) ≤ 24; omega) σ (fun _ _ _ => rfl) (fun j hj => absurd hj (by show ¬ j < 4 * 0; omega))⟩
  · rw [if_neg (by omega)]
    have other : ∀ v : Int, v ≠ 0 → rdR σ k l f n = (0, v, 0) → ∃ n_, l_X11_read_66 p k l f n k Q n_ v 0 0 σ := by
      intro v hv e
      rw [e] at q1 q2
      refine ⟨1, ?_⟩
      rw [l_X11_read_66, if_pos (by omega), if_neg hv]
      exact ⟨⟨by omega, by omega⟩, q2 rfl (by show σ 16 2 + ((0 : Nat) : Int) ≤ 24; omega) σ (fun _ _ _ => rfl) (fun j hj => absurd hj (by show ¬ j < 4 * 0; omega))⟩
    by_cases z1 : σ (109 + 2 * k) 1 = 0
    · rw [if_pos z1]
      exact other 1 (by decide) (by unfold rdR; rw [if_neg z, if_pos z1])
    · rw [if_neg z1]
      by_cases z2 : σ (109 + 2 * k) 2 = l
      · rw [if_pos z2]
        have e : rdF σ k f (σ 16 2) (4 * n) 0 = rdR σ k l f n := by unfold rdR; rw [if_neg z, if_neg z1, if_pos z2]
        rcases hI.s k (by omega) with ⟨y, _⟩ | ⟨_, _, _, _, _, y1, y2, _⟩
        · exact absurd y z1
        · exact ⟨4 * n + 2, s_scanC hf rfl (by omega) ⟨y1, y2⟩ (by omega) ⟨n0, n24⟩ q1 q2 (4 * n) 0 (by omega) e (by show σ 16 2 + ((0 / 4 : Nat) : Int) ≤ 24; omega) σ (fun _ _ _ => rfl) (fun j hj => absurd hj (by omega))⟩
      · rw [if_neg z2]
        exact other 3 (by decide) (by unfold rdR; rw [if_neg z, if_neg z1, if_neg z2])
theorem b_read {σ τ : Mem} {p l f : Int} {k n : Nat} {Q : Int → Mem → Prop} (hI : INV σ) (hf : inR f) (V : reaV p k l n) (e24 : τ 122 24 = σ 16 2) (e158 : τ 158 k = σ 158 k) (e159 : τ 159 k = σ 159 k) (e160 : τ 160 = σ 160) (q1 : (rdR σ k l f n).1 ≠ 0 → ∀ s : Mem, (∀ j x, j ≠ 161 → s j x = τ j x) → Q (rdR σ k l f n).1 s) (q2 : (rdR σ k l f n).1 = 0 → ∀ s : Mem, (∀ j x, j ≠ 161 → s j x = τ j x) → (∀ j, j < 4 * (rdR σ k l f n).2.2 → s 161 j = imax (celF σ k f j) 0) → ∃ n_, l_X12_read_222 p k l f n (rdR σ k l f n).2.1 (rdR σ k l f n).2.2 Q n_ 0 s) : v_X12_read p k l f n τ Q := by
  have n24 := hI.c.2.2.1
  have n0 := hI.c.2.1
  unfold v_X12_read
  rw [s_in_t V.1, if_neg (by decide), s_in_t V.2.1, if_neg (by decide), s_in_t V.2.2.1, if_neg (by decide), s_in_t V.2.2.2, if_neg (by decide)]
  by_cases z : n = 0
  · subst z
    have e : rdR σ k l f 0 = (0, 0, 0) := by unfold rdR; rw [if_pos rfl]
    rw [e] at q1 q2
    refine ⟨1, ?_⟩
    rw [l_X12_read_60, if_neg (by decide)]
    exact ⟨⟨by decide, by decide⟩, q2 rfl τ (fun _ _ _ => rfl) (fun j hj => absurd hj (by show ¬ j < 4 * 0; omega))⟩
  · rcases hI.s k (by omega) with ⟨y, y2⟩ | ⟨y, yl, l0, l2, ys, y1, y2, yc⟩
    · have e : rdR σ k l f n = (0, 1, 0) := by unfold rdR; rw [if_neg z, if_pos y]
      rw [e] at q1 q2
      refine ⟨2, ?_⟩
      rw [l_X12_read_60, if_pos (by omega), if_pos rfl, Int.toNat_natCast, e158, y2, if_pos rfl]
      unfold j_X12_read_131
      rw [if_neg (by decide)]
      refine ⟨⟨by omega, by omega⟩, by omega, by omega, ⟨by omega, by omega⟩, ?_⟩
      dsimp only
      rw [l_X12_read_60]
      refine ⟨⟨by omega, by omega⟩, ?_⟩
      have K := q2 rfl τ (fun _ _ _ => rfl) (fun j hj => absurd hj (by show ¬ j < 4 * 0; omega))
      by_cases c4 : (0 : Int) + 1 < 4 * (n : Int)
      · rw [if_pos c4, if_neg (by decide)]; exact K
      · rw [if_neg c4]; exact K
    · by_cases z2 : σ (109 + 2 * k) 2 = l
      · have e : rdF σ k f (σ 16 2) (4 * n) 0 = rdR σ k l f n := by unfold rdR; rw [if_neg z, if_neg (by omega), if_pos z2]
        exact ⟨4 * n + 2, s_scanM hf rfl (by omega) ⟨y1, y2⟩ (by omega) rfl ⟨n0, n24⟩ e24 ⟨by rw [e158, yl]; exact z2, by omega⟩ (by rw [e159]; exact ys) (fun i hi => by rw [e160]; exact yc i hi) q1 q2 (4 * n) 0 (by omega) e (by show σ 16 2 + ((0 / 4 : Nat) : Int) ≤ 24; omega) τ (fun _ _ _ => rfl) (fun j hj => absurd hj (by omega))⟩
      · have e : rdR σ k l f n = (0, 3, 0) := by unfold rdR; rw [if_neg z, if_neg (by omega), if_neg z2]
        rw [e] at q1 q2
        refine ⟨2, ?_⟩
        rw [l_X12_read_60, if_pos (by omega), if_pos rfl, Int.toNat_natCast, e158, yl, if_neg (by omega), if_neg z2]
        unfold j_X12_read_131
        rw [if_neg (by decide)]
        refine ⟨⟨by omega, by omega⟩, by omega, by omega, ⟨by omega, by omega⟩, ?_⟩
        dsimp only
        rw [l_X12_read_60]
        refine ⟨⟨by omega, by omega⟩, ?_⟩
        have K := q2 rfl τ (fun _ _ _ => rfl) (fun j hj => absurd hj (by show ¬ j < 4 * 0; omega))
        by_cases c4 : (0 : Int) + 1 < 4 * (n : Int)
        · rw [if_pos c4, if_neg (by decide)]; exact K
        · rw [if_neg c4]; exact K
theorem f_read {σ : Mem} (hI : INV σ) (p k l f n : Int) (hf : inR f) : v_X11_read p k l f n σ (fun r1 σ1 => v_X12_read p k l f n σ1 (fun r2 σ2 => r1 = r2 ∧ INV σ2)) := by
  obtain ⟨h1, h2, h3, h4, h5, h6, h7, h8, h9, h10, h11⟩ := id hI
  obtain ⟨a1, a2, a3, a4, a5⟩ := id h6
  by_cases V : reaV p k l n
  · obtain ⟨k, rfl⟩ : ∃ i : Nat, k = i := ⟨k.toNat, by have := V.2.1.1; omega⟩
    obtain ⟨n, rfl⟩ : ∃ i : Nat, n = i := ⟨n.toNat, by have := V.2.2.2.1; omega⟩
    have sm117 : ∀ s : Mem, (∀ j x, j ≠ 117 → s j x = σ j x) → SAME σ s := fun s hs j x q => hs j x (fun e => by subst e; cases q)
    refine a_read hI hf V (fun ne s hs => ?_) (fun e0 cap s hs h117 => ?_)
    · have sS := sm117 s hs
      refine b_read hI hf V (by rw [hs 122 24 (by decide)]; exact a1) (hs 158 k (by decide)) (hs 159 k (by decide)) (funext fun x => hs 160 x (by decide)) (fun _ t ht => ⟨rfl, inv_core (sS.tr (fun j x q => ht j x (fun e => by subst e; cases q))) hI⟩) (fun e0 => absurd e0 ne)
    · generalize hR : rdR σ k l f n = R at *
      obtain ⟨N, hN⟩ : ∃ N : Nat, σ 16 2 = N := ⟨(σ 16 2).toNat, by omega⟩
      obtain ⟨W, hW⟩ : ∃ W : Nat, W = R.2.2 := ⟨_, rfl⟩
      rw [← hW] at cap h117 ⊢
      refine s_addN (n := N) (w := W) (by rw [hs 16 2 (by decide)]; exact hN) (by omega) (fun τ t1 t2 t3 => ?_)
      have e15 : s 15 = σ 15 := funext fun x => hs 15 x (by decide)
      rw [hs 14 2 (by decide), e15] at t3
      generalize hω : mset τ 0 16 R.2.1 = ω
      have w0 : ∀ j x, ¬ ((23 + 3 * N ≤ j ∧ j < 23 + 3 * (N + W) ∧ (x ≠ 4 ∨ (j - 23) % 3 ≠ 0)) ∨ (j = 16 ∧ x = 2) ∨ j = 117 ∨ (j = 0 ∧ x = 16)) → ω j x = σ j x := fun j x z => by
        rw [← hω, st_ne _ _ (by omega), t1 j x (by omega), hs j x (by omega)]
      have wt : ∀ j x, ¬ (j = 0 ∧ x = 16) → ω j x = τ j x := fun j x z => by rw [← hω, st_ne _ _ (by omega)]
      refine b_read hI hf V (by rw [w0 122 24 (by omega)]; exact a1) (w0 158 k (by omega)) (w0 159 k (by omega)) (funext fun x => w0 160 x (by omega)) (fun ne => absurd (by rw [hR]; exact e0) ne) (fun _ u hu h161 => ?_)
      rw [hR] at h161 ⊢
      rw [← hW] at h161 ⊢
      have uw : ∀ j x, ¬ ((23 + 3 * N ≤ j ∧ j < 23 + 3 * (N + W) ∧ (x ≠ 4 ∨ (j - 23) % 3 ≠ 0)) ∨ (j = 16 ∧ x = 2) ∨ j = 117 ∨ (j = 0 ∧ x = 16) ∨ j = 161) → u j x = σ j x := fun j x z => by
        rw [hu j x (by omega), w0 j x (by omega)]
      have hr : I_rules u := k_rules (fun j x z => uw j x (by have := d_rules z; omega)) h4
      have hw : I_now u := k_now (fun j x z => uw j x (by have := d_now z; omega)) h5
      refine s_maddN (n := N) (w := W) hr hw (by rw [uw 122 24 (by omega), a1]; exact hN) (by omega) (fun θ g1 g2 g3 => ⟨rfl, ?_⟩)
      have u15 : u 15 = σ 15 := funext fun x => uw 15 x (by omega)
      rw [uw 122 0 (by omega), h5.1, u15] at g3
      generalize hφ : mset θ 122 60 R.2.1 = φ
      have ft : ∀ j x, ¬ (j = 122 ∧ x = 60) → φ j x = θ j x := fun j x z => by rw [← hφ, st_ne _ _ (by omega)]
      have fc : ∀ j x, j < 117 → ¬ (j = 0 ∧ x = 16) → φ j x = τ j x := fun j x z z2 => by
        rw [ft j x (by omega), g1 j x (by omega), hu j x (by omega), wt j x z2]
      have ag : ∀ j x, ¬ ((23 + 3 * N ≤ j ∧ j < 23 + 3 * (N + W) ∧ (x ≠ 4 ∨ (j - 23) % 3 ≠ 0)) ∨ (j = 16 ∧ x = 2) ∨ j = 117 ∨ (j = 0 ∧ x = 16) ∨ j = 161 ∨ (136 ≤ j ∧ j ≤ 137 ∧ N ≤ x ∧ x < N + W) ∨ (138 ≤ j ∧ j ≤ 139 ∧ 4 * N ≤ x ∧ x < 4 * (N + W)) ∨ (140 ≤ j ∧ j ≤ 143 ∧ N ≤ x ∧ x < N + W) ∨ (j = 122 ∧ x = 24) ∨ (j = 122 ∧ x = 60)) → φ j x = σ j x := fun j x z => by
        rw [ft j x (by omega), g1 j x (by omega), uw j x (by omega)]
      have n2 : φ 16 2 = ((N + W : Nat) : Int) := by rw [fc 16 2 (by decide) (by decide)]; exact t2
      have m24 : φ 122 24 = ((N + W : Nat) : Int) := by rw [ft 122 24 (by decide)]; exact g2
      have mv : ∀ i, i < 4 * W → s 117 i = imax (celF σ k f i) 0 ∧ u 161 i = imax (celF σ k f i) 0 ∧ 0 ≤ imax (celF σ k f i) 0 ∧ imax (celF σ k f i) 0 ≤ 999 := by
        intro i hi
        have q := h117 i hi
        exact ⟨q.1, h161 i hi, by unfold imax; split <;> omega, by have := q.2; unfold imax; split <;> omega⟩
      refine ⟨k_tape (fun j x z => ag j x (by have := d_tape z; omega)) h1, k_cst (fun j x z => ag j x (by have := d_cst z; omega)) h2, ?_, k_rules (fun j x z => ag j x (by have := d_rules z; omega)) h4, k_now (fun j x z => ag j x (by have := d_now z; omega)) h5, ?_, ?_, k_bars (fun j x z => ag j x (by have := d_bars z; omega)) h8, k_tell (fun j x z => ag j x (by have := d_tell z; omega)) h9, ?_, k_sheet (fun j x z => ag j x (by have := d_sheet z; omega)) h11⟩
      · have v60 : φ 122 60 = R.2.1 := by rw [← hφ, mset_eq]
        have v16 : φ 0 16 = R.2.1 := by rw [ft 0 16 (by decide), g1 0 16 (by omega), hu 0 16 (by decide), ← hω, mset_eq]
        exact ⟨by rw [ag 122 3 (by omega), ag 8 2 (by omega)]; exact h3.1, by rw [v60, v16]⟩
      · refine ⟨by rw [m24, n2], by omega, by omega, fun x hx hn2 => ?_, fun x hx => ?_⟩
        · rw [n2] at hn2
          rw [ag _ 4 (by omega)]; exact a4 x hx (by omega)
        · rw [n2] at hx
          by_cases e : N ≤ x
          · obtain ⟨i, rfl⟩ : ∃ i, x = N + i := ⟨x - N, by omega⟩
            have iW : i < W := by omega
            obtain ⟨y0, y1, y2, y3, y5, y6⟩ := t3 i iW
            obtain ⟨z0, z1, z2, z3, z4, z5, z6⟩ := g3 i iW
            have dr := drwF_rng (σ 15) (s 117 (4 * i)) (s 117 (4 * i + 1)) (s 117 (4 * i + 2))
            have q0 := h5.2.1
            have m0 := mv (4 * i) (by omega); have m1 := mv (4 * i + 1) (by omega); have m2 := mv (4 * i + 2) (by omega)
            have wn : φ (23 + 3 * (N + i)) 4 = 0 := by rw [ag _ 4 (by omega)]; exact a4 (N + i) (by omega) (by omega)
            rw [fc (23 + 3 * (N + i)) 0 (by omega) (by omega), fc (23 + 3 * (N + i)) 1 (by omega) (by omega), fc (23 + 3 * (N + i)) 2 (by omega) (by omega), fc (23 + 3 * (N + i)) 3 (by omega) (by omega), fc (23 + 3 * (N + i)) 5 (by omega) (by omega), wn, ft 136 _ (by omega), ft 137 _ (by omega), ft 140 _ (by omega), ft 141 _ (by omega), ft 142 _ (by omega), ft 143 _ (by omega), y0, y1, y2, y3, y5, z0, z1, z2, z3, z4, z5, ag 14 2 (by omega), ag 16 9 (by omega)]
            refine ⟨⟨rfl, V.1⟩, ⟨rfl, by decide, by decide⟩, ⟨rfl, by decide, by decide⟩, ⟨rfl, q0, Int.le_refl _⟩, ⟨rfl, Int.le_refl _, h7.2.1⟩, ⟨?_, Or.inr dr⟩, fun m hm => ?_⟩
            · rw [m0.1, m1.1, m2.1, m0.2.1, m1.2.1, m2.2.1]
            · have mm := mv (4 * i + m) (by omega)
              rw [ft 139 _ (by omega), ft 138 _ (by omega), fc (24 + 3 * (N + i)) m (by omega) (by omega), fc (25 + 3 * (N + i)) m (by omega) (by omega), (z6 m hm).1, (z6 m hm).2, (y6 m hm).1, (y6 m hm).2, mm.1, mm.2.1]
              exact ⟨rfl, rfl, mm.2.2⟩
          · obtain ⟨x1, x2, x3, x4, x5, x6, x7⟩ := a5 x (by omega)
            rw [ag 136 x (by omega), ag 137 x (by omega), ag 140 x (by omega), ag 141 x (by omega), ag 142 x (by omega), ag 143 x (by omega), ag (23 + 3 * x) 0 (by omega), ag (23 + 3 * x) 1 (by omega), ag (23 + 3 * x) 2 (by omega), ag (23 + 3 * x) 3 (by omega), ag (23 + 3 * x) 4 (by omega), ag (23 + 3 * x) 5 (by omega), ag 14 2 (by omega), ag 16 9 (by omega)]
            refine ⟨x1, x2, x3, x4, x5, x6, fun m hm => ?_⟩
            rw [ag 139 _ (by omega), ag 138 _ (by omega), ag (24 + 3 * x) m (by omega), ag (25 + 3 * x) m (by omega)]
            exact x7 m hm
      · obtain ⟨y1, y2, y3, y4⟩ := h7
        refine ⟨by rw [ag 122 33 (by omega), ag 16 9 (by omega)]; exact y1, by rw [ag 16 9 (by omega)]; exact y2, by rw [ag 16 9 (by omega)]; exact y3, fun x hx => ?_⟩
        rw [ag 16 9 (by omega)] at hx
        obtain ⟨z1, z2, z3, z4, z5, z6, z7, z8⟩ := y4 x hx
        rw [ag 144 x (by omega), ag 19 x (by omega), ag 20 x (by omega), ag 145 x (by omega), ag 21 x (by omega), ag 146 x (by omega), ag 22 x (by omega), n2, ag (23 + 3 * (σ 19 x).toNat) 3 (by omega)]
        exact ⟨z1, z2, by omega, z4, z5, z6, z7, z8⟩
      · obtain ⟨y1, y2, y3, y4, y5⟩ := h10
        refine ⟨by rw [ag 122 52 (by omega), ag 0 15 (by omega)]; exact y1, by rw [ag 0 15 (by omega)]; exact y2, by rw [ag 0 15 (by omega)]; exact y3, fun x hx hn2 => ?_, fun x hx => ?_⟩
        · rw [ag 0 15 (by omega)] at hn2
          rw [ag 121 x (by omega)]; exact y4 x hx hn2
        · rw [ag 0 15 (by omega)] at hx
          obtain ⟨z1, z2, z3, z4, z5⟩ := y5 x hx
          rw [ag 154 x (by omega), ag 118 x (by omega), ag 155 x (by omega), ag 119 x (by omega), ag 156 x (by omega), ag 120 x (by omega), ag 157 x (by omega), ag 121 x (by omega), n2]
          exact ⟨⟨z1.1, z1.2.1, by omega⟩, z2, z3, z4, z5⟩
  · have no : v_X12_read p k l f n σ (fun r2 σ2 => (-1 : Int) = r2 ∧ INV σ2) := by
      unfold v_X12_read
      by_cases c1 : 0 ≤ p ∧ p ≤ 5
      · rw [s_in_t c1, if_neg (by decide)]
        by_cases c2 : 0 ≤ k ∧ k ≤ 3
        · rw [s_in_t c2, if_neg (by decide)]
          by_cases c3 : 0 ≤ l ∧ l ≤ 2
          · rw [s_in_t c3, if_neg (by decide), s_in_f (fun z => V ⟨c1, c2, c3, z⟩), if_pos rfl]; exact ⟨rfl, hI⟩
          · rw [s_in_f c3, if_pos rfl]; exact ⟨rfl, hI⟩
        · rw [s_in_f c2, if_pos rfl]; exact ⟨rfl, hI⟩
      · rw [s_in_f c1, if_pos rfl]; exact ⟨rfl, hI⟩
    unfold v_X11_read
    by_cases c1 : 0 ≤ p ∧ p ≤ 5
    · rw [s_isHand_t c1, if_neg (by decide)]
      by_cases c2 : 0 ≤ k ∧ k ≤ 3
      · rw [s_isSheet_t c2, if_neg (by decide)]
        by_cases c3 : 0 ≤ l ∧ l ≤ 2
        · rw [s_isLane_t c3, if_neg (by decide)]
          have c4 : ¬ (0 ≤ n ∧ n ≤ 24) := fun z => V ⟨c1, c2, c3, z⟩
          by_cases z : n < 0
          · rw [if_pos z]; exact no
          · rw [if_neg z, if_pos (by omega)]; exact no
        · rw [s_isLane_f c3, if_pos rfl]; exact no
      · rw [s_isSheet_f c2, if_pos rfl]; exact no
    · rw [s_isHand_f c1, if_pos rfl]; exact no
