/-! PURE FACTS, 15: count -/
abbrev dueP (σ : Mem) : Nat → Prop := fun c => ¬ σ (23 + 3 * c) 5 = -4 ∧ ¬ σ 14 2 - σ (23 + 3 * c) 3 < σ 15 18
abbrev outP (σ : Mem) : Nat → Prop := fun c => σ (23 + 3 * c) 5 = -4
abbrev elsP (σ : Mem) : Nat → Prop := fun c => ¬ σ (23 + 3 * c) 5 = -4 ∧ ¬ σ (23 + 3 * c) 5 = cdrw σ c
theorem cnt_step (P : Nat → Prop) [DecidablePred P] (k : Nat) : cntF P (k + 1) = cntF P k + if P k then 1 else 0 := rfl
theorem cnt_not {P : Nat → Prop} [DecidablePred P] : ∀ n : Nat, cntF P n + cntF (fun k => ¬ P k) n = n := by
  intro n
  induction n with
  | zero => rfl
  | succ n ih =>
    rw [cnt_step, cnt_step]
    by_cases q : P n
    · rw [if_pos q, if_neg (fun z => z q)]; omega
    · rw [if_neg q, if_pos q]; omega
theorem s_kept {σ : Mem} {Q : Int → Mem → Prop} (hI : INV σ) (h : Q (cntF (fun k => ¬ outP σ k) (σ 16 2).toNat : Nat) σ) : v_X0_kept σ Q := by
  obtain ⟨a1, a2, a3, a4, a5⟩ := hI.c
  unfold v_X0_kept
  refine lp1a (l_X0_kept_4 Q) (fun k a s => a = (cntF (fun k => ¬ outP σ k) k : Nat) ∧ s = σ) (σ 16 2).toNat 0 σ ⟨rfl, rfl⟩ ?_ ?_
  · rintro n a b ⟨rfl, rfl⟩
    rw [l_X0_kept_4, if_neg (by omega)]; exact h
  · rintro n k a b hk ⟨ha, hb⟩ ih
    subst hb
    rw [l_X0_kept_4, if_pos (by omega), Int.toNat_natCast]
    refine ⟨by omega, by omega, ?_⟩
    rw [s_isOut]
    unfold j_X0_kept_30
    rw [s_bit]
    have le := cntF_le (P := fun k => ¬ outP b k) k
    have st := cnt_step (fun k => ¬ outP b k) k
    by_cases g : b (23 + 3 * k) 5 = -4
    · rw [if_pos g, if_neg (show ¬ (1 : Int) = 0 by decide), if_pos rfl]
      rw [if_neg (fun z => z g)] at st
      exact ⟨⟨by omega, by omega⟩, ⟨by omega, by omega⟩, ih _ _ ⟨by omega, rfl⟩⟩
    · rw [if_neg g, if_pos rfl, if_neg (by decide)]
      rw [if_pos g] at st
      exact ⟨⟨by omega, by omega⟩, ⟨by omega, by omega⟩, ih _ _ ⟨by omega, rfl⟩⟩
theorem s_due {σ : Mem} {Q : Int → Mem → Prop} (hI : INV σ) (h : Q (cntF (dueP σ) (σ 16 2).toNat : Nat) σ) : v_X0_due σ Q := by
  obtain ⟨a1, a2, a3, a4, a5⟩ := hI.c
  have hn := hI.n
  unfold v_X0_due
  refine lp1a (l_X0_due_4 Q) (fun k a s => a = (cntF (dueP σ) k : Nat) ∧ s = σ) (σ 16 2).toNat 0 σ ⟨rfl, rfl⟩ ?_ ?_
  · rintro n a b ⟨rfl, rfl⟩
    rw [l_X0_due_4, if_neg (by omega)]; exact h
  · rintro n k a b hk ⟨ha, hb⟩ ih
    subst hb
    have y := a5 k (by omega)
    rw [l_X0_due_4, if_pos (by omega), Int.toNat_natCast]
    refine ⟨by omega, by omega, ?_⟩
    rw [s_isOut]
    have le := cntF_le (P := dueP b) k
    have st := cnt_step (dueP b) k
    by_cases g : b (23 + 3 * k) 5 = -4
    · rw [if_pos g, if_neg (by decide)]
      unfold j_X0_due_46
      rw [s_bit, if_pos rfl]
      rw [if_neg (fun z => z.1 g)] at st
      exact ⟨⟨by omega, by omega⟩, ⟨by omega, by omega⟩, ih _ _ ⟨by omega, rfl⟩⟩
    · rw [if_neg g, if_pos rfl]
      refine s_isDue ⟨y.2.2.2.1.2.1, y.2.2.2.1.2.2, hn.2.2.1⟩ ?_
      unfold j_X0_due_46
      rw [s_bit]
      by_cases g2 : b 14 2 - b (23 + 3 * k) 3 < b 15 18
      · rw [if_pos g2, if_pos rfl, if_pos rfl]
        rw [if_neg (fun z => z.2 g2)] at st
        exact ⟨⟨by omega, by omega⟩, ⟨by omega, by omega⟩, ih _ _ ⟨by omega, rfl⟩⟩
      · rw [if_neg g2, if_neg (by decide)]
        rw [if_pos ⟨g, g2⟩] at st
        exact ⟨⟨by omega, by omega⟩, ⟨by omega, by omega⟩, ih _ _ ⟨by omega, rfl⟩⟩
theorem s_wrongHolds {σ : Mem} {Q : Int → Mem → Prop} (hI : INV σ) (h : Q (cntF (fun k => σ 121 k = 1) (σ 0 15).toNat : Nat) σ) : v_X11_wrongHolds σ Q := by
  obtain ⟨a1, a2, a3, a4, a5⟩ := hI.h
  unfold v_X11_wrongHolds
  refine lp1a (l_X11_wrongHolds_4 Q) (fun k a s => a = (cntF (fun k => σ 121 k = 1) k : Nat) ∧ s = σ) (σ 0 15).toNat 0 σ ⟨rfl, rfl⟩ ?_ ?_
  · rintro n a b ⟨rfl, rfl⟩
    rw [l_X11_wrongHolds_4, if_neg (by omega)]; exact h
  · rintro n k a b hk ⟨ha, hb⟩ ih
    subst hb
    have y := (a5 k (by omega)).2.2.2.2
    have le := cntF_le (P := fun k => b 121 k = 1) k
    have st := cnt_step (fun k => b 121 k = 1) k
    rw [l_X11_wrongHolds_4, if_pos (by omega), Int.toNat_natCast]
    refine ⟨by omega, by omega, ?_⟩
    rw [s_bit]
    rcases y with g | g
    · rw [if_pos g]
      rw [if_neg (by omega)] at st
      exact ⟨⟨by omega, by omega⟩, ⟨by omega, by omega⟩, ih _ _ ⟨by omega, rfl⟩⟩
    · rw [if_neg (by omega)]
      rw [if_pos g] at st
      exact ⟨⟨by omega, by omega⟩, ⟨by omega, by omega⟩, ih _ _ ⟨by omega, rfl⟩⟩
def countF (σ : Mem) (p : Int) : Int := if p = 0 then σ 16 2 else if p = 1 then (cntF (outP σ) (σ 16 2).toNat : Nat) else if p = 2 then (cntF (dueP σ) (σ 16 2).toNat : Nat) else if p = 3 then (cntF (elsP σ) (σ 16 2).toNat : Nat) else if p = 4 then σ 3 4 else if p = 5 then σ 16 9 else if p = 6 then σ 0 15 else if p = 7 then (cntF (fun k => σ 121 k = 1) (σ 0 15).toNat : Nat) else if p = 8 then σ 16 4 else if p = 9 then σ 14 2 else if p = 10 then σ 1 1 else if p = 11 then (if σ 109 1 = 0 then -4 else σ 109 3) else -1
theorem Bt27 : ∀ k : Fin 27, Bt 134217727 k.val = true := by decide
theorem a_count {σ : Mem} {p : Int} {Q : Int → Mem → Prop} (hI : INV σ) (h : Q (countF σ p) σ) : v_X11_count p σ Q := by
  obtain ⟨a1, a2, a3, a4, a5⟩ := hI.c
  unfold v_X11_count
  unfold countF at h
  by_cases c0 : p = 0
  · rw [if_pos c0]; rw [if_pos c0] at h; exact h
  rw [if_neg c0]; rw [if_neg c0] at h
  by_cases c1 : p = 1
  · rw [if_pos c1]; rw [if_pos c1] at h
    refine s_kept hI ?_
    have q := cnt_not (P := outP σ) (σ 16 2).toNat
    have e : σ 16 2 - ((cntF (fun k => ¬ outP σ k) (σ 16 2).toNat : Nat) : Int) = (cntF (outP σ) (σ 16 2).toNat : Nat) := by omega
    rw [e]
    have le := cntF_le (P := outP σ) (σ 16 2).toNat
    exact ⟨⟨by omega, by omega⟩, h⟩
  rw [if_neg c1]; rw [if_neg c1] at h
  by_cases c2 : p = 2
  · rw [if_pos c2]; rw [if_pos c2] at h; exact s_due hI h
  rw [if_neg c2]; rw [if_neg c2] at h
  by_cases c3 : p = 3
  · rw [if_pos c3]; rw [if_pos c3] at h
    refine s_filedIn hI (s_elsewhere hI ?_)
    have e : cntF (fun c => Bt (orF (filP σ 134217727) (σ 16 2).toNat) c = true ∧ ¬ σ (23 + 3 * c) 5 = cdrw σ c) (σ 16 2).toNat = cntF (elsP σ) (σ 16 2).toNat := by
      refine cntF_congr (fun x hx => ?_)
      have y := (a5 x (by omega)).2.2.2.2.2.1
      rw [orF_Bt _ (by omega) x (by omega)]
      simp only [decide_eq_true_eq]
      constructor
      · rintro ⟨⟨z1, z2⟩, z3⟩; exact ⟨z2.1, z3⟩
      · rintro ⟨z1, z2⟩; exact ⟨⟨hx, z1, Bt27 ⟨(σ (23 + 3 * x) 5).toNat, by omega⟩⟩, z2⟩
    rw [e]; exact h
  rw [if_neg c3]; rw [if_neg c3] at h
  by_cases c4 : p = 4
  · rw [if_pos c4]; rw [if_pos c4] at h; exact h
  rw [if_neg c4]; rw [if_neg c4] at h
  by_cases c5 : p = 5
  · rw [if_pos c5]; rw [if_pos c5] at h; exact h
  rw [if_neg c5]; rw [if_neg c5] at h
  by_cases c6 : p = 6
  · rw [if_pos c6]; rw [if_pos c6] at h; exact h
  rw [if_neg c6]; rw [if_neg c6] at h
  by_cases c7 : p = 7
  · rw [if_pos c7]; rw [if_pos c7] at h; exact s_wrongHolds hI h
  rw [if_neg c7]; rw [if_neg c7] at h
  by_cases c8 : p = 8
  · rw [if_pos c8]; rw [if_pos c8] at h; exact h
  rw [if_neg c8]; rw [if_neg c8] at h
  by_cases c9 : p = 9
  · rw [if_pos c9]; rw [if_pos c9] at h; exact h
  rw [if_neg c9]; rw [if_neg c9] at h
  by_cases c10 : p = 10
  · rw [if_pos c10]; rw [if_pos c10] at h; exact h
  rw [if_neg c10]; rw [if_neg c10] at h
  by_cases c11 : p = 11
  · rw [if_pos c11]; rw [if_pos c11] at h
    show (if σ 109 1 = 0 then Q (-4) σ else Q (σ 109 3) σ)
    by_cases g : σ 109 1 = 0
    · rw [if_pos g]; rw [if_pos g] at h; exact h
    · rw [if_neg g]; rw [if_neg g] at h; exact h
  rw [if_neg c11]; rw [if_neg c11] at h; exact h
theorem b_count {σ : Mem} {p : Int} {Q : Int → Mem → Prop} (hI : INV σ) (h : Q (countF σ p) σ) : v_X12_count p σ Q := by
  obtain ⟨a1, a2, a3, a4, a5⟩ := hI.c
  have hn := hI.n
  obtain ⟨b1, b2, b3, b4, b5⟩ := hI.h
  unfold v_X12_count
  refine lp3a (l_X12_count_13 p 0 Q) (fun k x y z τ => τ = σ ∧ x = (cntF (outP σ) k : Nat) ∧ y = (cntF (dueP σ) k : Nat) ∧ z = (cntF (elsP σ) k : Nat)) (σ 16 2).toNat 0 0 0 σ ⟨rfl, rfl, rfl, rfl⟩ ?_ ?_
  · rintro n x y z τ ⟨rfl, rfl, rfl, rfl⟩
    rw [l_X12_count_13, if_neg (by omega)]
    refine lp1a (l_X12_count_109 p _ _ _ Q) (fun k a s => a = (cntF (fun k => τ 121 k = 1) k : Nat) ∧ s = τ) (τ 0 15).toNat 0 τ ⟨rfl, rfl⟩ ?_ ?_
    · rintro n a b ⟨rfl, rfl⟩
      rw [l_X12_count_109, if_neg (by omega)]
      unfold countF at h
      rw [a1, hI.r.1, hI.a.1, b1, hI.b.1, hI.n.1, hI.1.1]
      by_cases c0 : p = 0
      · rw [if_pos c0]; rw [if_pos c0] at h; exact h
      rw [if_neg c0]; rw [if_neg c0] at h
      by_cases c1 : p = 1
      · rw [if_pos c1]; rw [if_pos c1] at h; exact h
      rw [if_neg c1]; rw [if_neg c1] at h
      by_cases c2 : p = 2
      · rw [if_pos c2]; rw [if_pos c2] at h; exact h
      rw [if_neg c2]; rw [if_neg c2] at h
      by_cases c3 : p = 3
      · rw [if_pos c3]; rw [if_pos c3] at h; exact h
      rw [if_neg c3]; rw [if_neg c3] at h
      by_cases c4 : p = 4
      · rw [if_pos c4]; rw [if_pos c4] at h; exact h
      rw [if_neg c4]; rw [if_neg c4] at h
      by_cases c5 : p = 5
      · rw [if_pos c5]; rw [if_pos c5] at h; exact h
      rw [if_neg c5]; rw [if_neg c5] at h
      by_cases c6 : p = 6
      · rw [if_pos c6]; rw [if_pos c6] at h; exact h
      rw [if_neg c6]; rw [if_neg c6] at h
      by_cases c7 : p = 7
      · rw [if_pos c7]; rw [if_pos c7] at h; exact h
      rw [if_neg c7]; rw [if_neg c7] at h
      by_cases c8 : p = 8
      · rw [if_pos c8]; rw [if_pos c8] at h; exact h
      rw [if_neg c8]; rw [if_neg c8] at h
      by_cases c9 : p = 9
      · rw [if_pos c9]; rw [if_pos c9] at h; exact h
      rw [if_neg c9]; rw [if_neg c9] at h
      by_cases c10 : p = 10
      · rw [if_pos c10]; rw [if_pos c10] at h; exact h
      rw [if_neg c10]; rw [if_neg c10] at h
      by_cases c11 : p = 11
      · rw [if_pos c11]; rw [if_pos c11] at h
        rcases hI.s 0 (by decide) with ⟨z1, z2⟩ | ⟨z1, z2, z3, z4, z5, z6⟩
        · have z1 : b 109 1 = 0 := z1
          rw [if_pos z2]; rw [if_pos z1] at h; exact h
        · have z1 : b 109 1 = 1 := z1
          rw [if_neg (by omega), z5]; rw [if_neg (by omega)] at h; exact h
      rw [if_neg c11]; rw [if_neg c11] at h; exact h
    · rintro n k a b hk ⟨ha, hb⟩ ih
      subst hb
      obtain ⟨y1, y2, y3, y4, y5⟩ := b5 k (by omega)
      have le := cntF_le (P := fun k => b 121 k = 1) k
      have st := cnt_step (fun k => b 121 k = 1) k
      rw [l_X12_count_109, if_pos (by omega), Int.toNat_natCast, y4]
      refine ⟨by omega, by omega, ⟨by omega, by omega⟩, ⟨by omega, by omega⟩, ih _ _ ⟨?_, rfl⟩⟩
      rcases y5 with g | g
      · rw [if_neg (by omega)] at st; omega
      · rw [if_pos g] at st; omega
  · rintro n k x y z τ hk ⟨hτ, hx, hy, hz⟩ ih
    subst hτ
    have u := a5 k (by omega)
    have l1 := cntF_le (P := outP τ) k
    have l2 := cntF_le (P := dueP τ) k
    have l3 := cntF_le (P := elsP τ) k
    have s1 := cnt_step (outP τ) k
    have s2 := cnt_step (dueP τ) k
    have s3 := cnt_step (elsP τ) k
    rw [l_X12_count_13, if_pos (by omega)]
    refine s_mOut rfl (by omega) ?_
    rw [u.2.2.2.2.2.1.1]
    unfold j_X12_count_37
    refine s_mOut rfl (by omega) ?_
    rw [u.2.2.2.2.2.1.1]
    by_cases g : τ (23 + 3 * k) 5 = -4
    · rw [if_pos g, if_neg (by decide), if_neg (by decide)]
      refine ⟨⟨by omega, by omega⟩, ?_⟩
      unfold j_X12_count_63
      refine s_mOut rfl (by omega) ?_
      rw [u.2.2.2.2.2.1.1, if_pos g, if_neg (by decide)]
      refine ⟨⟨by omega, by omega⟩, ?_⟩
      unfold j_X12_count_96
      rw [if_pos g] at s1
      rw [if_neg (fun z => z.1 g)] at s2 s3
      exact ⟨⟨by omega, by omega⟩, ⟨by omega, by omega⟩, ih _ _ _ _ ⟨rfl, by omega, by omega, by omega⟩⟩
    · rw [if_neg g, if_pos rfl, if_pos rfl]
      rw [if_neg g] at s1
      refine s_mDue hI.r hI.n rfl (by omega) (by rw [u.2.2.2.1.1]; exact u.2.2.2.1.2) ?_
      rw [u.2.2.2.1.1]
      have rest : ∀ w : Int, ((w : Int) = ((if dueP τ k then 1 else 0 : Nat) : Int)) → j_X12_count_63 p (fun x2_ x3_ x4_ x6_ σ_ => l_X12_count_13 p 0 Q n x2_ x3_ x4_ x6_ σ_) Q (x + 0) z 0 k w y τ := by
        intro w hw
        have lw : (if dueP τ k then 1 else 0 : Nat) ≤ 1 := by split <;> omega
        unfold j_X12_count_63
        refine s_mOut rfl (by omega) ?_
        rw [u.2.2.2.2.2.1.1, if_neg g, if_pos rfl]
        refine ⟨by omega, by omega, s_mdrwI hI rfl (by omega) ?_⟩
        rw [Int.toNat_natCast, u.2.2.2.2.2.1.1]
        by_cases g3 : τ (23 + 3 * k) 5 = cdrw τ k
        · rw [if_pos g3]
          rw [if_neg (fun z => z.2 g3)] at s3
          refine ⟨⟨by omega, by omega⟩, ?_⟩
          unfold j_X12_count_96
          exact ⟨⟨by omega, by omega⟩, ⟨by omega, by omega⟩, ih _ _ _ _ ⟨rfl, by omega, by omega, by omega⟩⟩
        · rw [if_neg g3]
          rw [if_pos ⟨g, g3⟩] at s3
          exact ⟨⟨by omega, by omega⟩, ⟨by omega, by omega⟩, ⟨by omega, by omega⟩, ih _ _ _ _ ⟨rfl, by omega, by omega, by omega⟩⟩
      by_cases g2 : τ 14 2 - τ (23 + 3 * k) 3 < τ 15 18
      · rw [if_pos g2, if_pos rfl]
        exact ⟨⟨by omega, by omega⟩, rest 0 (by rw [if_neg (fun z => z.2 g2)]; rfl)⟩
      · rw [if_neg g2, if_neg (by decide)]
        exact ⟨⟨by omega, by omega⟩, rest 1 (by rw [if_pos ⟨g, g2⟩]; rfl)⟩
theorem f_count {σ : Mem} (hI : INV σ) (p : Int) : v_X11_count p σ (fun r1 σ1 => v_X12_count p σ1 (fun r2 σ2 => r1 = r2 ∧ INV σ2)) := a_count hI (b_count hI ⟨rfl, hI⟩)
