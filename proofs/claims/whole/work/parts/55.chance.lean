/-! PURE FACTS, 24: the model's thirds, chance -/
def mwg (σ ω : Mem) : Prop := SAME σ ω ∧ (∀ m t, m < 3 → t < 3 → ω 149 (3 * m + t) = (thF σ m t : Nat)) ∧ ∀ m, m < 3 → ω 150 m = (alF σ m : Nat)
theorem s_layT {σ τ : Mem} {Q : Int → Mem → Prop} (hI : INVt σ) (ht : ¬ σ 95 0 = 0) (h0 : SAME σ τ) (h : ∀ ω : Mem, mwg σ ω → Q 0 ω) : v_X12_layThirds τ Q := by
  obtain ⟨t1, t2, t3, t4⟩ := tellD hI ht
  have ts := tsprR hI ht
  unfold v_X12_layThirds
  have jI := invt_core h0 hI
  rw [h0 122 39 rfl, t1]
  refine s_mspread jI.r (by omega) ?_
  have e : ruleF τ (8 + σ 95 1) (τ 122 0) = tspr σ := by
    rw [show (8 : Int) + σ 95 1 = (((8 + σ 95 1).toNat : Nat) : Int) by omega, now_r jI.n _ (by omega), (same_now h0).2]
  rw [e]
  refine lp0 (l_X12_layThirds_15 (tspr σ) Q) (fun m s => SAME σ s ∧ (∀ a t, a < m → t < 3 → s 149 (3 * a + t) = (thF σ a t : Nat)) ∧ ∀ a, a < m → s 150 a = (alF σ a : Nat)) 3 τ ⟨h0, fun a t ha => absurd ha (by omega), fun a ha => absurd ha (by omega)⟩ ?_ ?_
  · rintro n s ⟨g1, g2, g3⟩
    rw [l_X12_layThirds_15, if_neg (by decide)]
    exact h s ⟨g1, g2, g3⟩
  · rintro n m s hm ⟨g1, g2, g3⟩ ih
    have tm := t4 m (by omega)
    rw [l_X12_layThirds_15, if_pos (by omega)]
    refine lp0 (l_X12_layThirds_22 (tspr σ) m (fun x2_ σ_ => l_X12_layThirds_15 (tspr σ) Q n x2_ σ_) Q) (fun t w => SAME σ w ∧ (∀ a u, a < m → u < 3 → w 149 (3 * a + u) = (thF σ a u : Nat)) ∧ (∀ a, a < m → w 150 a = (alF σ a : Nat)) ∧ ∀ u, u < t → w 149 (3 * m + u) = if σ 96 m = 0 then 1 else 0) 3 s ⟨g1, g2, g3, fun u hu => absurd hu (by omega)⟩ ?_ ?_
    · rintro n2 w ⟨k1, k2, k3, k4⟩
      have e148 : w 148 m = σ 96 m := by rw [k1 148 m rfl]; exact tm.1
      rw [l_X12_layThirds_22, if_neg (by decide), Int.toNat_natCast, e148]
      refine ⟨by omega, by omega, ?_⟩
      unfold j_X12_layThirds_76
      rw [Int.toNat_natCast, e148]
      refine ⟨by omega, by omega, by omega, by omega, ⟨by omega, by omega⟩, ?_⟩
      by_cases z : σ 96 m = 0
      · rw [if_pos z]
        refine ⟨1, ?_⟩
        rw [l_X12_layThirds_86, Int.toNat_natCast, mset_ne (by decide), e148]
        refine ⟨by omega, by omega, ⟨by omega, by omega⟩, ?_⟩
        rw [if_neg (by omega), if_neg (by omega)]
        refine ⟨⟨by omega, by omega⟩, ih _ ⟨k1.st rfl, fun a u ha hu => ?_, fun a ha => ?_⟩⟩
        · rw [mset_ne (by decide)]
          by_cases y : a = m
          · subst y; rw [k4 u hu, if_pos z]; unfold thF; rw [if_pos z]; rfl
          · exact k2 a u (by omega) hu
        · by_cases y : a = m
          · subst y; rw [mset_eq]; unfold alF; rw [if_pos z]; rfl
          · rw [mset_nei y]; exact k3 a (by omega)
      · rw [if_neg z]
        obtain ⟨K, hK⟩ : ∃ K : Nat, (K : Int) = 2 * tspr σ + 1 := ⟨(2 * tspr σ + 1).toNat, by omega⟩
        have LL := lp0 (fun n9 i s => l_X12_layThirds_86 (tspr σ) m (fun x2_ σ_ => l_X12_layThirds_15 (tspr σ) Q n x2_ σ_) Q n9 (σ 96 m - tspr σ + i) s) (fun i v => SAME σ v ∧ (∀ a u, a < m → u < 3 → v 149 (3 * a + u) = (thF σ a u : Nat)) ∧ (∀ a, a < m → v 150 a = (alF σ a : Nat)) ∧ (∀ u, u < 3 → v 149 (3 * m + u) = (cntF (thP σ m u) i : Nat)) ∧ v 150 m = (cntF (poP (σ 96 m - tspr σ)) i : Nat)) K (mset w 150 m 0) ⟨k1.st rfl, fun a u ha hu => by rw [mset_ne (by decide)]; exact k2 a u ha hu, fun a ha => by rw [mset_nei (by omega)]; exact k3 a ha, fun u hu => by rw [mset_ne (by decide), k4 u hu, if_neg z]; rfl, by rw [mset_eq]; rfl⟩ ?_ ?_
        · obtain ⟨n3, hn⟩ := LL
          try dsimp only at hn
          rw [Int.add_zero] at hn
          exact ⟨n3, hn⟩
        · rintro n3 v ⟨p1, p2, p3, p4, p5⟩
          try dsimp only
          have v148 : v 148 m = σ 96 m := by rw [p1 148 m rfl]; exact tm.1
          rw [l_X12_layThirds_86, Int.toNat_natCast, v148]
          refine ⟨by omega, by omega, ⟨by omega, by omega⟩, ?_⟩
          rw [if_pos (by omega)]
          refine ⟨⟨by omega, by omega⟩, ih _ ⟨p1, fun a u ha hu => ?_, fun a ha => ?_⟩⟩
          · by_cases y : a = m
            · subst y; rw [p4 u hu]; unfold thF; rw [if_neg z, show (2 * tspr σ + 1).toNat = K by omega]
            · exact p2 a u (by omega) hu
          · by_cases y : a = m
            · subst y; rw [p5]; unfold alF; rw [if_neg z, show (2 * tspr σ + 1).toNat = K by omega]
            · exact p3 a (by omega)
        · rintro n3 i v hi ⟨p1, p2, p3, p4, p5⟩ jh
          try dsimp only at jh ⊢
          have v148 : v 148 m = σ 96 m := by rw [p1 148 m rfl]; exact tm.1
          have vI := invt_core p1 hI
          rw [l_X12_layThirds_86, Int.toNat_natCast, v148]
          refine ⟨by omega, by omega, ⟨by omega, by omega⟩, ?_⟩
          rw [if_neg (by omega), if_pos (by omega), show σ 96 m - tspr σ + (i : Int) + 1 = σ 96 m - tspr σ + ((i : Int) + 1) by omega]
          have stp := cnt_step (poP (σ 96 m - tspr σ)) i
          by_cases y : 0 < σ 96 m - tspr σ + (i : Int)
          · rw [if_pos y]
            rw [if_pos y] at stp
            refine s_mthird (m := m) vI.r vI.n rfl (by omega) rfl ?_
            rw [(same_now p1).2]
            have tr := thirdF_rng (σ 15) m (σ 96 m - tspr σ + (i : Int))
            obtain ⟨t, et⟩ : ∃ t : Nat, thirdF (σ 15) m (σ 96 m - tspr σ + (i : Int)) = t := ⟨(thirdF (σ 15) m (σ 96 m - tspr σ + (i : Int))).toNat, by omega⟩
            have cl := cntF_le (P := thP σ m t) i
            have cp := cntF_le (P := poP (σ 96 m - tspr σ)) i
            rw [et, show (3 * (m : Int) + t).toNat = 3 * m + t by omega, p4 t (by omega), p5]
            refine ⟨by omega, by omega, ⟨by omega, by omega⟩, by omega, by omega, ⟨by omega, by omega⟩, ⟨by omega, by omega⟩, jh _ ⟨(p1.st rfl).st rfl, fun a u ha hu => ?_, fun a ha => ?_, fun u hu => ?_, ?_⟩⟩
            · rw [mset_ne (by decide), mset_nei (by omega)]; exact p2 a u ha hu
            · rw [mset_nei (by omega), mset_ne (by decide)]; exact p3 a ha
            · have st := cnt_step (thP σ m u) i
              rw [mset_ne (by decide)]
              by_cases x : u = t
              · subst x
                rw [if_pos ⟨y, et⟩] at st
                rw [mset_eq, st]; omega
              · rw [if_neg (fun x2 => by have := x2.2; rw [et] at this; omega)] at st
                rw [mset_nei (by omega), p4 u hu, st]; rfl
            · rw [mset_eq, stp]; omega
          · rw [if_neg y]
            rw [if_neg y] at stp
            refine ⟨⟨by omega, by omega⟩, jh _ ⟨p1, p2, p3, fun u hu => ?_, ?_⟩⟩
            · have st := cnt_step (thP σ m u) i
              rw [if_neg (fun x2 => y x2.1)] at st
              rw [p4 u hu, st]; rfl
            · rw [p5, stp]; rfl
    · rintro n2 t w ht2 ⟨k1, k2, k3, k4⟩ jh
      have e148 : w 148 m = σ 96 m := by rw [k1 148 m rfl]; exact tm.1
      rw [l_X12_layThirds_22, if_pos (by omega), Int.toNat_natCast, e148, show (3 * (m : Int) + t).toNat = 3 * m + t by omega]
      refine ⟨by omega, by omega, ?_⟩
      have go : ∀ v : Int, v = (if σ 96 m = 0 then 1 else 0) → 0 ≤ 3 * (m : Int) + t ∧ 3 * (m : Int) + t < 9 ∧ inR ((t : Int) + 1) ∧ l_X12_layThirds_22 (tspr σ) m (fun x2_ σ_ => l_X12_layThirds_15 (tspr σ) Q n x2_ σ_) Q n2 (t + 1) (mset w 149 (3 * m + t) v) := by
        intro v hv
        refine ⟨by omega, by omega, ⟨by omega, by omega⟩, jh _ ⟨k1.st rfl, fun a u ha hu => ?_, fun a ha => ?_, fun u hu => ?_⟩⟩
        · rw [mset_nei (by omega)]; exact k2 a u ha hu
        · rw [mset_ne (by decide)]; exact k3 a ha
        · by_cases y : u = t
          · subst y; rw [mset_eq]; exact hv
          · rw [mset_nei (by omega)]; exact k4 u (by omega)
      by_cases z : σ 96 m = 0
      · rw [if_pos z]; exact go 1 (by rw [if_pos z])
      · rw [if_neg z]; exact go 0 (by rw [if_neg z])
theorem s_chanceOf {σ ω : Mem} {p : Int} {d : Nat} {Q : Int → Mem → Prop} (hI : INVt σ) (ht : ¬ σ 95 0 = 0) (hw : ∀ m t, m < 3 → t < 3 → ω 149 (3 * m + t) = (thF σ m t : Nat)) (hp : p = d) (hd : d < 27) (h : Q (wtF σ d : Nat) ω) : v_X12_chanceOf p ω Q := by
  subst hp
  have wl := wtF_le hI ht d
  have e9 : Int.tdiv (d : Int) 9 = ((d / 9 : Nat) : Int) := rfl
  have e3 : Int.tdiv (d : Int) 3 = ((d / 3 : Nat) : Int) := rfl
  have em : Int.tmod ((d / 3 : Nat) : Int) 3 = ((d / 3 % 3 : Nat) : Int) := rfl
  have en : Int.tmod (d : Int) 3 = ((d % 3 : Nat) : Int) := rfl
  have u0 : ω 149 (d / 9) = (thF σ 0 (d / 9) : Nat) := by
    have := hw 0 (d / 9) (by omega) (by omega)
    rw [show 3 * 0 + d / 9 = d / 9 by omega] at this; exact this
  have u1 : ω 149 (3 + d / 3 % 3) = (thF σ 1 (d / 3 % 3) : Nat) := hw 1 (d / 3 % 3) (by omega) (by omega)
  have u2 : ω 149 (6 + d % 3) = (thF σ 2 (d % 3) : Nat) := hw 2 (d % 3) (by omega) (by omega)
  have ep : ((thF σ 0 (d / 9) : Nat) : Int) * (thF σ 1 (d / 3 % 3) : Nat) * (thF σ 2 (d % 3) : Nat) = ((wtF σ d : Nat) : Int) := by
    unfold wtF; rw [Int.natCast_mul, Int.natCast_mul]
  unfold v_X12_chanceOf
  rw [e9, e3, em, en, Int.toNat_natCast, show (3 + ((d / 3 % 3 : Nat) : Int)).toNat = 3 + d / 3 % 3 by omega, show (6 + ((d % 3 : Nat) : Int)).toNat = 6 + d % 3 by omega, u0, u1, u2, ep]
  exact ⟨by omega, by omega, ⟨by omega, by omega⟩, by omega, by omega, by omega, by omega, ⟨by omega, by omega⟩, h⟩
theorem wh_cast {σ : Mem} : ((alF σ 0 : Nat) : Int) * (alF σ 1 : Nat) * (alF σ 2 : Nat) = ((whF σ 3 : Nat) : Int) := by
  show _ = ((1 * alF σ 0 * alF σ 1 * alF σ 2 : Nat) : Int)
  rw [Nat.one_mul, Int.natCast_mul, Int.natCast_mul]
theorem f_chance {σ : Mem} (hI : INV σ) (p w : Int) : v_X11_chance p w σ (fun r1 σ1 => v_X12_chance p w σ1 (fun r2 σ2 => r1 = r2 ∧ INV σ2)) := by
  unfold v_X11_chance
  by_cases c : 0 ≤ p ∧ p ≤ 26
  · rw [if_neg (by omega), if_pos (by omega)]
    by_cases c2 : 0 ≤ w ∧ w ≤ 1
    · rw [if_neg (by omega), if_neg (by omega)]
      by_cases ht : σ 95 0 = 0
      · rw [if_pos ht]
        unfold v_X12_chance
        dsimp only
        rw [s_in_t c, if_neg (by decide), s_in_t c2, if_neg (by decide), if_pos (tellN hI.kt ht)]; exact ⟨rfl, hI⟩
      · rw [if_neg ht]
        obtain ⟨d, rfl⟩ : ∃ d : Nat, p = d := ⟨p.toNat, by omega⟩
        refine s_weigh hI.kt ht (fun ω hω => ?_)
        obtain ⟨o1, o2, o3⟩ := hω
        have wl := wtF_le hI.kt ht d
        have wr := whF_rng hI.kt ht
        have td := tellD hI.kt ht
        rw [Int.toNat_natCast, o2, o3 d (by omega)]
        refine ⟨by omega, by omega, s_lowest rfl rfl (by omega) (by omega) wr.2 ?_⟩
        unfold v_X12_chance
        dsimp only
        rw [s_in_t c, if_neg (by decide), s_in_t c2, if_neg (by decide), o1 122 39 rfl, if_neg (by omega)]
        refine s_layT hI.kt ht o1 (fun ψ hψ => ?_)
        obtain ⟨q1, q2, q3⟩ := hψ
        refine s_chanceOf hI.kt ht q2 rfl (by omega) ?_
        rw [q3 0 (by decide), q3 1 (by decide), q3 2 (by decide), wh_cast]
        exact ⟨⟨by omega, by omega⟩, s_mlowest rfl rfl (by omega) (by omega) wr.2 ⟨rfl, inv_core q1 hI⟩⟩
    · have no : v_X12_chance p w σ (fun r2 σ2 => (-1 : Int) = r2 ∧ INV σ2) := by
        unfold v_X12_chance
        rw [s_in_t c, if_neg (by decide), s_in_f c2, if_pos rfl]; exact ⟨rfl, hI⟩
      by_cases z : w < 0
      · rw [if_pos z]; exact no
      · rw [if_neg z, if_pos (by omega)]; exact no
  · have no : v_X12_chance p w σ (fun r2 σ2 => (-1 : Int) = r2 ∧ INV σ2) := by
      unfold v_X12_chance
      rw [s_in_f c, if_pos rfl]; exact ⟨rfl, hI⟩
    by_cases z : p < 0
    · rw [if_pos z]; exact no
    · rw [if_neg z, if_neg (by omega)]; exact no
