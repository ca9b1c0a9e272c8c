/-! PURE FACTS, 11: lay -/
theorem i2b_sh (x : Int) : ishr (ishl x 24) 24 = i2bI x := by
  have e : ∀ a : Int32, (Int32.ofInt (a <<< (Int32.ofInt 24 &&& 31)).toInt >>> (Int32.ofInt 24 &&& 31)) = a.toInt8.toInt32 := by
    intro a
    rw [ofInt_toInt32]
    apply Int32.toBitVec_inj.mp
    apply BitVec.eq_of_getLsbD_eq
    intro k hk
    have s1 : ((Int32.ofInt 24 &&& 31).toBitVec.smod 32#32).toNat = 24 := by decide
    rw [Int32.toBitVec_shiftRight, Int32.toBitVec_shiftLeft]
    simp only [Int8.toBitVec_toInt32, Int32.toBitVec_toInt8, BitVec.sshiftRight_eq', s1, BitVec.shiftLeft_eq', BitVec.getLsbD_sshiftRight, BitVec.getLsbD_signExtend, BitVec.getLsbD_shiftLeft, BitVec.getLsbD_setWidth, BitVec.msb_eq_getLsbD_last]
    simp [hk]
    by_cases h : k < 8
    · simp [h, show 24 + k < 32 by omega, show ¬ 32 ≤ k by omega, show ¬ (24 + k < 24) by omega]
    · simp [h, show ¬ (24 + k < 32) by omega]
      try exact fun _ => hk
  unfold ishr ishl i2bI
  rw [e]
theorem i2s_sh (x : Int) : ishr (ishl x 16) 16 = i2sI x := by
  have e : ∀ a : Int32, (Int32.ofInt (a <<< (Int32.ofInt 16 &&& 31)).toInt >>> (Int32.ofInt 16 &&& 31)) = a.toInt16.toInt32 := by
    intro a
    rw [ofInt_toInt32]
    apply Int32.toBitVec_inj.mp
    apply BitVec.eq_of_getLsbD_eq
    intro k hk
    have s1 : ((Int32.ofInt 16 &&& 31).toBitVec.smod 32#32).toNat = 16 := by decide
    rw [Int32.toBitVec_shiftRight, Int32.toBitVec_shiftLeft]
    simp only [Int16.toBitVec_toInt32, Int32.toBitVec_toInt16, BitVec.sshiftRight_eq', s1, BitVec.shiftLeft_eq', BitVec.getLsbD_sshiftRight, BitVec.getLsbD_signExtend, BitVec.getLsbD_shiftLeft, BitVec.getLsbD_setWidth, BitVec.msb_eq_getLsbD_last]
    simp [hk]
    by_cases h : k < 16
    · simp [h, show 16 + k < 32 by omega, show ¬ 32 ≤ k by omega, show ¬ (16 + k < 16) by omega]
    · simp [h, show ¬ (16 + k < 32) by omega]
      try exact fun _ => hk
  unfold ishr ishl i2sI
  rw [e]
theorem f_lay {σ : Mem} (hI : INV σ) (p x v : Int) : v_X11_lay p x v σ (fun r1 σ1 => v_X12_lay p x v σ1 (fun r2 σ2 => r1 = r2 ∧ INV σ2)) := by
  unfold v_X11_lay
  by_cases c : 0 ≤ p ∧ p ≤ 3
  · rw [s_isSheet_t c, if_neg (by decide)]
    obtain ⟨i, rfl⟩ : ∃ i : Nat, p = i := ⟨p.toNat, by omega⟩
    have hi : i < 4 := by omega
    rw [Int.toNat_natCast]
    refine ⟨by omega, by omega, ?_⟩
    rcases hI.s i hi with ⟨z1, z2⟩ | ⟨z1, z2, z3, z4, z5, z6, z7, z8⟩
    · rw [if_pos z1]
      unfold v_X12_lay
      dsimp only
      rw [s_in_t c, if_neg (by decide), Int.toNat_natCast, if_pos z2]
      exact ⟨by omega, by omega, rfl, hI⟩
    · rw [if_neg (by omega)]
      by_cases c2 : 0 ≤ x ∧ x ≤ σ (109 + 2 * i) 3 - 1
      · unfold v_X8_has
        rw [if_neg (by omega), if_pos (by omega)]
        dsimp only
        rw [if_neg (by decide)]
        obtain ⟨k, rfl⟩ : ∃ k : Nat, x = k := ⟨x.toNat, by omega⟩
        have model : ∀ w : Int, (w = if σ (109 + 2 * i) 2 = 0 then i2bI v else if σ (109 + 2 * i) 2 = 1 then i2sI v else v) → v_X12_lay i k v (mset σ (110 + 2 * i) k w) (fun r2 σ2 => (1 : Int) = r2 ∧ INV σ2) := by
          intro w hw
          have f : ∀ j y, j ≠ 110 + 2 * i → mset σ (110 + 2 * i) k w j y = σ j y := fun j y h => mset_ne h
          have iv : INV (mset (mset σ (110 + 2 * i) k w) 160 (96 * i + k) w) := by
            refine inv_sheets hI i hi (fun j y z => ?_) (Or.inr ?_)
            · rw [st_ne _ _ (by omega), st_ne _ _ (by omega)]
            · have g : ∀ j y, j ≠ 160 → j ≠ 110 + 2 * i → mset (mset σ (110 + 2 * i) k w) 160 (96 * i + k) w j y = σ j y := fun j y h h2 => by rw [mset_ne h, mset_ne h2]
              rw [g _ 1 (by omega) (by omega), g _ 2 (by omega) (by omega), g _ 3 (by omega) (by omega), g 158 _ (by omega) (by omega), g 159 _ (by omega) (by omega)]
              refine ⟨z1, z2, z3, z4, z5, z6, z7, fun y hy => ?_⟩
              by_cases e : y = k
              · subst e; rw [mset_eq, mset_ne (by omega), mset_eq]
              · rw [mset_nei (by omega), mset_ne (by omega), mset_ne (by omega), mset_nei e]; exact z8 y hy
          unfold v_X12_lay
          rw [s_in_t c, if_neg (by decide), Int.toNat_natCast, f 158 i (by omega), f 159 i (by omega), z2, z5, if_neg (by omega)]
          refine ⟨by omega, by omega, ⟨by omega, by omega⟩, ?_⟩
          rw [s_in_t c2, if_neg (by decide), f 158 i (by omega), z2, show (96 * (i : Int) + k).toNat = 96 * i + k by omega, i2b_sh, i2s_sh]
          by_cases l0 : σ (109 + 2 * i) 2 = 0
          · rw [if_pos l0]; rw [if_pos l0] at hw; rw [← hw]; exact ⟨by omega, by omega, rfl, iv⟩
          · rw [if_neg l0]; rw [if_neg l0] at hw
            by_cases l1 : σ (109 + 2 * i) 2 = 1
            · rw [if_pos l1]; rw [if_pos l1] at hw; rw [← hw]; exact ⟨by omega, by omega, rfl, iv⟩
            · rw [if_neg l1]; rw [if_neg l1] at hw; rw [← hw]; exact ⟨by omega, by omega, rfl, iv⟩
        unfold v_X8_put
        dsimp only
        rw [Int.toNat_natCast]
        by_cases l0 : σ (109 + 2 * i) 2 = 0
        · rw [if_pos l0]; exact ⟨by omega, by omega, model _ (by rw [if_pos l0])⟩
        · rw [if_neg l0]
          by_cases l1 : σ (109 + 2 * i) 2 = 1
          · rw [if_pos l1]; exact ⟨by omega, by omega, model _ (by rw [if_neg l0, if_pos l1])⟩
          · rw [if_neg l1]; exact ⟨by omega, by omega, model _ (by rw [if_neg l0, if_neg l1])⟩
      · have no : v_X12_lay i x v σ (fun r2 σ2 => (-12 : Int) = r2 ∧ INV σ2) := by
          unfold v_X12_lay
          rw [s_in_t c, if_neg (by decide), Int.toNat_natCast, z2, z5, if_neg (by omega)]
          refine ⟨by omega, by omega, ⟨by omega, by omega⟩, ?_⟩
          rw [s_in_f c2, if_pos rfl]; exact ⟨rfl, hI⟩
        unfold v_X8_has
        by_cases l : x < 0
        · rw [if_pos l]; dsimp only; rw [if_pos rfl]; exact no
        · rw [if_neg l, if_neg (by omega)]; dsimp only; rw [if_pos rfl]; exact no
  · rw [s_isSheet_f c, if_pos rfl]
    unfold v_X12_lay
    dsimp only
    rw [s_in_f c, if_pos rfl]; exact ⟨rfl, hI⟩
