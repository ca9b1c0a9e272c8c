/-! PURE FACTS, 40: what a line is made of -/
theorem OP.new {L : Nat} {b : Nat → Int} {σ : Mem} {key what of fr : Int} (w : WCs L b σ) (h0 : σ 8 2 = 0) (hk : key = keyF what of) (hw : whOK what of) : OP L b (v_X6_needNew key fr) (v_X12_once what of fr) σ (fun _ _ s => s = σ) := by
  have n16 := w.2.1
  have same : ∀ τ, DRs σ τ → ∀ k : Nat, (k : Int) < σ 9 4 → ((σ 10 k = key ∧ σ 11 k = fr) ↔ (τ 131 k = what ∧ τ 132 k = of ∧ τ 133 k = fr)) := by
    intro τ d k hk2
    obtain ⟨d1, d2, d3, d4, d5, d6⟩ := d.2 k hk2
    rw [d4, d1, hk, keyF_inj d5 hw]
    exact and_assoc
  by_cases ex : ∃ k : Nat, (k : Int) < σ 9 4 ∧ σ 10 k = key ∧ σ 11 k = fr
  · obtain ⟨rc, rm, σ', W, F, p, C, M⟩ := OP.fail (c := 5) w h0 (by decide)
    refine ⟨0, 0, σ', W, F, fun z => (p z).elim, fun Q h => ?_, fun τ R => ?_⟩
    · unfold v_X6_needNew
      refine s_isThere n16 (fun _ => ?_) (fun z => absurd ex z)
      rw [if_neg (by decide)]
      exact C _ (fun r hr => h 0 (fun z => (p z).elim))
    · obtain ⟨τ', R', G, N⟩ := M τ R
      refine ⟨τ', R', G, fun Q h => ?_⟩
      have hq : Q 0 τ' := h 0 (fun z => (p z).elim) mRng0
      have e4 : τ 122 4 = 0 := by rw [R.2.2.1]; exact h0
      have e4' : ¬ τ' 122 4 = 0 := by rw [R'.2.2.1]; exact fun z => p z
      have e18 := R.2.2.2.2.2.2.1
      have e18' := R'.2.2.2.2.2.2.1
      unfold v_X12_once
      refine lp0 (l_X12_once_3 what of fr Q) (fun i s => (s = τ ∧ ∀ k : Nat, k < i → ¬ (τ 131 k = what ∧ τ 132 k = of ∧ τ 133 k = fr)) ∨ s = τ') (σ 9 4).toNat τ (Or.inl ⟨rfl, fun k hk => absurd hk (by omega)⟩) ?_ ?_
      · rintro n s (⟨rfl, hh⟩ | rfl)
        · obtain ⟨k, k1, k2⟩ := ex
          exact absurd ((same s R.2.2.2.2.2.2 k k1).mp k2) (hh k (by omega))
        · rw [l_X12_once_3]
          by_cases c : (((σ 9 4).toNat : Nat) : Int) < s 122 18
          · rw [if_pos c, if_neg e4']; exact hq
          · rw [if_neg c]; exact hq
      · rintro n i s hi (⟨rfl, hh⟩ | rfl) ih
        · rw [l_X12_once_3, if_pos (by omega), if_pos e4, Int.toNat_natCast]
          refine ⟨by omega, by omega, ?_⟩
          have skip : ¬ (s 131 i = what ∧ s 132 i = of ∧ s 133 i = fr) → inR ((i : Int) + 1) ∧ l_X12_once_3 what of fr Q n (i + 1) s := by
            intro z
            refine ⟨⟨by omega, by omega⟩, ih _ (Or.inl ⟨rfl, fun k hk => ?_⟩)⟩
            by_cases e : k = i
            · subst e; exact z
            · exact hh k (by omega)
          by_cases c1 : s 131 i = what
          · rw [if_pos c1]
            by_cases c2 : s 132 i = of
            · rw [if_pos c2]
              by_cases c3 : s 133 i = fr
              · rw [if_pos c3]
                exact N _ (fun r _ _ => ⟨⟨by omega, by omega⟩, ih _ (Or.inr rfl)⟩)
              · rw [if_neg c3]; exact skip (fun z => c3 z.2.2)
            · rw [if_neg c2]; exact skip (fun z => c2 z.2.1)
          · rw [if_neg c1]; exact skip (fun z => c1 z.1)
        · rw [l_X12_once_3]
          by_cases c : (i : Int) < s 122 18
          · rw [if_pos c, if_neg e4']; exact hq
          · rw [if_neg c]; exact hq
  · refine ⟨0, 0, σ, w, fun _ _ _ => rfl, fun _ => rfl, fun Q h => ?_, fun τ R => ⟨τ, R, fun _ _ _ => rfl, fun Q h => ?_⟩⟩
    · unfold v_X6_needNew
      refine s_isThere n16 (fun z => absurd z ex) (fun _ => ?_)
      rw [if_pos rfl]; exact h 0 (fun _ => rfl)
    · have hq : Q 0 τ := h 0 (fun _ => rfl) mRng0
      have e4 : τ 122 4 = 0 := by rw [R.2.2.1]; exact h0
      have e18 := R.2.2.2.2.2.2.1
      unfold v_X12_once
      refine lp0 (l_X12_once_3 what of fr Q) (fun i s => s = τ) (σ 9 4).toNat τ rfl ?_ ?_
      · rintro n s rfl
        rw [l_X12_once_3, if_neg (by omega)]; exact hq
      · rintro n i s hi rfl ih
        have z : ¬ (s 131 i = what ∧ s 132 i = of ∧ s 133 i = fr) := fun z => ex ⟨i, by omega, (same s R.2.2.2.2.2.2 i (by omega)).mpr z⟩
        have skip : inR ((i : Int) + 1) ∧ l_X12_once_3 what of fr Q n (i + 1) s := ⟨⟨by omega, by omega⟩, ih _ rfl⟩
        rw [l_X12_once_3, if_pos (by omega), if_pos e4, Int.toNat_natCast]
        refine ⟨by omega, by omega, ?_⟩
        by_cases c1 : s 131 i = what
        · rw [if_pos c1]
          by_cases c2 : s 132 i = of
          · rw [if_pos c2]
            by_cases c3 : s 133 i = fr
            · exact absurd ⟨c1, c2, c3⟩ z
            · rw [if_neg c3]; exact skip
          · rw [if_neg c2]; exact skip
        · rw [if_neg c1]; exact skip
/-- a test, and a fault if it doesn't hold -/
theorem OP.test {L : Nat} {b : Nat → Int} {σ : Mem} {c : Int} {T : Prop} {vc vm : Mem → (Int → Mem → Prop) → Prop} {rc rm : Int} (w : WCs L b σ) (h0 : σ 8 2 = 0) (hc : 0 < c) (hr : mRng rm) (ct : T → ∀ Q : Int → Mem → Prop, Q rc σ → vc σ Q) (cf : ¬ T → ∀ Q : Int → Mem → Prop, (∀ K : Mem → Prop, (∀ s, WCs L b s → s 8 2 ≠ 0 → (∀ r, Q r s) → K s) → v_X6_fail c σ (fun _ s => K s)) → vc σ Q) (mt : T → ∀ τ, RLs L b σ τ → ∀ Q : Int → Mem → Prop, Q rm τ → vm τ Q) (mf : ¬ T → ∀ τ, RLs L b σ τ → ∀ Q : Int → Mem → Prop, (∀ K : Mem → Prop, (∀ s, WMz L b s → (∀ r, mRng r → Q r s) → K s) → v_X12_fails c τ (fun _ s => K s)) → vm τ Q) : OP L b vc vm σ (fun x y s => T ∧ x = rc ∧ y = rm ∧ s = σ) := by
  by_cases t : T
  · exact ⟨rc, rm, σ, w, fun _ _ _ => rfl, fun _ => ⟨t, rfl, rfl, rfl⟩, fun Q h => ct t Q (h rc (fun _ => rfl)), fun τ R => ⟨τ, R, fun _ _ _ => rfl, fun Q h => mt t τ R Q (h rm (fun _ => rfl) hr)⟩⟩
  · obtain ⟨_, _, σ', W, F, p, C, M⟩ := OP.fail w h0 hc
    have nz : σ' 8 2 ≠ 0 := fun z => p z
    refine ⟨0, 0, σ', W, F, fun z => (p z).elim, fun Q h => cf t Q (fun K hK => C _ (fun _ _ => hK σ' W nz (fun r => h r (fun z => (p z).elim)))), fun τ R => ?_⟩
    obtain ⟨τ', R', G, N⟩ := M τ R
    exact ⟨τ', R', G, fun Q h => mf t τ R Q (fun K hK => N _ (fun _ _ _ => hK τ' (R'.z W nz) (fun r rg => h r (fun z => (p z).elim) rg)))⟩
def numM2 (lo hi : Int) (s : Mem) (Q : Int → Mem → Prop) : Prop := if (s 122 4) = 0 then v_X12_in (s 122 9) lo hi s (fun r4 s5 => if r4 = 0 then v_X12_fails 3 s5 (fun _ s9 => Q (s9 122 9) s9) else Q (s5 122 9) s5) else Q (s 122 9) s
def numM (lo hi : Int) (s : Mem) (Q : Int → Mem → Prop) : Prop := if (s 122 4) = 0 then (if (s 122 8) = 2 then numM2 lo hi s Q else v_X12_fails 2 s (fun _ s6 => numM2 lo hi s6 Q)) else numM2 lo hi s Q
theorem WMz.val {L : Nat} {b : Nat → Int} {s : Mem} (w : WMz L b s) : mRng (s 122 9) := by
  obtain ⟨pl, bh, _, _, _, _, n1, n2⟩ := w.2.2.1
  exact ⟨by omega, by omega⟩
theorem WMz.nz {L : Nat} {b : Nat → Int} {s : Mem} (w : WMz L b s) : ¬ s 122 4 = 0 := by have := w.2.2.2.2; omega
theorem zm_num2 {L : Nat} {b : Nat → Int} {lo hi : Int} : FZm L b (numM2 lo hi) := fun τ w Q h => by
  unfold numM2; rw [if_neg w.nz]; exact h _ w.val
theorem zm_num {L : Nat} {b : Nat → Int} {lo hi : Int} : FZm L b (numM lo hi) := fun τ w Q h => by
  unfold numM; rw [if_neg w.nz]; exact zm_num2 τ w Q h
theorem OP.need {L : Nat} {b : Nat → Int} {σ : Mem} {lo hi : Int} (w : WCs L b σ) (h0 : σ 8 2 = 0) : OP L b (v_X6_needNumber lo hi) (numM lo hi) σ (fun x y s => x = y ∧ lo ≤ x ∧ x ≤ hi ∧ s = σ) := by
  obtain ⟨pl, bh, _, _, _, _, kk⟩ := w.2.2.2.2 h0
  by_cases k2 : σ 8 5 = 2
  · have v : 0 ≤ σ 8 6 ∧ σ 8 6 ≤ 9999 := by
      rcases kk with z | ⟨z, _⟩ | ⟨_, z⟩ | z
      · omega
      · omega
      · exact z
      · omega
    refine OP.post (OP.test (c := 3) (T := lo ≤ σ 8 6 ∧ σ 8 6 ≤ hi) (rc := σ 8 6) (rm := σ 8 6) w h0 (by decide) ⟨by omega, by omega⟩ (fun t Q h => ?_) (fun t Q h => ?_) (fun t τ R Q h => ?_) (fun t τ R Q h => ?_)) (fun x y s z => ⟨z.2.1.trans z.2.2.1.symm, by rw [z.2.1]; exact z.1.1, by rw [z.2.1]; exact z.1.2, z.2.2.2⟩)
    · unfold v_X6_needNumber
      rw [if_pos k2, if_neg (by omega), if_neg (by omega)]; exact h
    · unfold v_X6_needNumber j_X6_needNumber_32
      rw [if_pos k2]
      have f := h (fun s => Q (s 8 6) s) (fun s _ _ g => g _)
      by_cases c : σ 8 6 < lo
      · rw [if_pos c]; exact f
      · rw [if_neg c, if_pos (by omega)]; exact f
    · have e := R.2.2.2.2.1 h0
      unfold numM numM2
      rw [R.2.2.1, if_pos h0, e.2.2.1, if_pos k2, if_pos h0, e.2.2.2 k2, s_in_t t, if_neg (by decide)]; rw [e.2.2.2 k2]; exact h
    · have e := R.2.2.2.2.1 h0
      unfold numM numM2
      rw [R.2.2.1, if_pos h0, e.2.2.1, if_pos k2, if_pos h0, e.2.2.2 k2, s_in_f t, if_pos rfl]
      exact h (fun s => Q (s 122 9) s) (fun s z g => g _ z.val)
  · refine OP.post (OP.test (c := 2) (T := False) (rc := 0) (rm := 0) w h0 (by decide) mRng0 (fun t => t.elim) (fun t Q h => ?_) (fun t => t.elim) (fun t τ R Q h => ?_)) (fun x y s z => z.1.elim)
    · unfold v_X6_needNumber
      rw [if_neg k2]
      exact h (fun s => Q (s 8 6) s) (fun s _ _ g => g _)
    · have e := R.2.2.2.2.1 h0
      unfold numM
      rw [R.2.2.1, if_pos h0, e.2.2.1, if_neg k2]
      exact h (fun s => numM2 lo hi s Q) (fun s z g => zm_num2 s z Q g)
theorem OP.take {L : Nat} {b : Nat → Int} {σ : Mem} {lo hi : Int} (w : WCs L b σ) (h0 : σ 8 2 = 0) (hlo : -100 ≤ lo) (hhi : hi ≤ 20000) : OP L b (v_X6_takeNumber lo hi) (v_X12_number lo hi) σ (fun x y s => x = y ∧ lo ≤ x ∧ x ≤ hi ∧ s 9 4 = σ 9 4) := by
  have B := OP.bind (v_X6_needNumber lo hi) (numM lo hi) (fun r s Q => v_X6_step s (fun _ s6 => Q r s6)) (fun r s Q => v_X12_next s (fun _ s6 => Q r s6)) (P2 := fun x y s => x = y ∧ lo ≤ x ∧ x ≤ hi ∧ s 9 4 = σ 9 4) (OP.need (lo := lo) (hi := hi) w h0) (fun r => FZc.bind (v2 := fun _ s Q => Q r s) zc_step (fun _ s _ _ Q h => h r)) (fun r rg => FZm.bind (v2 := fun _ s Q => Q r s) zm_next (fun _ _ s _ Q h => h r rg)) (fun rc rm σ' W l p => ?_)
  · refine OP.mono B (fun s Q h => h) (fun s Q h => ?_)
    unfold numM at h
    unfold v_X12_number j_X12_number_20 j_X12_number_47
    unfold numM2 at h
    exact h
  · obtain ⟨p1, p2, p3, rfl⟩ := p
    refine OP.bind v_X6_step v_X12_next (fun _ s Q => Q rc s) (fun _ s Q => Q rm s) (OP.step W l) (fun _ s _ _ Q h => h rc) (fun _ _ s _ Q h => h rm ⟨by omega, by omega⟩) (fun a1 a2 σ2 W2 l2 e => ?_)
    exact OP.post (OP.ret W2 ⟨by omega, by omega⟩) (fun x y s z => by
      obtain ⟨z1, z2, z3⟩ := z
      rw [z1, z2, z3]; exact ⟨p1, p2, p3, e⟩)
/-- a line ends -/
theorem OP.stop {L : Nat} {b : Nat → Int} {σ : Mem} {key what of fr one two : Int} (w : WCs L b σ) (h0 : σ 8 2 = 0) (hn : σ 9 4 < 16) (hkey : key = keyF what of) (hw : whOK what of) (hl : lineV what one two) : OP L b (v_X6_takeStop key fr one two) (stopM what fr of one two) σ (fun _ _ s => s 9 4 = σ 9 4 + 1) := by
  obtain ⟨pl, bh, e3, e4, l1, l2, kk⟩ := w.2.2.2.2 h0
  by_cases k3 : σ 8 5 = 3
  · obtain ⟨n, hn2⟩ : ∃ n : Nat, σ 9 4 = n := ⟨(σ 9 4).toNat, by have := w.2.1.1; omega⟩
    generalize hS : mset (mset (mset (mset (mset σ 10 n key) 11 n fr) 12 n one) 13 n two) 9 4 ((n : Int) + 1) = S
    have sg : ∀ j k, ¬ ((10 ≤ j ∧ j ≤ 13 ∧ k = n) ∨ (j = 9 ∧ k = 4)) → S j k = σ j k := fun j k z => by
      rw [← hS, st_ne _ _ (by omega), st_ne _ _ (by omega), st_ne _ _ (by omega), st_ne _ _ (by omega), st_ne _ _ (by omega)]
    have s94 : S 9 4 = (n : Int) + 1 := by rw [← hS, mset_eq]
    have v10 : S 10 n = key := by rw [← hS, mset_ne (by decide), mset_ne (by decide), mset_ne (by decide), mset_ne (by decide), mset_eq]
    have v11 : S 11 n = fr := by rw [← hS, mset_ne (by decide), mset_ne (by decide), mset_ne (by decide), mset_eq]
    have v12 : S 12 n = one := by rw [← hS, mset_ne (by decide), mset_ne (by decide), mset_eq]
    have v13 : S 13 n = two := by rw [← hS, mset_ne (by decide), mset_eq]
    have tS : tapC S L b := ⟨by rw [sg 1 1 (by omega)]; exact w.1.1, w.1.2.1, fun k hk => by rw [sg 2 k (by omega)]; exact w.1.2.2 k hk⟩
    obtain ⟨σ', W, F, P, C, M⟩ := op_step tS (by rw [s94]; omega) (by rw [sg 8 2 (by omega)]; exact h0) (a := bh) (by rw [sg 8 4 (by omega)]; exact e4) l2 (P := fun s => s 9 4 = σ 9 4 + 1) (fun s F => by rw [F 9 4 (by omega), s94, hn2])
    refine ⟨0, 0, σ', W, fun j k z => by rw [F j k z, sg j k (by omega)], fun _ => P, fun Q h => ?_, fun τ R => ?_⟩
    · unfold v_X6_takeStop j_X6_takeStop_13 v_X7_add_9 j_X6_takeStop_32
      rw [if_pos k3, if_pos h0, hn2, if_pos (by omega), Int.toNat_natCast, hS]
      exact ⟨by omega, by omega, ⟨by omega, by omega⟩, C _ (h 0 (fun _ => rfl))⟩
    · obtain ⟨r1, r2, r3, r4, r5, r6, r7⟩ := R
      have e18 : τ 122 18 = n := by rw [r7.1]; exact hn2
      generalize hU : mset (mset (mset (mset (mset (mset τ 131 n what) 132 n of) 133 n fr) 134 n one) 135 n two) 122 18 ((n : Int) + 1) = U
      have ug : ∀ j k, ¬ ((131 ≤ j ∧ j ≤ 135 ∧ k = n) ∨ (j = 122 ∧ k = 18)) → U j k = τ j k := fun j k z => by
        rw [← hU, st_ne _ _ (by omega), st_ne _ _ (by omega), st_ne _ _ (by omega), st_ne _ _ (by omega), st_ne _ _ (by omega), st_ne _ _ (by omega)]
      have u18 : U 122 18 = (n : Int) + 1 := by rw [← hU, mset_eq]
      have u131 : U 131 n = what := by rw [← hU, mset_ne (by decide), mset_ne (by decide), mset_ne (by decide), mset_ne (by decide), mset_ne (by decide), mset_eq]
      have u132 : U 132 n = of := by rw [← hU, mset_ne (by decide), mset_ne (by decide), mset_ne (by decide), mset_ne (by decide), mset_eq]
      have u133 : U 133 n = fr := by rw [← hU, mset_ne (by decide), mset_ne (by decide), mset_ne (by decide), mset_eq]
      have u134 : U 134 n = one := by rw [← hU, mset_ne (by decide), mset_ne (by decide), mset_eq]
      have u135 : U 135 n = two := by rw [← hU, mset_ne (by decide), mset_eq]
      obtain ⟨τ', R', G, N⟩ := M U ⟨by rw [ug 122 2 (by omega)]; exact r1.1, fun k hk => by rw [ug 123 k (by omega)]; exact r1.2 k hk⟩ ⟨fun k hk => by rw [ug 124 k (by omega)]; exact r2.1 k hk, fun k hk => by rw [ug 125 k (by omega)]; exact r2.2 k hk⟩ (by rw [ug 122 4 (by omega), r3]; exact h0) (by rw [ug 122 6 (by omega), (r5 h0).2.1]; exact e4) ⟨by rw [u18, s94], fun k hk => by
        rw [s94] at hk
        by_cases e : k = n
        · subst e
          rw [v10, v11, v12, v13, u131, u132, u133, u134, u135]
          exact ⟨rfl, rfl, rfl, hkey, hw, hl⟩
        · rw [sg 10 k (by omega), sg 11 k (by omega), sg 12 k (by omega), sg 13 k (by omega), ug 131 k (by omega), ug 132 k (by omega), ug 133 k (by omega), ug 134 k (by omega), ug 135 k (by omega)]
          exact r7.2 k (by omega)⟩
      refine ⟨τ', R', fun j k z => by rw [G j k z, ug j k (by omega)], fun Q h => ?_⟩
      unfold stopM j_X12_readLine_168 j_X12_readLine_190
      have z4 : τ 122 4 = 0 := by rw [r3]; exact h0
      rw [if_pos z4, (r5 h0).2.2.1, if_pos k3, if_pos z4, e18, Int.toNat_natCast, hU]
      exact ⟨by omega, by omega, ⟨by omega, by omega⟩, N _ (h 0 (fun _ => rfl) mRng0)⟩
  · refine OP.post (OP.test (c := 2) (T := False) (rc := 0) (rm := 0) w h0 (by decide) mRng0 (fun t => t.elim) (fun t Q h => ?_) (fun t => t.elim) (fun t τ R Q h => ?_)) (fun x y s z => z.1.elim)
    · unfold v_X6_takeStop
      rw [if_neg k3]
      refine h (fun s => j_X6_takeStop_13 key fr one two Q s) (fun s W nz g => ?_)
      unfold j_X6_takeStop_13 j_X6_takeStop_32
      rw [if_neg nz]
      exact zc_step s W nz _ (fun _ => g 0)
    · have e := R.2.2.2.2.1 h0
      unfold stopM j_X12_readLine_168
      rw [R.2.2.1, if_pos h0, e.2.2.1, if_neg k3]
      refine h (fun s => j_X12_readLine_190 Q what fr of one two s) (fun s z g => ?_)
      unfold j_X12_readLine_190
      rw [if_neg z.nz]; exact g 0 mRng0
