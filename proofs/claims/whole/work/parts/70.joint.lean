/-! PURE FACTS, 39: both sides read, step by step -/
def mOK (L : Nat) (τ : Mem) : Prop := ∃ pl bh : Nat, τ 122 7 = pl ∧ τ 122 6 = bh ∧ pl ≤ bh ∧ bh ≤ L ∧ 0 ≤ τ 122 9 ∧ τ 122 9 ≤ 9999
def DRs (σ τ : Mem) : Prop := τ 122 18 = σ 9 4 ∧ ∀ k : Nat, (k : Int) < σ 9 4 → σ 11 k = τ 133 k ∧ σ 12 k = τ 134 k ∧ σ 13 k = τ 135 k ∧ σ 10 k = keyF (τ 131 k) (τ 132 k) ∧ whOK (τ 131 k) (τ 132 k) ∧ lineV (τ 131 k) (σ 12 k) (σ 13 k)
def WCs (L : Nat) (b : Nat → Int) (σ : Mem) : Prop := tapC σ L b ∧ (0 ≤ σ 9 4 ∧ σ 9 4 ≤ 16) ∧ 0 ≤ σ 8 2 ∧ ((0 ≤ σ 8 3 ∧ σ 8 3 ≤ 240) ∧ (0 ≤ σ 8 4 ∧ σ 8 4 ≤ 240)) ∧ (σ 8 2 = 0 → ∃ pl bh : Nat, σ 8 3 = pl ∧ σ 8 4 = bh ∧ pl ≤ bh ∧ bh ≤ L ∧ (σ 8 5 = 0 ∨ (σ 8 5 = 1 ∧ pl < bh) ∨ (σ 8 5 = 2 ∧ 0 ≤ σ 8 6 ∧ σ 8 6 ≤ 9999) ∨ σ 8 5 = 3))
def RLs (L : Nat) (b : Nat → Int) (σ τ : Mem) : Prop := tapM τ L b ∧ I_cst τ ∧ τ 122 4 = σ 8 2 ∧ mOK L τ ∧ (σ 8 2 = 0 → τ 122 7 = σ 8 3 ∧ τ 122 6 = σ 8 4 ∧ τ 122 8 = σ 8 5 ∧ (σ 8 5 = 2 → τ 122 9 = σ 8 6)) ∧ (σ 8 2 ≠ 0 → τ 122 5 = σ 8 3) ∧ DRs σ τ
def FCs (σ σ' : Mem) : Prop := ∀ j k, ¬ ((j = 8 ∧ 2 ≤ k) ∨ (j = 9 ∧ k = 4) ∨ (10 ≤ j ∧ j ≤ 13)) → σ' j k = σ j k
def FMs (τ τ' : Mem) : Prop := ∀ j k, ¬ ((j = 122 ∧ ((4 ≤ k ∧ k ≤ 9) ∨ k = 18)) ∨ (131 ≤ j ∧ j ≤ 135)) → τ' j k = τ j k
theorem FCs.tr {a b c : Mem} (h : FCs a b) (h2 : FCs b c) : FCs a c := fun j k z => (h2 j k z).trans (h j k z)
theorem FMs.tr {a b c : Mem} (h : FMs a b) (h2 : FMs b c) : FMs a c := fun j k z => (h2 j k z).trans (h j k z)
def mRng (r : Int) : Prop := -300 ≤ r ∧ r ≤ 20000
def OP (L : Nat) (b : Nat → Int) (vc vm : Mem → (Int → Mem → Prop) → Prop) (σ : Mem) (P : Int → Int → Mem → Prop) : Prop :=
  ∃ (rc rm : Int) (σ' : Mem), WCs L b σ' ∧ FCs σ σ' ∧ (σ' 8 2 = 0 → P rc rm σ') ∧ (∀ Q : Int → Mem → Prop, (∀ r, (σ' 8 2 = 0 → r = rc) → Q r σ') → vc σ Q) ∧ ∀ τ, RLs L b σ τ → ∃ τ', RLs L b σ' τ' ∧ FMs τ τ' ∧ ∀ Q : Int → Mem → Prop, (∀ r, (σ' 8 2 = 0 → r = rm) → mRng r → Q r τ') → vm τ Q
def WMz (L : Nat) (b : Nat → Int) (τ : Mem) : Prop := tapM τ L b ∧ I_cst τ ∧ mOK L τ ∧ (0 ≤ τ 122 18 ∧ τ 122 18 ≤ 16) ∧ 0 < τ 122 4
def FZc (L : Nat) (b : Nat → Int) (vc : Mem → (Int → Mem → Prop) → Prop) : Prop := ∀ σ, WCs L b σ → σ 8 2 ≠ 0 → ∀ Q : Int → Mem → Prop, (∀ r, Q r σ) → vc σ Q
def FZm (L : Nat) (b : Nat → Int) (vm : Mem → (Int → Mem → Prop) → Prop) : Prop := ∀ τ, WMz L b τ → ∀ Q : Int → Mem → Prop, (∀ r, mRng r → Q r τ) → vm τ Q
theorem RLs.z {L : Nat} {b : Nat → Int} {σ τ : Mem} (h : RLs L b σ τ) (w : WCs L b σ) (hz : σ 8 2 ≠ 0) : WMz L b τ := by
  obtain ⟨h1, h2, h3, h4, h5, h6, h7⟩ := h
  obtain ⟨w1, w2, w3, w4, w5⟩ := w
  exact ⟨h1, h2, h4, by rw [h7.1]; exact w2, by omega⟩
theorem FZc.bind {L : Nat} {b : Nat → Int} {v1 : Mem → (Int → Mem → Prop) → Prop} {v2 : Int → Mem → (Int → Mem → Prop) → Prop} (h1 : FZc L b v1) (h2 : ∀ r, FZc L b (v2 r)) : FZc L b (fun s Q => v1 s (fun r s' => v2 r s' Q)) :=
  fun σ w z Q h => h1 σ w z _ (fun r => h2 r σ w z Q h)
theorem FZm.bind {L : Nat} {b : Nat → Int} {v1 : Mem → (Int → Mem → Prop) → Prop} {v2 : Int → Mem → (Int → Mem → Prop) → Prop} (h1 : FZm L b v1) (h2 : ∀ r, mRng r → FZm L b (v2 r)) : FZm L b (fun s Q => v1 s (fun r s' => v2 r s' Q)) :=
  fun τ w Q h => h1 τ w _ (fun r rg => h2 r rg τ w Q h)
theorem OP.bind {L : Nat} {b : Nat → Int} {σ : Mem} {P1 P2 : Int → Int → Mem → Prop} (c1 m1 : Mem → (Int → Mem → Prop) → Prop) (c2 m2 : Int → Mem → (Int → Mem → Prop) → Prop) (h1 : OP L b c1 m1 σ P1) (zc : ∀ r, FZc L b (c2 r)) (zm : ∀ r, mRng r → FZm L b (m2 r)) (h2 : ∀ rc rm σ', WCs L b σ' → σ' 8 2 = 0 → P1 rc rm σ' → OP L b (c2 rc) (m2 rm) σ' P2) : OP L b (fun s Q => c1 s (fun r s' => c2 r s' Q)) (fun s Q => m1 s (fun r s' => m2 r s' Q)) σ P2 := by
  obtain ⟨rc, rm, σ1, W1, F1, p1, C1, M1⟩ := h1
  by_cases live : σ1 8 2 = 0
  · obtain ⟨rc2, rm2, σ2, W2, F2, p2, C2, M2⟩ := h2 rc rm σ1 W1 live (p1 live)
    refine ⟨rc2, rm2, σ2, W2, F1.tr F2, p2, fun Q h => C1 _ (fun r hr => by rw [hr live]; exact C2 Q h), fun τ R => ?_⟩
    obtain ⟨τ1, R1, G1, N1⟩ := M1 τ R
    obtain ⟨τ2, R2, G2, N2⟩ := M2 τ1 R1
    exact ⟨τ2, R2, G1.tr G2, fun Q h => N1 _ (fun r hr _ => by rw [hr live]; exact N2 Q h)⟩
  · refine ⟨0, 0, σ1, W1, F1, fun z => absurd z live, fun Q h => C1 _ (fun r _ => zc r σ1 W1 live Q (fun r2 => h r2 (fun z => absurd z live))), fun τ R => ?_⟩
    obtain ⟨τ1, R1, G1, N1⟩ := M1 τ R
    exact ⟨τ1, R1, G1, fun Q h => N1 _ (fun r _ rg => zm r rg τ1 (R1.z W1 live) Q (fun r2 rg2 => h r2 (fun z => absurd z live) rg2))⟩
theorem OP.mono {L : Nat} {b : Nat → Int} {σ : Mem} {P : Int → Int → Mem → Prop} {c1 m1 c2 m2 : Mem → (Int → Mem → Prop) → Prop} (h : OP L b c1 m1 σ P) (hc : ∀ s Q, c1 s Q → c2 s Q) (hm : ∀ s Q, m1 s Q → m2 s Q) : OP L b c2 m2 σ P := by
  obtain ⟨rc, rm, σ1, W1, F1, p1, C1, M1⟩ := h
  refine ⟨rc, rm, σ1, W1, F1, p1, fun Q q => hc _ _ (C1 Q q), fun τ R => ?_⟩
  obtain ⟨τ1, R1, G1, N1⟩ := M1 τ R
  exact ⟨τ1, R1, G1, fun Q q => hm _ _ (N1 Q q)⟩
theorem OP.post {L : Nat} {b : Nat → Int} {σ : Mem} {P P2 : Int → Int → Mem → Prop} {c1 m1 : Mem → (Int → Mem → Prop) → Prop} (h : OP L b c1 m1 σ P) (hp : ∀ rc rm s, P rc rm s → P2 rc rm s) : OP L b c1 m1 σ P2 := by
  obtain ⟨rc, rm, σ1, W1, F1, p1, C1, M1⟩ := h
  exact ⟨rc, rm, σ1, W1, F1, fun z => hp _ _ _ (p1 z), C1, M1⟩
/-- a value handed on -/
theorem OP.ret {L : Nat} {b : Nat → Int} {σ : Mem} {rc rm : Int} (w : WCs L b σ) (hr : mRng rm) : OP L b (fun s Q => Q rc s) (fun s Q => Q rm s) σ (fun x y s => x = rc ∧ y = rm ∧ s = σ) :=
  ⟨rc, rm, σ, w, fun _ _ _ => rfl, fun _ => ⟨rfl, rfl, rfl⟩, fun Q h => h rc (fun _ => rfl), fun τ R => ⟨τ, R, fun _ _ _ => rfl, fun Q h => h rm (fun _ => rfl) hr⟩⟩
theorem mRng0 : mRng 0 := ⟨by decide, by decide⟩
-- frozen: nothing more is done
theorem zc_step {L : Nat} {b : Nat → Int} : FZc L b v_X6_step := fun σ w z Q h => by unfold v_X6_step; rw [if_neg z]; exact h 0
theorem zm_next {L : Nat} {b : Nat → Int} : FZm L b v_X12_next := fun τ w Q h => by unfold v_X12_next; rw [if_pos w.2.2.2.2]; exact h 0 mRng0
theorem zc_fail {L : Nat} {b : Nat → Int} {c : Int} : FZc L b (v_X6_fail c) := fun σ w z Q h => by unfold v_X6_fail; rw [if_neg z]; exact h 0
theorem zm_fail {L : Nat} {b : Nat → Int} {c : Int} : FZm L b (v_X12_fails c) := fun τ w Q h => by unfold v_X12_fails; rw [if_neg (by have := w.2.2.2.2; omega)]; exact h 0 mRng0
theorem s_isThere {σ : Mem} {p q : Int} {Q : Int → Mem → Prop} (hn : 0 ≤ σ 9 4 ∧ σ 9 4 ≤ 16) (h1 : (∃ k : Nat, (k : Int) < σ 9 4 ∧ σ 10 k = p ∧ σ 11 k = q) → Q 1 σ) (h0 : ¬ (∃ k : Nat, (k : Int) < σ 9 4 ∧ σ 10 k = p ∧ σ 11 k = q) → Q 0 σ) : v_X7_isThere_9 p q σ Q := by
  unfold v_X7_isThere_9
  refine lp0 (l_X7_isThere_9_2 p q Q) (fun i s => s = σ ∧ ∀ k, k < i → ¬ (σ 10 k = p ∧ σ 11 k = q)) (σ 9 4).toNat σ ⟨rfl, fun k hk => absurd hk (by omega)⟩ ?_ ?_
  · rintro n s ⟨rfl, hh⟩
    rw [l_X7_isThere_9_2, if_neg (by omega)]
    exact h0 (fun ⟨k, hk, z⟩ => hh k (by omega) z)
  · rintro n i s hi ⟨hs, hh⟩ ih
    subst hs
    rw [l_X7_isThere_9_2, if_pos (by omega), Int.toNat_natCast]
    refine ⟨by omega, by omega, ?_⟩
    by_cases c : s 10 i = p
    · rw [if_pos c]
      by_cases d : s 11 i = q
      · rw [if_pos d]; exact h1 ⟨i, by omega, c, d⟩
      · rw [if_neg d]
        refine ⟨⟨by omega, by omega⟩, ih _ ⟨rfl, fun k hk => ?_⟩⟩
        by_cases e : k = i
        · subst e; exact fun z => d z.2
        · exact hh k (by omega)
    · rw [if_neg c]
      refine ⟨⟨by omega, by omega⟩, ih _ ⟨rfl, fun k hk => ?_⟩⟩
      by_cases e : k = i
      · subst e; exact fun z => c z.1
      · exact hh k (by omega)
theorem zc_new {L : Nat} {b : Nat → Int} {p q : Int} : FZc L b (v_X6_needNew p q) := fun σ w z Q h => by
  unfold v_X6_needNew
  refine s_isThere w.2.1 (fun _ => ?_) (fun _ => ?_)
  · rw [if_neg (by decide)]; exact zc_fail σ w z _ (fun r => h 0)
  · rw [if_pos rfl]; exact h 0
theorem zm_once {L : Nat} {b : Nat → Int} {p q r : Int} : FZm L b (v_X12_once p q r) := fun τ w Q h => by
  unfold v_X12_once
  refine ⟨1, ?_⟩
  rw [l_X12_once_3]
  by_cases c : 0 < τ 122 18
  · rw [if_pos c, if_neg (by have := w.2.2.2.2; omega)]; exact h 0 mRng0
  · rw [if_neg c]; exact h 0 mRng0
theorem zc_need {L : Nat} {b : Nat → Int} {lo hi : Int} : FZc L b (v_X6_needNumber lo hi) := fun σ w z Q h => by
  unfold v_X6_needNumber j_X6_needNumber_32
  have f : ∀ c, v_X6_fail c σ (fun _ σ3 => Q (σ3 8 6) σ3) := fun c => zc_fail σ w z _ (fun r => h _)
  repeat' split
  · exact f 3
  · exact f 3
  · exact h _
  · exact f 2
theorem zc_take {L : Nat} {b : Nat → Int} {lo hi : Int} : FZc L b (v_X6_takeNumber lo hi) := FZc.bind (v2 := fun r2 σ3 Q => v_X6_step σ3 (fun _ σ6 => Q r2 σ6)) zc_need (fun r => FZc.bind (v2 := fun _ σ6 Q => Q r σ6) zc_step (fun _ σ _ _ Q h => h r))
theorem zm_number {L : Nat} {b : Nat → Int} {lo hi : Int} : FZm L b (v_X12_number lo hi) := fun τ w Q h => by
  have nz : ¬ τ 122 4 = 0 := by have := w.2.2.2.2; omega
  obtain ⟨pl, bh, _, _, _, _, n1, n2⟩ := w.2.2.1
  unfold v_X12_number
  rw [if_neg nz]
  unfold j_X12_number_20
  rw [if_neg nz]
  unfold j_X12_number_47
  exact zm_next τ w _ (fun r _ => h _ ⟨by omega, by omega⟩)
theorem zc_stop {L : Nat} {b : Nat → Int} {p q x y : Int} : FZc L b (v_X6_takeStop p q x y) := fun σ w z Q h => by
  have j : j_X6_takeStop_13 p q x y Q σ := by
    unfold j_X6_takeStop_13 j_X6_takeStop_32
    rw [if_neg z]; exact zc_step σ w z _ (fun r => h 0)
  unfold v_X6_takeStop
  split
  · exact j
  · exact zc_fail σ w z _ (fun r => j)
def stopM (x1 x2 x3 x4 x5 : Int) (s : Mem) (Q : Int → Mem → Prop) : Prop := j_X12_readLine_168 Q x1 x2 x3 x4 x5 s
theorem zm_stop {L : Nat} {b : Nat → Int} {x1 x2 x3 x4 x5 : Int} : FZm L b (stopM x1 x2 x3 x4 x5) := fun τ w Q h => by
  have nz : ¬ τ 122 4 = 0 := by have := w.2.2.2.2; omega
  unfold stopM j_X12_readLine_168
  rw [if_neg nz]
  unfold j_X12_readLine_190
  rw [if_neg nz]; exact h 0 mRng0
-- live: the steps
theorem op_step {L : Nat} {b : Nat → Int} {σ : Mem} (hT : tapC σ L b) (hd : 0 ≤ σ 9 4 ∧ σ 9 4 ≤ 16) (h0 : σ 8 2 = 0) {a : Nat} (h4 : σ 8 4 = a) (ha : a ≤ L) {P : Mem → Prop} (hP : ∀ σ', FT σ σ' → P σ') : ∃ σ', WCs L b σ' ∧ FCs σ σ' ∧ P σ' ∧ (∀ Q : Int → Mem → Prop, Q 0 σ' → v_X6_step σ Q) ∧ ∀ τ, tapM τ L b → I_cst τ → τ 122 4 = 0 → τ 122 6 = a → DRs σ τ → ∃ τ', RLs L b σ' τ' ∧ FMs τ τ' ∧ ∀ Q : Int → Mem → Prop, Q 0 τ' → v_X12_next τ Q := by
  obtain ⟨pl, bh, kd, vl, fl, tk⟩ := tok_ex (b := b) ha
  obtain ⟨σ', F, g2, g3, g34, g4, C⟩ := tokC hT h0 h4 tk
  have tl := hT.2.1
  have tk2 := tk
  obtain ⟨k1, k2, k3, k4, k5, k6, k7, cs⟩ := tk
  have fl01 : fl = 0 ∨ fl = 1 := by
    rcases cs with ⟨_, _, _, e⟩ | ⟨_, _, _, _, e⟩ | ⟨_, _, _, _, _, e⟩ | ⟨_, _, _, _, e⟩ | ⟨_, _, _, _, _, _, e⟩
    · exact Or.inl e
    · exact Or.inl e
    · rw [e]; split
      · exact Or.inr rfl
      · exact Or.inl rfl
    · exact Or.inl e
    · exact Or.inr e
  have e9 : σ' 9 4 = σ 9 4 := F 9 4 (by omega)
  have tC : tapC σ' L b := ⟨by rw [F 1 1 (by omega)]; exact hT.1, tl, fun k hk => by rw [F 2 k (by omega)]; exact hT.2.2 k hk⟩
  refine ⟨σ', ⟨tC, by rw [e9]; exact hd, by rw [g2]; omega, ⟨by rw [g3]; omega, g34⟩, fun z => ?_⟩, fun j k z => F j k (by omega), hP σ' F, C, fun τ t1 t2 t3 t4 t5 => ?_⟩
  · rw [g2] at z
    obtain ⟨y1, y2, y3⟩ := g4 z
    refine ⟨pl, bh, g3, y1, k2, k3, ?_⟩
    rw [y2]
    rcases cs with ⟨_, _, e, _⟩ | ⟨lt, _, _, e, _⟩ | ⟨_, _, _, e, _, _⟩ | ⟨_, _, _, e, _⟩ | ⟨_, _, _, _, _, e, _⟩
    · exact Or.inl e
    · exact Or.inr (Or.inl ⟨e, lt⟩)
    · exact Or.inr (Or.inr (Or.inl ⟨e, by rw [y3 e]; exact k6, by rw [y3 e]; exact k7⟩))
    · exact Or.inr (Or.inr (Or.inr e))
    · exact Or.inr (Or.inr (Or.inr e))
  · obtain ⟨τ', G, f4, f7, f6, f8, n1, n2, n3, f5, M⟩ := tokM tl (fun k hk => (hT.2.2 k hk).2.1) t1 t3 t4 tk2
    refine ⟨τ', ⟨⟨by rw [G 122 2 (by omega)]; exact t1.1, fun k hk => by rw [G 123 k (by omega)]; exact t1.2 k hk⟩, ⟨fun k hk => by rw [G 124 k (by omega)]; exact t2.1 k hk, fun k hk => by rw [G 125 k (by omega)]; exact t2.2 k hk⟩, by rw [f4, g2], ⟨pl, bh, f7, f6, k2, k3, n1, n2⟩, fun z => ?_, fun z => ?_, ?_⟩, fun j k z => G j k (by omega), M⟩
    · rw [g2] at z
      obtain ⟨y1, y2, y3⟩ := g4 z
      refine ⟨by rw [f7, g3], by rw [f6, y1], by rw [f8, y2], fun z2 => ?_⟩
      rw [y2] at z2
      rw [n3 z2, y3 z2]
    · rw [g2] at z; rw [f5 z, g3]
    · obtain ⟨d1, d2⟩ := t5
      refine ⟨by rw [G 122 18 (by omega), e9]; exact d1, fun k hk => ?_⟩
      rw [e9] at hk
      rw [F 10 k (by omega), F 11 k (by omega), F 12 k (by omega), F 13 k (by omega), G 131 k (by omega), G 132 k (by omega), G 133 k (by omega), G 134 k (by omega), G 135 k (by omega)]
      exact d2 k hk
theorem OP.step {L : Nat} {b : Nat → Int} {σ : Mem} (w : WCs L b σ) (h0 : σ 8 2 = 0) : OP L b v_X6_step v_X12_next σ (fun _ _ s => s 9 4 = σ 9 4) := by
  obtain ⟨pl, bh, e3, e4, l1, l2, _⟩ := w.2.2.2.2 h0
  obtain ⟨σ', W, F, P, C, M⟩ := op_step w.1 w.2.1 h0 e4 l2 (P := fun s => s 9 4 = σ 9 4) (fun s F => F 9 4 (by omega))
  refine ⟨0, 0, σ', W, F, fun _ => P, fun Q h => C Q (h 0 (fun _ => rfl)), fun τ R => ?_⟩
  obtain ⟨r1, r2, r3, r4, r5, r6, r7⟩ := R
  obtain ⟨τ', R', G, N⟩ := M τ r1 r2 (by rw [r3]; exact h0) (by rw [(r5 h0).2.1]; exact e4) r7
  exact ⟨τ', R', G, fun Q h => N Q (h 0 (fun _ => rfl) mRng0)⟩
theorem OP.fail {L : Nat} {b : Nat → Int} {σ : Mem} {c : Int} (w : WCs L b σ) (h0 : σ 8 2 = 0) (hc : 0 < c) : OP L b (v_X6_fail c) (v_X12_fails c) σ (fun _ _ _ => False) := by
  have e : ∀ j k, ¬ (j = 8 ∧ k = 2) → mset σ 8 2 c j k = σ j k := fun j k z => st_ne _ _ (by omega)
  refine ⟨0, 0, mset σ 8 2 c, ⟨w.1.st (by decide), by rw [e 9 4 (by omega)]; exact w.2.1, by rw [mset_eq]; omega, by rw [e 8 3 (by omega), e 8 4 (by omega)]; exact w.2.2.2.1, fun z => by rw [mset_eq] at z; omega⟩, fun j k z => e j k (by omega), fun z => by rw [mset_eq] at z; omega, fun Q h => by unfold v_X6_fail; rw [if_pos h0]; exact h 0 (fun _ => rfl), fun τ R => ?_⟩
  obtain ⟨r1, r2, r3, r4, r5, r6, r7⟩ := R
  have g : ∀ j k, ¬ (j = 122 ∧ (k = 4 ∨ k = 5)) → mset (mset τ 122 4 c) 122 5 (τ 122 7) j k = τ j k := fun j k z => by rw [st_ne _ _ (by omega), st_ne _ _ (by omega)]
  refine ⟨mset (mset τ 122 4 c) 122 5 (τ 122 7), ⟨⟨by rw [g 122 2 (by omega)]; exact r1.1, fun k hk => by rw [g 123 k (by omega)]; exact r1.2 k hk⟩, ⟨fun k hk => by rw [g 124 k (by omega)]; exact r2.1 k hk, fun k hk => by rw [g 125 k (by omega)]; exact r2.2 k hk⟩, by rw [mset_nei (by decide), mset_eq, mset_eq], ?_, fun z => by rw [mset_eq] at z; omega, fun _ => by rw [mset_eq, e 8 3 (by omega)]; exact (r5 h0).1, ?_⟩, fun j k z => g j k (by omega), fun Q h => by unfold v_X12_fails; rw [if_pos (by rw [r3]; exact h0)]; exact h 0 (fun _ => rfl) mRng0⟩
  · unfold mOK
    rw [g 122 7 (by omega), g 122 6 (by omega), g 122 9 (by omega)]; exact r4
  · refine ⟨by rw [g 122 18 (by omega), e 9 4 (by omega)]; exact r7.1, fun k hk => ?_⟩
    rw [e 9 4 (by omega)] at hk
    rw [e 10 k (by omega), e 11 k (by omega), e 12 k (by omega), e 13 k (by omega), g 131 k (by omega), g 132 k (by omega), g 133 k (by omega), g 134 k (by omega), g 135 k (by omega)]
    exact r7.2 k hk
