/-! PURE FACTS, 44: line by line -/
theorem RLs.pos {L : Nat} {b : Nat → Int} {σ τ : Mem} {pl bh : Nat} (R : RLs L b σ τ) (h0 : σ 8 2 = 0) (e3 : σ 8 3 = pl) (e4 : σ 8 4 = bh) : τ 122 7 = pl ∧ τ 122 6 = bh ∧ τ 122 8 = σ 8 5 ∧ τ 122 4 = 0 := by
  obtain ⟨r1, r2, r3, r4, r5, r6, r7⟩ := R
  have e := r5 h0
  exact ⟨by rw [e.1]; exact e3, by rw [e.2.1]; exact e4, e.2.2.1, by rw [r3]; exact h0⟩
theorem sx_inv {n m : Nat} (hn : n < 5) (h : n + 1 = sxI m) (hm : m < 6) : m = n := by
  unfold sxI at h
  by_cases e : m = 5
  · rw [if_pos e] at h; omega
  · rw [if_neg e] at h; omega
theorem OP.prod {L : Nat} {b : Nat → Int} {σ : Mem} {fr : Int} {pl bh n : Nat} (w : WCs L b σ) (h0 : σ 8 2 = 0) (hn : σ 9 4 < 16) (e3 : σ 8 3 = pl) (e4 : σ 8 4 = bh) (l1 : pl ≤ bh) (l2 : bh ≤ L) (h5 : n < 5) (hT : nmT σ b pl bh (σ 8 5) (n + 1)) : OP L b (fun s Q => j_X6_readLine_24 Q fr s) (fun s Q => j_X12_readLine_81 Q (n : Int) fr s) σ (fun _ _ s => s 9 4 = σ 9 4 + 1) := by
  have ne : ∀ i, i < 6 → i ≠ n + 1 → ¬ nmT σ b pl bh (σ 8 5) i := fun i hi hne z => hne (nm_one hi (by omega) z hT)
  have z4 : ∀ τ, RLs L b σ τ → τ 122 4 = 0 := fun τ R => (R.pos h0 e3 e4).2.2.2
  have n5 : n = 0 ∨ n = 1 ∨ n = 2 ∨ n = 3 ∨ n = 4 := by omega
  rcases n5 with rfl | rfl | rfl | rfl | rfl
  · exact OP.mono2 (OP.edg (fr := fr) w h0 hn) (fun Q h => sel24 w.1 h0 e3 e4 l1 l2 (fun _ => h) (fun z => absurd z (ne 2 (by omega) (by omega))) (fun z => absurd z (ne 3 (by omega) (by omega))) (fun z => absurd z (ne 4 (by omega) (by omega))) (fun z => absurd z (ne 5 (by omega) (by omega))) (fun z => absurd hT (z _ (by omega) (by omega)))) (fun τ R Q h => (sel81 (z4 τ R)).1 h)
  · exact OP.mono2 (OP.spd (fr := fr) w h0 hn) (fun Q h => sel24 w.1 h0 e3 e4 l1 l2 (fun z => absurd z (ne 1 (by omega) (by omega))) (fun _ => h) (fun z => absurd z (ne 3 (by omega) (by omega))) (fun z => absurd z (ne 4 (by omega) (by omega))) (fun z => absurd z (ne 5 (by omega) (by omega))) (fun z => absurd hT (z _ (by omega) (by omega)))) (fun τ R Q h => (sel81 (z4 τ R)).2.1 h)
  · exact OP.mono2 (OP.gro (fr := fr) w h0 hn) (fun Q h => sel24 w.1 h0 e3 e4 l1 l2 (fun z => absurd z (ne 1 (by omega) (by omega))) (fun z => absurd z (ne 2 (by omega) (by omega))) (fun _ => h) (fun z => absurd z (ne 4 (by omega) (by omega))) (fun z => absurd z (ne 5 (by omega) (by omega))) (fun z => absurd hT (z _ (by omega) (by omega)))) (fun τ R Q h => (sel81 (z4 τ R)).2.2.1 h)
  · exact OP.mono2 (OP.kee (fr := fr) w h0 hn) (fun Q h => sel24 w.1 h0 e3 e4 l1 l2 (fun z => absurd z (ne 1 (by omega) (by omega))) (fun z => absurd z (ne 2 (by omega) (by omega))) (fun z => absurd z (ne 3 (by omega) (by omega))) (fun _ => h) (fun z => absurd z (ne 5 (by omega) (by omega))) (fun z => absurd hT (z _ (by omega) (by omega)))) (fun τ R Q h => (sel81 (z4 τ R)).2.2.2.1 h)
  · exact OP.mono2 (OP.oth (fr := fr) w h0 hn) (fun Q h => sel24 w.1 h0 e3 e4 l1 l2 (fun z => absurd z (ne 1 (by omega) (by omega))) (fun z => absurd z (ne 2 (by omega) (by omega))) (fun z => absurd z (ne 3 (by omega) (by omega))) (fun z => absurd z (ne 4 (by omega) (by omega))) (fun _ => h) (fun z => absurd hT (z _ (by omega) (by omega)))) (fun τ R Q h => (sel81 (z4 τ R)).2.2.2.2 h)
theorem zc_24 {L : Nat} {b : Nat → Int} {fr : Int} : FZc L b (fun s Q => j_X6_readLine_24 Q fr s) := fun σ w z Q h => by
  show j_X6_readLine_24 Q fr σ
  unfold j_X6_readLine_24; rw [if_neg z]; exact h 0
theorem j24_eq {Q : Int → Mem → Prop} : j_X6_readLine_24 (fun _ s4 => Q 0 s4) = j_X6_readLine_24 Q := by
  funext fr s
  unfold j_X6_readLine_24
  rfl
def rulM (fr : Int) (s : Mem) (Q : Int → Mem → Prop) : Prop := v_X12_nameHere s (fun r11 σ12 => if r11 = (-4) then (j_X12_readLine_76 Q r11 fr σ12) else (if r11 = 5 then (j_X12_readLine_76 Q r11 fr σ12) else (j_X12_readLine_81 Q r11 fr σ12)))
theorem z81 {L : Nat} {b : Nat → Int} {x fr : Int} {τ : Mem} {Q : Int → Mem → Prop} (w : WMz L b τ) (h : Q 0 τ) : j_X12_readLine_81 Q x fr τ := by
  unfold j_X12_readLine_81; rw [if_pos w.2.2.2.2]; exact h
theorem z76 {L : Nat} {b : Nat → Int} {x fr : Int} {τ : Mem} {Q : Int → Mem → Prop} (w : WMz L b τ) (h : Q 0 τ) : j_X12_readLine_76 Q x fr τ := by
  unfold j_X12_readLine_76; exact zm_fail τ w _ (fun _ _ => z81 w h)
theorem zm_rul {L : Nat} {b : Nat → Int} {fr : Int} (hL : L ≤ 240) : FZm L b (rulM fr) := fun τ w Q h => by
  obtain ⟨pl, bh, e7, e6, l1, l2, _, _⟩ := w.2.2.1
  have q := h 0 mRng0
  have a : ∀ r : Int, (if r = (-4) then (j_X12_readLine_76 Q r fr τ) else (if r = 5 then (j_X12_readLine_76 Q r fr τ) else (j_X12_readLine_81 Q r fr τ))) := by
    intro r
    by_cases c : r = -4
    · rw [if_pos c]; exact z76 w q
    · rw [if_neg c]
      by_cases d : r = 5
      · rw [if_pos d]; exact z76 w q
      · rw [if_neg d]; exact z81 w q
  unfold rulM
  exact s_nameHere hL w.1 w.2.1 e7 e6 l1 l2 (fun n _ _ => a n) (fun _ => a (-4))
theorem OP.rule {L : Nat} {b : Nat → Int} {σ : Mem} {fr : Int} (w : WCs L b σ) (h0 : σ 8 2 = 0) (hn : σ 9 4 < 16) : OP L b (fun s Q => j_X6_readLine_24 Q fr s) (rulM fr) σ (fun _ _ s => s 9 4 = σ 9 4 + 1) := by
  obtain ⟨pl, bh, e3, e4, l1, l2, _⟩ := w.2.2.2.2 h0
  have hL := w.1.2.1
  by_cases ex : ∃ n, n < 5 ∧ nmT σ b pl bh (σ 8 5) (n + 1)
  · obtain ⟨n, h5, hT⟩ := ex
    refine OP.mono2 (OP.prod (fr := fr) w h0 hn e3 e4 l1 l2 h5 hT) (fun Q h => h) (fun τ R Q h => ?_)
    obtain ⟨p1, p2, p3, p4⟩ := R.pos h0 e3 e4
    unfold rulM
    refine s_nameHere hL R.1 R.2.1 p1 p2 l1 l2 (fun m hm z => ?_) (fun z => ?_)
    · rw [p3] at z
      have hs : sxI m < 6 := (ends_len ⟨m, hm⟩).2.2.2
      have e : m = n := sx_inv h5 (nm_one (by omega) hs hT z) hm
      subst e
      rw [if_neg (by omega), if_neg (by omega)]; exact h
    · refine absurd ?_ (z n (by omega))
      rw [p3]
      have : sxI n = n + 1 := by unfold sxI; rw [if_neg (by omega)]
      rw [this]; exact hT
  · have none : ∀ i, 1 ≤ i → i < 6 → ¬ nmT σ b pl bh (σ 8 5) i := fun i i1 i2 z => ex ⟨i - 1, by omega, by rw [show i - 1 + 1 = i by omega]; exact z⟩
    refine OP.post (OP.test (c := 2) (T := False) (rc := 0) (rm := 0) w h0 (by decide) mRng0 (fun t => t.elim) (fun _ Q h => ?_) (fun t => t.elim) (fun _ τ R Q h => ?_)) (fun x y s z => z.1.elim)
    · exact sel24 w.1 h0 e3 e4 l1 l2 (fun z => absurd z (none 1 (by omega) (by omega))) (fun z => absurd z (none 2 (by omega) (by omega))) (fun z => absurd z (none 3 (by omega) (by omega))) (fun z => absurd z (none 4 (by omega) (by omega))) (fun z => absurd z (none 5 (by omega) (by omega))) (fun _ => h (fun s => Q 0 s) (fun s _ _ g => g 0))
    · obtain ⟨p1, p2, p3, p4⟩ := R.pos h0 e3 e4
      have f : ∀ r : Int, j_X12_readLine_76 Q r fr τ := fun r => by
        unfold j_X12_readLine_76
        exact h (fun s => j_X12_readLine_81 Q r fr s) (fun s z g => z81 z (g 0 mRng0))
      unfold rulM
      refine s_nameHere hL R.1 R.2.1 p1 p2 l1 l2 (fun m hm z => ?_) (fun _ => ?_)
      · rw [p3] at z
        by_cases e : m = 5
        · subst e
          rw [if_neg (by decide), if_pos (show ((5 : Nat) : Int) = 5 from rfl)]; exact f _
        · have : sxI m = m + 1 := by unfold sxI; rw [if_neg e]
          rw [this] at z
          exact absurd z (none (m + 1) (by omega) (by omega))
      · rw [if_pos rfl]; exact f _
theorem s_isRule {L : Nat} {b : Nat → Int} {σ : Mem} {pl bh : Nat} {Q : Int → Mem → Prop} (hT : tapC σ L b) (e3 : σ 8 3 = pl) (e4 : σ 8 4 = bh) (l1 : pl ≤ bh) (l2 : bh ≤ L) (h1 : (∃ n, n < 5 ∧ nmT σ b pl bh (σ 8 5) (n + 1)) → Q 1 σ) (h0 : (∀ i, 1 ≤ i → i < 6 → ¬ nmT σ b pl bh (σ 8 5) i) → Q 0 σ) : v_X6_isRule σ Q := by
  unfold v_X6_isRule
  refine s_isName hT e3 e4 l1 l2 (by decide) (fun z => by rw [if_neg (by decide)]; exact h1 ⟨0, by decide, z⟩) (fun n1 => ?_)
  rw [if_pos rfl]
  refine s_isName hT e3 e4 l1 l2 (by decide) (fun z => by rw [if_neg (by decide)]; exact h1 ⟨1, by decide, z⟩) (fun n2 => ?_)
  rw [if_pos rfl]
  refine s_isName hT e3 e4 l1 l2 (by decide) (fun z => by rw [if_neg (by decide)]; exact h1 ⟨2, by decide, z⟩) (fun n3 => ?_)
  rw [if_pos rfl]
  refine s_isName hT e3 e4 l1 l2 (by decide) (fun z => by rw [if_neg (by decide)]; exact h1 ⟨3, by decide, z⟩) (fun n4 => ?_)
  rw [if_pos rfl]
  refine s_isName hT e3 e4 l1 l2 (by decide) (fun z => by rw [if_neg (by decide)]; exact h1 ⟨4, by decide, z⟩) (fun n5 => ?_)
  rw [if_pos rfl]
  refine h0 (fun i i1 i2 => ?_)
  have i5 : i = 1 ∨ i = 2 ∨ i = 3 ∨ i = 4 ∨ i = 5 := by omega
  rcases i5 with rfl | rfl | rfl | rfl | rfl
  · exact n1
  · exact n2
  · exact n3
  · exact n4
  · exact n5
def bo68 (x1 : Int) (s : Mem) (Q : Int → Mem → Prop) : Prop := if x1 = 16 then v_X6_fail 4 s (fun _ s8 => Q 0 s8) else v_X6_readLine s (fun _ s4 => Q 0 s4)
def bodC (x1 : Int) (s : Mem) (Q : Int → Mem → Prop) : Prop := v_X6_isName 0 s (fun r6 σ7 => if r6 = 0 then v_X6_isRule σ7 (fun r10 σ11 => if r10 = 0 then v_X6_fail 2 σ11 (fun _ σ15 => Q 0 σ15) else bo68 x1 σ11 Q) else bo68 x1 σ7 Q)
theorem z33 {L : Nat} {b : Nat → Int} {x : Int} {τ : Mem} {Q : Int → Mem → Prop} (w : WMz L b τ) (h : Q 0 τ) : j_X12_readLine_33 Q x τ := by
  unfold j_X12_readLine_33; rw [if_neg w.nz]; exact z81 w h
theorem OP.body {L : Nat} {b : Nat → Int} {σ : Mem} {x1 : Int} (w : WCs L b σ) (h0 : σ 8 2 = 0) (hx : σ 9 4 = x1) : OP L b (bodC x1) v_X12_readLine σ (fun _ _ s => s 9 4 = σ 9 4 + 1) := by
  obtain ⟨pl, bh, e3, e4, l1, l2, _⟩ := w.2.2.2.2 h0
  have hL := w.1.2.1
  have n16 := w.2.1
  -- the seventeenth line
  have full : x1 = 16 → ∀ r : Int, r ≠ -4 → (∀ Q : Int → Mem → Prop, bo68 x1 σ Q → bodC x1 σ Q) → (∀ τ, RLs L b σ τ → ∀ Q : Int → Mem → Prop, (if (τ 122 18) = 16 then v_X12_fails 4 τ (fun _ σ9 => j_X12_readLine_33 Q r σ9) else j_X12_readLine_33 Q r τ) → v_X12_readLine τ Q) → OP L b (bodC x1) v_X12_readLine σ (fun _ _ s => s 9 4 = σ 9 4 + 1) := by
    intro h16 r _ hc hm
    refine OP.post (OP.test (c := 4) (T := False) (rc := 0) (rm := 0) w h0 (by decide) mRng0 (fun t => t.elim) (fun _ Q h => hc Q ?_) (fun t => t.elim) (fun _ τ R Q h => hm τ R Q ?_)) (fun x y s z => z.1.elim)
    · unfold bo68
      rw [if_pos h16]
      exact h (fun s => Q 0 s) (fun s _ _ g => g 0)
    · rw [if_pos (by rw [R.2.2.2.2.2.2.1]; omega)]
      exact h (fun s => j_X12_readLine_33 Q r s) (fun s z g => z33 z (g 0 mRng0))
  by_cases c0 : nmT σ b pl bh (σ 8 5) 0
  · have sc : ∀ Q : Int → Mem → Prop, bo68 x1 σ Q → bodC x1 σ Q := fun Q h => by
      unfold bodC
      refine s_isName w.1 e3 e4 l1 l2 (by decide) (fun _ => ?_) (fun z => absurd c0 z)
      rw [if_neg (by decide)]; exact h
    have sm : ∀ τ, RLs L b σ τ → ∀ Q : Int → Mem → Prop, (if (τ 122 18) = 16 then v_X12_fails 4 τ (fun _ σ9 => j_X12_readLine_33 Q 5 σ9) else j_X12_readLine_33 Q 5 τ) → v_X12_readLine τ Q := fun τ R Q h => by
      obtain ⟨p1, p2, p3, p4⟩ := R.pos h0 e3 e4
      unfold v_X12_readLine
      refine s_nameHere hL R.1 R.2.1 p1 p2 l1 l2 (fun m hm z => ?_) (fun z => absurd (by rw [p3]; exact c0) (z 5 (by decide)))
      rw [p3] at z
      have e := nm_one (by omega) (ends_len ⟨m, hm⟩).2.2.2 c0 z
      have m5 : m = 5 := by
        have e : 0 = sxI m := e
        unfold sxI at e
        by_cases y : m = 5
        · exact y
        · rw [if_neg y] at e; omega
      subst m5
      rw [if_neg (by decide)]; exact h
    by_cases h16 : x1 = 16
    · exact full h16 5 (by decide) sc sm
    · have B := OP.bind v_X6_step v_X12_next (fun _ s Q => v_X6_takeNumber 0 9999 s (fun r s2 => j_X6_readLine_24 Q r s2)) (fun _ s Q => v_X12_number 0 9999 s (fun r s2 => rulM r s2 Q)) (P2 := fun _ _ s => s 9 4 = σ 9 4 + 1) (OP.step w h0) (fun _ => FZc.bind (v2 := fun r s Q => j_X6_readLine_24 Q r s) zc_take (fun _ => zc_24)) (fun _ _ => FZm.bind (v2 := fun r s Q => rulM r s Q) zm_number (fun _ _ => zm_rul hL)) (fun _ _ σ1 W1 k1 g1 => OP.bind (v_X6_takeNumber 0 9999) (v_X12_number 0 9999) (fun r s Q => j_X6_readLine_24 Q r s) (fun r s Q => rulM r s Q) (OP.take W1 k1 (by decide) (by decide)) (fun _ => zc_24) (fun _ _ => zm_rul hL) (fun rc rm σ2 W2 k2 g2 => by
        obtain ⟨rfl, _, _, g3⟩ := g2
        exact OP.post (OP.rule W2 k2 (by rw [g3, g1]; omega)) (fun _ _ s z => by rw [z, g3, g1])))
      refine OP.mono2 B (fun Q h => sc Q ?_) (fun τ R Q h => sm τ R Q ?_)
      · unfold bo68 v_X6_readLine
        rw [if_neg h16]
        refine s_isName w.1 e3 e4 l1 l2 (by decide) (fun _ => ?_) (fun z => absurd c0 z)
        rw [if_neg (by decide), j24_eq]
        exact h
      · obtain ⟨p1, p2, p3, p4⟩ := R.pos h0 e3 e4
        rw [if_neg (by rw [R.2.2.2.2.2.2.1]; omega)]
        unfold j_X12_readLine_33
        rw [if_pos p4, if_pos rfl]
        exact h
  · by_cases ex : ∃ n, n < 5 ∧ nmT σ b pl bh (σ 8 5) (n + 1)
    · obtain ⟨n, h5, hT⟩ := ex
      have sx : sxI n = n + 1 := by unfold sxI; rw [if_neg (by omega)]
      have sc : ∀ Q : Int → Mem → Prop, bo68 x1 σ Q → bodC x1 σ Q := fun Q h => by
        unfold bodC
        refine s_isName w.1 e3 e4 l1 l2 (by decide) (fun z => absurd z c0) (fun _ => ?_)
        rw [if_pos rfl]
        refine s_isRule w.1 e3 e4 l1 l2 (fun _ => ?_) (fun z => absurd hT (z _ (by omega) (by omega)))
        rw [if_neg (by decide)]; exact h
      have sm : ∀ τ, RLs L b σ τ → ∀ Q : Int → Mem → Prop, (if (τ 122 18) = 16 then v_X12_fails 4 τ (fun _ σ9 => j_X12_readLine_33 Q (n : Int) σ9) else j_X12_readLine_33 Q (n : Int) τ) → v_X12_readLine τ Q := fun τ R Q h => by
        obtain ⟨p1, p2, p3, p4⟩ := R.pos h0 e3 e4
        unfold v_X12_readLine
        refine s_nameHere hL R.1 R.2.1 p1 p2 l1 l2 (fun m hm z => ?_) (fun z => absurd (by rw [p3, sx]; exact hT) (z n (by omega)))
        rw [p3] at z
        have hs : sxI m < 6 := (ends_len ⟨m, hm⟩).2.2.2
        have e : m = n := sx_inv h5 (nm_one (by omega) hs hT z) hm
        subst e
        rw [if_neg (by omega)]; exact h
      by_cases h16 : x1 = 16
      · exact full h16 n (by omega) sc sm
      · refine OP.mono2 (OP.prod (fr := 0) w h0 (by omega) e3 e4 l1 l2 h5 hT) (fun Q h => sc Q ?_) (fun τ R Q h => sm τ R Q ?_)
        · unfold bo68 v_X6_readLine
          rw [if_neg h16]
          refine s_isName w.1 e3 e4 l1 l2 (by decide) (fun z => absurd z c0) (fun _ => ?_)
          rw [if_pos rfl, j24_eq]
          exact h
        · obtain ⟨p1, p2, p3, p4⟩ := R.pos h0 e3 e4
          rw [if_neg (by rw [R.2.2.2.2.2.2.1]; omega)]
          unfold j_X12_readLine_33
          rw [if_pos p4, if_neg (by omega)]
          exact h
    · have none : ∀ i, 1 ≤ i → i < 6 → ¬ nmT σ b pl bh (σ 8 5) i := fun i i1 i2 z => ex ⟨i - 1, by omega, by rw [show i - 1 + 1 = i by omega]; exact z⟩
      refine OP.post (OP.test (c := 2) (T := False) (rc := 0) (rm := 0) w h0 (by decide) mRng0 (fun t => t.elim) (fun _ Q h => ?_) (fun t => t.elim) (fun _ τ R Q h => ?_)) (fun x y s z => z.1.elim)
      · unfold bodC
        refine s_isName w.1 e3 e4 l1 l2 (by decide) (fun z => absurd z c0) (fun _ => ?_)
        rw [if_pos rfl]
        refine s_isRule w.1 e3 e4 l1 l2 (fun z => absurd z ex) (fun _ => ?_)
        rw [if_pos rfl]
        exact h (fun s => Q 0 s) (fun s _ _ g => g 0)
      · obtain ⟨p1, p2, p3, p4⟩ := R.pos h0 e3 e4
        unfold v_X12_readLine
        refine s_nameHere hL R.1 R.2.1 p1 p2 l1 l2 (fun m hm z => ?_) (fun _ => ?_)
        · rw [p3] at z
          by_cases e : m = 5
          · subst e; exact absurd z c0
          · have : sxI m = m + 1 := by unfold sxI; rw [if_neg e]
            rw [this] at z
            exact absurd z (none (m + 1) (by omega) (by omega))
        · rw [if_pos rfl]
          exact h (fun s => j_X12_readLine_33 Q (-4) s) (fun s z g => z33 z (g 0 mRng0))
