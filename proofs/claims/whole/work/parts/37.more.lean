/-! PURE FACTS, 8: known, tell, feed -/
def lastF (P : Nat → Prop) [DecidablePred P] (v : Nat → Int) (s : Int) : Nat → Int
  | 0 => s
  | n + 1 => if P n then v n else lastF P v s n
theorem lastF_no {P : Nat → Prop} [DecidablePred P] {v : Nat → Int} {s : Int} : ∀ {n : Nat}, (∀ k, k < n → ¬ P k) → lastF P v s n = s := by
  intro n
  induction n with
  | zero => intro _; rfl
  | succ n ih => intro h; show (if P n then v n else lastF P v s n) = s; rw [if_neg (h n (by omega))]; exact ih (fun k hk => h k (by omega))
def knownF (σ : Mem) (i m : Nat) (d s : Int) : Int := lastF (fun k => σ 19 k = i ∧ σ 20 k = m ∧ σ 22 k ≤ d) (σ 21) s (σ 16 9).toNat
theorem a_known {σ : Mem} {i m : Nat} {d : Int} {Q : Int → Mem → Prop} (hI : INV σ) (c : (i : Int) < σ 16 2) (hm : m < 4) (h : Q (if d < σ (23 + 3 * i) 3 then 0 else knownF σ i m d (σ (24 + 3 * i) m)) σ) : v_X0_knownOn i m d σ Q := by
  have n24 := hI.c.2.2.1
  have n40 := hI.a
  unfold v_X0_knownOn
  rw [Int.toNat_natCast, Int.toNat_natCast]
  refine ⟨by omega, by omega, ?_⟩
  by_cases q : d < σ (23 + 3 * i) 3
  · rw [if_pos q]; rw [if_pos q] at h; exact h
  · rw [if_neg q]; rw [if_neg q] at h
    refine ⟨by omega, by omega, ?_⟩
    refine lp1a (l_X0_knownOn_31 i m d Q) (fun k a s => a = lastF (fun k => σ 19 k = i ∧ σ 20 k = m ∧ σ 22 k ≤ d) (σ 21) (σ (24 + 3 * i) m) k ∧ s = σ) (σ 16 9).toNat _ σ ⟨rfl, rfl⟩ ?_ ?_
    · rintro n a b ⟨rfl, rfl⟩
      rw [l_X0_knownOn_31, if_neg (by have := n40.2.1; omega)]; exact h
    · rintro n k a b hk ⟨ha, hb⟩ ih
      subst hb
      have h9 := n40.2.1; have h10 := n40.2.2.1
      rw [l_X0_knownOn_31, if_pos (by omega), Int.toNat_natCast]
      refine ⟨by omega, by omega, ?_⟩
      have e : lastF (fun k => b 19 k = i ∧ b 20 k = m ∧ b 22 k ≤ d) (b 21) (b (24 + 3 * i) m) (k + 1) = if b 19 k = i ∧ b 20 k = m ∧ b 22 k ≤ d then b 21 k else a := by rw [ha]; rfl
      by_cases c1 : b 19 k = i
      · rw [if_pos c1]
        by_cases c2 : b 20 k = m
        · rw [if_pos c2]
          by_cases c3 : d < b 22 k
          · rw [if_pos c3]; exact ⟨⟨by omega, by omega⟩, ih _ _ ⟨by rw [e, if_neg (by omega)], rfl⟩⟩
          · rw [if_neg c3]; exact ⟨⟨by omega, by omega⟩, ih _ _ ⟨by rw [e, if_pos ⟨c1, c2, by omega⟩], rfl⟩⟩
        · rw [if_neg c2]; exact ⟨⟨by omega, by omega⟩, ih _ _ ⟨by rw [e, if_neg (fun z => c2 z.2.1)], rfl⟩⟩
      · rw [if_neg c1]; exact ⟨⟨by omega, by omega⟩, ih _ _ ⟨by rw [e, if_neg (fun z => c1 z.1)], rfl⟩⟩
theorem b_knownL {σ : Mem} {i m : Nat} {d s : Int} {Q : Int → Mem → Prop} (hI : INV σ) (c : (i : Int) < σ 16 2) (hm : m < 4) (h : Q (knownF σ i m d s) σ) : ∃ n, l_X12_known_63 i m d Q n s 0 σ := by
  have n24 := hI.c.2.2.1
  have n40 := hI.a
  refine lp1a (l_X12_known_63 i m d Q) (fun k a s' => a = lastF (fun k => σ 19 k = i ∧ σ 20 k = m ∧ σ 22 k ≤ d) (σ 21) s k ∧ s' = σ) (σ 16 9).toNat _ σ ⟨rfl, rfl⟩ ?_ ?_
  · rintro n a b ⟨rfl, rfl⟩
    rw [l_X12_known_63, if_neg (by have := n40.1; have := n40.2.1; omega)]; exact h
  · rintro n k a b hk ⟨ha, hb⟩ ih
    subst hb
    have h8 := n40.1; have h9 := n40.2.1; have h10 := n40.2.2.1
    obtain ⟨b1, b2, b3, b4, b5, b6, b7, b8⟩ := n40.2.2.2 k (by omega)
    rw [l_X12_known_63, if_pos (by omega), Int.toNat_natCast]
    refine ⟨by omega, by omega, ⟨by omega, by omega⟩, ?_⟩
    have e : lastF (fun k => b 19 k = i ∧ b 20 k = m ∧ b 22 k ≤ d) (b 21) s (k + 1) = if b 19 k = i ∧ b 20 k = m ∧ b 22 k ≤ d then b 21 k else a := by rw [ha]; rfl
    by_cases c1 : b 144 k = 4 * i + m
    · rw [if_pos c1]
      by_cases c3 : d < b 146 k
      · rw [if_pos c3]; exact ⟨⟨by omega, by omega⟩, ih _ _ ⟨by rw [e, if_neg (by omega)], rfl⟩⟩
      · rw [if_neg c3]; exact ⟨⟨by omega, by omega⟩, ih _ _ ⟨by rw [e, if_pos (by omega)]; exact b6, rfl⟩⟩
    · rw [if_neg c1]; exact ⟨⟨by omega, by omega⟩, ih _ _ ⟨by rw [e, if_neg (by omega)], rfl⟩⟩
theorem b_known {σ : Mem} {i m : Nat} {d : Int} {Q : Int → Mem → Prop} (hI : INV σ) (c : (i : Int) < σ 16 2) (hm : m < 4) (hd : 0 ≤ d ∧ d ≤ 9999) (h : Q (if d < σ (23 + 3 * i) 3 then 0 else knownF σ i m d (σ (24 + 3 * i) m)) σ) : v_X12_known i m d σ Q := by
  have n24 := hI.c.2.2.1
  have a := hI.c.2.2.2.2 i c
  unfold v_X12_known
  refine s_isCard_t hI.n24 (by rw [hI.eqn]; omega) ?_
  rw [if_neg (by decide), s_in_t (by omega), if_neg (by decide), s_in_t hd, if_neg (by decide), Int.toNat_natCast]
  refine ⟨by omega, by omega, ?_⟩
  rw [a.2.2.2.1.1]
  by_cases q : d < σ (23 + 3 * i) 3
  · rw [if_pos q]; rw [if_pos q] at h
    refine b_knownL hI c hm ?_
    have e : knownF σ i m d 0 = 0 := by
      have n40 := hI.a
      refine lastF_no (fun k hk z => ?_)
      obtain ⟨b1, b2, b3, b4, b5, b6, b7, b8⟩ := n40.2.2.2 k (by omega)
      rw [show (σ 19 k).toNat = i by omega] at b8
      omega
    rw [e]; exact h
  · rw [if_neg q]; rw [if_neg q] at h
    refine ⟨by omega, by omega, b_knownL hI c hm ?_⟩
    rw [show (4 * (i : Int) + m).toNat = 4 * i + m by omega, (a.2.2.2.2.2.2 m hm).1]; exact h
theorem f_known {σ : Mem} (hI : INV σ) (p m d : Int) : v_X11_known p m d σ (fun r1 σ1 => v_X12_known p m d σ1 (fun r2 σ2 => r1 = r2 ∧ INV σ2)) := by
  unfold v_X11_known
  by_cases c : 0 ≤ p ∧ p < σ 16 2
  · obtain ⟨i, rfl⟩ : ∃ i : Nat, p = i := ⟨p.toNat, by omega⟩
    have cm : v_X12_isCard i σ = v_X12_isCard i σ := rfl
    rw [s_has_t c, if_neg (by decide)]
    by_cases c2 : 0 ≤ m ∧ m ≤ 3
    · obtain ⟨k, rfl⟩ : ∃ k : Nat, m = k := ⟨m.toNat, by omega⟩
      rw [s_isMeasure_t c2, if_neg (by decide)]
      by_cases c3 : 0 ≤ d ∧ d ≤ 9999
      · rw [s_isDay_t c3, if_neg (by decide)]
        exact a_known hI c.2 (by omega) (b_known hI c.2 (by omega) c3 ⟨rfl, hI⟩)
      · rw [s_isDay_f c3, if_pos rfl]
        unfold v_X12_known
        refine s_isCard_t hI.n24 (by rw [hI.eqn]; omega) ?_
        rw [if_neg (by decide), s_in_t c2, if_neg (by decide), s_in_f c3, if_pos rfl]
        exact ⟨rfl, hI⟩
    · rw [s_isMeasure_f c2, if_pos rfl]
      unfold v_X12_known
      refine s_isCard_t hI.n24 (by rw [hI.eqn]; omega) ?_
      rw [if_neg (by decide), s_in_f c2, if_pos rfl]
      exact ⟨rfl, hI⟩
  · rw [s_has_f c, if_pos rfl]
    unfold v_X12_known
    refine s_isCard_f hI.n24 (by rw [hI.eqn]; exact c) ?_
    rw [if_pos rfl]
    exact ⟨rfl, hI⟩
/-- tell -/
theorem f_tell {σ : Mem} (hI : INV σ) (p a b c d : Int) : v_X11_tell p a b c d σ (fun r1 σ1 => v_X12_tell p a b c d σ1 (fun r2 σ2 => r1 = r2 ∧ INV σ2)) := by
  unfold v_X11_tell
  have no : ∀ P : Prop, P → P := fun _ h => h
  by_cases c0 : 0 ≤ p ∧ p ≤ 5
  · rw [s_isHand_t c0, if_neg (by decide)]
    by_cases c1 : 0 ≤ a ∧ a ≤ 999
    · rw [s_isTold_t c1, if_neg (by decide)]
      by_cases c2 : 0 ≤ b ∧ b ≤ 999
      · rw [s_isTold_t c2, if_neg (by decide)]
        by_cases c3 : 0 ≤ c ∧ c ≤ 999
        · rw [s_isTold_t c3, if_neg (by decide)]
          by_cases c4 : 0 ≤ d ∧ d ≤ 999
          · rw [s_isTold_t c4, if_neg (by decide)]
            refine s_drw_t ?_
            generalize hτ : mset (mset (mset (mset (mset (mset σ 95 0 1) 95 1 p) 96 0 a) 96 1 b) 96 2 c) 96 3 d = τ
            have t : ∀ j k, j ≠ 95 → j ≠ 96 → τ j k = σ j k := by
              intro j k q1 q2
              rw [← hτ, mset_ne q2, mset_ne q2, mset_ne q2, mset_ne q2, mset_ne q1, mset_ne q1]
            have m0 : τ 96 0 = a := by rw [← hτ, mset_nei (by decide), mset_nei (by decide), mset_nei (by decide), mset_eq]
            have m1 : τ 96 1 = b := by rw [← hτ, mset_nei (by decide), mset_nei (by decide), mset_eq]
            have m2 : τ 96 2 = c := by rw [← hτ, mset_nei (by decide), mset_eq]
            have m3 : τ 96 3 = d := by rw [← hτ, mset_eq]
            have l0 : τ 95 0 = 1 := by rw [← hτ, mset_ne (by decide), mset_ne (by decide), mset_ne (by decide), mset_ne (by decide), mset_nei (by decide), mset_eq]
            have l1 : τ 95 1 = p := by rw [← hτ, mset_ne (by decide), mset_ne (by decide), mset_ne (by decide), mset_ne (by decide), mset_eq]
            rw [m0, m1, m2]
            unfold v_X12_tell
            dsimp only
            rw [s_in_t c0, if_neg (by decide), s_mMeasure_t c1, if_neg (by decide), s_mMeasure_t c2, if_neg (by decide), s_mMeasure_t c3, if_neg (by decide), s_mMeasure_t c4, if_neg (by decide)]
            generalize hω : mset (mset (mset (mset (mset τ 122 39 p) 148 0 a) 148 1 b) 148 2 c) 148 3 d = ω
            have w : ∀ j k, j ≠ 122 → j ≠ 148 → ω j k = τ j k := by
              intro j k q1 q2
              rw [← hω, mset_ne q2, mset_ne q2, mset_ne q2, mset_ne q2, mset_ne q1]
            have w2 : ∀ k, k ≠ 39 → ω 122 k = τ 122 k := by
              intro k q
              rw [← hω, mset_ne (by decide), mset_ne (by decide), mset_ne (by decide), mset_ne (by decide), mset_nei q]
            have K : ∀ D : Nat → Nat → Bool, (∀ k, D 95 k = false) → (∀ k, D 96 k = false) → (∀ k, D 148 k = false) → D 122 39 = false → KEEP D σ ω := by
              intro D q1 q2 q3 q4 j k q
              have e1 : j ≠ 95 := fun e => by rw [e, q1] at q; cases q
              have e2 : j ≠ 96 := fun e => by rw [e, q2] at q; cases q
              have e3 : j ≠ 148 := fun e => by rw [e, q3] at q; cases q
              by_cases e4 : j = 122
              · subst e4
                have e5 : k ≠ 39 := fun e => by rw [e, q4] at q; cases q
                rw [w2 k e5, t _ _ (by decide) (by decide)]
              · rw [w j k e4 e3, t j k e1 e2]
            have e0 : τ 122 0 = ω 122 0 := (w2 0 (by decide)).symm
            have f15 : τ 15 = ω 15 := funext fun k => (w 15 k (by decide) (by decide)).symm
            obtain ⟨h1, h2, h3, h4, h5, h6, h7, h8, h9, h10, h11⟩ := id hI
            have g4 : I_rules ω := k_rules (K _ (fun _ => rfl) (fun _ => rfl) (fun _ => rfl) rfl) h4
            have g5 : I_now ω := k_now (K _ (fun _ => rfl) (fun _ => rfl) (fun _ => rfl) rfl) h5
            rw [f15]
            refine s_mthird (m := 0) g4 g5 rfl (by omega) e0 (s_mthird (m := 1) g4 g5 rfl (by omega) rfl (s_mthird (m := 2) g4 g5 rfl (by omega) rfl ?_))
            have g := drwF_rng (ω 15) a b c
            unfold drwF at g
            refine ⟨⟨by omega, by omega⟩, rfl, ?_⟩
            refine ⟨k_tape (K _ (fun _ => rfl) (fun _ => rfl) (fun _ => rfl) rfl) h1, k_cst (K _ (fun _ => rfl) (fun _ => rfl) (fun _ => rfl) rfl) h2, k_fault (K _ (fun _ => rfl) (fun _ => rfl) (fun _ => rfl) rfl) h3, g4, g5, ?_, ?_, k_bars (K _ (fun _ => rfl) (fun _ => rfl) (fun _ => rfl) rfl) h8, ?_, k_hold (K _ (fun _ => rfl) (fun _ => rfl) (fun _ => rfl) rfl) h10, k_sheet (K _ (fun _ => rfl) (fun _ => rfl) (fun _ => rfl) rfl) h11⟩
            · exact k_cards (K _ (fun _ => rfl) (fun _ => rfl) (fun _ => rfl) rfl) h6
            · exact k_anew (K _ (fun _ => rfl) (fun _ => rfl) (fun _ => rfl) rfl) h6.2.2.1 h7
            · right
              have s0 : ω 148 0 = a := by rw [← hω, mset_nei (by decide), mset_nei (by decide), mset_nei (by decide), mset_eq]
              have s1 : ω 148 1 = b := by rw [← hω, mset_nei (by decide), mset_nei (by decide), mset_eq]
              have s2 : ω 148 2 = c := by rw [← hω, mset_nei (by decide), mset_eq]
              have s3 : ω 148 3 = d := by rw [← hω, mset_eq]
              have sh : ω 122 39 = p := by rw [← hω, mset_ne (by decide), mset_ne (by decide), mset_ne (by decide), mset_ne (by decide), mset_eq]
              rw [w 95 0 (by decide) (by decide), w 95 1 (by decide) (by decide), sh, l0, l1]
              refine ⟨rfl, rfl, c0.1, c0.2, fun m hm => ?_⟩
              rw [w 96 m (by decide) (by decide)]
              have : m = 0 ∨ m = 1 ∨ m = 2 ∨ m = 3 := by omega
              rcases this with q | q | q | q <;> subst q
              · rw [s0, m0]; exact ⟨rfl, c1⟩
              · rw [s1, m1]; exact ⟨rfl, c2⟩
              · rw [s2, m2]; exact ⟨rfl, c3⟩
              · rw [s3, m3]; exact ⟨rfl, c4⟩
          · rw [s_isTold_f c4, if_pos rfl]
            unfold v_X12_tell
            dsimp only
            rw [s_in_t c0, if_neg (by decide), s_mMeasure_t c1, if_neg (by decide), s_mMeasure_t c2, if_neg (by decide), s_mMeasure_t c3, if_neg (by decide), s_mMeasure_f c4, if_pos rfl]
            exact ⟨rfl, hI⟩
        · rw [s_isTold_f c3, if_pos rfl]
          unfold v_X12_tell
          dsimp only
          rw [s_in_t c0, if_neg (by decide), s_mMeasure_t c1, if_neg (by decide), s_mMeasure_t c2, if_neg (by decide), s_mMeasure_f c3, if_pos rfl]
          exact ⟨rfl, hI⟩
      · rw [s_isTold_f c2, if_pos rfl]
        unfold v_X12_tell
        dsimp only
        rw [s_in_t c0, if_neg (by decide), s_mMeasure_t c1, if_neg (by decide), s_mMeasure_f c2, if_pos rfl]
        exact ⟨rfl, hI⟩
    · rw [s_isTold_f c1, if_pos rfl]
      unfold v_X12_tell
      dsimp only
      rw [s_in_t c0, if_neg (by decide), s_mMeasure_f c1, if_pos rfl]
      exact ⟨rfl, hI⟩
  · rw [s_isHand_f c0, if_pos rfl]
    unfold v_X12_tell
    dsimp only
    rw [s_in_f c0, if_pos rfl]
    exact ⟨rfl, hI⟩
/-- feed -/
theorem a_feed {σ : Mem} {p : Int} {Q : Int → Mem → Prop} (h0 : 0 ≤ σ 1 1) (h1 : ¬ 232 < σ 1 1) (h : ∀ τ : Mem, (∀ j k, j ≠ 2 → (j ≠ 1 ∨ k ≠ 1) → τ j k = σ j k) → τ 1 1 = σ 1 1 + 8 → (∀ k : Nat, (k : Int) < σ 1 1 → τ 2 k = σ 2 k) → (∀ x : Nat, x < 8 → τ 2 ((σ 1 1).toNat + x) = i2bI (l2iI (lshrI p (8 * (7 - x))))) → Q (σ 1 1 + 8) τ) : v_X11_feed p σ Q := by
  unfold v_X11_feed v_X9_add
  rw [if_neg h1]
  refine lp0 (l_X9_add_14 p _) (fun i s => (∀ j k, j ≠ 2 → s j k = σ j k) ∧ (∀ k : Nat, (k : Int) < σ 1 1 → s 2 k = σ 2 k) ∧ ∀ x : Nat, x < i → s 2 ((σ 1 1).toNat + x) = i2bI (l2iI (lshrI p (8 * (7 - x))))) 8 σ ⟨fun _ _ _ => rfl, fun _ _ => rfl, fun x hx => absurd hx (by omega)⟩ ?_ ?_
  · rintro n s ⟨q1, q2, q3⟩
    rw [l_X9_add_14, if_neg (by decide)]
    have e := q1 1 1 (by decide)
    refine ⟨by rw [e]; exact ⟨by omega, by omega⟩, ?_⟩
    rw [if_neg (by decide), mset_eq, e]
    refine h _ (fun j k a b => ?_) (by rw [mset_eq]) (fun k hk => by rw [mset_ne (by decide)]; exact q2 k hk) (fun x hx => by rw [mset_ne (by decide)]; exact q3 x hx)
    rcases b with b | b
    · rw [mset_ne b]; exact q1 j k a
    · rw [mset_nei b]; exact q1 j k a
  · rintro n i s hi ⟨q1, q2, q3⟩ ih
    rw [l_X9_add_14, if_pos (by omega), q1 1 1 (by decide)]
    refine ⟨by omega, by omega, ⟨by omega, by omega⟩, ih _ ⟨fun j k a => by rw [mset_ne a]; exact q1 j k a, fun k hk => ?_, fun x hx => ?_⟩⟩
    · rw [mset_nei (by omega)]; exact q2 k hk
    · by_cases e : x = i
      · subst e
        rw [show (σ 1 1 + (x : Int)).toNat = (σ 1 1).toNat + x by omega, mset_eq]
      · rw [mset_nei (by omega)]; exact q3 x (by omega)
theorem b_feed {σ : Mem} {p : Int} {Q : Int → Mem → Prop} (h0 : 0 ≤ σ 122 2) (h1 : ¬ 232 < σ 122 2) (h : ∀ τ : Mem, (∀ j k, j ≠ 123 → (j ≠ 122 ∨ k ≠ 2) → τ j k = σ j k) → τ 122 2 = σ 122 2 + 8 → (∀ k : Nat, (k : Int) < σ 122 2 → τ 123 k = σ 123 k) → (∀ x : Nat, x < 8 → τ 123 ((σ 122 2).toNat + x) = iand (l2iI (lshrI p (8 * (7 - x)))) 255) → Q (σ 122 2 + 8) τ) : v_X12_feed p σ Q := by
  unfold v_X12_feed
  refine ⟨⟨by omega, by omega⟩, ?_⟩
  rw [if_neg (by omega)]
  have go : ∃ n, (fun n (i : Int) s => l_X12_feed_19 p Q n (56 - 8 * i) s) n 0 σ := by
    refine lp0 (fun n (i : Int) s => l_X12_feed_19 p Q n (56 - 8 * i) s) (fun i s => (∀ j k, j ≠ 123 → (j ≠ 122 ∨ k ≠ 2) → s j k = σ j k) ∧ s 122 2 = σ 122 2 + i ∧ (∀ k : Nat, (k : Int) < σ 122 2 → s 123 k = σ 123 k) ∧ ∀ x : Nat, x < i → s 123 ((σ 122 2).toNat + x) = iand (l2iI (lshrI p (8 * (7 - x)))) 255) 8 σ ⟨fun _ _ _ _ => rfl, by omega, fun _ _ => rfl, fun x hx => absurd hx (by omega)⟩ ?_ ?_
    · rintro n s ⟨q1, q4, q2, q3⟩
      show l_X12_feed_19 p Q (n + 1) (56 - 8 * ((8 : Nat) : Int)) s
      rw [l_X12_feed_19, if_pos (by decide), q4]
      exact h s q1 q4 q2 q3
    · rintro n i s hi ⟨q1, q4, q2, q3⟩ ih
      show l_X12_feed_19 p Q (n + 1) (56 - 8 * (i : Int)) s
      rw [l_X12_feed_19, if_neg (by omega), q4]
      refine ⟨by omega, by omega, ⟨by omega, by omega⟩, ⟨by omega, by omega⟩, ?_⟩
      rw [show 56 - 8 * (i : Int) + -8 = 56 - 8 * ((i : Int) + 1) by omega]
      refine ih _ ⟨fun j k a b => ?_, ?_, fun k hk => ?_, fun x hx => ?_⟩
      · rcases b with b | b
        · rw [mset_ne b, mset_ne a]; exact q1 j k a (Or.inl b)
        · rw [mset_nei b, mset_ne a]; exact q1 j k a (Or.inr b)
      · rw [mset_eq]; omega
      · rw [mset_ne (by decide), mset_nei (by omega)]; exact q2 k hk
      · rw [mset_ne (by decide)]
        by_cases e : x = i
        · subst e
          rw [show (σ 122 2 + (x : Int)).toNat = (σ 122 2).toNat + x by omega, mset_eq]
          rw [show 56 - 8 * (x : Int) = 8 * (7 - x) by omega]
        · rw [mset_nei (by omega)]; exact q3 x (by omega)
  obtain ⟨n, hn⟩ := go
  exact ⟨n, hn⟩
theorem f_feed {σ : Mem} (hI : INV σ) (p : Int) : v_X11_feed p σ (fun r1 σ1 => v_X12_feed p σ1 (fun r2 σ2 => r1 = r2 ∧ INV σ2)) := by
  obtain ⟨h1, h2, h3, h4, h5, h6, h7, h8, h9, h10, h11⟩ := id hI
  obtain ⟨t1, t2, t3, t4⟩ := id h1
  by_cases c : 232 < σ 1 1
  · unfold v_X11_feed v_X9_add
    rw [if_pos c]
    dsimp only
    rw [if_pos rfl]
    unfold v_X12_feed
    rw [t1]
    refine ⟨⟨by omega, by omega⟩, ?_⟩
    rw [if_pos (by omega)]; exact ⟨rfl, hI⟩
  · refine a_feed t2 c (fun τ a1 a2 a3 a4 => ?_)
    have e : τ 122 2 = σ 1 1 := by rw [a1 122 2 (by decide) (Or.inl (by decide))]; exact t1
    refine b_feed (by rw [e]; exact t2) (by rw [e]; exact c) (fun ω b1 b2 b3 b4 => ?_)
    rw [e] at b2 b3 b4 ⊢
    refine ⟨rfl, ?_⟩
    have K : ∀ D : Nat → Nat → Bool, D 1 1 = false → (∀ k, D 2 k = false) → D 122 2 = false → (∀ k, D 123 k = false) → KEEP D σ ω := by
      intro D q1 q2 q3 q4 j k q
      have e1 : j ≠ 2 := fun e => by rw [e, q2] at q; cases q
      have e2 : j ≠ 123 := fun e => by rw [e, q4] at q; cases q
      have e3 : j ≠ 122 ∨ k ≠ 2 := by
        by_cases z : j = 122
        · refine Or.inr (fun z2 => ?_); rw [z, z2, q3] at q; cases q
        · exact Or.inl z
      have e4 : j ≠ 1 ∨ k ≠ 1 := by
        by_cases z : j = 1
        · refine Or.inr (fun z2 => ?_); rw [z, z2, q1] at q; cases q
        · exact Or.inl z
      rw [b1 j k e2 e3, a1 j k e1 e4]
    refine ⟨?_, k_cst (K _ rfl (fun _ => rfl) rfl (fun _ => rfl)) h2, k_fault (K _ rfl (fun _ => rfl) rfl (fun _ => rfl)) h3, k_rules (K _ rfl (fun _ => rfl) rfl (fun _ => rfl)) h4, k_now (K _ rfl (fun _ => rfl) rfl (fun _ => rfl)) h5, k_cards (K _ rfl (fun _ => rfl) rfl (fun _ => rfl)) h6, k_anew (K _ rfl (fun _ => rfl) rfl (fun _ => rfl)) h6.2.2.1 h7, k_bars (K _ rfl (fun _ => rfl) rfl (fun _ => rfl)) h8, k_tell (K _ rfl (fun _ => rfl) rfl (fun _ => rfl)) h9, k_hold (K _ rfl (fun _ => rfl) rfl (fun _ => rfl)) h10, k_sheet (K _ rfl (fun _ => rfl) rfl (fun _ => rfl)) h11⟩
    have e1 : ω 1 1 = σ 1 1 + 8 := by rw [b1 1 1 (by decide) (Or.inl (by decide))]; exact a2
    have e2 : ∀ k, ω 2 k = τ 2 k := fun k => b1 2 k (by decide) (Or.inl (by decide))
    unfold I_tape
    rw [b2, e1]
    refine ⟨rfl, by omega, by omega, fun k hk => ?_⟩
    rw [e2 k]
    by_cases z : (k : Int) < σ 1 1
    · rw [a3 k z, b3 k z, a1 123 k (by decide) (Or.inl (by decide))]; exact t4 k z
    · obtain ⟨x, rfl⟩ : ∃ x : Nat, k = (σ 1 1).toNat + x := ⟨k - (σ 1 1).toNat, by omega⟩
      rw [b4 x (by omega), a4 x (by omega), i2b_and]
      exact ⟨rfl, iand255 _⟩
