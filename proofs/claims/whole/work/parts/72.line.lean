/-! PURE FACTS, 41: letters, names -/
def chk2 (base x3 s0 : Int) (σ : Mem) (Q : Int → Mem → Prop) : Prop := if s0 = 0 then v_X6_fail 2 σ (fun _ σ4 => inR (base + x3) ∧ Q (base + x3) σ4) else (inR (base + x3) ∧ Q (base + x3) σ)
def chkC (base : Int) (s : Mem) (Q : Int → Mem → Prop) : Prop := v_X9_signAt (s 8 3) s (fun r3 σ4 => if (σ4 8 5) = 1 then (inR ((σ4 8 4) - (σ4 8 3)) ∧ (if ((σ4 8 4) - (σ4 8 3)) = 1 then (inR (r3 - 97) ∧ (v_X11_isMeasure (r3 - 97) σ4 (fun r13 σ14 => chk2 base (r3 - 97) (if r13 = 0 then 0 else 1) σ14 Q))) else (inR (r3 - 97) ∧ chk2 base (r3 - 97) 0 σ4 Q))) else (inR (r3 - 97) ∧ chk2 base (r3 - 97) 0 σ4 Q))
def chkM69 (s : Mem) (Q : Int → Mem → Prop) : Prop := if (s 122 4) = 0 then v_X12_byteAt (s 122 7) s (fun r4 σ5 => inR (r4 - 97) ∧ Q (r4 - 97) σ5) else Q 0 s
def chkM64 (s : Mem) (Q : Int → Mem → Prop) : Prop := v_X12_fails 2 s (fun _ σ3 => chkM69 σ3 Q)
def chkM (s : Mem) (Q : Int → Mem → Prop) : Prop := if (s 122 4) = 0 then (if (s 122 8) = 1 then (inR ((s 122 6) - (s 122 7)) ∧ (if ((s 122 6) - (s 122 7)) = 1 then v_X12_byteAt (s 122 7) s (fun r10 σ11 => v_X12_in r10 97 100 σ11 (fun r13 σ14 => if r13 = 0 then chkM64 σ14 Q else chkM69 σ14 Q)) else chkM64 s Q)) else chkM64 s Q) else chkM69 s Q
theorem zm_chk69 {L : Nat} {b : Nat → Int} : FZm L b chkM69 := fun τ w Q h => by
  unfold chkM69; rw [if_neg w.nz]; exact h 0 mRng0
theorem zm_chk {L : Nat} {b : Nat → Int} : FZm L b chkM := fun τ w Q h => by
  unfold chkM; rw [if_neg w.nz]; exact zm_chk69 τ w Q h
theorem zc_chk2 {L : Nat} {b : Nat → Int} {base x s0 : Int} (hb : inR (base + x)) : FZc L b (chk2 base x s0) := fun σ w z Q h => by
  unfold chk2
  split
  · exact zc_fail σ w z _ (fun _ => ⟨hb, h _⟩)
  · exact ⟨hb, h _⟩
theorem sgn_rng {L : Nat} {b : Nat → Int} {σ : Mem} {q : Nat} (hT : tapC σ L b) : -1 ≤ (if q < L then b q else -1) ∧ (if q < L then b q else -1) ≤ 255 := by
  by_cases c : q < L
  · rw [if_pos c]; have := hT.2.2 q c; omega
  · rw [if_neg c]; omega
theorem OP.letter {L : Nat} {b : Nat → Int} {σ : Mem} {base : Int} (w : WCs L b σ) (h0 : σ 8 2 = 0) (hb : 0 ≤ base ∧ base ≤ 14) : OP L b (chkC base) chkM σ (fun x y s => x = base + y ∧ 0 ≤ y ∧ y < 4 ∧ s = σ) := by
  obtain ⟨pl, bh, e3, e4, l1, l2, kk⟩ := w.2.2.2.2 h0
  have tl := w.1.2.1
  have sr := sgn_rng (q := pl) w.1
  by_cases T : σ 8 5 = 1 ∧ bh - pl = 1 ∧ 97 ≤ b pl ∧ b pl ≤ 100
  · refine OP.post (OP.test (c := 2) (T := True) (rc := base + (b pl - 97)) (rm := b pl - 97) w h0 (by decide) ⟨by omega, by omega⟩ (fun _ Q h => ?_) (fun t => absurd trivial t) (fun _ τ R Q h => ?_) (fun t => absurd trivial t)) (fun x y s z => ⟨by rw [z.2.1, z.2.2.1], by rw [z.2.2.1]; omega, by rw [z.2.2.1]; omega, z.2.2.2⟩)
    · unfold chkC
      refine s_signAt w.1 e3 ?_
      rw [if_pos (show pl < L by omega), if_pos T.1, e3, e4, if_pos (show (bh : Int) - pl = 1 by omega)]
      refine ⟨⟨by omega, by omega⟩, ⟨by omega, by omega⟩, ?_⟩
      rw [s_isMeasure_t (by omega)]
      unfold chk2
      rw [if_neg (show ¬ (1 : Int) = 0 by decide), if_neg (by decide)]
      exact ⟨⟨by omega, by omega⟩, h⟩
    · obtain ⟨r1, r2, r3, r4, r5, r6, r7⟩ := R
      have e := r5 h0
      have e7 : τ 122 7 = pl := by rw [e.1]; exact e3
      unfold chkM chkM69
      rw [r3, if_pos h0, e.2.2.1, if_pos T.1, e7, e.2.1, e4, if_pos (show (bh : Int) - pl = 1 by omega)]
      refine ⟨⟨by omega, by omega⟩, s_byteAt tl r1 rfl ?_⟩
      rw [if_pos (show pl < L by omega), s_in_t ⟨T.2.2.1, T.2.2.2⟩, if_neg (by decide), r3, if_pos h0, e7]
      refine s_byteAt tl r1 rfl ?_
      rw [if_pos (show pl < L by omega)]
      exact ⟨⟨by omega, by omega⟩, h⟩
  · refine OP.post (OP.test (c := 2) (T := False) (rc := 0) (rm := 0) w h0 (by decide) mRng0 (fun t => t.elim) (fun _ Q h => ?_) (fun t => t.elim) (fun _ τ R Q h => ?_)) (fun x y s z => z.1.elim)
    · unfold chkC
      refine s_signAt w.1 e3 ?_
      have vb : pl < L → (if pl < L then b pl else -1) = b pl := fun z => if_pos z
      generalize (if pl < L then b pl else -1) = v at sr vb ⊢
      have f : inR (v - 97) ∧ chk2 base (v - 97) 0 σ Q := by
        refine ⟨⟨by omega, by omega⟩, ?_⟩
        unfold chk2
        rw [if_pos rfl]
        exact h (fun s => inR (base + (v - 97)) ∧ Q (base + (v - 97)) s) (fun s _ _ g => ⟨⟨by omega, by omega⟩, g _⟩)
      by_cases c1 : σ 8 5 = 1
      · have lt : pl < bh := by
          rcases kk with z | ⟨_, z⟩ | ⟨z, _⟩ | z
          · omega
          · exact z
          · omega
          · omega
        rw [if_pos c1, e3, e4]
        refine ⟨⟨by omega, by omega⟩, ?_⟩
        by_cases c2 : (bh : Int) - pl = 1
        · rw [if_pos c2]
          refine ⟨f.1, ?_⟩
          by_cases c3 : 0 ≤ v - 97 ∧ v - 97 ≤ 3
          · exact absurd ⟨c1, by omega, by have := vb (by omega); omega⟩ T
          · rw [s_isMeasure_f c3, if_pos rfl]; exact f.2
        · rw [if_neg c2]; exact f
      · rw [if_neg c1]; exact f
    · obtain ⟨r1, r2, r3, r4, r5, r6, r7⟩ := R
      have e := r5 h0
      have e7 : τ 122 7 = pl := by rw [e.1]; exact e3
      have f : chkM64 τ Q := h (fun s => chkM69 s Q) (fun s z g => zm_chk69 s z Q g)
      unfold chkM
      rw [r3, if_pos h0, e.2.2.1, e7, e.2.1, e4]
      by_cases c1 : σ 8 5 = 1
      · have lt : pl < bh := by
          rcases kk with z | ⟨_, z⟩ | ⟨z, _⟩ | z
          · omega
          · exact z
          · omega
          · omega
        rw [if_pos c1]
        refine ⟨⟨by omega, by omega⟩, ?_⟩
        by_cases c2 : (bh : Int) - pl = 1
        · rw [if_pos c2]
          refine s_byteAt tl r1 rfl ?_
          rw [if_pos (show pl < L by omega), s_in_f (fun z => T ⟨c1, by omega, z⟩), if_pos rfl]; exact f
        · rw [if_neg c2]; exact f
      · rw [if_neg c1]; exact f
/-- the hand of a spread -/
def sprC (s : Mem) (Q : Int → Mem → Prop) : Prop := v_X6_needNumber 0 5 s (fun r s' => Q (wr (8 + r)) s')
def sprM2 (s : Mem) (Q : Int → Mem → Prop) : Prop := if (s 122 4) = 0 then (if 5 < (s 122 9) then v_X12_fails 3 s (fun _ σ6 => Q (σ6 122 9) σ6) else Q (s 122 9) s) else Q (s 122 9) s
def sprM (s : Mem) (Q : Int → Mem → Prop) : Prop := if (s 122 4) = 0 then (if (s 122 8) = 2 then sprM2 s Q else v_X12_fails 2 s (fun _ σ12 => sprM2 σ12 Q)) else sprM2 s Q
theorem zm_spr2 {L : Nat} {b : Nat → Int} : FZm L b sprM2 := fun τ w Q h => by
  unfold sprM2; rw [if_neg w.nz]; exact h _ w.val
theorem zm_spr {L : Nat} {b : Nat → Int} : FZm L b sprM := fun τ w Q h => by
  unfold sprM; rw [if_neg w.nz]; exact zm_spr2 τ w Q h
theorem zc_spr {L : Nat} {b : Nat → Int} : FZc L b sprC := FZc.bind (v2 := fun r s Q => Q (wr (8 + r)) s) zc_need (fun r σ _ _ Q h => h _)
theorem zc_chk {L : Nat} {b : Nat → Int} {base : Int} (hb : 0 ≤ base ∧ base ≤ 14) : FZc L b (chkC base) := fun σ w z Q h => by
  obtain ⟨q, hq⟩ : ∃ q : Nat, σ 8 3 = q := ⟨(σ 8 3).toNat, by have := w.2.2.2.1.1.1; omega⟩
  have sr := sgn_rng (q := q) w.1
  unfold chkC
  refine s_signAt w.1 hq ?_
  generalize (if q < L then b q else -1) = v at sr ⊢
  have bd := w.2.2.2.1
  have k2 : ∀ s0 : Int, chk2 base (v - 97) s0 σ Q := fun s0 => zc_chk2 ⟨by omega, by omega⟩ σ w z Q h
  have f : inR (v - 97) := ⟨by omega, by omega⟩
  by_cases c1 : σ 8 5 = 1
  · rw [if_pos c1]
    refine ⟨⟨by omega, by omega⟩, ?_⟩
    by_cases c2 : σ 8 4 - σ 8 3 = 1
    · rw [if_pos c2]
      refine ⟨f, ?_⟩
      by_cases c3 : 0 ≤ v - 97 ∧ v - 97 ≤ 3
      · rw [s_isMeasure_t c3]; exact k2 _
      · rw [s_isMeasure_f c3]; exact k2 _
    · rw [if_neg c2]; exact ⟨f, k2 _⟩
  · rw [if_neg c1]; exact ⟨f, k2 _⟩
theorem OP.hand {L : Nat} {b : Nat → Int} {σ : Mem} (w : WCs L b σ) (h0 : σ 8 2 = 0) : OP L b sprC sprM σ (fun x y s => x = 8 + y ∧ 0 ≤ y ∧ y ≤ 5 ∧ s = σ) := by
  obtain ⟨pl, bh, _, _, _, _, kk⟩ := w.2.2.2.2 h0
  by_cases k2 : σ 8 5 = 2
  · have v : 0 ≤ σ 8 6 ∧ σ 8 6 ≤ 9999 := by
      rcases kk with z | ⟨z, _⟩ | ⟨_, z⟩ | z
      · omega
      · omega
      · exact z
      · omega
    have wv : wr (8 + σ 8 6) = 8 + σ 8 6 := ofInt_i32 ⟨by omega, by omega⟩
    refine OP.post (OP.test (c := 3) (T := 0 ≤ σ 8 6 ∧ σ 8 6 ≤ 5) (rc := 8 + σ 8 6) (rm := σ 8 6) w h0 (by decide) ⟨by omega, by omega⟩ (fun t Q h => ?_) (fun t Q h => ?_) (fun t τ R Q h => ?_) (fun t τ R Q h => ?_)) (fun x y s z => ⟨by rw [z.2.1, z.2.2.1], by rw [z.2.2.1]; exact z.1.1, by rw [z.2.2.1]; exact z.1.2, z.2.2.2⟩)
    · unfold sprC v_X6_needNumber
      rw [if_pos k2, if_neg (by omega), if_neg (by omega)]
      show Q (wr (8 + σ 8 6)) σ
      rw [wv]; exact h
    · unfold sprC v_X6_needNumber j_X6_needNumber_32
      rw [if_pos k2, if_neg (by omega), if_pos (by omega)]
      exact h (fun s => Q (wr (8 + s 8 6)) s) (fun s _ _ g => g _)
    · have e := R.2.2.2.2.1 h0
      unfold sprM sprM2
      rw [R.2.2.1, if_pos h0, e.2.2.1, if_pos k2, if_pos h0, e.2.2.2 k2, if_neg (by omega)]; exact h
    · have e := R.2.2.2.2.1 h0
      unfold sprM sprM2
      rw [R.2.2.1, if_pos h0, e.2.2.1, if_pos k2, if_pos h0, e.2.2.2 k2, if_pos (by omega)]
      exact h (fun s => Q (s 122 9) s) (fun s z g => g _ z.val)
  · refine OP.post (OP.test (c := 2) (T := False) (rc := 0) (rm := 0) w h0 (by decide) mRng0 (fun t => t.elim) (fun t Q h => ?_) (fun t => t.elim) (fun t τ R Q h => ?_)) (fun x y s z => z.1.elim)
    · unfold sprC v_X6_needNumber
      rw [if_neg k2]
      exact h (fun s => Q (wr (8 + s 8 6)) s) (fun s _ _ g => g _)
    · have e := R.2.2.2.2.1 h0
      unfold sprM
      rw [R.2.2.1, if_pos h0, e.2.2.1, if_neg k2]
      exact h (fun s => sprM2 s Q) (fun s z g => zm_spr2 s z Q g)
/-- a name at hand -/
def nmT (σ : Mem) (b : Nat → Int) (pl bh : Nat) (kd : Int) (i : Nat) : Prop := kd = 1 ∧ ((bh : Int) - pl = strL i) ∧ ∀ k : Nat, (k : Int) < strL i → b (pl + k) = strC i k
theorem str_pos : ∀ i : Fin 6, 0 < strL i.val ∧ strL i.val ≤ 6 := by decide
theorem str_one : ∀ i j : Fin 6, strC i.val ((0 : Nat) : Int) = strC j.val ((0 : Nat) : Int) → i = j := by decide
theorem nm_one {σ : Mem} {b : Nat → Int} {pl bh : Nat} {kd : Int} {i j : Nat} (hi : i < 6) (hj : j < 6) (h1 : nmT σ b pl bh kd i) (h2 : nmT σ b pl bh kd j) : i = j := by
  have a := h1.2.2 0 (str_pos ⟨i, hi⟩).1
  have c := h2.2.2 0 (str_pos ⟨j, hj⟩).1
  have := str_one ⟨i, hi⟩ ⟨j, hj⟩ (by rw [← a, ← c])
  exact Fin.mk.inj this
theorem s_isName {L : Nat} {b : Nat → Int} {σ : Mem} {pl bh i : Nat} {Q : Int → Mem → Prop} (hT : tapC σ L b) (e3 : σ 8 3 = pl) (e4 : σ 8 4 = bh) (l1 : pl ≤ bh) (l2 : bh ≤ L) (hi : i < 6) (h1 : nmT σ b pl bh (σ 8 5) i → Q 1 σ) (h0 : ¬ nmT σ b pl bh (σ 8 5) i → Q 0 σ) : v_X6_isName i σ Q := by
  have tl := hT.2.1
  have sp : 0 < strL i ∧ strL i ≤ 6 := str_pos ⟨i, hi⟩
  unfold v_X6_isName
  by_cases c1 : σ 8 5 = 1
  rotate_left
  · rw [if_neg c1]; exact h0 (fun z => c1 z.1)
  rw [if_pos c1, e3, e4]
  refine ⟨⟨by omega, by omega⟩, ?_⟩
  by_cases c2 : (bh : Int) - pl = strL i
  rotate_left
  · rw [if_neg c2]; exact h0 (fun z => c2 z.2.1)
  rw [if_pos c2]
  refine lp0 (l_X6_isName_28 i Q) (fun k s => s = σ ∧ ∀ m : Nat, m < k → b (pl + m) = strC i m) (strL i).toNat σ ⟨rfl, fun m hm => absurd hm (by omega)⟩ ?_ ?_
  · rintro n s ⟨rfl, hh⟩
    rw [l_X6_isName_28, if_neg (by omega)]
    exact h1 ⟨c1, c2, fun k hk => hh k (by omega)⟩
  · rintro n k s hk ⟨rfl, hh⟩ ih
    rw [l_X6_isName_28, if_pos (by omega), e3]
    refine ⟨⟨by omega, by omega⟩, s_signAt (q := pl + k) hT (by omega) ?_⟩
    rw [if_pos (show pl + k < L by omega)]
    refine ⟨by omega, by omega, ?_⟩
    by_cases c3 : b (pl + k) = strC i k
    · rw [if_pos c3]
      refine ⟨⟨by omega, by omega⟩, ih _ ⟨rfl, fun m hm => ?_⟩⟩
      by_cases e : m = k
      · subst e; exact c3
      · exact hh m (by omega)
    · rw [if_neg c3]; exact h0 (fun z => c3 (z.2.2 k (by omega)))
def sxI (n : Nat) : Nat := if n = 5 then 0 else n + 1
theorem ends_len : ∀ n : Fin 6, endsL.getD (n.val + 1) 0 - endsL.getD n.val 0 = strL (sxI n.val) ∧ 0 ≤ endsL.getD n.val 0 ∧ endsL.getD (n.val + 1) 0 ≤ 27 ∧ sxI n.val < 6 := by decide
theorem ends_chr : ∀ n : Fin 6, ∀ k : Fin 6, (k.val : Int) < strL (sxI n.val) → lettersL.getD (endsL.getD n.val 0 + (k.val : Int)).toNat 0 = strC (sxI n.val) (k.val : Int) := by decide
theorem s_nameHere {L : Nat} {b : Nat → Int} {τ : Mem} {pl bh : Nat} {Q : Int → Mem → Prop} (hL : L ≤ 240) (hT : tapM τ L b) (hC : I_cst τ) (e3 : τ 122 7 = pl) (e4 : τ 122 6 = bh) (l1 : pl ≤ bh) (l2 : bh ≤ L) (h1 : ∀ n : Nat, n < 6 → nmT τ b pl bh (τ 122 8) (sxI n) → Q n τ) (h0 : (∀ n : Nat, n < 6 → ¬ nmT τ b pl bh (τ 122 8) (sxI n)) → Q (-4) τ) : v_X12_nameHere τ Q := by
  unfold v_X12_nameHere
  refine lp0 (l_X12_nameHere_2 Q) (fun n s => s = τ ∧ ∀ m : Nat, m < n → ¬ nmT τ b pl bh (τ 122 8) (sxI m)) 6 τ ⟨rfl, fun m hm => absurd hm (by omega)⟩ ?_ ?_
  · rintro n s ⟨rfl, hh⟩
    rw [l_X12_nameHere_2, if_neg (by decide)]
    exact h0 hh
  · rintro q n s hn ⟨rfl, hh⟩ ih
    have en : endsL.getD (n + 1) 0 - endsL.getD n 0 = strL (sxI n) ∧ 0 ≤ endsL.getD n 0 ∧ endsL.getD (n + 1) 0 ≤ 27 ∧ sxI n < 6 := ends_len ⟨n, hn⟩
    have sp : 0 < strL (sxI n) ∧ strL (sxI n) ≤ 6 := str_pos ⟨sxI n, en.2.2.2⟩
    have g1 := hC.1 (n + 1) (by omega)
    have g0 := hC.1 n (by omega)
    have next : ¬ nmT s b pl bh (s 122 8) (sxI n) → inR ((n : Int) + 1) ∧ l_X12_nameHere_2 Q q (n + 1) s := by
      intro z
      refine ⟨⟨by omega, by omega⟩, ih _ ⟨rfl, fun m hm => ?_⟩⟩
      by_cases e : m = n
      · subst e; exact z
      · exact hh m (by omega)
    have zero : ¬ nmT s b pl bh (s 122 8) (sxI n) → ∃ n_, l_X12_nameHere_51 n (fun x1_ σ_ => l_X12_nameHere_2 Q q x1_ σ_) Q n_ 0 0 s := by
      intro z
      refine ⟨1, ?_⟩
      rw [l_X12_nameHere_51, if_pos rfl]
      unfold j_X12_nameHere_106
      rw [if_pos rfl]; exact next z
    rw [l_X12_nameHere_2, if_pos (by omega)]
    by_cases c1 : s 122 8 = 1
    rotate_left
    · rw [if_neg c1]; exact zero (fun z => c1 z.1)
    rw [if_pos c1, show ((n : Int) + 1).toNat = n + 1 by omega, Int.toNat_natCast, g1, g0, e3, e4, en.1]
    refine ⟨by omega, by omega, by omega, by omega, ⟨by omega, by omega⟩, ⟨by omega, by omega⟩, ?_⟩
    by_cases c2 : (bh : Int) - pl = strL (sxI n)
    rotate_left
    · rw [if_neg c2]; exact zero (fun z => c2 z.2.1)
    rw [if_pos c2]
    refine lp1a (l_X12_nameHere_51 n (fun x1_ σ_ => l_X12_nameHere_2 Q q x1_ σ_) Q) (fun k x w => w = s ∧ ((x = 1 ∧ ∀ m : Nat, m < k → b (pl + m) = strC (sxI n) m) ∨ (x = 0 ∧ ¬ nmT s b pl bh (s 122 8) (sxI n)))) (strL (sxI n)).toNat 1 s ⟨rfl, Or.inl ⟨rfl, fun m hm => absurd hm (by omega)⟩⟩ ?_ ?_
    · rintro q2 x w ⟨rfl, hx⟩
      rw [l_X12_nameHere_51]
      unfold j_X12_nameHere_106
      rcases hx with ⟨rfl, hx⟩ | ⟨rfl, hx⟩
      · rw [if_neg (by decide), e3, e4, if_neg (by omega), if_neg (by decide)]
        exact ⟨⟨by omega, by omega⟩, h1 n hn ⟨c1, c2, fun k hk => hx k (by omega)⟩⟩
      · rw [if_pos rfl, if_pos rfl]; exact next hx
    · rintro q2 k x w hk ⟨rfl, hx⟩ jh
      rw [l_X12_nameHere_51]
      unfold j_X12_nameHere_106
      rcases hx with ⟨rfl, hx⟩ | ⟨rfl, hx⟩
      · have ch : lettersL.getD (endsL.getD n 0 + (k : Int)).toNat 0 = strC (sxI n) (k : Int) := ends_chr ⟨n, hn⟩ ⟨k, by omega⟩ (by show (k : Int) < strL (sxI n); omega)
        have en1 := en.1
        rw [if_neg (by decide), e3, e4, if_pos (by omega), Int.toNat_natCast]
        refine ⟨⟨by omega, by omega⟩, ⟨by omega, by omega⟩, s_byteAt (q := pl + k) hL hT (by omega) ?_⟩
        rw [g0, if_pos (show pl + k < L by omega), hC.2 _ (by omega), ch]
        refine ⟨by omega, by omega, by omega, by omega, ?_⟩
        by_cases c3 : b (pl + k) = strC (sxI n) (k : Int)
        · rw [if_pos c3]
          refine ⟨⟨by omega, by omega⟩, jh _ _ ⟨rfl, Or.inl ⟨rfl, fun m hm => ?_⟩⟩⟩
          by_cases e : m = k
          · subst e; exact c3
          · exact hx m (by omega)
        · rw [if_neg c3]
          exact ⟨⟨by omega, by omega⟩, jh _ _ ⟨rfl, Or.inr ⟨rfl, fun z => c3 (z.2.2 k (by omega))⟩⟩⟩
      · rw [if_pos rfl, if_pos rfl]; exact next hx
