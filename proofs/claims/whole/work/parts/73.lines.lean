/-! PURE FACTS, 42: the lines -/
theorem zc_ret {L : Nat} {b : Nat → Int} {r : Int} : FZc L b (fun s Q => Q r s) := fun _ _ _ _ h => h r
theorem zm_ret {L : Nat} {b : Nat → Int} {r : Int} (hr : mRng r) : FZm L b (fun s Q => Q r s) := fun _ _ _ h => h r hr
theorem OP.mono2 {L : Nat} {b : Nat → Int} {σ : Mem} {P : Int → Int → Mem → Prop} {c1 m1 c2 m2 : Mem → (Int → Mem → Prop) → Prop} (h : OP L b c1 m1 σ P) (hc : ∀ Q, c1 σ Q → c2 σ Q) (hm : ∀ τ, RLs L b σ τ → ∀ Q, m1 τ Q → m2 τ Q) : OP L b c2 m2 σ P := by
  obtain ⟨rc, rm, σ1, W1, F1, p1, C1, M1⟩ := h
  refine ⟨rc, rm, σ1, W1, F1, p1, fun Q q => hc _ (C1 Q q), fun τ R => ?_⟩
  obtain ⟨τ1, R1, G1, N1⟩ := M1 τ R
  exact ⟨τ1, R1, G1, fun Q q => hm τ R _ (N1 Q q)⟩
def stopD (key fr one two : Int) (s : Mem) (Q : Int → Mem → Prop) : Prop := v_X6_takeStop key fr one two s (fun _ s4 => Q 0 s4)
theorem zc_stopC {L : Nat} {b : Nat → Int} {p q x y : Int} : FZc L b (stopD p q x y) := FZc.bind (v2 := fun _ s Q => Q 0 s) zc_stop (fun _ => zc_ret)
theorem OP.stopE {L : Nat} {b : Nat → Int} {σ : Mem} {key what of fr one two : Int} (w : WCs L b σ) (h0 : σ 8 2 = 0) (hn : σ 9 4 < 16) (hk : key = keyF what of) (hw : whOK what of) (hl : lineV what one two) : OP L b (stopD key fr one two) (stopM what fr of one two) σ (fun _ _ s => s 9 4 = σ 9 4 + 1) := by
  obtain ⟨rc, rm, σ1, W1, F1, p1, C1, M1⟩ := OP.stop (fr := fr) w h0 hn hk hw hl
  refine ⟨0, rm, σ1, W1, F1, p1, fun Q q => C1 _ (fun _ _ => q 0 (fun _ => rfl)), M1⟩
def tl1C (key fr lo hi : Int) (s : Mem) (Q : Int → Mem → Prop) : Prop := v_X6_needNew key fr s (fun _ s1 => v_X6_step s1 (fun _ s2 => v_X6_takeNumber lo hi s2 (fun r s3 => stopD key fr r 0 s3 Q)))
def tl1M (what of fr lo hi : Int) (s : Mem) (Q : Int → Mem → Prop) : Prop := v_X12_once what of fr s (fun _ s1 => v_X12_next s1 (fun _ s2 => v_X12_number lo hi s2 (fun r s3 => stopM what fr of r 0 s3 Q)))
def tl2C (key fr : Int) (s : Mem) (Q : Int → Mem → Prop) : Prop := v_X6_needNew key fr s (fun _ s1 => v_X6_step s1 (fun _ s2 => v_X6_takeNumber 1 999 s2 (fun r s3 => v_X6_takeNumber (wr (r + 1)) 999 s3 (fun r2 s4 => stopD key fr r r2 s4 Q))))
def tl2M (of fr : Int) (s : Mem) (Q : Int → Mem → Prop) : Prop := v_X12_once 0 of fr s (fun _ s1 => v_X12_next s1 (fun _ s2 => v_X12_number 1 999 s2 (fun r s3 => inR (r + 1) ∧ v_X12_number (r + 1) 999 s3 (fun r2 s4 => stopM 0 fr of r r2 s4 Q))))
theorem zc_tl1 {L : Nat} {b : Nat → Int} {key fr lo hi : Int} : FZc L b (tl1C key fr lo hi) :=
  FZc.bind (v2 := fun _ s1 Q => v_X6_step s1 (fun _ s2 => v_X6_takeNumber lo hi s2 (fun r s3 => stopD key fr r 0 s3 Q))) zc_new (fun _ => FZc.bind (v2 := fun _ s2 Q => v_X6_takeNumber lo hi s2 (fun r s3 => stopD key fr r 0 s3 Q)) zc_step (fun _ => FZc.bind (v2 := fun r s3 Q => stopD key fr r 0 s3 Q) zc_take (fun _ => zc_stopC)))
theorem zm_tl1 {L : Nat} {b : Nat → Int} {what of fr lo hi : Int} : FZm L b (tl1M what of fr lo hi) :=
  FZm.bind (v2 := fun _ s1 Q => v_X12_next s1 (fun _ s2 => v_X12_number lo hi s2 (fun r s3 => stopM what fr of r 0 s3 Q))) zm_once (fun _ _ => FZm.bind (v2 := fun _ s2 Q => v_X12_number lo hi s2 (fun r s3 => stopM what fr of r 0 s3 Q)) zm_next (fun _ _ => FZm.bind (v2 := fun r s3 Q => stopM what fr of r 0 s3 Q) zm_number (fun _ _ => zm_stop)))
theorem OP.tl1 {L : Nat} {b : Nat → Int} {σ : Mem} {key what of fr lo hi : Int} (w : WCs L b σ) (h0 : σ 8 2 = 0) (hn : σ 9 4 < 16) (hk : key = keyF what of) (hw : whOK what of) (hl : ∀ r, lo ≤ r → r ≤ hi → lineV what r 0) (hlo : -100 ≤ lo) (hhi : hi ≤ 20000) : OP L b (tl1C key fr lo hi) (tl1M what of fr lo hi) σ (fun _ _ s => s 9 4 = σ 9 4 + 1) := by
  refine OP.bind (v_X6_needNew key fr) (v_X12_once what of fr) (fun _ s1 Q => v_X6_step s1 (fun _ s2 => v_X6_takeNumber lo hi s2 (fun r s3 => stopD key fr r 0 s3 Q))) (fun _ s1 Q => v_X12_next s1 (fun _ s2 => v_X12_number lo hi s2 (fun r s3 => stopM what fr of r 0 s3 Q))) (OP.new w h0 hk hw) (fun _ => FZc.bind (v2 := fun _ s2 Q => v_X6_takeNumber lo hi s2 (fun r s3 => stopD key fr r 0 s3 Q)) zc_step (fun _ => FZc.bind (v2 := fun r s3 Q => stopD key fr r 0 s3 Q) zc_take (fun _ => zc_stopC))) (fun _ _ => FZm.bind (v2 := fun _ s2 Q => v_X12_number lo hi s2 (fun r s3 => stopM what fr of r 0 s3 Q)) zm_next (fun _ _ => FZm.bind (v2 := fun r s3 Q => stopM what fr of r 0 s3 Q) zm_number (fun _ _ => zm_stop))) (fun _ _ σ1 W1 l1 e1 => ?_)
  subst e1
  refine OP.bind v_X6_step v_X12_next (fun _ s2 Q => v_X6_takeNumber lo hi s2 (fun r s3 => stopD key fr r 0 s3 Q)) (fun _ s2 Q => v_X12_number lo hi s2 (fun r s3 => stopM what fr of r 0 s3 Q)) (OP.step W1 l1) (fun _ => FZc.bind (v2 := fun r s3 Q => stopD key fr r 0 s3 Q) zc_take (fun _ => zc_stopC)) (fun _ _ => FZm.bind (v2 := fun r s3 Q => stopM what fr of r 0 s3 Q) zm_number (fun _ _ => zm_stop)) (fun _ _ σ2 W2 l2 e2 => ?_)
  refine OP.bind (v_X6_takeNumber lo hi) (v_X12_number lo hi) (fun r s3 Q => stopD key fr r 0 s3 Q) (fun r s3 Q => stopM what fr of r 0 s3 Q) (OP.take W2 l2 hlo hhi) (fun _ => zc_stopC) (fun _ _ => zm_stop) (fun rc rm σ3 W3 l3 e3 => ?_)
  obtain ⟨rfl, g1, g2, g3⟩ := e3
  exact OP.post (OP.stopE W3 l3 (by rw [g3, e2]; exact hn) hk hw (hl _ g1 g2)) (fun _ _ s z => by rw [z, g3, e2])
theorem OP.tl2 {L : Nat} {b : Nat → Int} {σ : Mem} {key of fr : Int} (w : WCs L b σ) (h0 : σ 8 2 = 0) (hn : σ 9 4 < 16) (hk : key = keyF 0 of) (hw : whOK 0 of) : OP L b (tl2C key fr) (tl2M of fr) σ (fun _ _ s => s 9 4 = σ 9 4 + 1) := by
  have z4c : ∀ r : Int, FZc L b (fun s3 Q => v_X6_takeNumber (wr (r + 1)) 999 s3 (fun r2 s4 => stopD key fr r r2 s4 Q)) := fun r => FZc.bind (v2 := fun r2 s4 Q => stopD key fr r r2 s4 Q) zc_take (fun _ => zc_stopC)
  have z4m : ∀ r : Int, mRng r → FZm L b (fun s3 Q => inR (r + 1) ∧ v_X12_number (r + 1) 999 s3 (fun r2 s4 => stopM 0 fr of r r2 s4 Q)) := fun r hr τ wz Q h => ⟨⟨by have := hr.1; omega, by have := hr.2; omega⟩, FZm.bind (v2 := fun r2 s4 Q => stopM 0 fr of r r2 s4 Q) zm_number (fun _ _ => zm_stop) τ wz Q h⟩
  have z3c : FZc L b (fun s2 Q => v_X6_takeNumber 1 999 s2 (fun r s3 => v_X6_takeNumber (wr (r + 1)) 999 s3 (fun r2 s4 => stopD key fr r r2 s4 Q))) := FZc.bind (v2 := fun r s3 Q => v_X6_takeNumber (wr (r + 1)) 999 s3 (fun r2 s4 => stopD key fr r r2 s4 Q)) zc_take z4c
  have z3m : FZm L b (fun s2 Q => v_X12_number 1 999 s2 (fun r s3 => inR (r + 1) ∧ v_X12_number (r + 1) 999 s3 (fun r2 s4 => stopM 0 fr of r r2 s4 Q))) := FZm.bind (v2 := fun r s3 Q => inR (r + 1) ∧ v_X12_number (r + 1) 999 s3 (fun r2 s4 => stopM 0 fr of r r2 s4 Q)) zm_number z4m
  have z2c : FZc L b (fun s1 Q => v_X6_step s1 (fun _ s2 => v_X6_takeNumber 1 999 s2 (fun r s3 => v_X6_takeNumber (wr (r + 1)) 999 s3 (fun r2 s4 => stopD key fr r r2 s4 Q)))) := FZc.bind (v2 := fun _ s2 Q => v_X6_takeNumber 1 999 s2 (fun r s3 => v_X6_takeNumber (wr (r + 1)) 999 s3 (fun r2 s4 => stopD key fr r r2 s4 Q))) zc_step (fun _ => z3c)
  have z2m : FZm L b (fun s1 Q => v_X12_next s1 (fun _ s2 => v_X12_number 1 999 s2 (fun r s3 => inR (r + 1) ∧ v_X12_number (r + 1) 999 s3 (fun r2 s4 => stopM 0 fr of r r2 s4 Q)))) := FZm.bind (v2 := fun _ s2 Q => v_X12_number 1 999 s2 (fun r s3 => inR (r + 1) ∧ v_X12_number (r + 1) 999 s3 (fun r2 s4 => stopM 0 fr of r r2 s4 Q))) zm_next (fun _ _ => z3m)
  refine OP.bind (v_X6_needNew key fr) (v_X12_once 0 of fr) (fun _ s1 Q => v_X6_step s1 (fun _ s2 => v_X6_takeNumber 1 999 s2 (fun r s3 => v_X6_takeNumber (wr (r + 1)) 999 s3 (fun r2 s4 => stopD key fr r r2 s4 Q)))) (fun _ s1 Q => v_X12_next s1 (fun _ s2 => v_X12_number 1 999 s2 (fun r s3 => inR (r + 1) ∧ v_X12_number (r + 1) 999 s3 (fun r2 s4 => stopM 0 fr of r r2 s4 Q)))) (OP.new w h0 hk hw) (fun _ => z2c) (fun _ _ => z2m) (fun _ _ σ1 W1 l1 e1 => ?_)
  subst e1
  refine OP.bind v_X6_step v_X12_next (fun _ s2 Q => v_X6_takeNumber 1 999 s2 (fun r s3 => v_X6_takeNumber (wr (r + 1)) 999 s3 (fun r2 s4 => stopD key fr r r2 s4 Q))) (fun _ s2 Q => v_X12_number 1 999 s2 (fun r s3 => inR (r + 1) ∧ v_X12_number (r + 1) 999 s3 (fun r2 s4 => stopM 0 fr of r r2 s4 Q))) (OP.step W1 l1) (fun _ => z3c) (fun _ _ => z3m) (fun _ _ σ2 W2 l2 e2 => ?_)
  refine OP.bind (v_X6_takeNumber 1 999) (v_X12_number 1 999) (fun r s3 Q => v_X6_takeNumber (wr (r + 1)) 999 s3 (fun r2 s4 => stopD key fr r r2 s4 Q)) (fun r s3 Q => inR (r + 1) ∧ v_X12_number (r + 1) 999 s3 (fun r2 s4 => stopM 0 fr of r r2 s4 Q)) (OP.take W2 l2 (by decide) (by decide)) z4c z4m (fun rc rm σ3 W3 l3 e3 => ?_)
  obtain ⟨rfl, g1, g2, g3⟩ := e3
  have wv : wr (rc + 1) = rc + 1 := ofInt_i32 ⟨by omega, by omega⟩
  rw [wv]
  refine OP.mono2 (OP.bind (v_X6_takeNumber (rc + 1) 999) (v_X12_number (rc + 1) 999) (fun r2 s4 Q => stopD key fr rc r2 s4 Q) (fun r2 s4 Q => stopM 0 fr of rc r2 s4 Q) (P2 := fun _ _ s => s 9 4 = σ1 9 4 + 1) (OP.take W3 l3 (by omega) (by decide)) (fun _ => zc_stopC) (fun _ _ => zm_stop) (fun rc2 rm2 σ4 W4 l4 e4 => ?_)) (fun Q h => h) (fun τ _ Q h => ⟨⟨by omega, by omega⟩, h⟩)
  obtain ⟨rfl, f1, f2, f3⟩ := e4
  refine OP.post (OP.stopE W4 l4 (by rw [f3, g3, e2]; exact hn) hk hw ?_) (fun _ _ s z => by rw [z, f3, g3, e2])
  unfold lineV
  refine ⟨fun _ => ⟨g1, g2, by omega, f2⟩, fun z => absurd z (by decide), fun z => absurd z (by decide), fun z => absurd z (by decide), fun z => absurd z (by decide)⟩
