/-! PURE FACTS, 43: the rules of the text -/
theorem OP.keyed {L : Nat} {b : Nat → Int} {σ : Mem} {P1 P2 : Int → Int → Mem → Prop} (kc km : Mem → (Int → Mem → Prop) → Prop) (tc tm : Int → Mem → (Int → Mem → Prop) → Prop) (w : WCs L b σ) (h0 : σ 8 2 = 0) (zk : FZc L b kc) (zl : FZm L b km) (zt : ∀ r, FZc L b (tc r)) (zu : ∀ r, mRng r → FZm L b (tm r)) (hk : ∀ s : Mem, WCs L b s → s 8 2 = 0 → s 9 4 = σ 9 4 → OP L b kc km s P1) (ht : ∀ (rc rm : Int) (s s' : Mem), WCs L b s' → s' 8 2 = 0 → s 9 4 = σ 9 4 → P1 rc rm s' → OP L b (tc rc) (tm rm) s' P2) (hs : ∀ (s : Mem) (rc rm : Int) (s' : Mem), s 9 4 = σ 9 4 → P1 rc rm s' → True) : OP L b (fun s Q => v_X6_step s (fun _ s1 => kc s1 (fun r s2 => tc r s2 Q))) (fun s Q => v_X12_next s (fun _ s1 => km s1 (fun r s2 => tm r s2 Q))) σ P2 :=
  OP.bind v_X6_step v_X12_next (fun _ s1 Q => kc s1 (fun r s2 => tc r s2 Q)) (fun _ s1 Q => km s1 (fun r s2 => tm r s2 Q)) (OP.step w h0) (fun _ => FZc.bind zk zt) (fun _ _ => FZm.bind zl zu) (fun _ _ σ1 W1 l1 e1 => OP.bind kc km tc tm (hk σ1 W1 l1 e1) zt zu (fun rc rm σ2 W2 l2 p2 => ht rc rm σ1 σ2 W2 l2 e1 p2))
theorem zm_tl2 {L : Nat} {b : Nat → Int} {of fr : Int} : FZm L b (tl2M of fr) := by
  have z4m : ∀ r : Int, mRng r → FZm L b (fun s3 Q => inR (r + 1) ∧ v_X12_number (r + 1) 999 s3 (fun r2 s4 => stopM 0 fr of r r2 s4 Q)) := fun r hr τ wz Q h => ⟨⟨by have := hr.1; omega, by have := hr.2; omega⟩, FZm.bind (v2 := fun r2 s4 Q => stopM 0 fr of r r2 s4 Q) zm_number (fun _ _ => zm_stop) τ wz Q h⟩
  exact FZm.bind (v2 := fun _ s1 Q => v_X12_next s1 (fun _ s2 => v_X12_number 1 999 s2 (fun r s3 => inR (r + 1) ∧ v_X12_number (r + 1) 999 s3 (fun r2 s4 => stopM 0 fr of r r2 s4 Q)))) zm_once (fun _ _ => FZm.bind (v2 := fun _ s2 Q => v_X12_number 1 999 s2 (fun r s3 => inR (r + 1) ∧ v_X12_number (r + 1) 999 s3 (fun r2 s4 => stopM 0 fr of r r2 s4 Q))) zm_next (fun _ _ => FZm.bind (v2 := fun r s3 Q => inR (r + 1) ∧ v_X12_number (r + 1) 999 s3 (fun r2 s4 => stopM 0 fr of r r2 s4 Q)) zm_number z4m))
theorem zc_tl2 {L : Nat} {b : Nat → Int} {key fr : Int} : FZc L b (tl2C key fr) :=
  FZc.bind (v2 := fun _ s1 Q => v_X6_step s1 (fun _ s2 => v_X6_takeNumber 1 999 s2 (fun r s3 => v_X6_takeNumber (wr (r + 1)) 999 s3 (fun r2 s4 => stopD key fr r r2 s4 Q)))) zc_new (fun _ => FZc.bind (v2 := fun _ s2 Q => v_X6_takeNumber 1 999 s2 (fun r s3 => v_X6_takeNumber (wr (r + 1)) 999 s3 (fun r2 s4 => stopD key fr r r2 s4 Q))) zc_step (fun _ => FZc.bind (v2 := fun r s3 Q => v_X6_takeNumber (wr (r + 1)) 999 s3 (fun r2 s4 => stopD key fr r r2 s4 Q)) zc_take (fun r => FZc.bind (v2 := fun r2 s4 Q => stopD key fr r r2 s4 Q) zc_take (fun _ => zc_stopC))))
def edgC (fr : Int) (s : Mem) (Q : Int → Mem → Prop) : Prop := v_X6_step s (fun _ s1 => chkC 0 s1 (fun r s2 => tl2C r fr s2 Q))
def edgM (fr : Int) (s : Mem) (Q : Int → Mem → Prop) : Prop := v_X12_next s (fun _ s1 => chkM s1 (fun r s2 => tl2M r fr s2 Q))
def groC (fr : Int) (s : Mem) (Q : Int → Mem → Prop) : Prop := v_X6_step s (fun _ s1 => chkC 14 s1 (fun r s2 => tl1C r fr 0 50 s2 Q))
def groM (fr : Int) (s : Mem) (Q : Int → Mem → Prop) : Prop := v_X12_next s (fun _ s1 => chkM s1 (fun r s2 => tl1M 2 r fr 0 50 s2 Q))
def spdC (fr : Int) (s : Mem) (Q : Int → Mem → Prop) : Prop := v_X6_step s (fun _ s1 => sprC s1 (fun r s2 => tl1C r fr 0 20 s2 Q))
def spdM (fr : Int) (s : Mem) (Q : Int → Mem → Prop) : Prop := v_X12_next s (fun _ s1 => sprM s1 (fun r s2 => tl1M 1 r fr 0 20 s2 Q))
theorem OP.edg {L : Nat} {b : Nat → Int} {σ : Mem} {fr : Int} (w : WCs L b σ) (h0 : σ 8 2 = 0) (hn : σ 9 4 < 16) : OP L b (edgC fr) (edgM fr) σ (fun _ _ s => s 9 4 = σ 9 4 + 1) := by
  refine OP.keyed (P1 := fun x y s => x = 0 + y ∧ 0 ≤ y ∧ y < 4 ∧ s 9 4 = σ 9 4) (chkC 0) chkM (fun r s Q => tl2C r fr s Q) (fun r s Q => tl2M r fr s Q) w h0 (zc_chk ⟨by decide, by decide⟩) zm_chk (fun _ => zc_tl2) (fun _ _ => zm_tl2) (fun s W l e => ?_) (fun rc rm s s' W l e p => ?_) (fun _ _ _ _ _ _ => trivial)
  · exact OP.post (OP.letter W l ⟨by decide, by decide⟩) (fun x y s' z => ⟨z.1, z.2.1, z.2.2.1, by rw [z.2.2.2]; exact e⟩)
  · obtain ⟨p1, p2, p3, p4⟩ := p
    refine OP.post (OP.tl2 W l (by rw [p4]; exact hn) ?_ ?_) (fun _ _ t z => by rw [z, p4])
    · rw [p1]; unfold keyF; rw [if_pos rfl]; omega
    · exact Or.inl ⟨rfl, p2, p3⟩
theorem lineV1 {what r : Int} (h0 : what ≠ 0) (h1 : what = 1 → 0 ≤ r ∧ r ≤ 20) (h2 : what = 2 → 0 ≤ r ∧ r ≤ 50) (h3 : what = 3 → 1 ≤ r ∧ r ≤ 9999) (h4 : what = 4 → 0 ≤ r ∧ r ≤ 20) : lineV what r 0 := ⟨fun z => absurd z h0, h1, h2, h3, h4⟩
theorem OP.gro {L : Nat} {b : Nat → Int} {σ : Mem} {fr : Int} (w : WCs L b σ) (h0 : σ 8 2 = 0) (hn : σ 9 4 < 16) : OP L b (groC fr) (groM fr) σ (fun _ _ s => s 9 4 = σ 9 4 + 1) := by
  refine OP.keyed (P1 := fun x y s => x = 14 + y ∧ 0 ≤ y ∧ y < 4 ∧ s 9 4 = σ 9 4) (chkC 14) chkM (fun r s Q => tl1C r fr 0 50 s Q) (fun r s Q => tl1M 2 r fr 0 50 s Q) w h0 (zc_chk ⟨by decide, by decide⟩) zm_chk (fun _ => zc_tl1) (fun _ _ => zm_tl1) (fun s W l e => ?_) (fun rc rm s s' W l e p => ?_) (fun _ _ _ _ _ _ => trivial)
  · exact OP.post (OP.letter W l ⟨by decide, by decide⟩) (fun x y s' z => ⟨z.1, z.2.1, z.2.2.1, by rw [z.2.2.2]; exact e⟩)
  · obtain ⟨p1, p2, p3, p4⟩ := p
    refine OP.post (OP.tl1 W l (by rw [p4]; exact hn) ?_ ?_ (fun r r1 r2 => lineV1 (by decide) (fun z => absurd z (by decide)) (fun _ => ⟨r1, r2⟩) (fun z => absurd z (by decide)) (fun z => absurd z (by decide))) (by decide) (by decide)) (fun _ _ t z => by rw [z, p4])
    · rw [p1]; unfold keyF; rw [if_neg (by decide), if_neg (by decide), if_pos rfl]
    · exact Or.inr (Or.inr (Or.inl ⟨rfl, p2, p3⟩))
theorem OP.spd {L : Nat} {b : Nat → Int} {σ : Mem} {fr : Int} (w : WCs L b σ) (h0 : σ 8 2 = 0) (hn : σ 9 4 < 16) : OP L b (spdC fr) (spdM fr) σ (fun _ _ s => s 9 4 = σ 9 4 + 1) := by
  refine OP.keyed (P1 := fun x y s => x = 8 + y ∧ 0 ≤ y ∧ y ≤ 5 ∧ s 9 4 = σ 9 4) sprC sprM (fun r s Q => tl1C r fr 0 20 s Q) (fun r s Q => tl1M 1 r fr 0 20 s Q) w h0 zc_spr zm_spr (fun _ => zc_tl1) (fun _ _ => zm_tl1) (fun s W l e => ?_) (fun rc rm s s' W l e p => ?_) (fun _ _ _ _ _ _ => trivial)
  · exact OP.post (OP.hand W l) (fun x y s' z => ⟨z.1, z.2.1, z.2.2.1, by rw [z.2.2.2]; exact e⟩)
  · obtain ⟨p1, p2, p3, p4⟩ := p
    refine OP.post (OP.tl1 W l (by rw [p4]; exact hn) ?_ ?_ (fun r r1 r2 => lineV1 (by decide) (fun _ => ⟨r1, r2⟩) (fun z => absurd z (by decide)) (fun z => absurd z (by decide)) (fun z => absurd z (by decide))) (by decide) (by decide)) (fun _ _ t z => by rw [z, p4])
    · rw [p1]; unfold keyF; rw [if_neg (by decide), if_pos rfl]
    · exact Or.inr (Or.inl ⟨rfl, p2, by omega⟩)
theorem OP.kee {L : Nat} {b : Nat → Int} {σ : Mem} {fr : Int} (w : WCs L b σ) (h0 : σ 8 2 = 0) (hn : σ 9 4 < 16) : OP L b (tl1C 18 fr 1 9999) (tl1M 3 0 fr 1 9999) σ (fun _ _ s => s 9 4 = σ 9 4 + 1) :=
  OP.tl1 w h0 hn (by unfold keyF; rw [if_neg (by decide), if_neg (by decide), if_neg (by decide), if_pos rfl]) (Or.inr (Or.inr (Or.inr (Or.inl ⟨rfl, rfl⟩)))) (fun r r1 r2 => lineV1 (by decide) (fun z => absurd z (by decide)) (fun z => absurd z (by decide)) (fun _ => ⟨r1, r2⟩) (fun z => absurd z (by decide))) (by decide) (by decide)
theorem OP.oth {L : Nat} {b : Nat → Int} {σ : Mem} {fr : Int} (w : WCs L b σ) (h0 : σ 8 2 = 0) (hn : σ 9 4 < 16) : OP L b (tl1C 19 fr 0 20) (tl1M 4 0 fr 0 20) σ (fun _ _ s => s 9 4 = σ 9 4 + 1) :=
  OP.tl1 w h0 hn (by unfold keyF; rw [if_neg (by decide), if_neg (by decide), if_neg (by decide), if_neg (by decide)]) (Or.inr (Or.inr (Or.inr (Or.inr ⟨rfl, rfl⟩)))) (fun r r1 r2 => lineV1 (by decide) (fun z => absurd z (by decide)) (fun z => absurd z (by decide)) (fun z => absurd z (by decide)) (fun _ => ⟨r1, r2⟩)) (by decide) (by decide)
/-- the class chooses by the name -/
theorem sel24 {L : Nat} {b : Nat → Int} {σ : Mem} {pl bh : Nat} {fr : Int} {Q : Int → Mem → Prop} (hT : tapC σ L b) (h0 : σ 8 2 = 0) (e3 : σ 8 3 = pl) (e4 : σ 8 4 = bh) (l1 : pl ≤ bh) (l2 : bh ≤ L) (q1 : nmT σ b pl bh (σ 8 5) 1 → edgC fr σ Q) (q2 : nmT σ b pl bh (σ 8 5) 2 → spdC fr σ Q) (q3 : nmT σ b pl bh (σ 8 5) 3 → groC fr σ Q) (q4 : nmT σ b pl bh (σ 8 5) 4 → tl1C 18 fr 1 9999 σ Q) (q5 : nmT σ b pl bh (σ 8 5) 5 → tl1C 19 fr 0 20 σ Q) (q6 : (∀ i, 1 ≤ i → i < 6 → ¬ nmT σ b pl bh (σ 8 5) i) → v_X6_fail 2 σ (fun _ s => Q 0 s)) : j_X6_readLine_24 Q fr σ := by
  unfold j_X6_readLine_24
  rw [if_pos h0]
  refine s_isName hT e3 e4 l1 l2 (by decide) (fun z => ?_) (fun n1 => ?_)
  · rw [if_neg (by decide)]
    have := q1 z
    unfold edgC chkC chk2 tl2C stopD at this
    unfold v_X6_takeLetter j_X6_takeLetter_48 j_X6_takeLetter_60
    exact this
  rw [if_pos rfl]
  refine s_isName hT e3 e4 l1 l2 (by decide) (fun z => ?_) (fun n2 => ?_)
  · rw [if_neg (by decide)]
    have := q2 z
    unfold spdC sprC tl1C stopD at this
    exact this
  rw [if_pos rfl]
  refine s_isName hT e3 e4 l1 l2 (by decide) (fun z => ?_) (fun n3 => ?_)
  · rw [if_neg (by decide)]
    have := q3 z
    unfold groC chkC chk2 tl1C stopD at this
    unfold v_X6_takeLetter j_X6_takeLetter_48 j_X6_takeLetter_60
    exact this
  rw [if_pos rfl]
  refine s_isName hT e3 e4 l1 l2 (by decide) (fun z => ?_) (fun n4 => ?_)
  · rw [if_neg (by decide)]
    have := q4 z
    unfold tl1C stopD at this
    exact this
  rw [if_pos rfl]
  refine s_isName hT e3 e4 l1 l2 (by decide) (fun z => ?_) (fun n5 => ?_)
  · rw [if_neg (by decide)]
    have := q5 z
    unfold tl1C stopD at this
    exact this
  rw [if_pos rfl]
  refine q6 (fun i i1 i2 => ?_)
  have i5 : i = 1 ∨ i = 2 ∨ i = 3 ∨ i = 4 ∨ i = 5 := by omega
  rcases i5 with rfl | rfl | rfl | rfl | rfl
  · exact n1
  · exact n2
  · exact n3
  · exact n4
  · exact n5
/-- the model does, by its number of the name -/
theorem sel81 {τ : Mem} {fr : Int} {Q : Int → Mem → Prop} (h0 : τ 122 4 = 0) : (edgM fr τ Q → j_X12_readLine_81 Q 0 fr τ) ∧ (spdM fr τ Q → j_X12_readLine_81 Q 1 fr τ) ∧ (groM fr τ Q → j_X12_readLine_81 Q 2 fr τ) ∧ (tl1M 3 0 fr 1 9999 τ Q → j_X12_readLine_81 Q 3 fr τ) ∧ (tl1M 4 0 fr 0 20 τ Q → j_X12_readLine_81 Q 4 fr τ) := by
  have np : ¬ 0 < τ 122 4 := by omega
  refine ⟨fun h => ?_, fun h => ?_, fun h => ?_, fun h => ?_, fun h => ?_⟩
  · unfold j_X12_readLine_81 v_X12_readOf j_X12_readOf_11 j_X12_readOf_64 j_X12_readOf_69 j_X12_readOf_149 j_X12_readLine_111 j_X12_readLine_144
    rw [if_neg np, if_pos rfl]
    unfold edgM chkM chkM64 chkM69 tl2M stopM at h
    exact h
  · unfold j_X12_readLine_81 v_X12_readOf j_X12_readOf_124 j_X12_readOf_149 j_X12_readLine_111 j_X12_readLine_144
    rw [if_neg np, if_neg (by decide), if_neg (by decide), if_pos rfl]
    unfold spdM sprM sprM2 tl1M stopM at h
    exact h
  · unfold j_X12_readLine_81 v_X12_readOf j_X12_readOf_11 j_X12_readOf_64 j_X12_readOf_69 j_X12_readOf_149 j_X12_readLine_111 j_X12_readLine_144
    rw [if_neg np, if_neg (by decide), if_pos rfl]
    unfold groM chkM chkM64 chkM69 tl1M stopM at h
    exact h
  · unfold j_X12_readLine_81 v_X12_readOf j_X12_readOf_149 j_X12_readLine_111 j_X12_readLine_144
    rw [if_neg np, if_neg (by decide), if_neg (by decide), if_neg (by decide)]
    unfold tl1M stopM at h
    exact h
  · unfold j_X12_readLine_81 v_X12_readOf j_X12_readOf_149 j_X12_readLine_111 j_X12_readLine_144
    rw [if_neg np, if_neg (by decide), if_neg (by decide), if_neg (by decide)]
    unfold tl1M stopM at h
    exact h
