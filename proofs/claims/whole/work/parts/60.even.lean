/-! PURE FACTS, 29: even edges -/
abbrev T4 : Type := Int × Int × Int × Int
def evOne (σ : Mem) (m st : Nat) (t : T4) (i j : Nat) : T4 := if t.1 = -4 ∨ unevF σ m ((i * st : Nat) : Int) ((j * st : Nat) : Int) < t.2.2.1 ∨ (unevF σ m ((i * st : Nat) : Int) ((j * st : Nat) : Int) = t.2.2.1 ∧ ((closeF σ m ((i * st : Nat) : Int) ((j * st : Nat) : Int) : Nat) : Int) < t.2.2.2) then (((i * st : Nat) : Int), ((j * st : Nat) : Int), unevF σ m ((i * st : Nat) : Int) ((j * st : Nat) : Int), ((closeF σ m ((i * st : Nat) : Int) ((j * st : Nat) : Int) : Nat) : Int)) else t
def evIn (σ : Mem) (m st i : Nat) : Nat → T4 → T4
  | 0, t => t
  | k + 1, t => evOne σ m st (evIn σ m st i k t) i (i + 1 + k)
def evOut (σ : Mem) (m st : Nat) : Nat → T4
  | 0 => (-4, -4, 0, 0)
  | k + 1 => evIn σ m st (k + 1) (999 / st - (k + 1)) (evOut σ m st k)
theorem evOne_ne {σ : Mem} {m st i j : Nat} {t : T4} : (evOne σ m st t i j).1 ≠ -4 := by
  unfold evOne
  by_cases h : t.1 = -4 ∨ unevF σ m ((i * st : Nat) : Int) ((j * st : Nat) : Int) < t.2.2.1 ∨ (unevF σ m ((i * st : Nat) : Int) ((j * st : Nat) : Int) = t.2.2.1 ∧ ((closeF σ m ((i * st : Nat) : Int) ((j * st : Nat) : Int) : Nat) : Int) < t.2.2.2)
  · rw [if_pos h]; show ((i * st : Nat) : Int) ≠ -4; omega
  · rw [if_neg h]; exact fun z => h (Or.inl z)
theorem evIn_ne {σ : Mem} {m st i : Nat} {t : T4} : ∀ k, t.1 ≠ -4 ∨ 0 < k → (evIn σ m st i k t).1 ≠ -4 := by
  intro k h
  cases k with
  | zero => rcases h with h | h; exact h; omega
  | succ k => exact evOne_ne
theorem evOut_ne {σ : Mem} {m st : Nat} (hl : 2 ≤ 999 / st) : ∀ k, 1 ≤ k → (evOut σ m st k).1 ≠ -4 := by
  intro k
  induction k with
  | zero => intro h; omega
  | succ k ih =>
    intro _
    refine evIn_ne _ ?_
    by_cases z : k = 0
    · subst z; exact Or.inr (by omega)
    · exact Or.inl (ih (by omega))
theorem st_facts {st : Nat} (h : 10 ≤ st ∧ st ≤ 100) : 2 ≤ 999 / st ∧ 999 / st ≤ 99 ∧ (∀ x, x ≤ 999 / st ↔ x * st ≤ 999) ∧ (∀ x, x ≤ 998 / st ↔ x * st ≤ 998) := by
  have f : ∀ x, x ≤ 999 / st ↔ x * st ≤ 999 := fun x => Nat.le_div_iff_mul_le (by omega)
  have g : ∀ x, x ≤ 998 / st ↔ x * st ≤ 998 := fun x => Nat.le_div_iff_mul_le (by omega)
  refine ⟨(f 2).mpr (by omega), ?_, f, g⟩
  have : ¬ 100 ≤ 999 / st := fun z => by have := (f 100).mp z; omega
  omega
theorem evOut_end {σ : Mem} {m st : Nat} (h : 10 ≤ st ∧ st ≤ 100) : evOut σ m st (999 / st) = evOut σ m st (998 / st) := by
  obtain ⟨a, b, f, g⟩ := st_facts h
  by_cases e : 999 / st = 998 / st
  · rw [e]
  · have l1 : 998 / st ≤ 999 / st := (f _).mpr (by have := (g (998 / st)).mp (Nat.le_refl _); omega)
    have l2 : ¬ 998 / st + 2 ≤ 999 / st := fun z => by
      have y := (f _).mp z
      have x : ¬ (998 / st + 1) * st ≤ 998 := fun w => by have := (g _).mpr w; omega
      have : (998 / st + 2) * st = (998 / st + 1) * st + st := by rw [show 998 / st + 2 = (998 / st + 1) + 1 by omega, Nat.succ_mul]
      omega
    have e2 : 999 / st = 998 / st + 1 := by omega
    rw [e2]
    show evIn σ m st (998 / st + 1) (999 / st - (998 / st + 1)) (evOut σ m st (998 / st)) = _
    rw [e2, Nat.sub_self]; rfl
/-- the model -/
theorem s_mEven {σ τ : Mem} {m st : Nat} {p3 : Int} {Q : Int → Mem → Prop} (hI : INVc σ) (h0 : SAME σ τ) (hm : m < 4) (hs : 10 ≤ st ∧ st ≤ 100) (hc : 0 < cntF (cndP σ m) (σ 16 2).toNat) (h : ∀ ω, SAME σ ω → (if p3 = 0 then Q (evOut σ m st (999 / st)).1 ω else (if p3 = 1 then Q (evOut σ m st (999 / st)).2.1 ω else (if p3 = 2 then Q (evOut σ m st (999 / st)).2.2.1 ω else Q (evOut σ m st (999 / st)).2.2.2 ω)))) : ∃ n_, l_X12_even_57 m st p3 Q n_ (-4) (-4) 0 0 st τ := by
  obtain ⟨a1, a2, f, g⟩ := st_facts hs
  rw [evOut_end hs] at h
  have LL := loop_0 (fun n (i : Nat) (s : Int × Int × Int × Int × Mem) => l_X12_even_57 m st p3 Q n s.1 s.2.1 s.2.2.1 s.2.2.2.1 (((i + 1) * st : Nat) : Int) s.2.2.2.2) (fun i s => SAME σ s.2.2.2.2 ∧ evOut σ m st i = (s.1, s.2.1, s.2.2.1, s.2.2.2.1)) (998 / st) (-4, -4, 0, 0, τ) ⟨h0, rfl⟩ ?_ ?_
  · obtain ⟨n, hn⟩ := LL
    dsimp only at hn
    rw [show (0 + 1) * st = st by omega] at hn
    exact ⟨n, hn⟩
  · generalize 998 / st = N9 at g h ⊢
    intro n t hh
    obtain ⟨x, y, z, w, s⟩ := t
    have h1 : SAME σ s := hh.1
    have h2 : evOut σ m st N9 = (x, y, z, w) := hh.2
    clear hh
    dsimp only
    have e : ¬ (((N9 + 1) * st : Nat) : Int) < 999 := fun q => by
      have := (g (N9 + 1)).mpr (by omega); omega
    rw [l_X12_even_57, if_neg e]
    have H := h s h1
    rw [h2] at H
    exact H
  · rintro n i ⟨x, y, z, w, s⟩ hi ⟨h1, h2⟩ ih
    dsimp only at h1 h2 ih ⊢
    have ih := fun b1 b2 b3 b4 (s1 : Mem) hh => ih (b1, b2, b3, b4, s1) hh
    dsimp only at ih
    have gi := (g (i + 1)).mp (by omega)
    have fi := (f (i + 1)).mpr (by omega)
    have e1 : (((i + 1) * st : Nat) : Int) + st = (((i + 1 + 1) * st : Nat) : Int) := by rw [Nat.succ_mul (i + 1) st]; omega
    rw [l_X12_even_57, if_pos (by omega), e1]
    have b1 : (i + 1 + 1) * st = (i + 1) * st + st := Nat.succ_mul (i + 1) st
    refine ⟨⟨by omega, by omega⟩, ?_⟩
    have KK := loop_0 (fun n2 (k : Nat) (t : Int × Int × Int × Int × Mem) => l_X12_even_71 m st p3 (((i + 1) * st : Nat) : Int) (fun x4_ x5_ x6_ x7_ x8_ σ_ => l_X12_even_57 m st p3 Q n x4_ x5_ x6_ x7_ x8_ σ_) Q n2 t.1 t.2.1 t.2.2.1 t.2.2.2.1 (((i + 1 + 1 + k) * st : Nat) : Int) t.2.2.2.2) (fun k t => SAME σ t.2.2.2.2 ∧ evIn σ m st (i + 1) k (evOut σ m st i) = (t.1, t.2.1, t.2.2.1, t.2.2.2.1)) (999 / st - (i + 1)) (x, y, z, w, s) ⟨h1, h2⟩ ?_ ?_
    · exact KK
    · rintro n2 ⟨x, y, z, w, s⟩ ⟨h1, h2⟩
      dsimp only at h1 h2 ⊢
      have e : (999 : Int) < (((i + 1 + 1 + (999 / st - (i + 1))) * st : Nat) : Int) := by
        have : ¬ (i + 1 + 1 + (999 / st - (i + 1))) * st ≤ 999 := fun q => by have := (f _).mpr q; omega
        omega
      rw [l_X12_even_71, if_pos e, e1]
      exact ⟨⟨by omega, by omega⟩, ih _ _ _ _ _ ⟨h1, h2⟩⟩
    · rintro n2 k ⟨x, y, z, w, s⟩ hk ⟨h1, h2⟩ jh
      dsimp only at h1 h2 jh ⊢
      have jh := fun b1 b2 b3 b4 (s1 : Mem) hh => jh (b1, b2, b3, b4, s1) hh
      dsimp only at jh
      have fk := (f (i + 1 + 1 + k)).mp (by omega)
      have lt : (i + 1) * st < (i + 1 + 1 + k) * st := Nat.mul_lt_mul_of_pos_right (by omega) (by omega)
      have ge1 : 1 ≤ (i + 1) * st := Nat.mul_pos (by omega) (by omega)
      have e2 : (((i + 1 + 1 + k) * st : Nat) : Int) + st = (((i + 1 + 1 + (k + 1)) * st : Nat) : Int) := by
        rw [show i + 1 + 1 + (k + 1) = (i + 1 + 1 + k) + 1 by omega, Nat.succ_mul (i + 1 + 1 + k) st]; omega
      have sp := Nat.succ_mul (i + 1 + 1 + k) st
      rw [l_X12_even_71, if_neg (by omega)]
      refine s_judgeE hI h1 rfl hm ⟨by omega, by omega, by omega⟩ (fun ω hω => ?_)
      obtain ⟨w1, w2, w3, w4⟩ := hω
      rw [w2, w3, if_neg (by omega)]
      unfold j_X12_even_132 j_X12_even_152
      rw [e2, w3, w4]
      have r1 : inR (((i + 1 + 1 + (k + 1)) * st : Nat) : Int) := ⟨by omega, by omega⟩
      have st1 : evIn σ m st (i + 1) (k + 1) (evOut σ m st i) = evOne σ m st (x, y, z, w) (i + 1) (i + 1 + 1 + k) := by
        show evOne σ m st (evIn σ m st (i + 1) k (evOut σ m st i)) (i + 1) (i + 1 + 1 + k) = _
        rw [h2]
      unfold evOne at st1
      dsimp only at st1
      by_cases c1 : x = -4
      · rw [if_pos c1]
        exact ⟨r1, jh _ _ _ _ _ ⟨w1, by rw [st1, if_pos (Or.inl c1)]⟩⟩
      · rw [if_neg c1]
        by_cases c2 : unevF σ m (((i + 1) * st : Nat) : Int) (((i + 1 + 1 + k) * st : Nat) : Int) < z
        · rw [if_pos c2]
          exact ⟨r1, jh _ _ _ _ _ ⟨w1, by rw [st1, if_pos (Or.inr (Or.inl c2))]⟩⟩
        · rw [if_neg c2]
          by_cases c3 : unevF σ m (((i + 1) * st : Nat) : Int) (((i + 1 + 1 + k) * st : Nat) : Int) = z
          · rw [if_pos c3]
            by_cases c4 : ((closeF σ m (((i + 1) * st : Nat) : Int) (((i + 1 + 1 + k) * st : Nat) : Int) : Nat) : Int) < w
            · rw [if_pos c4]
              refine ⟨r1, jh _ _ _ _ _ ⟨w1, by rw [st1, if_pos (Or.inr (Or.inr ⟨c3, c4⟩))]⟩⟩
            · rw [if_neg c4]
              exact ⟨r1, jh _ _ _ _ _ ⟨w1, by rw [st1, if_neg (fun q => by rcases q with q | q | q; exact c1 q; exact c2 q; exact c4 q.2)]⟩⟩
          · rw [if_neg c3]
            exact ⟨r1, jh _ _ _ _ _ ⟨w1, by rw [st1, if_neg (fun q => by rcases q with q | q | q; exact c1 q; exact c2 q; exact c3 q.1)]⟩⟩
theorem s_mEven0 {σ τ : Mem} {m st : Nat} {p3 : Int} {Q : Int → Mem → Prop} (hI : INVc σ) (h0 : SAME σ τ) (hm : m < 4) (hs : 10 ≤ st ∧ st ≤ 100) (hc : cntF (cndP σ m) (σ 16 2).toNat = 0) (h : ∀ ω, SAME σ ω → Q (-4) ω) : ∃ n_, l_X12_even_57 m st p3 Q n_ (-4) (-4) 0 0 st τ := by
  refine ⟨1, ?_⟩
  rw [l_X12_even_57, if_pos (by omega)]
  refine ⟨⟨by omega, by omega⟩, 1, ?_⟩
  rw [l_X12_even_71, if_neg (by omega)]
  refine s_judgeE hI h0 rfl hm ⟨by omega, by omega, by omega⟩ (fun ω hω => ?_)
  rw [hω.2.1, hc, if_pos rfl]
  exact h ω hω.1
/-- the class -/
theorem blo_same {σ τ : Mem} (hs : SAME σ τ) {m : Nat} {e : Int} {n : Nat} (hn : n ≤ 24) : cntF (bloP τ m e) n = cntF (bloP σ m e) n :=
  cntF_congr (fun k hk => by unfold bloP cndP; rw [same_card hs (j := 23 + 3 * k) (by omega) (by omega), same_card hs (j := 25 + 3 * k) (by omega) (by omega)])
theorem ner_same {σ τ : Mem} (hs : SAME σ τ) {m : Nat} {e : Int} {n : Nat} (hn : n ≤ 24) : orF (nerP τ m e) n = orF (nerP σ m e) n :=
  orF_congr (fun k hk => by unfold nerP cndP; rw [same_card hs (j := 23 + 3 * k) (by omega) (by omega), same_card hs (j := 25 + 3 * k) (by omega) (by omega), sprF_same hs (by omega)])
def evRel (f : Int) (s : Mem) (t : T4) : Prop := (f = 0 ∧ t.1 = -4) ∨ (f = 1 ∧ t.1 ≠ -4 ∧ s 105 1 = t.1 ∧ s 105 2 = t.2.1 ∧ s 105 3 = t.2.2.1 ∧ s 105 4 = t.2.2.2)
def evArr (σ s : Mem) (m st : Nat) (i : Nat) : Prop := ∀ x, 1 ≤ x → x ≤ i → s 106 x = (cntF (bloP σ m ((x * st : Nat) : Int)) (σ 16 2).toNat : Nat) ∧ s 107 x = orF (nerP σ m ((x * st : Nat) : Int)) (σ 16 2).toNat
theorem s_search {σ : Mem} {m st : Nat} {Q : Int → Mem → Prop} (hI : INVc σ) (hm : m < 4) (hs : 10 ≤ st ∧ st ≤ 100) (h0 : cntF (cndP σ m) (σ 16 2).toNat = 0 → Q 0 σ) (h : 0 < cntF (cndP σ m) (σ 16 2).toNat → ∀ ω f, SAME σ ω → evRel f ω (evOut σ m st (999 / st)) → Q f ω) : v_X2_search m st σ Q := by
  have n24 := hI.c.2.2.1
  obtain ⟨a1, a2, f, g⟩ := st_facts hs
  unfold v_X2_search
  refine s_below hI rfl hm ?_
  rw [blo_all hI hm, if_neg (by omega)]
  by_cases hc : cntF (cndP σ m) (σ 16 2).toNat = 0
  · rw [if_pos (by rw [hc]; rfl)]; exact h0 hc
  · have h := h (by omega)
    rw [if_neg (by omega)]
    have td : Int.tdiv 999 (st : Int) = ((999 / st : Nat) : Int) := rfl
    rw [td]
    refine ⟨by omega, ⟨by omega, by omega⟩, ?_⟩
    generalize hA : ((cntF (cndP σ m) (σ 16 2).toNat : Nat) : Int) = A
    have L1 := loop_0 (fun n (i : Nat) (s : Mem) => l_X2_search_31 m st A (999 / st : Nat) Q n (((i + 1 : Nat)) : Int) s) (fun i s => SAME σ s ∧ evArr σ s m st i) (999 / st) σ ⟨SAME.rf, fun x h1 h2 => by omega⟩ ?_ ?_
    · exact L1
    · rintro n s ⟨h1, h2⟩
      rw [l_X2_search_31, if_pos (by omega)]
      have L2 := loop_0 (fun n (i : Nat) (t : Int × Mem) => l_X2_search_82 m st A (999 / st : Nat) Q n t.1 (((i + 1 : Nat)) : Int) t.2) (fun i t => SAME σ t.2 ∧ evArr σ t.2 m st (999 / st) ∧ evRel t.1 t.2 (evOut σ m st i)) (999 / st) (0, s) ⟨h1, h2, Or.inl ⟨rfl, rfl⟩⟩ ?_ ?_
      · exact L2
      · rintro n ⟨x, s⟩ ⟨h1, h2, h3⟩
        dsimp only at h1 h2 h3 ⊢
        rw [l_X2_search_82, if_pos (by omega)]
        exact ⟨by rcases h3 with q | q; exact Or.inl q.1; exact Or.inr q.1, h s x h1 h3⟩
      · rintro n i ⟨x, s⟩ hi ⟨h1, h2, h3⟩ ih
        dsimp only at h1 h2 h3 ih ⊢
        have ih := fun b1 (s1 : Mem) hh => ih (b1, s1) hh
        dsimp only at ih
        rw [l_X2_search_82, if_neg (by omega), show ((i + 1 : Nat) : Int) + 1 = ((i + 1 + 1 : Nat) : Int) by omega]
        refine ⟨⟨by omega, by omega⟩, ?_⟩
        have L3 := loop_0 (fun n2 (k : Nat) (t : Int × Mem) => l_X2_search_95 m st A (999 / st : Nat) ((i + 1 : Nat) : Int) (fun x5_ x6_ σ_ => l_X2_search_82 m st A (999 / st : Nat) Q n x5_ x6_ σ_) Q n2 t.1 ((i + 1 + 1 + k : Nat) : Int) t.2) (fun k t => SAME σ t.2 ∧ evArr σ t.2 m st (999 / st) ∧ evRel t.1 t.2 (evIn σ m st (i + 1) k (evOut σ m st i))) (999 / st - (i + 1)) (x, s) ⟨h1, h2, h3⟩ ?_ ?_
        · exact L3
        · rintro n2 ⟨x, s⟩ ⟨h1, h2, h3⟩
          dsimp only at h1 h2 h3 ⊢
          rw [l_X2_search_95, if_pos (by omega), show ((i + 1 : Nat) : Int) + 1 = ((i + 1 + 1 : Nat) : Int) by omega]
          exact ⟨⟨by omega, by omega⟩, ih _ _ ⟨h1, h2, h3⟩⟩
        · rintro n2 k ⟨x, s⟩ hk ⟨h1, h2, h3⟩ jh
          dsimp only at h1 h2 h3 jh ⊢
          have jh := fun b1 (s1 : Mem) hh => jh (b1, s1) hh
          dsimp only at jh
          have fi := (f (i + 1)).mp (by omega)
          have fj := (f (i + 1 + 1 + k)).mp (by omega)
          have lt : (i + 1) * st < (i + 1 + 1 + k) * st := Nat.mul_lt_mul_of_pos_right (by omega) (by omega)
          obtain ⟨u1, u2⟩ := h2 (i + 1) (by omega) (by omega)
          obtain ⟨v1, v2⟩ := h2 (i + 1 + 1 + k) (by omega) (by omega)
          rw [l_X2_search_95, if_neg (by omega), Int.toNat_natCast, Int.toNat_natCast, u1, v1]
          refine ⟨by omega, by omega, by omega, by omega, ?_⟩
          refine s_diff hI hm (a := (((i + 1) * st : Nat) : Int)) (b := (((i + 1 + 1 + k) * st : Nat) : Int)) (by omega) rfl rfl hA.symm ?_
          rw [u2, v2, ior_orF (by omega)]
          refine s_bitsF (by omega) ?_
          have ec : ((cntF (fun c => nerP σ m (((i + 1) * st : Nat) : Int) c ∨ nerP σ m (((i + 1 + 1 + k) * st : Nat) : Int) c) (σ 16 2).toNat : Nat) : Int) = ((closeF σ m (((i + 1) * st : Nat) : Int) (((i + 1 + 1 + k) * st : Nat) : Int) : Nat) : Int) := rfl
          rw [ec]
          generalize hT : evIn σ m st (i + 1) k (evOut σ m st i) = t at h3
          have st1 : evIn σ m st (i + 1) (k + 1) (evOut σ m st i) = evOne σ m st t (i + 1) (i + 1 + 1 + k) := by
            show evOne σ m st (evIn σ m st (i + 1) k (evOut σ m st i)) (i + 1) (i + 1 + 1 + k) = _
            rw [hT]
          unfold evOne at st1
          generalize hU : unevF σ m (((i + 1) * st : Nat) : Int) (((i + 1 + 1 + k) * st : Nat) : Int) = U at st1 ⊢
          generalize hC : ((closeF σ m (((i + 1) * st : Nat) : Int) (((i + 1 + 1 + k) * st : Nat) : Int) : Nat) : Int) = C at st1 ⊢
          have i1 : ((i + 1 + 1 + k : Nat) : Int) + 1 = ((i + 1 + 1 + (k + 1) : Nat) : Int) := by omega
          have m1 : ((i + 1 : Nat) : Int) * (st : Int) = (((i + 1) * st : Nat) : Int) := (Int.natCast_mul _ _).symm
          have m2 : ((i + 1 + 1 + k : Nat) : Int) * (st : Int) = (((i + 1 + 1 + k) * st : Nat) : Int) := (Int.natCast_mul _ _).symm
          unfold j_X2_search_175 j_X2_search_187
          rw [i1, m1, m2]
          have ri : inR ((i + 1 + 1 + (k + 1) : Nat) : Int) := ⟨by omega, by omega⟩
          have take : (t.1 = -4 ∨ U < t.2.2.1 ∨ (U = t.2.2.1 ∧ C < t.2.2.2)) → inR (((i + 1) * st : Nat) : Int) ∧ inR (((i + 1 + 1 + k) * st : Nat) : Int) ∧ inR ((i + 1 + 1 + (k + 1) : Nat) : Int) ∧ l_X2_search_95 m st A (999 / st : Nat) ((i + 1 : Nat) : Int) (fun x5_ x6_ σ_ => l_X2_search_82 m st A (999 / st : Nat) Q n x5_ x6_ σ_) Q n2 1 ((i + 1 + 1 + (k + 1) : Nat) : Int) (mset (mset (mset (mset s 105 1 (((i + 1) * st : Nat) : Int)) 105 2 (((i + 1 + 1 + k) * st : Nat) : Int)) 105 3 U) 105 4 C) := by
            intro q
            rw [if_pos q] at st1
            refine ⟨⟨by omega, by omega⟩, ⟨by omega, by omega⟩, ri, jh _ _ ⟨(((h1.st rfl).st rfl).st rfl).st rfl, fun y y1 y2 => ?_, ?_⟩⟩
            · rw [mset_ne (by decide), mset_ne (by decide), mset_ne (by decide), mset_ne (by decide), mset_ne (by decide), mset_ne (by decide), mset_ne (by decide), mset_ne (by decide)]; exact h2 y y1 y2
            · rw [st1]
              refine Or.inr ⟨rfl, ?_, ?_, ?_, ?_, ?_⟩
              · show (((i + 1) * st : Nat) : Int) ≠ -4; omega
              · rw [mset_nei (by decide), mset_nei (by decide), mset_nei (by decide), mset_eq]
              · rw [mset_nei (by decide), mset_nei (by decide), mset_eq]
              · rw [mset_nei (by decide), mset_eq]
              · rw [mset_eq]
          rcases h3 with ⟨x0, t0⟩ | ⟨x1, tn, e1, e2, e3, e4⟩
          · rw [if_pos x0]; exact take (Or.inl t0)
          · rw [if_neg (by omega), e3, e4]
            have stay : ¬ (t.1 = -4 ∨ U < t.2.2.1 ∨ (U = t.2.2.1 ∧ C < t.2.2.2)) → inR ((i + 1 + 1 + (k + 1) : Nat) : Int) ∧ l_X2_search_95 m st A (999 / st : Nat) ((i + 1 : Nat) : Int) (fun x5_ x6_ σ_ => l_X2_search_82 m st A (999 / st : Nat) Q n x5_ x6_ σ_) Q n2 x ((i + 1 + 1 + (k + 1) : Nat) : Int) s := by
              intro q
              rw [if_neg q] at st1
              exact ⟨ri, jh _ _ ⟨h1, h2, by rw [st1]; exact Or.inr ⟨x1, tn, e1, e2, e3, e4⟩⟩⟩
            by_cases c2 : U < t.2.2.1
            · rw [if_pos c2, if_neg (by decide)]; exact take (Or.inr (Or.inl c2))
            · rw [if_neg c2]
              by_cases c3 : U = t.2.2.1
              · rw [if_pos c3]
                by_cases c4 : C < t.2.2.2
                · rw [if_pos c4, if_neg (by decide)]; exact take (Or.inr (Or.inr ⟨c3, c4⟩))
                · rw [if_neg c4, if_pos rfl]; exact stay (fun q => by rcases q with q | q | q; exact tn q; exact c2 q; exact c4 q.2)
              · rw [if_neg c3, if_pos rfl]; exact stay (fun q => by rcases q with q | q | q; exact tn q; exact c2 q; exact c3 q.1)
    · rintro n i s hi ⟨h1, h2⟩ ih
      have fi := (f (i + 1)).mp (by omega)
      have m1 : ((i + 1 : Nat) : Int) * (st : Int) = (((i + 1) * st : Nat) : Int) := (Int.natCast_mul _ _).symm
      have jI := invc_core h1 hI
      rw [l_X2_search_31, if_neg (by omega), m1]
      refine ⟨⟨by omega, by omega⟩, s_below jI rfl hm ?_⟩
      rw [h1.n, blo_same h1 (by omega), Int.toNat_natCast]
      refine ⟨by omega, by omega, ?_⟩
      have h3 : SAME σ (mset s 106 (i + 1) (cntF (bloP σ m (((i + 1) * st : Nat) : Int)) (σ 16 2).toNat : Nat)) := h1.st rfl
      refine s_nearE (invc_core h3 hI) rfl hm (by omega) ?_
      rw [h3.n, ner_same h3 (by omega)]
      refine ⟨⟨by omega, by omega⟩, ih _ ⟨h3.st rfl, fun x x1 x2 => ?_⟩⟩
      by_cases e : x = i + 1
      · subst e
        exact ⟨by rw [mset_ne (by decide), mset_eq], by rw [mset_eq]⟩
      · rw [mset_ne (by decide), mset_nei e, mset_nei e, mset_ne (by decide)]
        exact h2 x x1 (by omega)
theorem f_even {σ : Mem} (hI : INV σ) (m p w : Int) : v_X11_even m p w σ (fun r1 σ1 => v_X12_even m p w σ1 (fun r2 σ2 => r1 = r2 ∧ INV σ2)) := by
  unfold v_X11_even
  by_cases c1 : 0 ≤ m ∧ m ≤ 3
  rotate_left
  · rw [s_isMeasure_f c1, if_pos rfl]
    unfold v_X12_even
    dsimp only
    rw [s_in_f c1, if_pos rfl]; exact ⟨rfl, hI⟩
  rw [s_isMeasure_t c1, if_neg (by decide)]
  by_cases c2 : 10 ≤ p ∧ p ≤ 100
  rotate_left
  · have no : v_X12_even m p w σ (fun r2 σ2 => (-1 : Int) = r2 ∧ INV σ2) := by
      unfold v_X12_even
      rw [s_in_t c1, if_neg (by decide), s_in_f c2, if_pos rfl]; exact ⟨rfl, hI⟩
    by_cases z : p < 10
    · rw [if_pos z]; exact no
    · rw [if_neg z, if_pos (by omega)]; exact no
  rw [if_neg (by omega), if_neg (by omega)]
  by_cases c3 : 0 ≤ w ∧ w ≤ 3
  rotate_left
  · have no : v_X12_even m p w σ (fun r2 σ2 => (-1 : Int) = r2 ∧ INV σ2) := by
      unfold v_X12_even
      rw [s_in_t c1, if_neg (by decide), s_in_t c2, if_neg (by decide), s_in_f c3, if_pos rfl]; exact ⟨rfl, hI⟩
    by_cases z : w < 0
    · rw [if_pos z]; exact no
    · rw [if_neg z, if_pos (by omega)]; exact no
  rw [if_neg (by omega), if_neg (by omega)]
  obtain ⟨k, rfl⟩ : ∃ k : Nat, m = k := ⟨m.toNat, by omega⟩
  obtain ⟨st, rfl⟩ : ∃ st : Nat, p = st := ⟨p.toNat, by omega⟩
  have hm : k < 4 := by omega
  have hs : 10 ≤ st ∧ st ≤ 100 := by omega
  refine s_search hI.k hm hs (fun hc => ?_) (fun hc ω f hω hr => ?_)
  · rw [if_pos rfl]
    unfold v_X12_even
    dsimp only
    rw [s_in_t c1, if_neg (by decide), s_in_t c2, if_neg (by decide), s_in_t c3, if_neg (by decide)]
    exact s_mEven0 hI.k SAME.rf hm hs hc (fun ω hω => ⟨rfl, inv_core hω hI⟩)
  · have ne := evOut_ne (σ := σ) (m := k) (st_facts hs).1 (999 / st) (by have := (st_facts hs).1; omega)
    rcases hr with ⟨_, q⟩ | ⟨f1, _, e1, e2, e3, e4⟩
    · exact absurd q ne
    · have yes : ∀ r : Int, (w = 0 → r = (evOut σ k st (999 / st)).1) → (w = 1 → r = (evOut σ k st (999 / st)).2.1) → (w = 2 → r = (evOut σ k st (999 / st)).2.2.1) → (w = 3 → r = (evOut σ k st (999 / st)).2.2.2) → v_X12_even k st w ω (fun r2 σ2 => r = r2 ∧ INV σ2) := by
        intro r r0 r1 r2 r3
        unfold v_X12_even
        rw [s_in_t c1, if_neg (by decide), s_in_t c2, if_neg (by decide), s_in_t c3, if_neg (by decide)]
        refine s_mEven hI.k hω hm hs hc (fun ψ hψ => ?_)
        have fI := inv_core hψ hI
        by_cases w0 : w = 0
        · rw [if_pos w0]; exact ⟨r0 w0, fI⟩
        rw [if_neg w0]
        by_cases w1 : w = 1
        · rw [if_pos w1]; exact ⟨r1 w1, fI⟩
        rw [if_neg w1]
        by_cases w2 : w = 2
        · rw [if_pos w2]; exact ⟨r2 w2, fI⟩
        rw [if_neg w2]
        exact ⟨r3 (by omega), fI⟩
      rw [if_neg (by omega)]
      by_cases w0 : w = 0
      · rw [if_pos w0]; exact yes _ (fun _ => e1) (fun z => by omega) (fun z => by omega) (fun z => by omega)
      rw [if_neg w0]
      by_cases w1 : w = 1
      · rw [if_pos w1]; exact yes _ (fun z => by omega) (fun _ => e2) (fun z => by omega) (fun z => by omega)
      rw [if_neg w1]
      by_cases w2 : w = 2
      · rw [if_pos w2]; exact yes _ (fun z => by omega) (fun z => by omega) (fun _ => e3) (fun z => by omega)
      rw [if_neg w2]
      exact yes _ (fun z => by omega) (fun z => by omega) (fun z => by omega) (fun _ => e4)
