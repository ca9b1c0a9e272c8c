/-! PURE FACTS, 28: edges judged -/
abbrev cndP (σ : Mem) (m : Nat) : Nat → Prop := fun c => ¬ σ (23 + 3 * c) 5 = -4 ∧ 0 < σ (25 + 3 * c) m
abbrev bloP (σ : Mem) (m : Nat) (e : Int) : Nat → Prop := fun c => cndP σ m c ∧ σ (25 + 3 * c) m < e
abbrev midP (σ : Mem) (m : Nat) (a b : Int) : Nat → Prop := fun c => cndP σ m c ∧ ¬ σ (25 + 3 * c) m < a ∧ σ (25 + 3 * c) m < b
abbrev higP (σ : Mem) (m : Nat) (e : Int) : Nat → Prop := fun c => cndP σ m c ∧ ¬ σ (25 + 3 * c) m < e
abbrev nerP (σ : Mem) (m : Nat) (e : Int) : Nat → Prop := fun c => cndP σ m c ∧ ¬ sprF σ c < iabs (σ (25 + 3 * c) m - e)
def unevF (σ : Mem) (m : Nat) (a b : Int) : Int := imax (cntF (bloP σ m a) (σ 16 2).toNat : Nat) (imax (cntF (midP σ m a b) (σ 16 2).toNat : Nat) (cntF (higP σ m b) (σ 16 2).toNat : Nat)) - imin (cntF (bloP σ m a) (σ 16 2).toNat : Nat) (imin (cntF (midP σ m a b) (σ 16 2).toNat : Nat) (cntF (higP σ m b) (σ 16 2).toNat : Nat))
def closeF (σ : Mem) (m : Nat) (a b : Int) : Nat := cntF (fun c => nerP σ m a c ∨ nerP σ m b c) (σ 16 2).toNat
theorem cnt_split {σ : Mem} {m : Nat} {a b : Int} (h : a < b) : ∀ n : Nat, cntF (bloP σ m a) n + cntF (midP σ m a b) n = cntF (bloP σ m b) n ∧ cntF (bloP σ m b) n + cntF (higP σ m b) n = cntF (cndP σ m) n := by
  intro n
  induction n with
  | zero => exact ⟨rfl, rfl⟩
  | succ n ih =>
    rw [cnt_step, cnt_step, cnt_step, cnt_step, cnt_step]
    by_cases c : cndP σ m n
    · rw [if_pos c]
      by_cases x : σ (25 + 3 * n) m < a
      · rw [if_pos ⟨c, x⟩, if_neg (fun z => z.2.1 x), if_pos ⟨c, by omega⟩, if_neg (fun z => z.2 (by omega))]; omega
      · by_cases y : σ (25 + 3 * n) m < b
        · rw [if_neg (fun z => x z.2), if_pos ⟨c, x, y⟩, if_pos ⟨c, y⟩, if_neg (fun z => z.2 y)]; omega
        · rw [if_neg (fun z => x z.2), if_neg (fun z => y z.2.2), if_neg (fun z => y z.2), if_pos ⟨c, y⟩]; omega
    · rw [if_neg c, if_neg (fun z => c z.1), if_neg (fun z => c z.1), if_neg (fun z => c z.1), if_neg (fun z => c z.1)]; omega
theorem blo_all {σ : Mem} (hI : INVc σ) {m : Nat} (hm : m < 4) : cntF (bloP σ m 1000) (σ 16 2).toNat = cntF (cndP σ m) (σ 16 2).toNat := by
  refine cntF_congr (fun k hk => ⟨fun z => z.1, fun z => ⟨z, ?_⟩⟩)
  have x := (hI.c.2.2.2.2 k (by have := hI.c.2.1; omega)).2.2.2.2.2.2 m hm
  omega
theorem ior_orF {P M : Nat → Prop} [DecidablePred P] [DecidablePred M] {n : Nat} (hn : n ≤ 32) : ior (orF P n) (orF M n) = orF (fun c => P c ∨ M c) n := by
  refine Bt_ext (ior_rng _ _) (orF_rng n) (fun k hk => ?_)
  rw [Bt_or, orF_Bt n hn k hk, orF_Bt n hn k hk, orF_Bt n hn k hk]
  by_cases a : k < n <;> by_cases b : P k <;> by_cases c : M k <;> simp [a, b, c]
/-- the class -/
theorem s_isCounted {σ : Mem} {m c : Nat} {p q : Int} {Q : Int → Mem → Prop} (hp : p = c) (hq : q = m) (hm : m < 4) (hc : c < 24) (h : Q (if cndP σ m c then 1 else 0) σ) : v_X2_isCounted p q σ Q := by
  subst hp; subst hq
  unfold v_X2_isCounted
  rw [Int.toNat_natCast, Int.toNat_natCast, s_isOut]
  refine ⟨by omega, by omega, ?_⟩
  by_cases g : σ (23 + 3 * c) 5 = -4
  · rw [if_pos g, if_neg (by decide)]
    rw [if_neg (fun z => z.1 g)] at h; exact h
  · rw [if_neg g, if_pos rfl]
    refine ⟨by omega, by omega, ?_⟩
    by_cases g2 : 0 < σ (25 + 3 * c) m
    · rw [if_pos g2]; rw [if_pos ⟨g, g2⟩] at h; exact h
    · rw [if_neg g2]; rw [if_neg (fun z => g2 z.2)] at h; exact h
theorem s_below {σ : Mem} {m : Nat} {q e : Int} {Q : Int → Mem → Prop} (hI : INVc σ) (hq : q = m) (hm : m < 4) (h : Q (cntF (bloP σ m e) (σ 16 2).toNat : Nat) σ) : v_X2_below q e σ Q := by
  subst hq
  have n24 := hI.c.2.2.1
  have n0 := hI.c.2.1
  unfold v_X2_below
  refine lp1a (l_X2_below_5 m e Q) (fun k a s => s = σ ∧ a = (cntF (bloP σ m e) k : Nat)) (σ 16 2).toNat 0 σ ⟨rfl, rfl⟩ ?_ ?_
  · rintro n a s ⟨rfl, rfl⟩
    rw [l_X2_below_5, if_neg (by omega)]; exact h
  · rintro n k a s hk ⟨hs, ha⟩ ih
    subst hs
    have le := cntF_le (P := bloP s m e) k
    have st := cnt_step (bloP s m e) k
    have fin : ∀ v : Int, v = (if bloP s m e k then 1 else 0) → v_X11_bit v s (fun r2 σ3 => inR (a + r2) ∧ inR ((k : Int) + 1) ∧ l_X2_below_5 m e Q n (a + r2) (k + 1) σ3) := by
      intro v hv
      rw [s_bit, hv, bit01]
      by_cases z : bloP s m e k
      · rw [if_pos z]; rw [if_pos z] at st
        exact ⟨⟨by omega, by omega⟩, ⟨by omega, by omega⟩, ih _ _ ⟨rfl, by omega⟩⟩
      · rw [if_neg z]; rw [if_neg z] at st
        exact ⟨⟨by omega, by omega⟩, ⟨by omega, by omega⟩, ih _ _ ⟨rfl, by omega⟩⟩
    rw [l_X2_below_5, if_pos (by omega)]
    refine s_isCounted rfl rfl hm (by omega) ?_
    rw [Int.toNat_natCast, Int.toNat_natCast]
    unfold j_X2_below_52
    by_cases c : cndP s m k
    · rw [if_pos c, if_neg (by decide)]
      refine ⟨by omega, by omega, by omega, by omega, fin _ ?_⟩
      by_cases y : s (25 + 3 * k) m < e
      · rw [if_pos y, if_pos ⟨c, y⟩]
      · rw [if_neg y, if_neg (fun z => y z.2)]
    · rw [if_neg c, if_pos rfl]
      exact fin 0 (by rw [if_neg (fun z => c z.1)])
theorem s_nearE {σ : Mem} {m : Nat} {q e : Int} {Q : Int → Mem → Prop} (hI : INVc σ) (hq : q = m) (hm : m < 4) (he : 0 ≤ e ∧ e ≤ 1000) (h : Q (orF (nerP σ m e) (σ 16 2).toNat) σ) : v_X2_near q e σ Q := by
  subst hq
  have n24 := hI.c.2.2.1
  have n0 := hI.c.2.1
  unfold v_X2_near
  refine lp1a (l_X2_near_5 m e Q) (fun k a s => s = σ ∧ a = orF (nerP σ m e) k) (σ 16 2).toNat 0 σ ⟨rfl, rfl⟩ ?_ ?_
  · rintro n a s ⟨rfl, rfl⟩
    rw [l_X2_near_5, if_neg (by omega)]; exact h
  · rintro n k a s hk ⟨hs, ha⟩ ih
    subst hs
    have x := (hI.c.2.2.2.2 k (by omega)).2.2.2.2.2.2 m hm
    have eo : orF (nerP s m e) (k + 1) = if nerP s m e k then ior a (ishl 1 k) else a := by rw [ha]; rfl
    have i1 : inR ((k : Int) + 1) := ⟨by omega, by omega⟩
    have ia : 0 ≤ iabs (s (25 + 3 * k) m - e) ∧ iabs (s (25 + 3 * k) m - e) ≤ 1000 := by unfold iabs; split <;> omega
    rw [l_X2_near_5, if_pos (by omega), Int.toNat_natCast, Int.toNat_natCast]
    refine ⟨by omega, by omega, by omega, by omega, ⟨by omega, by omega⟩, s_isCounted rfl rfl hm (by omega) ?_⟩
    by_cases c : cndP s m k
    · rw [if_pos c, if_neg (by decide)]
      refine s_spr hI (by omega) ⟨⟨by omega, by omega⟩, ?_⟩
      by_cases y : sprF s k < iabs (s (25 + 3 * k) m - e)
      · rw [if_pos y]; exact ⟨i1, ih _ _ ⟨rfl, by rw [eo, if_neg (fun z => z.2 y)]⟩⟩
      · rw [if_neg y]; exact ⟨i1, ih _ _ ⟨rfl, by rw [eo, if_pos ⟨c, y⟩]⟩⟩
    · rw [if_neg c, if_pos rfl]; exact ⟨i1, ih _ _ ⟨rfl, by rw [eo, if_neg (fun z => c z.1)]⟩⟩
theorem s_diff {σ τ : Mem} {m : Nat} {a b p1 p2 p3 : Int} {Q : Int → Mem → Prop} (hI : INVc σ) (hm : m < 4) (hab : a < b) (e1 : p1 = (cntF (bloP σ m a) (σ 16 2).toNat : Nat)) (e2 : p2 = (cntF (bloP σ m b) (σ 16 2).toNat : Nat)) (e3 : p3 = (cntF (cndP σ m) (σ 16 2).toNat : Nat)) (h : Q (unevF σ m a b) τ) : v_X2_difference p1 p2 p3 τ Q := by
  have n24 := hI.c.2.2.1
  have sp := cnt_split (σ := σ) (m := m) hab (σ 16 2).toNat
  have l1 := cntF_le (P := bloP σ m a) (σ 16 2).toNat
  have l2 := cntF_le (P := midP σ m a b) (σ 16 2).toNat
  have l3 := cntF_le (P := higP σ m b) (σ 16 2).toNat
  have f1 : p2 - p1 = (cntF (midP σ m a b) (σ 16 2).toNat : Nat) := by omega
  have f2 : p3 - p2 = (cntF (higP σ m b) (σ 16 2).toNat : Nat) := by omega
  unfold v_X2_difference
  rw [f1, f2, e1]
  have g : -24 ≤ unevF σ m a b ∧ unevF σ m a b ≤ 24 := by
    unfold unevF imax imin
    repeat' split
    all_goals omega
  refine ⟨⟨by omega, by omega⟩, ⟨by omega, by omega⟩, ?_, h⟩
  exact ⟨by have := g.1; unfold unevF at this; omega, by have := g.2; unfold unevF at this; omega⟩
/-- the model -/
def jdg (σ τ : Mem) (m : Nat) (a b : Int) : Prop := SAME σ τ ∧ τ 122 49 = (cntF (cndP σ m) (σ 16 2).toNat : Nat) ∧ τ 122 50 = unevF σ m a b ∧ τ 122 51 = (closeF σ m a b : Nat)
theorem s_judgeE {σ τ : Mem} {m : Nat} {q a b : Int} {Q : Int → Mem → Prop} (hI : INVc σ) (h0 : SAME σ τ) (hq : q = m) (hm : m < 4) (ha : 1 ≤ a ∧ a < b ∧ b ≤ 999) (h : ∀ ω, jdg σ ω m a b → Q 0 ω) : v_X12_judgeEdges q a b τ Q := by
  subst hq
  have n24 := hI.c.2.2.1
  have n0 := hI.c.2.1
  have L5 := loop_0 (fun n i (s : Int × Int × Int × Mem) => l_X12_judgeEdges_17 m a b Q n s.1 s.2.1 s.2.2.1 i s.2.2.2) (fun k s => SAME σ s.2.2.2 ∧ s.1 = (cntF (bloP σ m a) k : Nat) ∧ s.2.1 = (cntF (midP σ m a b) k : Nat) ∧ s.2.2.1 = (cntF (higP σ m b) k : Nat) ∧ s.2.2.2 122 51 = (cntF (fun c => nerP σ m a c ∨ nerP σ m b c) k : Nat)) (σ 16 2).toNat (0, 0, 0, mset τ 122 51 0) ⟨h0.st rfl, rfl, rfl, rfl, by dsimp only; rw [mset_eq]; rfl⟩ ?_ ?_
  · exact L5
  · rintro n ⟨x, y, z, s⟩ ⟨g1, g2, g3, g4, g5⟩
    dsimp only at g1 g2 g3 g4 g5 ⊢
    have en : s 122 24 = σ 16 2 := by rw [g1 122 24 rfl]; exact hI.eqn
    have l1 := cntF_le (P := bloP σ m a) (σ 16 2).toNat
    have l2 := cntF_le (P := midP σ m a b) (σ 16 2).toNat
    have l3 := cntF_le (P := higP σ m b) (σ 16 2).toNat
    have sp := cnt_split (σ := σ) (m := m) ha.2.1 (σ 16 2).toNat
    rw [l_X12_judgeEdges_17, if_neg (by omega)]
    refine ⟨⟨by omega, by omega⟩, ?_⟩
    unfold j_X12_judgeEdges_199 j_X12_judgeEdges_215 j_X12_judgeEdges_232
    have fin : ∀ v, v = unevF σ m a b → Q 0 (mset (mset s 122 49 ((x + y) + z)) 122 50 v) := by
      intro v hv
      refine h _ ⟨(g1.st rfl).st rfl, ?_, ?_, ?_⟩
      · rw [mset_nei (by decide), mset_eq]; omega
      · rw [mset_eq]; exact hv
      · rw [mset_nei (by decide), mset_nei (by decide)]; exact g5
    have uv : unevF σ m a b = imax x (imax y z) - imin x (imin y z) := by unfold unevF; rw [g2, g3, g4]
    have big : (if y < x then x else y) = imax x y := by unfold imax; split <;> split <;> omega
    have sml : (if x < y then x else y) = imin x y := by unfold imin; split <;> split <;> omega
    rw [big, sml]
    have r1 : 0 ≤ imax x y ∧ imax x y ≤ 24 := by unfold imax; split <;> omega
    have r2 : 0 ≤ imin x y ∧ imin x y ≤ 24 := by unfold imin; split <;> omega
    have e1 : ∀ w, w = (if z < imax x y then imax x y else z) → (imin x y < z → w - imin x y = unevF σ m a b) ∧ (¬ imin x y < z → w - z = unevF σ m a b) := by
      intro w hw
      rw [uv, hw]
      unfold imax imin
      constructor
      · intro q
        revert q
        repeat' split
        all_goals omega
      · intro q
        revert q
        repeat' split
        all_goals omega
    have e2 := e1 _ rfl
    have r3 : 0 ≤ (if z < imax x y then imax x y else z) ∧ (if z < imax x y then imax x y else z) ≤ 24 := by split <;> omega
    by_cases q : imin x y < z
    · rw [if_pos q]
      exact ⟨⟨by omega, by omega⟩, fin _ (e2.1 q)⟩
    · rw [if_neg q]
      exact ⟨⟨by omega, by omega⟩, fin _ (e2.2 q)⟩
  · rintro n k ⟨x, y, z, s⟩ hk ⟨g1, g2, g3, g4, g5⟩ ih
    dsimp only at g1 g2 g3 g4 g5 ih ⊢
    have ih := fun a1 a2 a3 (s1 : Mem) hh => ih (a1, a2, a3, s1) hh
    dsimp only at ih
    have jI := invc_core g1 hI
    have en : s 122 24 = σ 16 2 := by rw [g1 122 24 rfl]; exact hI.eqn
    have u := jI.c.2.2.2.2 k (by rw [g1.n]; omega)
    have um := (u.2.2.2.2.2.2 m hm).2
    have c23 := same_card g1 (j := 23 + 3 * k) (by omega) (by omega)
    have c25 := same_card g1 (j := 25 + 3 * k) (by omega) (by omega)
    have sp := sprF_same g1 (c := k) (by omega)
    have sr := sprF_rng jI (c := k) (by rw [g1.n]; omega)
    have l1 := cntF_le (P := bloP σ m a) k
    have l2 := cntF_le (P := midP σ m a b) k
    have l3 := cntF_le (P := higP σ m b) k
    have l4 := cntF_le (P := fun c => nerP σ m a c ∨ nerP σ m b c) k
    have t1 := cnt_step (bloP σ m a) k
    have t2 := cnt_step (midP σ m a b) k
    have t3 := cnt_step (higP σ m b) k
    have t4 := cnt_step (fun c => nerP σ m a c ∨ nerP σ m b c) k
    have i1 : inR ((k : Int) + 1) := ⟨by omega, by omega⟩
    rw [l_X12_judgeEdges_17, if_pos (by omega), show (4 * (k : Int) + m).toNat = 4 * k + m by omega, um.1]
    refine ⟨by omega, by omega, s_mOut rfl (by omega) ?_⟩
    rw [u.2.2.2.2.2.1.1]
    have skip : ¬ cndP σ m k → inR ((k : Int) + 1) ∧ l_X12_judgeEdges_17 m a b Q n x y z (k + 1) s := by
      intro nc
      rw [if_neg (fun v => nc v.1)] at t1 t2 t3
      rw [if_neg (fun v => by rcases v with v | v; exact nc v.1; exact nc v.1)] at t4
      exact ⟨i1, ih _ _ _ _ ⟨g1, by omega, by omega, by omega, by omega⟩⟩
    by_cases c1 : s (23 + 3 * k) 5 = -4
    · rw [if_pos c1, if_neg (by decide)]
      exact skip (fun v => v.1 (by rw [← c23]; exact c1))
    · rw [if_neg c1, if_pos rfl]
      by_cases c2 : 0 < s (25 + 3 * k) m
      · rw [if_pos c2]
        have cd : cndP σ m k := ⟨by rw [← c23]; exact c1, by rw [← c25]; exact c2⟩
        have near : ∀ (x' y' z' : Int), x' = (cntF (bloP σ m a) (k + 1) : Nat) → z' = (cntF (higP σ m b) (k + 1) : Nat) → ∀ v : Int, y + v = (cntF (midP σ m a b) (k + 1) : Nat) → 0 ≤ v ∧ v ≤ 1 → j_X12_judgeEdges_104 m a b (fun x4_ x5_ x6_ x7_ σ_ => l_X12_judgeEdges_17 m a b Q n x4_ x5_ x6_ x7_ σ_) Q x' z' k (s (25 + 3 * k) m) v y s := by
          intro x' y' z' hx hz v hv vr
          unfold j_X12_judgeEdges_104 j_X12_judgeEdges_158
          refine s_msprC jI rfl (by rw [g1.n]; omega) ?_
          have ia : ∀ e : Int, (e - sprF s k ≤ s (25 + 3 * k) m ∧ s (25 + 3 * k) m ≤ e + sprF s k) ↔ nerP σ m e k := by
            intro e
            unfold nerP
            rw [← sp, ← c25]
            constructor
            · intro q; exact ⟨cd, by unfold iabs; split <;> omega⟩
            · intro q; have := q.2; revert this; unfold iabs; split <;> omega
          refine ⟨⟨by omega, by omega⟩, ⟨by omega, by omega⟩, ?_⟩
          by_cases q1 : a - sprF s k ≤ s (25 + 3 * k) m ∧ s (25 + 3 * k) m ≤ a + sprF s k
          · rw [s_in_t q1, if_neg (by decide), g5]
            rw [if_pos (Or.inl ((ia a).mp q1))] at t4
            refine ⟨⟨by omega, by omega⟩, ⟨by omega, by omega⟩, i1, ih _ _ _ _ ⟨g1.st rfl, hx, hv, hz, by rw [mset_eq]; omega⟩⟩
          · rw [s_in_f q1, if_pos rfl]
            refine ⟨⟨by omega, by omega⟩, ⟨by omega, by omega⟩, ?_⟩
            by_cases q2 : b - sprF s k ≤ s (25 + 3 * k) m ∧ s (25 + 3 * k) m ≤ b + sprF s k
            · rw [s_in_t q2, if_neg (by decide), g5]
              rw [if_pos (Or.inr ((ia b).mp q2))] at t4
              refine ⟨⟨by omega, by omega⟩, ⟨by omega, by omega⟩, i1, ih _ _ _ _ ⟨g1.st rfl, hx, hv, hz, by rw [mset_eq]; omega⟩⟩
            · rw [s_in_f q2, if_pos rfl, g5]
              rw [if_neg (fun w => by rcases w with w | w; exact q1 ((ia a).mpr w); exact q2 ((ia b).mpr w))] at t4
              refine ⟨⟨by omega, by omega⟩, ⟨by omega, by omega⟩, i1, ih _ _ _ _ ⟨g1.st rfl, hx, hv, hz, by rw [mset_eq]; omega⟩⟩
        unfold j_X12_judgeEdges_66 j_X12_judgeEdges_82
        by_cases q1 : s (25 + 3 * k) m < a
        · have q2 : s (25 + 3 * k) m < b := by omega
          rw [if_pos q2, if_pos q1]
          rw [c25] at q1 q2
          rw [if_pos ⟨cd, q1⟩] at t1
          rw [if_neg (fun w => w.2.1 q1)] at t2
          rw [if_neg (fun w => w.2 q2)] at t3
          refine ⟨⟨by omega, by omega⟩, ?_⟩
          rw [if_pos (by rw [c25]; exact q1)]
          exact ⟨⟨by omega, by omega⟩, near _ 0 _ (by omega) (by omega) 0 (by omega) (by omega)⟩
        · by_cases q2 : s (25 + 3 * k) m < b
          · rw [if_pos q2, if_neg q1]
            rw [c25] at q1 q2
            rw [if_neg (fun w => q1 w.2)] at t1
            rw [if_pos ⟨cd, q1, q2⟩] at t2
            rw [if_neg (fun w => w.2 q2)] at t3
            refine ⟨⟨by omega, by omega⟩, ?_⟩
            rw [if_neg (by rw [c25]; exact q1), if_pos (by rw [c25]; exact q2)]
            exact ⟨⟨by omega, by omega⟩, near _ 0 _ (by omega) (by omega) 1 (by omega) (by omega)⟩
          · rw [if_neg q2, if_neg q1]
            rw [c25] at q1 q2
            rw [if_neg (fun w => q1 w.2)] at t1
            rw [if_neg (fun w => q2 w.2.2)] at t2
            rw [if_pos ⟨cd, q2⟩] at t3
            refine ⟨⟨by omega, by omega⟩, ?_⟩
            rw [if_neg (by rw [c25]; exact q1), if_neg (by rw [c25]; exact q2)]
            exact ⟨⟨by omega, by omega⟩, near _ 0 _ (by omega) (by omega) 0 (by omega) (by omega)⟩
      · rw [if_neg c2]
        exact skip (fun v => c2 (by rw [c25]; exact v.2))
abbrev judV (m a b w : Int) : Prop := (0 ≤ m ∧ m ≤ 3) ∧ (1 ≤ a ∧ a < b ∧ b ≤ 999) ∧ (0 ≤ w ∧ w ≤ 1)
theorem f_judge {σ : Mem} (hI : INV σ) (m a b w : Int) : v_X11_judge m a b w σ (fun r1 σ1 => v_X12_judge m a b w σ1 (fun r2 σ2 => r1 = r2 ∧ INV σ2)) := by
  have n24 := hI.c.2.2.1
  have no : ¬ judV m a b w → v_X12_judge m a b w σ (fun r2 σ2 => (-1 : Int) = r2 ∧ INV σ2) := by
    intro nV
    unfold v_X12_judge
    by_cases c1 : 0 ≤ m ∧ m ≤ 3
    · rw [s_in_t c1, if_neg (by decide)]
      by_cases c2 : 1 ≤ a ∧ a ≤ 999
      · rw [s_in_t c2, if_neg (by decide)]
        refine ⟨⟨by omega, by omega⟩, ?_⟩
        by_cases c3 : a + 1 ≤ b ∧ b ≤ 999
        · rw [s_in_t c3, if_neg (by decide), s_in_f (fun z => nV ⟨c1, by omega, z⟩), if_pos rfl]; exact ⟨rfl, hI⟩
        · rw [s_in_f c3, if_pos rfl]; exact ⟨rfl, hI⟩
      · rw [s_in_f c2, if_pos rfl]; exact ⟨rfl, hI⟩
    · rw [s_in_f c1, if_pos rfl]; exact ⟨rfl, hI⟩
  unfold v_X11_judge j_X11_judge_22
  by_cases c1 : 0 ≤ m ∧ m ≤ 3
  rotate_left
  · rw [s_isMeasure_f c1, if_pos rfl]; exact no (fun z => c1 z.1)
  rw [s_isMeasure_t c1, if_neg (by decide)]
  by_cases c2 : 1 ≤ a ∧ a < b ∧ b ≤ 999
  rotate_left
  · have e : (if a < 1 then (0 : Int) else (if a < b then (if 999 < b then 0 else 1) else 0)) = 0 := by
      repeat' split
      all_goals omega
    rw [e, if_pos rfl]; exact no (fun z => c2 z.2.1)
  have e : (if a < 1 then (0 : Int) else (if a < b then (if 999 < b then 0 else 1) else 0)) = 1 := by
    rw [if_neg (by omega), if_pos (by omega), if_neg (by omega)]
  rw [e, if_neg (by decide)]
  by_cases c3 : 0 ≤ w ∧ w ≤ 1
  rotate_left
  · by_cases z : w < 0
    · rw [if_pos z]; exact no (fun z => c3 z.2.2)
    · rw [if_neg z, if_pos (by omega)]; exact no (fun z => c3 z.2.2)
  rw [if_neg (by omega), if_neg (by omega)]
  obtain ⟨k, rfl⟩ : ∃ k : Nat, m = k := ⟨m.toNat, by omega⟩
  have yes : ∀ r, r = (if w = 0 then unevF σ k a b else (closeF σ k a b : Nat)) → v_X12_judge k a b w σ (fun r2 σ2 => r = r2 ∧ INV σ2) := by
    intro r hr
    unfold v_X12_judge
    rw [s_in_t c1, if_neg (by decide), s_in_t ⟨c2.1, by omega⟩, if_neg (by decide)]
    refine ⟨⟨by omega, by omega⟩, ?_⟩
    rw [s_in_t ⟨by omega, by omega⟩, if_neg (by decide), s_in_t c3, if_neg (by decide)]
    refine s_judgeE hI.k SAME.rf rfl (by omega) c2 (fun ω hω => ?_)
    by_cases z : w = 0
    · rw [if_pos z]; rw [if_pos z] at hr
      exact ⟨by rw [hr, hω.2.2.1], inv_core hω.1 hI⟩
    · rw [if_neg z]; rw [if_neg z] at hr
      exact ⟨by rw [hr, hω.2.2.2], inv_core hω.1 hI⟩
  by_cases z : w = 0
  · rw [if_pos z]
    refine s_below hI.k rfl (by omega) (s_below hI.k rfl (by omega) (s_below hI.k rfl (by omega) ?_))
    exact s_diff hI.k (by omega) c2.2.1 rfl rfl (by rw [blo_all hI.k (by omega)]) (yes _ (by rw [if_pos z]))
  · rw [if_neg z]
    refine s_nearE hI.k rfl (by omega) (by omega) (s_nearE hI.k rfl (by omega) (by omega) ?_)
    rw [ior_orF (by omega)]
    exact s_bitsF (by omega) (yes _ (by rw [if_neg z]; rfl))
