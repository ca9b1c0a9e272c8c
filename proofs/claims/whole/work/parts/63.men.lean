/-! PURE FACTS, 32: men -/
theorem sum_add {f g : Nat → Int} : ∀ n : Nat, sumF (fun k => f k + g k) n = sumF f n + sumF g n := by
  intro n
  induction n with
  | zero => rfl
  | succ n ih => show sumF (fun k => f k + g k) n + (f n + g n) = sumF f n + f n + (sumF g n + g n); rw [ih]; omega
theorem sum_swap {f : Nat → Nat → Int} {m : Nat} : ∀ n : Nat, sumF (fun c => sumF (fun d => f c d) m) n = sumF (fun d => sumF (fun c => f c d) n) m := by
  intro n
  induction n with
  | zero => exact (sum_0 m).symm
  | succ n ih =>
    show sumF (fun c => sumF (fun d => f c d) m) n + sumF (fun d => f n d) m = sumF (fun d => sumF (fun c => f c d) n + f n d) m
    rw [ih, sum_add]
theorem sum_z {f : Nat → Int} {n : Nat} (h : ∀ k, k < n → f k = 0) : sumF f n = 0 := by
  rw [← sum_0 n]; exact sumF_congr h
theorem cnt_ex {P : Nat → Prop} [DecidablePred P] : ∀ n : Nat, 0 < cntF P n → ∃ d, d < n ∧ P d := by
  intro n
  induction n with
  | zero => intro h; exact absurd h (Nat.lt_irrefl 0)
  | succ n ih =>
    intro h
    by_cases q : P n
    · exact ⟨n, by omega, q⟩
    · have e : cntF P (n + 1) = cntF P n + if P n then 1 else 0 := rfl
      rw [if_neg q] at e
      obtain ⟨d, hd, p⟩ := ih (by omega)
      exact ⟨d, by omega, p⟩
theorem cnt_mono {P R : Nat → Prop} [DecidablePred P] [DecidablePred R] : ∀ n : Nat, (∀ k, k < n → P k → R k) → cntF P n ≤ cntF R n := by
  intro n
  induction n with
  | zero => intro _; exact Nat.le_refl _
  | succ n ih =>
    intro h
    have e1 : cntF P (n + 1) = cntF P n + if P n then 1 else 0 := rfl
    have e2 : cntF R (n + 1) = cntF R n + if R n then 1 else 0 := rfl
    have := ih (fun k hk => h k (by omega))
    by_cases q : P n
    · rw [if_pos q] at e1; rw [if_pos (h n (by omega) q)] at e2; omega
    · rw [if_neg q] at e1; omega
theorem cnt_in {P : Nat → Prop} [DecidablePred P] {d : Nat} : ∀ n : Nat, d < n → P d → 0 < cntF P n := by
  intro n
  induction n with
  | zero => intro h; omega
  | succ n ih =>
    intro hd p
    have e1 : cntF P (n + 1) = cntF P n + if P n then 1 else 0 := rfl
    by_cases z : d = n
    · subst z; rw [if_pos p] at e1; omega
    · have := ih (by omega) p; omega
def mxF (f : Nat → Nat) : Nat → Nat
  | 0 => 0
  | n + 1 => if mxF f n < f n then f n else mxF f n
theorem mx_le {f : Nat → Nat} {B : Nat} : ∀ n : Nat, (∀ k, k < n → f k ≤ B) → mxF f n ≤ B := by
  intro n
  induction n with
  | zero => intro _; exact Nat.zero_le _
  | succ n ih =>
    intro h
    show (if mxF f n < f n then f n else mxF f n) ≤ B
    have := ih (fun k hk => h k (by omega)); have := h n (by omega)
    split <;> omega
theorem le_mx {f : Nat → Nat} {k : Nat} : ∀ n : Nat, k < n → f k ≤ mxF f n := by
  intro n
  induction n with
  | zero => intro h; omega
  | succ n ih =>
    intro hk
    show f k ≤ (if mxF f n < f n then f n else mxF f n)
    by_cases z : k = n
    · subst z; split <;> omega
    · have := ih (by omega); split <;> omega
abbrev oneP (l : Nat → Int) (c : Nat) : Nat → Prop := fun d => ¬ l c = -4 ∧ l c = l d
abbrev ownF (l : Nat → Int) (n c : Nat) : Nat := cntF (fun d => l d = (c : Int)) n
abbrev grcF (l : Nat → Int) (n c : Nat) : Nat := cntF (fun d => c ≤ d ∧ oneP l c d) n
def quC (σ : Mem) (l : Nat → Int) (c d : Nat) : Int := if c < d ∧ oneP l c d ∧ ¬ σ 18 (24 * c + d) = 0 then 1 else 0
def quM (σ : Mem) (l : Nat → Int) (c d : Nat) : Int := if d < c ∧ oneP l c d ∧ ¬ σ 147 (24 * c + d) = 0 then 1 else 0
theorem quC_rng {σ : Mem} {l : Nat → Int} {c d : Nat} : 0 ≤ quC σ l c d ∧ quC σ l c d ≤ 1 := by unfold quC; split <;> omega
theorem quM_rng {σ : Mem} {l : Nat → Int} {c d : Nat} : 0 ≤ quM σ l c d ∧ quM σ l c d ≤ 1 := by unfold quM; split <;> omega
theorem own_root {σ : Mem} {l : Nat → Int} (h : FinL σ l) {c : Nat} : 0 < ownF l (σ 16 2).toNat c → l c = c := by
  intro q
  obtain ⟨d, hd, e⟩ := cnt_ex _ q
  rcases h.1 d (by omega) with ⟨_, z⟩ | ⟨_, k, ek, lk, r⟩
  · omega
  · have kc : k = c := by omega
    subst kc
    rw [h.cst r]; exact e
theorem num_eq {σ : Mem} {l : Nat → Int} (h : FinL σ l) : cntF (fun c => l c = (c : Int)) (σ 16 2).toNat = cntF (fun c => 0 < ownF l (σ 16 2).toNat c) (σ 16 2).toNat :=
  cntF_congr (fun k hk => ⟨fun z => cnt_in _ hk z, fun z => own_root h z⟩)
theorem grt_eq {σ : Mem} {l : Nat → Int} (h : FinL σ l) : mxF (grcF l (σ 16 2).toNat) (σ 16 2).toNat = mxF (ownF l (σ 16 2).toNat) (σ 16 2).toNat := by
  refine Nat.le_antisymm (mx_le _ (fun c hc => ?_)) (mx_le _ (fun c hc => ?_))
  · by_cases q : 0 < grcF l (σ 16 2).toNat c
    · obtain ⟨d, hd, e1, e2⟩ := cnt_ex _ q
      rcases h.1 c (by omega) with ⟨_, z⟩ | ⟨_, k, ek, lk, r⟩
      · exact absurd z e2.1
      · refine Nat.le_trans (cnt_mono (R := fun d => l d = (k : Int)) _ (fun x hx y => ?_)) (le_mx (f := ownF l (σ 16 2).toNat) (k := k) _ (by omega))
        rw [← y.2.2]; exact ek
    · omega
  · by_cases q : 0 < ownF l (σ 16 2).toNat c
    · have e := own_root h q
      refine Nat.le_trans (cnt_mono (R := fun d => c ≤ d ∧ oneP l c d) _ (fun x hx y => ?_)) (le_mx (f := grcF l (σ 16 2).toNat) (k := c) _ hc)
      refine ⟨?_, by omega, by omega⟩
      rcases h.1 x (by omega) with ⟨_, z⟩ | ⟨_, k, ek, lk, r⟩ <;> omega
    · omega
theorem qua_eq {σ : Mem} (hB : I_bars σ) (n24 : σ 16 2 ≤ 24) {l : Nat → Int} : sumF (fun c => sumF (quC σ l c) (σ 16 2).toNat) (σ 16 2).toNat = sumF (fun c => sumF (quM σ l c) (σ 16 2).toNat) (σ 16 2).toNat := by
  rw [sum_swap (f := quC σ l)]
  refine sumF_congr (fun d hd => sumF_congr (fun c hc => ?_))
  show quC σ l c d = quM σ l d c
  unfold quC quM
  by_cases z : c < d
  · have b := (hB.2 c d z (by omega)).2.2
    rw [b]
    by_cases y : oneP l c d ∧ ¬ σ 18 (24 * c + d) = 0
    · rw [if_pos ⟨z, y⟩, if_pos ⟨z, ⟨by rw [← y.1.2]; exact y.1.1, y.1.2.symm⟩, y.2⟩]
    · rw [if_neg (fun w => y w.2), if_neg (fun w => y ⟨⟨by rw [← w.2.1.2]; exact w.2.1.1, w.2.1.2.symm⟩, w.2.2⟩)]
  · rw [if_neg (fun w => z w.1), if_neg (fun w => z w.1)]
/-- the class's three answers -/
theorem s_number {τ : Mem} {Q : Int → Mem → Prop} (n24 : 0 ≤ τ 16 2 ∧ τ 16 2 ≤ 24) (h : Q (cntF (fun c => τ 104 c = (c : Int)) (τ 16 2).toNat : Nat) τ) : v_X4_number τ Q := by
  unfold v_X4_number
  refine lp1a (l_X4_number_4 Q) (fun k a s => s = τ ∧ a = (cntF (fun c => τ 104 c = (c : Int)) k : Nat)) (τ 16 2).toNat 0 τ ⟨rfl, rfl⟩ ?_ ?_
  · rintro n a s ⟨rfl, rfl⟩
    rw [l_X4_number_4, if_neg (by omega)]; exact h
  · rintro n k a s hk ⟨hs, ha⟩ ih
    subst hs
    have le := cntF_le (P := fun c => s 104 c = (c : Int)) k
    have st := cnt_step (fun c => s 104 c = (c : Int)) k
    rw [l_X4_number_4, if_pos (by omega), Int.toNat_natCast]
    unfold j_X4_number_31
    rw [s_bit, bit01]
    refine ⟨by omega, by omega, ?_⟩
    by_cases z : s 104 k = (k : Int)
    · rw [if_pos z]; rw [if_pos z] at st
      exact ⟨⟨by omega, by omega⟩, ⟨by omega, by omega⟩, ih _ _ ⟨rfl, by omega⟩⟩
    · rw [if_neg z]; rw [if_neg z] at st
      exact ⟨⟨by omega, by omega⟩, ⟨by omega, by omega⟩, ih _ _ ⟨rfl, by omega⟩⟩
theorem s_isOne {τ : Mem} {c d : Nat} {p q : Int} {Q : Int → Mem → Prop} (hp : p = c) (hq : q = d) (hc : c < 24) (hd : d < 24) (h : Q (if oneP (τ 104) c d then 1 else 0) τ) : v_X4_isOne p q τ Q := by
  subst hp; subst hq
  unfold v_X4_isOne
  rw [Int.toNat_natCast, Int.toNat_natCast]
  refine ⟨by omega, by omega, ?_⟩
  by_cases g : τ 104 c = -4
  · rw [if_pos g]; rw [if_neg (fun z => z.1 g)] at h; exact h
  · rw [if_neg g]
    refine ⟨by omega, by omega, ?_⟩
    by_cases g2 : τ 104 c = τ 104 d
    · rw [if_pos g2]; rw [if_pos ⟨g, g2⟩] at h; exact h
    · rw [if_neg g2]; rw [if_neg (fun z => g2 z.2)] at h; exact h
theorem s_greatest {τ : Mem} {Q : Int → Mem → Prop} (n24 : 0 ≤ τ 16 2 ∧ τ 16 2 ≤ 24) (h : Q (mxF (grcF (τ 104) (τ 16 2).toNat) (τ 16 2).toNat : Nat) τ) : v_X4_greatest τ Q := by
  unfold v_X4_greatest
  refine lp1a (l_X4_greatest_4 Q) (fun k a s => s = τ ∧ a = (mxF (grcF (τ 104) (τ 16 2).toNat) k : Nat)) (τ 16 2).toNat 0 τ ⟨rfl, rfl⟩ ?_ ?_
  · rintro n a s ⟨rfl, rfl⟩
    rw [l_X4_greatest_4, if_neg (by omega)]; exact h
  · rintro n c a s hc ⟨hs, ha⟩ ih
    subst hs
    rw [l_X4_greatest_4, if_pos (by omega)]
    have LL := loop_0 (fun n2 (k : Nat) (t : Int × Mem) => l_X4_greatest_20 a c (fun x1_ x2_ σ_ => l_X4_greatest_4 Q n x1_ x2_ σ_) Q n2 t.1 ((c + k : Nat) : Int) t.2) (fun k t => t.2 = s ∧ t.1 = (cntF (fun d => c ≤ d ∧ oneP (s 104) c d) (c + k) : Nat)) ((s 16 2).toNat - c) (0, s) ⟨rfl, ?_⟩ ?_ ?_
    · exact LL
    · have : cntF (fun d => c ≤ d ∧ oneP (s 104) c d) (c + 0) = 0 := by
        by_cases q : 0 < cntF (fun d => c ≤ d ∧ oneP (s 104) c d) (c + 0)
        · obtain ⟨d, hd, e, _⟩ := cnt_ex _ q; omega
        · omega
      rw [this]; rfl
    · rintro n2 ⟨x, t⟩ ⟨ht, hx⟩
      dsimp only at ht hx ⊢
      subst ht
      rw [l_X4_greatest_20, if_neg (by omega)]
      refine ⟨⟨by omega, by omega⟩, ih _ _ ⟨rfl, ?_⟩⟩
      have eg : cntF (fun d => c ≤ d ∧ oneP (t 104) c d) (t 16 2).toNat = grcF (t 104) (t 16 2).toNat c := rfl
      rw [hx, ha, show c + ((t 16 2).toNat - c) = (t 16 2).toNat by omega, eg]
      show imax _ _ = ((if mxF (grcF (t 104) (t 16 2).toNat) c < grcF (t 104) (t 16 2).toNat c then grcF (t 104) (t 16 2).toNat c else mxF (grcF (t 104) (t 16 2).toNat) c : Nat) : Int)
      unfold imax
      split <;> split <;> omega
    · rintro n2 k ⟨x, t⟩ hk ⟨ht, hx⟩ jh
      dsimp only at ht hx jh ⊢
      have jh := fun b1 (s1 : Mem) hh => jh (b1, s1) hh
      dsimp only at jh
      subst ht
      have le := cntF_le (P := fun d => c ≤ d ∧ oneP (t 104) c d) (c + k)
      have st := cnt_step (fun d => c ≤ d ∧ oneP (t 104) c d) (c + k)
      have e1 : ((c + k : Nat) : Int) + 1 = ((c + (k + 1) : Nat) : Int) := by omega
      rw [l_X4_greatest_20, if_pos (by omega), e1]
      refine s_isOne rfl rfl (by omega) (by omega) ?_
      rw [s_bit, bit01]
      by_cases z : oneP (t 104) c (c + k)
      · rw [if_pos z]; rw [if_pos ⟨by omega, z⟩] at st
        exact ⟨⟨by omega, by omega⟩, ⟨by omega, by omega⟩, jh _ _ ⟨rfl, by rw [show c + (k + 1) = c + k + 1 by omega, st]; omega⟩⟩
      · rw [if_neg z]; rw [if_neg (fun y => z y.2)] at st
        exact ⟨⟨by omega, by omega⟩, ⟨by omega, by omega⟩, jh _ _ ⟨rfl, by rw [show c + (k + 1) = c + k + 1 by omega, st]; omega⟩⟩
theorem sum_step (f : Nat → Int) (n : Nat) : sumF f (n + 1) = sumF f n + f n := rfl
theorem s_quarrels {τ : Mem} {Q : Int → Mem → Prop} (hB : I_bars τ) (n24 : 0 ≤ τ 16 2 ∧ τ 16 2 ≤ 24) (h : Q (sumF (fun c => sumF (quC τ (τ 104) c) (τ 16 2).toNat) (τ 16 2).toNat) τ) : v_X4_quarrels τ Q := by
  have rin : ∀ c k : Nat, 0 ≤ sumF (quC τ (τ 104) c) k ∧ sumF (quC τ (τ 104) c) k ≤ k * 1 := fun c k => sumF_rng (fun _ _ => quC_rng)
  have rout : ∀ k : Nat, 0 ≤ sumF (fun c => sumF (quC τ (τ 104) c) (τ 16 2).toNat) k ∧ sumF (fun c => sumF (quC τ (τ 104) c) (τ 16 2).toNat) k ≤ k * 24 := fun k => sumF_rng (fun c _ => by have := rin c (τ 16 2).toNat; omega)
  unfold v_X4_quarrels
  refine lp1a (l_X4_quarrels_4 Q) (fun k a s => s = τ ∧ a = sumF (fun c => sumF (quC τ (τ 104) c) (τ 16 2).toNat) k) (τ 16 2).toNat 0 τ ⟨rfl, rfl⟩ ?_ ?_
  · rintro n a s ⟨rfl, rfl⟩
    rw [l_X4_quarrels_4, if_neg (by omega)]; exact h
  · rintro n c a s hc ⟨hs, ha⟩ ih
    subst hs
    rw [l_X4_quarrels_4, if_pos (by omega)]
    refine ⟨⟨by omega, by omega⟩, ?_⟩
    have ro := rout c
    have LL := loop_0 (fun n2 (k : Nat) (t : Int × Mem) => l_X4_quarrels_19 c (fun x1_ x2_ σ_ => l_X4_quarrels_4 Q n x1_ x2_ σ_) Q n2 t.1 ((c + 1 + k : Nat) : Int) t.2) (fun k t => t.2 = s ∧ t.1 = a + sumF (quC s (s 104) c) (c + 1 + k)) ((s 16 2).toNat - (c + 1)) (a, s) ⟨rfl, ?_⟩ ?_ ?_
    · exact LL
    · dsimp only
      rw [sum_z (fun k hk => by unfold quC; rw [if_neg (fun w => by have := w.1; omega)])]; omega
    · rintro n2 ⟨x, t⟩ ⟨ht, hx⟩
      dsimp only at ht hx ⊢
      subst ht
      rw [l_X4_quarrels_19, if_neg (by omega)]
      refine ⟨⟨by omega, by omega⟩, ih _ _ ⟨rfl, ?_⟩⟩
      rw [hx, ha, show c + 1 + ((t 16 2).toNat - (c + 1)) = (t 16 2).toNat by omega]; rfl
    · rintro n2 k ⟨x, t⟩ hk ⟨ht, hx⟩ jh
      dsimp only at ht hx jh ⊢
      have jh := fun b1 (s1 : Mem) hh => jh (b1, s1) hh
      dsimp only at jh
      subst ht
      have e1 : ((c + 1 + k : Nat) : Int) + 1 = ((c + 1 + (k + 1) : Nat) : Int) := by omega
      have st := sum_step (quC t (t 104) c) (c + 1 + k)
      have ri := rin c (c + 1 + k)
      have add : ∀ v : Int, v = quC t (t 104) c (c + 1 + k) → (v = 0 ∨ v = 1) → v_X11_bit v t (fun r2 σ3 => inR (x + r2) ∧ inR ((c + 1 + (k + 1) : Nat) : Int) ∧ l_X4_quarrels_19 c (fun x1_ x2_ σ_ => l_X4_quarrels_4 Q n x1_ x2_ σ_) Q n2 (x + r2) ((c + 1 + (k + 1) : Nat) : Int) σ3) := by
        intro v hv h01
        have bv : (if v = 0 then (0 : Int) else 1) = v := by rcases h01 with z | z <;> rw [z] <;> rfl
        rw [s_bit, bv]
        refine ⟨⟨by omega, by omega⟩, ⟨by omega, by omega⟩, jh _ _ ⟨rfl, ?_⟩⟩
        rw [show c + 1 + (k + 1) = c + 1 + k + 1 by omega, st]; omega
      rw [l_X4_quarrels_19, if_pos (by omega)]
      unfold j_X4_quarrels_57
      rw [e1]
      refine s_isOne rfl rfl (by omega) (by omega) ?_
      by_cases z : oneP (t 104) c (c + 1 + k)
      · rw [if_pos z, if_neg (by decide)]
        refine s_isBar (a := c) (b := c + 1 + k) hB (Or.inl ⟨rfl, rfl⟩) (by omega) (by omega) ?_
        have b01 := (hB.2 c (c + 1 + k) (by omega) (by omega)).1
        by_cases y : t 18 (24 * c + (c + 1 + k)) = 0
        · rw [if_pos y]
          exact add 0 (by unfold quC; rw [if_neg (fun w => w.2.2 y)]) (Or.inl rfl)
        · rw [if_neg y]
          exact add 1 (by unfold quC; rw [if_pos ⟨by omega, z, y⟩]) (Or.inr rfl)
      · rw [if_neg z, if_pos rfl]
        exact add 0 (by unfold quC; rw [if_neg (fun w => z w.2.1)]) (Or.inl rfl)
