/-! PURE FACTS, 20: matches, in their order -/
theorem core_97 (k : Nat) : core 97 k = false := rfl
theorem core_98 (k : Nat) : core 98 k = false := rfl
theorem core_152 (k : Nat) : core 152 k = false := rfl
def missT (σ : Mem) (c : Nat) : Int := if σ (23 + 3 * c) 5 = -4 then -4 else missG σ c (σ 96) (sprF σ c + σ 15 (8 + σ 95 1).toNat) 4 0
abbrev matP (σ : Mem) : Nat → Prop := fun c => ¬ missT σ c = -4
theorem missT_same {σ0 σ : Mem} (hs : SAME σ0 σ) {c : Nat} (hc : c < 24) : missT σ c = missT σ0 c := by
  unfold missT
  rw [missG_same hs hc, sprF_same hs hc, (same_now hs).2, same_card hs (j := 23 + 3 * c) (by omega) (by omega), same_fn hs 96 (fun _ => rfl), hs 95 1 rfl]
theorem tellD {σ : Mem} (hI : INVt σ) (h : ¬ σ 95 0 = 0) : σ 122 39 = σ 95 1 ∧ 0 ≤ σ 95 1 ∧ σ 95 1 ≤ 5 ∧ ∀ m : Nat, m < 4 → σ 148 m = σ 96 m ∧ 0 ≤ σ 96 m ∧ σ 96 m ≤ 999 := by
  rcases hI.t with ⟨z, _⟩ | ⟨_, z⟩
  · exact absurd z h
  · exact z
theorem tellN {σ : Mem} (hI : INVt σ) (h : σ 95 0 = 0) : σ 122 39 = -4 := by
  rcases hI.t with ⟨_, z⟩ | ⟨z, _⟩
  · exact z
  · omega
def lexP (w : Nat → Int) (a b : Nat) : Prop := w a < w b ∨ (w a = w b ∧ a < b)
theorem lexP_tr {w : Nat → Int} {a b c : Nat} (h1 : lexP w a b) (h2 : lexP w b c) : lexP w a c := by
  unfold lexP at *; omega
def Srt (M : Nat → Prop) (w : Nat → Int) (o : Nat → Int) (q n : Nat) : Prop :=
  (∀ i, i < q → ∃ c : Nat, c < n ∧ M c ∧ o i = c) ∧ (∀ c, c < n → M c → ∃ i, i < q ∧ o i = c) ∧ (∀ i j, i < j → j < q → lexP w (o i).toNat (o j).toNat)
theorem srt_ins {M : Nat → Prop} {w o o' : Nat → Int} {q n i : Nat} (hS : Srt M w o q n) (hM : M n) (hi : i ≤ q) (h1 : ∀ k, k < i → o' k = o k) (h2 : ∀ k, i < k → k ≤ q → o' k = o (k - 1)) (h3 : o' i = n) (h4 : ∀ k, i ≤ k → k < q → w n < w (o k).toNat) (h5 : i = 0 ∨ w (o (i - 1)).toNat ≤ w n) : Srt M w o' (q + 1) (n + 1) := by
  obtain ⟨a1, a2, a3⟩ := hS
  have lt : ∀ k, k < q → (o k).toNat < n := by
    intro k hk
    obtain ⟨c, hc, _, e⟩ := a1 k hk
    omega
  refine ⟨fun j hj => ?_, fun c hc hMc => ?_, fun a b hab hb => ?_⟩
  · rcases Nat.lt_trichotomy j i with z | z | z
    · obtain ⟨c, hc, m, e⟩ := a1 j (by omega)
      exact ⟨c, by omega, m, by rw [h1 j z]; exact e⟩
    · subst z; exact ⟨n, by omega, hM, h3⟩
    · obtain ⟨c, hc, m, e⟩ := a1 (j - 1) (by omega)
      exact ⟨c, by omega, m, by rw [h2 j z (by omega)]; exact e⟩
  · by_cases e : c = n
    · subst e; exact ⟨i, by omega, h3⟩
    · obtain ⟨j, hj, e2⟩ := a2 c (by omega) hMc
      by_cases z : j < i
      · exact ⟨j, by omega, by rw [h1 j z]; exact e2⟩
      · exact ⟨j + 1, by omega, by rw [h2 (j + 1) (by omega) (by omega)]; exact e2⟩
  · have low : ∀ k, k < i → lexP w (o k).toNat n := by
      intro k hk
      have l := lt k (by omega)
      have z : w (o (i - 1)).toNat ≤ w n := by
        rcases h5 with z | z
        · omega
        · exact z
      have l2 := lt (i - 1) (by omega)
      have top : lexP w (o (i - 1)).toNat n := by unfold lexP; omega
      by_cases e : k = i - 1
      · rw [e]; exact top
      · exact lexP_tr (a3 k (i - 1) (by omega) (by omega)) top
    rcases Nat.lt_trichotomy b i with z | z | z
    · rw [h1 a (by omega), h1 b z]; exact a3 a b hab (by omega)
    · rw [h1 a (by omega), z, h3, Int.toNat_natCast]; exact low a (by omega)
    · rw [h2 b z (by omega)]
      rcases Nat.lt_trichotomy a i with y | y | y
      · rw [h1 a y]; exact a3 a (b - 1) (by omega) (by omega)
      · rw [y, h3, Int.toNat_natCast]; exact Or.inl (h4 (b - 1) (by omega) (by omega))
      · rw [h2 a y (by omega)]; exact a3 (a - 1) (b - 1) (by omega) (by omega)
theorem srt_skip {M : Nat → Prop} {w o : Nat → Int} {q n : Nat} (hS : Srt M w o q n) (hM : ¬ M n) : Srt M w o q (n + 1) := by
  obtain ⟨a1, a2, a3⟩ := hS
  refine ⟨fun j hj => ?_, fun c hc hMc => ?_, a3⟩
  · obtain ⟨c, hc, z⟩ := a1 j hj; exact ⟨c, by omega, z⟩
  · by_cases e : c = n
    · subst e; exact absurd hMc hM
    · exact a2 c (by omega) hMc
theorem srt_congr {M : Nat → Prop} {w w2 o o2 : Nat → Int} {q n : Nat} (hS : Srt M w o q n) (hw : ∀ c, c < n → w c = w2 c) (ho : ∀ i, i < q → o i = o2 i) : Srt M w2 o2 q n := by
  obtain ⟨a1, a2, a3⟩ := hS
  refine ⟨fun j hj => ?_, fun c hc hMc => ?_, fun a b hab hb => ?_⟩
  · rw [← ho j hj]; exact a1 j hj
  · obtain ⟨i, hi, e⟩ := a2 c hc hMc; exact ⟨i, hi, by rw [← ho i hi]; exact e⟩
  · have z := a3 a b hab hb
    obtain ⟨c, hc, _, e⟩ := a1 a (by omega)
    obtain ⟨d, hd, _, f⟩ := a1 b (by omega)
    rw [← ho a (by omega), ← ho b hb]
    unfold lexP at z ⊢
    rw [e, f, Int.toNat_natCast, Int.toNat_natCast] at z ⊢
    rw [← hw c hc, ← hw d hd]; exact z
/-- the class's insertion -/
theorem s_insert {σ : Mem} {c q : Nat} {M : Nat → Prop} {Q : Int → Mem → Prop} (hq : σ 95 5 = q) (hqc : q ≤ c) (hc : c < 24) (hM : M c) (hS : Srt M (σ 97) (σ 98) q c) (h : ∀ τ, (∀ j k, ¬ ((j = 95 ∧ k = 5) ∨ j = 98) → τ j k = σ j k) → τ 95 5 = ((q + 1 : Nat) : Int) → Srt M (σ 97) (τ 98) (q + 1) (c + 1) → Q 0 τ) : v_X10_insert c σ Q := by
  unfold v_X10_insert
  rw [hq]
  have or : ∀ k, k < q → ∃ x : Nat, x < c ∧ σ 98 k = x := fun k hk => by
    obtain ⟨x, hx, _, e⟩ := hS.1 k hk; exact ⟨x, hx, e⟩
  have main : ∀ n i : Nat, i ≤ q → i < n → ∀ τ : Mem, (∀ j k, j ≠ 98 → τ j k = σ j k) → (∀ k, k < i → τ 98 k = σ 98 k) → (∀ k, i < k → k ≤ q → τ 98 k = σ 98 (k - 1)) → (∀ k, i ≤ k → k < q → σ 97 c < σ 97 (σ 98 k).toNat) → l_X10_insert_5 c Q n i τ := by
    intro n
    induction n with
    | zero => intro i _ h0; omega
    | succ n ih =>
      intro i hi hin τ t1 t2 t3 t4
      have fin : (i = 0 ∨ σ 97 (σ 98 (i - 1)).toNat ≤ σ 97 c) → j_X10_insert_51 c Q i τ := by
        intro z
        unfold j_X10_insert_51
        have e5 : τ 95 5 = q := by rw [t1 95 5 (by decide)]; exact hq
        rw [e5, Int.toNat_natCast]
        refine ⟨by omega, by omega, ⟨by omega, by omega⟩, h _ (fun j k y => ?_) (by rw [mset_eq]; omega) ?_⟩
        · rw [st_ne _ _ (by omega), mset_ne (by omega)]; exact t1 j k (by omega)
        · refine srt_ins hS hM hi (fun k hk => ?_) (fun k hk hk2 => ?_) ?_ t4 z
          · rw [mset_ne (by decide), mset_nei (by omega)]; exact t2 k hk
          · rw [mset_ne (by decide), mset_nei (by omega)]; exact t3 k hk hk2
          · rw [mset_ne (by decide), mset_eq]
      rw [l_X10_insert_5]
      by_cases z : 0 < (i : Int)
      · rw [if_pos z, show ((i : Int) - 1).toNat = i - 1 by omega, Int.toNat_natCast, Int.toNat_natCast, t2 (i - 1) (by omega)]
        obtain ⟨x, hx, e⟩ := or (i - 1) (by omega)
        have e97 : τ 97 = σ 97 := funext fun k => t1 97 k (by decide)
        rw [e97]
        refine ⟨by omega, by omega, by omega, by omega, by omega, by omega, ?_⟩
        by_cases g : σ 97 c < σ 97 (σ 98 (i - 1)).toNat
        · rw [if_pos g]
          refine ⟨by omega, by omega, ⟨by omega, by omega⟩, ?_⟩
          rw [show (i : Int) + -1 = ((i - 1 : Nat) : Int) by omega]
          refine ih (i - 1) (by omega) (by omega) _ (fun j k hj => ?_) (fun k hk => ?_) (fun k hk hk2 => ?_) (fun k hk hk2 => ?_)
          · rw [mset_ne hj]; exact t1 j k hj
          · rw [mset_nei (by omega)]; exact t2 k (by omega)
          · by_cases y : k = i
            · subst y; rw [mset_eq]
            · rw [mset_nei y]; exact t3 k (by omega) hk2
          · by_cases y : k = i - 1
            · rw [y]; exact g
            · exact t4 k (by omega) hk2
        · rw [if_neg g]; exact fin (Or.inr (by omega))
      · rw [if_neg z]; exact fin (Or.inl (by omega))
  exact ⟨q + 1, main (q + 1) q (Nat.le_refl _) (by omega) σ (fun _ _ _ => rfl) (fun _ _ => rfl) (fun k h1 h2 => by omega) (fun k h1 h2 => by omega)⟩
theorem s_findM {σ : Mem} {Q : Int → Mem → Prop} (hI : INV σ) (ht : ¬ σ 95 0 = 0) (h : ∀ τ, SAME σ τ → τ 95 5 = (cntF (matP σ) (σ 16 2).toNat : Nat) → τ 95 6 = orF (matP σ) (σ 16 2).toNat → (∀ c, c < (σ 16 2).toNat → τ 97 c = missT σ c) → Srt (matP σ) (missT σ) (τ 98) (cntF (matP σ) (σ 16 2).toNat) (σ 16 2).toNat → Q 0 τ) : v_X10_findMatches σ Q := by
  obtain ⟨t1, t2, t3, t4⟩ := tellD hI.kt ht
  have n24 := hI.c.2.2.1
  unfold v_X10_findMatches
  refine lp0 (l_X10_findMatches_17 Q) (fun k τ => SAME σ τ ∧ τ 95 5 = (cntF (matP σ) k : Nat) ∧ τ 95 6 = orF (matP σ) k ∧ (∀ c, c < k → τ 97 c = missT σ c) ∧ Srt (matP σ) (missT σ) (τ 98) (cntF (matP σ) k) k) (σ 16 2).toNat _ ⟨(SAME.rf.st rfl).st rfl, ?_, ?_, fun c hc => absurd hc (by omega), ?_⟩ ?_ ?_
  · rw [mset_nei (by decide), mset_eq]; rfl
  · rw [mset_eq]; rfl
  · exact ⟨fun i hi => absurd hi (Nat.not_lt_zero _), fun c hc => absurd hc (by omega), fun i j _ hj => absurd hj (Nat.not_lt_zero _)⟩
  · rintro n τ ⟨h1, h2, h3, h4, h5⟩
    rw [l_X10_findMatches_17, if_neg (by rw [h1.n]; omega)]
    exact h τ h1 h2 h3 h4 h5
  · rintro n k τ hk ⟨h1, h2, h3, h4, h5⟩ ih
    have hc : (k : Int) < τ 16 2 := by rw [h1.n]; omega
    have jI := inv_core h1 hI
    rw [l_X10_findMatches_17, if_pos hc, Int.toNat_natCast]
    refine ⟨by omega, by omega, s_spr jI.k hc (s_spreadOf (by rw [h1 95 1 rfl]; exact ⟨t2, t3⟩) ?_)⟩
    have sr := sprF_rng jI.k hc
    have nr := (now_rng jI.k).2.1 (8 + τ 95 1).toNat (by rw [h1 95 1 rfl]; omega) (by rw [h1 95 1 rfl]; omega)
    have e96 := same_fn h1 96 (fun _ => rfl)
    refine ⟨⟨by omega, by omega⟩, s_missT jI hc (fun m hm => by rw [e96]; exact (t4 m hm).2) ?_⟩
    have em : (if τ (23 + 3 * k) 5 = -4 then -4 else missG τ k (τ 96) (sprF τ k + τ 15 (8 + τ 95 1).toNat) 4 0) = missT τ k := rfl
    rw [em, missT_same h1 (by omega)]
    have st := cnt_step (matP σ) k
    have so : orF (matP σ) (k + 1) = if matP σ k then ior (orF (matP σ) k) (ishl 1 k) else orF (matP σ) k := rfl
    have le := cntF_le (P := matP σ) k
    have i1 : inR ((k : Int) + 1) := ⟨by omega, by omega⟩
    have w97 : ∀ c, c < k + 1 → mset τ 97 k (missT σ k) 97 c = missT σ c := by
      intro c hc2
      by_cases e : c = k
      · rw [e, mset_eq]
      · rw [mset_nei e]; exact h4 c (by omega)
    by_cases g : missT σ k = -4
    · rw [if_pos g]
      rw [if_neg (fun z => z g)] at st so
      refine ⟨i1, ih _ ⟨h1.st rfl, ?_, ?_, w97, ?_⟩⟩
      · rw [mset_ne (by decide), st]; exact h2
      · rw [mset_ne (by decide), so]; exact h3
      · rw [st]
        exact srt_skip (srt_congr h5 (fun _ _ => rfl) (fun i _ => by rw [mset_ne (by decide)])) (fun z => z g)
    · rw [if_neg g]
      rw [if_pos g] at st so
      refine s_insert (q := cntF (matP σ) k) (M := matP σ) (by rw [mset_ne (by decide)]; exact h2) le (by omega) g ?_ ?_
      · exact srt_congr h5 (fun c hc2 => (w97 c (by omega)).symm) (fun i _ => by rw [mset_ne (by decide)])
      · intro ω o1 o2 o3
        have sω : SAME σ ω := by
          refine (h1.st (j := 97) (k := k) (v := missT σ k) rfl).tr (fun j i hj => ?_)
          refine o1 j i (fun z => ?_)
          rcases z with ⟨rfl, rfl⟩ | rfl
          · cases hj
          · cases hj
        refine ⟨i1, ih _ ⟨sω.st rfl, ?_, ?_, fun c hc2 => ?_, ?_⟩⟩
        · rw [mset_nei (by decide), o2, st]
        · rw [mset_eq, so, o1 95 6 (by omega), mset_ne (by decide), h3]
        · rw [mset_ne (by decide), o1 97 c (by omega)]; exact w97 c hc2
        · rw [st]
          exact srt_congr o3 (fun c hc2 => w97 c hc2) (fun i _ => by rw [mset_ne (by decide)])
/-- the model's side -/
def trT (σ τ : Mem) : Prop := SAME σ τ ∧ (∀ m, m < 4 → τ 152 m = σ 96 m) ∧ τ 122 47 = σ 15 (8 + σ 95 1).toNat
theorem s_tryT {σ : Mem} {Q : Int → Mem → Prop} (hI : INVt σ) (ht : ¬ σ 95 0 = 0) (h : ∀ τ, trT σ τ → Q 0 τ) : v_X12_tryTelling σ Q := by
  obtain ⟨t1, t2, t3, t4⟩ := tellD hI ht
  unfold v_X12_tryTelling
  refine lp0 (l_X12_tryTelling_2 Q) (fun k τ => SAME σ τ ∧ ∀ m, m < k → τ 152 m = σ 96 m) 4 σ ⟨SAME.rf, fun m hm => absurd hm (by omega)⟩ ?_ ?_
  · rintro n τ ⟨h1, h2⟩
    have jI := invt_core h1 hI
    rw [l_X12_tryTelling_2, if_neg (by decide), h1 122 39 rfl, t1]
    refine s_mspread jI.r (by omega) ?_
    have e : ruleF τ (8 + σ 95 1) (τ 122 0) = σ 15 (8 + σ 95 1).toNat := by
      rw [show (8 : Int) + σ 95 1 = (((8 + σ 95 1).toNat : Nat) : Int) by omega, now_r jI.n _ (by omega), (same_now h1).2, Int.toNat_natCast]
    rw [e]
    exact h _ ⟨h1.st rfl, fun m hm => by rw [mset_ne (by decide)]; exact h2 m hm, by rw [mset_eq]⟩
  · rintro n k τ hk ⟨h1, h2⟩ ih
    rw [l_X12_tryTelling_2, if_pos (by omega), Int.toNat_natCast]
    refine ⟨by omega, by omega, ⟨by omega, by omega⟩, ih _ ⟨h1.st rfl, fun m hm => ?_⟩⟩
    by_cases e : m = k
    · subst e; rw [mset_eq, h1 148 _ rfl]; exact (t4 m hk).1
    · rw [mset_nei e]; exact h2 m (by omega)
theorem s_missTT {σ τ : Mem} {c : Nat} {p : Int} {Q : Int → Mem → Prop} (hI : INVt σ) (ht : ¬ σ 95 0 = 0) (hτ : trT σ τ) (hp : p = c) (hc : (c : Int) < σ 16 2) (h : Q (missT σ c) τ) : v_X12_missOf p τ Q := by
  obtain ⟨t1, t2, t3, t4⟩ := tellD hI ht
  obtain ⟨h1, h2, h3⟩ := hτ
  have n24 := hI.c.2.2.1
  have nr := (now_rng hI.k).2.1 (8 + σ 95 1).toNat (by omega) (by omega)
  refine s_missOfC (invt_core h1 hI).k hp (by rw [h1.n]; exact hc) (fun m hm => by rw [h2 m hm]; exact (t4 m hm).2) (by rw [h3]; omega) ?_
  have e : (if τ (23 + 3 * c) 5 = -4 then -4 else missG τ c (τ 152) (sprF τ c + τ 122 47) 4 0) = missT σ c := by
    unfold missT
    rw [missG_same h1 (by omega), sprF_same h1 (by omega), same_card h1 (j := 23 + 3 * c) (by omega) (by omega), h3, missG_congr (t := τ 152) (u := σ 96) h2 4 0 (Nat.le_refl _)]
  rw [e]; exact h
theorem s_matches {σ : Mem} {Q : Int → Mem → Prop} (hI : INVt σ) (ht : ¬ σ 95 0 = 0) (h : ∀ τ, trT σ τ → Q (orF (matP σ) (σ 16 2).toNat) τ) : v_X12_matches σ Q := by
  have n24 := hI.c.2.2.1
  have n0 := hI.c.2.1
  unfold v_X12_matches
  refine s_tryT hI ht (fun τ hτ => ?_)
  have en : τ 122 24 = σ 16 2 := by rw [hτ.1 122 24 rfl]; exact hI.k.eqn
  refine lp1a (l_X12_matches_8 Q) (fun k x ω => ω = τ ∧ x = orF (matP σ) k) (σ 16 2).toNat 0 τ ⟨rfl, rfl⟩ ?_ ?_
  · rintro n x ω ⟨rfl, rfl⟩
    rw [l_X12_matches_8, if_neg (by omega)]; exact h ω hτ
  · rintro n k x ω hk ⟨hω, hx⟩ ih
    subst hω
    have xr : inR x := by rw [hx]; exact orF_rng _
    rw [l_X12_matches_8, if_pos (by omega)]
    refine s_missTT hI ht hτ rfl (by omega) ?_
    have so : orF (matP σ) (k + 1) = if matP σ k then ior (orF (matP σ) k) (ishl 1 k) else orF (matP σ) k := rfl
    by_cases g : missT σ k = -4
    · rw [if_pos g, ior_0 xr]
      exact ⟨⟨by omega, by omega⟩, ih _ _ ⟨rfl, by rw [so, if_neg (fun z => z g)]; exact hx⟩⟩
    · rw [if_neg g]
      exact ⟨⟨by omega, by omega⟩, ih _ _ ⟨rfl, by rw [so, if_pos g, hx]⟩⟩
theorem Bt_xor (x y : Int) (k : Nat) : Bt (ixor x y) k = (Bt x k ^^ Bt y k) := by
  unfold Bt ixor; rw [ofInt_toInt32]; simp
theorem Bt_m1 {k : Nat} (h : k < 32) : Bt (-1) k = true := by
  have a : ∀ k : Fin 32, Bt (-1) k.val = true := by decide
  exact a ⟨k, h⟩
def PK (L : Nat → Prop) (w : Nat → Int) (k : Nat) (x : Int) : Prop := (x = -4 ∧ ∀ c, c < k → ¬ L c) ∨ (∃ b : Nat, x = b ∧ b < k ∧ L b ∧ ∀ c, c < k → L c → c ≠ b → lexP w b c)
theorem pk_no {L : Nat → Prop} {w : Nat → Int} {k : Nat} {x : Int} (h : PK L w k x) (hL : ¬ L k) : PK L w (k + 1) x := by
  rcases h with ⟨e, h⟩ | ⟨b, e, hb, lb, h⟩
  · refine Or.inl ⟨e, fun c hc lc => ?_⟩
    by_cases z : c = k
    · subst z; exact hL lc
    · exact h c (by omega) lc
  · refine Or.inr ⟨b, e, by omega, lb, fun c hc lc z => ?_⟩
    by_cases y : c = k
    · subst y; exact absurd lc hL
    · exact h c (by omega) lc z
theorem pk_yes {L : Nat → Prop} {w : Nat → Int} {k : Nat} {x : Int} (h : PK L w k x) (hL : L k) : (x = -4 → PK L w (k + 1) k) ∧ (∀ b : Nat, x = b → (w k < w b → PK L w (k + 1) k) ∧ (¬ w k < w b → PK L w (k + 1) x)) := by
  refine ⟨fun e => ?_, fun b eb => ⟨fun g => ?_, fun g => ?_⟩⟩
  · rcases h with ⟨_, h⟩ | ⟨b, e2, _⟩
    · refine Or.inr ⟨k, rfl, by omega, hL, fun c hc lc z => absurd lc (h c (by omega))⟩
    · omega
  · rcases h with ⟨e, h⟩ | ⟨d, e, hb, lb, h⟩
    · omega
    · have : d = b := by omega
      subst this
      refine Or.inr ⟨k, rfl, by omega, hL, fun c hc lc z => ?_⟩
      by_cases y : c = d
      · subst y; exact Or.inl g
      · have := h c (by omega) lc y
        unfold lexP at *; omega
  · rcases h with ⟨e, h⟩ | ⟨d, e, hb, lb, h⟩
    · omega
    · have : d = b := by omega
      subst this
      refine Or.inr ⟨d, e, by omega, lb, fun c hc lc z => ?_⟩
      by_cases y : c = k
      · subst y; unfold lexP; omega
      · exact h c (by omega) lc z
theorem pk_srt {M : Nat → Prop} {w o : Nat → Int} {q n k : Nat} {x : Int} (hS : Srt M w o q n) (hkq : k ≤ q ∨ True) (h : PK (fun c => M c ∧ ∀ i, i < k → i < q → o i ≠ c) w n x) : x = if k < q then o k else -4 := by
  obtain ⟨a1, a2, a3⟩ := hS
  by_cases z : k < q
  · rw [if_pos z]
    obtain ⟨c, hc, mc, e⟩ := a1 k z
    have lc : ∀ i, i < k → i < q → o i ≠ c := by
      intro i hi hq e2
      have y := a3 i k hi z
      rw [e, e2] at y
      unfold lexP at y; omega
    rcases h with ⟨_, h⟩ | ⟨b, eb, hb, ⟨mb, lb⟩, h⟩
    · exact absurd ⟨mc, lc⟩ (h c hc)
    · obtain ⟨j, hj, ej⟩ := a2 b hb mb
      have hjk : ¬ j < k := fun y => lb j y hj ej
      by_cases y : j = k
      · subst y; rw [eb, ej]
      · have y1 := a3 k j (by omega) hj
        rw [e, ej, Int.toNat_natCast, Int.toNat_natCast] at y1
        have y2 := h c hc ⟨mc, lc⟩ (fun y => by subst y; unfold lexP at y1; omega)
        unfold lexP at y1 y2; omega
  · rw [if_neg z]
    rcases h with ⟨e, _⟩ | ⟨b, eb, hb, ⟨mb, lb⟩, h⟩
    · exact e
    · obtain ⟨j, hj, ej⟩ := a2 b hb mb
      exact absurd ej (lb j (by omega) hj)
theorem s_matchAt {σ τ : Mem} {i q : Nat} {o : Nat → Int} {Q : Int → Mem → Prop} (hI : INVt σ) (ht : ¬ σ 95 0 = 0) (hτ : trT σ τ) (hi : i < 24) (hS : Srt (matP σ) (missT σ) o q (σ 16 2).toNat) (h : Q (if i < q then o i else -4) τ) : v_X12_matchAt (orF (matP σ) (σ 16 2).toNat) i τ Q := by
  have n24 := hI.c.2.2.1
  have n0 := hI.c.2.1
  have en : τ 122 24 = σ 16 2 := by rw [hτ.1 122 24 rfl]; exact hI.k.eqn
  unfold v_X12_matchAt
  refine lp2a (fun n a b k s => l_X12_matchAt_9 (orF (matP σ) (σ 16 2).toNat) i Q n a b k s) (fun k a b s => s = τ ∧ (∀ c, c < (σ 16 2).toNat → (Bt a c = true ↔ (matP σ c ∧ ∀ j, j < k → j < q → o j ≠ c))) ∧ (0 < k → b = if k - 1 < q then o (k - 1) else -4)) (i + 1) (orF (matP σ) (σ 16 2).toNat) (-4) τ ⟨rfl, fun c hc => ?_, fun z => absurd z (by omega)⟩ ?_ ?_
  · rw [orF_Bt _ (by omega) c (by omega)]
    simp only [decide_eq_true_eq]
    exact ⟨fun z => ⟨z.2, fun j hj => absurd hj (by omega)⟩, fun z => ⟨hc, z.1⟩⟩
  · rintro n a b s ⟨rfl, h1, h2⟩
    rw [l_X12_matchAt_9, if_pos (by omega), h2 (by omega)]
    exact h
  · rintro n k a b s hk ⟨rfl, h1, h2⟩ ih
    rw [l_X12_matchAt_9, if_neg (by omega)]
    refine lp1a (l_X12_matchAt_22 (orF (matP σ) (σ 16 2).toNat) i a k (fun x3_ x4_ x5_ σ_ => l_X12_matchAt_9 (orF (matP σ) (σ 16 2).toNat) i Q n x3_ x4_ x5_ σ_) Q) (fun m x ω => ω = s ∧ PK (fun c => matP σ c ∧ ∀ j, j < k → j < q → o j ≠ c) (missT σ) m x) (σ 16 2).toNat (-4) s ⟨rfl, Or.inl ⟨rfl, fun c hc => absurd hc (by omega)⟩⟩ ?_ ?_
    · rintro m x ω ⟨rfl, hx⟩
      rw [l_X12_matchAt_22, if_neg (by omega)]
      have e := pk_srt hS (Or.inr trivial) hx
      by_cases z : k < q
      · rw [if_pos z] at e
        obtain ⟨c, hc, mc, ec⟩ := hS.1 k z
        rw [if_neg (by omega)]
        refine ⟨⟨by omega, by omega⟩, ih _ _ _ ⟨rfl, fun d hd => ?_, fun _ => ?_⟩⟩
        · rw [Bt_and, Bt_xor, Bt_m1 (by omega), e, ec, Bt_shl1 (by omega) d (by omega)]
          have b1 := h1 d hd
          by_cases y : d = c
          · subst y
            simp
            intro _
            exact ⟨k, by omega, z, ec⟩
          · have y2 : decide (d = c) = false := by simp [y]
            rw [y2]
            simp only [Bool.false_xor, Bool.and_true, b1]
            constructor
            · rintro ⟨z1, z2⟩
              refine ⟨z1, fun j hj hq => ?_⟩
              by_cases w : j = k
              · subst w; rw [ec]; intro w; exact y (by omega)
              · exact z2 j (by omega) hq
            · rintro ⟨z1, z2⟩
              exact ⟨z1, fun j hj hq => z2 j (by omega) hq⟩
        · rw [show k + 1 - 1 = k by omega, if_pos z, e]
      · rw [if_neg z] at e
        rw [if_pos e]
        refine ⟨⟨by omega, by omega⟩, ih _ _ _ ⟨rfl, fun d hd => ?_, fun _ => ?_⟩⟩
        · rw [Bt_and, Bool.and_self, h1 d hd]
          constructor
          · rintro ⟨z1, z2⟩
            exact ⟨z1, fun j hj hq => z2 j (by omega) hq⟩
          · rintro ⟨z1, z2⟩
            exact ⟨z1, fun j hj hq => z2 j (by omega) hq⟩
        · rw [show k + 1 - 1 = k by omega, if_neg z, e]
    · rintro m c x ω hc ⟨hω, hx⟩ jh
      subst hω
      have b1 := h1 c hc
      have i1 : inR ((c : Int) + 1) := ⟨by omega, by omega⟩
      rw [l_X12_matchAt_22, if_pos (by omega), Bt_has _ (by omega)]
      by_cases y : Bt a c = true
      · rw [if_pos y, if_pos rfl]
        have ly := b1.mp y
        have py := pk_yes hx ly
        by_cases e4 : x = -4
        · rw [if_pos e4]
          exact ⟨i1, jh _ _ ⟨rfl, py.1 e4⟩⟩
        · rw [if_neg e4]
          rcases id hx with ⟨e, _⟩ | ⟨b, eb, hb, lb, _⟩
          · exact absurd e e4
          · have p2 := py.2 b eb
            refine s_missTT hI ht hτ rfl (by omega) (s_missTT hI ht hτ eb (by omega) ?_)
            by_cases g : missT σ c < missT σ b
            · rw [if_pos g]; exact ⟨i1, jh _ _ ⟨rfl, p2.1 g⟩⟩
            · rw [if_neg g]; exact ⟨i1, jh _ _ ⟨rfl, p2.2 g⟩⟩
      · rw [if_neg y, if_neg (by decide)]
        exact ⟨i1, jh _ _ ⟨rfl, pk_no hx (fun z => y (b1.mpr z))⟩⟩
