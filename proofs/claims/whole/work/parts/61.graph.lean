/-! PURE FACTS, 30: cards that hang together -/
def S53 (σ τ : Mem) : Prop := SAME σ τ ∧ ∀ k, τ 153 k = σ 153 k
theorem S53.rf {σ : Mem} : S53 σ σ := ⟨SAME.rf, fun _ => rfl⟩
theorem S53.tr {σ0 σ1 σ2 : Mem} (h : S53 σ0 σ1) (h2 : S53 σ1 σ2) : S53 σ0 σ2 := ⟨h.1.tr h2.1, fun k => (h2.2 k).trans (h.2 k)⟩
theorem S53.st {σ0 σ : Mem} (h : S53 σ0 σ) {j k : Nat} {v : Int} (hc : core j k = false) (hj : j ≠ 153) : S53 σ0 (mset σ j k v) := ⟨h.1.st hc, fun i => by rw [mset_ne (fun e => hj e.symm)]; exact h.2 i⟩
theorem s_tryCard2 {σ : Mem} {p : Int} {a : Nat} {Q : Int → Mem → Prop} (hI : INVc σ) (hp : p = a) (ha : (a : Int) < σ 16 2) (h : ∀ τ, S53 σ τ → (∀ m, m < 4 → τ 152 m = σ (25 + 3 * a) m) → τ 122 47 = sprF σ a → Q 0 τ) : v_X12_tryCard p σ Q := by
  subst hp
  have n24 := hI.c.2.2.1
  have am := (hI.c.2.2.2.2 a ha).2.2.2.2.2.2
  unfold v_X12_tryCard
  refine lp0 (l_X12_tryCard_2 a Q) (fun k τ => S53 σ τ ∧ ∀ m, m < k → τ 152 m = σ (25 + 3 * a) m) 4 σ ⟨S53.rf, fun m hm => absurd hm (by omega)⟩ ?_ ?_
  · rintro n τ ⟨h1, h2⟩
    rw [l_X12_tryCard_2, if_neg (by decide)]
    refine s_msprC (invc_core h1.1 hI) rfl (by rw [h1.1.n]; exact ha) ?_
    refine h _ (h1.st rfl (by decide)) (fun m hm => by rw [mset_ne (by decide)]; exact h2 m hm) ?_
    rw [mset_eq, sprF_same h1.1 (by omega)]
  · rintro n k τ hk ⟨h1, h2⟩ ih
    rw [l_X12_tryCard_2, if_pos (by omega), show (4 * (a : Int) + k).toNat = 4 * a + k by omega, Int.toNat_natCast]
    refine ⟨by omega, by omega, by omega, by omega, ⟨by omega, by omega⟩, ih _ ⟨h1.st rfl (by decide), fun m hm => ?_⟩⟩
    by_cases e : m = k
    · subst e; rw [mset_eq, h1.1 138 _ rfl]; exact (am m hk).2.1
    · rw [mset_nei e]; exact h2 m (by omega)
theorem s_doJoin2 {σ : Mem} {p q : Int} {a b : Nat} {Q : Int → Mem → Prop} (hI : INVc σ) (hp : p = a) (hq : q = b) (ha : (a : Int) < σ 16 2) (hb : (b : Int) < σ 16 2) (h : ∀ τ, S53 σ τ → Q (if joinP σ a b then 1 else 0) τ) : v_X12_doJoin p q σ Q := by
  subst hp; subst hq
  have n24 := hI.c.2.2.1
  have xa := hI.c.2.2.2.2 a ha
  have xb := hI.c.2.2.2.2 b hb
  have ra := sprF_rng hI ha
  have rb := sprF_rng hI hb
  unfold v_X12_doJoin
  refine s_mOut rfl (by omega) ?_
  rw [xa.2.2.2.2.2.1.1]
  by_cases g1 : σ (23 + 3 * a) 5 = -4
  · rw [if_pos g1, if_neg (by decide)]; have h := h σ S53.rf; rw [if_neg (fun z => z.1.1 g1)] at h; exact h
  rw [if_neg g1, if_pos rfl]
  refine s_mOut rfl (by omega) ?_
  rw [xb.2.2.2.2.2.1.1]
  by_cases g2 : σ (23 + 3 * b) 5 = -4
  · rw [if_pos g2, if_neg (by decide)]; have h := h σ S53.rf; rw [if_neg (fun z => z.1.2.1 g2)] at h; exact h
  rw [if_neg g2, if_pos rfl, show (24 * (a : Int) + b).toNat = 24 * a + b by omega]
  refine ⟨by omega, by omega, ?_⟩
  by_cases g3 : σ 147 (24 * a + b) = 0
  · rw [if_pos g3]
    refine s_tryCard2 hI rfl ha (fun τ t1 t2 t3 => ?_)
    have tI := invc_core t1.1 hI
    refine s_missOfC tI rfl (by rw [t1.1.n]; exact hb) (fun m hm => by rw [t2 m hm]; exact (xa.2.2.2.2.2.2 m hm).2.2) (by rw [t3]; exact ra) ?_
    have e1 : missG τ b (τ 152) (sprF τ b + τ 122 47) 4 0 = missG σ b (σ (25 + 3 * a)) (sprF σ a + sprF σ b) 4 0 := by
      rw [missG_same t1.1 (by omega), missG_congr t2 4 0 (by omega), t3, sprF_same t1.1 (by omega), Int.add_comm]
    rw [e1, same_card t1.1 (j := 23 + 3 * b) (by omega) (by omega), if_neg g2]
    unfold j_X12_doJoin_52
    refine s_tryCard2 tI rfl (by rw [t1.1.n]; exact hb) (fun ω w1 w2 w3 => ?_)
    have w0 := t1.tr w1
    by_cases g4 : missG σ b (σ (25 + 3 * a)) (sprF σ a + sprF σ b) 4 0 = -4
    · rw [if_pos g4, if_pos rfl]
      have h := h ω w0; rw [if_neg (fun z => z.2.1 g4)] at h; exact h
    · rw [if_neg g4, if_neg (by decide)]
      have wI := invc_core w0.1 hI
      have w2' : ∀ m, m < 4 → ω 152 m = σ (25 + 3 * b) m := fun m hm => by rw [w2 m hm, same_card t1.1 (j := 25 + 3 * b) (by omega) (by omega)]
      refine s_missOfC wI rfl (by rw [w0.1.n]; exact ha) (fun m hm => by rw [w2' m hm]; exact (xb.2.2.2.2.2.2 m hm).2.2) (by rw [w3, sprF_same t1.1 (by omega)]; exact rb) ?_
      have e2 : missG ω a (ω 152) (sprF ω a + ω 122 47) 4 0 = missG σ a (σ (25 + 3 * b)) (sprF σ a + sprF σ b) 4 0 := by
        rw [missG_same w0.1 (by omega), missG_congr w2' 4 0 (by omega), w3, sprF_same w0.1 (by omega), sprF_same t1.1 (by omega)]
      rw [e2, same_card w0.1 (j := 23 + 3 * a) (by omega) (by omega), if_neg g1]
      have h := h ω w0
      by_cases g5 : missG σ a (σ (25 + 3 * b)) (sprF σ a + sprF σ b) 4 0 = -4
      · rw [if_pos g5]; rw [if_neg (fun z => z.2.2 g5)] at h; exact h
      · rw [if_neg g5]; rw [if_pos ⟨⟨g1, g2, g3⟩, g4, g5⟩] at h; exact h
  · rw [if_neg g3]; have h := h σ S53.rf; rw [if_neg (fun z => g3 z.1.2.2)] at h; exact h
def Jn (σ : Mem) (a b : Nat) : Prop := (a : Int) < σ 16 2 ∧ (b : Int) < σ 16 2 ∧ a ≠ b ∧ joinP σ a b
def Rch (σ : Mem) (a b : Nat) : Prop := ∀ P : Nat → Prop, P a → (∀ x y, P x → Jn σ x y → P y) → P b
theorem Jn.mk {σ : Mem} {a b : Nat} (h1 : (a : Int) < σ 16 2) (h2 : (b : Int) < σ 16 2) (h3 : a ≠ b) (h4 : joinP σ a b) : Jn σ a b := ⟨h1, h2, h3, h4⟩
theorem Rch.rf {σ : Mem} {a : Nat} : Rch σ a a := fun _ h _ => h
theorem Rch.tr {σ : Mem} {a b c : Nat} (h1 : Rch σ a b) (h2 : Rch σ b c) : Rch σ a c := fun P h s => h2 P (h1 P h s) s
theorem Rch.one {σ : Mem} {a b : Nat} (h : Jn σ a b) : Rch σ a b := fun _ p s => s a b p h
theorem Jn.sym {σ : Mem} (hI : INVc σ) {a b : Nat} (h : Jn σ a b) : Jn σ b a := by
  obtain ⟨h1, h2, h3, h4⟩ := h
  have n24 := hI.c.2.2.1
  exact ⟨h2, h1, fun e => h3 e.symm, (joinP_sym hI.b h3 (by omega) (by omega)).mp h4⟩
theorem Rch.sym {σ : Mem} (hI : INVc σ) {a b : Nat} (h : Rch σ a b) : Rch σ b a := h (fun x => Rch σ x a) Rch.rf (fun _ _ p j => (Rch.one (j.sym hI)).tr p)
def Lab (σ : Mem) (l : Nat → Int) : Prop := ∀ c : Nat, (c : Int) < σ 16 2 → (σ (23 + 3 * c) 5 = -4 ∧ l c = -4) ∨ (¬ σ (23 + 3 * c) 5 = -4 ∧ ∃ k : Nat, l c = k ∧ k ≤ c ∧ Rch σ c k)
def FinL (σ : Mem) (l : Nat → Int) : Prop := Lab σ l ∧ ∀ a b, Jn σ a b → l a = l b
theorem FinL.cst {σ : Mem} {l : Nat → Int} (h : FinL σ l) {a b : Nat} (r : Rch σ a b) : l b = l a := r (fun x => l x = l a) rfl (fun x y p j => (h.2 x y j).symm.trans p)
theorem FinL.le {σ : Mem} {l1 l2 : Nat → Int} (h1 : FinL σ l1) (h2 : FinL σ l2) {c : Nat} (hc : (c : Int) < σ 16 2) (ho : ¬ σ (23 + 3 * c) 5 = -4) : l2 c ≤ l1 c := by
  rcases h1.1 c hc with ⟨z, _⟩ | ⟨_, k, e1, lk, r⟩
  · exact absurd z ho
  · have e2 := h2.cst r
    rcases h2.1 c hc with ⟨z, _⟩ | ⟨_, k2, f1, _, _⟩
    · exact absurd z ho
    · rcases h2.1 k (by omega) with ⟨_, z⟩ | ⟨_, k3, g1, g2, _⟩
      · omega
      · omega
theorem FinL.uni {σ : Mem} {l1 l2 : Nat → Int} (h1 : FinL σ l1) (h2 : FinL σ l2) {c : Nat} (hc : (c : Int) < σ 16 2) : l1 c = l2 c := by
  by_cases ho : σ (23 + 3 * c) 5 = -4
  · rcases h1.1 c hc with ⟨_, a⟩ | ⟨z, _⟩
    · rcases h2.1 c hc with ⟨_, b⟩ | ⟨z, _⟩
      · omega
      · exact absurd ho z
    · exact absurd ho z
  · have a := h1.le h2 hc ho
    have b := h2.le h1 hc ho
    omega
/-- the class: one man more -/
theorem s_hang {τ : Mem} {x y : Int} {Q : Int → Mem → Prop} (n24 : 0 ≤ τ 16 2 ∧ τ 16 2 ≤ 24) (h : ∀ ω : Mem, (∀ j k, j ≠ 104 → ω j k = τ j k) → (∀ e : Nat, (e : Int) < τ 16 2 → ω 104 e = if τ 104 e = y then x else τ 104 e) → Q 0 ω) : v_X4_hang x y τ Q := by
  unfold v_X4_hang
  refine lp0 (l_X4_hang_2 x y Q) (fun i s => (∀ j k, j ≠ 104 → s j k = τ j k) ∧ (∀ e, e < i → s 104 e = if τ 104 e = y then x else τ 104 e) ∧ ∀ e, i ≤ e → s 104 e = τ 104 e) (τ 16 2).toNat τ ⟨fun _ _ _ => rfl, fun e he => absurd he (by omega), fun _ _ => rfl⟩ ?_ ?_
  · rintro n s ⟨h1, h2, h3⟩
    rw [l_X4_hang_2, h1 16 2 (by decide), if_neg (by omega)]
    exact h s h1 (fun e he => h2 e (by omega))
  · rintro n i s hi ⟨h1, h2, h3⟩ ih
    rw [l_X4_hang_2, h1 16 2 (by decide), if_pos (by omega), Int.toNat_natCast, h3 i (Nat.le_refl i)]
    refine ⟨by omega, by omega, ?_⟩
    by_cases c : τ 104 i = y
    · rw [if_pos c]
      refine ⟨⟨by omega, by omega⟩, ih _ ⟨fun j k hj => by rw [mset_ne hj]; exact h1 j k hj, fun e he => ?_, fun e he => ?_⟩⟩
      · by_cases z : e = i
        · subst z; rw [mset_eq, if_pos c]
        · rw [mset_nei z]; exact h2 e (by omega)
      · rw [mset_nei (by omega)]; exact h3 e (by omega)
    · rw [if_neg c]
      refine ⟨⟨by omega, by omega⟩, ih _ ⟨h1, fun e he => ?_, fun e he => h3 e (by omega)⟩⟩
      by_cases z : e = i
      · subst z; rw [if_neg c]; exact h3 e (Nat.le_refl e)
      · exact h2 e (by omega)
theorem same_104 {σ τ : Mem} (h : ∀ j k, j ≠ 104 → τ j k = σ j k) : SAME σ τ := fun j k q => h j k (fun e => by subst e; cases q)
theorem joinP_dn {σ τ : Mem} (hs : SAME σ τ) {a b : Nat} (ha : (a : Int) < σ 16 2) (hb : (b : Int) < σ 16 2) (hn : σ 16 2 ≤ 24) : joinP τ a b ↔ joinP σ a b := joinP_same hs (by omega) (by omega)
theorem s_gather {σ : Mem} {Q : Int → Mem → Prop} (hI : INVc σ) (h : ∀ ω, SAME σ ω → FinL σ (ω 104) → Q 0 ω) : v_X4_gather σ Q := by
  have n24 := hI.c.2.2.1
  have n0 := hI.c.2.1
  unfold v_X4_gather
  refine lp0 (l_X4_gather_2 Q) (fun i s => (∀ j k, j ≠ 104 → s j k = σ j k) ∧ ∀ c : Nat, c < i → s 104 c = if σ (23 + 3 * c) 5 = -4 then -4 else (c : Int)) (σ 16 2).toNat σ ⟨fun _ _ _ => rfl, fun c hc => absurd hc (by omega)⟩ ?_ ?_
  · rintro n s ⟨h1, h2⟩
    rw [l_X4_gather_2, h1 16 2 (by decide), if_neg (by omega)]
    have base : Lab σ (s 104) := by
      intro c hc
      have e := h2 c (by omega)
      by_cases o : σ (23 + 3 * c) 5 = -4
      · rw [if_pos o] at e; exact Or.inl ⟨o, e⟩
      · rw [if_neg o] at e; exact Or.inr ⟨o, c, e, Nat.le_refl c, Rch.rf⟩
    -- pairs
    refine lp0 (l_X4_gather_48 Q) (fun i s => SAME σ s ∧ Lab σ (s 104) ∧ ∀ a b, a < i → a < b → Jn σ a b → s 104 a = s 104 b) (σ 16 2).toNat s ⟨same_104 h1, base, fun a b ha => absurd ha (by omega)⟩ ?_ ?_
    · rintro n s ⟨g1, g2, g3⟩
      rw [l_X4_gather_48, g1.n, if_neg (by omega)]
      refine h s g1 ⟨g2, fun a b j => ?_⟩
      have j2 := j.sym hI
      rcases Nat.lt_or_gt_of_ne j.2.2.1 with z | z
      · exact g3 a b (by have := j.1; omega) z j
      · exact (g3 b a (by have := j.2.1; omega) z j2).symm
    · rintro n i s hi ⟨g1, g2, g3⟩ ih
      rw [l_X4_gather_48, g1.n, if_pos (by omega)]
      refine ⟨⟨by omega, by omega⟩, ?_⟩
      have LL := loop_0 (fun n2 (k : Nat) (t : Mem) => l_X4_gather_63 i (fun x1_ σ_ => l_X4_gather_48 Q n x1_ σ_) Q n2 (((i + 1 + k : Nat)) : Int) t) (fun k t => SAME σ t ∧ Lab σ (t 104) ∧ (∀ a b, a < i → a < b → Jn σ a b → t 104 a = t 104 b) ∧ ∀ b, i < b → b < i + 1 + k → Jn σ i b → t 104 i = t 104 b) ((σ 16 2).toNat - (i + 1)) s ⟨g1, g2, g3, fun b h1 h2 => absurd h2 (by omega)⟩ ?_ ?_
      · exact LL
      · rintro n2 t ⟨k1, k2, k3, k4⟩
        rw [l_X4_gather_63, k1.n, if_neg (by omega)]
        refine ⟨⟨by omega, by omega⟩, ih _ ⟨k1, k2, fun a b ha hab j => ?_⟩⟩
        by_cases z : a = i
        · subst z; exact k4 b hab (by have := j.2.1; omega) j
        · exact k3 a b (by omega) hab j
      · rintro n2 k t hk ⟨k1, k2, k3, k4⟩ jh
        have jI := invc_core k1 hI
        obtain ⟨d, hd⟩ : ∃ d : Nat, d = i + 1 + k := ⟨_, rfl⟩
        have e1 : (((i + 1 + k : Nat)) : Int) + 1 = ((i + 1 + (k + 1) : Nat) : Int) := by omega
        rw [l_X4_gather_63, k1.n, if_pos (by omega), e1]
        rw [← hd]
        rw [Int.toNat_natCast, Int.toNat_natCast]
        refine ⟨by omega, by omega, by omega, by omega, ?_⟩
        have i1 : inR ((i + 1 + (k + 1) : Nat) : Int) := ⟨by omega, by omega⟩
        have hid1 : (i : Int) < σ 16 2 := by omega
        have hid2 : (d : Int) < σ 16 2 := by omega
        have hid3 : i ≠ d := by omega
        by_cases c1 : t 104 i = t 104 d
        · rw [if_pos c1]
          refine ⟨i1, jh _ ⟨k1, k2, k3, fun b h1 h2 j => ?_⟩⟩
          by_cases z : b = d
          · subst z; exact c1
          · exact k4 b h1 (by omega) j
        · rw [if_neg c1]
          refine s_joined (a := i) (b := d) jI rfl rfl (by omega) (by rw [k1.n]; omega) (by rw [k1.n]; omega) ?_
          have jd := joinP_dn k1 (a := i) (b := d) (by omega) (by omega) n24
          by_cases c2 : joinP t i d
          · rw [if_pos c2, if_neg (by decide)]
            have c3 := jd.mp c2
            have o1 := c3.1.1
            have o2 := c3.1.2.1
            clear jd c2
            have J : Jn σ i d := Jn.mk hid1 hid2 hid3 c3
            clear c3
            -- both labels are cards
            rcases k2 i hid1 with ⟨o, _⟩ | ⟨oi, a, ea, la, ra⟩
            · exact absurd o o1
            rcases k2 d hid2 with ⟨o, _⟩ | ⟨od, b, eb, lb, rb⟩
            · exact absurd o o2
            obtain ⟨x, y, ex, ey, lxy, rxy⟩ : ∃ x y : Nat, imin (t 104 i) (t 104 d) = x ∧ imax (t 104 i) (t 104 d) = y ∧ x < y ∧ Rch σ y x := by
              have rab : Rch σ a b := (ra.sym hI).tr ((Rch.one J).tr rb)
              rcases Nat.lt_or_ge a b with z | z
              · exact ⟨a, b, by unfold imin; rw [if_neg (by omega)]; exact ea, by unfold imax; rw [if_pos (by omega)]; exact eb, z, rab.sym hI⟩
              · have : b < a := by omega
                exact ⟨b, a, by unfold imin; rw [if_pos (by omega)]; exact eb, by unfold imax; rw [if_neg (by omega)]; exact ea, this, rab⟩
            rw [ex, ey]
            refine s_hang (by rw [k1.n]; exact ⟨n0, n24⟩) (fun ω w1 w2 => ?_)
            rw [k1.n] at w2
            have eq : ∀ u v : Nat, (u : Int) < σ 16 2 → (v : Int) < σ 16 2 → t 104 u = t 104 v → ω 104 u = ω 104 v := fun u v hu hv e => by rw [w2 u hu, w2 v hv, e]
            refine ⟨i1, jh _ ⟨k1.tr (same_104 w1), fun c hc => ?_, fun u v hu huv j => eq u v j.1 j.2.1 (k3 u v hu huv j), fun v h1 h2 j => ?_⟩⟩
            · rcases k2 c hc with ⟨o, e⟩ | ⟨o, z, ez, lz, rz⟩
              · refine Or.inl ⟨o, ?_⟩
                rw [w2 c hc, e, if_neg (by omega)]
              · refine Or.inr ⟨o, ?_⟩
                by_cases q : t 104 c = y
                · have zy : z = y := by omega
                  subst zy
                  exact ⟨x, by rw [w2 c hc, if_pos q], by omega, rz.tr rxy⟩
                · exact ⟨z, by rw [w2 c hc, if_neg q]; exact ez, lz, rz⟩
            · by_cases z : v = d
              · subst z
                rw [w2 i (by omega), w2 v (by omega)]
                have mm : (t 104 i = x ∧ t 104 v = y) ∨ (t 104 i = y ∧ t 104 v = x) := by
                  unfold imin at ex; unfold imax at ey
                  rcases Nat.lt_or_ge a b with q | q
                  · rw [if_neg (by omega)] at ex; rw [if_pos (by omega)] at ey; exact Or.inl ⟨ex, ey⟩
                  · rw [if_pos (by omega)] at ex; rw [if_neg (by omega)] at ey; exact Or.inr ⟨ey, ex⟩
                rcases mm with ⟨m1, m2⟩ | ⟨m1, m2⟩
                · rw [m1, m2, if_neg (by omega), if_pos rfl]
                · rw [m1, m2, if_pos rfl, if_neg (by omega)]
              · exact eq i v j.1 j.2.1 (k4 v h1 (by omega) j)
          · rw [if_neg c2, if_pos rfl]
            refine ⟨i1, jh _ ⟨k1, k2, k3, fun b h1 h2 j => ?_⟩⟩
            by_cases z : b = d
            · subst z; exact absurd (jd.mpr j.2.2.2) c2
            · exact k4 b h1 (by omega) j
  · rintro n i s hi ⟨h1, h2⟩ ih
    rw [l_X4_gather_2, h1 16 2 (by decide), if_pos (by omega), Int.toNat_natCast, s_isOut, h1 _ 5 (by omega)]
    refine ⟨by omega, by omega, ?_⟩
    by_cases o : σ (23 + 3 * i) 5 = -4
    · rw [if_pos o, if_neg (by decide)]
      refine ⟨⟨by omega, by omega⟩, ih _ ⟨fun j k hj => by rw [mset_ne hj]; exact h1 j k hj, fun c hc => ?_⟩⟩
      by_cases z : c = i
      · subst z; rw [mset_eq, if_pos o]
      · rw [mset_nei z]; exact h2 c (by omega)
    · rw [if_neg o, if_pos rfl]
      refine ⟨⟨by omega, by omega⟩, ih _ ⟨fun j k hj => by rw [mset_ne hj]; exact h1 j k hj, fun c hc => ?_⟩⟩
      by_cases z : c = i
      · subst z; rw [mset_eq, if_neg o]
      · rw [mset_nei z]; exact h2 c (by omega)
