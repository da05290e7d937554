/-! KIN AND NEAR: what they are; the class's measure -/
theorem zball_in {E : Int → Int → Prop} {S : Int → Prop} {n : Int} (hE : ∀ p q, 0 ≤ p → p < n → E p q → 0 ≤ q ∧ q < n) (hS : ∀ p, S p → 0 ≤ p ∧ p < n) : ∀ (d : Nat) (p : Int), zball E S d p → 0 ≤ p ∧ p < n := by
  intro d
  induction d with
  | zero => intro p h; exact hS p h
  | succ d ih =>
    intro p h
    rcases h with h | ⟨q, h1, h2⟩
    · exact ih p h
    · exact hE q p (ih q h1).1 (ih q h1).2 h2
/-- from several at once: from one of them -/
theorem zball_ex {E : Int → Int → Prop} {S : Int → Prop} : ∀ (d : Nat) (p : Int), zball E S d p ↔ ∃ f, S f ∧ zball E (fun q => q = f) d p := by
  intro d
  induction d with
  | zero =>
    intro p
    exact ⟨fun h => ⟨p, h, rfl⟩, fun ⟨f, h1, h2⟩ => by rw [show p = f from h2]; exact h1⟩
  | succ d ih =>
    intro p
    constructor
    · rintro (h | ⟨q, h1, h2⟩)
      · obtain ⟨f, a, b⟩ := (ih p).mp h
        exact ⟨f, a, Or.inl b⟩
      · obtain ⟨f, a, b⟩ := (ih q).mp h1
        exact ⟨f, a, Or.inr ⟨q, b, h2⟩⟩
    · rintro ⟨f, a, h | ⟨q, h1, h2⟩⟩
      · exact Or.inl ((ih p).mpr ⟨f, a, h⟩)
      · exact Or.inr ⟨q, (ih q).mpr ⟨f, a, h1⟩, h2⟩
/-- K is KIN of who: the least sum of steps from it and from a founder, 99 without -/
def zkin (E : Int → Int → Prop) (who : Int) (Fd : Int → Prop) (K : Int) : Prop :=
  (K ≤ 99 ∧ 0 ≤ K) ∧ (∀ (f p : Int) (a b : Nat), Fd f → zball E (fun q => q = who) a p → zball E (fun q => q = f) b p → K ≤ a + b) ∧
  (K = 99 ∨ ∃ (f p : Int) (a b : Nat), Fd f ∧ zball E (fun q => q = who) a p ∧ zball E (fun q => q = f) b p ∧ K = a + b)
/-- N is NEAR of who: the least of KIN and the steps to an unknown link -/
def znear (E : Int → Int → Prop) (who : Int) (unk : Int → Prop) (K N : Int) : Prop :=
  N ≤ K ∧ 0 ≤ N ∧ (∀ (p : Int) (a : Nat), zball E (fun q => q = who) a p → unk p → N ≤ a + 1) ∧
  (N = K ∨ ∃ (p : Int) (a : Nat), zball E (fun q => q = who) a p ∧ unk p ∧ N = a + 1)
theorem zkin_one {E : Int → Int → Prop} {who : Int} {Fd : Int → Prop} {K K' : Int} (h : zkin E who Fd K) (h' : zkin E who Fd K') : K = K' := by
  have le : ∀ {K K' : Int}, zkin E who Fd K → zkin E who Fd K' → K ≤ K' := by
    intro K K' h h'
    rcases h'.2.2 with e | ⟨f, p, a, b, h1, h2, h3, e⟩
    · have := h.1; omega
    · have := h.2.1 f p a b h1 h2 h3; omega
  have := le h h'
  have := le h' h
  omega
theorem znear_one {E : Int → Int → Prop} {who : Int} {unk : Int → Prop} {K N N' : Int} (h : znear E who unk K N) (h' : znear E who unk K N') : N = N' := by
  have le : ∀ {N N' : Int}, znear E who unk K N → znear E who unk K N' → N ≤ N' := by
    intro N N' h h'
    rcases h'.2.2.2 with e | ⟨p, a, h1, h2, e⟩
    · have := h.1; omega
    · have := h.2.2.1 p a h1 h2; omega
  have := le h h'
  have := le h' h
  omega
/-- the least sum of two rows over the first i places -/
def zmn2 (F : Int) (u v : Int → Int) (i K : Int) : Prop :=
  (K ≤ 99 ∧ 0 ≤ K) ∧ (∀ p, 0 ≤ p → p < i → u p ≠ F → v p ≠ F → K ≤ u p + v p) ∧ (K = 99 ∨ ∃ p, (0 ≤ p ∧ p < i) ∧ u p ≠ F ∧ v p ≠ F ∧ K = u p + v p)
def zmn1 (F : Int) (u : Int → Int) (unk : Int → Prop) (i K : Int) : Prop :=
  (K ≤ 99 ∧ 0 ≤ K) ∧ (∀ p, 0 ≤ p → p < i → u p ≠ F → unk p → K ≤ u p + 1) ∧ (K = 99 ∨ ∃ p, (0 ≤ p ∧ p < i) ∧ u p ≠ F ∧ unk p ∧ K = u p + 1)
theorem zmn2_0 {F : Int} {u v : Int → Int} : zmn2 F u v 0 99 := ⟨by omega, fun p a b => by omega, Or.inl rfl⟩
theorem zmn1_0 {F : Int} {u : Int → Int} {unk : Int → Prop} : zmn1 F u unk 0 99 := ⟨by omega, fun p a b => by omega, Or.inl rfl⟩
theorem zmn2_skip {F : Int} {u v : Int → Int} {i K : Int} (h : zmn2 F u v i K) (hn : u i = F ∨ v i = F ∨ K ≤ u i + v i) : zmn2 F u v (i + 1) K := by
  obtain ⟨h1, h2, h3⟩ := h
  refine ⟨h1, fun p a b c d => ?_, ?_⟩
  · by_cases e : p = i
    · subst e
      omega
    · exact h2 p a (by omega) c d
  · rcases h3 with h3 | ⟨p, a, b⟩
    · exact Or.inl h3
    · exact Or.inr ⟨p, by omega, b⟩
theorem zmn2_new {F : Int} {u v : Int → Int} {i K : Int} (h : zmn2 F u v i K) (hi : 0 ≤ i) (hu : u i ≠ F) (hv : v i ≠ F) (hs : 0 ≤ u i + v i) : zmn2 F u v (i + 1) (min K (u i + v i)) := by
  by_cases hk : K ≤ u i + v i
  · rw [Int.min_eq_left hk]
    exact zmn2_skip h (Or.inr (Or.inr hk))
  · rw [Int.min_eq_right (by omega)]
    obtain ⟨h1, h2, h3⟩ := h
    refine ⟨by omega, fun p a b c d => ?_, Or.inr ⟨i, by omega, hu, hv, rfl⟩⟩
    by_cases e : p = i
    · subst e
      omega
    · have := h2 p a (by omega) c d
      omega
theorem zmn1_skip {F : Int} {u : Int → Int} {unk : Int → Prop} {i K : Int} (h : zmn1 F u unk i K) (hn : u i = F ∨ ¬ unk i ∨ K ≤ u i + 1) : zmn1 F u unk (i + 1) K := by
  obtain ⟨h1, h2, h3⟩ := h
  refine ⟨h1, fun p a b c d => ?_, ?_⟩
  · by_cases e : p = i
    · subst e
      rcases hn with e | e | e
      · exact absurd e c
      · exact absurd d e
      · exact e
    · exact h2 p a (by omega) c d
  · rcases h3 with h3 | ⟨p, a, b⟩
    · exact Or.inl h3
    · exact Or.inr ⟨p, by omega, b⟩
theorem zmn1_new {F : Int} {u : Int → Int} {unk : Int → Prop} {i K : Int} (h : zmn1 F u unk i K) (hi : 0 ≤ i) (hu : u i ≠ F) (hv : unk i) (hs : 0 ≤ u i) : zmn1 F u unk (i + 1) (min K (u i + 1)) := by
  by_cases hk : K ≤ u i + 1
  · rw [Int.min_eq_left hk]
    exact zmn1_skip h (Or.inr (Or.inr hk))
  · rw [Int.min_eq_right (by omega)]
    obtain ⟨h1, h2, h3⟩ := h
    refine ⟨by omega, fun p a b c d => ?_, Or.inr ⟨i, by omega, hu, hv, rfl⟩⟩
    by_cases e : p = i
    · subst e
      omega
    · have := h2 p a (by omega) c d
      omega
/-- out of the two rows of steps: KIN -/
theorem zkin_of {E : Int → Int → Prop} {who : Int} {Fd : Int → Prop} {F n m K : Int} {u v : Int → Int} (hE : ∀ p q, 0 ≤ p → p < n → E p q → 0 ≤ q ∧ q < n) (hw : 0 ≤ who ∧ who < n) (hnm : n ≤ m)
    (hu : zstp F m E (fun p => p = who) u) (hv : zstp F m E Fd v) (h : zmn2 F u v n K) : zkin E who Fd K := by
  obtain ⟨h1, h2, h3⟩ := h
  refine ⟨h1, fun f p a b hf ha hb => ?_, ?_⟩
  · have hp := zball_in hE (fun p (e : p = who) => by rw [e]; exact hw) a p ha
    have e1 := (hu p hp.1 (by omega)).2 a ha
    have e2 := (hv p hp.1 (by omega)).2 b ((zball_ex b p).mpr ⟨f, hf, hb⟩)
    have := h2 p hp.1 hp.2 e1.1 e2.1
    omega
  · rcases h3 with h3 | ⟨p, hp, a, b, c⟩
    · exact Or.inl h3
    · have e1 := (hu p hp.1 (by omega)).1 a
      have e2 := (hv p hp.1 (by omega)).1 b
      obtain ⟨f, hf, hb⟩ := (zball_ex _ p).mp e2.2.2
      exact Or.inr ⟨f, p, (u p).toNat, (v p).toNat, hf, e1.2.2, hb, by omega⟩
theorem znear_of {E : Int → Int → Prop} {who : Int} {unk : Int → Prop} {F n m K U : Int} {u : Int → Int} (hE : ∀ p q, 0 ≤ p → p < n → E p q → 0 ≤ q ∧ q < n) (hw : 0 ≤ who ∧ who < n) (hnm : n ≤ m) (hK : K ≤ 99 ∧ 0 ≤ K)
    (hu : zstp F m E (fun p => p = who) u) (h : zmn1 F u unk n U) : znear E who unk K (min K U) := by
  obtain ⟨h1, h2, h3⟩ := h
  refine ⟨by omega, by omega, fun p a ha hx => ?_, ?_⟩
  · have hp := zball_in hE (fun p (e : p = who) => by rw [e]; exact hw) a p ha
    have e1 := (hu p hp.1 (by omega)).2 a ha
    have := h2 p hp.1 hp.2 e1.1 hx
    omega
  · by_cases hk : K ≤ U
    · exact Or.inl (Int.min_eq_left hk)
    · rw [Int.min_eq_right (by omega)]
      rcases h3 with h3 | ⟨p, hp, a, b, c⟩
      · omega
      · have e1 := (hu p hp.1 (by omega)).1 a
        exact Or.inr ⟨p, (u p).toNat, e1.2.2, b, by omega⟩
/-- the links of one that aren't known, as the class tells them -/
def zunC (σ : zS) (k p : Int) : Prop := ¬ ((σ 25 (2 * p) ≠ -1 ∧ σ 25 (2 * p) ≤ k) ∧ (σ 25 (2 * p + 1) ≠ -1 ∧ σ 25 (2 * p + 1) ≤ k))
def zfdC (σ : zS) (p : Int) : Prop := (0 ≤ p ∧ p < 24) ∧ zbit (σ 22 13) p
theorem zlkC_eq {σ s : zS} {k : Int} (h1 : s 25 = σ 25) (h2 : s 24 = σ 24) : zlkC s k = zlkC σ k := by
  funext p q
  unfold zlkC
  rw [h1, h2]
section ME
variable {G : zG} {σ : zS} {Q : Int → zS → Prop}
theorem okX5_measure {who k n : Int} (hn : σ 22 12 = n) (hn1 : n ≤ 24) (hw : 0 ≤ who ∧ who < n)
    (hL : ∀ l, 0 ≤ l → l < 48 → σ 25 l ≠ -1 → (0 ≤ σ 24 l ∧ σ 24 l < n))
    (kq : ∀ s : zS, (∀ q j, q ≠ 32 → q ≠ 33 → q ≠ 34 → ¬ (q = 22 ∧ (j = 15 ∨ j = 16)) → s q j = σ q j) → zstp 99 24 (zlkC σ k) (fun p => p = who) (s 32) →
      zkin (zlkC σ k) who (zfdC σ) (s 22 15) → znear (zlkC σ k) who (zunC σ k) (s 22 15) (s 22 16) → Q 0 s) :
    zO G MX5_measure [zr 22, zi who, zi k] σ Q := by
  have hE : ∀ p q, 0 ≤ p → p < n → zlkC σ k p q → 0 ≤ q ∧ q < n := by
    rintro p q a1 a2 ⟨l, h1, h2, h3, rfl⟩
    exact hL l (by omega) (by omega) h2
  refine TX5_measure (okX5_climb rfl (by decide) (by decide) (by decide) (fun l a b c => by have := hL l a b c; omega) (fun s1 f1 z1 => ?_))
  have e24 : s1 24 = σ 24 := f1 _ (by decide) (by decide)
  have e25 : s1 25 = σ 25 := f1 _ (by decide) (by decide)
  have e22 : s1 22 = σ 22 := f1 _ (by decide) (by decide)
  refine TX5_measure_12 (okX5_climb rfl (by decide) (by decide) (by decide) (fun l a b c => by rw [e25] at c; rw [e24]; have := hL l a b c; omega) (fun s2 f2 z2 => ?_))
  rw [zlkC_eq e25 e24, e22] at z2
  have g24 : s2 24 = σ 24 := (f2 _ (by decide) (by decide)).trans e24
  have g25 : s2 25 = σ 25 := (f2 _ (by decide) (by decide)).trans e25
  have g22 : s2 22 = σ 22 := (f2 _ (by decide) (by decide)).trans e22
  have g32 : s2 32 = s1 32 := f2 _ (by decide) (by decide)
  have zu : zstp 99 24 (zlkC σ k) (fun p => p = who) (s2 32) := by
    rw [g32]
    have e : (fun p : Int => (0 ≤ p ∧ p < 24) ∧ zbit (zshl 1 who) p) = fun p => p = who := by
      funext p
      apply propext
      constructor
      · rintro ⟨a, b⟩
        exact (zb_shl (by omega) (by omega) a.1 (by omega)).mp b
      · rintro rfl
        exact ⟨by omega, (zb_shl (by omega) (by omega) (by omega) (by omega)).mpr rfl⟩
    rw [e] at z1
    exact z1
  refine TX5_measure_25 ?_
  have loop : ∀ (m : Nat) (s : zS) (i U : Int), (n - i).toNat = m → 0 ≤ i → i ≤ n → (∀ q j, ¬ (q = 22 ∧ j = 15) → s q j = s2 q j) → zmn2 99 (s2 32) (s2 33) i (s 22 15) → zmn1 99 (s2 32) (zunC σ k) i U →
      zR G MX5_measure 37 [zr 22, zi who, zi k, zi U, zi i] [] s Q := by
    intro m
    induction m with
    | zero =>
      intro s i U hm h0 h1 hs hk hu
      have hi : i = n := by omega
      subst hi
      have e12 : s 22 12 = i := by rw [hs _ _ (by decide), g22]; exact hn
      apply TX5_measure_37 <;> (try rw [e12]) <;> (try (intros; omega))
      intro _
      have hup : zup s 22 16 (min (s 22 15) U) 32 = s2 32 := by
        rw [zup_ne (by decide)]
        funext j
        exact hs _ _ (fun z => absurd z.1 (by decide))
      refine kq _ (fun q j a b c d => ?_) ?_ ?_ ?_
      · have d1 : ¬ (q = 22 ∧ j = 16) := fun z => d ⟨z.1, Or.inr z.2⟩
        have d2 : ¬ (q = 22 ∧ j = 15) := fun z => d ⟨z.1, Or.inl z.2⟩
        have e : zup s 22 16 (min (s 22 15) U) q j = s q j := if_neg d1
        rw [e, hs q j d2, f2 q b c, f1 q a c]
      · rw [hup]; exact zu
      · rw [zup_oi (by decide)]
        exact zkin_of hE hw hn1 zu z2 hk
      · rw [zup_oi (by decide), zup_same]
        exact znear_of hE hw hn1 hk.1 zu hu
    | succ m ih =>
      intro s i U hm h0 h1 hs hk hu
      have e12 : s 22 12 = n := by rw [hs _ _ (by decide), g22]; exact hn
      have e32 : s 32 = s2 32 := by funext j; exact hs _ _ (fun z => absurd z.1 (by decide))
      have e33 : s 33 = s2 33 := by funext j; exact hs _ _ (fun z => absurd z.1 (by decide))
      have e25' : s 25 = σ 25 := by funext j; rw [hs _ _ (fun z => absurd z.1 (by decide)), g25]
      have bu := zu i h0 (by omega)
      have bv := z2 i h0 (by omega)
      have au : s2 32 i ≠ 99 → 0 ≤ s2 32 i ∧ s2 32 i < 24 := fun z => ⟨(bu.1 z).1, (bu.1 z).2.1⟩
      have av : s2 33 i ≠ 99 → 0 ≤ s2 33 i ∧ s2 33 i < 24 := fun z => ⟨(bv.1 z).1, (bv.1 z).2.1⟩
      have hfr : ∀ x q j, ¬ (q = 22 ∧ j = 15) → zup s 22 15 x q j = s2 q j := by
        intro x q j hq
        have e : zup s 22 15 x q j = s q j := if_neg hq
        rw [e, hs q j hq]
      apply TX5_measure_37 <;> (try simp only [zup_of (show (25 : Nat) ≠ 22 by decide)]) <;> rw [e12] <;> (try rw [e32]) <;> (try rw [e33]) <;> (try rw [e25']) <;> (try (intros; omega))
      · intro _ c
        have hu' := zmn1_skip (i := i) hu (by
          rcases c with c | c
          · exact Or.inl c
          · exact Or.inr (Or.inl (fun z => z ⟨c.2.2.1, c.2.2.2⟩)))
        exact ih s (i + 1) U (by omega) (by omega) (by omega) hs (zmn2_skip hk (by omega)) hu'
      · intro _ c1 c2 c3 c4
        refine ih _ (i + 1) U (by omega) (by omega) (by omega) (hfr _) ?_ (zmn1_skip hu (Or.inr (Or.inl (fun z => z ⟨c3, c4⟩))))
        rw [zup_same]
        exact zmn2_new hk h0 c1 c2 (by have := au c1; have := av c2; omega)
      · intro _ c1 c2 c3
        refine ih s (i + 1) _ (by omega) (by omega) (by omega) hs (zmn2_skip hk (Or.inr (Or.inl c2))) (zmn1_new hu h0 c1 ?_ (au c1).1)
        unfold zunC
        rcases c3 with c3 | c3
        · exact fun z => c3 z.1
        · exact fun z => c3.2 z.2
      · intro _ c1 c2 c3
        refine ih _ (i + 1) _ (by omega) (by omega) (by omega) (hfr _) ?_ (zmn1_new hu h0 c1 ?_ (au c1).1)
        · rw [zup_same]
          exact zmn2_new hk h0 c1 c2 (by have := au c1; have := av c2; omega)
        · unfold zunC
          rcases c3 with c3 | c3
          · exact fun z => c3 z.1
          · exact fun z => c3.2 z.2
  refine loop _ _ 0 99 rfl (by omega) (by omega) (fun q j h => if_neg h) ?_ zmn1_0
  rw [zup_same]
  exact zmn2_0
end ME
