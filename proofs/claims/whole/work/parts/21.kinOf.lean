/-! KIN AND NEAR in the model -/
def zfdM (σ : zS) (n f : Int) : Prop := (0 ≤ f ∧ f < n) ∧ σ 104 f ≠ 0
def zunL (σ : zS) (k l : Int) : Prop := σ 102 l = -1 ∨ (σ 102 l ≠ -1 ∧ k < σ 103 l)
def zunM (σ : zS) (k p : Int) : Prop := zunL σ k (2 * p) ∨ zunL σ k (2 * p + 1)
/-- KIN over the founders below i -/
def zknF (E : Int → Int → Prop) (who : Int) (Fd : Int → Prop) (i K : Int) : Prop :=
  (K ≤ 99 ∧ 0 ≤ K) ∧ (∀ (f p : Int) (a b : Nat), f < i → Fd f → zball E (fun q => q = who) a p → zball E (fun q => q = f) b p → K ≤ a + b) ∧
  (K = 99 ∨ ∃ (f p : Int) (a b : Nat), Fd f ∧ zball E (fun q => q = who) a p ∧ zball E (fun q => q = f) b p ∧ K = a + b)
/-- one founder more: the least sum of two rows over the first i places, and K0 -/
def zmn3 (u v : Int → Int) (K0 i K : Int) : Prop :=
  (K ≤ K0 ∧ 0 ≤ K) ∧ (∀ p, 0 ≤ p → p < i → u p ≠ -1 → v p ≠ -1 → K ≤ u p + v p) ∧ (K = K0 ∨ ∃ p, (0 ≤ p ∧ p < i) ∧ u p ≠ -1 ∧ v p ≠ -1 ∧ K = u p + v p)
theorem zmn3_skip {u v : Int → Int} {K0 i K : Int} (h : zmn3 u v K0 i K) (hn : u i = -1 ∨ v i = -1 ∨ K ≤ u i + v i) : zmn3 u v K0 (i + 1) K := by
  obtain ⟨h1, h2, h3⟩ := h
  refine ⟨h1, fun p a b c d => ?_, ?_⟩
  · by_cases e : p = i
    · subst e
      omega
    · exact h2 p a (by omega) c d
  · rcases h3 with h3 | ⟨p, a, b⟩
    · exact Or.inl h3
    · exact Or.inr ⟨p, by omega, b⟩
theorem zmn3_new {u v : Int → Int} {K0 i K : Int} (h : zmn3 u v K0 i K) (hi : 0 ≤ i) (hu : u i ≠ -1) (hv : v i ≠ -1) (hs : 0 ≤ u i + v i) (hk : u i + v i < K) : zmn3 u v K0 (i + 1) (u i + v i) := by
  obtain ⟨h1, h2, h3⟩ := h
  refine ⟨by omega, fun p a b c d => ?_, Or.inr ⟨i, by omega, hu, hv, rfl⟩⟩
  by_cases e : p = i
  · subst e
    omega
  · have := h2 p a (by omega) c d
    omega
theorem zlkM_eq {σ s : zS} {k : Int} (h1 : s 102 = σ 102) (h2 : s 103 = σ 103) : zlkM s k = zlkM σ k := by
  funext p q
  unfold zlkM
  rw [h1, h2]
section KM
variable {G : zG} {σ : zS} {Q : Int → zS → Prop}
theorem okX12_kinOf {who k n : Int} (hn : σ 98 1 = n) (hn1 : n ≤ 24) (hw : 0 ≤ who ∧ who < n)
    (hL : ∀ l, 0 ≤ l → l < 2 * n → σ 102 l ≠ -1 → (0 ≤ σ 102 l ∧ σ 102 l < n))
    (kq : ∀ (s : zS) (r : Int), (∀ q, q ≠ 158 → q ≠ 159 → q ≠ 160 → s q = σ q) → zkin (zlkM σ k) who (zfdM σ n) r → Q r s) :
    zO G MX12_kinOf [zr 98, zi who, zi k] σ Q := by
  have hE : ∀ p q, 0 ≤ p → p < n → zlkM σ k p q → 0 ≤ q ∧ q < n := by
    rintro p q a1 a2 ⟨l, h1, h2, h3, rfl⟩
    exact hL l (by omega) (by omega) h2
  refine TX12_kinOf (okX12_climbs rfl (by decide) (by decide) (by decide) (by decide) hn hn1 hw hL (fun s1 f1 z1 => ?_))
  refine TX12_kinOf_13 ?_
  have outer : ∀ (m : Nat) (s : zS) (f K : Int), (n - f).toNat = m → 0 ≤ f → f ≤ n → (∀ q, q ≠ 158 → q ≠ 159 → q ≠ 160 → s q = σ q) → zstp (-1) n (zlkM σ k) (fun p => p = who) (s 158) → zknF (zlkM σ k) who (zfdM σ n) f K →
      zR G MX12_kinOf 16 [zr 98, zi who, zi k, zi K, zi f, zu] [] s Q := by
    intro m
    induction m with
    | zero =>
      intro s f K hm h0 h1 hs hu hk
      have hsn : s 98 1 = n := by rw [hs _ (by decide) (by decide) (by decide)]; exact hn
      apply TX12_kinOf_16 <;> (try rw [hsn]) <;> (try (intros; omega))
      intro _
      exact kq s K hs ⟨hk.1, fun f' p a b c => hk.2.1 f' p a b (by have := c.1; omega) c, hk.2.2⟩
    | succ m ih =>
      intro s f K hm h0 h1 hs hu hk
      have hsn : s 98 1 = n := by rw [hs _ (by decide) (by decide) (by decide)]; exact hn
      have e2 : s 102 = σ 102 := hs _ (by decide) (by decide) (by decide)
      have e3 : s 103 = σ 103 := hs _ (by decide) (by decide) (by decide)
      have e4 : s 104 = σ 104 := hs _ (by decide) (by decide) (by decide)
      apply TX12_kinOf_16 <;> (try rw [hsn]) <;> (try rw [e4]) <;> (try (intros; omega))
      · intro _ hf
        refine okX12_climbs rfl (by decide) (by decide) (by decide) (by decide) hsn hn1 (by omega) (fun l a b c => by rw [e2] at c ⊢; exact hL l a b c) (fun s2 f2 z2 => ?_)
        rw [zlkM_eq e2 e3] at z2
        have g2 : ∀ q, q ≠ 158 → q ≠ 159 → q ≠ 160 → s2 q = σ q := fun q a b c => (f2 q b c).trans (hs q a b c)
        have g1 : s2 158 = s 158 := f2 _ (by decide) (by decide)
        have hu2 : zstp (-1) n (zlkM σ k) (fun p => p = who) (s2 158) := by rw [g1]; exact hu
        have hs2n : s2 98 1 = n := by rw [g2 _ (by decide) (by decide) (by decide)]; exact hn
        refine TX12_kinOf_49 ?_
        have inner : ∀ (j : Nat) (i K' : Int), (n - i).toNat = j → 0 ≤ i → i ≤ n → zmn3 (s2 158) (s2 159) K i K' → zR G MX12_kinOf 52 [zr 98, zi who, zi k, zi K', zi f, zi i] [] s2 Q := by
          intro j
          induction j with
          | zero =>
            intro i K' hj i0 i1 hz
            apply TX12_kinOf_52 <;> (try rw [hs2n]) <;> (try (intros; omega))
            intro _
            refine ih s2 (f + 1) K' (by omega) (by omega) (by omega) g2 hu2 ⟨by have := hz.1; have := hk.1; omega, fun f' p a b c d ha hb => ?_, ?_⟩
            · by_cases e : f' = f
              · subst e
                have hp := zball_in hE (fun p (e : p = who) => by rw [e]; exact hw) a p ha
                have u1 := (hu2 p hp.1 hp.2).2 a ha
                have v1 := (z2 p hp.1 hp.2).2 b hb
                have := hz.2.1 p hp.1 (by omega) u1.1 v1.1
                omega
              · have := hk.2.1 f' p a b (by omega) d ha hb
                have := hz.1
                omega
            · rcases hz.2.2 with e | ⟨p, hp, a, b, c⟩
              · rw [e]; exact hk.2.2
              · have u1 := (hu2 p hp.1 (by omega)).1 a
                have v1 := (z2 p hp.1 (by omega)).1 b
                exact Or.inr ⟨f, p, _, _, ⟨by omega, hf⟩, u1.2.2, v1.2.2, by omega⟩
          | succ j ihj =>
            intro i K' hj i0 i1 hz
            have bu := hu2 i i0 (by omega)
            have bv := z2 i i0 (by omega)
            have au : s2 158 i ≠ -1 → 0 ≤ s2 158 i ∧ s2 158 i < n := fun z => ⟨(bu.1 z).1, (bu.1 z).2.1⟩
            have av : s2 159 i ≠ -1 → 0 ≤ s2 159 i ∧ s2 159 i < n := fun z => ⟨(bv.1 z).1, (bv.1 z).2.1⟩
            apply TX12_kinOf_52 <;> (try rw [hs2n]) <;> (try (intros; omega))
            · intro _ c
              exact ihj (i + 1) K' (by omega) (by omega) (by omega) (zmn3_skip hz (by omega))
            · intro _ c1 c2 c3
              exact ihj (i + 1) _ (by omega) (by omega) (by omega) (zmn3_new hz i0 c1 c2 (by have := au c1; have := av c2; omega) c3)
        exact inner _ 0 K rfl (by omega) (by omega) ⟨by have := hk.1; omega, fun p a b => by omega, Or.inl rfl⟩
      · intro _ hf
        refine ih s (f + 1) K (by omega) (by omega) (by omega) hs hu ⟨hk.1, fun f' p a b c d => ?_, hk.2.2⟩
        by_cases e : f' = f
        · rw [e] at d
          exact absurd hf d.2
        · exact hk.2.1 f' p a b (by omega) d
  exact outer _ s1 0 99 rfl (by omega) (by omega) (fun q a b c => f1 q a c) z1 ⟨by omega, fun f p a b c d => by have := d.1; omega, Or.inl rfl⟩
/-- the least step to an unknown link over the first i links, and K -/
def zmnL (u : Int → Int) (ul : Int → Prop) (K i N : Int) : Prop :=
  (N ≤ K ∧ 0 ≤ N) ∧ (∀ l, 0 ≤ l → l < i → u (l / 2) ≠ -1 → ul l → N ≤ u (l / 2) + 1) ∧ (N = K ∨ ∃ l, (0 ≤ l ∧ l < i) ∧ u (l / 2) ≠ -1 ∧ ul l ∧ N = u (l / 2) + 1)
theorem okX12_nearOf {who k n : Int} (hn : σ 98 1 = n) (hn1 : n ≤ 24) (hw : 0 ≤ who ∧ who < n)
    (hL : ∀ l, 0 ≤ l → l < 2 * n → σ 102 l ≠ -1 → (0 ≤ σ 102 l ∧ σ 102 l < n))
    (kq : ∀ (s : zS) (r K : Int), (∀ q, q ≠ 158 → q ≠ 159 → q ≠ 160 → s q = σ q) → zkin (zlkM σ k) who (zfdM σ n) K → znear (zlkM σ k) who (zunM σ k) K r → Q r s) :
    zO G MX12_nearOf [zr 98, zi who, zi k] σ Q := by
  have hE : ∀ p q, 0 ≤ p → p < n → zlkM σ k p q → 0 ≤ q ∧ q < n := by
    rintro p q a1 a2 ⟨l, h1, h2, h3, rfl⟩
    exact hL l (by omega) (by omega) h2
  refine TX12_nearOf (okX12_kinOf hn hn1 hw hL (fun s1 K f1 zK => ?_))
  have e1 : s1 98 1 = n := by rw [f1 _ (by decide) (by decide) (by decide)]; exact hn
  have e2 : s1 102 = σ 102 := f1 _ (by decide) (by decide) (by decide)
  have e3 : s1 103 = σ 103 := f1 _ (by decide) (by decide) (by decide)
  refine TX12_nearOf_6 (okX12_climbs rfl (by decide) (by decide) (by decide) (by decide) e1 hn1 hw (fun l a b c => by rw [e2] at c ⊢; exact hL l a b c) (fun s2 f2 z2 => ?_))
  rw [zlkM_eq e2 e3] at z2
  have g2 : ∀ q, q ≠ 158 → q ≠ 159 → q ≠ 160 → s2 q = σ q := fun q a b c => (f2 q a c).trans (f1 q a b c)
  have hs2n : s2 98 1 = n := by rw [g2 _ (by decide) (by decide) (by decide)]; exact hn
  have h2 : s2 102 = σ 102 := g2 _ (by decide) (by decide) (by decide)
  have h3 : s2 103 = σ 103 := g2 _ (by decide) (by decide) (by decide)
  refine TX12_nearOf_17 ?_
  have key : ∀ (m : Nat), (∀ (p l N : Int), (2 * n - (2 * p + l)).toNat = m → 0 ≤ p → p < n → 0 ≤ l → l ≤ 2 → zmnL (s2 158) (zunL σ k) K (2 * p + l) N → zR G MX12_nearOf 32 [zr 98, zi who, zi k, zi N, zi p, zi l, zu] [] s2 Q) ∧
      (∀ (p N : Int), (2 * n - 2 * p).toNat = m → 0 ≤ p → p ≤ n → zmnL (s2 158) (zunL σ k) K (2 * p) N → zR G MX12_nearOf 20 [zr 98, zi who, zi k, zi N, zi p, zu, zu] [] s2 Q) := by
    intro m
    induction m using Nat.strongRecOn with
    | ind m ih =>
      have A : ∀ (p N : Int), (2 * n - 2 * p).toNat = m → 0 ≤ p → p ≤ n → zmnL (s2 158) (zunL σ k) K (2 * p) N → (∀ (q l N' : Int), 0 ≤ q → q < n → l = 0 → (2 * n - (2 * q + l)).toNat = m → zmnL (s2 158) (zunL σ k) K (2 * q + l) N' → zR G MX12_nearOf 32 [zr 98, zi who, zi k, zi N', zi q, zi l, zu] [] s2 Q) → zR G MX12_nearOf 20 [zr 98, zi who, zi k, zi N, zi p, zu, zu] [] s2 Q := by
        intro p N hm h0 h1 hz hB
        by_cases hp : p < n
        · apply TX12_nearOf_20 <;> (try rw [hs2n]) <;> (try (intros; omega))
          intro _
          exact hB p 0 N h0 hp rfl (by omega) (by rw [show 2 * p + 0 = 2 * p from by omega]; exact hz)
        · apply TX12_nearOf_20 <;> (try rw [hs2n]) <;> (try (intros; omega))
          intro _
          have hpn : p = n := by omega
          subst hpn
          refine kq s2 N K g2 zK ⟨hz.1.1, hz.1.2, fun q a ha hx => ?_, ?_⟩
          · have hq := zball_in hE (fun p (e : p = who) => by rw [e]; exact hw) a q ha
            have u1 := (z2 q hq.1 hq.2).2 a ha
            rcases hx with hx | hx
            · have := hz.2.1 (2 * q) (by omega) (by omega) (by rw [show 2 * q / 2 = q from by omega]; exact u1.1) hx
              rw [show 2 * q / 2 = q from by omega] at this
              omega
            · have := hz.2.1 (2 * q + 1) (by omega) (by omega) (by rw [show (2 * q + 1) / 2 = q from by omega]; exact u1.1) hx
              rw [show (2 * q + 1) / 2 = q from by omega] at this
              omega
          · rcases hz.2.2 with e | ⟨l, hl, a, b, c⟩
            · exact Or.inl e
            · have u1 := (z2 (l / 2) (by omega) (by omega)).1 a
              refine Or.inr ⟨l / 2, _, u1.2.2, ?_, by omega⟩
              by_cases hl2 : l = 2 * (l / 2)
              · left; rw [← hl2]; exact b
              · right; rw [show 2 * (l / 2) + 1 = l from by omega]; exact b
      have B : ∀ (p l N : Int), (2 * n - (2 * p + l)).toNat = m → 0 ≤ p → p < n → 0 ≤ l → l < 2 → zmnL (s2 158) (zunL σ k) K (2 * p + l) N → zR G MX12_nearOf 32 [zr 98, zi who, zi k, zi N, zi p, zi l, zu] [] s2 Q := by
        intro p l N hm h0 h1 l0 l1 hz
        have bu := z2 p h0 (by omega)
        have au : s2 158 p ≠ -1 → 0 ≤ s2 158 p ∧ s2 158 p < n := fun z => ⟨(bu.1 z).1, (bu.1 z).2.1⟩
        have ed : (2 * p + l) / 2 = p := by omega
        have es : 2 * p + (l + 1) = 2 * p + l + 1 := by omega
        have skip : (s2 158 p = -1 ∨ ¬ zunL σ k (2 * p + l) ∨ N ≤ s2 158 p + 1) → zmnL (s2 158) (zunL σ k) K (2 * p + (l + 1)) N := by
          intro hn
          refine ⟨hz.1, fun x a b c d => ?_, ?_⟩
          · by_cases e : x = 2 * p + l
            · subst e
              rw [ed] at c ⊢
              rcases hn with e | e | e
              · exact absurd e c
              · exact absurd d e
              · exact e
            · exact hz.2.1 x a (by omega) c d
          · rcases hz.2.2 with e | ⟨x, a, b⟩
            · exact Or.inl e
            · exact Or.inr ⟨x, by omega, b⟩
        have go : ∀ N', zmnL (s2 158) (zunL σ k) K (2 * p + (l + 1)) N' → zR G MX12_nearOf 32 [zr 98, zi who, zi k, zi N', zi p, zi (l + 1), zu] [] s2 Q := fun N' hz' => (ih (2 * n - (2 * p + (l + 1))).toNat (by omega)).1 p (l + 1) N' rfl h0 h1 (by omega) (by omega) hz'
        apply TX12_nearOf_32 <;> (try rw [h2]) <;> (try rw [h3]) <;> (try (intros; omega))
        · intro _ c1 c2 c3
          refine go N (skip (Or.inr (Or.inl ?_)))
          unfold zunL
          omega
        · intro _ c1 c2
          exact go N (skip (by omega))
        · intro _ c1 c2 c3
          refine go _ ⟨by have := hz.1; have := au c2; omega, fun x a b c d => ?_, Or.inr ⟨2 * p + l, by omega, by rw [ed]; exact c2, c1, by rw [ed]⟩⟩
          by_cases e : x = 2 * p + l
          · subst e
            rw [ed]
            omega
          · have := hz.2.1 x a (by omega) c d
            omega
      refine ⟨fun p l N hm h0 h1 l0 l1 hz => ?_, fun p N hm h0 h1 hz => A p N hm h0 h1 hz (fun q l N' a b c d e => B q l N' d a b (by omega) (by omega) e)⟩
      by_cases hl : l < 2
      · exact B p l N hm h0 h1 l0 hl hz
      · apply TX12_nearOf_32 <;> (try (intros; omega))
        intro _
        have hl2 : l = 2 := by omega
        subst hl2
        exact A (p + 1) N (by omega) (by omega) (by omega) (by rw [show 2 * (p + 1) = 2 * p + 2 from by omega]; exact hz) (fun q l N' a b c d e => B q l N' d a b (by omega) (by omega) e)
  exact (key _).2 0 K rfl (by omega) (by omega) ⟨by have := zK.1; omega, fun l a b => by omega, Or.inl rfl⟩
end KM
