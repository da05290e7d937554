/-! SENIORITY: the insertion in class and model -/
theorem zsr_tot {σ : zS} (hM : zpla σ) {p q : Int} (hp : 0 ≤ p ∧ p < σ 98 4) (hq : 0 ≤ q ∧ q < σ 98 4) (hpq : p ≠ q) (fp : zfel σ p) (fq : zfel σ q) (h : ¬ zsr σ p q) : zsr σ q p := by
  have hne : σ 130 p ≠ σ 130 q := by
    by_cases h1 : p < q
    · exact hM.2.2 p q hp.1 h1 hq.2 (by rw [fp.1, fq.1]) fp.2
    · exact fun z => hM.2.2 q p hq.1 (by omega) hp.2 (by rw [fp.1, fq.1]) fq.2 z.symm
  unfold zsr at h ⊢
  omega
theorem zsen_ins {σ : zS} {a b : Int → Int} {i n h : Int} (ha : zsen σ a i n) (fi : zfel σ i) (i0 : 0 ≤ i) (hh : 0 ≤ h ∧ h ≤ n) (h1 : ∀ c, h ≤ c → c < n → zsr σ i (a c)) (h2 : h = 0 ∨ zsr σ (a (h - 1)) i)
    (b1 : ∀ c, 0 ≤ c → c < h → b c = a c) (b2 : b h = i) (b3 : ∀ c, h < c → c ≤ n → b c = a (c - 1)) : zsen σ b (i + 1) (n + 1) := by
  obtain ⟨a0, a1, a2, a3⟩ := ha
  refine ⟨by omega, fun c c0 c1 => ?_, fun c d c0 c1 c2 => ?_, fun p p0 p1 fp => ?_⟩
  · by_cases e : c < h
    · rw [b1 c c0 e]
      have := a1 c c0 (by omega)
      exact ⟨by omega, this.2⟩
    · by_cases e2 : c = h
      · rw [e2, b2]
        exact ⟨by omega, fi⟩
      · rw [b3 c (by omega) (by omega)]
        have := a1 (c - 1) (by omega) (by omega)
        exact ⟨by omega, this.2⟩
  · have lo : ∀ c, 0 ≤ c → c < h → zsr σ (a c) i := by
      intro c c0 c1
      rcases h2 with h2 | h2
      · omega
      · by_cases e : c = h - 1
        · rw [e]; exact h2
        · have := a2 c (h - 1) c0 (by omega) (by omega)
          unfold zsr at this h2 ⊢
          omega
    by_cases e : c < h
    · rw [b1 c c0 e]
      by_cases e2 : d < h
      · rw [b1 d (by omega) e2]
        exact a2 c d c0 c1 (by omega)
      · by_cases e3 : d = h
        · rw [e3, b2]
          exact lo c c0 e
        · rw [b3 d (by omega) (by omega)]
          exact a2 c (d - 1) c0 (by omega) (by omega)
    · rw [b3 d (by omega) (by omega)]
      by_cases e2 : c = h
      · rw [e2, b2]
        exact h1 (d - 1) (by omega) (by omega)
      · rw [b3 c (by omega) (by omega)]
        exact a2 (c - 1) (d - 1) (by omega) (by omega) (by omega)
  · by_cases e : p = i
    · exact ⟨h, by omega, by rw [b2, e]⟩
    · obtain ⟨c, c0, c1⟩ := a3 p p0 (by omega) fp
      by_cases e2 : c < h
      · exact ⟨c, by omega, by rw [b1 c c0.1 e2]; exact c1⟩
      · exact ⟨c + 1, by omega, by rw [b3 (c + 1) (by omega) (by omega), show c + 1 - 1 = c from by omega]; exact c1⟩
theorem zsen_n {σ : zS} {a : Int → Int} {i n : Int} (ha : zsen σ a i n) : n ≤ i := ha.1.2
section SE
variable {G : zG} {σ : zS} {Q : Int → zS → Prop}
theorem okX6_lineUpFellows (hM : zpla σ) (hC : zplC σ) (kq : ∀ (s : zS) (n : Int), (∀ q, q ≠ 58 → s q = σ q) → zsen σ (s 58) (σ 98 4) n → Q n s) : zO G MX6_lineUpFellows [zr 52] σ Q := by
  have ek : ∀ p, 0 ≤ p → p < σ 98 4 → σ 53 p = σ 129 p := fun p a b => (hC.2 p a b).1
  have eh : ∀ p, 0 ≤ p → p < σ 98 4 → σ 54 p = σ 130 p := fun p a b => (hC.2 p a b).2.1
  have ec : ∀ p, 0 ≤ p → p < σ 98 4 → σ 55 p = σ 131 p := fun p a b => (hC.2 p a b).2.2.1
  have en : σ 52 7 = σ 98 4 := hC.1
  have hM0 := hM
  obtain ⟨m0, m1, m2⟩ := hM
  refine TX6_lineUpFellows ?_
  have outer : ∀ (m : Nat) (s : zS) (i n : Int), (σ 98 4 - i).toNat = m → 0 ≤ i → i ≤ σ 98 4 → (∀ q, q ≠ 58 → s q = σ q) → zsen σ (s 58) i n → zR G MX6_lineUpFellows 4 [zr 52, zi n, zi i, zu] [] s Q := by
    intro m
    induction m with
    | zero =>
      intro s i n hm i0 i1 hs hz
      have hi : i = σ 98 4 := by omega
      have e1 : s 52 7 = σ 98 4 := (congrFun (hs _ (by decide)) _).trans (en)
      apply TX6_lineUpFellows_4 <;> (try rw [e1]) <;> (try (intros; omega))
      intro _
      rw [hi] at hz
      exact kq s n hs hz
    | succ m ih =>
      intro s i n hm i0 i1 hs hz
      have hni := zsen_n hz
      have hz0 := hz.1
      have e1 : s 52 7 = σ 98 4 := (congrFun (hs _ (by decide)) _).trans (en)
      have e2 : s 53 i = σ 129 i := (congrFun (hs _ (by decide)) _).trans (ek i i0 (by omega))
      have e3 : s 54 i = σ 130 i := (congrFun (hs _ (by decide)) _).trans (eh i i0 (by omega))
      apply TX6_lineUpFellows_4 <;> (try rw [e1]) <;> (try rw [e2]) <;> (try rw [e3]) <;> (try (intros; omega))
      · intro _ f1 f2
        have fi : zfel σ i := ⟨f1, f2⟩
        have inner : ∀ (j : Nat) (t : zS) (h : Int), h.toNat = j → 0 ≤ h → h ≤ n → (∀ q, q ≠ 58 → t q = σ q) → (∀ c, 0 ≤ c → c < h → t 58 c = s 58 c) → (∀ c, h < c → c ≤ n → t 58 c = s 58 (c - 1)) → (∀ c, h ≤ c → c < n → zsr σ i (s 58 c)) →
            zR G MX6_lineUpFellows 37 [zr 52, zi (n + 1), zi i, zi h] [] t Q := by
          have place : ∀ (t : zS) (h : Int), 0 ≤ h → h ≤ n → (∀ q, q ≠ 58 → t q = σ q) → (∀ c, 0 ≤ c → c < h → t 58 c = s 58 c) → (∀ c, h < c → c ≤ n → t 58 c = s 58 (c - 1)) → (∀ c, h ≤ c → c < n → zsr σ i (s 58 c)) → (h = 0 ∨ zsr σ (s 58 (h - 1)) i) →
              zR G MX6_lineUpFellows 4 [zr 52, zi (n + 1), zi (i + 1), zu] [] (zup t 58 h i) Q := by
            intro t h h0 h1 ht b1 b3 hs1 hs2
            refine ih _ (i + 1) (n + 1) (by omega) (by omega) (by omega) (fun q hq => by rw [zup_ne hq]; exact ht q hq) (zsen_ins hz fi i0 ⟨h0, h1⟩ hs1 hs2 (fun c c0 c1 => ?_) zup_same (fun c c0 c1 => ?_))
            · rw [zup_oi (by omega)]
              exact b1 c c0 c1
            · rw [zup_oi (by omega)]
              exact b3 c c0 c1
          intro j
          induction j with
          | zero =>
            intro t h hj h0 h1 ht b1 b3 hs1
            have hh : h = 0 := by omega
            apply TX6_lineUpFellows_37 <;> (try (intros; omega))
            intro _
            exact place t h h0 h1 ht b1 b3 hs1 (Or.inl hh)
          | succ j ihj =>
            intro t h hj h0 h1 ht b1 b3 hs1
            have hb := b1 (h - 1) (by omega) (by omega)
            have hz1 := hz.2.1 (h - 1) (by omega) (by omega)
            generalize hq : s 58 (h - 1) = q at hb hz1
            have g1 : t 55 i = σ 131 i := (congrFun (ht _ (by decide)) _).trans (ec i i0 (by omega))
            have g2 : t 54 i = σ 130 i := (congrFun (ht _ (by decide)) _).trans (eh i i0 (by omega))
            have g3 : t 55 q = σ 131 q := (congrFun (ht _ (by decide)) _).trans (ec q hz1.1.1 (by omega))
            have g4 : t 54 q = σ 130 q := (congrFun (ht _ (by decide)) _).trans (eh q hz1.1.1 (by omega))
            by_cases hsr : zsr σ i q
            · have hsr2 := hsr
              unfold zsr at hsr2
              apply TX6_lineUpFellows_37 <;> (try rw [hb]) <;> (try (intros; omega))
              intro _ _
              refine ihj _ (h + -1) (by omega) (by omega) (by omega) (fun q' hq' => by rw [zup_ne hq']; exact ht q' hq') (fun c c0 c1 => ?_) (fun c c0 c1 => ?_) (fun c c0 c1 => ?_)
              · rw [zup_oi (by omega)]
                exact b1 c c0 (by omega)
              · by_cases e : c = h
                · rw [e, zup_same]
                  exact hq.symm
                · rw [zup_oi e]
                  exact b3 c (by omega) c1
              · by_cases e : c = h - 1
                · rw [e, hq]; exact hsr
                · exact hs1 c (by omega) c1
            · have hsr2 := hsr
              unfold zsr at hsr2
              have hto := zsr_tot hM0 ⟨i0, by omega⟩ ⟨hz1.1.1, by omega⟩ (by omega) fi hz1.2 hsr
              apply TX6_lineUpFellows_37 <;> (try rw [hb]) <;> (try (intros; omega))
              intro _
              exact place t h h0 h1 ht b1 b3 hs1 (Or.inr (by rw [hq]; exact hto))
        exact inner _ s n rfl hz0.1 (by omega) hs (fun c c0 c1 => rfl) (fun c c0 c1 => by omega) (fun c c0 c1 => by omega)
      · intro _ hnf
        refine ih s (i + 1) n (by omega) (by omega) (by omega) hs ⟨by omega, fun c c0 c1 => ?_, hz.2.2.1, fun p p0 p1 fp => ?_⟩
        · have := hz.2.1 c c0 c1
          exact ⟨by omega, this.2⟩
        · by_cases e : p = i
          · rw [e] at fp
            have := fp.1
            have := fp.2
            omega
          · exact hz.2.2.2 p p0 (by omega) fp
  exact outer _ σ 0 0 rfl (by omega) (by omega) (fun q _ => rfl) ⟨by omega, fun c c0 c1 => by omega, fun c d c0 c1 c2 => by omega, fun p p0 p1 => by omega⟩
theorem okX12_seniors (hM : zpla σ) (kq : ∀ (s : zS) (n : Int), (∀ q, q ≠ 173 → s q = σ q) → zsen σ (s 173) (σ 98 4) n → Q n s) : zO G MX12_seniors [zr 98] σ Q := by
  have ek : ∀ p, 0 ≤ p → p < σ 98 4 → σ 129 p = σ 129 p := fun p a b => rfl
  have eh : ∀ p, 0 ≤ p → p < σ 98 4 → σ 130 p = σ 130 p := fun p a b => rfl
  have ec : ∀ p, 0 ≤ p → p < σ 98 4 → σ 131 p = σ 131 p := fun p a b => rfl
  have en : σ 98 4 = σ 98 4 := rfl
  have hM0 := hM
  obtain ⟨m0, m1, m2⟩ := hM
  refine TX12_seniors ?_
  have outer : ∀ (m : Nat) (s : zS) (i n : Int), (σ 98 4 - i).toNat = m → 0 ≤ i → i ≤ σ 98 4 → (∀ q, q ≠ 173 → s q = σ q) → zsen σ (s 173) i n → zR G MX12_seniors 4 [zr 98, zi n, zi i, zu] [] s Q := by
    intro m
    induction m with
    | zero =>
      intro s i n hm i0 i1 hs hz
      have hi : i = σ 98 4 := by omega
      have e1 : s 98 4 = σ 98 4 := (congrFun (hs _ (by decide)) _).trans (en)
      apply TX12_seniors_4 <;> (try rw [e1]) <;> (try (intros; omega))
      intro _
      rw [hi] at hz
      exact kq s n hs hz
    | succ m ih =>
      intro s i n hm i0 i1 hs hz
      have hni := zsen_n hz
      have hz0 := hz.1
      have e1 : s 98 4 = σ 98 4 := (congrFun (hs _ (by decide)) _).trans (en)
      have e2 : s 129 i = σ 129 i := (congrFun (hs _ (by decide)) _).trans (ek i i0 (by omega))
      have e3 : s 130 i = σ 130 i := (congrFun (hs _ (by decide)) _).trans (eh i i0 (by omega))
      apply TX12_seniors_4 <;> (try rw [e1]) <;> (try rw [e2]) <;> (try rw [e3]) <;> (try (intros; omega))
      · intro _ f1 f2
        have fi : zfel σ i := ⟨f1, f2⟩
        have inner : ∀ (j : Nat) (t : zS) (h : Int), h.toNat = j → 0 ≤ h → h ≤ n → (∀ q, q ≠ 173 → t q = σ q) → (∀ c, 0 ≤ c → c < h → t 173 c = s 173 c) → (∀ c, h < c → c ≤ n → t 173 c = s 173 (c - 1)) → (∀ c, h ≤ c → c < n → zsr σ i (s 173 c)) →
            zR G MX12_seniors 40 [zr 98, zi (n + 1), zi i, zi h] [] t Q := by
          have place : ∀ (t : zS) (h : Int), 0 ≤ h → h ≤ n → (∀ q, q ≠ 173 → t q = σ q) → (∀ c, 0 ≤ c → c < h → t 173 c = s 173 c) → (∀ c, h < c → c ≤ n → t 173 c = s 173 (c - 1)) → (∀ c, h ≤ c → c < n → zsr σ i (s 173 c)) → (h = 0 ∨ zsr σ (s 173 (h - 1)) i) →
              zR G MX12_seniors 4 [zr 98, zi (n + 1), zi (i + 1), zu] [] (zup t 173 h i) Q := by
            intro t h h0 h1 ht b1 b3 hs1 hs2
            refine ih _ (i + 1) (n + 1) (by omega) (by omega) (by omega) (fun q hq => by rw [zup_ne hq]; exact ht q hq) (zsen_ins hz fi i0 ⟨h0, h1⟩ hs1 hs2 (fun c c0 c1 => ?_) zup_same (fun c c0 c1 => ?_))
            · rw [zup_oi (by omega)]
              exact b1 c c0 c1
            · rw [zup_oi (by omega)]
              exact b3 c c0 c1
          intro j
          induction j with
          | zero =>
            intro t h hj h0 h1 ht b1 b3 hs1
            have hh : h = 0 := by omega
            apply TX12_seniors_40 <;> (try (intros; omega))
            intro _
            exact place t h h0 h1 ht b1 b3 hs1 (Or.inl hh)
          | succ j ihj =>
            intro t h hj h0 h1 ht b1 b3 hs1
            have hb := b1 (h - 1) (by omega) (by omega)
            have hz1 := hz.2.1 (h - 1) (by omega) (by omega)
            generalize hq : s 173 (h - 1) = q at hb hz1
            have g1 : t 131 i = σ 131 i := (congrFun (ht _ (by decide)) _).trans (ec i i0 (by omega))
            have g2 : t 130 i = σ 130 i := (congrFun (ht _ (by decide)) _).trans (eh i i0 (by omega))
            have g3 : t 131 q = σ 131 q := (congrFun (ht _ (by decide)) _).trans (ec q hz1.1.1 (by omega))
            have g4 : t 130 q = σ 130 q := (congrFun (ht _ (by decide)) _).trans (eh q hz1.1.1 (by omega))
            by_cases hsr : zsr σ i q
            · have hsr2 := hsr
              unfold zsr at hsr2
              apply TX12_seniors_40 <;> (try rw [hb]) <;> (try (intros; omega))
              intro _ _
              refine ihj _ (h + -1) (by omega) (by omega) (by omega) (fun q' hq' => by rw [zup_ne hq']; exact ht q' hq') (fun c c0 c1 => ?_) (fun c c0 c1 => ?_) (fun c c0 c1 => ?_)
              · rw [zup_oi (by omega)]
                exact b1 c c0 (by omega)
              · by_cases e : c = h
                · rw [e, zup_same]
                  exact hq.symm
                · rw [zup_oi e]
                  exact b3 c (by omega) c1
              · by_cases e : c = h - 1
                · rw [e, hq]; exact hsr
                · exact hs1 c (by omega) c1
            · have hsr2 := hsr
              unfold zsr at hsr2
              have hto := zsr_tot hM0 ⟨i0, by omega⟩ ⟨hz1.1.1, by omega⟩ (by omega) fi hz1.2 hsr
              apply TX12_seniors_40 <;> (try rw [hb]) <;> (try (intros; omega))
              intro _
              exact place t h h0 h1 ht b1 b3 hs1 (Or.inr (by rw [hq]; exact hto))
        exact inner _ s n rfl hz0.1 (by omega) hs (fun c c0 c1 => rfl) (fun c c0 c1 => by omega) (fun c c0 c1 => by omega)
      · intro _ hnf
        refine ih s (i + 1) n (by omega) (by omega) (by omega) hs ⟨by omega, fun c c0 c1 => ?_, hz.2.2.1, fun p p0 p1 fp => ?_⟩
        · have := hz.2.1 c c0 c1
          exact ⟨by omega, this.2⟩
        · by_cases e : p = i
          · rw [e] at fp
            have := fp.1
            have := fp.2
            omega
          · exact hz.2.2.2 p p0 (by omega) fp
  exact outer _ σ 0 0 rfl (by omega) (by omega) (fun q _ => rfl) ⟨by omega, fun c c0 c1 => by omega, fun c d c0 c1 c2 => by omega, fun p p0 p1 => by omega⟩
end SE
