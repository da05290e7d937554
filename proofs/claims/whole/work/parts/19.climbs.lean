/-! CLIMBING in the model -/
def zlkM (σ : zS) (k p q : Int) : Prop := ∃ l, (l = 2 * p ∨ l = 2 * p + 1) ∧ σ 102 l ≠ -1 ∧ σ 103 l ≤ k ∧ σ 102 l = q
section CM
variable {G : zG} {σ : zS} {Q : Int → zS → Prop}
theorem okX12_climbs {w k n : Int} {a : Nat} (ha : zsh a = (0, 24, [])) (n0 : a ≠ 98) (n1 : a ≠ 102) (n2 : a ≠ 103) (n3 : a ≠ 160)
    (hn : σ 98 1 = n) (hn1 : n ≤ 24) (hw : 0 ≤ w ∧ w < n)
    (hL : ∀ l, 0 ≤ l → l < 2 * n → σ 102 l ≠ -1 → 0 ≤ σ 102 l ∧ σ 102 l < n)
    (kq : ∀ s : zS, (∀ q, q ≠ a → q ≠ 160 → s q = σ q) → zstp (-1) n (zlkM σ k) (fun p => p = w) (s a) → Q 0 s) :
    zO G MX12_climbs [zr 98, zi w, zi k, zr a] σ Q := by
  have hE : ∀ p q, 0 ≤ p → p < n → zlkM σ k p q → 0 ≤ q ∧ q < n := by
    rintro p q a1 a2 ⟨l, h1, h2, h3, rfl⟩
    exact hL l (by omega) (by omega) h2
  refine TX12_climbs ha ?_
  have outer : ∀ (m : Nat) (s : zS) (nx wt : Int), (n - nx).toNat = m → (∀ q, q ≠ a → q ≠ 160 → s q = σ q) → zbfs (-1) n (zlkM σ k) (fun p => p = w) (s a) (s 160) nx wt → zR G MX12_climbs 44 [zr 98, zi w, zi k, zr a, zi wt, zi nx, zu, zu, zu] [] s Q := by
    intro m
    induction m with
    | zero =>
      intro s nx wt hm hs hb
      have hw := zbfs_wt hb (by omega)
      have h0 := hb.1
      apply TX12_climbs_44 ha <;> (try (intros; omega))
      intro _
      exact kq s hs (zbfs_end hb (by omega) (by omega) (by omega) hE)
    | succ m ih =>
      intro s nx wt hm hs hb
      have hw := zbfs_wt hb (by omega)
      have h0 := hb.1
      by_cases hx : nx < wt
      · have hw1 := hb.2.1 nx h0.1 hx
        generalize hwho : s 160 nx = who at hw1
        apply TX12_climbs_44 ha <;> (try (intros; omega))
        intro _
        rw [hwho]
        have inner : ∀ (j : Nat) (t : zS) (wt v7 : Int), (2 - v7).toNat = j → 0 ≤ v7 → v7 ≤ 2 → (∀ q, q ≠ a → q ≠ 160 → t q = σ q) → zbfs (-1) n (zlkM σ k) (fun p => p = w) (t a) (t 160) nx wt → nx < wt → t 160 nx = who →
            (∀ l, 0 ≤ l → l < v7 → σ 102 (2 * who + l) ≠ -1 → σ 103 (2 * who + l) ≤ k → t a (σ 102 (2 * who + l)) ≠ -1 ∧ t a (σ 102 (2 * who + l)) ≤ t a who + 1) →
            zR G MX12_climbs 63 [zr 98, zi w, zi k, zr a, zi wt, zi nx, zi who, zi v7, zu] [] t Q := by
          intro j
          induction j with
          | zero =>
            intro t wt v7 hj hv1 hv2 ht hb hx hwh hd
            have h0 := hb.1
            have hw := zbfs_wt hb (by omega)
            apply TX12_climbs_63 ha <;> (try (intros; omega))
            intro _
            refine ih t (nx + 1) wt (by omega) ht (zbfs_next hb hx (fun q hq => ?_))
            rw [hwh] at hq ⊢
            obtain ⟨l, h1, h2, h3, rfl⟩ := hq
            have h4 := hd (l - 2 * who) (by omega) (by omega)
            rw [show 2 * who + (l - 2 * who) = l from by omega] at h4
            exact h4 h2 h3
          | succ j ihj =>
            intro t wt v7 hj hv1 hv2 ht hb hx hwh hd
            have h0 := hb.1
            have hw := zbfs_wt hb (by omega)
            have e24 : t 102 = σ 102 := ht _ (fun z => n1 z.symm) (by decide)
            have e25 : t 103 = σ 103 := ht _ (fun z => n2 z.symm) (by decide)
            have hwt := hb.2.1 nx h0.1 hx
            rw [hwh] at hwt
            by_cases hk : σ 102 (2 * who + v7) ≠ -1 ∧ σ 103 (2 * who + v7) ≤ k
            · have hq := hL (2 * who + v7) (by omega) (by omega) hk.1
              have hEq : zlkM σ k (t 160 nx) (σ 102 (2 * who + v7)) := by
                rw [hwh]
                exact ⟨2 * who + v7, by omega, hk.1, hk.2, rfl⟩
              by_cases hf : t a (σ 102 (2 * who + v7)) = -1
              · obtain ⟨hb2, hwn⟩ := zbfs_new hb (by omega) hx hEq hq hf
                rw [hwh] at hb2
                apply TX12_climbs_63 ha <;> (try rw [e24]) <;> (try rw [e25]) <;> (try (intros; omega))
                · intro _ _ _ _
                  have ea : zup (zup t a (σ 102 (2 * who + v7)) (t a who + 1)) 160 wt (σ 102 (2 * who + v7)) a = zupd1 (t a) (σ 102 (2 * who + v7)) (t a who + 1) := by
                    rw [zup_ne n3, zup_row]
                  have el : zup (zup t a (σ 102 (2 * who + v7)) (t a who + 1)) 160 wt (σ 102 (2 * who + v7)) 160 = zupd1 (t 160) wt (σ 102 (2 * who + v7)) := by
                    rw [zup_row, zup_ne (fun z => n3 z.symm)]
                  have hwq : who ≠ σ 102 (2 * who + v7) := fun z => by rw [← z] at hf; omega
                  refine ihj _ (wt + 1) (v7 + 1) (by omega) (by omega) (by omega) (fun q h1 h2 => ?_) ?_ (by omega) ?_ (fun l h1 h2 h3 h4 => ?_)
                  · rw [zup_ne h2, zup_ne h1]
                    exact ht q h1 h2
                  · rw [ea, el]
                    exact hb2
                  · rw [el]
                    unfold zupd1
                    rw [if_neg (by omega)]
                    exact hwh
                  · rw [ea]
                    have ew : zupd1 (t a) (σ 102 (2 * who + v7)) (t a who + 1) who = t a who := by unfold zupd1; rw [if_neg hwq]
                    rw [ew]
                    by_cases hl : σ 102 (2 * who + l) = σ 102 (2 * who + v7)
                    · have el2 : zupd1 (t a) (σ 102 (2 * who + v7)) (t a who + 1) (σ 102 (2 * who + l)) = t a who + 1 := by unfold zupd1; rw [if_pos hl]
                      rw [el2]
                      omega
                    · have el2 : zupd1 (t a) (σ 102 (2 * who + v7)) (t a who + 1) (σ 102 (2 * who + l)) = t a (σ 102 (2 * who + l)) := by unfold zupd1; rw [if_neg hl]
                      rw [el2]
                      refine hd l h1 ?_ h3 h4
                      by_cases hlv : l = v7
                      · exact absurd (by rw [hlv]) hl
                      · omega
              · have hold := zbfs_old hb hx hq hf
                rw [hwh] at hold
                apply TX12_climbs_63 ha <;> (try rw [e24]) <;> (try rw [e25]) <;> (try (intros; omega))
                · intro _ _
                  refine ihj t wt (v7 + 1) (by omega) (by omega) (by omega) ht hb hx hwh (fun l h1 h2 h3 h4 => ?_)
                  by_cases hlv : l = v7
                  · rw [hlv]; exact ⟨hf, hold⟩
                  · exact hd l h1 (by omega) h3 h4
            · apply TX12_climbs_63 ha <;> (try rw [e24]) <;> (try rw [e25]) <;> (try (intros; omega))
              · intro _ _
                refine ihj t wt (v7 + 1) (by omega) (by omega) (by omega) ht hb hx hwh (fun l h1 h2 h3 h4 => ?_)
                by_cases hlv : l = v7
                · rw [hlv] at h3 h4; exact absurd ⟨h3, h4⟩ hk
                · exact hd l h1 (by omega) h3 h4
        exact inner 2 s wt 0 (by omega) (by omega) (by omega) hs hb hx hwho (fun l h1 h2 => by omega)
      · apply TX12_climbs_44 ha <;> (try (intros; omega))
        intro _
        exact kq s hs (zbfs_end hb (by omega) (by omega) (by omega) hE)
  have first : ∀ (m : Nat) (s : zS) (i : Int), (n - i).toNat = m → 0 ≤ i → i ≤ n → (∀ q, q ≠ a → q ≠ 160 → s q = σ q) →
      (∀ p, 0 ≤ p → p < i → s a p = -1) →
      zR G MX12_climbs 3 [zr 98, zi w, zi k, zr a, zi i, zu, zu, zu, zu] [] s Q := by
    intro m
    induction m with
    | zero =>
      intro s i hm h0 h1 hs hp
      have hi : i = n := by omega
      have hsn : s 98 1 = n := by rw [hs _ (fun z => n0 z.symm) (by decide)]; exact hn
      apply TX12_climbs_3 ha <;> (try rw [hsn]) <;> (try (intros; omega))
      intro _
      have ea : zup (zup s a w 0) 160 0 w a = zupd1 (s a) w 0 := by rw [zup_ne n3, zup_row]
      have el : zup (zup s a w 0) 160 0 w 160 = zupd1 (s 160) 0 w := by rw [zup_row, zup_ne (fun z => n3 z.symm)]
      have aw : zupd1 (s a) w 0 w = 0 := by unfold zupd1; rw [if_pos rfl]
      have ao : ∀ p, p ≠ w → zupd1 (s a) w 0 p = s a p := fun p h => by unfold zupd1; rw [if_neg h]
      have l0 : zupd1 (s 160) 0 w 0 = w := by unfold zupd1; rw [if_pos rfl]
      refine outer _ _ 0 (0 + 1) rfl (fun q q1 q2 => ?_) ?_
      · rw [zup_ne q2, zup_ne q1]
        exact hs q q1 q2
      · rw [ea, el]
        refine ⟨⟨by omega, by omega⟩, fun c c0 c1 => ?_, fun p p0 p1 p2 => ?_, fun c d c0 c1 c2 => by omega, fun c c0 c1 c2 => ?_, fun c c0 c1 => ?_, fun p hS => ?_, fun c q c0 c1 => by omega⟩
        · have : c = 0 := by omega
          subst this
          rw [l0, aw]
          omega
        · by_cases hpw : p = w
          · exact ⟨0, by omega, by omega, by rw [l0, hpw]⟩
          · rw [ao p hpw] at p2
            exact absurd (hp p p0 (by omega)) p2
        · have : c = 0 := by omega
          subst this
          omega
        · have : c = 0 := by omega
          subst this
          rw [l0, aw]
          rfl
        · rw [show p = w from hS]
          exact ⟨hw, aw⟩
    | succ m ih =>
      intro s i hm h0 h1 hs hp
      have hsn : s 98 1 = n := by rw [hs _ (fun z => n0 z.symm) (by decide)]; exact hn
      apply TX12_climbs_3 ha <;> (try rw [hsn]) <;> (try (intros; omega))
      intro _
      have ea : zup s a i (-1) a = zupd1 (s a) i (-1) := zup_row
      refine ih _ (i + 1) (by omega) (by omega) (by omega) (fun q q1 q2 => ?_) (fun p p0 p1 => ?_)
      · rw [zup_ne q1]
        exact hs q q1 q2
      · rw [ea]
        unfold zupd1
        by_cases hpi : p = i
        · rw [if_pos hpi]
        · rw [if_neg hpi]
          exact hp p p0 (by omega)
  exact first _ σ 0 rfl (by omega) (by omega) (fun q _ _ => rfl) (fun p p0 p1 => by omega)
end CM
