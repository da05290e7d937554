/-! The class's words, all amendments done -/
/-- the order in which amendments are done, as the class keeps it -/
def zturC (σ : zS) (l : List Int) : Prop := (l.length : Int) = σ 98 3 ∧ ∀ (i : Nat) (x : Int), l[i]? = some x → σ 45 i = x ∧ 0 ≤ x ∧ x < σ 98 3
section CO
variable {G : zG} {σ : zS} {Q : Int → zS → Prop}
theorem okX10_compose {l : List Int} {w a k : Int} (hM : zamo σ) (hC : zamC σ) (ht : zturC σ l) (hw : 0 ≤ w ∧ w < 4)
    (kq : ∀ t : zS, zfrC σ t → zhasC t (zwords σ l w a k) → Q 0 t) : zO G MX10_compose [zr 35, zi w, zi a, zi k] σ Q := by
  have hM0 := hM
  have hC0 := hC
  obtain ⟨m0, m1, m2⟩ := hM
  obtain ⟨c0, c1, c2⟩ := hC
  have mw := m1 w hw.1 hw.2
  have cw := c1 w hw.1 hw.2
  have loop : ∀ (rem pre : List Int) (s : zS), l = pre ++ rem → zfrC σ s → zhasC s (pre.foldl (fun T x => zap σ w a k x T) (σ 118 w, (fun i => σ 117 (80 * w + i)), fun _ => 0)) →
      zR G MX10_compose 61 [zr 35, zi w, zi a, zi k, zi (pre.length : Int), zu] [] s Q := by
    intro rem
    induction rem with
    | nil =>
      intro pre s hl hf hT
      have hlen : (pre.length : Int) = σ 98 3 := by
        rw [← ht.1, hl]
        simp
      have e11 : s 35 11 = (pre.length : Int) := by rw [hf _ _ (by decide) (by omega), c0, hlen]
      apply TX10_compose_61 <;> (try rw [e11]) <;> (try (intros; omega))
      intro _
      refine kq s hf ?_
      unfold zwords
      rw [hl, List.append_nil]
      exact hT
    | cons x rest ih =>
      intro pre s hl hf hT
      have hget : l[pre.length]? = some x := by rw [hl]; simp
      obtain ⟨tx, x0, x1⟩ := ht.2 pre.length x hget
      have hlen : (pre.length : Int) < σ 98 3 := by
        rw [← ht.1, hl]
        simp
        omega
      have e11 : s 35 11 = σ 98 3 := by rw [hf _ _ (by decide) (by omega), c0]
      have e45 : s 45 (pre.length : Int) = x := by rw [hf _ _ (by decide) (fun z => absurd z.1 (by decide)), tx]
      have cx := c2 x x0 x1
      have e38 : s 38 x = σ 119 x := by rw [hf _ _ (by decide) (fun z => absurd z.1 (by decide))]; exact cx.1
      have e39 : s 39 x = σ 120 x := by rw [hf _ _ (by decide) (fun z => absurd z.1 (by decide))]; exact cx.2.1
      have e40 : s 40 x = σ 121 x := by rw [hf _ _ (by decide) (fun z => absurd z.1 (by decide))]; exact cx.2.2.1
      have hnext : ∀ t : zS, zfrC σ t → zhasC t (zap σ w a k x (pre.foldl (fun T x => zap σ w a k x T) (σ 118 w, (fun i => σ 117 (80 * w + i)), fun _ => 0))) → zR G MX10_compose 61 [zr 35, zi w, zi a, zi k, zi ((pre.length : Int) + 1), zu] [] t Q := by
        intro t hft hTt
        have h1 := ih (pre ++ [x]) t (by rw [hl]; simp) hft (by rw [List.foldl_append]; exact hTt)
        have e : (((pre ++ [x]).length : Nat) : Int) = (pre.length : Int) + 1 := by simp
        rw [e] at h1
        exact h1
      generalize hTn : pre.foldl (fun T x => zap σ w a k x T) (σ 118 w, (fun i => σ 117 (80 * w + i)), fun _ => 0) = T at hT hnext
      apply TX10_compose_61 <;> (try rw [e11]) <;> (try rw [e45]) <;> (try rw [e38]) <;> (try rw [e39]) <;> (try rw [e40]) <;> (try (intros; omega))
      · intro _ h1 h2
        refine okX10_replace hM0 hC0 hf hT ⟨x0, x1⟩ ⟨h1, h2.2, h2.1⟩ (fun t r hft hr => ?_)
        rcases hr with ⟨rfl, g1, rfl, g2, g3⟩ | ⟨rfl, g1, g2⟩
        · apply TX10_compose_107 <;> (try (intros; omega))
          intro _
          refine hnext _ (fun q j q1 q2 => ?_) ?_
          · have h3 : ¬ (q = 35 ∧ j = 13) := fun z => q2 ⟨z.1, Or.inr z.2⟩
            rw [show zup t 35 13 _ q j = t q j from if_neg h3]
            exact hft q j q1 q2
          · obtain ⟨t1, t2, t3, t4⟩ := hT
            unfold zhasC
            rw [g1, g2, g3]
            refine ⟨t1, by rw [zup_oi (by decide)]; exact t2, by rw [zup_ne (by decide)]; exact t3, fun y y0 y1 => ?_⟩
            rw [zup_same, zb_or, zb_shl x0 (by omega) y0 (by omega), t4 y y0 y1]
            unfold zupd1
            by_cases hy : y = x
            · rw [if_pos hy]
              simp [hy]
            · rw [if_neg hy]
              simp [hy]
        · apply TX10_compose_107 <;> (try (intros; omega))
          intro _
          exact hnext t hft g2
      · intro _ h
        have hni : ¬ (σ 119 x = w ∧ σ 120 x ≤ a ∧ σ 121 x ≤ k) := by omega
        refine hnext s hf ?_
        have ez : zap σ w a k x T = T := by
          unfold zap
          rw [if_neg hni]
        rw [ez]
        exact hT
  have start : ∀ s : zS, zfrC σ s → zhasC s (σ 118 w, (fun i => σ 117 (80 * w + i)), fun _ => 0) → zR G MX10_compose 61 [zr 35, zi w, zi a, zi k, zi 0, zu] [] s Q := fun s hf hT => loop l [] s rfl hf hT
  have g0 : ∀ s : zS, s 35 13 = 0 → ∀ x, 0 ≤ x → x < 12 → (zbit (s 35 13) x ↔ (fun _ : Int => (0 : Int)) x = 1) := by
    intro s hs x x0 x1
    rw [hs]
    exact ⟨fun z => absurd z (zb_0 x), fun z => by simp at z⟩
  rcases cw with ⟨w1, w2, w3⟩ | ⟨w1, w2⟩
  · apply TX10_compose <;> (try (intros; omega))
    intro _
    refine start _ (fun q j q1 q2 => ?_) ?_
    · have h3 : ¬ (q = 35 ∧ j = 12) := fun z => q2 ⟨z.1, Or.inl z.2⟩
      have h4 : ¬ (q = 35 ∧ j = 13) := fun z => q2 ⟨z.1, Or.inr z.2⟩
      rw [show zup _ 35 12 1 q j = _ from if_neg h3, zup_of q1, show zup _ 35 12 _ q j = _ from if_neg h3, show zup _ 35 13 0 q j = _ from if_neg h4]
    · rw [w2]
      refine ⟨by dsimp only; omega, zup_same, fun i i0 i1 => ?_, ?_⟩
      · have : i = 0 := by dsimp only at i1; omega
        subst this
        rw [zup_of (by decide), zup_same]
        dsimp only
        rw [show 80 * w + 0 = 80 * w from by omega]
        exact w3.symm
      · refine g0 _ ?_
        rw [zup_oi (by decide), zup_of (by decide), zup_oi (by decide), zup_same]
  · apply TX10_compose <;> (try (intros; omega))
    intro _
    refine start _ (fun q j q1 q2 => ?_) ?_
    · have h3 : ¬ (q = 35 ∧ j = 12) := fun z => q2 ⟨z.1, Or.inl z.2⟩
      have h4 : ¬ (q = 35 ∧ j = 13) := fun z => q2 ⟨z.1, Or.inr z.2⟩
      rw [zcp_of q1, show zup _ 35 12 _ q j = _ from if_neg h3, show zup _ 35 13 0 q j = _ from if_neg h4]
    · refine ⟨by dsimp only; omega, ?_, fun i i0 i1 => ?_, ?_⟩
      · rw [zcp_of (by decide), zup_same]
        exact w1
      · dsimp only at i1 ⊢
        rw [show zcp (zup (zup σ 35 13 0) 35 12 (σ 37 w)) 36 (80 * w) 46 0 (σ 37 w) 46 i = zup (zup σ 35 13 0) 35 12 (σ 37 w) 36 (80 * w + (i - 0)) from if_pos ⟨rfl, by omega, by omega⟩, zup_of (by decide), zup_of (by decide), show i - 0 = i from by omega]
        exact w2 i i0 i1
      · refine g0 _ ?_
        rw [zcp_of (by decide), zup_oi (by decide), zup_same]
end CO
