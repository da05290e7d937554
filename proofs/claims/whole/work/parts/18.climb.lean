/-! CLIMBING: the steps up, in class and model -/
theorem zup_at {σ : zS} {i : Nat} {j v b : Int} : zup σ i j v i b = if b = j then v else σ i b := by rw [zup_eq]
theorem zup_row {σ : zS} {i : Nat} {j v : Int} : zup σ i j v i = zupd1 (σ i) j v := by
  rw [zup_eq]
  rfl
/-- the least steps, as they stand in a row; F: none -/
def zstp (F n : Int) (E : Int → Int → Prop) (S : Int → Prop) (st : Int → Int) : Prop :=
  ∀ p, 0 ≤ p → p < n → (st p ≠ F → 0 ≤ st p ∧ st p < n ∧ zball E S (st p).toNat p) ∧ ∀ d : Nat, zball E S d p → st p ≠ F ∧ st p ≤ d
/-- links as the class tells them, known on k -/
def zlkC (σ : zS) (k p q : Int) : Prop := ∃ l, (l = 2 * p ∨ l = 2 * p + 1) ∧ σ 25 l ≠ -1 ∧ σ 25 l ≤ k ∧ σ 24 l = q
section CL
variable {G : zG} {σ : zS} {Q : Int → zS → Prop}
theorem okX5_climb {bits k : Int} {a : Nat} (ha : zsh a = (0, 24, [])) (n1 : a ≠ 24) (n2 : a ≠ 25) (n3 : a ≠ 34)
    (hL : ∀ l, 0 ≤ l → l < 48 → σ 25 l ≠ -1 → 0 ≤ σ 24 l ∧ σ 24 l < 24)
    (kq : ∀ s : zS, (∀ q, q ≠ a → q ≠ 34 → s q = σ q) → zstp 99 24 (zlkC σ k) (fun p => (0 ≤ p ∧ p < 24) ∧ zbit bits p) (s a) → Q 0 s) :
    zO G MX5_climb [zr 22, zi bits, zi k, zr a] σ Q := by
  have hE : ∀ p q, 0 ≤ p → p < 24 → zlkC σ k p q → 0 ≤ q ∧ q < 24 := by
    rintro p q a1 a2 ⟨l, h1, h2, h3, rfl⟩
    exact hL l (by omega) (by omega) h2
  refine TX5_climb ha ?_
  -- the line gone through
  have outer : ∀ (m : Nat) (s : zS) (nx wt : Int), (24 - nx).toNat = m → (∀ q, q ≠ a → q ≠ 34 → s q = σ q) → zbfs 99 24 (zlkC σ k) (fun p => (0 ≤ p ∧ p < 24) ∧ zbit bits p) (s a) (s 34) nx wt → zR G MX5_climb 54 [zr 22, zi bits, zi k, zr a, zi wt, zi nx, zu, zu] [] s Q := by
    intro m
    induction m with
    | zero =>
      intro s nx wt hm hs hb
      have hw := zbfs_wt hb (by omega)
      have h0 := hb.1
      apply TX5_climb_54 ha <;> (try (intros; omega))
      intro _
      exact kq s hs (zbfs_end hb (by omega) (by omega) (by omega) hE)
    | succ m ih =>
      intro s nx wt hm hs hb
      have hw := zbfs_wt hb (by omega)
      have h0 := hb.1
      by_cases hx : nx < wt
      · have hw1 := hb.2.1 nx h0.1 hx
        generalize hwho : s 34 nx = who at hw1
        apply TX5_climb_54 ha <;> (try (intros; omega))
        intro _ _
        rw [hwho]
        -- its two links
        have inner : ∀ (j : Nat) (t : zS) (wt v7 : Int), (2 * who + 2 - v7).toNat = j → 2 * who ≤ v7 → v7 ≤ 2 * who + 2 → (∀ q, q ≠ a → q ≠ 34 → t q = σ q) → zbfs 99 24 (zlkC σ k) (fun p => (0 ≤ p ∧ p < 24) ∧ zbit bits p) (t a) (t 34) nx wt → nx < wt → t 34 nx = who →
            (∀ l, 2 * who ≤ l → l < v7 → σ 25 l ≠ -1 → σ 25 l ≤ k → t a (σ 24 l) ≠ 99 ∧ t a (σ 24 l) ≤ t a who + 1) →
            zR G MX5_climb 83 [zr 22, zi bits, zi k, zr a, zi wt, zi nx, zi who, zi v7] [] t Q := by
          intro j
          induction j with
          | zero =>
            intro t wt v7 hj hv1 hv2 ht hb hx hwh hd
            have h0 := hb.1
            have hw := zbfs_wt hb (by omega)
            apply TX5_climb_83 ha <;> (try (intros; omega))
            intro _
            refine ih t (nx + 1) wt (by omega) ht (zbfs_next hb hx (fun q hq => ?_))
            rw [hwh] at hq ⊢
            obtain ⟨l, h1, h2, h3, rfl⟩ := hq
            exact hd l (by omega) (by omega) h2 h3
          | succ j ihj =>
            intro t wt v7 hj hv1 hv2 ht hb hx hwh hd
            have h0 := hb.1
            have hw := zbfs_wt hb (by omega)
            have e24 : t 24 = σ 24 := ht _ (fun z => n1 z.symm) (by decide)
            have e25 : t 25 = σ 25 := ht _ (fun z => n2 z.symm) (by decide)
            have hwt := hb.2.1 nx h0.1 hx
            rw [hwh] at hwt
            by_cases hk : σ 25 v7 ≠ -1 ∧ σ 25 v7 ≤ k
            · have hq := hL v7 (by omega) (by omega) hk.1
              have hEq : zlkC σ k (t 34 nx) (σ 24 v7) := by
                rw [hwh]
                exact ⟨v7, by omega, hk.1, hk.2, rfl⟩
              by_cases hf : t a (σ 24 v7) = 99
              · obtain ⟨hb2, hwn⟩ := zbfs_new hb (by omega) hx hEq hq hf
                rw [hwh] at hb2
                apply TX5_climb_83 ha <;> (try rw [e24]) <;> (try rw [e25]) <;> (try (intros; omega))
                · intro _ _ _
                  rw [zup_of (fun z => n1 z.symm), e24]
                  have ea : zup (zup t a (σ 24 v7) (t a who + 1)) 34 wt (σ 24 v7) a = zupd1 (t a) (σ 24 v7) (t a who + 1) := by
                    rw [zup_ne n3, zup_row]
                  have el : zup (zup t a (σ 24 v7) (t a who + 1)) 34 wt (σ 24 v7) 34 = zupd1 (t 34) wt (σ 24 v7) := by
                    rw [zup_row, zup_ne (fun z => n3 z.symm)]
                  have hwq : who ≠ σ 24 v7 := fun z => by rw [← z] at hf; omega
                  refine ihj _ (wt + 1) (v7 + 1) (by omega) (by omega) (by omega) (fun q h1 h2 => ?_) ?_ (by omega) ?_ (fun l h1 h2 h3 h4 => ?_)
                  · rw [zup_ne h2, zup_ne h1]
                    exact ht q h1 h2
                  · rw [ea, el]
                    exact hb2
                  · rw [el]
                    unfold zupd1
                    rw [if_neg (by omega)]
                    exact hwh
                  · rw [ea]
                    have ew : zupd1 (t a) (σ 24 v7) (t a who + 1) who = t a who := by unfold zupd1; rw [if_neg hwq]
                    rw [ew]
                    by_cases hl : σ 24 l = σ 24 v7
                    · have el2 : zupd1 (t a) (σ 24 v7) (t a who + 1) (σ 24 l) = t a who + 1 := by unfold zupd1; rw [if_pos hl]
                      rw [el2]
                      omega
                    · have el2 : zupd1 (t a) (σ 24 v7) (t a who + 1) (σ 24 l) = t a (σ 24 l) := by unfold zupd1; rw [if_neg hl]
                      rw [el2]
                      refine hd l h1 ?_ h3 h4
                      by_cases hlv : l = v7
                      · exact absurd (by rw [hlv]) hl
                      · omega
              · have hold := zbfs_old hb hx hq hf
                rw [hwh] at hold
                apply TX5_climb_83 ha <;> (try rw [e24]) <;> (try rw [e25]) <;> (try (intros; omega))
                · intro _ _
                  refine ihj t wt (v7 + 1) (by omega) (by omega) (by omega) ht hb hx hwh (fun l h1 h2 h3 h4 => ?_)
                  by_cases hlv : l = v7
                  · rw [hlv]; exact ⟨hf, hold⟩
                  · exact hd l h1 (by omega) h3 h4
            · apply TX5_climb_83 ha <;> (try rw [e24]) <;> (try rw [e25]) <;> (try (intros; omega))
              · intro _ _
                refine ihj t wt (v7 + 1) (by omega) (by omega) (by omega) ht hb hx hwh (fun l h1 h2 h3 h4 => ?_)
                by_cases hlv : l = v7
                · rw [hlv] at h3 h4; exact absurd ⟨h3, h4⟩ hk
                · exact hd l h1 (by omega) h3 h4
        exact inner 2 s wt (2 * who) (by omega) (by omega) (by omega) hs hb hx hwho (fun l h1 h2 => by omega)
      · apply TX5_climb_54 ha <;> (try (intros; omega))
        intro _
        exact kq s hs (zbfs_end hb (by omega) (by omega) (by omega) hE)
  -- the row made empty, the line's beginning
  have first : ∀ (m : Nat) (s : zS) (i wt : Int), (24 - i).toNat = m → 0 ≤ i → i ≤ 24 → (∀ q, q ≠ a → q ≠ 34 → s q = σ q) →
      (∀ p, 0 ≤ p → p < i → (zbit bits p ∧ s a p = 0 ∧ ∃ c, 0 ≤ c ∧ c < wt ∧ s 34 c = p) ∨ (¬ zbit bits p ∧ s a p = 99)) →
      (∀ c, 0 ≤ c → c < wt → (0 ≤ s 34 c ∧ s 34 c < i) ∧ zbit bits (s 34 c) ∧ s a (s 34 c) = 0) → (∀ c d, 0 ≤ c → c < d → d < wt → s 34 c < s 34 d) → 0 ≤ wt → wt ≤ i →
      zR G MX5_climb 6 [zr 22, zi bits, zi k, zr a, zi wt, zi i, zu, zu] [] s Q := by
    intro m
    induction m with
    | zero =>
      intro s i wt hm h0 h1 hs hp hc hd hw0 hwi
      have hi : i = 24 := by omega
      subst hi
      apply TX5_climb_6 ha <;> (try (intros; omega))
      intro _
      refine outer _ s 0 wt rfl hs ⟨⟨by omega, hw0⟩, fun c c0 c1 => ?_, fun p p0 p1 p2 => ?_, fun c d c0 c1 c2 => ?_, fun c c0 c1 c2 => ?_, fun c c0 c1 => ?_, fun p hS => ?_, fun c q c0 c1 => by omega⟩
      · have := hc c c0 c1
        exact ⟨this.1, by omega, by omega⟩
      · rcases hp p p0 p1 with h | h
        · exact h.2.2
        · exact absurd h.2 p2
      · have := hd c d c0 c1 c2
        have h2 := hc c c0 (by omega)
        have h3 := hc d (by omega) c2
        exact ⟨by omega, by omega⟩
      · have h2 := hc c c0 c1
        have h3 := hc 0 (by omega) c2
        omega
      · have h2 := hc c c0 c1
        rw [h2.2.2]
        exact ⟨h2.1, h2.2.1⟩
      · refine ⟨hS.1, ?_⟩
        rcases hp p hS.1.1 hS.1.2 with h | h
        · exact h.2.1
        · exact absurd hS.2 h.1
    | succ m ih =>
      intro s i wt hm h0 h1 hs hp hc hd hw0 hwi
      have hbit := zb_and1 (x := bits) (i := i) h0 (by omega)
      by_cases hz : zbit bits i
      · have e1 := hbit.1 hz
        apply TX5_climb_6 ha <;> (try (intros; omega))
        intro _ _
        have ea : zup (zup (zup s a i 99) a i 0) 34 wt i a = zupd1 (zupd1 (s a) i 99) i 0 := by
          rw [zup_ne n3, zup_row, zup_row]
        have el : zup (zup (zup s a i 99) a i 0) 34 wt i 34 = zupd1 (s 34) wt i := by
          rw [zup_row, zup_ne (fun z => n3 z.symm), zup_ne (fun z => n3 z.symm)]
        have ai : zupd1 (zupd1 (s a) i 99) i 0 i = 0 := by unfold zupd1; rw [if_pos rfl]
        have ao : ∀ p, p ≠ i → zupd1 (zupd1 (s a) i 99) i 0 p = s a p := fun p h => by unfold zupd1; rw [if_neg h, if_neg h]
        have li : zupd1 (s 34) wt i wt = i := by unfold zupd1; rw [if_pos rfl]
        have lo : ∀ c, c ≠ wt → zupd1 (s 34) wt i c = s 34 c := fun c h => by unfold zupd1; rw [if_neg h]
        refine ih _ (i + 1) (wt + 1) (by omega) (by omega) (by omega) (fun q q1 q2 => ?_) (fun p p0 p1 => ?_) (fun c c0 c1 => ?_) (fun c d c0 c1 c2 => ?_) (by omega) (by omega)
        · rw [zup_ne q2, zup_ne q1, zup_ne q1]
          exact hs q q1 q2
        · rw [ea, el]
          by_cases hpi : p = i
          · left
            subst hpi
            exact ⟨hz, ai, wt, hw0, by omega, li⟩
          · rcases hp p p0 (by omega) with h | h
            · left
              obtain ⟨x1, x2, c, x3, x4, x5⟩ := h
              exact ⟨x1, by rw [ao p hpi]; exact x2, c, x3, by omega, by rw [lo c (by omega)]; exact x5⟩
            · right
              exact ⟨h.1, by rw [ao p hpi]; exact h.2⟩
        · rw [ea, el]
          by_cases hcw : c = wt
          · subst hcw
            rw [li, ai]
            exact ⟨by omega, hz, rfl⟩
          · have h2 := hc c c0 (by omega)
            rw [lo c hcw, ao _ (by omega)]
            exact ⟨by omega, h2.2⟩
        · rw [el]
          by_cases hdw : d = wt
          · subst hdw
            rw [li, lo c (by omega)]
            exact (hc c c0 (by omega)).1.2
          · rw [lo c (by omega), lo d hdw]
            exact hd c d c0 c1 (by omega)
      · have e1 := hbit.2 hz
        apply TX5_climb_6 ha <;> (try (intros; omega))
        intro _ _
        have ea : zup s a i 99 a = zupd1 (s a) i 99 := zup_row
        have el : zup s a i 99 34 = s 34 := zup_ne (fun z => n3 z.symm)
        have ai : zupd1 (s a) i 99 i = 99 := by unfold zupd1; rw [if_pos rfl]
        have ao : ∀ p, p ≠ i → zupd1 (s a) i 99 p = s a p := fun p h => by unfold zupd1; rw [if_neg h]
        refine ih _ (i + 1) wt (by omega) (by omega) (by omega) (fun q q1 q2 => ?_) (fun p p0 p1 => ?_) (fun c c0 c1 => ?_) (fun c d c0 c1 c2 => ?_) (by omega) (by omega)
        · rw [zup_ne q1]
          exact hs q q1 q2
        · rw [ea, el]
          by_cases hpi : p = i
          · right
            subst hpi
            exact ⟨hz, ai⟩
          · rcases hp p p0 (by omega) with h | h
            · left
              exact ⟨h.1, by rw [ao p hpi]; exact h.2.1, h.2.2⟩
            · right
              exact ⟨h.1, by rw [ao p hpi]; exact h.2⟩
        · have h2 := hc c c0 c1
          rw [ea, el, ao _ (by omega)]
          exact ⟨by omega, h2.2⟩
        · rw [el]
          exact hd c d c0 c1 c2
  exact first _ σ 0 0 rfl (by omega) (by omega) (fun q _ _ => rfl) (fun p p0 p1 => by omega) (fun c c0 c1 => by omega) (fun c d c0 c1 c2 => by omega) (by omega) (by omega)
end CL
