/-! CALLS: exchange, whom one points to in the model -/
/-- some who is there had the room x -/
def zhad (σ : zS) (x : Int) : Prop := ∃ v, (0 ≤ v ∧ v < σ 98 1) ∧ σ 178 v ≠ 0 ∧ σ 176 v = x
section PT
variable {G : zG} {σ : zS} {Q : Int → zS → Prop}
theorem okX12_pointed {w : Int} (hp : 0 ≤ σ 98 1 ∧ σ 98 1 ≤ 24) (hw : 0 ≤ w ∧ w < 24) (hn : 0 ≤ σ 137 w ∧ σ 137 w ≤ 80)
    (kq : ∀ r, (r = w ∧ ∀ k, 0 ≤ k → k < σ 137 w → ¬ zhad σ (σ 136 (80 * w + k))) ∨ (∃ k, (0 ≤ k ∧ k < σ 137 w) ∧ ((0 ≤ r ∧ r < σ 98 1) ∧ σ 178 r ≠ 0 ∧ σ 176 r = σ 136 (80 * w + k)) ∧ ∀ j, 0 ≤ j → j < k → ¬ zhad σ (σ 136 (80 * w + j))) → Q r σ) : zO G MX12_pointed [zr 98, zi w] σ Q := by
  refine TX12_pointed ?_
  have loop : ∀ (n : Nat) (i : Int), (σ 137 w - i).toNat = n → 0 ≤ i → i ≤ σ 137 w → (∀ j, 0 ≤ j → j < i → ¬ zhad σ (σ 136 (80 * w + j))) → zR G MX12_pointed 2 [zr 98, zi w, zi i, zu, zu] [] σ Q := by
    intro n
    induction n with
    | zero =>
      intro i hm i0 i1 h
      have : i = σ 137 w := by omega
      subst this
      apply TX12_pointed_2 <;> (try (intros; omega))
      intro _
      exact kq w (Or.inl ⟨rfl, h⟩)
    | succ n ih =>
      intro i hm i0 i1 h
      apply TX12_pointed_2 <;> (try (intros; omega))
      intro _
      have inner : ∀ (m : Nat) (v : Int), (σ 98 1 - v).toNat = m → 0 ≤ v → v ≤ σ 98 1 → (∀ u, 0 ≤ u → u < v → ¬ (σ 178 u ≠ 0 ∧ σ 176 u = σ 136 (80 * w + i))) → zR G MX12_pointed 27 [zr 98, zi w, zi i, zi (σ 136 (80 * w + i)), zi v] [] σ Q := by
        intro m
        induction m with
        | zero =>
          intro v hm2 v0 v1 hu
          apply TX12_pointed_27 <;> (try (intros; omega))
          intro _
          refine ih (i + 1) (by omega) (by omega) (by omega) (fun j j0 j1 => ?_)
          by_cases e : j = i
          · rw [e]
            rintro ⟨u, a, b, c⟩
            exact hu u a.1 (by omega) ⟨b, c⟩
          · exact h j j0 (by omega)
        | succ m ihm =>
          intro v hm2 v0 v1 hu
          by_cases c : σ 178 v ≠ 0 ∧ σ 176 v = σ 136 (80 * w + i)
          · have c1 := c.1
            have c2 := c.2
            apply TX12_pointed_27 <;> (try (intros; omega))
            intro _ _ _
            exact kq v (Or.inr ⟨i, by omega, ⟨by omega, c1, c2⟩, h⟩)
          · have c' : σ 178 v = 0 ∨ (σ 178 v ≠ 0 ∧ σ 176 v ≠ σ 136 (80 * w + i)) := by
              by_cases x : σ 178 v = 0
              · exact Or.inl x
              · exact Or.inr ⟨x, fun y => c ⟨x, y⟩⟩
            have go := ihm (v + 1) (by omega) (by omega) (by omega) (fun u u0 u1 => by
              by_cases e : u = v
              · rw [e]; exact c
              · exact hu u u0 (by omega))
            apply TX12_pointed_27 <;> (try (intros; omega))
            all_goals (intros; exact go)
      exact inner _ 0 rfl (by omega) hp.1 (fun u a b => by omega)
  exact loop _ 0 rfl (by omega) hn.1 (fun j a b => by omega)
end PT
