/-! CALLS: exchange, the room wanted in the class -/
section WT
variable {G : zG} {σ : zS} {Q : Int → zS → Prop}
/-- the room to which the owner of ρ points, of those in X -/
def zwt (σ : zS) (ow : Int → Int) (X ρ r : Int) : Prop := ∃ x, zfi (fun i => σ 92 (9 * ow ρ + i)) (σ 93 (ow ρ)) (zmem X) x ∧ ((x = -1 ∧ r = ρ) ∨ (x ≠ -1 ∧ r = x))
theorem okX8_wantedFor {ρ X : Int} (hws : zwsh σ) (hlim : σ 91 0 = 9) (hρ : 0 ≤ ρ ∧ ρ < 9) (ho : 0 ≤ σ 96 ρ ∧ σ 96 ρ < 24) (kq : ∀ r, zwt σ (σ 96) X ρ r → Q r σ) : zO G MX8_wantedFor [zr 94, zi ρ, zi X] σ Q := by
  have hwc := hws (σ 96 ρ) ho.1 ho.2
  apply TX8_wantedFor
  · exact hρ
  refine okX1_firstOf (lim := 9) (tn := 216) (by decide +kernel : zsh 91 = (4, 1, [none, some 92, some 93])) (by decide +kernel) (by decide +kernel) hlim (by omega) (by omega) ho hwc.1 hwc.2.2.1 (fun r hr => ?_)
  by_cases c : r = -1
  · apply TX8_wantedFor_14 <;> (try (intros; omega))
    intro _
    exact kq ρ ⟨r, hr, Or.inl ⟨c, rfl⟩⟩
  · apply TX8_wantedFor_14 <;> (try (intros; omega))
    intro _
    exact kq r ⟨r, hr, Or.inr ⟨c, rfl⟩⟩
end WT
