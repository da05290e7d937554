/-! CALLS: exchange, who points to whom -/
def zS0 (σ : zS) (v : Int) : Prop := (0 ≤ v ∧ v < σ 98 1) ∧ σ 138 v ≠ -1
/-- some who is there has the room x -/
def zthe (σ : zS) (S : Int → Prop) (x : Int) : Prop := ∃ v, (S v ∧ zS0 σ v) ∧ σ 138 v = x
def zptr (σ : zS) (S : Int → Prop) (w r : Int) : Prop := (r = w ∧ ∀ k, 0 ≤ k → k < σ 137 w → ¬ zthe σ S (σ 136 (80 * w + k))) ∨
  ∃ k, (0 ≤ k ∧ k < σ 137 w) ∧ ((S r ∧ zS0 σ r) ∧ σ 138 r = σ 136 (80 * w + k)) ∧ ∀ j, 0 ≤ j → j < k → ¬ zthe σ S (σ 136 (80 * w + j))
theorem zptr_ex (σ : zS) (S : Int → Prop) (w : Int) : ∃ r, zptr σ S w r := by
  obtain ⟨x, hx⟩ := zfi_ex (fun i => σ 136 (80 * w + i)) (σ 137 w) (zthe σ S)
  rcases hx with ⟨_, h⟩ | ⟨k, a, ⟨v, b, c⟩, d, e⟩
  · exact ⟨w, Or.inl ⟨rfl, h⟩⟩
  · exact ⟨v, Or.inr ⟨k, a, ⟨b, c⟩, e⟩⟩
/-- no two have one room -/
def zrdq (σ : zS) : Prop := ∀ w v, 0 ≤ w → w < v → v < 24 → σ 138 w ≠ -1 → σ 138 w ≠ σ 138 v
theorem zptr_one {σ : zS} {S : Int → Prop} {w r r' : Int} (hp : σ 98 1 ≤ 24) (hr : zrdq σ) (h : zptr σ S w r) (h' : zptr σ S w r') : r = r' := by
  rcases h with ⟨e, h⟩ | ⟨k, a, b, c⟩ <;> rcases h' with ⟨e', h'⟩ | ⟨k', a', b', c'⟩
  · omega
  · exact absurd ⟨r', b'.1, b'.2⟩ (h k' a'.1 a'.2)
  · exact absurd ⟨r, b.1, b.2⟩ (h' k a.1 a.2)
  · have hk : k = k' := by
      by_cases x : k < k'
      · exact absurd ⟨r, b.1, b.2⟩ (c' k a.1 x)
      · by_cases y : k' < k
        · exact absurd ⟨r', b'.1, b'.2⟩ (c k' a'.1 y)
        · omega
    subst hk
    have e : σ 138 r = σ 138 r' := by rw [b.2, b'.2]
    have h1 := b.1.2
    have h2 := b'.1.2
    have h1r := h1.1
    have h2r := h2.1
    by_cases x : r < r'
    · exact absurd e (hr r r' h1r.1 x (by omega) h1.2)
    · by_cases y : r' < r
      · exact absurd e.symm (hr r' r h2r.1 y (by omega) h2.2)
      · omega
noncomputable def zF (σ : zS) (S : Int → Prop) (w : Int) : Int := Classical.choose (zptr_ex σ S w)
theorem zF_p {σ : zS} {S : Int → Prop} {w : Int} : zptr σ S w (zF σ S w) := Classical.choose_spec (zptr_ex σ S w)
theorem zF_in {σ : zS} {S : Int → Prop} {w : Int} (h : S w ∧ zS0 σ w) : S (zF σ S w) ∧ zS0 σ (zF σ S w) := by
  rcases zF_p (σ := σ) (S := S) (w := w) with ⟨e, _⟩ | ⟨k, a, b, c⟩
  · rw [e]; exact h
  · exact b.1
theorem zF_hold {σ : zS} (hp : σ 98 1 ≤ 24) (hr : zrdq σ) : zhold (zF σ) := by
  intro S S' w hs hw hf
  refine zptr_one hp hr zF_p ?_
  have mono : ∀ x, zthe σ S' x → zthe σ S x := fun x ⟨v, a, b⟩ => ⟨v, ⟨hs v a.1, a.2⟩, b⟩
  rcases zF_p (σ := σ) (S := S) (w := w) with ⟨e, h⟩ | ⟨k, a, b, c⟩
  · exact Or.inl ⟨e, fun k k0 k1 z => h k k0 k1 (mono _ z)⟩
  · exact Or.inr ⟨k, a, ⟨⟨hf, b.1.2⟩, b.2⟩, fun j j0 j1 z => c j j0 j1 (mono _ z)⟩
