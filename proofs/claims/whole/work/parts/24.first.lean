/-! THE FIRST PLACE of some letters in others -/
def zoc (t o : Int → Int) (m at_ : Int) : Prop := ∀ j, 0 ≤ j → j < m → t (at_ + j) = o j
def zfst (t o : Int → Int) (n m r : Int) : Prop :=
  (r = -1 ∧ ∀ a, 0 ≤ a → a + m ≤ n → ¬ zoc t o m a) ∨ ((0 ≤ r ∧ r + m ≤ n) ∧ zoc t o m r ∧ ∀ a, 0 ≤ a → a < r → ¬ zoc t o m a)
theorem zfst_one {t o : Int → Int} {n m r r' : Int} (h : zfst t o n m r) (h' : zfst t o n m r') : r = r' := by
  rcases h with ⟨e, h⟩ | ⟨b, c, d⟩ <;> rcases h' with ⟨e', h'⟩ | ⟨b', c', d'⟩
  · omega
  · exact absurd c' (h r' b'.1 b'.2)
  · exact absurd c (h' r b.1 b.2)
  · by_cases h1 : r < r'
    · exact absurd c (d' r b.1 h1)
    · by_cases h2 : r' < r
      · exact absurd c' (d r' b'.1 h2)
      · omega
theorem zoc_eq {t t' o o' : Int → Int} {m a : Int} (h1 : ∀ j, 0 ≤ j → j < m → t (a + j) = t' (a + j)) (h2 : ∀ j, 0 ≤ j → j < m → o j = o' j) : zoc t o m a ↔ zoc t' o' m a := by
  constructor
  · intro h j a b
    rw [← h1 j a b, ← h2 j a b]
    exact h j a b
  · intro h j a b
    rw [h1 j a b, h2 j a b]
    exact h j a b
theorem zfst_eq {t t' o o' : Int → Int} {n m r : Int} (h1 : ∀ i, 0 ≤ i → i < n → t i = t' i) (h2 : ∀ j, 0 ≤ j → j < m → o j = o' j) (h : zfst t o n m r) : zfst t' o' n m r := by
  have key : ∀ a, 0 ≤ a → a + m ≤ n → (zoc t o m a ↔ zoc t' o' m a) := fun a b c => zoc_eq (fun j x y => h1 _ (by omega) (by omega)) h2
  rcases h with ⟨e, h⟩ | ⟨b, c, d⟩
  · exact Or.inl ⟨e, fun a x y => fun z => h a x y ((key a x y).mpr z)⟩
  · exact Or.inr ⟨b, (key r b.1 b.2).mp c, fun a x y => fun z => d a x y ((key a x (by omega)).mpr z)⟩
section PO
variable {G : zG} {σ : zS} {Q : Int → zS → Prop}
theorem okX10_firstPlaceOf {w n m : Int} (hw : 0 ≤ w ∧ w < 12) (hn : σ 35 12 = n) (hn1 : 0 ≤ n ∧ n ≤ 200) (hm : σ 42 w = m) (hm1 : 1 ≤ m ∧ m ≤ 80)
    (kq : ∀ r, zfst (σ 46) (fun j => σ 41 (80 * w + j)) n m r → Q r σ) : zO G MX10_firstPlaceOf [zr 35, zi w] σ Q := by
  refine TX10_firstPlaceOf ?_
  have outer : ∀ (f : Nat) (a : Int), (n + 1 - a).toNat = f → 0 ≤ a → a ≤ n + 1 → (∀ b, 0 ≤ b → b < a → ¬ zoc (σ 46) (fun j => σ 41 (80 * w + j)) m b) → zR G MX10_firstPlaceOf 2 [zr 35, zi w, zi a, zu] [] σ Q := by
    intro f
    induction f with
    | zero =>
      intro a hf h0 h1 hb
      apply TX10_firstPlaceOf_2 <;> (try rw [hn]) <;> (try rw [hm]) <;> (try (intros; omega))
      intro _
      exact kq (-1) (Or.inl ⟨rfl, fun b x y => hb b x (by omega)⟩)
    | succ f ih =>
      intro a hf h0 h1 hb
      by_cases ha : a + m ≤ n
      · apply TX10_firstPlaceOf_2 <;> (try rw [hn]) <;> (try rw [hm]) <;> (try (intros; omega))
        intro _
        have inner : ∀ (g : Nat) (j : Int), (m - j).toNat = g → 0 ≤ j → j ≤ m → (∀ x, 0 ≤ x → x < j → σ 46 (a + x) = σ 41 (80 * w + x)) → zR G MX10_firstPlaceOf 19 [zr 35, zi w, zi a, zi j] [] σ Q := by
          intro g
          induction g with
          | zero =>
            intro j hg j0 j1 hj
            have hjm : j = m := by omega
            apply TX10_firstPlaceOf_19 <;> (try rw [hm]) <;> (try (intros; omega))
            intro _ _
            exact kq a (Or.inr ⟨⟨h0, ha⟩, fun x y z => hj x y (by omega), hb⟩)
          | succ g ihg =>
            intro j hg j0 j1 hj
            apply TX10_firstPlaceOf_19 <;> (try rw [hm]) <;> (try (intros; omega))
            · intro _ c
              refine ihg (j + 1) (by omega) (by omega) (by omega) (fun x y z => ?_)
              by_cases e : x = j
              · rw [e]; exact c
              · exact hj x y (by omega)
            · intro c _
              refine ih (a + 1) (by omega) (by omega) (by omega) (fun b y z => ?_)
              by_cases e : b = a
              · rw [e]
                intro z2
                rcases c with c | c
                · omega
                · exact c.2 (z2 j j0 c.1)
              · exact hb b y (by omega)
        exact inner _ 0 rfl (by omega) (by omega) (fun x y z => by omega)
      · apply TX10_firstPlaceOf_2 <;> (try rw [hn]) <;> (try rw [hm]) <;> (try (intros; omega))
        intro _
        refine kq (-1) (Or.inl ⟨rfl, fun b x y => ?_⟩)
        exact hb b x (by omega)
  exact outer _ 0 rfl (by omega) (by omega) (fun b x y => by omega)
theorem okX12_placeOf {w n m : Int} (hw : 0 ≤ w ∧ w < 12) (hn : σ 98 43 = n) (hn1 : 0 ≤ n ∧ n ≤ 300) (hm : σ 122 w = m) (hm1 : 1 ≤ m ∧ m ≤ 80)
    (kq : ∀ r, zfst (σ 127) (fun j => σ 124 (80 * w + j)) n m r → Q r σ) : zO G MX12_placeOf [zr 98, zi w] σ Q := by
  refine TX12_placeOf ?_
  have outer : ∀ (f : Nat) (a : Int), (n + 1 - a).toNat = f → 0 ≤ a → a ≤ n + 1 → (∀ b, 0 ≤ b → b < a → ¬ zoc (σ 127) (fun j => σ 124 (80 * w + j)) m b) → zR G MX12_placeOf 2 [zr 98, zi w, zi a, zu] [] σ Q := by
    intro f
    induction f with
    | zero =>
      intro a hf h0 h1 hb
      apply TX12_placeOf_2 <;> (try rw [hn]) <;> (try rw [hm]) <;> (try (intros; omega))
      intro _
      exact kq (-1) (Or.inl ⟨rfl, fun b x y => hb b x (by omega)⟩)
    | succ f ih =>
      intro a hf h0 h1 hb
      by_cases ha : a + m ≤ n
      · apply TX12_placeOf_2 <;> (try rw [hn]) <;> (try rw [hm]) <;> (try (intros; omega))
        intro _
        have inner : ∀ (g : Nat) (j : Int), (m - j).toNat = g → 0 ≤ j → j ≤ m → (∀ x, 0 ≤ x → x < j → σ 127 (a + x) = σ 124 (80 * w + x)) → zR G MX12_placeOf 19 [zr 98, zi w, zi a, zi j] [] σ Q := by
          intro g
          induction g with
          | zero =>
            intro j hg j0 j1 hj
            have hjm : j = m := by omega
            apply TX12_placeOf_19 <;> (try rw [hm]) <;> (try (intros; omega))
            intro _ _
            exact kq a (Or.inr ⟨⟨h0, ha⟩, fun x y z => hj x y (by omega), hb⟩)
          | succ g ihg =>
            intro j hg j0 j1 hj
            apply TX12_placeOf_19 <;> (try rw [hm]) <;> (try (intros; omega))
            · intro _ c
              refine ihg (j + 1) (by omega) (by omega) (by omega) (fun x y z => ?_)
              by_cases e : x = j
              · rw [e]; exact c
              · exact hj x y (by omega)
            · intro c _
              refine ih (a + 1) (by omega) (by omega) (by omega) (fun b y z => ?_)
              by_cases e : b = a
              · rw [e]
                intro z2
                rcases c with c | c
                · omega
                · exact c.2 (z2 j j0 c.1)
              · exact hb b y (by omega)
        exact inner _ 0 rfl (by omega) (by omega) (fun x y z => by omega)
      · apply TX12_placeOf_2 <;> (try rw [hn]) <;> (try rw [hm]) <;> (try (intros; omega))
        intro _
        refine kq (-1) (Or.inl ⟨rfl, fun b x y => ?_⟩)
        exact hb b x (by omega)
  exact outer _ 0 rfl (by omega) (by omega) (fun b x y => by omega)
end PO
