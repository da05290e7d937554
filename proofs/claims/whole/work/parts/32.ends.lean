/-! THE END of a lease, and its rent of a year -/
/-- people's deaths in the model are in order -/
def zdea (σ : zS) : Prop := (0 ≤ σ 98 1 ∧ σ 98 1 ≤ 24) ∧ ∀ w, 0 ≤ w → w < σ 98 1 → σ 105 w = 0 ∨ (σ 105 w = 1 ∧ -40000 ≤ σ 100 w ∧ σ 100 w ≤ 40000)
def zdeC (σ : zS) : Prop := σ 22 12 = σ 98 1 ∧ ∀ w, 0 ≤ w → w < σ 98 1 → (σ 105 w = 0 → σ 27 w = -1) ∧ (σ 105 w = 1 → σ 27 w ≠ -1 ∧ σ 26 w = σ 100 w)
/-- END of a lease (model's cells) -/
def zend (σ : zS) (l e : Int) : Prop := (σ 145 l = 0 ∧ e = σ 144 l) ∨ (σ 145 l ≠ 0 ∧
  (((∃ w, (0 ≤ w ∧ w < σ 98 1) ∧ zbit (σ 145 l) w ∧ σ 105 w = 0) ∧ e = 1000) ∨
   ((∀ w, 0 ≤ w → w < σ 98 1 → zbit (σ 145 l) w → σ 105 w = 1) ∧ ∃ D, (∃ w, (0 ≤ w ∧ w < σ 98 1) ∧ zbit (σ 145 l) w ∧ σ 100 w = D) ∧ (∀ w, 0 ≤ w → w < σ 98 1 → zbit (σ 145 l) w → σ 100 w ≤ D) ∧ e = zdiv D 365)))
theorem zend_one {σ : zS} {l e e' : Int} (h : zend σ l e) (h' : zend σ l e') : e = e' := by
  rcases h with ⟨a, b⟩ | ⟨a, h⟩ <;> rcases h' with ⟨a', b'⟩ | ⟨a', h'⟩
  · omega
  · exact absurd a a'
  · exact absurd a' a
  · rcases h with ⟨⟨w, c, d, f⟩, b⟩ | ⟨c, D, ⟨w, d, f, g⟩, i, b⟩ <;> rcases h' with ⟨⟨w', c', d', f'⟩, b'⟩ | ⟨c', D', ⟨w', d', f', g'⟩, i', b'⟩
    · omega
    · have := c' w c.1 c.2 d
      omega
    · have := c w' c'.1 c'.2 d'
      omega
    · have h1 := i w' d'.1 d'.2 f'
      have h2 := i' w d.1 d.2 f
      rw [b, b', show D = D' from by omega]
def zlif (σ : zS) (l : Int) : Prop := σ 145 l ≠ 0 → ∃ w, (0 ≤ w ∧ w < σ 98 1) ∧ zbit (σ 145 l) w
/-- D is c, or a death of one of the first i of the lives -/
def zexd (σ : zS) (l i D c : Int) : Prop := D = c ∨ ∃ w, (0 ≤ w ∧ w < i) ∧ zbit (σ 145 l) w ∧ σ 100 w = D
section EN
variable {G : zG} {σ : zS} {Q : Int → zS → Prop}
theorem okX4_endOf {l : Int} (hM : zdea σ) (hC : zdeC σ) (hv : zlif σ l) (hl : 0 ≤ l ∧ l < 8) (e75 : σ 75 l = σ 145 l) (e74 : σ 145 l = 0 → σ 74 l = σ 144 l) (kq : ∀ e, zend σ l e → Q e σ) : zO G MX4_endOf [zr 68, zi l] σ Q := by
  obtain ⟨m0, m1⟩ := hM
  obtain ⟨c0, c1⟩ := hC
  have loop : ∀ (n : Nat) (i D : Int), σ 145 l ≠ 0 → (σ 98 1 - i).toNat = n → 0 ≤ i → i ≤ σ 98 1 → -40000 ≤ D →
      (∀ w, 0 ≤ w → w < i → zbit (σ 145 l) w → σ 105 w = 1 ∧ σ 100 w ≤ D) → zexd σ l i D (-40000) →
      zR G MX4_endOf 20 [zr 68, zi l, zi D, zi i] [] σ Q := by
    intro n
    induction n with
    | zero =>
      intro i D hne hn i0 i1 hD hall hex
      apply TX4_endOf_20 <;> (try rw [c0]) <;> (try (intros; omega))
      intro _
      refine kq _ (Or.inr ⟨hne, Or.inr ⟨fun w a b c => (hall w a (by omega) c).1, D, ?_, fun w a b c => (hall w a (by omega) c).2, rfl⟩⟩)
      rcases hex with h | ⟨w, a, b⟩
      · obtain ⟨w, a, b⟩ := hv hne
        have h1 := hall w a.1 (by omega) b
        have h2 := m1 w a.1 a.2
        exact ⟨w, a, b, by omega⟩
      · exact ⟨w, by omega, b⟩
    | succ n ih =>
      intro i D hne hn i0 i1 hD hall hex
      have hb := zb_and1 (x := σ 145 l) (i := i) i0 (by omega)
      have mi := m1 i i0 (by omega)
      have ci := c1 i i0 (by omega)
      by_cases hz : zbit (σ 145 l) i
      · have e1 := hb.1 hz
        by_cases hd : σ 105 i = 0
        · have e2 := ci.1 hd
          apply TX4_endOf_20 <;> (try rw [c0]) <;> (try rw [e75]) <;> (try (intros; omega))
          intro _ _ _
          exact kq 1000 (Or.inr ⟨hne, Or.inl ⟨⟨i, by omega, hz, hd⟩, rfl⟩⟩)
        · have e2 := ci.2 (by omega)
          apply TX4_endOf_20 <;> (try rw [c0]) <;> (try rw [e75]) <;> (try rw [e2.2]) <;> (try (intros; omega))
          intro _ _ _
          refine ih (i + 1) _ hne (by omega) (by omega) (by omega) (by omega) (fun w a b c => ?_) ?_
          · by_cases e : w = i
            · rw [e]; omega
            · have := hall w a (by omega) c
              omega
          · by_cases hx : σ 100 i ≤ D
            · rw [Int.max_eq_left hx]
              unfold zexd
              rcases hex with h | ⟨w, a, b⟩
              · exact Or.inl h
              · exact Or.inr ⟨w, by omega, b⟩
            · rw [Int.max_eq_right (by omega)]
              unfold zexd
              exact Or.inr ⟨i, by omega, hz, rfl⟩
      · have e1 := hb.2 hz
        apply TX4_endOf_20 <;> (try rw [c0]) <;> (try rw [e75]) <;> (try (intros; omega))
        intro _ _
        refine ih (i + 1) D hne (by omega) (by omega) (by omega) hD (fun w a b c => ?_) ?_
        · by_cases e : w = i
          · rw [e] at c; exact absurd c hz
          · exact hall w a (by omega) c
        · rcases hex with h | ⟨w, a, b⟩
          · exact Or.inl h
          · exact Or.inr ⟨w, by omega, b⟩
  apply TX4_endOf <;> (try rw [e75]) <;> (try (intros; omega))
  · intro h
    exact loop _ 0 _ h rfl (by omega) (by omega) (by omega) (fun w a b => by omega) (Or.inl rfl)
  · intro h
    have h0 : σ 145 l = 0 := by omega
    exact kq _ (Or.inl ⟨h0, e74 h0⟩)
theorem okX12_endOf {l : Int} (hM : zdea σ) (hv : zlif σ l) (hl : 0 ≤ l ∧ l < 8) (kq : ∀ e, zend σ l e → Q e σ) : zO G MX12_endOf [zr 98, zi l] σ Q := by
  obtain ⟨m0, m1⟩ := hM
  have loop : ∀ (n : Nat) (i D : Int), σ 145 l ≠ 0 → (σ 98 1 - i).toNat = n → 0 ≤ i → i ≤ σ 98 1 →
      (∀ w, 0 ≤ w → w < i → zbit (σ 145 l) w → σ 105 w = 1 ∧ σ 100 w ≤ D) → zexd σ l i D (-50000) →
      zR G MX12_endOf 22 [zr 98, zi l, zi D, zi i] [] σ Q := by
    intro n
    induction n with
    | zero =>
      intro i D hne hn i0 i1 hall hex
      apply TX12_endOf_22 <;> (try (intros; omega))
      intro _
      refine kq _ (Or.inr ⟨hne, Or.inr ⟨fun w a b c => (hall w a (by omega) c).1, D, ?_, fun w a b c => (hall w a (by omega) c).2, rfl⟩⟩)
      rcases hex with h | ⟨w, a, b⟩
      · obtain ⟨w, a, b⟩ := hv hne
        have h1 := hall w a.1 (by omega) b
        have h2 := m1 w a.1 a.2
        omega
      · exact ⟨w, by omega, b⟩
    | succ n ih =>
      intro i D hne hn i0 i1 hall hex
      have hb := zb_shr1 (x := σ 145 l) (i := i) i0 (by omega)
      have mi := m1 i i0 (by omega)
      by_cases hz : zbit (σ 145 l) i
      · have e1 := hb.1 hz
        apply TX12_endOf_22 <;> (try (intros; omega))
        · intro _ _ hd
          exact kq 1000 (Or.inr ⟨hne, Or.inl ⟨⟨i, by omega, hz, hd⟩, rfl⟩⟩)
        · intro _ c
          refine ih (i + 1) D hne (by omega) (by omega) (by omega) (fun w a b cc => ?_) ?_
          · by_cases e : w = i
            · rw [e]; omega
            · exact hall w a (by omega) cc
          · rcases hex with h | ⟨w, a, b⟩
            · exact Or.inl h
            · exact Or.inr ⟨w, by omega, b⟩
        · intro _ c1 c2 c3
          refine ih (i + 1) _ hne (by omega) (by omega) (by omega) (fun w a b cc => ?_) (Or.inr ⟨i, by omega, hz, rfl⟩)
          by_cases e : w = i
          · rw [e]; omega
          · have := hall w a (by omega) cc
            omega
      · have e1 := hb.2 hz
        apply TX12_endOf_22 <;> (try (intros; omega))
        intro _ _
        refine ih (i + 1) D hne (by omega) (by omega) (by omega) (fun w a b cc => ?_) ?_
        · by_cases e : w = i
          · rw [e] at cc; exact absurd cc hz
          · exact hall w a (by omega) cc
        · rcases hex with h | ⟨w, a, b⟩
          · exact Or.inl h
          · exact Or.inr ⟨w, by omega, b⟩
  apply TX12_endOf <;> (try (intros; omega))
  · intro h
    exact loop _ 0 _ h rfl (by omega) (by omega) (fun w a b => by omega) (Or.inl rfl)
  · intro h
    exact kq _ (Or.inl ⟨h, rfl⟩)
/-- RENT of a lease in a year (model's cells) -/
def zrnt (σ : zS) (l y r : Int) : Prop := ∃ e, zend σ l e ∧ ((y ≤ e ∧ zrsv σ l y r) ∨ (e < y ∧ r = σ 139 l))
theorem zrnt_one {l y r r' : Int} (h : zrnt σ l y r) (h' : zrnt σ l y r') : r = r' := by
  obtain ⟨e, a, b⟩ := h
  obtain ⟨e', a', b'⟩ := h'
  have := zend_one a a'
  subst this
  rcases b with ⟨c, b⟩ | ⟨c, b⟩ <;> rcases b' with ⟨c', b'⟩ | ⟨c', b'⟩
  · exact zrsv_one b b'
  · omega
  · omega
  · omega
theorem okX12_rentOf {l y : Int} (hM : zdea σ) (hL : zlea σ) (hv : zlif σ l) (hl : 0 ≤ l ∧ l < σ 98 5) (hy : 0 ≤ y ∧ y ≤ 200) (kq : ∀ r, zrnt σ l y r → Q r σ) : zO G MX12_rentOf [zr 98, zi l, zi y] σ Q := by
  have h8 := hL.2.1
  refine TX12_rentOf (okX12_endOf hM hv (by omega) (fun e he => ?_))
  apply TX12_rentOf_6 <;> (try (intros; omega))
  · intro h
    exact okX12_asBefore hL hl hy (fun r hr => TX12_rentOf_24 (kq r ⟨e, he, Or.inl ⟨h, hr⟩⟩))
  · intro h
    exact kq _ ⟨e, he, Or.inr ⟨h, rfl⟩⟩
/-- the class's lease l is the model's -/
def zlsC (σ : zS) (l : Int) : Prop := σ 75 l = σ 145 l ∧ (σ 145 l = 0 → σ 74 l = σ 144 l ∧ σ 73 l = σ 143 l) ∧ σ 69 l = σ 139 l ∧ σ 70 l = σ 140 l ∧ σ 71 l = σ 141 l ∧ σ 72 l = σ 142 l
theorem okX4_dueIn {l y : Int} (hM : zdea σ) (hC : zdeC σ) (hL : zlea σ) (hP : zpriC σ) (hS : zlsC σ l) (hv : zlif σ l) (hl : 0 ≤ l ∧ l < σ 98 5) (hy : 0 ≤ y ∧ y ≤ 200) (kq : ∀ r, zrnt σ l y r → Q r σ) : zO G MX4_dueIn [zr 68, zi l, zi y] σ Q := by
  have h8 := hL.2.1
  refine TX4_dueIn (okX4_endOf hM hC hv (by omega) hS.1 (fun z => (hS.2.1 z).1) (fun e he => ?_))
  apply TX4_dueIn_6 <;> (try (intros; omega))
  · intro h
    rw [hS.2.2.1]
    exact kq _ ⟨e, he, Or.inr ⟨h, rfl⟩⟩
  · intro h
    exact okX4_reservedIn hL hP hl hy hS.2.2.2.1 hS.2.2.2.2.1 hS.2.2.2.2.2 (fun r hr => TX4_dueIn_15 (kq r ⟨e, he, Or.inl ⟨h, hr⟩⟩))
end EN
