/-! LETTERS are told: copies of rows, in class and model -/
section CY
variable {G : zG} {σ : zS} {Q : Int → zS → Prop}
/-- the class's copy of a shelf's elements as ints -/
theorem okX9_copyLetters {t te a n : Nat} {at_ sz : Int} (ht : zsh t = (4, 9, [some te, none, none, none])) (hte : zsh te = (2, 80, [])) (ha : zsh a = (0, n, [])) (h1 : a ≠ t) (h2 : a ≠ te) (hs : σ t 2 = sz) (h80 : 0 ≤ sz ∧ sz ≤ 80) (hat : 0 ≤ at_ ∧ at_ + sz ≤ n ∧ (n : Int) ≤ 2000)
    (kq : ∀ s : zS, (∀ q, q ≠ a → s q = σ q) → (∀ j, s a j = if at_ ≤ j ∧ j < at_ + sz then zW (σ te (j - at_)) else σ a j) → Q sz s) : zO G MX9_copyLetters [zr t, zr a, zi at_] σ Q := by
  refine TX9_copyLetters ht hte ha ?_
  have loop : ∀ (m : Nat) (i : Int) (s : zS), (sz - i).toNat = m → 0 ≤ i → i ≤ sz → (∀ q, q ≠ a → s q = σ q) → (∀ j, s a j = if at_ ≤ j ∧ j < at_ + i then zW (σ te (j - at_)) else σ a j) → zR G MX9_copyLetters 2 [zr t, zr a, zi at_, zi i] [] s Q := by
    intro m
    induction m with
    | zero =>
      intro i s hm i0 i1 hf hr
      have e : s t 2 = sz := by rw [hf t (fun z => h1 z.symm)]; exact hs
      have hi : i = sz := by omega
      subst hi
      apply TX9_copyLetters_2 ht hte ha <;> (try rw [e]) <;> (try (intros; omega))
      intro _
      exact kq s hf hr
    | succ m ih =>
      intro i s hm i0 i1 hf hr
      have e : s t 2 = sz := by rw [hf t (fun z => h1 z.symm)]; exact hs
      have e2 : s te = σ te := hf te (fun z => h2 z.symm)
      apply TX9_copyLetters_2 ht hte ha <;> (try rw [e]) <;> (try (intros; omega))
      intro _
      rw [e2]
      refine ih (i + 1) _ (by omega) (by omega) (by omega) (fun q hq => by rw [zup_ne hq]; exact hf q hq) (fun j => ?_)
      rw [zup_at, hr j]
      by_cases c : j = at_ + i
      · rw [if_pos c, if_pos (by omega), show j - at_ = i from by omega]
      · rw [if_neg c]
        by_cases d : at_ ≤ j ∧ j < at_ + i
        · rw [if_pos d, if_pos (by omega)]
        · rw [if_neg d, if_neg (by omega)]
  exact loop _ 0 σ rfl (by omega) (by omega) (fun _ _ => rfl) (fun j => by rw [if_neg (by omega)])
/-- the insertion of a new amendment -/
theorem okX10_tellTerms {l : List Int} {w f d m : Int} (hm : σ 35 11 = m) (hm0 : 0 ≤ m ∧ m < 12) (hl : (l.length : Int) = m) (ht : ∀ (i : Nat) (x : Int), l[i]? = some x → σ 45 i = x ∧ 0 ≤ x ∧ x < m) (hp : l.Pairwise (fun x y => σ 39 x < σ 39 y ∨ (σ 39 x = σ 39 y ∧ x < y)))
    (kq : ∀ (s : zS) (l' : List Int), zfr [(38, none), (39, none), (40, none), (45, none), (35, some 11)] s σ → s 35 11 = m + 1 → (∀ j, s 38 j = if j = m then w else σ 38 j) → (∀ j, s 39 j = if j = m then f else σ 39 j) → (∀ j, s 40 j = if j = m then d else σ 40 j) →
      (l'.length : Int) = m + 1 → (∀ (i : Nat) (x : Int), l'[i]? = some x → s 45 i = x ∧ 0 ≤ x ∧ x < m + 1) → (∀ x, x ∈ l' ↔ x ∈ l ∨ x = m) → l'.Pairwise (fun x y => s 39 x < s 39 y ∨ (s 39 x = s 39 y ∧ x < y)) → Q m s) : zO G MX10_tellTerms [zr 35, zi w, zi f, zi d] σ Q := by
  apply TX10_tellTerms <;> (try rw [hm]) <;> (try (intros; omega))
  have fr : ∀ j, j < m → (zup (zup (zup σ 38 m w) 39 m f) 40 m d) 39 j = σ 39 j := fun j hj => by rw [zup_of (by decide), zup_oi (by omega), zup_of (by decide)]
  have loop : ∀ (r1 l2 : List Int) (s : zS), l = r1.reverse ++ l2 → zfr [(45, none)] s (zup (zup (zup σ 38 m w) 39 m f) 40 m d) → (∀ (i : Nat) (x : Int), (r1.reverse)[i]? = some x → s 45 i = x) → (∀ (i : Nat) (x : Int), l2[i]? = some x → s 45 (r1.length + 1 + i) = x) → (∀ x ∈ l2, f < σ 39 x) →
      zR G MX10_tellTerms 36 [zr 35, zi w, zi f, zi d, zi (r1.length : Int)] [] s Q := by
    intro r1
    induction r1 with
    | nil =>
      intro l2 s hl2 hf hr hr2 hgt
      have e11 : s 35 11 = m := by rw [zfr_at hf rfl, zup_of (by decide), zup_of (by decide), zup_of (by decide)]; exact hm
      have hl' : l = l2 := by rw [hl2]; rfl
      apply TX10_tellTerms_36 <;> (try rw [e11]) <;> (try simp only [List.length_nil]) <;> (try (intros; omega))
      intro _
      have e39 : ∀ j, (zup (zup s 45 ((0 : Nat) : Int) m) 35 11 (m + 1)) 39 j = if j = m then f else σ 39 j := fun j => by
        rw [zup_of (by decide), zup_of (by decide), zfr_row hf rfl, zup_of (by decide), zup_at, zup_of (by decide)]
      refine kq _ (m :: l2) (zfr_uF rfl (zfr_uA rfl (zfr_tr (zfr_uA rfl (zfr_uA rfl (zfr_uA rfl zfr_0))) (zfr_mo rfl hf)))) zup_same (fun j => ?_) e39 (fun j => ?_) ?_ (fun i x hx => ?_) (fun x => ?_) ?_
      · rw [zup_of (by decide), zup_of (by decide), zfr_row hf rfl, zup_of (by decide), zup_of (by decide), zup_at]
      · rw [zup_of (by decide), zup_of (by decide), zfr_row hf rfl, zup_at, zup_of (by decide), zup_of (by decide)]
      · rw [List.length_cons, ← hl']; omega
      · rw [zup_of (by decide)]
        cases i with
        | zero =>
          simp only [List.getElem?_cons_zero, Option.some.injEq] at hx
          subst hx
          exact ⟨zup_same, by omega, by omega⟩
        | succ i =>
          simp only [List.getElem?_cons_succ] at hx
          have h1 := hr2 i x hx
          rw [← hl'] at hx
          have h2 := (ht i x hx).2
          rw [zup_oi (by omega)]
          simp only [List.length_nil] at h1
          refine ⟨?_, h2.1, by omega⟩
          rw [← h1]
          congr 1
          omega
      · rw [hl']
        simp only [List.mem_cons]
        exact Or.comm
      · rw [hl'] at hp
        refine List.pairwise_cons.mpr ⟨fun y hy => ?_, ?_⟩
        · have hyl : y ∈ l := by rw [hl']; exact hy
          obtain ⟨i, hi⟩ := List.getElem?_of_mem hyl
          have h2 := (ht i y hi).2
          rw [e39, e39, if_pos rfl, if_neg (by omega)]
          exact Or.inl (hgt y hy)
        · refine List.Pairwise.imp_of_mem (fun {x y} hx hy h => ?_) hp
          obtain ⟨i, hi⟩ := List.getElem?_of_mem (by rw [hl']; exact hx : x ∈ l)
          obtain ⟨i', hi'⟩ := List.getElem?_of_mem (by rw [hl']; exact hy : y ∈ l)
          have h2 := (ht i x hi).2
          have h3 := (ht i' y hi').2
          rw [e39, e39, if_neg (by omega), if_neg (by omega)]
          exact h
    | cons x r ih =>
      intro l2 s hl2 hf hr hr2 hgt
      have e11 : s 35 11 = m := by rw [zfr_at hf rfl, zup_of (by decide), zup_of (by decide), zup_of (by decide)]; exact hm
      have hl3 : l = r.reverse ++ (x :: l2) := by rw [hl2]; simp
      have hlen : (l.length : Int) = r.length + 1 + l2.length := by rw [hl3]; simp; omega
      have hgx : l[r.length]? = some x := by rw [hl3]; simp
      have hx := (ht _ _ hgx).2
      have htx : s 45 (r.length : Int) = x := hr r.length x (by simp)
      have ex : ((x :: r).length : Int) - 1 = r.length := by simp
      have ex2 : ((x :: r).length : Int) + -1 = r.length := by simp; omega
      have e39x : s 39 x = σ 39 x := by rw [zfr_row hf rfl]; exact fr x hx.2
      by_cases hfx : f < σ 39 x
      · apply TX10_tellTerms_36 <;> (try rw [e11]) <;> (try rw [ex]) <;> (try rw [ex2]) <;> (try rw [htx]) <;> (try rw [e39x]) <;> (try simp only [List.length_cons]) <;> (try (intros; omega))
        intro _ _
        refine ih (x :: l2) _ hl3 (zfr_uA rfl hf) (fun i y hy => ?_) (fun i y hy => ?_) (fun y hy => ?_)
        · have hil : i < r.length := by have := (List.getElem?_eq_some_iff.mp hy).1; simpa using this
          rw [zup_oi (by omega)]
          refine hr i y ?_
          rw [List.reverse_cons, List.getElem?_append_left (by simpa using hil)]
          exact hy
        · cases i with
          | zero =>
            simp only [List.getElem?_cons_zero, Option.some.injEq] at hy
            subst hy
            rw [show (r.length : Int) + 1 + ((0 : Nat) : Int) = ((r.length + 1 : Nat) : Int) from by omega, zup_same]
          | succ i =>
            simp only [List.getElem?_cons_succ] at hy
            rw [zup_oi (by omega)]
            have := hr2 i y hy
            simp only [List.length_cons] at this
            rw [← this]
            congr 1
            omega
        · rcases List.mem_cons.mp hy with e | e
          · rw [e]; exact hfx
          · exact hgt y e
      · apply TX10_tellTerms_36 <;> (try rw [e11]) <;> (try rw [ex]) <;> (try rw [ex2]) <;> (try rw [htx]) <;> (try rw [e39x]) <;> (try simp only [List.length_cons]) <;> (try (intros; omega))
        intro _
        have e39 : ∀ j, (zup (zup s 45 ((r.length + 1 : Nat) : Int) m) 35 11 (m + 1)) 39 j = if j = m then f else σ 39 j := fun j => by
          rw [zup_of (by decide), zup_of (by decide), zfr_row hf rfl, zup_of (by decide), zup_at, zup_of (by decide)]
        have hlow : ∀ y ∈ (x :: r).reverse, σ 39 y ≤ f := by
          intro y hy
          rw [hl3] at hp
          simp only [List.reverse_cons, List.mem_append, List.mem_singleton] at hy
          rcases hy with hy | hy
          · have := (List.pairwise_append.mp hp).2.2 y hy x List.mem_cons_self
            omega
          · rw [hy]; omega
        refine kq _ ((x :: r).reverse ++ m :: l2) (zfr_uF rfl (zfr_uA rfl (zfr_tr (zfr_uA rfl (zfr_uA rfl (zfr_uA rfl zfr_0))) (zfr_mo rfl hf)))) zup_same (fun j => ?_) e39 (fun j => ?_) ?_ (fun i y hy => ?_) (fun y => ?_) ?_
        · rw [zup_of (by decide), zup_of (by decide), zfr_row hf rfl, zup_of (by decide), zup_of (by decide), zup_at]
        · rw [zup_of (by decide), zup_of (by decide), zfr_row hf rfl, zup_at, zup_of (by decide), zup_of (by decide)]
        · simp only [List.length_append, List.length_reverse, List.length_cons]
          omega
        · rw [zup_of (by decide)]
          by_cases hi : i < (x :: r).reverse.length
          · rw [List.getElem?_append_left hi] at hy
            have hi2 : i < r.length + 1 := by simpa using hi
            rw [zup_oi (by omega)]
            have h1 := hr i y hy
            have hyl : l[i]? = some y := by rw [hl2, List.getElem?_append_left hi]; exact hy
            have h2 := (ht i y hyl).2
            exact ⟨h1, h2.1, by omega⟩
          · rw [List.getElem?_append_right (by omega)] at hy
            have hi2 : r.length + 1 ≤ i := by simpa using hi
            have hi3 : i - (x :: r).reverse.length = i - (r.length + 1) := by simp
            rw [hi3] at hy
            by_cases hz : i = r.length + 1
            · subst hz
              simp only [Nat.sub_self, List.getElem?_cons_zero, Option.some.injEq] at hy
              subst hy
              exact ⟨zup_same, by omega, by omega⟩
            · obtain ⟨k, hk⟩ : ∃ k, i = r.length + 1 + (k + 1) := ⟨i - (r.length + 1) - 1, by omega⟩
              subst hk
              rw [show r.length + 1 + (k + 1) - (r.length + 1) = k + 1 from by omega, List.getElem?_cons_succ] at hy
              have h1 := hr2 k y hy
              have hyl : l[r.length + 1 + k]? = some y := by
                rw [hl2, List.getElem?_append_right (by simp), show r.length + 1 + k - (x :: r).reverse.length = k from by simp]
                exact hy
              have h2 := (ht _ y hyl).2
              rw [zup_oi (by omega)]
              refine ⟨?_, h2.1, by omega⟩
              rw [← h1]
              simp only [List.length_cons]
              congr 1
              omega
        · rw [hl2]
          simp only [List.mem_append, List.mem_cons]
          constructor
          · rintro (h | h | h)
            · exact Or.inl (Or.inl h)
            · exact Or.inr h
            · exact Or.inl (Or.inr h)
          · rintro ((h | h) | h)
            · exact Or.inl h
            · exact Or.inr (Or.inr h)
            · exact Or.inr (Or.inl h)
        · have mb : ∀ y, y ∈ l → 0 ≤ y ∧ y < m := fun y hy => by
            obtain ⟨i, hi⟩ := List.getElem?_of_mem hy
            exact (ht i y hi).2
          rw [hl2] at hp
          obtain ⟨p1, p2, p3⟩ := List.pairwise_append.mp hp
          have inl1 : ∀ y ∈ (x :: r).reverse, y ∈ l := fun y hy => by rw [hl2]; exact List.mem_append.mpr (Or.inl hy)
          have inl2 : ∀ y ∈ l2, y ∈ l := fun y hy => by rw [hl2]; exact List.mem_append.mpr (Or.inr hy)
          refine List.pairwise_append.mpr ⟨?_, List.pairwise_cons.mpr ⟨fun y hy => ?_, ?_⟩, fun y hy z hz => ?_⟩
          · refine List.Pairwise.imp_of_mem (fun {y z} hy hz h => ?_) p1
            have := mb y (inl1 y hy)
            have := mb z (inl1 z hz)
            rw [e39, e39, if_neg (by omega), if_neg (by omega)]
            exact h
          · have := mb y (inl2 y hy)
            rw [e39, e39, if_pos rfl, if_neg (by omega)]
            exact Or.inl (hgt y hy)
          · refine List.Pairwise.imp_of_mem (fun {y z} hy hz h => ?_) p2
            have := mb y (inl2 y hy)
            have := mb z (inl2 z hz)
            rw [e39, e39, if_neg (by omega), if_neg (by omega)]
            exact h
          · have hy1 := mb y (inl1 y hy)
            rcases List.mem_cons.mp hz with e | e
            · rw [e, e39, e39, if_neg (by omega), if_pos rfl]
              have := hlow y hy
              omega
            · have := mb z (inl2 z e)
              rw [e39, e39, if_neg (by omega), if_neg (by omega)]
              exact p3 y hy z e
  have hrr : (l.reverse).reverse = l := List.reverse_reverse l
  have := loop l.reverse [] _ (by rw [hrr, List.append_nil]) zfr_0 (fun i x hx => ?_) (fun i x hx => by cases hx) (fun x hx => by cases hx)
  · rw [show ((l.reverse.length : Nat) : Int) = m from by simpa using hl] at this
    exact this
  · rw [hrr] at hx
    rw [zup_of (by decide), zup_of (by decide), zup_of (by decide)]
    exact (ht i x hx).1
end CY
