/-! The model's words, all amendments done, in the order (from, number) -/
def zalt (σ : zS) (x y : Int) : Prop := σ 120 x < σ 120 y ∨ (σ 120 x = σ 120 y ∧ x < y)
def zturM (σ : zS) (l : List Int) : Prop := (∀ x, x ∈ l ↔ 0 ≤ x ∧ x < σ 98 3) ∧ l.Pairwise (zalt σ)
def zif (σ : zS) (w a k x : Int) : Prop := σ 119 x = w ∧ σ 120 x ≤ a ∧ σ 121 x ≤ k
def zhasM (s : zS) (T : zT) : Prop := (1 ≤ T.1 ∧ T.1 ≤ 200) ∧ s 98 43 = T.1 ∧ zalike T.1 (s 127) T.2.1 ∧ ∀ x, 0 ≤ x → x < 12 → s 126 x = T.2.2 x
def zfrM (σ s : zS) : Prop := ∀ q j, q ≠ 127 → q ≠ 128 → q ≠ 126 → ¬ (q = 98 ∧ j = 43) → s q j = σ q j
theorem zsplit {α : Type} {x : α} : ∀ {l : List α}, x ∈ l → ∃ s t, l = s ++ x :: t := by
  intro l
  induction l with
  | nil => intro h; cases h
  | cons y r ih =>
    intro h
    rcases List.mem_cons.mp h with h | h
    · exact ⟨[], r, by rw [h]; rfl⟩
    · obtain ⟨s, t, e⟩ := ih h
      exact ⟨y :: s, t, by rw [e]; rfl⟩
theorem zap_no {σ : zS} {w a k x : Int} {T : zT} (h : ¬ zif σ w a k x) : zap σ w a k x T = T := by
  unfold zap
  exact if_neg h
theorem zap_all {σ : zS} {w a k : Int} : ∀ (l : List Int) (T : zT), (∀ x ∈ l, ¬ zif σ w a k x) → l.foldl (fun T x => zap σ w a k x T) T = T := by
  intro l
  induction l with
  | nil => intro T _; rfl
  | cons y r ih =>
    intro T h
    show r.foldl _ (zap σ w a k y T) = T
    rw [zap_no (h y List.mem_cons_self)]
    exact ih T (fun x hx => h x (List.mem_cons_of_mem _ hx))
section WM
variable {G : zG} {σ : zS} {Q : Int → zS → Prop}
theorem okX12_words {l : List Int} {w a k : Int} (hM : zamo σ) (ht : zturM σ l) (hw : 0 ≤ w ∧ w < 4)
    (kq : ∀ t : zS, zfrM σ t → zhasM t (zwords σ l w a k) → Q 0 t) : zO G MX12_words [zr 98, zi w, zi a, zi k] σ Q := by
  obtain ⟨m0, m1, m2⟩ := hM
  have mw := m1 w hw.1 hw.2
  have main : ∀ (N : Nat) (rem pre : List Int) (s : zS) (la lf : Int), rem.length = N → l = pre ++ rem → zfrM σ s → zhasM s (pre.foldl (fun T x => zap σ w a k x T) (σ 118 w, (fun i => σ 117 (80 * w + i)), fun _ => 0)) →
      (∀ x, x ∈ rem → zif σ w a k x → lf ≤ σ 120 x ∧ (σ 120 x ≠ lf ∨ la < x)) → (∀ x, x ∈ pre → zif σ w a k x → σ 120 x < lf ∨ (σ 120 x = lf ∧ x ≤ la)) →
      zR G MX12_words 81 [zr 98, zi w, zi a, zi k, zr 126, zi la, zi lf, zu, zu, zu, zu] [] s Q := by
    intro N
    induction N using Nat.strongRecOn with
    | ind N ih =>
      intro rem pre s la lf hN hl hf hT hrem hpre
      have e3 : s 98 3 = σ 98 3 := hf _ _ (by decide) (by decide) (by decide) (by omega)
      have e119 : s 119 = σ 119 := by funext j; exact hf _ _ (by decide) (by decide) (by decide) (fun z => absurd z.1 (by decide))
      have e120 : s 120 = σ 120 := by funext j; exact hf _ _ (by decide) (by decide) (by decide) (fun z => absurd z.1 (by decide))
      have e121 : s 121 = σ 121 := by funext j; exact hf _ _ (by decide) (by decide) (by decide) (fun z => absurd z.1 (by decide))
      have e122 : s 122 = σ 122 := by funext j; exact hf _ _ (by decide) (by decide) (by decide) (fun z => absurd z.1 (by decide))
      have e123 : s 123 = σ 123 := by funext j; exact hf _ _ (by decide) (by decide) (by decide) (fun z => absurd z.1 (by decide))
      have e124 : s 124 = σ 124 := by funext j; exact hf _ _ (by decide) (by decide) (by decide) (fun z => absurd z.1 (by decide))
      have e125 : s 125 = σ 125 := by funext j; exact hf _ _ (by decide) (by decide) (by decide) (fun z => absurd z.1 (by decide))
      refine TX12_words_81 ?_
      -- the next one: the least that is in force behind the last
      have find : ∀ (n : Nat) (i m : Int), (σ 98 3 - i).toNat = n → 0 ≤ i → i ≤ σ 98 3 →
          ((m = -1 ∧ ∀ y, 0 ≤ y → y < i → zif σ w a k y → ¬ (lf ≤ σ 120 y ∧ (σ 120 y ≠ lf ∨ la < y))) ∨
           ((0 ≤ m ∧ m < i) ∧ zif σ w a k m ∧ (lf ≤ σ 120 m ∧ (σ 120 m ≠ lf ∨ la < m)) ∧ ∀ y, 0 ≤ y → y < i → zif σ w a k y → (lf ≤ σ 120 y ∧ (σ 120 y ≠ lf ∨ la < y)) → σ 120 m < σ 120 y ∨ (σ 120 m = σ 120 y ∧ m ≤ y))) →
          zR G MX12_words 87 [zr 98, zi w, zi a, zi k, zr 126, zi la, zi lf, zi m, zi i, zu, zu] [] s Q := by
        intro n
        induction n with
        | zero =>
          intro i m hn i0 i1 hm
          have hi : i = σ 98 3 := by omega
          subst hi
          rcases hm with ⟨rfl, hno⟩ | ⟨hmr, hmi, hmq, hmin⟩
          · apply TX12_words_87 <;> (try rw [e3]) <;> (try (intros; omega))
            intro _ _
            refine kq s hf ?_
            unfold zwords
            rw [hl, List.foldl_append, zap_all rem _ (fun x hx hi => ?_)]
            · exact hT
            · have hxl := (ht.1 x).mp (by rw [hl]; exact List.mem_append_right _ hx)
              exact hno x hxl.1 hxl.2 hi (hrem x hx hi)
          · have mm := m2 m hmr.1 hmr.2
            have hml : m ∈ rem := by
              have h1 : m ∈ pre ++ rem := by rw [← hl]; exact (ht.1 m).mpr hmr
              rcases List.mem_append.mp h1 with h2 | h2
              · have := hpre m h2 hmi
                omega
              · exact h2
            obtain ⟨skip, rest, hre⟩ := zsplit hml
            have hpw := ht.2
            rw [hl, hre] at hpw
            have hpw2 := (List.pairwise_append.mp hpw).2.1
            have hpw3 := (List.pairwise_append.mp hpw2).2.2
            have hpw4 := (List.pairwise_cons.mp (List.pairwise_append.mp hpw2).2.1).1
            have hskip : ∀ y ∈ skip, ¬ zif σ w a k y := by
              intro y hy hi
              have h1 : zalt σ y m := hpw3 y hy m List.mem_cons_self
              have hyr : y ∈ rem := by rw [hre]; exact List.mem_append_left _ hy
              have hyl := (ht.1 y).mp (by rw [hl]; exact List.mem_append_right _ hyr)
              have h2 := hmin y hyl.1 hyl.2 hi (hrem y hyr hi)
              unfold zalt at h1
              omega
            have hl2 : l = (pre ++ skip ++ [m]) ++ rest := by rw [hl, hre]; simp
            -- behind it
            have next : ∀ t : zS, zfrM σ t → zhasM t (zap σ w a k m (pre.foldl (fun T x => zap σ w a k x T) (σ 118 w, (fun i => σ 117 (80 * w + i)), fun _ => 0))) → zR G MX12_words 81 [zr 98, zi w, zi a, zi k, zr 126, zi m, zi (σ 120 m), zu, zu, zu, zu] [] t Q := by
              intro t hft hTt
              refine ih rest.length (by rw [← hN, hre]; simp; omega) rest (pre ++ skip ++ [m]) t m _ rfl hl2 hft ?_ (fun x hx hi => ?_) (fun x hx hi => ?_)
              · rw [List.foldl_append, List.foldl_append, zap_all skip _ hskip]
                exact hTt
              · have h1 := hpw4 x hx
                unfold zalt at h1
                omega
              · rcases List.mem_append.mp hx with h1 | h1
                · rcases List.mem_append.mp h1 with h2 | h2
                  · have := hpre x h2 hi
                    omega
                  · exact absurd hi (hskip x h2)
                · rw [List.mem_singleton.mp h1]
                  omega
            generalize hTn : pre.foldl (fun T x => zap σ w a k x T) (σ 118 w, (fun i => σ 117 (80 * w + i)), fun _ => 0) = T at hT next
            obtain ⟨t1, t2, t3, t4⟩ := hT
            apply TX12_words_87 <;> (try rw [e3]) <;> (try rw [e120]) <;> (try (intros; omega))
            intro _ _
            refine okX12_placeOf (by omega) t2 (by omega) (by rw [e122]) mm.2.2.1 (fun r hr => ?_)
            have hr2 : zfst T.2.1 (fun j => σ 124 (80 * m + j)) T.1 (σ 122 m) r := zfst_eq t3 (fun j x y => by rw [e124]) hr
            have hfi := zfirst_eq hr2
            have hrr : r = -1 ∨ (0 ≤ r ∧ r + σ 122 m ≤ T.1) := by
              rcases hr2 with h | h
              · exact Or.inl h.1
              · exact Or.inr h.1
            by_cases hg : r = -1 ∨ 200 < T.1 - σ 122 m + σ 123 m
            · have ez : zap σ w a k m T = (T.1, T.2.1, zupd1 T.2.2 m 1) := by
                unfold zap
                rw [if_pos (show σ 119 m = w ∧ σ 120 m ≤ a ∧ σ 121 m ≤ k from hmi), hfi, if_pos hg]
              apply TX12_words_201 <;> (try rw [t2]) <;> (try rw [e122]) <;> (try rw [e123]) <;> (try (intros; omega))
              intro _
              refine next _ (fun q j q1 q2 q3 q4 => by rw [zup_of q3]; exact hf q j q1 q2 q3 q4) ?_
              rw [ez]
              refine ⟨t1, by rw [zup_of (by decide)]; exact t2, by rw [zup_ne (by decide)]; exact t3, fun y y0 y1 => ?_⟩
              dsimp only
              unfold zupd1
              by_cases hy : y = m
              · rw [if_pos hy, hy, zup_same]
              · rw [if_neg hy, zup_oi hy]
                exact t4 y y0 y1
            · have ez : zap σ w a k m T = (T.1 - σ 122 m + σ 123 m, zrep T.2.1 (fun j => σ 125 (80 * m + j)) r (σ 122 m) (σ 123 m), T.2.2) := by
                unfold zap
                rw [if_pos (show σ 119 m = w ∧ σ 120 m ≤ a ∧ σ 121 m ≤ k from hmi), hfi, if_neg hg]
              apply TX12_words_201 <;> (try rw [t2]) <;> (try rw [e122]) <;> (try rw [e123]) <;> (try (intros; omega))
              intro _ _
              refine okX12_splice (by omega) t2 (by omega) (by rw [e122]) (by rw [e123]) (by omega) (by omega) (by omega) (by omega) (fun t f1 f2 f3 => ?_)
              refine next t (fun q j q1 q2 q3 q4 => by rw [f1 q j q1 q2 q4]; exact hf q j q1 q2 q3 q4) ?_
              rw [ez]
              refine ⟨by dsimp only; omega, f2, fun i i0 i1 => ?_, fun y y0 y1 => ?_⟩
              · rw [f3 i i0 i1, e125]
                exact zrep_alike t3 (fun _ _ _ => rfl) (by omega) (by omega) i i0 i1
              · rw [f1 _ _ (by decide) (by decide) (fun z => absurd z.1 (by decide))]
                exact t4 y y0 y1
        | succ n ihn =>
          intro i m hn i0 i1 hm
          have mi := m2 i i0 (by omega)
          apply TX12_words_87 <;> (try rw [e3]) <;> (try rw [e119]) <;> (try rw [e120]) <;> (try rw [e121]) <;> (try (intros; omega))
          · intro _ c
            refine ihn (i + 1) m (by omega) (by omega) (by omega) ?_
            rcases hm with ⟨h1, h2⟩ | ⟨h1, h2, h3, h4⟩
            · refine Or.inl ⟨h1, fun y y0 y1 yi => ?_⟩
              by_cases e : y = i
              · rw [e] at yi ⊢
                unfold zif at yi
                omega
              · exact h2 y y0 (by omega) yi
            · refine Or.inr ⟨by omega, h2, h3, fun y y0 y1 yi yq => ?_⟩
              by_cases e : y = i
              · rw [e] at yi yq ⊢
                unfold zif at yi
                omega
              · exact h4 y y0 (by omega) yi yq
          · intro _ c1 c2 c3 c4
            refine ihn (i + 1) i (by omega) (by omega) (by omega) (Or.inr ⟨by omega, c1, ⟨c2, by omega⟩, fun y y0 y1 yi yq => ?_⟩)
            by_cases e : y = i
            · rw [e]
              omega
            · rcases hm with ⟨h1, h2⟩ | ⟨h1, h2, h3, h4⟩
              · exact absurd yq (h2 y y0 (by omega) yi)
              · have := h4 y y0 (by omega) yi yq
                omega
      exact find _ 0 (-1) rfl (by omega) (by omega) (Or.inl ⟨rfl, fun y y0 y1 => by omega⟩)
  -- the first text, nobody gone
  refine TX12_words (by omega) ?_
  have first : ∀ (n : Nat) (s : zS) (i : Int), (σ 118 w - i).toNat = n → 0 ≤ i → i ≤ σ 118 w → zfrM σ s → s 98 43 = σ 118 w → (∀ j, 0 ≤ j → j < i → s 127 j = σ 117 (80 * w + j)) →
      zR G MX12_words 13 [zr 98, zi w, zi a, zi k, zi i, zu, zu, zu, zu, zu, zu] [] s Q := by
    intro n
    induction n with
    | zero =>
      intro s i hn i0 i1 hf e43 hs
      apply TX12_words_13 <;> (try rw [e43]) <;> (try (intros; omega))
      intro _
      have clear : ∀ (n : Nat) (s : zS) (i : Int), (12 - i).toNat = n → 0 ≤ i → i ≤ 12 → zfrM σ s → s 98 43 = σ 118 w → (∀ j, 0 ≤ j → j < σ 118 w → s 127 j = σ 117 (80 * w + j)) → (∀ j, 0 ≤ j → j < i → s 126 j = 0) →
          zR G MX12_words 56 [zr 98, zi w, zi a, zi k, zr 126, zi i, zu, zu, zu, zu, zu] [] s Q := by
        intro n
        induction n with
        | zero =>
          intro s i hn i0 i1 hf e43 hs hg
          apply TX12_words_56 <;> (try (intros; omega))
          intro _
          refine main _ l [] s (-1) (-1) rfl rfl hf ⟨by dsimp only [List.foldl_nil]; omega, e43, hs, fun x x0 x1 => hg x x0 (by omega)⟩ (fun x hx hi => ?_) (fun x hx => by cases hx)
          have hxl := (ht.1 x).mp hx
          have := m2 x hxl.1 hxl.2
          omega
        | succ n ih =>
          intro s i hn i0 i1 hf e43 hs hg
          apply TX12_words_56 <;> (try (intros; omega))
          intro _
          refine ih _ (i + 1) (by omega) (by omega) (by omega) (fun q j q1 q2 q3 q4 => by rw [zup_of q3]; exact hf q j q1 q2 q3 q4) (by rw [zup_of (by decide)]; exact e43) (fun j j0 j1 => by rw [zup_of (by decide)]; exact hs j j0 j1) (fun j j0 j1 => ?_)
          by_cases e : j = i
          · rw [e, zup_same]
          · rw [zup_oi e]
            exact hg j j0 (by omega)
      exact clear _ s 0 rfl (by omega) (by omega) hf e43 (fun j j0 j1 => hs j j0 (by omega)) (fun j j0 j1 => by omega)
    | succ n ih =>
      intro s i hn i0 i1 hf e43 hs
      have e117 : s 117 (80 * w + i) = σ 117 (80 * w + i) := hf _ _ (by decide) (by decide) (by decide) (fun z => absurd z.1 (by decide))
      apply TX12_words_13 <;> (try rw [e43]) <;> (try (intros; omega))
      intro _
      refine ih _ (i + 1) (by omega) (by omega) (by omega) (fun q j q1 q2 q3 q4 => by rw [zup_of q1]; exact hf q j q1 q2 q3 q4) (by rw [zup_of (by decide)]; exact e43) (fun j j0 j1 => ?_)
      by_cases e : j = i
      · rw [e, zup_same, e117]
      · rw [zup_oi e]
        exact hs j j0 (by omega)
  exact first _ _ 0 rfl (by omega) (by omega) (fun q j q1 q2 q3 q4 => if_neg q4) zup_same (fun j j0 j1 => by omega)
end WM
