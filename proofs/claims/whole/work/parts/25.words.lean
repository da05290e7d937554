/-! WORDS of a statute: amendments done one by one -/
noncomputable def zfirst (t o : Int → Int) (n m : Int) : Int := by
  classical exact if h : ∃ r, zfst t o n m r then Classical.choose h else -1
theorem zfirst_eq {t o : Int → Int} {n m r : Int} (h : zfst t o n m r) : zfirst t o n m = r := by
  unfold zfirst
  have hx : ∃ r, zfst t o n m r := ⟨r, h⟩
  rw [dif_pos hx]
  exact zfst_one (Classical.choose_spec hx) h
/-- a text with a place of m letters put in place by m' others -/
def zrep (t o : Int → Int) (r m m' : Int) : Int → Int := fun i => if i < r then t i else if i < r + m' then o (i - r) else t (i - m' + m)
/-- how many letters, the letters, who is gone -/
abbrev zT : Type := Int × (Int → Int) × (Int → Int)
/-- an amendment x is done, if it is in force -/
noncomputable def zap (σ : zS) (w a k x : Int) (T : zT) : zT := by
  classical exact if σ 119 x = w ∧ σ 120 x ≤ a ∧ σ 121 x ≤ k then
    (if zfirst T.2.1 (fun j => σ 124 (80 * x + j)) T.1 (σ 122 x) = -1 ∨ 200 < T.1 - σ 122 x + σ 123 x then (T.1, T.2.1, zupd1 T.2.2 x 1)
     else (T.1 - σ 122 x + σ 123 x, zrep T.2.1 (fun j => σ 125 (80 * x + j)) (zfirst T.2.1 (fun j => σ 124 (80 * x + j)) T.1 (σ 122 x)) (σ 122 x) (σ 123 x), T.2.2)) else T
noncomputable def zwords (σ : zS) (l : List Int) (w a k : Int) : zT := l.foldl (fun T x => zap σ w a k x T) (σ 118 w, (fun i => σ 117 (80 * w + i)), fun _ => 0)
/-- two texts of n letters are alike -/
def zalike (n : Int) (t t' : Int → Int) : Prop := ∀ i, 0 ≤ i → i < n → t i = t' i
theorem zrep_alike {n : Int} {t t' o o' : Int → Int} {r m m' : Int} (h : zalike n t t') (ho : ∀ j, 0 ≤ j → j < m' → o j = o' j) (hr : 0 ≤ r ∧ r + m ≤ n) (hm : 0 ≤ m ∧ 0 ≤ m') : zalike (n - m + m') (zrep t o r m m') (zrep t' o' r m m') := by
  intro i a b
  unfold zrep
  by_cases h1 : i < r
  · rw [if_pos h1, if_pos h1]
    exact h i a (by omega)
  · rw [if_neg h1, if_neg h1]
    by_cases h2 : i < r + m'
    · rw [if_pos h2, if_pos h2]
      exact ho _ (by omega) (by omega)
    · rw [if_neg h2, if_neg h2]
      exact h _ (by omega) (by omega)
/-- the amendments of the model are in order -/
def zamo (σ : zS) : Prop := (0 ≤ σ 98 3 ∧ σ 98 3 ≤ 12) ∧ (∀ w, 0 ≤ w → w < 4 → 1 ≤ σ 118 w ∧ σ 118 w ≤ 80) ∧
  ∀ x, 0 ≤ x → x < σ 98 3 → (0 ≤ σ 119 x ∧ σ 119 x < 4) ∧ (0 ≤ σ 120 x ∧ σ 120 x ≤ 40000) ∧ (1 ≤ σ 122 x ∧ σ 122 x ≤ 80) ∧ (1 ≤ σ 123 x ∧ σ 123 x ≤ 80)
/-- the class tells the same -/
def zamC (σ : zS) : Prop := σ 35 11 = σ 98 3 ∧
  (∀ w, 0 ≤ w → w < 4 → (σ 37 w = 0 ∧ σ 118 w = 1 ∧ σ 117 (80 * w) = 119) ∨ (σ 37 w = σ 118 w ∧ ∀ i, 0 ≤ i → i < σ 118 w → σ 36 (80 * w + i) = σ 117 (80 * w + i))) ∧
  ∀ x, 0 ≤ x → x < σ 98 3 → σ 38 x = σ 119 x ∧ σ 39 x = σ 120 x ∧ σ 40 x = σ 121 x ∧ σ 42 x = σ 122 x ∧ σ 44 x = σ 123 x ∧
    (∀ i, 0 ≤ i → i < σ 122 x → σ 41 (80 * x + i) = σ 124 (80 * x + i)) ∧ (∀ i, 0 ≤ i → i < σ 123 x → σ 43 (80 * x + i) = σ 125 (80 * x + i))
/-- what the class has of a text, against the text that is meant -/
def zhasC (s : zS) (T : zT) : Prop := (1 ≤ T.1 ∧ T.1 ≤ 200) ∧ s 35 12 = T.1 ∧ zalike T.1 (s 46) T.2.1 ∧ ∀ x, 0 ≤ x → x < 12 → (zbit (s 35 13) x ↔ T.2.2 x = 1)
def zfrC (σ s : zS) : Prop := ∀ q j, q ≠ 46 → ¬ (q = 35 ∧ (j = 12 ∨ j = 13)) → s q j = σ q j
section RE
variable {G : zG} {σ : zS} {Q : Int → zS → Prop}
/-- one amendment in the class: done, or gone -/
theorem okX10_replace {s : zS} {T : zT} {x w a k : Int} (hM : zamo σ) (hC : zamC σ) (hf : zfrC σ s) (hT : zhasC s T) (hx : 0 ≤ x ∧ x < σ 98 3) (hi : σ 119 x = w ∧ σ 120 x ≤ a ∧ σ 121 x ≤ k)
    (kq : ∀ (t : zS) (r : Int), zfrC σ t → ((r = 0 ∧ (zap σ w a k x T).2.2 = zupd1 T.2.2 x 1 ∧ t = s ∧ (zap σ w a k x T).1 = T.1 ∧ (zap σ w a k x T).2.1 = T.2.1) ∨ (r = 1 ∧ (zap σ w a k x T).2.2 = T.2.2 ∧ zhasC t (zap σ w a k x T))) → Q r t) : zO G MX10_replace [zr 35, zi x] s Q := by
  obtain ⟨m0, m1, m2⟩ := hM
  obtain ⟨c0, c1, c2⟩ := hC
  have mx := m2 x hx.1 hx.2
  have cx := c2 x hx.1 hx.2
  obtain ⟨t1, t2, t3, t4⟩ := hT
  have e42 : s 42 x = σ 122 x := by rw [hf _ _ (by decide) (fun z => absurd z.1 (by decide))]; exact cx.2.2.2.1
  have e44 : s 44 x = σ 123 x := by rw [hf _ _ (by decide) (fun z => absurd z.1 (by decide))]; exact cx.2.2.2.2.1
  have e41 : ∀ i, 0 ≤ i → i < σ 122 x → s 41 (80 * x + i) = σ 124 (80 * x + i) := fun i a b => by rw [hf _ _ (by decide) (fun z => absurd z.1 (by decide))]; exact cx.2.2.2.2.2.1 i a b
  have e43 : ∀ i, 0 ≤ i → i < σ 123 x → s 43 (80 * x + i) = σ 125 (80 * x + i) := fun i a b => by rw [hf _ _ (by decide) (fun z => absurd z.1 (by decide))]; exact cx.2.2.2.2.2.2 i a b
  refine TX10_replace (okX10_firstPlaceOf (by omega) t2 (by omega) e42 mx.2.2.1 (fun r hr => ?_))
  have hr2 : zfst T.2.1 (fun j => σ 124 (80 * x + j)) T.1 (σ 122 x) r := zfst_eq t3 (fun j a b => e41 j a b) hr
  have hfi := zfirst_eq hr2
  have hrr : r = -1 ∨ (0 ≤ r ∧ r + σ 122 x ≤ T.1) := by
    rcases hr2 with h | h
    · exact Or.inl h.1
    · exact Or.inr h.1
  by_cases hg : r = -1 ∨ 200 < T.1 - σ 122 x + σ 123 x
  · apply TX10_replace_5 <;> (try rw [t2]) <;> (try rw [e42]) <;> (try rw [e44]) <;> (try (intros; omega))
    intro _
    have ez : zap σ w a k x T = (T.1, T.2.1, zupd1 T.2.2 x 1) := by
      unfold zap
      rw [if_pos hi, hfi, if_pos hg]
    refine kq s 0 hf (Or.inl ⟨rfl, ?_, rfl, ?_, ?_⟩) <;> rw [ez]
  · have hrp : 0 ≤ r ∧ r + σ 122 x ≤ T.1 := by omega
    have ez : zap σ w a k x T = (T.1 - σ 122 x + σ 123 x, zrep T.2.1 (fun j => σ 125 (80 * x + j)) r (σ 122 x) (σ 123 x), T.2.2) := by
      unfold zap
      rw [if_pos hi, hfi, if_neg hg]
    apply TX10_replace_5 <;> (try rw [t2]) <;> (try rw [e42]) <;> (try rw [e44]) <;> (try (intros; omega))
    intro _ _
    refine kq _ 1 (fun q j h1 h2 => ?_) (Or.inr ⟨rfl, by rw [ez], ?_⟩)
    · have h3 : ¬ (q = 35 ∧ j = 12) := fun z => h2 ⟨z.1, Or.inl z.2⟩
      have e : zup (zcp (zcp s 46 (r + σ 122 x) 46 (r + σ 123 x) (T.1 - (r + σ 122 x))) 43 (80 * x) 46 r (σ 123 x)) 35 12 (T.1 - σ 122 x + σ 123 x) q j = s q j := by
        rw [show zup _ 35 12 _ q j = zcp _ _ _ _ _ _ q j from if_neg h3, zcp_ne h1, zcp_ne h1]
      rw [e]
      exact hf q j h1 h2
    · rw [ez]
      refine ⟨by dsimp only; omega, zup_same, ?_, ?_⟩
      · have el : zup (zcp (zcp s 46 (r + σ 122 x) 46 (r + σ 123 x) (T.1 - (r + σ 122 x))) 43 (80 * x) 46 r (σ 123 x)) 35 12 (T.1 - σ 122 x + σ 123 x) 46 = zcp (zcp s 46 (r + σ 122 x) 46 (r + σ 123 x) (T.1 - (r + σ 122 x))) 43 (80 * x) 46 r (σ 123 x) 46 := zup_ne (by decide)
        dsimp only
        rw [el]
        intro i a b
        unfold zrep
        by_cases h1 : i < r
        · have e1 : zcp (zcp s 46 (r + σ 122 x) 46 (r + σ 123 x) (T.1 - (r + σ 122 x))) 43 (80 * x) 46 r (σ 123 x) 46 i = zcp s 46 (r + σ 122 x) 46 (r + σ 123 x) (T.1 - (r + σ 122 x)) 46 i := if_neg (by omega)
          have e2 : zcp s 46 (r + σ 122 x) 46 (r + σ 123 x) (T.1 - (r + σ 122 x)) 46 i = s 46 i := if_neg (by omega)
          rw [if_pos h1, e1, e2]
          exact t3 i a (by omega)
        · rw [if_neg h1]
          by_cases h2 : i < r + σ 123 x
          · have e1 : zcp (zcp s 46 (r + σ 122 x) 46 (r + σ 123 x) (T.1 - (r + σ 122 x))) 43 (80 * x) 46 r (σ 123 x) 46 i = zcp s 46 (r + σ 122 x) 46 (r + σ 123 x) (T.1 - (r + σ 122 x)) 43 (80 * x + (i - r)) := if_pos ⟨rfl, by omega, by omega⟩
            rw [if_pos h2, e1, zcp_ne (by decide)]
            exact e43 _ (by omega) (by omega)
          · have e1 : zcp (zcp s 46 (r + σ 122 x) 46 (r + σ 123 x) (T.1 - (r + σ 122 x))) 43 (80 * x) 46 r (σ 123 x) 46 i = zcp s 46 (r + σ 122 x) 46 (r + σ 123 x) (T.1 - (r + σ 122 x)) 46 i := if_neg (by omega)
            have e2 : zcp s 46 (r + σ 122 x) 46 (r + σ 123 x) (T.1 - (r + σ 122 x)) 46 i = s 46 (r + σ 122 x + (i - (r + σ 123 x))) := if_pos ⟨rfl, by omega, by omega⟩
            rw [if_neg h2, e1, e2, show r + σ 122 x + (i - (r + σ 123 x)) = i - σ 123 x + σ 122 x from by omega]
            exact t3 _ (by omega) (by omega)
      · intro y y0 y1
        dsimp only
        rw [zup_oi (by decide), zcp_ne (by decide), zcp_ne (by decide)]
        exact t4 y y0 y1
end RE
