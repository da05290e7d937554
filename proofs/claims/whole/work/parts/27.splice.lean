/-! The model's words: one amendment put in place -/
section SP
variable {G : zG} {σ : zS} {Q : Int → zS → Prop}
theorem okX12_splice {s : zS} {w a k v5 v6 x r n ol nl : Int} (hx : 0 ≤ x ∧ x < 12) (hn : s 98 43 = n) (hn1 : n ≤ 200) (ho : s 122 x = ol) (hl : s 123 x = nl) (hr : 0 ≤ r ∧ r + ol ≤ n) (ho1 : 0 ≤ ol) (hl1 : 0 ≤ nl ∧ nl ≤ 80) (hg : n - ol + nl ≤ 200)
    (kq : ∀ t : zS, (∀ q j, q ≠ 127 → q ≠ 128 → ¬ (q = 98 ∧ j = 43) → t q j = s q j) → t 98 43 = n - ol + nl → zalike (n - ol + nl) (t 127) (zrep (s 127) (fun j => s 125 (80 * x + j)) r ol nl) → zR G MX12_words 81 [zr 98, zi w, zi a, zi k, zr 126, zi v5, zi v6, zu, zu, zu, zu] [] t Q) :
    zR G MX12_words 250 [zr 98, zi w, zi a, zi k, zr 126, zi v5, zi v6, zi x, zi r, zi 0, zi 0] [] s Q := by
  generalize hZ : zrep (s 127) (fun j => s 125 (80 * x + j)) r ol nl = Z at kq
  have z1 : ∀ i, i < r → Z i = s 127 i := fun i h => by rw [← hZ]; unfold zrep; rw [if_pos h]
  have z2 : ∀ i, 0 ≤ i → i < nl → Z (r + i) = s 125 (80 * x + i) := fun i h0 h => by
    rw [← hZ]; unfold zrep; rw [if_neg (by omega), if_pos (by omega), show r + i - r = i from by omega]
  have z3 : ∀ i, 0 ≤ i → Z (r + nl + i) = s 127 (r + ol + i) := fun i h0 => by
    rw [← hZ]; unfold zrep; rw [if_neg (by omega), if_neg (by omega), show r + nl + i - nl + ol = r + ol + i from by omega]
  have step : ∀ (t : zS) (c v : Int), (∀ q, q ≠ 128 → t q = s q) → (∀ i, 0 ≤ i → i < c → t 128 i = Z i) → v = Z c → (∀ q, q ≠ 128 → zup t 128 c v q = s q) ∧ (∀ i, 0 ≤ i → i < c + 1 → zup t 128 c v 128 i = Z i) := by
    intro t c v h1 h2 h3
    refine ⟨fun q hq => by rw [zup_ne hq]; exact h1 q hq, fun i i0 i1 => ?_⟩
    by_cases e : i = c
    · rw [e, zup_same, h3]
    · rw [zup_oi e]
      exact h2 i i0 (by omega)
  -- back from made to text
  have back : ∀ (m : Nat) (t : zS) (c : Int), (n - ol + nl - c).toNat = m → 0 ≤ c → c ≤ n - ol + nl → (∀ q j, q ≠ 127 → q ≠ 128 → ¬ (q = 98 ∧ j = 43) → t q j = s q j) → t 98 43 = n - ol + nl → (∀ i, 0 ≤ i → i < n - ol + nl → t 128 i = Z i) → (∀ i, 0 ≤ i → i < c → t 127 i = Z i) →
      zR G MX12_words 377 [zr 98, zi w, zi a, zi k, zr 126, zi v5, zi v6, zi x, zi r, zi (n - ol + nl), zi c] [] t Q := by
    intro m
    induction m with
    | zero =>
      intro t c hm c0 c1 h1 h2 h3 h4
      apply TX12_words_377 <;> (try (intros; omega))
      intro _
      exact kq t h1 h2 (fun i a b => h4 i a (by omega))
    | succ m ih =>
      intro t c hm c0 c1 h1 h2 h3 h4
      apply TX12_words_377 <;> (try (intros; omega))
      intro _
      refine ih _ (c + 1) (by omega) (by omega) (by omega) (fun q j q1 q2 q3 => by rw [zup_of q1]; exact h1 q j q1 q2 q3) (by rw [zup_of (by decide)]; exact h2) (fun i a b => by rw [zup_of (by decide)]; exact h3 i a b) (fun i a b => ?_)
      by_cases e : i = c
      · rw [e, zup_same]
        exact h3 c c0 (by omega)
      · rw [zup_oi e]
        exact h4 i a (by omega)
  -- what stands behind
  have tail : ∀ (m : Nat) (t : zS) (c : Int), (n - (r + ol) - c).toNat = m → 0 ≤ c → c ≤ n - (r + ol) → (∀ q, q ≠ 128 → t q = s q) → (∀ i, 0 ≤ i → i < r + nl + c → t 128 i = Z i) →
      zR G MX12_words 336 [zr 98, zi w, zi a, zi k, zr 126, zi v5, zi v6, zi x, zi r, zi (r + nl + c), zi (r + ol + c)] [] t Q := by
    intro m
    induction m with
    | zero =>
      intro t c hm c0 c1 h1 h2
      have en : t 98 43 = n := by rw [h1 _ (by decide)]; exact hn
      apply TX12_words_336 <;> (try rw [en]) <;> (try (intros; omega))
      intro _
      have ec : r + nl + c = n - ol + nl := by omega
      rw [ec] at h2 ⊢
      refine back _ _ 0 rfl (by omega) (by omega) (fun q j q1 q2 q3 => ?_) zup_same (fun i a b => by rw [zup_of (by decide)]; exact h2 i a b) (fun i a b => by omega)
      rw [show zup t 98 43 _ q j = t q j from if_neg q3, h1 q q2]
    | succ m ih =>
      intro t c hm c0 c1 h1 h2
      have en : t 98 43 = n := by rw [h1 _ (by decide)]; exact hn
      have et : t 127 (r + ol + c) = Z (r + nl + c) := by rw [h1 _ (by decide), z3 c c0]
      apply TX12_words_336 <;> (try rw [en]) <;> (try (intros; omega))
      intro _
      obtain ⟨g1, g2⟩ := step t (r + nl + c) _ h1 h2 et
      have := ih _ (c + 1) (by omega) (by omega) (by omega) g1 (fun i a b => g2 i a (by omega))
      rw [show r + nl + (c + 1) = r + nl + c + 1 from by omega, show r + ol + (c + 1) = r + ol + c + 1 from by omega] at this
      exact this
  -- the new words
  have mid : ∀ (m : Nat) (t : zS) (c : Int), (nl - c).toNat = m → 0 ≤ c → c ≤ nl → (∀ q, q ≠ 128 → t q = s q) → (∀ i, 0 ≤ i → i < r + c → t 128 i = Z i) →
      zR G MX12_words 283 [zr 98, zi w, zi a, zi k, zr 126, zi v5, zi v6, zi x, zi r, zi (r + c), zi c] [] t Q := by
    intro m
    induction m with
    | zero =>
      intro t c hm c0 c1 h1 h2
      have e1 : t 122 x = ol := by rw [h1 _ (by decide)]; exact ho
      have e2 : t 123 x = nl := by rw [h1 _ (by decide)]; exact hl
      have ec : c = nl := by omega
      subst ec
      apply TX12_words_283 <;> (try rw [e1]) <;> (try rw [e2]) <;> (try (intros; omega))
      intro _
      have := tail _ t 0 rfl (by omega) (by omega) h1 (fun i a b => h2 i a (by omega))
      rw [show r + c + 0 = r + c from by omega, show r + ol + 0 = r + ol from by omega] at this
      exact this
    | succ m ih =>
      intro t c hm c0 c1 h1 h2
      have e1 : t 122 x = ol := by rw [h1 _ (by decide)]; exact ho
      have e2 : t 123 x = nl := by rw [h1 _ (by decide)]; exact hl
      have et : t 125 (80 * x + c) = Z (r + c) := by rw [h1 _ (by decide), z2 c c0 (by omega)]
      apply TX12_words_283 <;> (try rw [e1]) <;> (try rw [e2]) <;> (try (intros; omega))
      intro _
      obtain ⟨g1, g2⟩ := step t (r + c) _ h1 h2 et
      have := ih _ (c + 1) (by omega) (by omega) (by omega) g1 (fun i a b => g2 i a (by omega))
      rw [show r + (c + 1) = r + c + 1 from by omega] at this
      exact this
  -- what stands ahead
  have head : ∀ (m : Nat) (t : zS) (c : Int), (r - c).toNat = m → 0 ≤ c → c ≤ r → (∀ q, q ≠ 128 → t q = s q) → (∀ i, 0 ≤ i → i < c → t 128 i = Z i) →
      zR G MX12_words 250 [zr 98, zi w, zi a, zi k, zr 126, zi v5, zi v6, zi x, zi r, zi c, zi c] [] t Q := by
    intro m
    induction m with
    | zero =>
      intro t c hm c0 c1 h1 h2
      have ec : c = r := by omega
      subst ec
      apply TX12_words_250 <;> (try (intros; omega))
      intro _
      have := mid _ t 0 rfl (by omega) (by omega) h1 (fun i a b => h2 i a (by omega))
      rw [show c + 0 = c from by omega] at this
      exact this
    | succ m ih =>
      intro t c hm c0 c1 h1 h2
      have et : t 127 c = Z c := by rw [h1 _ (by decide), z1 c (by omega)]
      apply TX12_words_250 <;> (try (intros; omega))
      intro _
      obtain ⟨g1, g2⟩ := step t c _ h1 h2 et
      exact ih _ (c + 1) (by omega) (by omega) (by omega) g1 g2
  exact head _ s 0 rfl (by omega) (by omega) (fun q _ => rfl) (fun i a b => by omega)
end SP
