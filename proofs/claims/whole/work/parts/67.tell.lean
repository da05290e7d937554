/-! CALLS: ballot, wish -/
theorem zfi_s {g : Int → Int} {i r : Int} {S : Int → Prop} (hS : ∀ x, S x → 0 ≤ x) (i0 : 0 ≤ i) : zfi g (i + 1) S r ↔ (zfi g i S (-1) ∧ ((S (g i) ∧ r = g i) ∨ (¬ S (g i) ∧ r = -1))) ∨ (r ≠ -1 ∧ zfi g i S r) := by
  unfold zfi
  constructor
  · rintro (⟨e, h⟩ | ⟨j, a, b, c, d⟩)
    · exact Or.inl ⟨Or.inl ⟨rfl, fun j a b => h j a (by omega)⟩, Or.inr ⟨h i i0 (by omega), e⟩⟩
    · by_cases e : j = i
      · rw [e] at b c d
        exact Or.inl ⟨Or.inl ⟨rfl, fun k k0 k1 => d k k0 k1⟩, Or.inl ⟨b, c⟩⟩
      · have := hS _ b
        exact Or.inr ⟨by omega, Or.inr ⟨j, by omega, b, c, d⟩⟩
  · rintro (⟨h1, h2⟩ | ⟨hr, h⟩)
    · have hn : ∀ j, 0 ≤ j → j < i → ¬ S (g j) := by
        rcases h1 with ⟨_, h⟩ | ⟨j, a, b, c, d⟩
        · exact h
        · have := hS _ b
          omega
      rcases h2 with ⟨a, b⟩ | ⟨a, b⟩
      · exact Or.inr ⟨i, by omega, a, b, hn⟩
      · refine Or.inl ⟨b, fun j j0 j1 => ?_⟩
        by_cases e : j = i
        · rw [e]; exact a
        · exact hn j j0 (by omega)
    · rcases h with ⟨e, _⟩ | ⟨j, a, b, c, d⟩
      · exact absurd e hr
      · exact Or.inr ⟨j, by omega, b, c, d⟩
theorem zfi_cg {g g' : Int → Int} {n r : Int} {S : Int → Prop} (h : ∀ i, 0 ≤ i → i < n → g' i = g i) (hz : zfi g n S r) : zfi g' n S r := by
  rcases hz with ⟨e, h1⟩ | ⟨j, a, b, c, d⟩
  · exact Or.inl ⟨e, fun i a b => by rw [h i a b]; exact h1 i a b⟩
  · refine Or.inr ⟨j, a, by rw [h j a.1 a.2]; exact b, by rw [h j a.1 a.2]; exact c, fun k k0 k1 => by rw [h k k0 (by omega)]; exact d k k0 k1⟩
theorem zfi_skip {g : Int → Int} {i r : Int} {S : Int → Prop} (hS : ∀ x, S x → 0 ≤ x) (i0 : 0 ≤ i) (h : S (g i) → ∃ j, (0 ≤ j ∧ j < i) ∧ g j = g i) : zfi g (i + 1) S r ↔ zfi g i S r := by
  rw [zfi_s hS i0]
  have hn : zfi g i S (-1) → ¬ S (g i) := by
    rintro (⟨_, z⟩ | ⟨j, a, b, c, d⟩) hs
    · obtain ⟨j, a, b⟩ := h hs
      exact z j a.1 a.2 (by rw [b]; exact hs)
    · have := hS _ b
      omega
  constructor
  · rintro (⟨a, b | b⟩ | ⟨_, a⟩)
    · exact absurd b.1 (hn a)
    · rw [b.2]; exact a
    · exact a
  · intro a
    by_cases e : r = -1
    · rw [e] at a
      exact Or.inl ⟨a, Or.inr ⟨hn a, e⟩⟩
    · exact Or.inr ⟨e, a⟩
theorem zsel_skip {lim n i : Int} {f g : Int → Int} (hz : zsel lim f n g i) (i0 : 0 ≤ i) (h : 0 ≤ g i → g i < lim → ∃ j, (0 ≤ j ∧ j < i) ∧ g j = g i) : zsel lim f n g (i + 1) := by
  intro S hS r
  rw [zfi_skip (fun x z => (hS x z).1) i0 (fun z => h (hS _ z).1 (hS _ z).2)]
  exact hz S hS r
theorem zsel_add {lim n i : Int} {f f' g : Int → Int} (hz : zsel lim f n g i) (i0 : 0 ≤ i) (n0 : 0 ≤ n) (h1 : ∀ c, 0 ≤ c → c < n → f' c = f c) (h2 : f' n = g i) : zsel lim f' (n + 1) g (i + 1) := by
  intro S hS r
  have hS' : ∀ x, S x → 0 ≤ x := fun x z => (hS x z).1
  have e : ∀ r, zfi f' n S r ↔ zfi f n S r := fun r => ⟨zfi_cg (fun c a b => (h1 c a b).symm), zfi_cg h1⟩
  rw [zfi_s hS' n0, zfi_s hS' i0, e, e, h2, hz S hS, hz S hS]
theorem zsel_0 {lim : Int} {f g : Int → Int} : zsel lim f 0 g 0 := by
  intro S hS r
  exact ⟨zfi_cg (fun i a b => by omega), zfi_cg (fun i a b => by omega)⟩
theorem zsel_cgr {lim n i : Int} {f g g' : Int → Int} (hz : zsel lim f n g i) (h : ∀ j, 0 ≤ j → j < i → g' j = g j) : zsel lim f n g' i := by
  intro S hS r
  rw [hz S hS r]
  exact ⟨zfi_cg h, zfi_cg (fun j a b => (h j a b).symm)⟩
theorem zsel_cgl {lim n i : Int} {f f' g : Int → Int} (hz : zsel lim f n g i) (h : ∀ j, 0 ≤ j → j < n → f' j = f j) : zsel lim f' n g i := by
  intro S hS r
  rw [← hz S hS r]
  exact ⟨zfi_cg (fun j a b => (h j a b).symm), zfi_cg h⟩
theorem zfr_row2 {tz to q : Nat} {s σ : zS} (h : zfr [(tz, none), (to, none)] s σ) (h1 : to ≠ q) (h2 : tz ≠ q) : s q = σ q := by
  funext j
  refine h q j ?_
  rintro ⟨d, hd, e, _⟩
  simp only [List.mem_cons, List.not_mem_nil, or_false] at hd
  rcases hd with rfl | rfl
  · exact h2 e
  · exact h1 e
section TL
variable {G : zG} {σ : zS} {Q : Int → zS → Prop}
set_option maxHeartbeats 1000000 in
/-- a choice told -/
theorem okX1_tell {t to tz tn a2 a2e : Nat} {w lim : Int} (ht : zsh t = (4, 1, [none, some to, some tz])) (hto : zsh to = (0, tn, [])) (htz : zsh tz = (0, 24, [])) (ha2 : zsh a2 = (4, 9, [some a2e, none, none, none])) (ha2e : zsh a2e = (2, 80, []))
    (hd : to ≠ tz ∧ to ≠ t ∧ tz ≠ t ∧ to ≠ a2 ∧ tz ≠ a2 ∧ to ≠ a2e ∧ tz ≠ a2e) (hl : σ t 0 = lim) (hlim : 0 ≤ lim ∧ lim ≤ 24) (htn : (tn : Int) = 24 * lim) (hw : 0 ≤ w ∧ w < 24) (hn : 0 ≤ σ a2 2 ∧ σ a2 2 ≤ 80)
    (kq : ∀ s : zS, zfr [(tz, none), (to, none)] s σ → (∀ w', w' ≠ w → s tz w' = σ tz w') → (∀ w', w' ≠ w → ∀ i, 0 ≤ i → i < lim → s to (lim * w' + i) = σ to (lim * w' + i)) → (0 ≤ s tz w ∧ s tz w ≤ lim) → zin2 lim (fun i => s to (lim * w + i)) (s tz w) →
      zsel lim (fun i => s to (lim * w + i)) (s tz w) (fun i => zW (σ a2e i)) (σ a2 2) → Q 0 s) : zO G MX1_tell [zr t, zi w, zr a2] σ Q := by
  refine TX1_tell ht hto htz ha2 ha2e hw ?_
  have hlw : 0 ≤ lim * w ∧ lim * w ≤ 24 * 23 := by
    have := zmul_b (a := lim) (b := w) (A := 24) (B := 23) hlim.1 hlim.2 hw.1 (by omega)
    omega
  have hlw2 : lim * w + lim ≤ 24 * lim := by
    have h1 : lim * w ≤ lim * 23 := Int.mul_le_mul_of_nonneg_left (by omega) hlim.1
    omega
  have loop : ∀ (n : Nat) (i v : Int) (s : zS), (σ a2 2 - i).toNat = n → 0 ≤ i → i ≤ σ a2 2 → zfr [(tz, none), (to, none)] s σ → (∀ w', w' ≠ w → s tz w' = σ tz w') → (∀ j, ¬ (lim * w ≤ j ∧ j < lim * w + lim) → s to j = σ to j) → (∀ x, 0 ≤ x → x < lim → (zbit v x ↔ ∃ j, (0 ≤ j ∧ j < i) ∧ zW (σ a2e j) = x)) → s tz w = zps (fun i => zand (zushr v i) 1) lim.toNat → zin2 lim (fun i => s to (lim * w + i)) (s tz w) →
      zsel lim (fun i => s to (lim * w + i)) (s tz w) (fun i => zW (σ a2e i)) i → zR G MX1_tell 12 [zr t, zi w, zr a2, zi v, zi i, zu] [] s Q := by
    intro n
    induction n with
    | zero =>
      intro i v s hm i0 i1 hf h1 h2 h3 h4 h5 h6
      have hi' : i = σ a2 2 := by omega
      subst hi'
      have e2 : s a2 2 = σ a2 2 := by rw [show s a2 = σ a2 from zfr_row2 hf hd.2.2.2.1 hd.2.2.2.2.1]
      have hb := zps_b (g := fun i => zand (zushr v i) 1) (B := 1) (n := lim.toNat) (fun j a b => zpop_1 a (by omega))
      apply TX1_tell_12 ht hto htz ha2 ha2e <;> (try rw [e2]) <;> (try (intros; omega))
      intro _
      refine kq s hf h1 (fun w' hne j j0 j1 => h2 _ (fun z => ?_)) (by omega) h5 h6
      by_cases c : w' < w
      · have : lim * w' ≤ lim * (w - 1) := Int.mul_le_mul_of_nonneg_left (by omega) hlim.1
        rw [Int.mul_sub, Int.mul_one] at this
        omega
      · have : lim * (w + 1) ≤ lim * w' := Int.mul_le_mul_of_nonneg_left (by omega) hlim.1
        rw [Int.mul_add, Int.mul_one] at this
        omega
    | succ n ih =>
      intro i v s hm i0 i1 hf h1 h2 h3 h4 h5 h6
      have r2 : s a2 = σ a2 := zfr_row2 hf hd.2.2.2.1 hd.2.2.2.2.1
      have re : s a2e = σ a2e := zfr_row2 hf hd.2.2.2.2.2.1 hd.2.2.2.2.2.2
      have rt : s t = σ t := zfr_row2 hf hd.2.1 hd.2.2.1
      have e2 : s a2 2 = σ a2 2 := by rw [r2]
      have et : s t 0 = lim := by rw [rt]; exact hl
      have hb := zps_b (g := fun i => zand (zushr v i) 1) (B := 1) (n := lim.toNat) (fun j a b => zpop_1 a (by omega))
      by_cases c : (0 ≤ zW (σ a2e i) ∧ zW (σ a2e i) < lim) ∧ ¬ zbit v (zW (σ a2e i))
      · generalize hx : zW (σ a2e i) = x at c
        have hbit := (zb_and1 (x := v) c.1.1 (by omega)).2 c.2
        have hz1 := zps_1 (g := fun i => zand (zushr v i) 1) (g' := fun i => zand (zushr (zor v (zshl 1 x)) i) 1) (w := x) (n := lim.toNat)
        have hor : ∀ j, 0 ≤ j → j < 32 → (zbit (zor v (zshl 1 x)) j ↔ zbit v j ∨ j = x) := fun j a b => zor_at ⟨c.1.1, by omega⟩ ⟨a, b⟩
        have hsum : zps (fun i => zand (zushr (zor v (zshl 1 x)) i) 1) lim.toNat = zps (fun i => zand (zushr v i) 1) lim.toNat + 1 := by
          have hg : zps (fun i => if i = x then 1 else zand (zushr v i) 1) lim.toNat = zps (fun i => zand (zushr v i) 1) lim.toNat + 1 := by
            have := zps_1 (g := fun i => zand (zushr v i) 1) (g' := fun i => if i = x then 1 else zand (zushr v i) 1) (w := x) (n := lim.toNat) (by omega) (fun j hj => by show (if j = x then _ else _) = _; rw [if_neg hj])
            rw [this]
            show _ + ((if x = x then (1 : Int) else _) - zand (zushr v x) 1) = _
            rw [if_pos rfl, hbit]
            omega
          rw [← hg]
          refine zps_cg (fun j j0 j1 => ?_)
          have ha := zb_and1 (x := zor v (zshl 1 x)) j0 (by omega)
          have hb := zb_and1 (x := v) j0 (by omega)
          have ho := hor j j0 (by omega)
          show zand (zushr (zor v (zshl 1 x)) j) 1 = if j = x then 1 else zand (zushr v j) 1
          by_cases e : j = x
          · rw [if_pos e, ha.1 (ho.mpr (Or.inr e))]
          · rw [if_neg e]
            by_cases z : zbit v j
            · rw [ha.1 (ho.mpr (Or.inl z)), hb.1 z]
            · rw [ha.2 (fun y => (ho.mp y).elim z e), hb.2 z]
        have hb2 := zps_b (g := fun i => zand (zushr (zor v (zshl 1 x)) i) 1) (B := 1) (n := lim.toNat) (fun j a b => zpop_1 a (by omega))
        rw [hsum] at hb2
        have hnz : 0 ≤ s tz w ∧ s tz w < lim := by omega
        apply TX1_tell_12 ht hto htz ha2 ha2e <;> (try rw [e2]) <;> (try rw [et]) <;> (try rw [re]) <;> (try rw [hx]) <;> (try (intros; omega))
        intro _ _ _ _
        refine ih (i + 1) _ _ (by omega) (by omega) (by omega) (zfr_uA (by simp [zsb]) (zfr_uA (by simp [zsb]) hf)) (fun w' hne => ?_) (fun j hj => ?_) (fun y y0 y1 => ?_) ?_ (fun k k0 k1 => ?_) ?_
        · rw [zup_of (Ne.symm hd.1), zup_oi hne]
          exact h1 w' hne
        · rw [zup_oi (by omega), zup_of hd.1]
          exact h2 j hj
        · rw [hor y y0 (by omega), h3 y y0 y1]
          constructor
          · rintro (⟨j, a, b⟩ | e)
            · exact ⟨j, by omega, b⟩
            · exact ⟨i, by omega, by rw [e]; exact hx⟩
          · rintro ⟨j, a, b⟩
            by_cases e : j = i
            · rw [e, hx] at b
              exact Or.inr b.symm
            · exact Or.inl ⟨j, by omega, b⟩
        · rw [zup_of (Ne.symm hd.1), zup_same, hsum, h4]
        · rw [zup_of (Ne.symm hd.1), zup_same] at k1
          show 0 ≤ (zup _ to _ _) to (lim * w + k) ∧ (zup _ to _ _) to (lim * w + k) < lim
          by_cases e : k = s tz w
          · rw [e, zup_same]; exact c.1
          · rw [zup_oi (by omega), zup_of hd.1]
            exact h5 k k0 (by omega)
        · have := zsel_add (f' := fun k => (zup (zup s tz w (s tz w + 1)) to (lim * w + s tz w) x) to (lim * w + k)) h6 i0 hnz.1 (fun k k0 k1 => by
            show (zup _ to _ _) to (lim * w + k) = s to (lim * w + k)
            rw [zup_oi (by omega), zup_of hd.1]) (by
            show (zup _ to _ _) to (lim * w + s tz w) = zW (σ a2e i)
            rw [zup_same, hx])
          rw [show (zup (zup s tz w (s tz w + 1)) to (lim * w + s tz w) x) tz w = s tz w + 1 from by rw [zup_of (Ne.symm hd.1), zup_same]]
          exact this
      · have c' : zW (σ a2e i) < 0 ∨ (0 ≤ zW (σ a2e i) ∧ lim ≤ zW (σ a2e i)) ∨ (0 ≤ zW (σ a2e i) ∧ zW (σ a2e i) < lim ∧ zand (zushr v (zW (σ a2e i))) 1 ≠ 0) := by
          by_cases c1 : zW (σ a2e i) < 0
          · exact Or.inl c1
          · by_cases c2 : lim ≤ zW (σ a2e i)
            · exact Or.inr (Or.inl ⟨by omega, c2⟩)
            · refine Or.inr (Or.inr ⟨by omega, by omega, ?_⟩)
              by_cases z : zbit v (zW (σ a2e i))
              · rw [(zb_and1 (x := v) (by omega) (by omega)).1 z]
                decide
              · exact absurd ⟨⟨by omega, by omega⟩, z⟩ c
        apply TX1_tell_12 ht hto htz ha2 ha2e <;> (try rw [e2]) <;> (try rw [et]) <;> (try rw [re]) <;> (try (intros; omega))
        intro _ _
        refine ih (i + 1) _ _ (by omega) (by omega) (by omega) hf h1 h2 (fun y y0 y1 => ?_) h4 h5 (zsel_skip h6 i0 (fun z0 z1 => ?_))
        · rw [h3 y y0 y1]
          constructor
          · rintro ⟨j, a, b⟩
            exact ⟨j, by omega, b⟩
          · rintro ⟨j, a, b⟩
            by_cases e : j = i
            · rw [e] at b
              have hzb : zbit v y := by
                by_cases z : zbit v y
                · exact z
                · exact absurd ⟨by rw [b]; exact ⟨y0, y1⟩, by rw [b]; exact z⟩ c
              exact (h3 y y0 y1).mp hzb
            · exact ⟨j, by omega, b⟩
        · have hzb : zbit v (zW (σ a2e i)) := by
            by_cases z : zbit v (zW (σ a2e i))
            · exact z
            · exact absurd ⟨⟨z0, z1⟩, z⟩ c
          exact (h3 _ z0 z1).mp hzb
  refine loop _ 0 0 _ rfl (by omega) hn.1 (zfr_uA (by simp [zsb]) zfr_0) (fun w' hne => zup_oi hne) (fun j _ => by rw [zup_of hd.1]) (fun x x0 x1 => ⟨fun z => absurd z (zb_0 x), fun ⟨j, a, _⟩ => by omega⟩) ?_ (fun k k0 k1 => ?_) ?_
  · rw [zup_same]
    have : ∀ k : Nat, k ≤ 24 → zps (fun i => zand (zushr 0 i) 1) k = 0 := by decide +kernel
    exact (this _ (by omega)).symm
  · rw [zup_same] at k1
    omega
  · rw [zup_same]
    exact zsel_0
end TL
