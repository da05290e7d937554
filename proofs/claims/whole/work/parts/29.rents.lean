/-! RENTS: prices in force, in class and model -/
theorem zdiv_nat {x : Int} {d : Nat} (h0 : 0 ≤ x) (h1 : x < 2147483648) (hd : 0 < d) (hd2 : d < 2147483648) : zdiv x (d : Int) = ((x.toNat / d : Nat) : Int) := by
  unfold zdiv
  rw [zb_nI h0, zb_nI (by omega : (0 : Int) ≤ (d : Int)), show ((d : Int)).toNat = d from by omega, pk_div (by omega) hd (by omega), nI_toInt (Nat.lt_of_le_of_lt (Nat.div_le_self _ _) (by omega))]
theorem zdiv10 {x : Int} (h0 : 0 ≤ x) (h1 : x < 2147483648) : zdiv x 10 = x / 10 := by
  have := zdiv_nat (d := 10) h0 h1 (by decide) (by decide)
  rw [show ((10 : Nat) : Int) = 10 from rfl] at this
  omega
theorem zdiv100 {x : Int} (h0 : 0 ≤ x) (h1 : x < 2147483648) : zdiv x 100 = x / 100 := by
  have := zdiv_nat (d := 100) h0 h1 (by decide) (by decide)
  rw [show ((100 : Nat) : Int) = 100 from rfl] at this
  omega
theorem zdiv365 {x : Int} (h0 : 0 ≤ x) (h1 : x < 2147483648) : zdiv x 365 = x / 365 := by
  have := zdiv_nat (d := 365) h0 h1 (by decide) (by decide)
  rw [show ((365 : Nat) : Int) = 365 from rfl] at this
  omega
theorem zmul_b {a b A B : Int} (h1 : 0 ≤ a) (h2 : a ≤ A) (h3 : 0 ≤ b) (h4 : b ≤ B) : 0 ≤ a * b ∧ a * b ≤ A * B := ⟨Int.mul_nonneg h1 h3, Int.mul_le_mul h2 h4 h3 (by omega)⟩
/-- the price in force in a week: of the latest week that has one, 0 without (model's cells) -/
def zprc (σ : zS) (u v : Int) : Prop := (v = 0 ∧ ∀ x, 0 ≤ x → x ≤ u → σ 146 x = -1) ∨ ∃ y, (0 ≤ y ∧ y ≤ u) ∧ σ 146 y ≠ -1 ∧ v = σ 146 y ∧ ∀ x, y < x → x ≤ u → σ 146 x = -1
theorem zprc_one {σ : zS} {u v v' : Int} (h : zprc σ u v) (h' : zprc σ u v') : v = v' := by
  rcases h with ⟨e, h⟩ | ⟨y, a, b, e, h⟩ <;> rcases h' with ⟨e', h'⟩ | ⟨y', a', b', e', h'⟩
  · omega
  · exact absurd (h y' a'.1 a'.2) b'
  · exact absurd (h' y a.1 a.2) b
  · by_cases h1 : y < y'
    · exact absurd (h y' h1 a'.2) b'
    · by_cases h2 : y' < y
      · exact absurd (h' y h2 a.2) b
      · rw [e, e', show y = y' from by omega]
/-- prices and leases of the model are in order -/
def zlea (σ : zS) : Prop := (∀ x, 0 ≤ x → x < 10452 → σ 146 x = -1 ∨ (0 ≤ σ 146 x ∧ σ 146 x ≤ 999)) ∧ (0 ≤ σ 98 5 ∧ σ 98 5 ≤ 8) ∧
  ∀ l, 0 ≤ l → l < σ 98 5 → (1 ≤ σ 139 l ∧ σ 139 l ≤ 9999) ∧ (0 ≤ σ 140 l ∧ σ 140 l ≤ 999) ∧ (0 ≤ σ 141 l ∧ σ 141 l ≤ 999) ∧ (0 ≤ σ 142 l ∧ σ 142 l ≤ 51)
/-- the class's prices are the model's -/
def zpriC (σ : zS) : Prop := (0 ≤ σ 68 12 ∧ σ 68 12 ≤ 200) ∧ (∀ i, 0 ≤ i → i < σ 68 12 → (0 ≤ σ 76 i ∧ σ 76 i < 10452) ∧ σ 146 (σ 76 i) = σ 77 i ∧ 0 ≤ σ 77 i) ∧
  (∀ x, 0 ≤ x → x < 10452 → σ 146 x ≠ -1 → ∃ i, (0 ≤ i ∧ i < σ 68 12) ∧ σ 76 i = x)
/-- what a lease's rent is as before: coin, and corn by its price (model's cells) -/
def zrsv (σ : zS) (l y r : Int) : Prop := ∃ v, zprc σ (52 * y + σ 142 l) v ∧ r = σ 140 l + σ 141 l * v / 10
theorem zrsv_one {σ : zS} {l y r r' : Int} (h : zrsv σ l y r) (h' : zrsv σ l y r') : r = r' := by
  obtain ⟨v, a, b⟩ := h
  obtain ⟨v', a', b'⟩ := h'
  rw [b, b', zprc_one a a']
section RT
variable {G : zG} {σ : zS} {Q : Int → zS → Prop}
theorem okX4_priceIn {u : Int} (hC : zpriC σ) (hu : 0 ≤ u ∧ u < 10452) (kq : ∀ v, zprc σ u v → Q v σ) : zO G MX4_priceIn [zr 68, zi u] σ Q := by
  obtain ⟨c0, c1, c2⟩ := hC
  refine TX4_priceIn ?_
  have loop : ∀ (n : Nat) (i b : Int), (σ 68 12 - i).toNat = n → 0 ≤ i → i ≤ σ 68 12 →
      ((b = -1 ∧ ∀ j, 0 ≤ j → j < i → u < σ 76 j) ∨ ((0 ≤ b ∧ b < i) ∧ σ 76 b ≤ u ∧ ∀ j, 0 ≤ j → j < i → σ 76 j ≤ u → σ 76 j ≤ σ 76 b)) →
      zR G MX4_priceIn 4 [zr 68, zi u, zi b, zi i] [] σ Q := by
    intro n
    induction n with
    | zero =>
      intro i b hn i0 i1 hb
      have hi : i = σ 68 12 := by omega
      apply TX4_priceIn_4 <;> (try (intros; omega))
      · intro _ h
        rcases hb with hb | ⟨b0, b1, b2⟩
        · exact absurd hb.1 h
        · have cb := c1 b b0.1 (by omega)
          refine kq _ (Or.inr ⟨σ 76 b, ⟨cb.1.1, b1⟩, by rw [cb.2.1]; omega, cb.2.1.symm, fun x x0 x1 => ?_⟩)
          by_cases hx : σ 146 x = -1
          · exact hx
          · obtain ⟨j, j0, j1⟩ := c2 x (by omega) (by omega) hx
            have := b2 j j0.1 (by omega) (by omega)
            omega
      · intro _ h
        rcases hb with ⟨_, hb⟩ | ⟨b0, b1, b2⟩
        · refine kq 0 (Or.inl ⟨rfl, fun x x0 x1 => ?_⟩)
          by_cases hx : σ 146 x = -1
          · exact hx
          · obtain ⟨j, j0, j1⟩ := c2 x (by omega) (by omega) hx
            have := hb j j0.1 (by omega)
            omega
        · omega
    | succ n ih =>
      intro i b hn i0 i1 hb
      apply TX4_priceIn_4 <;> (try (intros; omega))
      · intro _ h
        refine ih (i + 1) b (by omega) (by omega) (by omega) ?_
        rcases hb with ⟨e, hb⟩ | ⟨b0, b1, b2⟩
        · refine Or.inl ⟨e, fun j j0 j1 => ?_⟩
          by_cases e2 : j = i
          · subst e2; omega
          · exact hb j j0 (by omega)
        · refine Or.inr ⟨by omega, b1, fun j j0 j1 j2 => ?_⟩
          by_cases e2 : j = i
          · subst e2; omega
          · exact b2 j j0 (by omega) j2
      · intro _ h1 h2
        refine ih (i + 1) i (by omega) (by omega) (by omega) (Or.inr ⟨by omega, h1, fun j j0 j1 j2 => ?_⟩)
        by_cases e2 : j = i
        · subst e2; omega
        · rcases hb with ⟨e, hb⟩ | ⟨b0, b1, b2⟩
          · have := hb j j0 (by omega); omega
          · have := b2 j j0 (by omega) j2; omega
  exact loop _ 0 (-1) rfl (by omega) (by omega) (Or.inl ⟨rfl, fun j j0 j1 => by omega⟩)
theorem zprc_b {u v : Int} (hM : zlea σ) (hu : u < 10452) (h : zprc σ u v) : 0 ≤ v ∧ v ≤ 999 := by
  rcases h with ⟨e, _⟩ | ⟨y, a, b, e, _⟩
  · omega
  · have := hM.1 y a.1 (by omega)
    omega
theorem okX4_reservedIn {l y : Int} (hM : zlea σ) (hC : zpriC σ) (hl : 0 ≤ l ∧ l < σ 98 5) (hy : 0 ≤ y ∧ y ≤ 200) (e70 : σ 70 l = σ 140 l) (e71 : σ 71 l = σ 141 l) (e72 : σ 72 l = σ 142 l)
    (kq : ∀ r, zrsv σ l y r → Q r σ) : zO G MX4_reservedIn [zr 68, zi l, zi y] σ Q := by
  have m := hM.2.2 l hl.1 hl.2
  have ml := hM.2.1
  apply TX4_reservedIn <;> (try (intros; omega))
  refine okX4_priceIn hC (by omega) (fun v hv => ?_)
  have bv := zprc_b hM (by omega) hv
  have bm := zmul_b m.2.2.1.1 m.2.2.1.2 bv.1 bv.2
  rw [e70, e71]
  have ed := zdiv10 bm.1 (by omega)
  apply TX4_reservedIn_27 <;> (try rw [ed]) <;> (try (intros; omega))
  exact kq _ ⟨v, by rw [← e72]; exact hv, rfl⟩
theorem okX12_asBefore {l y : Int} (hM : zlea σ) (hl : 0 ≤ l ∧ l < σ 98 5) (hy : 0 ≤ y ∧ y ≤ 200)
    (kq : ∀ r, zrsv σ l y r → Q r σ) : zO G MX12_asBefore [zr 98, zi l, zi y] σ Q := by
  have m := hM.2.2 l hl.1 hl.2
  have ml := hM.2.1
  apply TX12_asBefore <;> (try (intros; omega))
  have loop : ∀ (n : Nat) (u : Int), (u + 1).toNat = n → -1 ≤ u → u ≤ 52 * y + σ 142 l → (∀ x, u < x → x ≤ 52 * y + σ 142 l → σ 146 x = -1) → zR G MX12_asBefore 12 [zr 98, zi l, zi y, zi u] [] σ Q := by
    intro n
    induction n with
    | zero =>
      intro u hn u0 u1 hx
      apply TX12_asBefore_12 <;> (try (intros; omega))
      intro _ _
      refine kq _ ⟨0, Or.inl ⟨rfl, fun x x0 x1 => hx x (by omega) x1⟩, ?_⟩
      rw [Int.mul_zero]
      omega
    | succ n ih =>
      intro u hn u0 u1 hx
      by_cases hp : σ 146 u = -1
      · apply TX12_asBefore_12 <;> (try (intros; omega))
        intro _ _
        refine ih (u + -1) (by omega) (by omega) (by omega) (fun x x0 x1 => ?_)
        by_cases e : x = u
        · rw [e]; exact hp
        · exact hx x (by omega) x1
      · have bp := hM.1 u (by omega) (by omega)
        have bm := zmul_b m.2.2.1.1 m.2.2.1.2 (show 0 ≤ σ 146 u by omega) (show σ 146 u ≤ 999 by omega)
        have ed := zdiv10 bm.1 (by omega)
        apply TX12_asBefore_12 <;> (try rw [ed]) <;> (try (intros; omega))
        intro _ _
        exact kq _ ⟨σ 146 u, Or.inr ⟨u, by omega, hp, rfl, hx⟩, rfl⟩
  exact loop _ _ rfl (by omega) (by omega) (fun x x0 x1 => by omega)
end RT
