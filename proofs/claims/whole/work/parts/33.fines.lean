/-! FINES: the table, in class and model -/
theorem zdiv_t {x y : Int} (hx : zIn x) (hy : 1 < y ∧ y < 2147483648) : zdiv x y = x.tdiv y := by
  unfold zdiv
  rw [Int32.toInt_div, zI_toInt hx, zI_toInt (by unfold zIn; omega)]
  unfold zIn at hx
  have h1 := Int.tdiv_le_self (a := x.natAbs) y (by omega)
  by_cases h0 : 0 ≤ x
  · have h2 : x.tdiv y ≤ x := Int.tdiv_le_self y h0
    have h3 : 0 ≤ x.tdiv y := Int.tdiv_nonneg h0 (by omega)
    simp only [Int.bmod]
    split <;> omega
  · have e : x = -(-x) := by omega
    rw [e, Int.neg_tdiv]
    have h2 : (-x).tdiv y ≤ -x := Int.tdiv_le_self y (by omega)
    have h3 : 0 ≤ (-x).tdiv y := Int.tdiv_nonneg (by omega) (by omega)
    simp only [Int.bmod]
    split <;> omega
/-- the table of fines (model's cells) -/
def ztab (σ : zS) (n : Int) : Int := if σ 98 63 = 0 then 0 else if n < σ 98 63 then σ 147 n else σ 147 (σ 98 63 - 1)
def ztbM (σ : zS) : Prop := (0 ≤ σ 98 63 ∧ σ 98 63 ≤ 80) ∧ ∀ i, 0 ≤ i → i < σ 98 63 → 0 ≤ σ 147 i ∧ σ 147 i ≤ 10000
def ztbC (σ : zS) : Prop := σ 68 13 = σ 98 63 ∧ ∀ i, 0 ≤ i → i < σ 98 63 → σ 78 i = σ 147 i
theorem ztab_b {σ : zS} (h : ztbM σ) {n : Int} (n0 : 0 ≤ n) : 0 ≤ ztab σ n ∧ ztab σ n ≤ 10000 := by
  unfold ztab
  have h0 := h.1
  by_cases h1 : σ 98 63 = 0
  · rw [if_pos h1]; omega
  · rw [if_neg h1]
    by_cases h2 : n < σ 98 63
    · rw [if_pos h2]; exact h.2 n n0 h2
    · rw [if_neg h2]; exact h.2 _ (by omega) (by omega)
/-- the fine of a lease (model's cells) -/
def zfin (σ : zS) (l left : Int) : Int := max 0 (zdiv (σ 139 l * (ztab σ (σ 143 l) - ztab σ left)) 100)
theorem zfin_m {a b c : Int} (ha : 1 ≤ a ∧ a ≤ 9999) (hb : 0 ≤ b ∧ b ≤ 10000) (hc : 0 ≤ c ∧ c ≤ 10000) : -99990000 ≤ a * (b - c) ∧ a * (b - c) ≤ 99990000 := by
  have h1 := zmul_b (a := a) (b := b) (by omega) ha.2 hb.1 hb.2
  have h2 := zmul_b (a := a) (b := c) (by omega) ha.2 hc.1 hc.2
  rw [Int.mul_sub]
  omega
theorem zfin_b {σ : zS} (hT : ztbM σ) {l left : Int} (hv : 1 ≤ σ 139 l ∧ σ 139 l ≤ 9999) (hf : 0 ≤ σ 143 l) (hl : 0 ≤ left) : 0 ≤ zfin σ l left ∧ zfin σ l left ≤ 999900 := by
  unfold zfin
  have h := zfin_m hv (ztab_b hT hf) (ztab_b hT hl)
  generalize σ 139 l * (ztab σ (σ 143 l) - ztab σ left) = x at h
  have hx : zIn x := by unfold zIn; omega
  rw [zdiv_t hx (by decide)]
  by_cases h0 : 0 ≤ x
  · rw [Int.tdiv_eq_ediv_of_nonneg h0]
    omega
  · have e : x = -(-x) := by omega
    rw [e, Int.neg_tdiv]
    have h3 : 0 ≤ (-x).tdiv 100 := Int.tdiv_nonneg (by omega) (by omega)
    omega
section FI
variable {G : zG} {σ : zS} {Q : Int → zS → Prop}
theorem okX4_isPriced {u : Int} (hC : zpriC σ) (hu : 0 ≤ u ∧ u < 10452) (kq : ∀ r, ((r = 1 ∧ σ 146 u ≠ -1) ∨ (r = 0 ∧ σ 146 u = -1)) → Q r σ) : zO G MX4_isPriced [zr 68, zi u] σ Q := by
  obtain ⟨c0, c1, c2⟩ := hC
  refine TX4_isPriced ?_
  have loop : ∀ (n : Nat) (i : Int), (σ 68 12 - i).toNat = n → 0 ≤ i → i ≤ σ 68 12 → (∀ j, 0 ≤ j → j < i → σ 76 j ≠ u) → zR G MX4_isPriced 2 [zr 68, zi u, zi i] [] σ Q := by
    intro n
    induction n with
    | zero =>
      intro i hn i0 i1 hj
      apply TX4_isPriced_2 <;> (try (intros; omega))
      intro _
      refine kq 0 (Or.inr ⟨rfl, ?_⟩)
      by_cases hx : σ 146 u = -1
      · exact hx
      · obtain ⟨j, j0, j1⟩ := c2 u hu.1 hu.2 hx
        exact absurd j1 (hj j j0.1 (by omega))
    | succ n ih =>
      intro i hn i0 i1 hj
      apply TX4_isPriced_2 <;> (try (intros; omega))
      · intro _ h
        refine ih (i + 1) (by omega) (by omega) (by omega) (fun j j0 j1 => ?_)
        by_cases e : j = i
        · rw [e]; exact h
        · exact hj j j0 (by omega)
      · intro _ h
        have := c1 i i0 (by omega)
        rw [h] at this
        exact kq 1 (Or.inl ⟨rfl, by omega⟩)
  exact loop _ 0 rfl (by omega) (by omega) (fun j j0 j1 => by omega)
theorem okX4_rate {n : Int} (hM : ztbM σ) (hC : ztbC σ) (hn : 0 ≤ n) (kq : Q (ztab σ n) σ) : zO G MX4_rate [zr 68, zi n] σ Q := by
  obtain ⟨m0, m1⟩ := hM
  obtain ⟨c0, c1⟩ := hC
  unfold ztab at kq
  apply TX4_rate <;> (try rw [c0]) <;> (try (intros; omega))
  · intro h
    rw [if_neg h] at kq
    by_cases h2 : n < σ 98 63
    · rw [if_pos h2] at kq
      rw [show max 0 (min n (σ 98 63 - 1)) = n from by omega, c1 n hn h2]
      exact kq
    · rw [if_neg h2] at kq
      rw [show max 0 (min n (σ 98 63 - 1)) = σ 98 63 - 1 from by omega, c1 _ (by omega) (by omega)]
      exact kq
  · intro h
    rw [if_pos h] at kq
    exact kq
theorem okX12_tableAt {n : Int} (hM : ztbM σ) (hn : 0 ≤ n) (kq : Q (ztab σ n) σ) : zO G MX12_tableAt [zr 98, zi n] σ Q := by
  obtain ⟨m0, m1⟩ := hM
  unfold ztab at kq
  apply TX12_tableAt <;> (try (intros; omega))
  · intro h h2
    rw [if_neg h, if_neg (by omega)] at kq
    exact kq
  · intro h h2
    rw [if_neg h, if_pos h2] at kq
    exact kq
  · intro h
    rw [if_pos h] at kq
    exact kq
theorem okX12_fine {l left : Int} (hT : ztbM σ) (hl : 0 ≤ l ∧ l < 8) (hv : 1 ≤ σ 139 l ∧ σ 139 l ≤ 9999) (hf : 0 ≤ σ 143 l) (hlf : 0 ≤ left) (kq : Q (zfin σ l left) σ) : zO G MX12_fine [zr 98, zi l, zi left] σ Q := by
  have b := zfin_m hv (ztab_b hT hf) (ztab_b hT hlf)
  have b1 := ztab_b hT hf
  have b2 := ztab_b hT hlf
  refine TX12_fine hl (okX12_tableAt hT hf (TX12_fine_16 (okX12_tableAt hT hlf ?_)))
  unfold zfin at kq
  apply TX12_fine_21 <;> (try (intros; omega))
  · intro h
    rw [Int.max_eq_right h] at kq
    exact kq
  · intro h
    rw [Int.max_eq_left (by omega)] at kq
    exact kq
theorem okX4_fineFor {l left : Int} (hT : ztbM σ) (hC : ztbC σ) (hl : 0 ≤ l ∧ l < 8) (hv : 1 ≤ σ 139 l ∧ σ 139 l ≤ 9999) (hf : 0 ≤ σ 143 l) (hlf : 0 ≤ left) (e1 : σ 69 l = σ 139 l) (e2 : σ 73 l = σ 143 l) (kq : Q (zfin σ l left) σ) : zO G MX4_fineFor [zr 68, zi l, zi left] σ Q := by
  have b := zfin_m hv (ztab_b hT hf) (ztab_b hT hlf)
  have b1 := ztab_b hT hf
  have b2 := ztab_b hT hlf
  refine TX4_fineFor hl ?_
  rw [e1, e2]
  refine okX4_rate hT hC hf (TX4_fineFor_17 (okX4_rate hT hC hlf ?_))
  unfold zfin at kq
  refine TX4_fineFor_22 (by omega) (by omega) ?_
  exact kq
end FI
