/-! THE VALUE OF FACTS, as of a day, known on a day -/
theorem zlat_skip (ok : Int → Prop) [DecidablePred ok] (fr : Int → Int) {i : Int} (h : 0 ≤ i) (hn : ¬ (ok i ∧ (zlat ok fr i.toNat = -1 ∨ fr (zlat ok fr i.toNat) ≤ fr i))) : zlat ok fr (i + 1).toNat = zlat ok fr i.toNat := by
  rw [zlat_s ok fr h, if_neg hn]
theorem zlat_take (ok : Int → Prop) [DecidablePred ok] (fr : Int → Int) {i : Int} (h : 0 ≤ i) (hn : ok i ∧ (zlat ok fr i.toNat = -1 ∨ fr (zlat ok fr i.toNat) ≤ fr i)) : zlat ok fr (i + 1).toNat = i := by
  rw [zlat_s ok fr h, if_pos hn]
/-- in the model's words -/
abbrev zvok (σ : zS) (w s a k : Int) : Int → Prop := fun f => σ 106 f = w ∧ σ 107 f = s ∧ σ 109 f ≤ a ∧ σ 110 f ≤ k
def zval (σ : zS) (w s a k : Int) : Int :=
  if zlat (zvok σ w s a k) (σ 109) (σ 98 2).toNat = -1 then 0 else σ 108 (zlat (zvok σ w s a k) (σ 109) (σ 98 2).toNat)
/-- in the class's words -/
abbrev zvokC (σ : zS) (o a k : Int) : Int → Prop := fun f => σ 28 f = o ∧ σ 30 f ≤ a ∧ σ 31 f ≤ k
def zvalC (σ : zS) (o a k : Int) : Int :=
  if zlat (zvokC σ o a k) (σ 30) (σ 22 14).toNat = -1 then 0 else σ 29 (zlat (zvokC σ o a k) (σ 30) (σ 22 14).toNat)
section VA
variable {G : zG} {σ : zS} {Q : Int → zS → Prop}
theorem okX5_valueOf {o a k : Int} (hf : 0 ≤ σ 22 14 ∧ σ 22 14 ≤ 400) (kq : Q (zvalC σ o a k) σ) : zO G MX5_valueOf [zr 22, zi o, zi a, zi k] σ Q := by
  refine TX5_valueOf ?_
  have key := zloop (S := Int) (σ 22 14) (fun i b => zR G MX5_valueOf 6 [zr 22, zi o, zi a, zi k, zi b, zi i] [] σ Q) (fun i b => (0 ≤ i ∧ i ≤ σ 22 14) ∧ b = zlat (zvokC σ o a k) (σ 30) i.toNat) ?_ ?_ 0 (-1) ⟨by omega, rfl⟩
  · exact key
  · rintro i b h1 ⟨h2, rfl⟩ ih
    have hb := zlat_b (zvokC σ o a k) (σ 30) i.toNat
    apply TX5_valueOf_6 <;> (try (intros; omega))
    · intro _ c
      refine ih _ ⟨by omega, (zlat_skip _ _ h2.1 (fun z => ?_)).symm⟩
      have z1 := z.1
      have z2 := z.2
      omega
    · intro _ c1 c2 c3 c4
      exact ih _ ⟨by omega, (zlat_take _ _ h2.1 ⟨⟨c1, c2, c3⟩, by omega⟩).symm⟩
  · rintro i b h1 ⟨h2, rfl⟩
    have hb := zlat_b (zvokC σ o a k) (σ 30) i.toNat
    have hi : i = σ 22 14 := by omega
    unfold zvalC at kq
    rw [← hi] at kq
    apply TX5_valueOf_6 <;> (try (intros; omega))
    · intro _ c
      rw [if_neg c] at kq
      exact kq
    · intro _ c
      rw [if_pos c] at kq
      exact kq
theorem okX12_valueOf {w t a k : Int} (hf : 0 ≤ σ 98 2 ∧ σ 98 2 ≤ 400) (kq : Q (zval σ w t a k) σ) : zO G MX12_valueOf [zr 98, zi w, zi t, zi a, zi k] σ Q := by
  refine TX12_valueOf ?_
  have key := zloop (S := Int) (σ 98 2) (fun i b => zR G MX12_valueOf 6 [zr 98, zi w, zi t, zi a, zi k, zi b, zi i] [] σ Q) (fun i b => (0 ≤ i ∧ i ≤ σ 98 2) ∧ b = zlat (zvok σ w t a k) (σ 109) i.toNat) ?_ ?_ 0 (-1) ⟨by omega, rfl⟩
  · exact key
  · rintro i b h1 ⟨h2, rfl⟩ ih
    have hb := zlat_b (zvok σ w t a k) (σ 109) i.toNat
    apply TX12_valueOf_6 <;> (try (intros; omega))
    · intro _ c
      refine ih _ ⟨by omega, (zlat_skip _ _ h2.1 (fun z => ?_)).symm⟩
      have z1 := z.1
      have z2 := z.2
      omega
    · intro _ c1 c2 c3 c4 c5
      exact ih _ ⟨by omega, (zlat_take _ _ h2.1 ⟨⟨c1, c2, c3, c4⟩, by omega⟩).symm⟩
  · rintro i b h1 ⟨h2, rfl⟩
    have hb := zlat_b (zvok σ w t a k) (σ 109) i.toNat
    have hi : i = σ 98 2 := by omega
    unfold zval at kq
    rw [← hi] at kq
    apply TX12_valueOf_6 <;> (try (intros; omega))
    · intro _ c
      rw [if_neg c] at kq
      exact kq
    · intro _ c
      rw [if_pos c] at kq
      exact kq
end VA
/-- class and model mean one value, where their facts are alike -/
theorem zval_eq {σ : zS} {w t a k : Int} (ht : 0 ≤ t ∧ t < 4) (hf : σ 22 14 = σ 98 2) (h0 : 0 ≤ σ 98 2)
    (h : ∀ f, 0 ≤ f → f < σ 98 2 → σ 28 f = 4 * σ 106 f + σ 107 f ∧ (0 ≤ σ 107 f ∧ σ 107 f < 4) ∧ σ 29 f = σ 108 f ∧ σ 30 f = σ 109 f ∧ σ 31 f = σ 110 f) :
    zvalC σ (4 * w + t) a k = zval σ w t a k := by
  unfold zvalC zval
  have e : zlat (zvokC σ (4 * w + t) a k) (σ 30) (σ 22 14).toNat = zlat (zvok σ w t a k) (σ 109) (σ 98 2).toNat := by
    rw [hf]
    refine zlat_congr (fun i a b => ?_)
    have h1 := h i a (by omega)
    refine ⟨?_, h1.2.2.2.1⟩
    show (σ 28 i = 4 * w + t ∧ σ 30 i ≤ _ ∧ σ 31 i ≤ k) ↔ (σ 106 i = w ∧ σ 107 i = t ∧ σ 109 i ≤ _ ∧ σ 110 i ≤ k)
    rw [h1.1, h1.2.2.2.1, h1.2.2.2.2]
    omega
  rw [e]
  have hb := zlat_b (zvok σ w t a k) (σ 109) (σ 98 2).toNat
  by_cases hz : zlat (zvok σ w t a k) (σ 109) (σ 98 2).toNat = -1
  · rw [if_pos hz, if_pos hz]
  · rw [if_neg hz, if_neg hz]
    exact (h _ (by omega) (by omega)).2.2.1
