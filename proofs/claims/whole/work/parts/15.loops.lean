/-! CONTRACTS BY HAND. Loops; fills; the latest of some facts -/
theorem zloop {S : Type} (hi : Int) (R I : Int → S → Prop) (step : ∀ i s, i < hi → I i s → (∀ s', I (i + 1) s' → R (i + 1) s') → R i s) (done : ∀ i s, hi ≤ i → I i s → R i s) : ∀ i s, I i s → R i s := by
  have key : ∀ (n : Nat) (i : Int) (s : S), (hi - i).toNat = n → I i s → R i s := by
    intro n
    induction n with
    | zero => intro i s h hi; exact done i s (by omega) hi
    | succ n ih => intro i s h hI; exact step i s (by omega) hI (fun s' h' => ih (i + 1) s' (by omega) h')
  intro i s h
  exact key _ i s rfl h
theorem zwhile {S : Type} (μ : S → Nat) (R I : S → Prop) (step : ∀ s, I s → (∀ s', I s' → μ s' < μ s → R s') → R s) : ∀ s, I s → R s := by
  have key : ∀ (n : Nat) (s : S), μ s = n → I s → R s := by
    intro n
    induction n using Nat.strongRecOn with
    | ind n ih => intro s h hI; exact step s hI (fun s' h' hm => ih (μ s') (by omega) s' rfl h')
  intro s h
  exact key _ s rfl h
/-- the first n places of a row are v -/
def zfl (σ : zS) (q : Nat) (n v : Int) : zS := fun a b => if a = q ∧ 0 ≤ b ∧ b < n then v else σ a b
theorem zfl_0 {σ : zS} {q : Nat} {v : Int} : zfl σ q 0 v = σ := by
  funext a b
  unfold zfl
  rw [if_neg]
  omega
theorem zfl_s {σ : zS} {q : Nat} {i v : Int} (h : 0 ≤ i) : zup (zfl σ q i v) q i v = zfl σ q (i + 1) v := by
  funext a b
  unfold zup zfl
  by_cases ha : a = q
  · by_cases h1 : b = i
    · rw [if_pos ⟨ha, h1⟩, if_pos ⟨ha, by omega, by omega⟩]
    · rw [if_neg (fun z => h1 z.2)]
      by_cases h2 : 0 ≤ b ∧ b < i
      · rw [if_pos ⟨ha, h2.1, h2.2⟩, if_pos ⟨ha, h2.1, by omega⟩]
      · rw [if_neg (fun z => h2 z.2), if_neg (fun z => h2 ⟨z.2.1, by omega⟩)]
  · rw [if_neg (fun z => ha z.1), if_neg (fun z => ha z.1), if_neg (fun z => ha z.1)]
section Fill
variable {G : zG} {σ : zS} {Q : Int → zS → Prop}
theorem okFillI {q n : Nat} {v : Int} (hq : zsh q = (0, n, [])) (hn : n < 2147483648) (kq : Q 0 (zfl σ q n v)) : zO G MJ7_fill_53178 [zr q, zi v] σ Q := by
  refine TJ7_fill_53178 hq hn ?_
  have key := zloop (S := zS) (n : Int) (fun i s => zR G MJ7_fill_53178 5 [zr q, zi v, zi i, zi (n : Int)] [] s Q) (fun i s => 0 ≤ i ∧ i ≤ n ∧ s = zfl σ q i v) ?_ ?_ 0 σ ⟨by omega, by omega, zfl_0.symm⟩
  · exact key
  · intro i s h1 h2 ih
    obtain ⟨h2, h3, rfl⟩ := h2
    apply TJ7_fill_53178_5 hq <;> (try (intros; omega))
    intro _
    refine ih _ ⟨by omega, by omega, zfl_s h2⟩
  · intro i s h1 h2
    obtain ⟨h2, h3, rfl⟩ := h2
    have : i = n := by omega
    subst this
    exact TJ7_fill_53178_5 hq (fun _ => kq) (by intros; omega) (by intros; omega) (by intros; omega)
theorem okFillJ {q n : Nat} {v : Int} (hq : zsh q = (2, n, [])) (hn : n < 2147483648) (kq : Q 0 (zfl σ q n v)) : zO G MJ7_fill_d0a16 [zr q, zl v] σ Q := by
  refine TJ7_fill_d0a16 hq hn ?_
  have key := zloop (S := zS) (n : Int) (fun i s => zR G MJ7_fill_d0a16 6 [zr q, zl v, zu, zi i, zi (n : Int)] [] s Q) (fun i s => 0 ≤ i ∧ i ≤ n ∧ s = zfl σ q i v) ?_ ?_ 0 σ ⟨by omega, by omega, zfl_0.symm⟩
  · exact key
  · intro i s h1 h2 ih
    obtain ⟨h2, h3, rfl⟩ := h2
    apply TJ7_fill_d0a16_6 hq <;> (try (intros; omega))
    intro _
    refine ih _ ⟨by omega, by omega, zfl_s h2⟩
  · intro i s h1 h2
    obtain ⟨h2, h3, rfl⟩ := h2
    have : i = n := by omega
    subst this
    exact TJ7_fill_d0a16_6 hq (fun _ => kq) (by intros; omega) (by intros; omega) (by intros; omega)
end Fill
/-- of the first n the one that is ok with the greatest fr, of like ones the last; -1: none -/
def zlat (ok : Int → Prop) [DecidablePred ok] (fr : Int → Int) : Nat → Int
  | 0 => -1
  | n + 1 => if ok (n : Int) ∧ (zlat ok fr n = -1 ∨ fr (zlat ok fr n) ≤ fr (n : Int)) then (n : Int) else zlat ok fr n
theorem zlat_b (ok : Int → Prop) [DecidablePred ok] (fr : Int → Int) (n : Nat) : -1 ≤ zlat ok fr n ∧ zlat ok fr n < n := by
  induction n with
  | zero => unfold zlat; omega
  | succ n ih =>
    unfold zlat
    split <;> omega
theorem zlat_s (ok : Int → Prop) [DecidablePred ok] (fr : Int → Int) {i : Int} (h : 0 ≤ i) : zlat ok fr (i + 1).toNat = if ok i ∧ (zlat ok fr i.toNat = -1 ∨ fr (zlat ok fr i.toNat) ≤ fr i) then i else zlat ok fr i.toNat := by
  have e : (i + 1).toNat = i.toNat + 1 := by omega
  have e2 : ((i.toNat : Nat) : Int) = i := by omega
  rw [e]
  show (if ok ((i.toNat : Nat) : Int) ∧ _ then _ else _) = _
  rw [e2]
theorem zlat_congr {ok ok' : Int → Prop} [DecidablePred ok] [DecidablePred ok'] {fr fr' : Int → Int} : ∀ {n : Nat}, (∀ i : Int, 0 ≤ i → i < n → (ok i ↔ ok' i) ∧ fr i = fr' i) → zlat ok fr n = zlat ok' fr' n := by
  intro n
  induction n with
  | zero => intro _; rfl
  | succ n ih =>
    intro h
    have h1 := ih (fun i h0 h1 => h i h0 (by omega))
    have h2 := h n (by omega) (by omega)
    have hb := zlat_b ok' fr' n
    unfold zlat
    rw [h1, h2.2]
    by_cases hz : zlat ok' fr' n = -1
    · simp [hz, h2.1]
    · have h3 := (h (zlat ok' fr' n) (by omega) (by omega)).2
      rw [h3]
      simp only [h2.1]
