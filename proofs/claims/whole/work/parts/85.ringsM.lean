/-! CALLS: exchange, the model's rounds -/
section RM
variable {G : zG} {σ : zS} {Q : Int → zS → Prop}
abbrev zWX : zPl := [(138, none), (176, none), (177, none), (178, none)]
/-- what stands in every round -/
def zXi (σ t : zS) : Prop := zfr zWX t σ ∧ (∀ v, 0 ≤ v → v < σ 98 1 → t 176 v = σ 138 v) ∧ (∀ v, 0 ≤ v → v < σ 98 1 → t 178 v ≠ 0 → zS0 σ v)
theorem zhad_the {t : zS} (h : zXi σ t) (x : Int) : zhad t x ↔ zthe σ (zSt σ t) x := by
  have qp : t 98 1 = σ 98 1 := zfr_at h.1 rfl
  unfold zhad zthe
  rw [qp]
  constructor
  · rintro ⟨v, a, b, c⟩
    have s := h.2.2 v a.1 a.2 b
    exact ⟨v, ⟨⟨s, b⟩, s⟩, by rw [← h.2.1 v a.1 a.2]; exact c⟩
  · rintro ⟨v, a, b⟩
    exact ⟨v, a.2.1, a.1.2, by rw [h.2.1 v a.2.1.1 a.2.1.2]; exact b⟩
theorem okM_points {t : zS} {v1 : Int} (hp : 0 ≤ σ 98 1 ∧ σ 98 1 ≤ 24) (hr : zrdq σ) (hws : zwsh σ) (h : zXi σ t)
    (kq : ∀ u, zfr [(177, none)] u t → (∀ w, zSt σ t w → u 177 w = zF σ (zSt σ t) w) → zR G MX12_exchange 105 [zr 98, zi v1, zi 0, zu, zu] [] u Q) : zR G MX12_exchange 69 [zr 98, zi v1, zi 0, zu, zu] [] t Q := by
  have loop : ∀ (n : Nat) (w : Int) (u : zS), (σ 98 1 - w).toNat = n → 0 ≤ w → w ≤ σ 98 1 → zfr [(177, none)] u t → (∀ x, x < w → zSt σ t x → u 177 x = zF σ (zSt σ t) x) → zR G MX12_exchange 69 [zr 98, zi v1, zi w, zu, zu] [] u Q := by
    intro n
    induction n with
    | zero =>
      intro w u hm w0 w1 f hx
      have qp : u 98 1 = σ 98 1 := by rw [zfr_at f rfl, zfr_at h.1 rfl]
      apply TX12_exchange_69 <;> (try rw [qp]) <;> (try (intros; omega))
      intro _
      exact kq u f (fun x hs => hx x (by have := hs.1.1; omega) hs)
    | succ n ih =>
      intro w u hm w0 w1 f hx
      have qp : u 98 1 = σ 98 1 := by rw [zfr_at f rfl, zfr_at h.1 rfl]
      have q8 : u 178 = t 178 := zfr_row f rfl
      have hu : zXi σ u := ⟨zfr_tr h.1 (zfr_mo rfl f), by rw [zfr_row (q := 176) f rfl]; exact h.2.1, by rw [q8]; exact h.2.2⟩
      have hSu : zSt σ u = zSt σ t := by funext v; unfold zSt; rw [q8]
      have q137 : u 137 = σ 137 := zfr_row hu.1 rfl
      have q136 : u 136 = σ 136 := zfr_row hu.1 rfl
      have hwc := (hws w w0 (by omega)).2.1
      by_cases c : u 178 w = 0
      · apply TX12_exchange_69 <;> (try rw [qp]) <;> (try (intros; omega))
        intro _ _
        refine ih (w + 1) u (by omega) (by omega) (by omega) f (fun x hxw hs => ?_)
        by_cases e : x = w
        · rw [e] at hs
          exact absurd (by rw [← q8]; exact c) hs.2
        · exact hx x (by omega) hs
      · apply TX12_exchange_69 <;> (try rw [qp]) <;> (try (intros; omega))
        intro _ _
        refine okX12_pointed (by rw [qp]; exact hp) (by omega) (by rw [q137]; exact hwc) (fun r hq => ?_)
        have hpt : zptr σ (zSt σ t) w r := by
          rw [q137, q136, qp] at hq
          rcases hq with ⟨e, hn⟩ | ⟨k, a, b, d⟩
          · exact Or.inl ⟨e, fun k k0 k1 z => hn k k0 k1 ((zhad_the hu _).mpr (by rw [hSu]; exact z))⟩
          · have sr := hu.2.2 r b.1.1 b.1.2 b.2.1
            refine Or.inr ⟨k, a, ⟨⟨⟨sr, by rw [← q8]; exact b.2.1⟩, sr⟩, by rw [← hu.2.1 r b.1.1 b.1.2]; exact b.2.2⟩, fun j j0 j1 z => d j j0 j1 ((zhad_the hu _).mpr (by rw [hSu]; exact z))⟩
        have er : r = zF σ (zSt σ t) w := zptr_one hp.2 hr hpt zF_p
        clear hq hpt
        apply TX12_exchange_96 <;> (try (intros; omega))
        refine ih (w + 1) _ (by omega) (by omega) (by omega) (zfr_uA rfl f) (fun x hxw hs => ?_)
        by_cases e : x = w
        · rw [e, zup_same]; exact er
        · rw [zup_oi e]; exact hx x (by omega) hs
  exact loop _ 0 t rfl (by omega) hp.1 zfr_0 (fun x hx hs => by have := hs.1.1; omega)
/-- the first who is there -/
theorem okM_first {t : zS} {v1 : Int} (hp : 0 ≤ σ 98 1 ∧ σ 98 1 ≤ 24) (h : zXi σ t) (hex : ∃ w, zSt σ t w)
    (kq : ∀ w, zSt σ t w → zR G MX12_exchange 122 [zr 98, zi v1, zi w, zi 0, zu] [] t Q) : zR G MX12_exchange 105 [zr 98, zi v1, zi 0, zu, zu] [] t Q := by
  obtain ⟨w0, hw⟩ := hex
  have hw0 := hw.1.1
  have loop : ∀ (n : Nat) (i : Int), (w0 - i).toNat = n → 0 ≤ i → i ≤ w0 → zR G MX12_exchange 105 [zr 98, zi v1, zi i, zu, zu] [] t Q := by
    intro n
    induction n with
    | zero =>
      intro i hm i0 i1
      have e : i = w0 := by omega
      subst e
      have hn := hw.2
      apply TX12_exchange_105 <;> (try (intros; omega))
      intro _
      exact kq i hw
    | succ n ih =>
      intro i hm i0 i1
      by_cases c : t 178 i = 0
      · have go := ih (i + 1) (by omega) (by omega) (by omega)
        apply TX12_exchange_105 <;> (try (intros; omega))
        all_goals (intros; exact go)
      · apply TX12_exchange_105 <;> (try (intros; omega))
        intro _
        exact kq i ⟨h.2.2 i i0 (by omega) c, c⟩
  exact loop _ 0 rfl (by omega) hw0.1
theorem zit_in {f : Int → Int} {S : Int → Prop} (hf : ∀ y, S y → S (f y)) : ∀ (k : Nat) (y : Int), S y → S (zit f k y) := by
  intro k
  induction k with
  | zero => exact fun y hy => hy
  | succ k ih => exact fun y hy => ih _ (hf y hy)
theorem zit_s {f : Int → Int} (k : Nat) (x : Int) : zit f (k + 1) x = f (zit f k x) := by
  rw [zit_add]
  rfl
/-- as many steps as there are people -/
theorem okM_walk {t : zS} {f : Int → Int} {S : Int → Prop} {v1 x : Int} (hp : 0 ≤ σ 98 1 ∧ σ 98 1 ≤ 24) (qp : t 98 1 = σ 98 1) (hS : ∀ y, S y → 0 ≤ y ∧ y < σ 98 1) (hf : ∀ y, S y → S (f y)) (ht : ∀ y, S y → t 177 y = f y) (hx : S x)
    (kq : ∀ w, S w → zper f w → zR G MX12_exchange 148 [zr 98, zi v1, zi w, zi w, zi 1] [] t Q) : zR G MX12_exchange 122 [zr 98, zi v1, zi x, zi 0, zu] [] t Q := by
  have loop : ∀ (n : Nat) (k : Nat), (σ 98 1).toNat - k = n → k ≤ (σ 98 1).toNat → zR G MX12_exchange 122 [zr 98, zi v1, zi (zit f k x), zi k, zu] [] t Q := by
    intro n
    induction n with
    | zero =>
      intro k hm hk
      have e : k = (σ 98 1).toNat := by omega
      apply TX12_exchange_122 <;> (try rw [qp]) <;> (try (intros; omega))
      intro _
      refine kq _ (zit_in hf k x hx) ?_
      rw [e]
      exact zper_N (N := (σ 98 1).toNat) (by omega) (S := S) (fun y hy => by have := hS y hy; omega) hf hx
    | succ n ih =>
      intro k hm hk
      have hz := zit_in hf k x hx
      have hb := hS _ hz
      have go := ih (k + 1) (by omega) (by omega)
      rw [zit_s, ← ht _ hz, show ((k + 1 : Nat) : Int) = (k : Int) + 1 from by omega] at go
      apply TX12_exchange_122 <;> (try rw [qp]) <;> (try (intros; omega))
      all_goals (intros; exact go)
  exact loop _ 0 rfl (by omega)
end RM
