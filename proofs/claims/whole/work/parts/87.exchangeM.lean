/-! CALLS: exchange, the model from its start to its answer -/
section RE
variable {G : zG} {σ : zS} {Q : Int → zS → Prop}
theorem okX12_exchange (hp : 0 ≤ σ 98 1 ∧ σ 98 1 ≤ 24) (hr : zrdq σ) (hws : zwsh σ)
    (kq : ∀ (u : zS) (n : Nat) (m : Int → Int), zfr zWX u σ → zTtc (zF σ) m n (zS0 σ) → (∀ y, zS0 σ y → u 138 y = σ 138 (m y)) → (∀ y, ¬ zS0 σ y → u 138 y = σ 138 y) → Q (zps (fun v => zif2 (u 138 v ≠ σ 138 v) 1 0) (σ 98 1).toNat) u) : zO G MX12_exchange [zr 98] σ Q := by
  refine TX12_exchange ?_
  -- how many are there, and who had what
  have start : ∀ (n : Nat) (w : Int) (t : zS), (σ 98 1 - w).toNat = n → 0 ≤ w → w ≤ σ 98 1 → zfr [(176, none), (178, none)] t σ → (∀ v, 0 ≤ v → v < w → t 176 v = σ 138 v ∧ (t 178 v ≠ 0 ↔ zS0 σ v)) → zR G MX12_exchange 4 [zr 98, zi (zps (fun v => zif2 (zS0 σ v) 1 0) w.toNat), zi w, zu, zu] [] t Q := by
    intro n
    induction n with
    | zero =>
      intro w t hm w0 w1 f h
      have e : w = σ 98 1 := by omega
      have qp : t 98 1 = σ 98 1 := zfr_at f rfl
      have hX : zXi σ t := ⟨zfr_mo rfl f, fun v a b => (h v a (by omega)).1, fun v a b => ((h v a (by omega)).2).mp⟩
      have hS : zSt σ t = zS0 σ := by
        funext v
        apply propext
        exact ⟨fun z => z.1, fun z => ⟨z, ((h v z.1.1 (by have := z.1.2; omega)).2).mpr z⟩⟩
      apply TX12_exchange_4 <;> (try rw [qp]) <;> (try (intros; omega))
      intro _
      have hz : zps (fun v => zif2 (zS0 σ v) 1 0) w.toNat = zcn σ (zSt σ t) := by rw [hS, e]; rfl
      rw [hz]
      refine okM_rings hp hr hws _ t w Q rfl hX (fun u n m v1 hu hT hm ho => ?_)
      rw [hS] at hT hm ho
      have q138 : t 138 = σ 138 := zfr_row f rfl
      rw [q138] at ho
      have up : u 98 1 = σ 98 1 := zfr_at hu.1 rfl
      have cnt : ∀ (k : Nat) (i : Int), (σ 98 1 - i).toNat = k → 0 ≤ i → i ≤ σ 98 1 → zR G MX12_exchange 209 [zr 98, zi v1, zi (zps (fun v => zif2 (u 138 v ≠ σ 138 v) 1 0) i.toNat), zi i, zu] [] u Q := by
        intro k
        induction k with
        | zero =>
          intro i hk i0 i1
          have e : i = σ 98 1 := by omega
          apply TX12_exchange_209 <;> (try rw [up]) <;> (try (intros; omega))
          intro _
          rw [e]
          exact kq u n m hu.1 hT hm ho
        | succ k ihk =>
          intro i hk i0 i1
          have h6 : u 176 i = σ 138 i := hu.2.1 i i0 (by omega)
          have hb := zps_b (g := fun v => zif2 (u 138 v ≠ σ 138 v) 1 0) (B := 1) (n := i.toNat) (fun _ _ _ => zif2_b)
          have go := ihk (i + 1) (by omega) (by omega) (by omega)
          rw [zps_s i0] at go
          by_cases c : u 138 i = σ 138 i
          · rw [zif2_n (fun z => z c), Int.add_zero] at go
            apply TX12_exchange_209 <;> (try rw [up]) <;> (try rw [h6]) <;> (try (intros; omega))
            all_goals (intros; exact go)
          · rw [zif2_y c] at go
            apply TX12_exchange_209 <;> (try rw [up]) <;> (try rw [h6]) <;> (try (intros; omega))
            all_goals (intros; exact go)
      exact cnt _ 0 rfl (by omega) hp.1
    | succ n ih =>
      intro w t hm w0 w1 f h
      have qp : t 98 1 = σ 98 1 := zfr_at f rfl
      have q138 : t 138 = σ 138 := zfr_row f rfl
      have hb := zps_b (g := fun v => zif2 (zS0 σ v) 1 0) (B := 1) (n := w.toNat) (fun _ _ _ => zif2_b)
      have nxt : ∀ x : Int, (x ≠ 0 ↔ zS0 σ w) → ∀ v, 0 ≤ v → v < w + 1 → zup (zup t 176 w (t 138 w)) 178 w x 176 v = σ 138 v ∧ (zup (zup t 176 w (t 138 w)) 178 w x 178 v ≠ 0 ↔ zS0 σ v) := by
        intro x hx v v0 v1
        by_cases e : v = w
        · rw [e, zup_same, zup_of (by decide), zup_same, q138]
          exact ⟨rfl, hx⟩
        · simp (disch := first | decide | exact e) only [zup_of, zup_oi]
          exact h v v0 (by omega)
      by_cases c : t 138 w = -1
      · have hn : ¬ zS0 σ w := fun z => z.2 (by rw [← q138]; exact c)
        have go := ih (w + 1) _ (by omega) (by omega) (by omega) (zfr_uA rfl (zfr_uA rfl f)) (nxt 0 ⟨fun z => absurd rfl z, fun z => absurd z hn⟩)
        rw [zps_s w0, zif2_n hn, Int.add_zero] at go
        apply TX12_exchange_4 <;> (try rw [qp]) <;> (try (intros; omega))
        all_goals (intros; exact go)
      · have hn : zS0 σ w := ⟨by omega, by rw [← q138]; exact c⟩
        have go := ih (w + 1) _ (by omega) (by omega) (by omega) (zfr_uA rfl (zfr_uA rfl f)) (nxt 1 ⟨fun _ => hn, fun _ => by decide⟩)
        rw [zps_s w0, zif2_y hn] at go
        apply TX12_exchange_4 <;> (try rw [qp]) <;> (try (intros; omega))
        all_goals (intros; exact go)
  exact start _ 0 σ rfl (by omega) hp.1 zfr_0 (fun v a b => by omega)
theorem zF_cg {s : zS} (hp : σ 98 1 ≤ 24) (hr : zrdq σ) (h1 : s 98 1 = σ 98 1) (h2 : s 138 = σ 138) (h3 : s 136 = σ 136) (h4 : s 137 = σ 137) : zS0 s = zS0 σ ∧ zF s = zF σ := by
  have e0 : zS0 s = zS0 σ := by
    funext v
    unfold zS0
    rw [h1, h2]
  refine ⟨e0, ?_⟩
  funext S w
  have hz := zF_p (σ := s) (S := S) (w := w)
  have hz2 : zptr σ S w (zF s S w) := by
    generalize zF s S w = r at hz ⊢
    unfold zptr zthe at hz ⊢
    rw [e0, h2, h3, h4] at hz
    exact hz
  exact zptr_one hp hr hz2 zF_p
end RE
