/-! CALLS: elections, rounds of the model -/
theorem zrnd_w {D : zED} {p X0 n w w' j : Int} {Xs : Int → Int} (h : zrnd D p X0 Xs n w) (j0 : 0 ≤ j) (j1 : j < n) (hw : zRw D (Xs j) w') : w' = w ∧ j = n - 1 := by
  by_cases e : j = n - 1
  · rw [e] at hw
    exact ⟨zRw_one hw h.2.2, e⟩
  · obtain ⟨l, hl, _⟩ := h.2.1.2.1 j j0 (by omega)
    exact (zRwl hw hl).elim
theorem zrnd_l {D : zED} {p X0 n w l j : Int} {Xs : Int → Int} (h : zrnd D p X0 Xs n w) (j0 : 0 ≤ j) (j1 : j < n) (hl : zRl D (Xs j) l) : j + 1 < n ∧ Xs (j + 1) = zdrop (Xs j) l := by
  by_cases e : j = n - 1
  · rw [e] at hl
    exact (zRwl h.2.2 hl).elim
  · obtain ⟨l', hl', hx⟩ := h.2.1.2.1 j j0 (by omega)
    rw [zlst_one hl.2.2 hl'.2.2]
    exact ⟨by omega, hx⟩
theorem zps_0 {g : Int → Int} {k : Nat} : ∀ {n : Nat}, k ≤ n → (∀ i : Int, (k : Int) ≤ i → i < n → g i = 0) → zps g n = zps g k := by
  intro n
  induction n with
  | zero => intro h _; rw [show k = 0 from by omega]
  | succ n ih =>
    intro h hg
    by_cases e : k = n + 1
    · rw [e]
    · show zps g n + g n = _
      rw [ih (by omega) (fun i a b => hg i a (by omega)), hg n (by omega) (by omega)]
      omega
/-- by slots, and by persons -/
theorem zre_g {ow : Int → Int} {f : Int → Int} {n : Int} (hr : ∀ e, 0 ≤ e → e < n → 0 ≤ ow e ∧ ow e < 24) (hj : ∀ e e', 0 ≤ e → e < e' → e' < n → ow e ≠ ow e') : ∀ k : Nat, (k : Int) ≤ n → zps (fun v => zif2 (∃ e, (0 ≤ e ∧ e < (k : Int)) ∧ ow e = v) (f v) 0) 24 = zps (fun e => f (ow e)) k := by
  intro k
  induction k with
  | zero =>
    intro _
    show _ = 0
    have : ∀ m : Nat, zps (fun v => zif2 (∃ e, (0 ≤ e ∧ e < ((0 : Nat) : Int)) ∧ ow e = v) (f v) 0) m = 0 := by
      intro m
      induction m with
      | zero => rfl
      | succ m ih =>
        show zps _ m + zif2 _ _ _ = 0
        rw [ih, zif2_n (fun ⟨e, a, _⟩ => by omega)]
        rfl
    exact this 24
  | succ k ih =>
    intro hk
    have h1 := ih (by omega)
    show _ = zps (fun e => f (ow e)) k + f (ow k)
    rw [← h1]
    have hw := hr k (by omega) (by omega)
    rw [zps_1 (g := fun v => zif2 (∃ e, (0 ≤ e ∧ e < (k : Int)) ∧ ow e = v) (f v) 0) (g' := fun v => zif2 (∃ e, (0 ≤ e ∧ e < ((k + 1 : Nat) : Int)) ∧ ow e = v) (f v) 0) (w := ow k) (by omega) (fun v hv => ?_)]
    · show _ + (zif2 _ (f (ow k)) 0 - zif2 _ (f (ow k)) 0) = _
      rw [zif2_y ⟨k, by omega, rfl⟩, zif2_n]
      · omega
      · rintro ⟨e, a, b⟩
        exact hj e k a.1 a.2 (by omega) b
    · show zif2 _ (f v) 0 = zif2 _ (f v) 0
      by_cases d : ∃ e, (0 ≤ e ∧ e < (k : Int)) ∧ ow e = v
      · obtain ⟨e, a, b⟩ := d
        rw [zif2_y (p := ∃ e, (0 ≤ e ∧ e < ((k + 1 : Nat) : Int)) ∧ ow e = v) ⟨e, by omega, b⟩, zif2_y (p := ∃ e, (0 ≤ e ∧ e < (k : Int)) ∧ ow e = v) ⟨e, a, b⟩]
      · rw [zif2_n d, zif2_n]
        rintro ⟨e, a, b⟩
        by_cases x : e = k
        · rw [x] at b; exact hv b.symm
        · exact d ⟨e, by omega, b⟩
section E4
variable {G : zG} {σ : zS} {Q : Int → zS → Prop} {D : zED}
theorem okX12_choice {e X : Int} (hp : σ 98 1 ≤ 24) (hX : zset (σ 98 1) X) (he : 0 ≤ e ∧ e < 13) (hn : 0 ≤ σ 169 e ∧ σ 169 e ≤ 80) (kq : ∀ r, zfi (fun i => σ 168 (80 * e + i)) (σ 169 e) (zmem X) r → Q r σ) : zO G MX12_choice [zr 98, zi e, zi X] σ Q := by
  refine TX12_choice ?_
  have loop : ∀ (n : Nat) (i : Int), (80 - i).toNat = n → 0 ≤ i → i ≤ 80 → (∀ j, 0 ≤ j → j < i → j < σ 169 e → ¬ zmem X (σ 168 (80 * e + j))) → zR G MX12_choice 2 [zr 98, zi e, zi X, zi i, zu] [] σ Q := by
    intro n
    induction n with
    | zero =>
      intro i hm i0 i1 h
      apply TX12_choice_2 <;> (try (intros; omega))
      intro _
      exact kq (-1) (Or.inl ⟨rfl, fun j a b => h j a (by omega) b⟩)
    | succ n ih =>
      intro i hm i0 i1 h
      by_cases c : i < σ 169 e
      · apply TX12_choice_2 <;> (try (intros; omega))
        · intro _ hr h0
          have hb : zbit X (σ 168 (80 * e + i)) := by
            by_cases z : zbit X (σ 168 (80 * e + i))
            · exact z
            · have := (zb_shr1 (x := X) hr.1 (by omega)).2 z
              omega
          exact kq _ (Or.inr ⟨i, ⟨i0, c⟩, (show zmem X (σ 168 (80 * e + i)) from ⟨⟨hr.1, by omega⟩, hb⟩), rfl, fun j a b => h j a b (by omega)⟩)
        · intro _ h0
          refine ih (i + 1) (by omega) (by omega) (by omega) (fun j a b d => ?_)
          by_cases x : j = i
          · rw [x]
            intro z
            have z1 : 0 ≤ σ 168 (80 * e + i) ∧ σ 168 (80 * e + i) < 24 := z.1
            have z2 := z.2
            by_cases y : σ 168 (80 * e + i) < σ 98 1
            · have z3 := (zb_shr1 (x := X) z1.1 (by omega)).1 z2
              omega
            · exact hX.2 _ (by omega) (by omega) z2
          · exact h j a (by omega) d
      · apply TX12_choice_2 <;> (try (intros; omega))
        intro _
        exact kq (-1) (Or.inl ⟨rfl, fun j a b => h j a (by omega) b⟩)
  exact loop _ 0 rfl (by omega) (by omega) (fun j a b => by omega)
theorem okX12_slot {e v X : Int} (hD : zhD D σ) (hp : σ 98 1 ≤ 24) (hX : zset (σ 98 1) X) (he : 0 ≤ e ∧ e < 13) (hc : zcs1 σ v e) (kq : Q (zcv D v X) σ) : zO G MX12_choice [zr 98, zi e, zi X] σ Q := by
  obtain ⟨h1, h2, h3, h4, h5⟩ := hc
  obtain ⟨_, _, d3, d4, _, _⟩ := hD
  refine okX12_choice hp hX he h3 (fun r hr => ?_)
  have := (h5 (zmem X) (fun x hx => hx.1) r).mpr hr
  rw [d3, d4] at this
  rw [zfi_one (show zfi (zrow D v) (zDz D v) (zmem X) r from this) zcv_fi]
  exact kq
set_option maxHeartbeats 2000000 in
theorem okX12_elects {p X0 v2 n w : Int} {Xs : Int → Int} (hD : zhD D σ) (hc : zcst σ) (hp : σ 98 1 = p) (p0 : 0 ≤ p ∧ p ≤ 24) (hbn : ∀ v, 0 ≤ v → v < p → σ 99 v = zDb D v) (hrn : zrnd D p X0 Xs n w)
    (kq : ∀ s : zS, zfr [(172, none), (171, none), (170, none), (98, some 92)] s σ → (v2 = 0 → s 171 = σ 171 ∧ s 170 = σ 170 ∧ s 98 92 = σ 98 92) → (v2 ≠ 0 → s 98 92 = n ∧ ∀ i, 0 ≤ i → i < n → s 171 i = Xs i ∧ ∀ v, 0 ≤ v → v < p → s 170 (24 * i + v) = ztal D (Xs i) v) → Q w s) : zO G MX12_elects [zr 98, zi X0, zi v2] σ Q := by
  obtain ⟨⟨hne, ow, ho1, ho2, ho3⟩, hdec⟩ := hc
  have n24 := hrn.1
  have hor : ∀ e, 0 ≤ e → e < σ 98 91 → 0 ≤ ow e ∧ ow e < 24 := fun e a b => (ho1 e a b).1.1
  have hel : ∀ v, 0 ≤ v → v < 24 → (zbit (zD1 D) v ↔ ∃ e, (0 ≤ e ∧ e < (((σ 98 91).toNat : Nat) : Int)) ∧ ow e = v) := by
    intro v v0 v1
    rw [← hD.1]
    constructor
    · intro z
      obtain ⟨e, a, b⟩ := ho3 v v0 v1 z
      exact ⟨e, by omega, b⟩
    · rintro ⟨e, a, b⟩
      rw [← b]
      exact (ho1 e a.1 (by omega)).2
  have hsum : ∀ (P : Int → Prop), zps (fun v => zif2 (zbit (zD1 D) v ∧ P v) 1 0) 24 = zps (fun e => zif2 (P (ow e)) 1 0) (σ 98 91).toNat := by
    intro P
    rw [← zre_g (f := fun v => zif2 (P v) 1 0) hor ho2 (σ 98 91).toNat (by omega)]
    refine zps_cg (fun v v0 v1 => ?_)
    show zif2 _ 1 0 = zif2 _ (zif2 _ 1 0) 0
    by_cases a : zbit (zD1 D) v
    · rw [zif2_y ((hel v v0 (by omega)).mp a)]
      by_cases b : P v
      · rw [zif2_y ⟨a, b⟩, zif2_y b]
      · rw [zif2_n (fun z => b z.2), zif2_n b]
    · rw [zif2_n (fun z => a z.1), zif2_n (fun z => a ((hel v v0 (by omega)).mpr z))]
  refine TX12_elects ?_
  have rounds : ∀ (m : Nat) (j : Int) (s : zS), (24 - j).toNat = m → 0 ≤ j → j < n → zfr [(172, none), (171, none), (170, none), (98, some 92)] s σ → (v2 = 0 → s 171 = σ 171 ∧ s 170 = σ 170 ∧ s 98 92 = σ 98 92) → (v2 ≠ 0 → ∀ i, 0 ≤ i → i < j → s 171 i = Xs i ∧ ∀ v, 0 ≤ v → v < p → s 170 (24 * i + v) = ztal D (Xs i) v) → zR G MX12_elects 5 [zr 98, zi X0, zi v2, zi (Xs j), zi j, zu, zu, zu, zu, zu] [] s Q := by
    intro m
    induction m with
    | zero =>
      intro j s hm j0 j1 hf _ _
      omega
    | succ m ih =>
      intro j s hm j0 j1 hf hv0 hv1
      have hpre := hrn.2.1.2.2 j j0 (by omega)
      have hX := hpre.1
      have hX1 := hpre.2.1
      generalize hXe : Xs j = X at hX hX1
      have hmp : ∀ v, zmem X v → 0 ≤ v ∧ v < p := by
        intro v hv
        have h24 : 0 ≤ v ∧ v < 24 := hv.1
        by_cases y : v < p
        · omega
        · exact absurd hv.2 (hX.2 v (by omega) (by omega))
      have hcvp : ∀ v, zcv D v X = -1 ∨ (0 ≤ zcv D v X ∧ zcv D v X < p) := by
        intro v
        rcases zcv_m (D := D) (v := v) (X := X) with z | z
        · exact Or.inl z
        · exact Or.inr (hmp _ z)
      refine TX12_elects_5 ?_
      -- the last pass
      have last : ∀ s3 : zS, zfr [(172, none), (171, none), (170, none), (98, some 92)] s3 σ → (∀ v, 0 ≤ v → v < p → s3 172 v = ztal D X v) → (v2 = 0 → s3 171 = σ 171 ∧ s3 170 = σ 170 ∧ s3 98 92 = σ 98 92) → (v2 ≠ 0 → s3 98 92 = j + 1 ∧ ∀ i, 0 ≤ i → i < j + 1 → s3 171 i = Xs i ∧ ∀ v, 0 ≤ v → v < p → s3 170 (24 * i + v) = ztal D (Xs i) v) →
          ∀ v7 : Int, True → zR G MX12_elects 165 [zr 98, zi X0, zi v2, zi X, zi j, zi (zpop X), zi (zgiv D X), zi (-1), zi (-1), zi 0] [] s3 Q := by
        intro s3 f3 h172 w0 w1 _ _
        have q1 : s3 98 1 = p := by rw [zfr_at f3 rfl]; exact hp
        have q99 : ∀ v, 0 ≤ v → v < p → s3 99 v = zDb D v := fun v a b => by rw [zfr_row (q := 99) f3 rfl]; exact hbn v a b
        have win : ∀ w', zRw D X w' → Q w' s3 := by
          intro w' hw'
          rw [← hXe] at hw'
          have := zrnd_w hrn j0 j1 hw'
          rw [this.1]
          refine kq s3 f3 w0 (fun z => ?_)
          have h2 := w1 z
          rw [show n = j + 1 from by omega]
          exact h2
        have loop : ∀ (k : Nat) (i l e : Int), (p - i).toNat = k → 0 ≤ i → i ≤ p → (∀ v, v < i → ¬ zMaj D X v) →
            ((l = -1 ∧ ∀ v, v < i → ¬ zmem X v) ∨ (zmem X l ∧ l < i ∧ ∀ v, v < i → zmem X v → ztal D X l < ztal D X v ∨ (ztal D X l = ztal D X v ∧ ((zDb D) v < (zDb D) l ∨ ((zDb D) v = (zDb D) l ∧ v ≤ l))))) →
            ((e = -1 ∧ ∀ v, v < i → ¬ zmem X v) ∨ (zmem X e ∧ e < i ∧ ∀ v, v < i → zmem X v → (zDb D) e ≤ (zDb D) v ∧ (v < e → (zDb D) e < (zDb D) v))) → zR G MX12_elects 165 [zr 98, zi X0, zi v2, zi X, zi j, zi (zpop X), zi (zgiv D X), zi l, zi e, zi i] [] s3 Q := by
          intro k
          induction k with
          | zero =>
            intro i l e hk i0 i1 hno hl he
            have : i = p := by omega
            subst this
            have hno' : ∀ v, ¬ zMaj D X v := fun v z => hno v (hmp v z.1).2 z
            obtain ⟨w9, hw9⟩ := zpop_ex hX1
            have hl' : zlst D X l := by
              rcases hl with ⟨_, h⟩ | ⟨a, b, c⟩
              · exact absurd hw9 (h w9 (hmp w9 hw9).2)
              · exact ⟨a, fun v hv => c v (hmp v hv).2 hv⟩
            have he' : zeld D X e := by
              rcases he with ⟨_, h⟩ | ⟨a, b, c⟩
              · exact absurd hw9 (h w9 (hmp w9 hw9).2)
              · exact ⟨a, fun v hv => c v (hmp v hv).2 hv⟩
            by_cases c : zpop X = 2
            · apply TX12_elects_165 <;> (try rw [q1]) <;> (try (intros; omega))
              intro _ _
              have hD3 : zhD D s3 := zhD_fr f3 rfl hD
              have r169 : s3 169 = σ 169 := zfr_row f3 rfl
              have r168 : s3 168 = σ 168 := zfr_row f3 rfl
              rcases hdec with ⟨d1, d2⟩ | ⟨d1, d2⟩
              · refine okX12_choice (by omega) (by rw [q1]; exact hX) (by omega) (by rw [r169]; omega) (fun r hr => ?_)
                rw [r169, d2] at hr
                have hr1 : r = -1 := by
                  rcases hr with ⟨z, _⟩ | ⟨z, a, _⟩
                  · exact z
                  · omega
                subst hr1
                apply TX12_elects_316 <;> (try (intros; omega))
                intro _
                exact win e (Or.inr ⟨hno', c, Or.inr ⟨Or.inl (by rw [← hD.2.1]; exact d1), he'⟩⟩)
              · have d2' : zcs1 s3 (zD2 D) 12 := by
                  rw [← hD.2.1]
                  unfold zcs1 at d2 ⊢
                  rw [r168, r169, zfr_row (q := 63) f3 rfl, zfr_row (q := 64) f3 rfl]
                  exact d2
                refine okX12_slot hD3 (by omega) (by rw [q1]; exact hX) (by omega) d2' ?_
                by_cases z : zcv D (zD2 D) X = -1
                · apply TX12_elects_316 <;> (try (intros; omega))
                  intro _
                  exact win e (Or.inr ⟨hno', c, Or.inr ⟨Or.inr z, he'⟩⟩)
                · apply TX12_elects_316 <;> (try (intros; omega))
                  intro _
                  exact win _ (Or.inr ⟨hno', c, Or.inl ⟨by rw [← hD.2.1]; exact d1, z, rfl⟩⟩)
            · apply TX12_elects_165 <;> (try rw [q1]) <;> (try (intros; omega))
              intro _ _
              have hL : zRl D (Xs j) l := by rw [hXe]; exact ⟨hno', c, hl'⟩
              have hz := zrnd_l hrn j0 j1 hL
              have hgo := ih (j + 1) s3 (by omega) (by omega) hz.1 f3 w0 (fun z => (w1 z).2)
              rw [hz.2, hXe] at hgo
              exact hgo
          | succ k ihk =>
            intro i l e hk i0 i1 hno hl he
            have e172 := h172 i i0 (by omega)
            have e99 := q99 i i0 (by omega)
            have hb' : 0 ≤ ztal D X i ∧ ztal D X i ≤ 24 := ztal_b (D := D) (X := X) (w := i) (n := 24)
            by_cases c : zbit X i
            · have h1 := (zb_shr1 (x := X) i0 (by omega)).1 c
              have hmi : zmem X i := ⟨⟨i0, by omega⟩, c⟩
              by_cases d : zpop X = 1 ∨ zgiv D X < 2 * ztal D X i
              · apply TX12_elects_165 <;> (try rw [q1]) <;> (try rw [e172]) <;> (try (intros; omega))
                intro _ _ _
                exact win i (Or.inl ⟨⟨hmi, d⟩, hno⟩)
              · have hno2 : ∀ v, v < i + 1 → ¬ zMaj D X v := by
                  intro v hv z
                  by_cases y : v = i
                  · rw [y] at z; exact d z.2
                  · exact hno v (by omega) z
                have newL : (l = -1 ∨ (l ≠ -1 ∧ ztal D X i < ztal D X l) ∨ (l ≠ -1 ∧ ztal D X l ≤ ztal D X i ∧ ztal D X i = ztal D X l ∧ (zDb D) l ≤ (zDb D) i)) → (zmem X i ∧ i < i + 1 ∧ ∀ v, v < i + 1 → zmem X v → ztal D X i < ztal D X v ∨ (ztal D X i = ztal D X v ∧ ((zDb D) v < (zDb D) i ∨ ((zDb D) v = (zDb D) i ∧ v ≤ i)))) := by
                  intro hx
                  refine ⟨hmi, by omega, fun v hv hm' => ?_⟩
                  by_cases y : v = i
                  · rw [y]; exact Or.inr ⟨rfl, Or.inr ⟨rfl, Int.le_refl _⟩⟩
                  · rcases hl with ⟨a, b⟩ | ⟨a, b, c'⟩
                    · exact absurd hm' (b v (by omega))
                    · have := c' v (by omega) hm'
                      have a24 := hmp l a
                      omega
                have oldL : ¬ (l = -1 ∨ (l ≠ -1 ∧ ztal D X i < ztal D X l) ∨ (l ≠ -1 ∧ ztal D X l ≤ ztal D X i ∧ ztal D X i = ztal D X l ∧ (zDb D) l ≤ (zDb D) i)) → (zmem X l ∧ l < i + 1 ∧ ∀ v, v < i + 1 → zmem X v → ztal D X l < ztal D X v ∨ (ztal D X l = ztal D X v ∧ ((zDb D) v < (zDb D) l ∨ ((zDb D) v = (zDb D) l ∧ v ≤ l)))) := by
                  intro hx
                  rcases hl with ⟨a, b⟩ | ⟨a, b, c'⟩
                  · exact absurd (Or.inl a) hx
                  · refine ⟨a, by omega, fun v hv hm' => ?_⟩
                    by_cases y : v = i
                    · rw [y]; omega
                    · exact c' v (by omega) hm'
                have newE : (e = -1 ∨ (e ≠ -1 ∧ (zDb D) i < (zDb D) e)) → (zmem X i ∧ i < i + 1 ∧ ∀ v, v < i + 1 → zmem X v → (zDb D) i ≤ (zDb D) v ∧ (v < i → (zDb D) i < (zDb D) v)) := by
                  intro hx
                  refine ⟨hmi, by omega, fun v hv hm' => ?_⟩
                  by_cases y : v = i
                  · rw [y]; exact ⟨Int.le_refl _, fun z => by omega⟩
                  · rcases he with ⟨a, b⟩ | ⟨a, b, c'⟩
                    · exact absurd hm' (b v (by omega))
                    · have := c' v (by omega) hm'
                      have a24 := hmp e a
                      omega
                have oldE : ¬ (e = -1 ∨ (e ≠ -1 ∧ (zDb D) i < (zDb D) e)) → (zmem X e ∧ e < i + 1 ∧ ∀ v, v < i + 1 → zmem X v → (zDb D) e ≤ (zDb D) v ∧ (v < e → (zDb D) e < (zDb D) v)) := by
                  intro hx
                  rcases he with ⟨a, b⟩ | ⟨a, b, c'⟩
                  · exact absurd (Or.inl a) hx
                  · refine ⟨a, by omega, fun v hv hm' => ?_⟩
                    by_cases y : v = i
                    · rw [y]; exact ⟨by omega, fun z => by omega⟩
                    · exact c' v (by omega) hm'
                have lr : l = -1 ∨ (0 ≤ l ∧ l < p) := by
                  rcases hl with ⟨a, _⟩ | ⟨a, _⟩
                  · exact Or.inl a
                  · exact Or.inr (hmp l a)
                have er : e = -1 ∨ (0 ≤ e ∧ e < p) := by
                  rcases he with ⟨a, _⟩ | ⟨a, _⟩
                  · exact Or.inl a
                  · exact Or.inr (hmp e a)
                have tl : l ≠ -1 → s3 172 l = ztal D X l := fun z => h172 l (by omega) (by omega)
                have bl : l ≠ -1 → s3 99 l = zDb D l := fun z => q99 l (by omega) (by omega)
                have be : e ≠ -1 → s3 99 e = zDb D e := fun z => q99 e (by omega) (by omega)
                clear hl he
                by_cases L : (l = -1 ∨ (l ≠ -1 ∧ ztal D X i < ztal D X l) ∨ (l ≠ -1 ∧ ztal D X l ≤ ztal D X i ∧ ztal D X i = ztal D X l ∧ (zDb D) l ≤ (zDb D) i))
                · have nL := newL L
                  clear newL oldL
                  by_cases E : (e = -1 ∨ (e ≠ -1 ∧ (zDb D) i < (zDb D) e))
                  · have nE := newE E
                    clear newE oldE
                    have go := ihk (i + 1) i i (by omega) (by omega) (by omega) hno2 (Or.inr nL) (Or.inr nE)
                    clear nL nE
                    apply TX12_elects_165 <;> (try rw [q1]) <;> (try rw [e172]) <;> (try rw [e99]) <;> (try (intros; omega))
                    all_goals (intros; exact go)
                  · have nE := oldE E
                    clear newE oldE
                    have go := ihk (i + 1) i e (by omega) (by omega) (by omega) hno2 (Or.inr nL) (Or.inr nE)
                    clear nL nE
                    apply TX12_elects_165 <;> (try rw [q1]) <;> (try rw [e172]) <;> (try rw [e99]) <;> (try (intros; omega))
                    all_goals (intros; exact go)
                · have nL := oldL L
                  clear newL oldL
                  by_cases E : (e = -1 ∨ (e ≠ -1 ∧ (zDb D) i < (zDb D) e))
                  · have nE := newE E
                    clear newE oldE
                    have go := ihk (i + 1) l i (by omega) (by omega) (by omega) hno2 (Or.inr nL) (Or.inr nE)
                    clear nL nE
                    apply TX12_elects_165 <;> (try rw [q1]) <;> (try rw [e172]) <;> (try rw [e99]) <;> (try (intros; omega))
                    all_goals (intros; exact go)
                  · have nE := oldE E
                    clear newE oldE
                    have go := ihk (i + 1) l e (by omega) (by omega) (by omega) hno2 (Or.inr nL) (Or.inr nE)
                    clear nL nE
                    apply TX12_elects_165 <;> (try rw [q1]) <;> (try rw [e172]) <;> (try rw [e99]) <;> (try (intros; omega))
                    all_goals (intros; exact go)
            · have h1 := (zb_shr1 (x := X) i0 (by omega)).2 c
              have ext : ∀ v, v < i + 1 → zmem X v → v < i := by
                intro v hv hm'
                by_cases y : v = i
                · rw [y] at hm'; exact absurd hm'.2 c
                · omega
              have go := ihk (i + 1) l e (by omega) (by omega) (by omega) (fun v hv z => hno v (ext v hv z.1) z) (by
                rcases hl with ⟨a, b⟩ | ⟨a, b, c'⟩
                · exact Or.inl ⟨a, fun v hv z => b v (ext v hv z) z⟩
                · exact Or.inr ⟨a, by omega, fun v hv z => c' v (ext v hv z) z⟩) (by
                rcases he with ⟨a, b⟩ | ⟨a, b, c'⟩
                · exact Or.inl ⟨a, fun v hv z => b v (ext v hv z) z⟩
                · exact Or.inr ⟨a, by omega, fun v hv z => c' v (ext v hv z) z⟩)
              clear hl he ext
              apply TX12_elects_165 <;> (try rw [q1]) <;> (try (intros; omega))
              all_goals (intros; exact go)
        exact loop _ 0 (-1) (-1) rfl (by omega) p0.1 (fun v hv z => by have := hmp v z.1; omega) (Or.inl ⟨rfl, fun v hv z => by have := hmp v z; omega⟩) (Or.inl ⟨rfl, fun v hv z => by have := hmp v z; omega⟩)
      -- the votes
      have votes : ∀ (k : Nat) (i : Int) (s2 : zS), (σ 98 91 - i).toNat = k → 0 ≤ i → i ≤ σ 98 91 → zfr [(172, none)] s2 s → (∀ v, 0 ≤ v → v < p → s2 172 v = zps (fun e => zif2 (zcv D (ow e) X = v) 1 0) i.toNat) → zR G MX12_elects 51 [zr 98, zi X0, zi v2, zi X, zi j, zi (zpop X), zi (zps (fun e => zif2 (zcv D (ow e) X ≠ -1) 1 0) i.toNat), zi i, zu, zu] [] s2 Q := by
        intro k
        induction k with
        | zero =>
          intro i s2 hk i0 i1 f2 h172
          have : i = σ 98 91 := by omega
          subst this
          have f2' : zfr [(172, none), (171, none), (170, none), (98, some 92)] s2 σ := zfr_tr hf (zfr_mo rfl f2)
          have q91 : s2 98 91 = σ 98 91 := zfr_at f2' rfl
          have q1 : s2 98 1 = p := by rw [zfr_at f2' rfl]; exact hp
          have g1 : zps (fun e => zif2 (zcv D (ow e) X ≠ -1) 1 0) (σ 98 91).toNat = zgiv D X := (hsum (fun v => zcv D v X ≠ -1)).symm
          have t1 : ∀ v, 0 ≤ v → v < p → s2 172 v = ztal D X v := fun v a b => by rw [h172 v a b]; exact (hsum (fun u => zcv D u X = v)).symm
          rw [g1]
          apply TX12_elects_51 <;> (try rw [q91]) <;> (try (intros; omega))
          · intro _ hz
            -- written
            have wr : ∀ (k : Nat) (i : Int) (s3 : zS), (p - i).toNat = k → 0 ≤ i → i ≤ p → zfr [(171, none), (170, none)] s3 s2 → (∀ i', i' ≠ j → s3 171 i' = s2 171 i') → s3 171 j = X → (∀ i' v, 0 ≤ i' → i' < j → 0 ≤ v → v < p → s3 170 (24 * i' + v) = s2 170 (24 * i' + v)) → (∀ v, 0 ≤ v → v < i → s3 170 (24 * j + v) = ztal D X v) → zR G MX12_elects 113 [zr 98, zi X0, zi v2, zi X, zi j, zi (zpop X), zi (zgiv D X), zi i, zu, zu] [] s3 Q := by
              intro k
              induction k with
              | zero =>
                intro i s3 hk i0 i1 f3 a1 a2 a3 a4
                have : i = p := by omega
                subst this
                have q1' : s3 98 1 = i := by rw [zfr_at f3 rfl]; exact q1
                apply TX12_elects_113 <;> (try rw [q1']) <;> (try (intros; omega))
                intro _
                refine last _ (zfr_uF rfl (zfr_tr f2' (zfr_mo rfl f3))) (fun v v0 v1 => ?_) (fun z => absurd z hz) (fun _ => ⟨zup_same, fun i' b0 b1 => ?_⟩) 0 trivial
                · (try simp (disch := decide) only [zup_of, zup_oi, zup_same])
                  rw [zfr_row (q := 172) f3 rfl]
                  exact t1 v v0 v1
                · (try simp (disch := decide) only [zup_of, zup_oi, zup_same])
                  by_cases x : i' = j
                  · rw [x, a2, hXe]
                    exact ⟨by trivial, fun v v0 v1 => a4 v v0 v1⟩
                  · have h7 := hv1 hz i' b0 (by omega)
                    rw [a1 i' x, zfr_row (q := 171) f2 rfl]
                    refine ⟨h7.1, fun v v0 v1 => ?_⟩
                    rw [a3 i' v b0 (by omega) v0 v1, zfr_row (q := 170) f2 rfl]
                    exact h7.2 v v0 v1
              | succ k ihw =>
                intro i s3 hk i0 i1 f3 a1 a2 a3 a4
                have q1' : s3 98 1 = p := by rw [zfr_at f3 rfl]; exact q1
                have r172 : s3 172 = s2 172 := zfr_row f3 rfl
                apply TX12_elects_113 <;> (try rw [q1']) <;> (try (intros; omega))
                intro _
                rw [r172, t1 i i0 (by omega)]
                refine ihw (i + 1) _ (by omega) (by omega) (by omega) (zfr_uA rfl f3) (fun i' x => by (try simp (disch := decide) only [zup_of, zup_oi, zup_same]); exact a1 i' x) (by (try simp (disch := decide) only [zup_of, zup_oi, zup_same]); exact a2) (fun i' v b0 b1 v0 v1 => ?_) (fun v v0 v1 => ?_)
                · rw [zup_oi (by omega)]
                  exact a3 i' v b0 b1 v0 v1
                · rw [zup_at]
                  by_cases x : v = i
                  · rw [if_pos (by omega), x]
                  · rw [if_neg (by omega)]
                    exact a4 v v0 (by omega)
            exact wr _ 0 _ rfl (by omega) p0.1 (zfr_uA rfl zfr_0) (fun i' x => zup_oi x) zup_same (fun i' v b0 b1 v0 v1 => by (try simp (disch := decide) only [zup_of, zup_oi, zup_same])) (fun v v0 v1 => by omega)
          · intro _ hz
            have hv := hv0 hz
            refine last s2 f2' t1 (fun _ => ?_) (fun z => absurd hz z) 0 trivial
            rw [zfr_row (q := 171) f2 rfl, zfr_row (q := 170) f2 rfl, zfr_at (q := 98) (j := 92) f2 rfl]
            exact hv
        | succ k ihv =>
          intro i s2 hk i0 i1 f2 h172
          have f2' : zfr [(172, none), (171, none), (170, none), (98, some 92)] s2 σ := zfr_tr hf (zfr_mo rfl f2)
          have q91 : s2 98 91 = σ 98 91 := zfr_at f2' rfl
          have q1 : s2 98 1 = p := by rw [zfr_at f2' rfl]; exact hp
          have hoi := ho1 i i0 (by omega)
          apply TX12_elects_51 <;> (try rw [q91]) <;> (try (intros; omega))
          intro _
          have hs1 : zcs1 s2 (ow i) i := by
            have hh := hoi.1
            unfold zcs1 at hh ⊢
            rw [zfr_row (q := 168) f2' rfl, zfr_row (q := 169) f2' rfl, zfr_row (q := 63) f2' rfl, zfr_row (q := 64) f2' rfl]
            exact hh
          refine okX12_slot (zhD_fr f2' rfl hD) (by omega) (by rw [q1]; exact hX) (by omega) hs1 ?_
          have hgs := zps_s (g := fun e => zif2 (zcv D (ow e) X ≠ -1) 1 0) i0
          have hgb := zps_b (g := fun e => zif2 (zcv D (ow e) X ≠ -1) 1 0) (B := 1) (n := i.toNat) (fun _ _ _ => zif2_b)
          by_cases d : zcv D (ow i) X = -1
          · have e0 : zif2 (zcv D (ow i) X ≠ -1) 1 0 = 0 := zif2_n (fun z => z d)
            have hgs' : zps (fun e => zif2 (zcv D (ow e) X ≠ -1) 1 0) (i + 1).toNat = zps (fun e => zif2 (zcv D (ow e) X ≠ -1) 1 0) i.toNat := by rw [hgs]; show _ + zif2 (zcv D (ow i) X ≠ -1) 1 0 = _; rw [e0]; omega
            apply TX12_elects_67 <;> (try (intros; omega))
            intro _
            rw [← hgs']
            refine ihv (i + 1) s2 (by omega) (by omega) (by omega) f2 (fun v v0 v1 => ?_)
            rw [h172 v v0 v1, zps_s (g := fun e => zif2 (zcv D (ow e) X = v) 1 0) i0]
            show _ = _ + zif2 (zcv D (ow i) X = v) 1 0
            rw [zif2_n (p := zcv D (ow i) X = v) (fun z => by omega)]
            omega
          · have hr := (hcvp (ow i)).resolve_left d
            have e1 : zif2 (zcv D (ow i) X ≠ -1) 1 0 = 1 := zif2_y d
            have hgs' : zps (fun e => zif2 (zcv D (ow e) X ≠ -1) 1 0) (i + 1).toNat = zps (fun e => zif2 (zcv D (ow e) X ≠ -1) 1 0) i.toNat + 1 := by rw [hgs]; show _ + zif2 (zcv D (ow i) X ≠ -1) 1 0 = _; rw [e1]
            have ht := h172 _ hr.1 hr.2
            have htb := zps_b (g := fun e => zif2 (zcv D (ow e) X = zcv D (ow i) X) 1 0) (B := 1) (n := i.toNat) (fun _ _ _ => zif2_b)
            apply TX12_elects_67 <;> (try rw [ht]) <;> (try (intros; omega))
            intro _
            rw [← hgs']
            refine ihv (i + 1) _ (by omega) (by omega) (by omega) (zfr_uA rfl f2) (fun v v0 v1 => ?_)
            rw [zup_at, zps_s (g := fun e => zif2 (zcv D (ow e) X = v) 1 0) i0]
            show _ = _ + zif2 (zcv D (ow i) X = v) 1 0
            by_cases x : v = zcv D (ow i) X
            · rw [if_pos x, ← x, zif2_y (p := v = v) rfl]
            · rw [if_neg x, h172 v v0 v1, zif2_n (p := zcv D (ow i) X = v) (fun z => x z.symm)]
              omega
      -- how many stand
      have many : ∀ (k : Nat) (i : Int) (s1 : zS), (p - i).toNat = k → 0 ≤ i → i ≤ p → zfr [(172, none)] s1 s → (∀ v, 0 ≤ v → v < i → s1 172 v = 0) → zR G MX12_elects 14 [zr 98, zi X0, zi v2, zi X, zi j, zi (zps (fun i => zand (zushr X i) 1) i.toNat), zi 0, zi i, zu, zu] [] s1 Q := by
        intro k
        induction k with
        | zero =>
          intro i s1 hk i0 i1 f1 h0
          have : i = p := by omega
          subst this
          have q1 : s1 98 1 = i := by rw [zfr_at f1 rfl]; rw [zfr_at hf rfl]; exact hp
          have e1 : zps (fun i => zand (zushr X i) 1) i.toNat = zpop X := (zps_0 (k := i.toNat) (n := 24) (by omega) (fun a a0 a1 => (zb_and1 (x := X) (by omega) (by omega)).2 (hX.2 a (by omega) (by omega)))).symm
          rw [e1]
          apply TX12_elects_14 <;> (try rw [q1]) <;> (try (intros; omega))
          intro _
          exact votes _ 0 s1 rfl (by omega) hne.1 f1 (fun v v0 v1 => by rw [h0 v v0 v1]; rfl)
        | succ k ihm =>
          intro i s1 hk i0 i1 f1 h0
          have q1 : s1 98 1 = p := by rw [zfr_at f1 rfl]; rw [zfr_at hf rfl]; exact hp
          have hb := zps_b (g := fun i => zand (zushr X i) 1) (B := 1) (n := i.toNat) (fun a b c => zpop_1 b (by omega))
          have h1 := zpop_1 (x := X) i0 (by omega)
          have hs := zps_s (g := fun i => zand (zushr X i) 1) i0
          apply TX12_elects_14 <;> (try rw [q1]) <;> (try rw [zpop_sh i0 (by omega)]) <;> (try (intros; omega))
          intro _
          rw [← hs]
          refine ihm (i + 1) _ (by omega) (by omega) (by omega) (zfr_uA rfl f1) (fun v v0 v1 => ?_)
          rw [zup_at]
          by_cases x : v = i
          · rw [if_pos x]
          · rw [if_neg x]
            exact h0 v v0 (by omega)
      exact many _ 0 s rfl (by omega) p0.1 zfr_0 (fun v v0 v1 => by omega)
  have h0 := rounds _ 0 σ rfl (by omega) (by omega) zfr_0 (fun _ => ⟨rfl, rfl, rfl⟩) (fun _ i a b => by omega)
  rw [hrn.2.1.1] at h0
  exact h0
end E4
