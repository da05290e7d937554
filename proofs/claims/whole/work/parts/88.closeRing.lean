/-! CALLS: exchange, one ring in the class -/
section CR
variable {G : zG} {σ : zS} {Q : Int → zS → Prop}
/-- the bits of X are the rooms of S -/
def zRX (σ : zS) (S : Int → Prop) (X : Int) : Prop := ∀ j, 0 ≤ j → j < 32 → (zbit X j ↔ zthe σ S j)
def zOw (σ t : zS) : Prop := ∀ w, zS0 σ w → t 96 (σ 138 w) = w
theorem zinj (hp : σ 98 1 ≤ 24) (hr : zrdq σ) {v w : Int} (hv : zS0 σ v) (hw : zS0 σ w) (e : σ 138 v = σ 138 w) : v = w := by
  have h1 := hv.1
  have h2 := hw.1
  by_cases x : v < w
  · exact absurd e (hr v w h1.1 x (by omega) hv.2)
  · by_cases y : w < v
    · exact absurd e.symm (hr w v h2.1 y (by omega) hw.2)
    · omega
theorem zrm_rng (hr : zrms σ) (hp : σ 98 1 ≤ 24) {v : Int} (hv : zS0 σ v) : 0 ≤ σ 138 v ∧ σ 138 v < 9 := by
  have h1 := hv.1
  have h2 := hr.2.1 v h1.1 (by omega)
  have h3 := hr.1
  have h4 := hv.2
  omega
theorem okX8_wf {t : zS} {S : Int → Prop} {X w : Int} (hp : 0 ≤ σ 98 1 ∧ σ 98 1 ≤ 24) (hr : zrms σ) (hws : zwsh σ) (hlim : σ 91 0 = 9) (f : zfr [(95, none), (96, none)] t σ) (hO : zOw σ t) (hX : zRX σ S X) (hw : S w ∧ zS0 σ w)
    (kq : Q (σ 138 (zF σ S w)) t) : zO G MX8_wantedFor [zr 94, zi (σ 138 w), zi X] t Q := by
  have hwb := hw.2.1
  have hrg := zrm_rng hr hp.2 hw.2
  have hlt : t 91 0 = 9 := by rw [← hlim]; exact zfr_at f rfl
  have ho := hO w hw.2
  refine okX8_wantedFor (zwsh_ke (zfr_sm f rfl) hws) hlt hrg (by rw [ho]; omega) (fun r hz => ?_)
  obtain ⟨x, hx, h⟩ := hz
  rw [ho, zfr_row (q := 93) f rfl, zfr_row (q := 92) f rfl] at hx
  have hwc := hws w hwb.1 (by omega)
  have hx2 := (hwc.2.2.2 (zthe σ S) (fun y ⟨v, a, b⟩ => by have := zrm_rng hr hp.2 a.2; rw [← b]; exact this) x).mp (zfi_pc (fun i i0 i1 => by
    have hin := hwc.2.2.1 i i0 i1
    have hin2 : 0 ≤ σ 92 (9 * w + i) ∧ σ 92 (9 * w + i) < 9 := hin
    have := hX (σ 92 (9 * w + i)) hin2.1 (by omega)
    exact ⟨fun z => this.mp z.2, fun z => ⟨⟨hin2.1, by omega⟩, this.mpr z⟩⟩) hx)
  have er : r = σ 138 (zF σ S w) := by
    rcases hx2 with ⟨e, hn⟩ | ⟨k, a, ⟨v, b, c⟩, d, g⟩
    · have ef : zF σ S w = w := zptr_one hp.2 hr.2.2 zF_p (Or.inl ⟨rfl, hn⟩)
      rw [ef]
      rcases h with h | h
      · exact h.2
      · exact absurd e h.1
    · have ef : zF σ S w = v := zptr_one hp.2 hr.2.2 zF_p (Or.inr ⟨k, a, ⟨b, c⟩, g⟩)
      rw [ef]
      rcases h with h | h
      · have hv := b.2.2
        rw [c, ← d] at hv
        exact absurd h.1 hv
      · rw [h.2, d, c]
  rw [er]
  exact kq
theorem okX8_closeRing {t : zS} {S : Int → Prop} {X : Int} (hp : 0 ≤ σ 98 1 ∧ σ 98 1 ≤ 24) (hr : zrms σ) (hws : zwsh σ) (hlim : σ 91 0 = 9) (f : zfr [(95, none), (96, none)] t σ) (hO : zOw σ t) (hX : zRX σ S X) (hS : ∀ y, S y → zS0 σ y) (hne : ∃ w, S w)
    (kq : ∀ (u : zS) (r x : Int), zfr [(95, none)] u t → S x → zper (zF σ S) x → (∀ j, 0 ≤ j → j < 32 → (zbit r j ↔ ∃ y, zorb (zF σ S) x y ∧ σ 138 y = j)) → (∀ y, zorb (zF σ S) x y → u 95 y = σ 138 (zF σ S y)) → (∀ y, ¬ zorb (zF σ S) x y → u 95 y = t 95 y) → Q r u) : zO G MX8_closeRing [zr 94, zi X] t Q := by
  have hF : ∀ y, S y → S (zF σ S y) := fun y hy => (zF_in ⟨hy, hS y hy⟩).1
  have inj : ∀ v w, S v → S w → σ 138 v = σ 138 w → v = w := fun v w a b e => zinj hp.2 hr.2.2 (hS v a) (hS w b) e
  have rng : ∀ v, S v → 0 ≤ σ 138 v ∧ σ 138 v < 9 := fun v a => zrm_rng hr hp.2 (hS v a)
  refine TX8_closeRing ?_
  -- the ring itself
  have ring : ∀ x, S x → zper (zF σ S) x → zR G MX8_closeRing 48 [zr 94, zi X, zi (σ 138 x), zi 0, zi 0, zu] [] t Q := by
    intro x hx hper
    obtain ⟨p, p1, hpp, hl, hd, ho⟩ := zper_least hper
    have hp9 : p ≤ 9 := by
      obtain ⟨i, j, ij, j9, e⟩ := zpigR (N := 9) (g := fun k => σ 138 (zit (zF σ S) k x)) (by decide) (fun k _ => rng _ (zit_in hF k x hx))
      have e2 := inj _ _ (zit_in hF i x hx) (zit_in hF j x hx) e
      by_cases c : p ≤ 9
      · exact c
      · exact absurd e2 (hd i j ij (by omega))
    have loop : ∀ (n : Nat) (k : Nat) (u : zS) (r : Int), p - k = n → k ≤ p → zfr [(95, none)] u t → (∀ j, 0 ≤ j → j < 32 → (zbit r j ↔ ∃ i : Nat, i < k ∧ σ 138 (zit (zF σ S) i x) = j)) → (∀ y, (∃ j : Nat, j < k ∧ zit (zF σ S) j x = y) → u 95 y = σ 138 (zF σ S y)) → (∀ y, (∀ j : Nat, j < k → zit (zF σ S) j x ≠ y) → u 95 y = t 95 y) →
        zR G MX8_closeRing 48 [zr 94, zi X, zi (σ 138 (zit (zF σ S) k x)), zi r, zi k, zu] [] u Q := by
      intro n
      induction n with
      | zero =>
        intro k u r hm hk fu hb h1 h2
        have e : k = p := by omega
        subst e
        have hbit : zbit r (σ 138 (zit (zF σ S) k x)) := by
          rw [hpp]
          have := rng x hx
          exact (hb _ this.1 (by omega)).mpr ⟨0, by omega, rfl⟩
        have hr2 := rng _ (zit_in hF k x hx)
        have e1 := (zb_and1 (x := r) hr2.1 (by omega)).1 hbit
        apply TX8_closeRing_48 <;> (try (intros; omega))
        intro _
        refine kq u r x fu hx hper (fun j j0 j1 => ?_) (fun y hy => h1 y ((ho y).mp hy)) (fun y hy => h2 y (fun j jk e => hy ((ho y).mpr ⟨j, jk, e⟩)))
        rw [hb j j0 j1]
        exact ⟨fun ⟨i, a, b⟩ => ⟨_, (ho _).mpr ⟨i, a, rfl⟩, b⟩, fun ⟨y, a, b⟩ => by
          obtain ⟨i, c, d⟩ := (ho y).mp a
          exact ⟨i, c, by rw [d]; exact b⟩⟩
      | succ n ih =>
        intro k u r hm hk fu hb h1 h2
        have kp : k < p := by omega
        have hz := zit_in hF k x hx
        have hr2 := rng _ hz
        have hz0 := (hS _ hz).1
        have hnb : ¬ zbit r (σ 138 (zit (zF σ S) k x)) := fun z => by
          obtain ⟨i, a, b⟩ := (hb _ hr2.1 (by omega)).mp z
          exact hd i k a kp (inj _ _ (zit_in hF i x hx) hz b)
        have e1 := (zb_and1 (x := r) hr2.1 (by omega)).2 hnb
        have f95 : zfr [(95, none), (96, none)] u σ := zfr_tr f (zfr_mo rfl fu)
        have u96 : u 96 = t 96 := zfr_row fu rfl
        have hOu : zOw σ u := fun w hw => by rw [u96]; exact hO w hw
        apply TX8_closeRing_48 <;> (try (intros; omega))
        intro _ _
        refine okX8_wf hp hr hws hlim f95 hOu hX ⟨hz, hS _ hz⟩ ?_
        have eo := hOu _ (hS _ hz)
        have go := ih (k + 1) (zup u 95 (zit (zF σ S) k x) (σ 138 (zF σ S (zit (zF σ S) k x)))) (zor r (zshl 1 (σ 138 (zit (zF σ S) k x)))) (by omega) (by omega) (zfr_uA rfl fu)
          (fun j j0 j1 => by
            rw [zb_or, zb_shl hr2.1 (by omega) j0 j1, hb j j0 j1]
            constructor
            · rintro (⟨i, a, b⟩ | e)
              · exact ⟨i, by omega, b⟩
              · exact ⟨k, by omega, e.symm⟩
            · rintro ⟨i, a, b⟩
              by_cases e : i = k
              · rw [e] at b; exact Or.inr b.symm
              · exact Or.inl ⟨i, by omega, b⟩)
          (fun y ⟨j, jk, e⟩ => by
            by_cases ey : y = zit (zF σ S) k x
            · rw [ey, zup_same]
            · rw [zup_oi ey]
              exact h1 y ⟨j, by
                by_cases z : j = k
                · rw [z] at e; exact absurd e.symm ey
                · omega, e⟩)
          (fun y hy => by
            rw [zup_oi (fun z => hy k (by omega) z.symm)]
            exact h2 y (fun j jk => hy j (by omega)))
        rw [zit_s, show ((k + 1 : Nat) : Int) = (k : Int) + 1 from by omega] at go
        apply TX8_closeRing_75 <;> (try rw [eo]) <;> (try (intros; omega))
        all_goals (intros; exact go)
    exact loop _ 0 t 0 rfl (by omega) zfr_0 (fun j _ _ => ⟨fun z => absurd z (zb_0 j), fun ⟨i, a, _⟩ => absurd a (by omega)⟩) (fun y ⟨j, jk, _⟩ => absurd jk (by omega)) (fun y _ => rfl)
  -- nine steps lead into a ring
  have steps : ∀ w, S w → zR G MX8_closeRing 24 [zr 94, zi X, zi (σ 138 w), zi 0, zu, zu] [] t Q := by
    intro w hw
    have loop : ∀ (n : Nat) (k : Nat), 9 - k = n → k ≤ 9 → zR G MX8_closeRing 24 [zr 94, zi X, zi (σ 138 (zit (zF σ S) k w)), zi k, zu, zu] [] t Q := by
      intro n
      induction n with
      | zero =>
        intro k hm hk
        have e : k = 9 := by omega
        apply TX8_closeRing_24 <;> (try (intros; omega))
        intro _
        refine ring _ (zit_in hF k w hw) ?_
        have hg : ∀ (k : Nat) (v : Int), S v → zit (fun ρ => σ 138 (zF σ S (t 96 ρ))) k (σ 138 v) = σ 138 (zit (zF σ S) k v) := by
          intro k
          induction k with
          | zero => exact fun v _ => rfl
          | succ k ihk =>
            intro v hv
            show zit _ k (σ 138 (zF σ S (t 96 (σ 138 v)))) = _
            rw [hO v (hS v hv), ihk _ (hF v hv)]
            rfl
        obtain ⟨q, q1, hq⟩ := zper_N (N := 9) (f := fun ρ => σ 138 (zF σ S (t 96 ρ))) (S := fun ρ => ∃ v, S v ∧ σ 138 v = ρ) (x := σ 138 w) (by decide) (fun y ⟨v, a, b⟩ => by have := rng v a; rw [← b]; exact this) (fun y ⟨v, a, b⟩ => ⟨zF σ S v, hF v a, by show _ = σ 138 (zF σ S (t 96 y)); rw [← b, hO v (hS v a)]⟩) ⟨w, hw, rfl⟩
        rw [hg 9 w hw] at hq
        rw [hg q _ (zit_in hF 9 w hw)] at hq
        rw [e]
        exact ⟨q, q1, inj _ _ (zit_in hF q _ (zit_in hF 9 w hw)) (zit_in hF 9 w hw) hq⟩
      | succ n ih =>
        intro k hm hk
        have hz := zit_in hF k w hw
        have go := ih (k + 1) (by omega) (by omega)
        rw [zit_s, show ((k + 1 : Nat) : Int) = (k : Int) + 1 from by omega] at go
        apply TX8_closeRing_24 <;> (try (intros; omega))
        intro _
        refine okX8_wf hp hr hws hlim f hO hX ⟨hz, hS _ hz⟩ ?_
        apply TX8_closeRing_36 <;> (try (intros; omega))
        all_goals (intros; exact go)
    exact loop _ 0 rfl (by omega)
  -- the least room
  obtain ⟨w0, hw0⟩ := hne
  have hr0 := rng w0 hw0
  have hb0 : zbit X (σ 138 w0) := (hX _ hr0.1 (by omega)).mpr ⟨w0, ⟨hw0, hS w0 hw0⟩, rfl⟩
  have least : ∀ (n : Nat) (ρ : Int), (8 - ρ).toNat = n → 0 ≤ ρ → ρ ≤ 8 → (∀ j, 0 ≤ j → j < ρ → ¬ zbit X j) → zR G MX8_closeRing 2 [zr 94, zi X, zi ρ, zu, zu, zu] [] t Q := by
    intro n
    induction n with
    | zero =>
      intro ρ hm r0 r1 hn
      have e : ρ = 8 := by omega
      have hb : σ 138 w0 = ρ := by
        by_cases c : σ 138 w0 < ρ
        · exact absurd hb0 (hn _ hr0.1 c)
        · omega
      apply TX8_closeRing_2 <;> (try (intros; omega))
      intro _
      rw [← hb]
      exact steps w0 hw0
    | succ n ih =>
      intro ρ hm r0 r1 hn
      by_cases c : zbit X ρ
      · have e1 := (zb_and1 (x := X) r0 (by omega)).1 c
        obtain ⟨w, a, b⟩ := (hX ρ r0 (by omega)).mp c
        apply TX8_closeRing_2 <;> (try (intros; omega))
        intro _
        rw [← b]
        exact steps w a.1
      · have e1 := (zb_and1 (x := X) r0 (by omega)).2 c
        have go := ih (ρ + 1) (by omega) (by omega) (by omega) (fun j j0 j1 => by
          by_cases e : j = ρ
          · rw [e]; exact c
          · exact hn j j0 (by omega))
        apply TX8_closeRing_2 <;> (try (intros; omega))
        all_goals (intros; exact go)
  exact least _ 0 rfl (by omega) (by omega) (fun j a b => by omega)
end CR
