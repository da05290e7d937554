/-! CALLS: exchange, the class -/
theorem zps_le {g g' : Int → Int} : ∀ {n : Nat}, (∀ i : Int, 0 ≤ i → i < n → g' i ≤ g i) → zps g' n ≤ zps g n := by
  intro n
  induction n with
  | zero => exact fun _ => Int.le_refl _
  | succ n ih =>
    intro h
    have h1 := ih (fun i a b => h i a (by omega))
    have h2 := h (n : Int) (by omega) (by omega)
    show zps g' n + g' (n : Int) ≤ zps g n + g (n : Int)
    omega
theorem zps_lt {g g' : Int → Int} {w : Int} : ∀ {n : Nat}, (∀ i : Int, 0 ≤ i → i < n → g' i ≤ g i) → (0 ≤ w ∧ w < n) → g' w < g w → zps g' n < zps g n := by
  intro n
  induction n with
  | zero => exact fun _ h => absurd h (by omega)
  | succ n ih =>
    intro h hw hl
    have h2 := h (n : Int) (by omega) (by omega)
    show zps g' n + g' (n : Int) < zps g n + g (n : Int)
    by_cases e : w = n
    · have h1 := zps_le (g := g) (g' := g') (n := n) (fun i a b => h i a (by omega))
      rw [e] at hl
      omega
    · have h1 := ih (fun i a b => h i a (by omega)) (by omega) hl
      omega
theorem zps_nil : ∀ k : Nat, zps (fun _ => (0 : Int)) k = 0 := by
  intro k
  induction k with
  | zero => rfl
  | succ k ih => show zps _ k + 0 = 0; rw [ih]; rfl
section EC
variable {G : zG} {σ : zS} {Q : Int → zS → Prop}
/-- how many rooms S has -/
noncomputable def zcrm (σ : zS) (S : Int → Prop) : Int := zps (fun ρ => zif2 (zthe σ S ρ) 1 0) 9
theorem zcrm_b {S : Int → Prop} : 0 ≤ zcrm σ S ∧ zcrm σ S ≤ 9 := by
  have := zps_b (g := fun ρ => zif2 (zthe σ S ρ) 1 0) (B := 1) (n := 9) (fun _ _ _ => zif2_b)
  unfold zcrm
  omega
theorem zcrm_lt {S S' : Int → Prop} {x : Int} (hp : 0 ≤ σ 98 1 ∧ σ 98 1 ≤ 24) (hr : zrms σ) (hS : ∀ y, S y → zS0 σ y) (hs : ∀ y, S' y → S y) (hx : S x) (hn : ¬ S' x) : zcrm σ S' < zcrm σ S := by
  have hx0 := hS x hx
  have hrg := zrm_rng hr hp.2 hx0
  refine zps_lt (w := σ 138 x) (fun i _ _ => ?_) hrg ?_
  · show zif2 (zthe σ S' i) 1 0 ≤ zif2 (zthe σ S i) 1 0
    by_cases c : zthe σ S' i
    · obtain ⟨v, a, b⟩ := c
      rw [zif2_y (show zthe σ S i from ⟨v, ⟨hs v a.1, a.2⟩, b⟩)]
      exact zif2_b.2
    · rw [zif2_n c]
      exact zif2_b.1
  · show zif2 (zthe σ S' (σ 138 x)) 1 0 < zif2 (zthe σ S (σ 138 x)) 1 0
    rw [zif2_y (show zthe σ S (σ 138 x) from ⟨x, ⟨hx, hx0⟩, rfl⟩), zif2_n]
    · decide
    · rintro ⟨v, a, b⟩
      have := zinj hp.2 hr.2.2 a.2 hx0 b
      rw [this] at a
      exact hn a.1
/-- ring by ring, till no room is there -/
theorem okC_rings (hp : 0 ≤ σ 98 1 ∧ σ 98 1 ≤ 24) (hr : zrms σ) (hws : zwsh σ) (hlim : σ 91 0 = 9) {all : Int} : ∀ (N : Nat) (t : zS) (S : Int → Prop) (X v3 : Int), (9 - v3).toNat = N → 0 ≤ v3 → v3 ≤ 9 → v3 + zcrm σ S ≤ 9 → zIn X → zfr [(95, none), (96, none)] t σ → zOw σ t → zRX σ S X → (∀ y, S y → zS0 σ y) →
    (∀ (u : zS) (n : Nat) (m : Int → Int) (v1 : Int), zfr [(95, none)] u t → zTtc (zF σ) m n S → (∀ y, S y → u 95 y = σ 138 (m y)) → (∀ y, ¬ S y → u 95 y = t 95 y) → zR G MX8_exchangeAll 84 [zr 94, zi v1, zi all, zi 0, zi 0] [] u Q) → zR G MX8_exchangeAll 53 [zr 94, zi X, zi all, zi v3, zu] [] t Q := by
  intro N
  induction N with
  | zero =>
    intro t S X v3 hN h0 h9 hc hin f hO hX hS kq
    have none : ∀ y, ¬ S y := fun y hy => by
      have h1 := zcrm_lt (S' := fun _ => False) hp hr hS (fun _ z => z.elim) hy (fun z => z)
      have h2 := zcrm_b (σ := σ) (S := fun _ => False)
      omega
    have go := kq t 0 (fun y => y) X zfr_0 none (fun y hy => absurd hy (none y)) (fun y _ => rfl)
    apply TX8_exchangeAll_53 <;> (try (intros; omega))
    all_goals (intros; exact go)
  | succ N ih =>
    intro t S X v3 hN h0 h9 hc hin f hO hX hS kq
    by_cases c : X = 0
    · have none : ∀ y, ¬ S y := fun y hy => by
        have hrg := zrm_rng hr hp.2 (hS y hy)
        have := (hX (σ 138 y) hrg.1 (by omega)).mpr ⟨y, ⟨hy, hS y hy⟩, rfl⟩
        rw [c] at this
        exact zb_0 _ this
      have go := kq t 0 (fun y => y) X zfr_0 none (fun y hy => absurd hy (none y)) (fun y _ => rfl)
      apply TX8_exchangeAll_53 <;> (try (intros; omega))
      all_goals (intros; exact go)
    · obtain ⟨j, hj, hb⟩ := zb_ex hin c
      obtain ⟨w, hw, _⟩ := (hX j hj.1 hj.2).mp hb
      apply TX8_exchangeAll_53 <;> (try (intros; omega))
      intro _ _
      refine okX8_closeRing hp hr hws hlim f hO hX hS ⟨w, hw.1⟩ (fun u r x fu hx hper hbr h1 h2 => ?_)
      have hF : ∀ y, S y → S (zF σ S y) := fun y hy => (zF_in ⟨hy, hS y hy⟩).1
      have horb : ∀ y, zorb (zF σ S) x y → S y := fun y ⟨k, e⟩ => by rw [← e]; exact zit_in hF k x hx
      have hlt := zcrm_lt (S' := fun y => S y ∧ ¬ zorb (zF σ S) x y) hp hr hS (fun _ z => z.1) hx (fun z => z.2 ⟨0, rfl⟩)
      apply TX8_exchangeAll_69 <;> (try (intros; omega))
      have u96 : u 96 = t 96 := zfr_row fu rfl
      refine ih u (fun y => S y ∧ ¬ zorb (zF σ S) x y) _ (v3 + 1) (by omega) (by omega) (by omega) (by omega) (zIn_of _) (zfr_tr f (zfr_mo rfl fu)) (fun w hw => by rw [u96]; exact hO w hw) (fun j j0 j1 => ?_) (fun y hy => hS y hy.1) (fun u' n m v1 fu' hT hm ho => ?_)
      · rw [zb_and, zb_not j0 j1, hX j j0 j1, hbr j j0 j1]
        constructor
        · rintro ⟨⟨v, a, b⟩, d⟩
          exact ⟨v, ⟨⟨a.1, fun z => d ⟨v, z, b⟩⟩, a.2⟩, b⟩
        · rintro ⟨v, a, b⟩
          refine ⟨⟨v, ⟨a.1.1, a.2⟩, b⟩, fun ⟨y, c, d⟩ => ?_⟩
          have := zinj hp.2 hr.2.2 (hS y (horb y c)) a.2 (by rw [d, b])
          rw [this] at c
          exact a.1.2 c
      · classical
        refine kq u' (n + 1) (fun y => if zorb (zF σ S) x y then zF σ S y else m y) v1 (zfr_tr fu fu') ?_ ?_ ?_
        · exact zTtc_step (C := zorb (zF σ S) x) (m := m) (zorb_ring hper) horb (fun y hy => if_pos hy) (fun y _ hy => if_neg hy) hT
        · intro y hy
          by_cases e : zorb (zF σ S) x y
          · show u' 95 y = σ 138 (if _ then _ else _)
            rw [if_pos e, ho y (fun z => z.2 e)]
            exact h1 y e
          · show u' 95 y = σ 138 (if _ then _ else _)
            rw [if_neg e]
            exact hm y ⟨hy, e⟩
        · intro y hy
          rw [ho y (fun z => hy z.1), h2 y (fun z => hy (horb y z))]
/-- counted by rooms or by people -/
theorem zpb {P : Int → Prop} (hp : σ 98 1 ≤ 24) (hr : zrms σ) : ∀ k : Nat, (k : Int) ≤ σ 98 1 → zps (fun ρ => zif2 (∃ v, (0 ≤ v ∧ v < (k : Int)) ∧ (zS0 σ v ∧ P v) ∧ σ 138 v = ρ) 1 0) 9 = zps (fun v => zif2 (zS0 σ v ∧ P v) 1 0) k := by
  intro k
  induction k with
  | zero =>
    intro _
    rw [show zps (fun ρ => zif2 (∃ v, (0 ≤ v ∧ v < ((0 : Nat) : Int)) ∧ (zS0 σ v ∧ P v) ∧ σ 138 v = ρ) 1 0) 9 = zps (fun _ => 0) 9 from zps_cg (fun i _ _ => zif2_n (fun ⟨v, a, _⟩ => by omega)), zps_nil]
    rfl
  | succ k ih =>
    intro hk
    have h := ih (by omega)
    show _ = zps (fun v => zif2 (zS0 σ v ∧ P v) 1 0) k + zif2 (zS0 σ (k : Int) ∧ P (k : Int)) 1 0
    rw [← h]
    by_cases c : zS0 σ (k : Int) ∧ P (k : Int)
    · have hrg := zrm_rng hr hp c.1
      rw [zif2_y c]
      rw [zps_1 (g := fun ρ => zif2 (∃ v, (0 ≤ v ∧ v < (k : Int)) ∧ (zS0 σ v ∧ P v) ∧ σ 138 v = ρ) 1 0) (g' := fun ρ => zif2 (∃ v, (0 ≤ v ∧ v < ((k + 1 : Nat) : Int)) ∧ (zS0 σ v ∧ P v) ∧ σ 138 v = ρ) 1 0) (w := σ 138 k) (n := 9) (by omega) (fun i hi => ?_)]
      · show _ + (zif2 _ 1 0 - zif2 _ 1 0) = _
        rw [zif2_y ⟨(k : Int), by omega, c, rfl⟩, zif2_n (fun ⟨v, a, b, d⟩ => by have := zinj hp hr.2.2 b.1 c.1 d; omega)]
        omega
      · show zif2 _ 1 0 = zif2 _ 1 0
        by_cases d : ∃ v, (0 ≤ v ∧ v < (k : Int)) ∧ (zS0 σ v ∧ P v) ∧ σ 138 v = i
        · obtain ⟨v, a, b⟩ := d
          rw [zif2_y ⟨v, by omega, b⟩, zif2_y ⟨v, a, b⟩]
        · rw [zif2_n d, zif2_n]
          rintro ⟨v, a, b⟩
          by_cases e : v = k
          · rw [e] at b; exact hi b.2.symm
          · exact d ⟨v, by omega, b⟩
    · rw [zif2_n c, Int.add_zero]
      refine zps_cg (fun i _ _ => ?_)
      by_cases d : ∃ v, (0 ≤ v ∧ v < (k : Int)) ∧ (zS0 σ v ∧ P v) ∧ σ 138 v = i
      · obtain ⟨v, a, b⟩ := d
        rw [zif2_y ⟨v, by omega, b⟩, zif2_y ⟨v, a, b⟩]
      · rw [zif2_n d, zif2_n]
        rintro ⟨v, a, b⟩
        by_cases e : v = k
        · rw [e] at b; exact c b.1
        · exact d ⟨v, by omega, b⟩
theorem okX8_exchangeAll (hp : 0 ≤ σ 98 1 ∧ σ 98 1 ≤ 24) (hr : zrms σ) (hws : zwsh σ) (hlim : σ 91 0 = 9)
    (kq : ∀ (u : zS) (n : Nat) (m : Int → Int), zfr [(95, none), (96, none)] u σ → zTtc (zF σ) m n (zS0 σ) → (∀ y, zS0 σ y → u 95 y = σ 138 (m y)) → (∀ y, ¬ zS0 σ y → u 95 y = σ 95 y) → Q (zps (fun v => zif2 (u 95 v ≠ σ 138 v) 1 0) (σ 98 1).toNat) u) : zO G MX8_exchangeAll [zr 94] σ Q := by
  refine TX8_exchangeAll ?_
  have h95 : ∀ w, 0 ≤ w → w < 24 → σ 95 w = σ 138 w := fun w a b => (hr.2.1 w a b).1
  have hS0 : ∀ w, 0 ≤ w → w < 24 → (zS0 σ w ↔ σ 138 w ≠ -1) := fun w a b => ⟨fun z => z.2, fun z => ⟨⟨a, by
    by_cases c : w < σ 98 1
    · exact c
    · exact absurd ((hr.2.1 w a b).2.2 (by omega)) z⟩, z⟩⟩
  have start : ∀ (n : Nat) (w : Int) (t : zS) (X : Int), (24 - w).toNat = n → 0 ≤ w → w ≤ 24 → zIn X → zfr [(96, none)] t σ → (∀ v, v < w → zS0 σ v → t 96 (σ 138 v) = v) → (∀ j, 0 ≤ j → j < 32 → (zbit X j ↔ ∃ v, v < w ∧ zS0 σ v ∧ σ 138 v = j)) → zR G MX8_exchangeAll 4 [zr 94, zi X, zi w, zu, zu] [] t Q := by
    intro n
    induction n with
    | zero =>
      intro w t X hm w0 w1 hin f hO hX
      have e : w = 24 := by omega
      apply TX8_exchangeAll_4 <;> (try (intros; omega))
      intro _
      have hOt : zOw σ t := fun v hv => hO v (by have := hv.1; omega) hv
      have hXt : zRX σ (zS0 σ) X := fun j j0 j1 => by
        rw [hX j j0 j1]
        exact ⟨fun ⟨v, a, b, c⟩ => ⟨v, ⟨b, b⟩, c⟩, fun ⟨v, a, b⟩ => ⟨v, by have := a.2.1; omega, a.2, b⟩⟩
      have hcb := zcrm_b (σ := σ) (S := zS0 σ)
      refine okC_rings hp hr hws hlim 9 t (zS0 σ) X 0 rfl (by omega) (by omega) (by omega) hin (zfr_mo rfl f) hOt hXt (fun y hy => hy) (fun u n m v1 fu hT hm ho => ?_)
      have t95 : t 95 = σ 95 := zfr_row f rfl
      have u96 : u 96 = t 96 := zfr_row fu rfl
      rw [t95] at ho
      have fu0 : zfr [(95, none), (96, none)] u σ := zfr_tr (zfr_mo rfl f) (zfr_mo rfl fu)
      have hsum : zps (fun ρ => zif2 (zthe σ (zS0 σ) ρ ∧ u 95 (u 96 ρ) ≠ ρ) 1 0) 9 = zps (fun v => zif2 (u 95 v ≠ σ 138 v) 1 0) (σ 98 1).toNat := by
        have h1 := zpb (P := fun v => u 95 v ≠ σ 138 v) hp.2 hr (σ 98 1).toNat (by omega)
        rw [show zps (fun v => zif2 (zS0 σ v ∧ u 95 v ≠ σ 138 v) 1 0) (σ 98 1).toNat = zps (fun v => zif2 (u 95 v ≠ σ 138 v) 1 0) (σ 98 1).toNat from zps_cg (fun v v0 v1 => by
          by_cases c : u 95 v ≠ σ 138 v
          · rw [zif2_y c, zif2_y]
            refine ⟨?_, c⟩
            by_cases d : zS0 σ v
            · exact d
            · exact absurd (by rw [ho v d, h95 v v0 (by omega)]) c
          · rw [zif2_n c, zif2_n (fun z => c z.2)])] at h1
        rw [← h1]
        refine zps_cg (fun ρ r0 r1 => ?_)
        by_cases c : zthe σ (zS0 σ) ρ ∧ u 95 (u 96 ρ) ≠ ρ
        · rw [zif2_y c]
          obtain ⟨⟨v, a, b⟩, d⟩ := c
          rw [zif2_y]
          rw [u96, ← b, hOt v a.1] at d
          exact ⟨v, by have := a.2.1; omega, ⟨a.1, d⟩, b⟩
        · rw [zif2_n c, zif2_n]
          rintro ⟨v, a, b, d⟩
          refine c ⟨⟨v, ⟨b.1, b.1⟩, d⟩, ?_⟩
          rw [u96, ← d, hOt v b.1]
          exact b.2
      have cnt : ∀ (k : Nat) (i : Int), (9 - i).toNat = k → 0 ≤ i → i ≤ 9 → zR G MX8_exchangeAll 84 [zr 94, zi v1, zi X, zi (zps (fun ρ => zif2 (zthe σ (zS0 σ) ρ ∧ u 95 (u 96 ρ) ≠ ρ) 1 0) i.toNat), zi i] [] u Q := by
        intro k
        induction k with
        | zero =>
          intro i hk i0 i1
          have e : i = 9 := by omega
          apply TX8_exchangeAll_84 <;> (try (intros; omega))
          intro _
          rw [e, show (9 : Int).toNat = 9 from rfl, hsum]
          exact kq u n m fu0 hT hm ho
        | succ k ihk =>
          intro i hk i0 i1
          have hb := zps_b (g := fun ρ => zif2 (zthe σ (zS0 σ) ρ ∧ u 95 (u 96 ρ) ≠ ρ) 1 0) (B := 1) (n := i.toNat) (fun _ _ _ => zif2_b)
          have go := ihk (i + 1) (by omega) (by omega) (by omega)
          rw [zps_s i0] at go
          by_cases c : zthe σ (zS0 σ) i
          · have e1 := (zb_and1 (x := X) i0 (by omega)).1 ((hXt i i0 (by omega)).mpr c)
            have ho2 : 0 ≤ u 96 i ∧ u 96 i < 24 := by
              obtain ⟨v, a, b⟩ := c
              rw [u96, ← b, hOt v a.1]
              have := a.1.1
              omega
            by_cases d : u 95 (u 96 i) = i
            · rw [zif2_n (fun z => z.2 d), Int.add_zero] at go
              apply TX8_exchangeAll_84 <;> (try (intros; omega))
              all_goals (intros; exact go)
            · rw [zif2_y ⟨c, d⟩] at go
              apply TX8_exchangeAll_84 <;> (try (intros; omega))
              all_goals (intros; exact go)
          · have e1 := (zb_and1 (x := X) i0 (by omega)).2 (fun z => c ((hXt i i0 (by omega)).mp z))
            rw [zif2_n (fun z => c z.1), Int.add_zero] at go
            apply TX8_exchangeAll_84 <;> (try (intros; omega))
            all_goals (intros; exact go)
      exact cnt _ 0 rfl (by omega) (by omega)
    | succ n ih =>
      intro w t X hm w0 w1 hin f hO hX
      have t95 : t 95 w = σ 138 w := by rw [zfr_row (q := 95) f rfl]; exact h95 w w0 (by omega)
      by_cases c : σ 138 w = -1
      · have hn : ¬ zS0 σ w := fun z => z.2 c
        have go := ih (w + 1) t X (by omega) (by omega) (by omega) hin f (fun v hv hs => by
          by_cases e : v = w
          · rw [e] at hs; exact absurd hs hn
          · exact hO v (by omega) hs) (fun j j0 j1 => by
          rw [hX j j0 j1]
          exact ⟨fun ⟨v, a, b⟩ => ⟨v, by omega, b⟩, fun ⟨v, a, b⟩ => ⟨v, by
            by_cases e : v = w
            · rw [e] at b; exact absurd b.1 hn
            · omega, b⟩⟩)
        apply TX8_exchangeAll_4 <;> (try rw [t95]) <;> (try (intros; omega))
        all_goals (intros; exact go)
      · have hn : zS0 σ w := (hS0 w w0 (by omega)).mpr c
        have hrg := zrm_rng hr hp.2 hn
        have go := ih (w + 1) (zup t 96 (σ 138 w) w) (zor X (zshl 1 (σ 138 w))) (by omega) (by omega) (by omega) (zIn_of _) (zfr_uA rfl f) (fun v hv hs => by
          by_cases e : v = w
          · rw [e, zup_same]
          · rw [zup_oi (fun z => e (zinj hp.2 hr.2.2 hs hn z))]
            exact hO v (by omega) hs) (fun j j0 j1 => by
          rw [zb_or, zb_shl hrg.1 (by omega) j0 j1, hX j j0 j1]
          constructor
          · rintro (⟨v, a, b⟩ | e)
            · exact ⟨v, by omega, b⟩
            · exact ⟨w, by omega, hn, e.symm⟩
          · rintro ⟨v, a, b⟩
            by_cases e : v = w
            · rw [e] at b; exact Or.inr b.2.symm
            · exact Or.inl ⟨v, by omega, b⟩)
        apply TX8_exchangeAll_4 <;> (try rw [t95]) <;> (try (intros; omega))
        all_goals (intros; exact go)
  exact start _ 0 σ 0 rfl (by omega) (by omega) zIn_0 zfr_0 (fun v hv hs => by have := hs.1; omega) (fun j _ _ => ⟨fun z => absurd z (zb_0 j), fun ⟨v, a, b, _⟩ => by have := b.1; omega⟩)
end EC
