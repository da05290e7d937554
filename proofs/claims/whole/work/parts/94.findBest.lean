/-! CALLS: plan, the best of them (class) -/
/-- worth, set, first roof's year, second's; the worth is -1 if there is none -/
abbrev zAcc : Type := Int × Int × Int × Int
noncomputable def zsp (K : Prop) (w b o t : Int) (a : zAcc) : zAcc := @ite _ (K ∧ a.1 < w) (Classical.propDecidable _) (w, b, o, t) a
theorem zsp_y {K : Prop} {w b o t : Int} {a : zAcc} (h : K) (h2 : a.1 < w) : zsp K w b o t a = (w, b, o, t) := if_pos ⟨h, h2⟩
theorem zsp_n {K : Prop} {w b o t : Int} {a : zAcc} (h : ¬ (K ∧ a.1 < w)) : zsp K w b o t a = a := if_neg h
/-- second roof's years -/
noncomputable def zq2 (σ : zS) (Y n up fl b o t0 : Int) (a : zAcc) : Nat → zAcc
  | 0 => a
  | k + 1 => zsp (zkp σ Y n up b fl o (t0 + k)) (zwo σ Y n up b o (t0 + k)) b o (t0 + k) (zq2 σ Y n up fl b o t0 a k)
/-- first roof's years -/
noncomputable def zq1 (σ : zS) (Y n up fl b o0 t0 : Int) (a : zAcc) : Nat → zAcc
  | 0 => a
  | k + 1 => zq2 σ Y n up fl b (o0 + k) t0 (zq1 σ Y n up fl b o0 t0 a k) (n + 1 - t0).toNat
def zsb2 (σ : zS) (Y n b : Int) : Prop := ∀ j, 0 ≤ j → j < 32 → zbit b j → j < σ 98 5 ∧ zen σ Y n j
/-- sets -/
noncomputable def zq0 (σ : zS) (Y n up fl o0 t0 : Int) : Nat → zAcc
  | 0 => (-1, 0, 0, 0)
  | k + 1 => @ite _ (zsb2 σ Y n k) (Classical.propDecidable _) (zq1 σ Y n up fl k o0 t0 (zq0 σ Y n up fl o0 t0 k) (n + 1 - o0).toNat) (zq0 σ Y n up fl o0 t0 k)
theorem zq2_no {σ : zS} {Y n up fl b o t0 : Int} {a : zAcc} : ∀ m : Nat, (∀ k : Nat, k < m → ¬ zkp σ Y n up b fl o (t0 + k)) → zq2 σ Y n up fl b o t0 a m = a := by
  intro m
  induction m with
  | zero => exact fun _ => rfl
  | succ m ih =>
    intro h
    show zsp _ _ _ _ _ _ = a
    rw [zsp_n (fun z => h m (by omega) z.1)]
    exact ih (fun k hk => h k (by omega))
theorem zq1_no {σ : zS} {Y n up fl b o0 t0 : Int} {a : zAcc} (h : ∀ o t, ¬ zkp σ Y n up b fl o t) : ∀ m : Nat, zq1 σ Y n up fl b o0 t0 a m = a := by
  intro m
  induction m with
  | zero => rfl
  | succ m ih =>
    show zq2 _ _ _ _ _ _ _ _ _ _ = a
    rw [zq2_no _ (fun k _ => h _ _)]
    exact ih
/-- o0 or t0: a roof that is not there is never mended -/
theorem zsb2_e {σ : zS} {Y n b e : Int} (he : ∀ j, 0 ≤ j → j < 32 → (zbit e j ↔ j < σ 98 5 ∧ zen σ Y n j)) : zand b (zxor e (-1)) = 0 ↔ zsb2 σ Y n b := by
  constructor
  · intro h j j0 j1 hb
    by_cases c : zbit e j
    · exact (he j j0 j1).mp c
    · have : zbit (zand b (zxor e (-1))) j := by
        rw [zb_and, zb_not j0 j1]
        exact ⟨hb, c⟩
      rw [h] at this
      exact absurd this (zb_0 j)
  · intro h
    refine zb_ext (zIn_of _) zIn_0 (fun j j0 j1 => ?_)
    rw [zb_and, zb_not j0 j1]
    exact ⟨fun z => absurd ((he j j0 j1).mpr (h j j0 j1 z.1)) z.2, fun z => absurd z (zb_0 j)⟩
theorem zshl8 : ∀ c : Nat, c < 9 → 1 ≤ zshl 1 (c : Int) ∧ zshl 1 (c : Int) ≤ 256 := by decide +kernel
section FB
variable {G : zG} {σ : zS} {Q : Int → zS → Prop}
/-- the class's best -/
def zeC (σ s : zS) (n : Int) (a : zAcc) : Prop := s 83 12 = a.1 ∧ ((a.1 = -1 ∧ s 83 13 = σ 83 13 ∧ s 90 = σ 90) ∨ (0 ≤ a.1 ∧ s 83 13 = n ∧ s 90 0 = a.2.1 ∧ s 90 1 = a.2.2.1 ∧ s 90 2 = a.2.2.2 ∧ zry σ n a.2.2.1 a.2.2.2))
theorem zco_b {σ : zS} {o t k : Int} (h : ∀ r, 0 ≤ r → r < 2 → 0 ≤ σ 84 r ∧ σ 84 r ≤ 99999) : 0 ≤ zco σ o t k ∧ zco σ o t k ≤ 199998 ∧ (o ≤ k → σ 84 0 ≤ zco σ o t k) ∧ (t ≤ k → σ 84 1 ≤ zco σ o t k) := by
  have h0 := h 0 (by omega) (by omega)
  have h1 := h 1 (by omega) (by omega)
  unfold zco
  by_cases c : o ≤ k <;> by_cases d : t ≤ k
  · rw [zif2_y c, zif2_y d]
    exact ⟨by omega, by omega, fun z => by omega, fun z => by omega⟩
  · rw [zif2_y c, zif2_n d]
    exact ⟨by omega, by omega, fun z => by omega, fun z => by omega⟩
  · rw [zif2_n c, zif2_y d]
    exact ⟨by omega, by omega, fun z => by omega, fun z => by omega⟩
  · rw [zif2_n c, zif2_n d]
    exact ⟨by omega, by omega, fun z => by omega, fun z => by omega⟩
/-- kept: by what is lowest -/
theorem zkp_low {s : zS} {Y n up bits fl o t : Int} (hn : 1 ≤ n ∧ n ≤ 10) (hfl : 0 ≤ fl ∧ fl ≤ 99999) (hc : ∀ r, 0 ≤ r → r < 2 → 0 ≤ σ 84 r ∧ σ 84 r ≤ 99999) (ho : 0 ≤ o ∧ o ≤ n) (ht : 0 ≤ t ∧ t ≤ n) (hs : zstlq σ s Y n up bits) :
    zkp σ Y n up bits fl o t ↔ fl ≤ s 89 0 ∧ fl + σ 84 0 ≤ s 89 o ∧ fl + σ 84 1 ≤ s 89 t ∧ fl + σ 84 0 + σ 84 1 ≤ s 89 (max o t) := by
  have h0 := hc 0 (by omega) (by omega)
  have h1 := hc 1 (by omega) (by omega)
  have l := hs.2.1
  rw [l 0 fl (by omega) (by omega) (by omega), l o _ ho.1 ho.2 (by omega), l t _ ht.1 ht.2 (by omega), l (max o t) _ (by omega) (by omega) (by omega)]
  constructor
  · intro h
    refine ⟨fun j _ j1 => ?_, fun j j0 j1 => ?_, fun j j0 j1 => ?_, fun j j0 j1 => ?_⟩
    · have := h j j1
      have := (zco_b (o := o) (t := t) (k := j) hc).1
      omega
    · have := h j j1
      have := (zco_b (o := o) (t := t) (k := j) hc).2.2.1 j0
      omega
    · have := h j j1
      have := (zco_b (o := o) (t := t) (k := j) hc).2.2.2 j0
      omega
    · have h2 := h j j1
      unfold zco at h2
      rw [zif2_y (by omega), zif2_y (by omega)] at h2
      omega
  · rintro ⟨a, b, c, d⟩ k k1
    unfold zco
    by_cases x : o ≤ k <;> by_cases y : t ≤ k
    · rw [zif2_y x, zif2_y y]
      have := d k (by omega) k1
      omega
    · rw [zif2_y x, zif2_n y]
      have := b k x k1
      omega
    · rw [zif2_n x, zif2_y y]
      have := c k y k1
      omega
    · rw [zif2_n x, zif2_n y]
      have := a k (by omega) k1
      omega
theorem zkp_w {Y n up bits fl o t : Int} (hi : zinv σ) (hn : 1 ≤ n ∧ n ≤ 10) (hfl : 0 ≤ fl ∧ fl ≤ 99999) (hr : zry σ n o t) (h : zkp σ Y n up bits fl o t) : 0 ≤ zwo σ Y n up bits o t := by
  have hf := g_zrfs hi
  have h1 := h (n - 1).toNat (by omega)
  rw [show (((n - 1).toNat : Nat) : Int) = n - 1 from by omega, show (n - 1).toNat + 1 = n.toNat from by omega] at h1
  have g : ∀ r y : Int, 0 ≤ r → r < 2 → 0 ≤ y → (y < n → r < σ 98 10) → -(zif2 (y ≤ n - 1) (σ 84 r) 0) ≤ zgr σ n r y := by
    intro r y r0 r1 y0 hy
    unfold zgr
    by_cases c : y < n
    · rw [zif2_y c, zif2_y (by omega)]
      have h2 := hf.2.2 r r0 (hy c)
      have h3 := zmul_b (a := σ 85 r) (b := n - y) (A := 9999) (B := 10) (by omega) (by omega) (by omega) (by omega)
      omega
    · rw [zif2_n c, zif2_n (by omega)]
      omega
  have g0 := g 0 o (by omega) (by omega) hr.1.1 hr.2.2.1
  have g1 := g 1 t (by omega) (by omega) hr.2.1.1 hr.2.2.2
  unfold zwo
  unfold zco at h1
  omega
theorem okX7_mendBest {s : zS} {Y n up bits fl o0 t0 : Int} {a : zAcc} (hi : zinv σ) (hY : 0 ≤ Y ∧ Y ≤ 110) (hn : 1 ≤ n ∧ n ≤ 10) (hu : 0 ≤ up ∧ up ≤ 99999) (hfl : 0 ≤ fl ∧ fl ≤ 99999) (h : zprp σ s Y n up) (hs : zstlq σ s Y n up bits) (h0 : fl ≤ s 89 0) (ha : zeC σ s n a)
    (eo : (0 < σ 98 10 ∧ o0 = 0) ∨ (σ 98 10 ≤ 0 ∧ o0 = n)) (et : (1 < σ 98 10 ∧ t0 = 0) ∨ (σ 98 10 ≤ 1 ∧ t0 = n))
    (kq : ∀ u, zfr [(83, some 12), (83, some 13), (90, none)] u s → zeC σ u n (zq1 σ Y n up fl bits o0 t0 a (n + 1 - o0).toNat) → Q 0 u) : zO G MX7_mendBest [zr 83, zi bits, zi fl] s Q := by
  have hf := g_zrfs hi
  have hf1 := hf.1
  have hc := hf.2.1
  have c0 := hc 0 (by omega) (by omega)
  have c1 := hc 1 (by omega) (by omega)
  have hbb := zbal_b (n := n) (bits := bits) hi hY hu
  have low : ∀ y, 0 ≤ y → y ≤ n → -2000000 ≤ s 89 y ∧ s 89 y ≤ 2000000000 := fun y a b =>
    ⟨(hs.2.1 y (-2000000) a b (by omega)).mpr (fun j _ j1 => by have := hbb (j + 1) (by omega); omega), hs.2.2 y a b⟩
  -- what a state of the search is
  have outer : ∀ (m : Nat) (k : Nat) (u : zS), (n + 1 - o0 - k).toNat = m → (k : Int) ≤ n + 1 - o0 → zfr [(83, some 12), (83, some 13), (90, none)] u s → zeC σ u n (zq1 σ Y n up fl bits o0 t0 a k) → zR G MX7_mendBest 16 [zr 83, zi bits, zi fl, zi (o0 + k), zu, zu] [] u Q := by
    intro m
    induction m with
    | zero =>
      intro k u hm hk f he
      have u10 : u 83 10 = n := by rw [zfr_at f rfl]; exact h.2.1
      have ek : k = (n + 1 - o0).toNat := by omega
      apply TX7_mendBest_16 <;> (try rw [u10]) <;> (try (intros; omega))
      intro _
      rw [ek] at he
      exact kq u f he
    | succ m ih =>
      intro k u hm hk f he
      have u10 : u 83 10 = n := by rw [zfr_at f rfl]; exact h.2.1
      have u9 : u 83 9 = σ 98 10 := by rw [zfr_at f rfl, zfr_at h.1 rfl]; exact hf1.1
      have u89 : u 89 = s 89 := zfr_row f rfl
      have u84 : u 84 = σ 84 := by rw [zfr_row f rfl, zfr_row h.1 rfl]
      have lo := low (o0 + k) (by omega) (by omega)
      by_cases cnt : fl ≤ s 89 (o0 + k) - σ 84 0
      · -- the second roof's years
        have inner : ∀ (r : Nat) (q : Nat) (v : zS), (n + 1 - t0 - q).toNat = r → (q : Int) ≤ n + 1 - t0 → zfr [(83, some 12), (83, some 13), (90, none)] v s → zeC σ v n (zq2 σ Y n up fl bits (o0 + k) t0 (zq1 σ Y n up fl bits o0 t0 a k) q) → zR G MX7_mendBest 62 [zr 83, zi bits, zi fl, zi (o0 + k), zi (t0 + q), zu] [] v Q := by
          intro r
          induction r with
          | zero =>
            intro q v hr hq fv hev
            have v10 : v 83 10 = n := by rw [zfr_at fv rfl]; exact h.2.1
            have eq : q = (n + 1 - t0).toNat := by omega
            rw [eq] at hev
            have go := ih (k + 1) v (by omega) (by omega) fv hev
            rw [show ((k + 1 : Nat) : Int) = (k : Int) + 1 from by omega, ← Int.add_assoc] at go
            apply TX7_mendBest_62 <;> (try rw [v10]) <;> (try (intros; omega))
            all_goals (intros; exact go)
          | succ r ihr =>
            intro q v hr hq fv hev
            have v10 : v 83 10 = n := by rw [zfr_at fv rfl]; exact h.2.1
            have v89 : v 89 = s 89 := zfr_row fv rfl
            have v84 : v 84 = σ 84 := by rw [zfr_row fv rfl, zfr_row h.1 rfl]
            have lt := low (t0 + q) (by omega) (by omega)
            have lm := low (max (o0 + k) (t0 + q)) (by omega) (by omega)
            have kp := zkp_low (σ := σ) (fl := fl) (o := o0 + k) (t := t0 + q) hn hfl hc (by omega) (by omega) hs
            have hry : zry σ n (o0 + k) (t0 + q) := ⟨by omega, by omega, by omega, by omega⟩
            have sfr : zfr [(83, some 12), (83, some 13), (88, none), (89, none), (90, none)] v s := zfr_mo rfl fv
            have hpv := zprp_mo h sfr
            have hsv : zstlq σ v Y n up bits := by
              unfold zstlq
              rw [v89, zfr_row (q := 88) fv rfl]
              exact hs
            have stepn : zq2 σ Y n up fl bits (o0 + k) t0 (zq1 σ Y n up fl bits o0 t0 a k) (q + 1) = zsp (zkp σ Y n up bits fl (o0 + k) (t0 + q)) (zwo σ Y n up bits (o0 + k) (t0 + q)) bits (o0 + k) (t0 + q) (zq2 σ Y n up fl bits (o0 + k) t0 (zq1 σ Y n up fl bits o0 t0 a k) q) := rfl
            generalize zq2 σ Y n up fl bits (o0 + k) t0 (zq1 σ Y n up fl bits o0 t0 a k) q = acc at hev stepn
            have skip : ¬ (zkp σ Y n up bits fl (o0 + k) (t0 + q) ∧ acc.1 < zwo σ Y n up bits (o0 + k) (t0 + q)) → zR G MX7_mendBest 62 [zr 83, zi bits, zi fl, zi (o0 + k), zi (t0 + q + 1), zu] [] v Q := by
              intro hno
              have go := ihr (q + 1) v (by omega) (by omega) fv (by rw [stepn, zsp_n hno]; exact hev)
              rw [show ((q + 1 : Nat) : Int) = (q : Int) + 1 from by omega, ← Int.add_assoc] at go
              exact go
            apply TX7_mendBest_62 <;> (try rw [v10]) <;> (try rw [v89]) <;> (try rw [v84]) <;> (try (intros; omega))
            · intro _ x1 x2
              have hk2 : zkp σ Y n up bits fl (o0 + k) (t0 + q) := kp.mpr ⟨h0, by omega, by omega, by omega⟩
              have hw0 := zkp_w hi hn hfl hry hk2
              refine okX7_worthOf hi hY hn hu hry hpv hsv ?_
              by_cases c : acc.1 < zwo σ Y n up bits (o0 + k) (t0 + q)
              · have hb12 := hev.1
                apply TX7_mendBest_137 <;> (try rw [hb12]) <;> (try (intros; omega))
                intro _
                refine okX7_worthOf hi hY hn hu hry hpv hsv (TX7_mendBest_152 (by omega) ?_)
                rw [v10]
                have go := ihr (q + 1) (zup (zup (zup (zup (zup v 83 12 (zwo σ Y n up bits (o0 + k) (t0 + q))) 83 13 n) 90 0 bits) 90 1 (o0 + k)) 90 2 (t0 + q)) (by omega) (by omega) (zfr_uA rfl (zfr_uA rfl (zfr_uA rfl (zfr_uF rfl (zfr_uF rfl fv))))) (by
                  rw [stepn, zsp_y hk2 c]
                  unfold zeC
                  simp (disch := decide) only [zup_of, zup_oi, zup_same]
                  exact ⟨trivial, Or.inr ⟨hw0, trivial, trivial, trivial, trivial, hry⟩⟩)
                rw [show ((q + 1 : Nat) : Int) = (q : Int) + 1 from by omega, ← Int.add_assoc] at go
                exact go
              · have hb12 := hev.1
                apply TX7_mendBest_137 <;> (try rw [hb12]) <;> (try (intros; omega))
                intro _
                exact skip (fun z => c z.2)
            · intro _ x
              exact skip (fun z => by have := kp.mp z.1; omega)
        have go := inner _ 0 u rfl (by omega) f he
        rw [show t0 + ((0 : Nat) : Int) = t0 from by omega] at go
        rcases et with ⟨e1, e2⟩ | ⟨e1, e2⟩
        · rw [e2] at go
          apply TX7_mendBest_16 <;> (try rw [u10]) <;> (try rw [u9]) <;> (try rw [u89]) <;> (try rw [u84]) <;> (try (intros; omega))
          all_goals (intros; exact go)
        · rw [e2] at go
          apply TX7_mendBest_16 <;> (try rw [u10]) <;> (try rw [u9]) <;> (try rw [u89]) <;> (try rw [u84]) <;> (try (intros; omega))
          all_goals (intros; exact go)
      · have e : zq1 σ Y n up fl bits o0 t0 a (k + 1) = zq1 σ Y n up fl bits o0 t0 a k := by
          show zq2 _ _ _ _ _ _ _ _ _ _ = _
          refine zq2_no _ (fun q hq hk2 => ?_)
          have := (zkp_low (σ := σ) (fl := fl) (o := o0 + k) (t := t0 + q) hn hfl hc (by omega) (by omega) hs).mp hk2
          omega
        have go := ih (k + 1) u (by omega) (by omega) f (by rw [e]; exact he)
        rw [show ((k + 1 : Nat) : Int) = (k : Int) + 1 from by omega, ← Int.add_assoc] at go
        apply TX7_mendBest_16 <;> (try rw [u10]) <;> (try rw [u89]) <;> (try rw [u84]) <;> (try (intros; omega))
        all_goals (intros; exact go)
  have go := outer _ 0 s rfl (by omega) zfr_0 ha
  rw [show o0 + ((0 : Nat) : Int) = o0 from by omega] at go
  have s9 : s 83 9 = σ 98 10 := by rw [zfr_at h.1 rfl]; exact hf1.1
  have s10 := h.2.1
  rcases eo with ⟨e1, e2⟩ | ⟨e1, e2⟩
  · rw [e2] at go
    apply TX7_mendBest <;> (try rw [s9]) <;> (try (intros; omega))
    all_goals (intros; exact go)
  · rw [e2] at go
    apply TX7_mendBest <;> (try rw [s9]) <;> (try rw [s10]) <;> (try (intros; omega))
    all_goals (intros; exact go)
theorem okX7_findBest {s : zS} {Y n up fl o0 t0 : Int} (hi : zinv σ) (hY : 0 ≤ Y ∧ Y ≤ 110) (hn : 1 ≤ n ∧ n ≤ 10) (hu : 0 ≤ up ∧ up ≤ 99999) (hfl : 0 ≤ fl ∧ fl ≤ 99999) (h : zprp σ s Y n up) (h13 : s 83 13 = σ 83 13) (h90 : s 90 = σ 90)
    (eo : (0 < σ 98 10 ∧ o0 = 0) ∨ (σ 98 10 ≤ 0 ∧ o0 = n)) (et : (1 < σ 98 10 ∧ t0 = 0) ∨ (σ 98 10 ≤ 1 ∧ t0 = n))
    (kq : ∀ u, zfr [(83, some 12), (83, some 13), (88, none), (89, none), (90, none)] u s → zeC σ u n (zq0 σ Y n up fl o0 t0 (zshl 1 (σ 98 5)).toNat) → Q (zq0 σ Y n up fl o0 t0 (zshl 1 (σ 98 5)).toNat).1 u) : zO G MX7_findBest [zr 83, zi fl] s Q := by
  have hcnt := (g_zlse hi).1
  have h8 := (g_zlea hi).2.1
  have hN := zshl8 (σ 98 5).toNat (by omega)
  rw [show (((σ 98 5).toNat : Nat) : Int) = σ 98 5 from by omega] at hN
  refine TX7_findBest ?_
  have loop : ∀ (m : Nat) (k : Nat) (u : zS), (zshl 1 (σ 98 5) - k).toNat = m → (k : Int) ≤ zshl 1 (σ 98 5) → zfr [(83, some 12), (83, some 13), (88, none), (89, none), (90, none)] u s → zeC σ u n (zq0 σ Y n up fl o0 t0 k) → zR G MX7_findBest 7 [zr 83, zi fl, zi (k : Int)] [] u Q := by
    intro m
    induction m with
    | zero =>
      intro k u hm hk f he
      have ucnt : u 68 11 = σ 98 5 := by rw [zfr_at (q := 68) f rfl, zfr_at (q := 68) h.1 rfl]; exact hcnt
      have ek : k = (zshl 1 (σ 98 5)).toNat := by omega
      have e12 := he.1
      rw [ek] at he e12
      apply TX7_findBest_7 <;> (try rw [ucnt]) <;> (try (intros; omega))
      intro _
      rw [e12]
      exact kq u f he
    | succ m ih =>
      intro k u hm hk f he
      have ucnt : u 68 11 = σ 98 5 := by rw [zfr_at (q := 68) f rfl, zfr_at (q := 68) h.1 rfl]; exact hcnt
      have hp := zprp_mo h f
      have hsub := zsb2_e (σ := σ) (Y := Y) (n := n) (b := (k : Int)) (e := u 83 11) (hp.2.2.2.1)
      by_cases c : zsb2 σ Y n k
      · have e0 := hsub.mpr c
        have step : zq0 σ Y n up fl o0 t0 (k + 1) = zq1 σ Y n up fl k o0 t0 (zq0 σ Y n up fl o0 t0 k) (n + 1 - o0).toNat := if_pos c
        apply TX7_findBest_7 <;> (try rw [ucnt]) <;> (try (intros; omega))
        intro _ _
        refine okX7_settle hi hY hn hu hp (fun v fv hv => ?_)
        have fvs : zfr [(83, some 12), (83, some 13), (88, none), (89, none), (90, none)] v s := zfr_tr f (zfr_mo rfl fv)
        have hev : zeC σ v n (zq0 σ Y n up fl o0 t0 k) := by
          unfold zeC
          rw [zfr_at (q := 83) (j := 12) fv rfl, zfr_at (q := 83) (j := 13) fv rfl, zfr_row (q := 90) fv rfl]
          exact he
        by_cases d : fl ≤ v 89 0
        · refine TX7_findBest_36 (fun _ => ?_) (fun z => by omega) (fun z => by omega)
          refine okX7_mendBest hi hY hn hu hfl (zprp_mo h fvs) hv d hev eo et (fun w fw hw => TX7_findBest_52 (by omega) ?_)
          have go := ih (k + 1) w (by omega) (by omega) (zfr_tr fvs (zfr_mo rfl fw)) (by rw [step]; exact hw)
          exact go
        · have hno : ∀ o t, ¬ zkp σ Y n up k fl o t := by
            intro o t hk2
            have hc := (g_zrfs hi).2.1
            refine d ((hv.2.1 0 fl (by omega) (by omega) (by omega)).mpr (fun j _ j1 => ?_))
            have h1 := hk2 j j1
            have h2 := (zco_b (o := o) (t := t) (k := j) hc).1
            omega
          have go := ih (k + 1) v (by omega) (by omega) fvs (by rw [step, zq1_no hno]; exact hev)
          refine TX7_findBest_36 (fun z => by omega) (fun _ => by omega) (fun _ => ?_)
          exact go
      · have e0 : zand (k : Int) (zxor (u 83 11) (-1)) ≠ 0 := fun z => c (hsub.mp z)
        have step : zq0 σ Y n up fl o0 t0 (k + 1) = zq0 σ Y n up fl o0 t0 k := if_neg c
        have go := ih (k + 1) u (by omega) (by omega) f (by rw [step]; exact he)
        apply TX7_findBest_7 <;> (try rw [ucnt]) <;> (try (intros; omega))
        all_goals (intros; exact go)
  refine loop _ 0 _ rfl (by omega) (zfr_uF rfl zfr_0) ?_
  show zeC σ _ n (-1, 0, 0, 0)
  unfold zeC
  simp (disch := decide) only [zup_of, zup_oi, zup_same]
  exact ⟨trivial, Or.inl ⟨trivial, h13, h90⟩⟩
end FB
