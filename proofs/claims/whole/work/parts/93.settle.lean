/-! CALLS: plan, what is in the chest, and what a plan is worth -/
section ST
variable {G : zG} {σ : zS} {Q : Int → zS → Prop}
theorem zprp_mo {s t : zS} {Y n up : Int} (h : zprp σ s Y n up) (f : zfr [(83, some 12), (83, some 13), (88, none), (89, none), (90, none)] t s) : zprp σ t Y n up := by
  obtain ⟨h1, h2, h3, h4, h5, h6⟩ := h
  unfold zprp
  rw [zfr_at (q := 83) (j := 10) f rfl, zfr_at (q := 83) (j := 11) f rfl, zfr_row (q := 86) f rfl, zfr_row (q := 87) f rfl]
  exact ⟨zfr_tr h1 (zfr_mo rfl f), h2, h3, h4, h5, h6⟩
/-- balances and what is lowest from each year on -/
def zstlq (σ s : zS) (Y n up bits : Int) : Prop := (∀ k : Nat, (k : Int) < n → s 88 k = zbal σ Y n up bits (k + 1)) ∧ (∀ y x, 0 ≤ y → y ≤ n → x ≤ 2000000000 → (x ≤ s 89 y ↔ ∀ j : Nat, y ≤ j → (j : Int) < n → x ≤ zbal σ Y n up bits (j + 1))) ∧ ∀ y, 0 ≤ y → y ≤ n → s 89 y ≤ 2000000000
theorem okX7_settle {s : zS} {Y n up bits : Int} (hi : zinv σ) (hY : 0 ≤ Y ∧ Y ≤ 110) (hn : 1 ≤ n ∧ n ≤ 10) (hu : 0 ≤ up ∧ up ≤ 99999) (h : zprp σ s Y n up) (kq : ∀ u, zfr [(88, none), (89, none)] u s → zstlq σ u Y n up bits → Q 0 u) : zO G MX7_settle [zr 83, zi bits] s Q := by
  have hcnt := (g_zlse hi).1
  have h8 := (g_zlea hi).2.1
  have hbb := zbal_b (n := n) (bits := bits) hi hY hu
  obtain ⟨p1, p2, p3, p4, p5, p6⟩ := h
  refine TX7_settle ?_
  -- downward
  have down : ∀ (m : Nat) (v : Int) (y : Int) (u : zS), (y + 1).toNat = m → -1 ≤ y → y < n → zfr [(88, none), (89, none)] u s → (∀ k : Nat, (k : Int) < n → u 88 k = zbal σ Y n up bits (k + 1)) → (∀ z x, y < z → z ≤ n → x ≤ 2000000000 → (x ≤ u 89 z ↔ ∀ j : Nat, z ≤ j → (j : Int) < n → x ≤ zbal σ Y n up bits (j + 1))) → (∀ z, y < z → z ≤ n → u 89 z ≤ 2000000000) → zR G MX7_settle 95 [zr 83, zi bits, zi v, zi y, zu] [] u Q := by
    intro m
    induction m with
    | zero =>
      intro v y u hm y0 y1 f hb hl hx
      apply TX7_settle_95 <;> (try (intros; omega))
      intro _
      exact kq u f ⟨hb, fun z x a b => hl z x (by omega) b, fun z a b => hx z (by omega) b⟩
    | succ m ih =>
      intro v y u hm y0 y1 f hb hl hx
      have ey : ((y.toNat : Nat) : Int) = y := by omega
      have h88 := hb y.toNat (by omega)
      rw [ey] at h88
      have hbd := hbb (y.toNat + 1) (by omega)
      apply TX7_settle_95 <;> (try (intros; omega))
      intro _
      refine ih v (y + (-1)) _ (by omega) (by omega) (by omega) (zfr_uA rfl f) (fun k hk => by rw [zup_of (by decide)]; exact hb k hk) (fun z x a b hx2 => ?_) (fun z a b => ?_)
      · by_cases c : z = y
        · rw [c, zup_same]
          have h1 := hl (y + 1) x (by omega) (by omega) hx2
          constructor
          · intro hm2 j j0 j1
            have a1 : x ≤ u 88 y := Int.le_trans hm2 (Int.min_le_left _ _)
            have a2 : x ≤ u 89 (y + 1) := Int.le_trans hm2 (Int.min_le_right _ _)
            by_cases d : (j : Int) = y
            · have : j = y.toNat := by omega
              rw [this, ← h88]
              exact a1
            · exact h1.mp a2 j (by omega) j1
          · intro hj
            have a1 : x ≤ u 88 y := by rw [h88]; exact hj y.toNat (by omega) (by omega)
            have a2 : x ≤ u 89 (y + 1) := h1.mpr (fun j j0 j1 => hj j (by omega) j1)
            exact Int.le_min.mpr ⟨a1, a2⟩
        · rw [zup_oi c]
          exact hl z x (by omega) b hx2
      · by_cases c : z = y
        · rw [c, zup_same]
          exact Int.le_trans (Int.min_le_right _ _) (hx (y + 1) (by omega) (by omega))
        · rw [zup_oi c]
          exact hx z (by omega) b
  -- upward
  have upw : ∀ (m : Nat) (k : Nat) (v : Int) (u : zS), (n - k).toNat = m → (k : Int) ≤ n → zfr [(88, none)] u s → (∀ j : Nat, j < k → u 88 j = zbal σ Y n up bits (j + 1)) → ((k = 0 ∧ v = 0) ∨ (k ≠ 0 ∧ v = zbal σ Y n up bits k)) → zR G MX7_settle 4 [zr 83, zi bits, zi v, zi (k : Int), zu] [] u Q := by
    intro m
    induction m with
    | zero =>
      intro k v u hm k1 f hb hv
      have ek : (k : Int) = n := by omega
      have u10 : u 83 10 = n := by rw [zfr_at f rfl]; exact p2
      apply TX7_settle_4 <;> (try rw [u10]) <;> (try (intros; omega))
      intro _
      refine down _ v (n - 1) _ rfl (by omega) (by omega) (zfr_uA rfl (zfr_mo rfl f)) (fun j hj => by rw [zup_of (by decide)]; exact hb j (by omega)) (fun z x a b hx => ?_) (fun z a b => ?_)
      · have : z = n := by omega
        rw [this, zup_same]
        exact ⟨fun _ j j0 j1 => by omega, fun _ => hx⟩
      · have : z = n := by omega
        rw [this, zup_same]
        decide
    | succ m ih =>
      intro k v u hm k1 f hb hv
      have u10 : u 83 10 = n := by rw [zfr_at f rfl]; exact p2
      have u86 : u 86 k = zfw σ Y up k (σ 98 5).toNat := by rw [zfr_row (q := 86) f rfl]; exact p5 k (by omega) (by omega)
      have ucnt : u 68 11 = σ 98 5 := by rw [zfr_at (q := 68) f rfl, zfr_at (q := 68) p1 rfl]; exact hcnt
      have hbk := hbb k (by omega)
      have hdu := zpdu_b (y := k) (k := (σ 98 5).toNat) hi hY (by omega) (by omega)
      have hbase : v + u 86 k = zbal σ Y n up bits k + (-up) + zps (fun l => zdu σ Y l k) (σ 98 5).toNat := by
        rw [u86]
        unfold zfw
        rcases hv with ⟨e, e2⟩ | ⟨e, e2⟩
        · subst e
          rw [e2, if_pos (by omega), show zbal σ Y n up bits 0 = σ 98 8 from rfl]
          omega
        · rw [e2, if_neg (by omega)]
          omega
      have inner : ∀ (r : Nat) (l : Int), (σ 98 5 - l).toNat = r → 0 ≤ l → l ≤ σ 98 5 → zR G MX7_settle 24 [zr 83, zi bits, zi (v + u 86 k + zps (fun l => zgt σ Y n bits l k) l.toNat), zi k, zi l] [] u Q := by
        intro r
        induction r with
        | zero =>
          intro l hr l0 l1
          have el : l = σ 98 5 := by omega
          have hfin : v + u 86 k + zps (fun l => zgt σ Y n bits l k) l.toNat = zbal σ Y n up bits (k + 1) := by
            rw [hbase, el]
            rfl
          rw [hfin]
          apply TX7_settle_24 <;> (try rw [ucnt]) <;> (try (intros; omega))
          intro _
          refine ih (k + 1) _ _ (by omega) (by omega) (zfr_uA rfl f) (fun j hj => ?_) (Or.inr ⟨by omega, rfl⟩)
          by_cases c : j = k
          · rw [c, zup_same]
          · rw [zup_oi (by omega)]
            exact hb j (by omega)
        | succ r ihr =>
          intro l hr l0 l1
          have h87 : u 87 (10 * l + k) = zif2 (zen σ Y n l) (zgn σ Y l k) 0 := by rw [zfr_row (q := 87) f rfl]; exact p6 l k l0 (by omega) (by omega) (by omega)
          have hm2 : zand (zushr bits l) 1 * u 87 (10 * l + k) = zgt σ Y n bits l k := by
            rw [h87]
            unfold zgt
            by_cases c : zbit bits l
            · rw [(zb_and1 (x := bits) l0 (by omega)).1 c, Int.one_mul]
              by_cases d : zen σ Y n l
              · rw [zif2_y d, zif2_y ⟨c, d⟩]
              · rw [zif2_n d, zif2_n (fun z => d z.2)]
            · rw [(zb_and1 (x := bits) l0 (by omega)).2 c, Int.zero_mul, zif2_n (fun z => c z.1)]
          have hg := zgt_b (n := n) (bits := bits) (l := l) (y := k) hi ⟨l0, by omega⟩ hY (by omega)
          have hgs := zpgt_b (n := n) (bits := bits) (y := k) (k := l.toNat) hi hY (by omega) (by omega)
          have go := ihr (l + 1) (by omega) (by omega) (by omega)
          rw [zps_s l0, ← Int.add_assoc] at go
          apply TX7_settle_24 <;> (try rw [ucnt]) <;> (try rw [hm2]) <;> (try (intros; omega))
          all_goals (intros; exact go)
      have go := inner _ 0 rfl (by omega) h8.1
      rw [show (0 : Int).toNat = 0 from rfl, show zps (fun l => zgt σ Y n bits l k) 0 = 0 from rfl, Int.add_zero] at go
      apply TX7_settle_4 <;> (try rw [u10]) <;> (try (intros; omega))
      all_goals (intros; exact go)
  exact upw _ 0 0 s rfl (by omega) zfr_0 (fun j hj => absurd hj (by omega)) (Or.inl ⟨rfl, rfl⟩)
/-- what a roof brings -/
noncomputable def zgr (σ : zS) (n r y : Int) : Int := zif2 (y < n) (σ 85 r * (n - y) - σ 84 r) 0
noncomputable def zwo (σ : zS) (Y n up bits o t : Int) : Int := zbal σ Y n up bits n.toNat + zgr σ n 0 o + zgr σ n 1 t
/-- what the roofs have cost by the year k -/
noncomputable def zco (σ : zS) (o t k : Int) : Int := zif2 (o ≤ k) (σ 84 0) 0 + zif2 (t ≤ k) (σ 84 1) 0
/-- the floor is kept -/
def zkp (σ : zS) (Y n up bits fl o t : Int) : Prop := ∀ k : Nat, (k : Int) < n → fl ≤ zbal σ Y n up bits (k + 1) - zco σ o t k
/-- the years of the roofs -/
def zry (σ : zS) (n o t : Int) : Prop := (0 ≤ o ∧ o ≤ n) ∧ (0 ≤ t ∧ t ≤ n) ∧ (o < n → 0 < σ 98 10) ∧ (t < n → 1 < σ 98 10)
theorem zgr_b {n r y : Int} (hi : zinv σ) (hn : 1 ≤ n ∧ n ≤ 10) (hr : 0 ≤ r ∧ r < 2) (hy : 0 ≤ y) (h : y < n → r < σ 98 10) : -99999 ≤ zgr σ n r y ∧ zgr σ n r y ≤ 99990 := by
  unfold zgr
  by_cases c : y < n
  · rw [zif2_y c]
    have hf := g_zrfs hi
    have h1 := hf.2.1 r hr.1 hr.2
    have h2 := hf.2.2 r hr.1 (h c)
    have h3 := zmul_b (a := σ 85 r) (b := n - y) (A := 9999) (B := 10) (by omega) (by omega) (by omega) (by omega)
    omega
  · rw [zif2_n c]
    omega
theorem okX7_gainOfRoof {s : zS} {n r y : Int} (hi : zinv σ) (hn : 1 ≤ n ∧ n ≤ 10) (hr : 0 ≤ r ∧ r < 2) (hy : 0 ≤ y) (h : y < n → r < σ 98 10) (f : zfr zWP s σ) (h10 : s 83 10 = n) (kq : Q (zgr σ n r y) s) : zO G MX7_gainOfRoof [zr 83, zi r, zi y] s Q := by
  have e84 : s 84 r = σ 84 r := by rw [zfr_row f rfl]
  have e85 : s 85 r = σ 85 r := by rw [zfr_row f rfl]
  unfold zgr at kq
  by_cases c : y < n
  · rw [zif2_y c] at kq
    have hf := g_zrfs hi
    have h1 := hf.2.1 r hr.1 hr.2
    have h2 := hf.2.2 r hr.1 (h c)
    have h3 := zmul_b (a := σ 85 r) (b := n - y) (A := 9999) (B := 10) (by omega) (by omega) (by omega) (by omega)
    apply TX7_gainOfRoof <;> (try rw [h10]) <;> (try rw [e85]) <;> (try rw [e84]) <;> (try (intros; omega))
    all_goals (intros; exact kq)
  · rw [zif2_n c] at kq
    apply TX7_gainOfRoof <;> (try rw [h10]) <;> (try (intros; omega))
    all_goals (intros; exact kq)
theorem okX7_worthOf {s : zS} {Y n up bits o t : Int} (hi : zinv σ) (hY : 0 ≤ Y ∧ Y ≤ 110) (hn : 1 ≤ n ∧ n ≤ 10) (hu : 0 ≤ up ∧ up ≤ 99999) (hr : zry σ n o t) (h : zprp σ s Y n up) (hs : zstlq σ s Y n up bits) (kq : Q (zwo σ Y n up bits o t) s) : zO G MX7_worthOf [zr 83, zi o, zi t] s Q := by
  have hbb := zbal_b (n := n) (bits := bits) hi hY hu n.toNat (by omega)
  have h10 := h.2.1
  have h88 := hs.1 (n - 1).toNat (by omega)
  rw [show (((n - 1).toNat : Nat) : Int) = n - 1 from by omega, show (n - 1).toNat + 1 = n.toNat from by omega] at h88
  have g0 := zgr_b (r := 0) (y := o) hi hn (by omega) hr.1.1 hr.2.2.1
  have g1 := zgr_b (r := 1) (y := t) hi hn (by omega) hr.2.1.1 hr.2.2.2
  apply TX7_worthOf <;> (try rw [h10]) <;> (try (intros; omega))
  refine okX7_gainOfRoof hi hn (by omega) hr.1.1 hr.2.2.1 h.1 h10 ?_
  rw [h88]
  refine TX7_worthOf_17 (by omega) ?_
  refine okX7_gainOfRoof hi hn (by omega) hr.2.1.1 hr.2.2.2 h.1 h10 ?_
  exact TX7_worthOf_24 (by omega) kq
end ST
