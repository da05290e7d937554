/-! CALLS: plan, whether a plan keeps the floor (model) -/
section HM
variable {G : zG} {σ : zS} {Q : Int → zS → Prop}
/-- a roof's year as the model has it -/
def zty (n y v : Int) : Prop := (y = n ∧ v = -1) ∨ (y < n ∧ v = y)
theorem zlcmp_ge {x y : Int} (hx : -2147483648 ≤ x ∧ x < 2147483648) (hy : -2147483648 ≤ y ∧ y < 2147483648) : (zlcmp x y < 0 ↔ x < y) := zlcmp_lt (by unfold zLn; omega) (by unfold zLn; omega)
theorem zrnt_ex {l y : Int} {r : Int} (h : zrnt σ l y r) (e : σ 145 l = 0) : (y ≤ σ 144 l ∧ zrsv σ l y r) ∨ (σ 144 l < y ∧ r = σ 139 l) := by
  obtain ⟨x, hx, h⟩ := h
  rcases hx with ⟨_, ex⟩ | ⟨z, _⟩
  · rw [ex] at h; exact h
  · exact absurd e z
theorem okX12_holds {t : zS} {Y n up bits fl o q : Int} (hi : zinv σ) (eY : Y = σ 98 0 / 365) (hn : 1 ≤ n ∧ n ≤ 10) (hu : 0 ≤ up ∧ up ≤ 99999) (hfl : 0 ≤ fl ∧ fl ≤ 99999) (f : zfr zWx t σ)
    (hb : ∀ l, 0 ≤ l → l < σ 98 5 → zbit bits l → zen σ Y n l) (hr : zry σ n o q) (hy0 : 0 < σ 98 10 → zty n o (t 175 0)) (hy1 : 1 < σ 98 10 → zty n q (t 175 1))
    (k1 : zkp σ Y n up bits fl o q → Q 1 (zup t 98 105 (zwo σ Y n up bits o q)))
    (k2 : ∀ k : Nat, (k : Int) < n → (∀ j : Nat, j < k → fl ≤ zbal σ Y n up bits (j + 1) - zco σ o q j) → ¬ (fl ≤ zbal σ Y n up bits (k + 1) - zco σ o q k) → Q 0 (zup t 98 104 k)) : zO G MX12_holds_ [zr 98, zi bits, zi n, zi fl, zi up] t Q := by
  have hyr := zyear hi
  have hY : 0 ≤ Y ∧ Y ≤ 110 := by omega
  have h8 := (g_zlea hi).2.1
  have hrf := g_zrfs hi
  have hc := hrf.2.1
  have hr12 := hrf.1
  have c0 := hc 0 (by omega) (by omega)
  have c1 := hc 1 (by omega) (by omega)
  have hbb := zbal_b (n := n) (bits := bits) hi hY hu
  have t0 : t 98 0 = σ 98 0 := zfr_at f rfl
  have t5 : t 98 5 = σ 98 5 := zfr_at f rfl
  have t8 : t 98 8 = σ 98 8 := zfr_at f rfl
  have t10 : t 98 10 = σ 98 10 := zfr_at f rfl
  have t144 : t 144 = σ 144 := zfr_row f rfl
  have t145 : t 145 = σ 145 := zfr_row f rfl
  have t139 : t 139 = σ 139 := zfr_row f rfl
  have t143 : t 143 = σ 143 := zfr_row f rfl
  have t151 : t 151 = σ 151 := zfr_row f rfl
  have t155 : t 155 = σ 155 := zfr_row f rfl
  have t156 : t 156 = σ 156 := zfr_row f rfl
  have tlea : zlea t := zlea_ke (zfr_sm f rfl) (g_zlea hi)
  have ttb : ztbM t := ztbM_ke (zfr_sm f rfl) (g_ztbM hi)
  have tdea : zdea t := by
    have := zdea_of hi
    unfold zdea at this ⊢
    rw [zfr_at (q := 98) (j := 1) f rfl, zfr_row (q := 105) f rfl, zfr_row (q := 100) f rfl]
    exact this
  have tlif : ∀ l, 0 ≤ l → l < σ 98 5 → zlif t l := fun l a b => by
    have := ((g_zlse hi).2.1 l a b).2.2.2.1
    unfold zlif at this ⊢
    rw [zfr_at (q := 98) (j := 1) f rfl, t145]
    exact this
  have hco : ∀ k : Nat, (k : Int) < n → zco σ o q k = zco σ o q ((k : Int) - 1) + zif2 (o = k) (σ 84 0) 0 + zif2 (q = k) (σ 84 1) 0 := by
    intro k _
    unfold zco
    by_cases a : o = k <;> by_cases b : q = k
    · rw [zif2_y a, zif2_y b, zif2_y (by omega), zif2_y (by omega), zif2_n (by omega), zif2_n (by omega)]; omega
    · rw [zif2_y a, zif2_n b, zif2_y (p := o ≤ (k : Int)) (by omega), zif2_n (p := o ≤ (k : Int) - 1) (by omega)]
      by_cases d : q ≤ k
      · rw [zif2_y d, zif2_y (by omega)]; omega
      · rw [zif2_n d, zif2_n (by omega)]; omega
    · rw [zif2_n a, zif2_y b, zif2_y (p := q ≤ (k : Int)) (by omega), zif2_n (p := q ≤ (k : Int) - 1) (by omega)]
      by_cases d : o ≤ k
      · rw [zif2_y d, zif2_y (by omega)]; omega
      · rw [zif2_n d, zif2_n (by omega)]; omega
    · rw [zif2_n a, zif2_n b]
      by_cases d : q ≤ k <;> by_cases e : o ≤ k
      · rw [zif2_y d, zif2_y e, zif2_y (by omega), zif2_y (by omega)]; omega
      · rw [zif2_y d, zif2_n e, zif2_n (by omega), zif2_y (by omega)]; omega
      · rw [zif2_n d, zif2_y e, zif2_y (by omega), zif2_n (by omega)]; omega
      · rw [zif2_n d, zif2_n e, zif2_n (by omega), zif2_n (by omega)]; omega
  refine TX12_holds_ ?_
  -- the end: what roofs bring
  have fin : zkp σ Y n up bits fl o q → zR G MX12_holds_ 227 [zr 98, zi bits, zi n, zi fl, zi up, zl (zbal σ Y n up bits n.toNat - zco σ o q (n - 1)), zu, zi 0, zu, zu, zu] [] t Q := by
    intro hk
    have bn := hbb n.toNat (by omega)
    have bc := zco_b (o := o) (t := q) (k := n - 1) hc
    have g0 := zgr_b (r := 0) (y := o) hi hn (by omega) hr.1.1 hr.2.2.1
    have g1 := zgr_b (r := 1) (y := q) hi hn (by omega) hr.2.1.1 hr.2.2.2
    have gg : ∀ r y : Int, 0 ≤ r → r < 2 → r < σ 98 10 → 0 ≤ y → y ≤ n → zty n y (t 175 r) → (t 175 r = -1 ∧ zgr σ n r y + zif2 (y ≤ n - 1) (σ 84 r) 0 = 0) ∨ (t 175 r ≠ -1 ∧ σ 156 r * (n - t 175 r) = zgr σ n r y + zif2 (y ≤ n - 1) (σ 84 r) 0 ∧ 0 ≤ t 175 r ∧ t 175 r ≤ n ∧ 0 ≤ σ 156 r * (n - t 175 r) ∧ σ 156 r * (n - t 175 r) ≤ 99990) := by
      intro r y r0 r1 r2 y0 yn hz
      have h2 := hrf.2.2 r r0 r2
      unfold zgr
      rcases hz with ⟨a, b⟩ | ⟨a, b⟩
      · left
        rw [zif2_n (by omega), zif2_n (by omega)]
        exact ⟨b, rfl⟩
      · right
        rw [zif2_y a, zif2_y (by omega), b, h2.2.1]
        have h3 := zmul_b (a := σ 156 r) (b := n - y) (A := 9999) (B := 10) (by omega) (by omega) (by omega) (by omega)
        omega
    have last : ∀ v : Int, v = zwo σ Y n up bits o q → ∀ r, σ 98 10 ≤ r → zR G MX12_holds_ 227 [zr 98, zi bits, zi n, zi fl, zi up, zl v, zu, zi r, zu, zu, zu] [] t Q := by
      intro v ev r hr2
      apply TX12_holds__227 <;> (try rw [t10]) <;> (try (intros; omega))
      intro _
      have hw : -2147483648 ≤ v ∧ v < 2147483648 := by
        rw [ev]
        unfold zwo
        omega
      rw [zW_eq hw.1 hw.2, ev]
      exact k1 hk
    have bz : zbal σ Y n up bits n.toNat - zco σ o q (n - 1) = zbal σ Y n up bits n.toNat - zif2 (o ≤ n - 1) (σ 84 0) 0 - zif2 (q ≤ n - 1) (σ 84 1) 0 := by
      unfold zco
      omega
    by_cases r1 : 0 < σ 98 10
    · have G0 := gg 0 o (by omega) (by omega) r1 hr.1.1 hr.1.2 (hy0 r1)
      have two : ∀ v : Int, v = zbal σ Y n up bits n.toNat + zgr σ n 0 o - zif2 (q ≤ n - 1) (σ 84 1) 0 → zR G MX12_holds_ 227 [zr 98, zi bits, zi n, zi fl, zi up, zl v, zu, zi 1, zu, zu, zu] [] t Q := by
        intro v ev
        have cb1 : 0 ≤ zif2 (q ≤ n - 1) (σ 84 1) 0 ∧ zif2 (q ≤ n - 1) (σ 84 1) 0 ≤ 99999 := by
          by_cases d : q ≤ n - 1
          · rw [zif2_y d]; exact c1
          · rw [zif2_n d]; omega
        by_cases r2 : 1 < σ 98 10
        · have G1 := gg 1 q (by omega) (by omega) r2 hr.2.1.1 hr.2.1.2 (hy1 r2)
          rcases G1 with ⟨a, b⟩ | ⟨a, b, d, e, b1, b2⟩
          · have go := last v (by rw [ev]; unfold zwo; omega) (1 + 1) (by omega)
            apply TX12_holds__227 <;> (try rw [t10]) <;> (try (intros; omega))
            all_goals (intros; exact go)
          · have go := last (v + t 156 1 * (n - t 175 1)) (by rw [ev, t156, b]; unfold zwo; omega) (1 + 1) (by omega)
            rw [t156] at go
            apply TX12_holds__227 <;> (try rw [t10]) <;> (try rw [t156]) <;> (try (intros; omega))
            all_goals (intros; exact go)
        · have e1 : zgr σ n 1 q = 0 := zif2_n (fun z => by have := hr.2.2.2 z; omega)
          have e2 : zif2 (q ≤ n - 1) (σ 84 1) 0 = 0 := zif2_n (fun z => by have := hr.2.2.2 (by omega); omega)
          exact last v (by rw [ev, e2]; unfold zwo; omega) 1 (by omega)
      rcases G0 with ⟨a, b⟩ | ⟨a, b, d, e, b1, b2⟩
      · have go := two (zbal σ Y n up bits n.toNat - zco σ o q (n - 1)) (by omega)
        rw [show (1 : Int) = 0 + 1 from rfl] at go
        apply TX12_holds__227 <;> (try rw [t10]) <;> (try (intros; omega))
        all_goals (intros; exact go)
      · have go := two (zbal σ Y n up bits n.toNat - zco σ o q (n - 1) + t 156 0 * (n - t 175 0)) (by rw [t156, b]; omega)
        rw [t156, show (1 : Int) = 0 + 1 from rfl] at go
        apply TX12_holds__227 <;> (try rw [t10]) <;> (try rw [t156]) <;> (try (intros; omega))
        all_goals (intros; exact go)
    · have e1 : zgr σ n 0 o = 0 := zif2_n (fun z => by have := hr.2.2.1 z; omega)
      have e2 : zgr σ n 1 q = 0 := zif2_n (fun z => by have := hr.2.2.2 z; omega)
      have e3 : zif2 (o ≤ n - 1) (σ 84 0) 0 = 0 := zif2_n (fun z => by have := hr.2.2.1 (by omega); omega)
      have e4 : zif2 (q ≤ n - 1) (σ 84 1) 0 = 0 := zif2_n (fun z => by have := hr.2.2.2 (by omega); omega)
      exact last _ (by unfold zwo; omega) 0 (by omega)
  -- the years
  have years : ∀ (m : Nat) (k : Nat), (n - k).toNat = m → (k : Int) ≤ n → (∀ j : Nat, j < k → fl ≤ zbal σ Y n up bits (j + 1) - zco σ o q j) → zR G MX12_holds_ 10 [zr 98, zi bits, zi n, zi fl, zi up, zl (zbal σ Y n up bits k - zco σ o q ((k : Int) - 1)), zu, zi k, zu, zu, zu] [] t Q := by
    intro m
    induction m with
    | zero =>
      intro k hm hk hj
      have ek : (k : Int) = n := by omega
      have go := fin (fun j j1 => hj j (by omega))
      rw [show k = n.toNat from by omega, show ((n.toNat : Nat) : Int) = n from by omega]
      apply TX12_holds__10 <;> (try (intros; omega))
      all_goals (intros; exact go)
    | succ m ih =>
      intro k hm hk hj
      have bk := hbb k (by omega)
      have bk1 := hbb (k + 1) (by omega)
      have bc := zco_b (o := o) (t := q) (k := (k : Int) - 1) hc
      have bck := zco_b (o := o) (t := q) (k := (k : Int)) hc
      have hck := hco k (by omega)
      -- roofs of the year
      have tail : zR G MX12_holds_ 162 [zr 98, zi bits, zi n, zi fl, zi up, zl (zbal σ Y n up bits (k + 1) - zco σ o q ((k : Int) - 1)), zu, zi k, zi (Y + k), zi 0, zu] [] t Q := by
        have last : ∀ v : Int, v = zbal σ Y n up bits (k + 1) - zco σ o q k → ∀ r, σ 98 10 ≤ r → zR G MX12_holds_ 162 [zr 98, zi bits, zi n, zi fl, zi up, zl v, zu, zi k, zi (Y + k), zi r, zu] [] t Q := by
          intro v ev r hr2
          have hcm := zlcmp_ge (x := v) (y := fl) (by omega) (by omega)
          by_cases d : v < fl
          · have d2 := hcm.mpr d
            apply TX12_holds__162 <;> (try rw [t10]) <;> (try (intros; omega))
            intro _ _
            exact k2 k (by omega) hj (by omega)
          · have d2 : ¬ (zlcmp v fl < 0) := fun z => d (hcm.mp z)
            have go := ih (k + 1) (by omega) (by omega) (fun j hj2 => by
              by_cases e : j = k
              · rw [e]; omega
              · exact hj j (by omega))
            rw [show ((k + 1 : Nat) : Int) - 1 = (k : Int) from by omega, show ((k + 1 : Nat) : Int) = (k : Int) + 1 from by omega, ← ev] at go
            apply TX12_holds__162 <;> (try rw [t10]) <;> (try (intros; omega))
            all_goals (intros; exact go)
        have cy : ∀ r y : Int, 0 ≤ y → y ≤ n → zty n y (t 175 r) → (t 175 r = (k : Int) ↔ y = k) := by
          intro r y y0 y1 hz
          rcases hz with ⟨a, b⟩ | ⟨a, b⟩
          · rw [b]
            constructor
            · intro z; omega
            · intro z; omega
          · rw [b]
        by_cases r1 : 0 < σ 98 10
        · have h0 := cy 0 o hr.1.1 hr.1.2 (hy0 r1)
          have e0 := (hrf.2.2 0 (by omega) r1).1
          have two : ∀ v : Int, v = zbal σ Y n up bits (k + 1) - zco σ o q ((k : Int) - 1) - zif2 (o = k) (σ 84 0) 0 → zR G MX12_holds_ 162 [zr 98, zi bits, zi n, zi fl, zi up, zl v, zu, zi k, zi (Y + k), zi 1, zu] [] t Q := by
            intro v ev
            have cb0 : 0 ≤ zif2 (o = k) (σ 84 0) 0 ∧ zif2 (o = k) (σ 84 0) 0 ≤ 99999 := by
              by_cases d : o = k
              · rw [zif2_y d]; exact c0
              · rw [zif2_n d]; omega
            by_cases r2 : 1 < σ 98 10
            · have h1 := cy 1 q hr.2.1.1 hr.2.1.2 (hy1 r2)
              have e1 := (hrf.2.2 1 (by omega) r2).1
              by_cases d : q = k
              · have d2 := h1.mpr d
                rw [zif2_y d] at hck
                have go := last (v - t 155 1) (by rw [t155, ← e1]; omega) (1 + 1) (by omega)
                rw [t155] at go
                apply TX12_holds__162 <;> (try rw [t10]) <;> (try rw [t155]) <;> (try (intros; omega))
                all_goals (intros; exact go)
              · have d2 : ¬ t 175 1 = (k : Int) := fun z => d (h1.mp z)
                rw [zif2_n d] at hck
                have go := last v (by omega) (1 + 1) (by omega)
                apply TX12_holds__162 <;> (try rw [t10]) <;> (try (intros; omega))
                all_goals (intros; exact go)
            · have e1 : zif2 (q = k) (σ 84 1) 0 = 0 := zif2_n (fun z => by have := hr.2.2.2 (by omega); omega)
              exact last v (by omega) 1 (by omega)
          by_cases d : o = k
          · have d2 := h0.mpr d
            have go := two (zbal σ Y n up bits (k + 1) - zco σ o q ((k : Int) - 1) - t 155 0) (by rw [t155, zif2_y d, e0])
            rw [t155, show (1 : Int) = 0 + 1 from rfl] at go
            apply TX12_holds__162 <;> (try rw [t10]) <;> (try rw [t155]) <;> (try (intros; omega))
            all_goals (intros; exact go)
          · have d2 : ¬ t 175 0 = (k : Int) := fun z => d (h0.mp z)
            have go := two (zbal σ Y n up bits (k + 1) - zco σ o q ((k : Int) - 1)) (by rw [zif2_n d]; omega)
            rw [show zi (1 : Int) = zi (0 + 1) from rfl] at go
            apply TX12_holds__162 <;> (try rw [t10]) <;> (try (intros; omega))
            all_goals (intros; exact go)
        · have e1 : zif2 (o = k) (σ 84 0) 0 = 0 := zif2_n (fun z => by have := hr.2.2.1 (by omega); omega)
          have e2 : zif2 (q = k) (σ 84 1) 0 = 0 := zif2_n (fun z => by have := hr.2.2.2 (by omega); omega)
          exact last _ (by omega) 0 (by omega)
      -- leases of the year
      have both : ∀ L : Nat, zps (fun l => zdu σ Y l k + zgt σ Y n bits l k) L = zps (fun l => zdu σ Y l k) L + zps (fun l => zgt σ Y n bits l k) L := by
        intro L
        induction L with
        | zero => rfl
        | succ L ihL =>
          show zps (fun l => zdu σ Y l k + zgt σ Y n bits l k) L + (zdu σ Y L k + zgt σ Y n bits L k) = (zps (fun l => zdu σ Y l k) L + zdu σ Y L k) + (zps (fun l => zgt σ Y n bits l k) L + zgt σ Y n bits L k)
          omega
      have lease : ∀ (r : Nat) (l : Int), (σ 98 5 - l).toNat = r → 0 ≤ l → l ≤ σ 98 5 → zR G MX12_holds_ 28 [zr 98, zi bits, zi n, zi fl, zi up, zl (zbal σ Y n up bits k - zco σ o q ((k : Int) - 1) + zps (fun l => zdu σ Y l k + zgt σ Y n bits l k) l.toNat), zu, zi k, zi (Y + k), zi l, zu] [] t Q := by
        intro r
        induction r with
        | zero =>
          intro l hr2 l0 l1
          have el : l = σ 98 5 := by omega
          have b1 := zpdu_b (y := k) (k := (σ 98 5).toNat) hi hY (by omega) (by omega)
          have b2 := zpgt_b (n := n) (bits := bits) (y := k) (k := (σ 98 5).toNat) hi hY (by omega) (by omega)
          rw [both, el]
          have hs : zbal σ Y n up bits (k + 1) = zbal σ Y n up bits k + (-up) + zps (fun l => zdu σ Y l k) (σ 98 5).toNat + zps (fun l => zgt σ Y n bits l k) (σ 98 5).toNat := rfl
          have he : zbal σ Y n up bits k - zco σ o q ((k : Int) - 1) + (zps (fun l => zdu σ Y l k) (σ 98 5).toNat + zps (fun l => zgt σ Y n bits l k) (σ 98 5).toNat) - up = zbal σ Y n up bits (k + 1) - zco σ o q ((k : Int) - 1) := by omega
          have go := tail
          rw [← he] at go
          apply TX12_holds__28 <;> (try rw [t5]) <;> (try (intros; omega))
          all_goals (intros; exact go)
        | succ r ihr =>
          intro l hr2 l0 l1
          have b1 := zpdu_b (y := k) (k := l.toNat) hi hY (by omega) (by omega)
          have b2 := zpgt_b (n := n) (bits := bits) (y := k) (k := l.toNat) hi hY (by omega) (by omega)
          have b3 := zdu_b (l := l) (y := k) hi ⟨l0, by omega⟩ hY (by omega)
          have b4 := zgt_b (n := n) (bits := bits) (l := l) (y := k) hi ⟨l0, by omega⟩ hY (by omega)
          have hbo := both l.toNat
          have hls := (g_zlse hi).2.1 l l0 (by omega)
          have hle := (g_zlea hi).2.2 l l0 (by omega)
          have go := ihr (l + 1) (by omega) (by omega) (by omega)
          rw [zps_s l0] at go
          generalize zps (fun l => zdu σ Y l k + zgt σ Y n bits l k) l.toNat = S at go hbo ⊢
          by_cases bit : zbit bits l
          · have hen := hb l l0 (by omega) bit
            obtain ⟨hen1, hen2, hen3⟩ := hen
            have hz := (zb_shr1 (x := bits) l0 (by omega)).1 bit
            have hgt : zgt σ Y n bits l k = zgn σ Y l k := zif2_y ⟨bit, hen1, hen2, hen3⟩
            by_cases p1 : σ 144 l ≤ Y + k
            · by_cases p2 : Y + k = σ 144 l
              · -- the year it ends
                have hgn : zgn σ Y l k = zfin σ l 0 := by
                  unfold zgn
                  rw [if_neg (by omega), if_pos p2]
                have hfb := zfin_b (l := l) (left := 0) (g_ztbM hi) hle.1 hls.2.2.1.1 (by omega)
                apply TX12_holds__28 <;> (try rw [t5]) <;> (try rw [t144]) <;> (try rw [t151]) <;> (try (intros; omega))
                intro _ _ _ _
                refine okX12_fine ttb (by omega) (by rw [t139]; exact hle.1) (by rw [t143]; exact hls.2.2.1.1) (by omega) ?_
                rw [zfin_cg f]
                by_cases sk : (k : Int) = 0 ∧ σ 151 (Y + k) ≠ 0
                · have sk1 := sk.1
                  have sk2 := sk.2
                  have hdu : zdu σ Y l k = 0 := zif2_y ⟨sk.1, by rw [show Y = Y + (k : Int) from by omega]; exact sk.2⟩
                  rw [hdu, hgt, hgn, Int.zero_add, ← Int.add_assoc] at go
                  apply TX12_holds__92 <;> (try rw [t151]) <;> (try (intros; omega))
                  all_goals (intros; exact go)
                · have sk' : (k : Int) ≠ 0 ∨ ((k : Int) = 0 ∧ σ 151 (Y + k) = 0) := by
                    by_cases x : (k : Int) = 0
                    · by_cases x2 : σ 151 (Y + k) = 0
                      · exact Or.inr ⟨x, x2⟩
                      · exact absurd ⟨x, x2⟩ sk
                    · exact Or.inl x
                  have hdu : zdu σ Y l k = zrF σ l (Y + k) := zif2_n (fun z => sk ⟨z.1, by rw [show Y + (k : Int) = Y from by have := z.1; omega]; exact z.2⟩)
                  apply TX12_holds__92 <;> (try rw [t151]) <;> (try (intros; omega))
                  intro _ _
                  refine okX12_asBefore tlea (by omega) (by omega) (fun x hx => ?_)
                  have hx2 := zrsv_cg f hx
                  have hxb := zrsv_b hi ⟨l0, by omega⟩ (by omega) hx2
                  have ex : zrF σ l (Y + k) = x := zrF_e ⟨σ 144 l, Or.inl ⟨hen1, rfl⟩, Or.inl ⟨by omega, hx2⟩⟩
                  rw [hdu, ex, hgt, hgn, show S + (x + zfin σ l 0) = S + zfin σ l 0 + x from by omega, show zbal σ Y n up bits k - zco σ o q ((k : Int) - 1) + (S + zfin σ l 0 + x) = zbal σ Y n up bits k - zco σ o q ((k : Int) - 1) + S + zfin σ l 0 + x from by omega] at go
                  apply TX12_holds__129 <;> (try (intros; omega))
                  all_goals (intros; exact go)
              · -- behind it
                have hgn : zgn σ Y l k = zvF σ l (Y + k) - σ 139 l := by
                  unfold zgn
                  rw [if_neg (by omega), if_neg p2]
                apply TX12_holds__28 <;> (try rw [t5]) <;> (try rw [t144]) <;> (try rw [t151]) <;> (try (intros; omega))
                intro _ _ _ _ _
                refine okX12_asBefore tlea (by omega) (by omega) (fun x hx => ?_)
                have hx2 := zrsv_cg f hx
                have hxb := zrsv_b hi ⟨l0, by omega⟩ (by omega) hx2
                have ex := zvF_e hx2
                have er : zrF σ l (Y + k) = σ 139 l := zrF_e ⟨σ 144 l, Or.inl ⟨hen1, rfl⟩, Or.inr ⟨by omega, rfl⟩⟩
                have hdu : zdu σ Y l k = σ 139 l := by
                  rw [← er]
                  exact zif2_n (fun z => by have := z.1; omega)
                rw [hdu, hgt, hgn, ex, show zbal σ Y n up bits k - zco σ o q ((k : Int) - 1) + (S + (σ 139 l + (x - σ 139 l))) = zbal σ Y n up bits k - zco σ o q ((k : Int) - 1) + S + x from by omega] at go
                apply TX12_holds__129 <;> (try (intros; omega))
                all_goals (intros; exact go)
            · -- before it ends
              have hgn : zgn σ Y l k = 0 := by
                unfold zgn
                rw [if_pos (by omega)]
              rw [hgt, hgn, Int.add_zero] at go
              by_cases sk : (k : Int) = 0 ∧ σ 151 (Y + k) ≠ 0
              · have sk1 := sk.1
                have sk2 := sk.2
                have hdu : zdu σ Y l k = 0 := zif2_y ⟨sk.1, by rw [show Y = Y + (k : Int) from by omega]; exact sk.2⟩
                rw [hdu, Int.add_zero] at go
                apply TX12_holds__28 <;> (try rw [t5]) <;> (try rw [t144]) <;> (try rw [t151]) <;> (try (intros; omega))
                all_goals (intros; exact go)
              · have sk' : (k : Int) ≠ 0 ∨ ((k : Int) = 0 ∧ σ 151 (Y + k) = 0) := by
                  by_cases x : (k : Int) = 0
                  · by_cases x2 : σ 151 (Y + k) = 0
                    · exact Or.inr ⟨x, x2⟩
                    · exact absurd ⟨x, x2⟩ sk
                  · exact Or.inl x
                have hdu : zdu σ Y l k = zrF σ l (Y + k) := zif2_n (fun z => sk ⟨z.1, by rw [show Y + (k : Int) = Y from by have := z.1; omega]; exact z.2⟩)
                apply TX12_holds__28 <;> (try rw [t5]) <;> (try rw [t144]) <;> (try rw [t151]) <;> (try (intros; omega))
                intro _ _ _
                refine okX12_rentOf tdea tlea (tlif l l0 (by omega)) (by omega) (by omega) (fun x hx => ?_)
                have hx2 := zrnt_cg f hx
                have hxb := zrnt_b hi ⟨l0, by omega⟩ (by omega) hx2
                rw [hdu, zrF_e hx2, ← Int.add_assoc] at go
                apply TX12_holds__141 <;> (try (intros; omega))
                all_goals (intros; exact go)
          · have hz := (zb_shr1 (x := bits) l0 (by omega)).2 bit
            have hgt : zgt σ Y n bits l k = 0 := zif2_n (fun z => bit z.1)
            rw [hgt, Int.add_zero] at go
            by_cases sk : (k : Int) = 0 ∧ σ 151 (Y + k) ≠ 0
            · have sk1 := sk.1
              have sk2 := sk.2
              have hdu : zdu σ Y l k = 0 := zif2_y ⟨sk.1, by rw [show Y = Y + (k : Int) from by omega]; exact sk.2⟩
              rw [hdu, Int.add_zero] at go
              apply TX12_holds__28 <;> (try rw [t5]) <;> (try rw [t144]) <;> (try rw [t151]) <;> (try (intros; omega))
              all_goals (intros; exact go)
            · have sk' : (k : Int) ≠ 0 ∨ ((k : Int) = 0 ∧ σ 151 (Y + k) = 0) := by
                by_cases x : (k : Int) = 0
                · by_cases x2 : σ 151 (Y + k) = 0
                  · exact Or.inr ⟨x, x2⟩
                  · exact absurd ⟨x, x2⟩ sk
                · exact Or.inl x
              have hdu : zdu σ Y l k = zrF σ l (Y + k) := zif2_n (fun z => sk ⟨z.1, by rw [show Y + (k : Int) = Y from by have := z.1; omega]; exact z.2⟩)
              apply TX12_holds__28 <;> (try rw [t5]) <;> (try rw [t144]) <;> (try rw [t151]) <;> (try (intros; omega))
              intro _ _ _
              refine okX12_rentOf tdea tlea (tlif l l0 (by omega)) (by omega) (by omega) (fun x hx => ?_)
              have hx2 := zrnt_cg f hx
              have hxb := zrnt_b hi ⟨l0, by omega⟩ (by omega) hx2
              rw [hdu, zrF_e hx2, ← Int.add_assoc] at go
              apply TX12_holds__141 <;> (try (intros; omega))
              all_goals (intros; exact go)
      have go := lease _ 0 rfl (by omega) h8.1
      rw [show (0 : Int).toNat = 0 from rfl, show zps (fun l => zdu σ Y l k + zgt σ Y n bits l k) 0 = 0 from rfl, Int.add_zero] at go
      have hy : zdiv (t 98 0) 365 = Y := by rw [t0, hyr.1, eY]
      apply TX12_holds__10 <;> (try rw [hy]) <;> (try (intros; omega))
      all_goals (intros; exact go)
  have go := years _ 0 rfl (by omega) (fun j hj => absurd hj (by omega))
  have z0 : zco σ o q (((0 : Nat) : Int) - 1) = 0 := by
    unfold zco
    rw [zif2_n (by have := hr.1.1; omega), zif2_n (by have := hr.2.1.1; omega)]
    rfl
  rw [z0, Int.sub_zero, show zbal σ Y n up bits 0 = σ 98 8 from rfl] at go
  rw [t8]
  exact go
end HM
