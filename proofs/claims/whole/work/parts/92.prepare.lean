/-! CALLS: plan, the class prepares -/
section PR
variable {G : zG} {σ : zS} {Q : Int → zS → Prop}
theorem okX7_gain {t : zS} {l Y e n : Int} (hi : zinv t) (hl : 0 ≤ l ∧ l < t 98 5) (hlv : t 145 l = 0) (hY : 0 ≤ Y ∧ Y ≤ 110) (he : 0 ≤ e ∧ e < n) (hn10 : n ≤ 10) (hn : t 83 10 = n)
    (kq : ∀ s : zS, zfr [(87, none)] s t → s 87 (10 * l + e) = zfin t l 0 → (∀ y, e < y → y < n → s 87 (10 * l + y) = zvF t l (Y + y) - t 139 l) → (∀ j, j < 10 * l + e ∨ 10 * l + n ≤ j → s 87 j = t 87 j) → Q 0 s) : zO G MX7_gainByRenewing [zr 83, zi l, zi Y, zi e] t Q := by
  have ha := g_zlea hi
  have hal := ha.2.2 l hl.1 hl.2
  have h8 := ha.2.1
  have hs := (g_zlse hi).2.1 l hl.1 hl.2
  have hsC := hs.1
  have hT := g_ztbM hi
  apply TX7_gainByRenewing <;> (try (intros; omega))
  refine okX4_fineFor hT (g_ztbC hi) (by omega) hal.1 hs.2.2.1.1 (by omega) hsC.2.2.1 (hsC.2.1 hlv).2 ?_
  apply TX7_gainByRenewing_23 <;> (try (intros; omega))
  have loop : ∀ (m : Nat) (y : Int) (s : zS), (n - y).toNat = m → e < y → y ≤ n → zfr [(87, none)] s t → s 87 (10 * l + e) = zfin t l 0 → (∀ x, e < x → x < y → s 87 (10 * l + x) = zvF t l (Y + x) - t 139 l) → (∀ j, j < 10 * l + e ∨ 10 * l + n ≤ j → s 87 j = t 87 j) → zR G MX7_gainByRenewing 29 [zr 83, zi l, zi Y, zi e, zi (10 * l), zi y] [] s Q := by
    intro m
    induction m with
    | zero =>
      intro y s hm y0 y1 f h1 h2 h3
      have en : s 83 10 = n := by rw [zfr_at f rfl]; exact hn
      apply TX7_gainByRenewing_29 <;> (try rw [en]) <;> (try (intros; omega))
      intro _
      exact kq s f h1 (fun x a b => h2 x a (by omega)) h3
    | succ m ih =>
      intro y s hm y0 y1 f h1 h2 h3
      have en : s 83 10 = n := by rw [zfr_at f rfl]; exact hn
      have hv : s 69 l = t 139 l := by rw [zfr_row (q := 69) f rfl]; exact hsC.2.2.1
      have q98 : s 98 = t 98 := zfr_row f rfl
      apply TX7_gainByRenewing_29 <;> (try rw [en]) <;> (try (intros; omega))
      intro _
      have his : zinv s := zinv_sc (zfr_mo rfl f) hi
      refine okX4_reservedIn (g_zlea his) (g_zpriC his) (by rw [q98]; exact hl) (by omega) (by rw [zfr_row (q := 70) f rfl, zfr_row (q := 140) f rfl]; exact hsC.2.2.2.1) (by rw [zfr_row (q := 71) f rfl, zfr_row (q := 141) f rfl]; exact hsC.2.2.2.2.1) (by rw [zfr_row (q := 72) f rfl, zfr_row (q := 142) f rfl]; exact hsC.2.2.2.2.2) (fun r hr => ?_)
      have hr2 : zrsv t l (Y + y) r := zrsv_cg (zfr_mo rfl f) hr
      have hrb := zrsv_b hi hl (by omega) hr2
      have ev := zvF_e hr2
      apply TX7_gainByRenewing_59 <;> (try rw [hv]) <;> (try (intros; omega))
      refine ih (y + 1) _ (by omega) (by omega) (by omega) (zfr_uA rfl f) (by rw [zup_oi (by omega)]; exact h1) (fun x x0 x1 => ?_) (fun j hj => by rw [zup_oi (by omega)]; exact h3 j hj)
      by_cases c : x = y
      · rw [c, zup_same, ev]
      · rw [zup_oi (by omega)]
        exact h2 x x0 (by omega)
  refine loop _ (e + 1) _ rfl (by omega) (by omega) (zfr_uA rfl zfr_0) (by rw [zup_same]) (fun x a b => by omega) (fun j hj => by rw [zup_oi (by omega)])
/-- what prepare leaves -/
abbrev zWP : zPl := [(83, some 10), (83, some 11), (83, some 12), (83, some 13), (86, none), (87, none), (88, none), (89, none), (90, none)]
def zprp (σ s : zS) (Y n up : Int) : Prop := zfr zWP s σ ∧ s 83 10 = n ∧ zIn (s 83 11) ∧ (∀ j, 0 ≤ j → j < 32 → (zbit (s 83 11) j ↔ j < σ 98 5 ∧ zen σ Y n j)) ∧ (∀ y, 0 ≤ y → y < n → s 86 y = zfw σ Y up y (σ 98 5).toNat) ∧ ∀ l y, 0 ≤ l → l < σ 98 5 → 0 ≤ y → y < n → s 87 (10 * l + y) = zif2 (zen σ Y n l) (zgn σ Y l y) 0
theorem okX7_prepare {n up Y : Int} (hi : zinv σ) (eY : Y = σ 98 0 / 365) (hn : 1 ≤ n ∧ n ≤ 10) (hu : 0 ≤ up ∧ up ≤ 99999) (kq : ∀ s, zfr [(83, some 10), (83, some 11), (86, none), (87, none)] s σ → zprp σ s Y n up → Q 0 s) : zO G MX7_prepare [zr 83, zi Y, zi n, zi up] σ Q := by
  have hy := zyear hi
  have hY : 0 ≤ Y ∧ Y ≤ 110 := by omega
  have hlse := g_zlse hi
  have hcnt := hlse.1
  have h8 := (g_zlea hi).2.1
  have hc := g_zche hi
  have hc1 := hc.1
  have hc3 := hc.2.2.1
  have hc4 := hc.2.2.2
  have hyr := (g_zyrs hi).1
  have htold := zyr_told hyr hi
  apply TX7_prepare <;> (try (intros; omega))
  refine okFillI (n := 10) (by decide +kernel) (by decide) (TX7_prepare_19 (okFillI (n := 80) (by decide +kernel) (by decide) ?_))
  generalize ht0 : zfl (zfl (zup (zup σ 83 10 n) 83 11 0) 86 10 (-up)) 87 80 0 = t0
  have f0 : zfr [(83, some 10), (83, some 11), (86, none), (87, none)] t0 σ := by rw [← ht0]; exact (by repeat (first | exact zfr_0 | refine zfr_uF rfl ?_ | refine zfr_uA rfl ?_ | refine zfr_cp rfl ?_ | refine zfr_fl rfl ?_ | refine zfr_s0 rfl (by omega) ?_ | refine zfr_sl rfl (by omega) ?_ | refine zfr_sc rfl (by omega) ?_))
  have a86 : ∀ y, 0 ≤ y → y < 10 → t0 86 y = -up := fun y a b => by
    rw [← ht0]
    unfold zfl
    rw [if_neg (by omega), if_pos (by omega)]
  have a87 : ∀ y, 0 ≤ y → y < 80 → t0 87 y = 0 := fun y a b => by
    rw [← ht0]
    unfold zfl
    rw [if_pos (by omega)]
  have a10 : t0 83 10 = n := by
    rw [← ht0]
    unfold zfl
    rw [if_neg (by omega), if_neg (by omega), zup_oi (by decide), zup_same]
  have a11 : t0 83 11 = 0 := by
    rw [← ht0]
    unfold zfl
    rw [if_neg (by omega), if_neg (by omega), zup_same]
  have c3 : t0 79 3 = σ 98 8 := by rw [zfr_at f0 rfl]; exact hc1
  have c5 : t0 79 5 = σ 79 5 := zfr_at f0 rfl
  have a860 := a86 0 (by omega) (by omega)
  -- the leases
  have main : ∀ paid : Int, ((paid = 0 ∧ σ 151 Y = 0) ∨ (paid = 1 ∧ σ 151 Y ≠ 0)) → zR G MX7_prepare 64 [zr 83, zi Y, zi n, zi up, zi paid, zi 0, zu, zu] [] (zup t0 86 0 (t0 86 0 + t0 79 3)) Q := by
    intro paid hpaid
    have loop : ∀ (m : Nat) (i : Int) (t : zS), (σ 98 5 - i).toNat = m → 0 ≤ i → i ≤ σ 98 5 → zfr [(83, some 10), (83, some 11), (86, none), (87, none)] t σ → t 83 10 = n → zIn (t 83 11) → (∀ j, 0 ≤ j → j < 32 → (zbit (t 83 11) j ↔ j < i ∧ zen σ Y n j)) → (∀ y, 0 ≤ y → y < n → t 86 y = zfw σ Y up y i.toNat) → (∀ l y, 0 ≤ l → l < σ 98 5 → 0 ≤ y → y < n → t 87 (10 * l + y) = zif2 (l < i ∧ zen σ Y n l) (zgn σ Y l y) 0) → zR G MX7_prepare 64 [zr 83, zi Y, zi n, zi up, zi paid, zi i, zu, zu] [] t Q := by
      intro m
      induction m with
      | zero =>
        intro i t hm i0 i1 f h10 hin hb h86 h87
        have e : i = σ 98 5 := by omega
        have ec : t 68 11 = σ 98 5 := by rw [zfr_at f rfl]; exact hcnt
        apply TX7_prepare_64 <;> (try rw [ec]) <;> (try (intros; omega))
        intro _
        refine kq t f ⟨zfr_mo rfl f, h10, hin, fun j j0 j1 => by rw [hb j j0 j1, e], fun y a b => by rw [h86 y a b, e], fun l y l0 l1 a b => ?_⟩
        rw [h87 l y l0 l1 a b]
        by_cases c : zen σ Y n l
        · rw [zif2_y c, zif2_y ⟨by omega, c⟩]
        · rw [zif2_n c, zif2_n (fun z => c z.2)]
      | succ m ih =>
        intro i t hm i0 i1 f h10 hin hb h86 h87
        have ec : t 68 11 = σ 98 5 := by rw [zfr_at f rfl]; exact hcnt
        have ft : zfr zWs t σ := zfr_mo rfl f
        have hit : zinv t := zinv_sc ft hi
        have hls := (g_zlse hit).2.1 i i0 (by rw [zfr_at f rfl]; omega)
        apply TX7_prepare_64 <;> (try rw [ec]) <;> (try (intros; omega))
        intro _
        refine okX4_endOf (zdea_of hit) (zdeC_of hit) hls.2.2.2.1 (by omega) hls.1.1 (fun z => (hls.1.2.1 z).1) (fun e he => ?_)
        have he := zend_cg (zfr_mo rfl f) he
        have heb := zend_b hi ⟨i0, by omega⟩ he
        apply TX7_prepare_85 <;> (try (intros; omega))
        -- rents
        have inner : ∀ (k : Nat) (y : Int) (u : zS), (n - y).toNat = k → paid ≤ y → y ≤ n → zfr [(86, none)] u t → (∀ x, 0 ≤ x → x < n → u 86 x = zfw σ Y up x i.toNat + (if x < y then zdu σ Y i x else 0)) → zR G MX7_prepare 93 [zr 83, zi Y, zi n, zi up, zi paid, zi i, zi (e - Y), zi y] [] u Q := by
          intro k
          induction k with
          | zero =>
            intro y u hk y0 y1 fu hu
            have u10 : u 83 10 = n := by rw [zfr_at fu rfl]; exact h10
            have ey : y = n := by omega
            have fuσ : zfr [(83, some 10), (83, some 11), (86, none), (87, none)] u σ := zfr_tr f (zfr_mo rfl fu)
            have u75 : u 75 i = σ 145 i := by rw [zfr_row fuσ rfl]; exact (hlse.2.1 i i0 (by omega)).1.1
            have u86 : ∀ y', 0 ≤ y' → y' < n → u 86 y' = zfw σ Y up y' (i + 1).toNat := by
              intro x x0 x1
              rw [hu x x0 x1, if_pos (by omega)]
              unfold zfw
              rw [zps_s i0]
              omega
            by_cases c : zen σ Y n i
            · have hc2 := c
              obtain ⟨c1, c2, c4⟩ := hc2
              have ee : e = σ 144 i := by
                rcases he with ⟨_, x⟩ | ⟨x, _⟩
                · exact x
                · exact absurd c1 x
              apply TX7_prepare_93 <;> (try rw [u75]) <;> (try rw [u10]) <;> (try (intros; omega))
              intro _ _ _ _
              generalize hv : zup u 83 11 (zor (u 83 11) (zshl 1 i)) = v
              have fvu : zfr [(83, some 11)] v u := by rw [← hv]; exact (by repeat (first | exact zfr_0 | refine zfr_uF rfl ?_ | refine zfr_uA rfl ?_ | refine zfr_cp rfl ?_ | refine zfr_fl rfl ?_ | refine zfr_s0 rfl (by omega) ?_ | refine zfr_sl rfl (by omega) ?_ | refine zfr_sc rfl (by omega) ?_))
              have fvσ : zfr [(83, some 10), (83, some 11), (86, none), (87, none)] v σ := zfr_tr fuσ (zfr_mo rfl fvu)
              have fvs : zfr zWs v σ := zfr_mo rfl fvσ
              have hiv : zinv v := zinv_sc fvs hi
              have v11 : v 83 11 = zor (t 83 11) (zshl 1 i) := by rw [← hv, zup_same, zfr_at fu rfl]
              have v10 : v 83 10 = n := by rw [zfr_at fvu rfl]; exact u10
              refine okX7_gain (n := n) hiv (by rw [zfr_at fvσ rfl]; omega) (by rw [zfr_row fvσ rfl]; exact c1) hY (by omega) hn.2 v10 (fun s fs g1 g2 g3 => TX7_prepare_179 (by omega) ?_)
              have s11 : s 83 11 = zor (t 83 11) (zshl 1 i) := by rw [zfr_at fs rfl]; exact v11
              have s86 : s 86 = u 86 := by rw [zfr_row fs rfl, zfr_row fvu rfl]
              have v87 : v 87 = t 87 := by rw [zfr_row fvu rfl, zfr_row fu rfl]
              have fvx : zfr zWx v σ := zfr_mo rfl fvσ
              rw [zfin_cg fvx] at g1
              have g2' : ∀ y, e - Y < y → y < n → s 87 (10 * i + y) = zvF v i (Y + y) - σ 139 i := fun y a b => by
                rw [g2 y a b, zfr_row (q := 139) fvσ rfl]
              refine ih (i + 1) s (by omega) (by omega) (by omega) (zfr_tr fvσ (zfr_mo rfl fs)) (by rw [zfr_at fs rfl]; exact v10) (by rw [s11]; exact zIn_of _) (fun j j0 j1 => ?_) (fun y a b => by rw [s86]; exact u86 y a b) (fun l y l0 l1 a b => ?_)
              · rw [s11, zb_or, zb_shl i0 (by omega) j0 j1, hb j j0 j1]
                constructor
                · rintro (z | z)
                  · exact ⟨by omega, z.2⟩
                  · rw [z]; exact ⟨by omega, c⟩
                · rintro ⟨z1, z2⟩
                  by_cases d : j = i
                  · exact Or.inr d
                  · exact Or.inl ⟨by omega, z2⟩
              · by_cases d : l = i
                · rw [d, zif2_y ⟨by omega, c⟩]
                  unfold zgn
                  by_cases p1 : Y + y < σ 144 i
                  · rw [if_pos p1, g3 _ (by omega), v87, h87 i y i0 (by omega) a b, zif2_n (fun z => by have := z.1; omega)]
                  · rw [if_neg p1]
                    by_cases p2 : Y + y = σ 144 i
                    · rw [if_pos p2, show 10 * i + y = 10 * i + (e - Y) from by omega]
                      exact g1
                    · rw [if_neg p2, g2' y (by omega) b]
                      have : zvF v i (Y + y) = zvF σ i (Y + y) := by
                        have hz : ∀ r, zrsv v i (Y + y) r ↔ zrsv σ i (Y + y) r := fun r => ⟨zrsv_cg fvx, fun h => by
                          unfold zrsv zprc at h ⊢
                          rw [zfr_row (q := 146) fvs rfl, zfr_row (q := 142) fvs rfl, zfr_row (q := 140) fvs rfl, zfr_row (q := 141) fvs rfl]
                          exact h⟩
                        have hz2 : zrsv v i (Y + y) = zrsv σ i (Y + y) := funext (fun r => propext (hz r))
                        unfold zvF
                        rw [hz2]
                      rw [this]
                · rw [g3 _ (by omega), v87, h87 l y l0 l1 a b]
                  by_cases p : zen σ Y n l
                  · by_cases p1 : l < i
                    · rw [zif2_y ⟨p1, p⟩, zif2_y ⟨by omega, p⟩]
                    · rw [zif2_n (fun z => p1 z.1), zif2_n (fun z => by have := z.1; omega)]
                  · rw [zif2_n (fun z => p z.2), zif2_n (fun z => p z.2)]
            · have go := ih (i + 1) u (by omega) (by omega) (by omega) fuσ u10 (by rw [zfr_at fu rfl]; exact hin) (fun j j0 j1 => by
                rw [zfr_at fu rfl, hb j j0 j1]
                exact ⟨fun z => ⟨by omega, z.2⟩, fun z => ⟨by
                  by_cases d : j = i
                  · rw [d] at z; exact absurd z.2 c
                  · omega, z.2⟩⟩) u86 (fun l y l0 l1 a b => by
                rw [zfr_row fu rfl, h87 l y l0 l1 a b]
                by_cases p : zen σ Y n l
                · by_cases p1 : l < i
                  · rw [zif2_y ⟨p1, p⟩, zif2_y ⟨by omega, p⟩]
                  · rw [zif2_n (fun z => p1 z.1), zif2_n (fun z => by
                      have z1 := z.1
                      have : l = i := by omega
                      rw [this] at p
                      exact c p)]
                · rw [zif2_n (fun z => p z.2), zif2_n (fun z => p z.2)])
              have hcond : σ 145 i ≠ 0 ∨ (σ 145 i = 0 ∧ e - Y < 0) ∨ (σ 145 i = 0 ∧ 0 ≤ e - Y ∧ n ≤ e - Y) := by
                by_cases p : σ 145 i = 0
                · have ee : e = σ 144 i := by
                    rcases he with ⟨_, x⟩ | ⟨x, _⟩
                    · exact x
                    · exact absurd p x
                  have nc : ¬ (Y ≤ σ 144 i ∧ σ 144 i < Y + n) := fun z => c ⟨p, z.1, z.2⟩
                  omega
                · exact Or.inl p
              apply TX7_prepare_93 <;> (try rw [u75]) <;> (try rw [u10]) <;> (try (intros; omega))
              all_goals (intros; exact go)
          | succ k ihk =>
            intro y u hk y0 y1 fu hu
            have u10 : u 83 10 = n := by rw [zfr_at fu rfl]; exact h10
            have fuσ : zfr [(83, some 10), (83, some 11), (86, none), (87, none)] u σ := zfr_tr f (zfr_mo rfl fu)
            have fus : zfr zWs u σ := zfr_mo rfl fuσ
            have hiu : zinv u := zinv_sc fus hi
            have ul : u 98 5 = σ 98 5 := zfr_at fuσ rfl
            have hls := (g_zlse hiu).2.1 i i0 (by rw [ul]; omega)
            apply TX7_prepare_93 <;> (try rw [u10]) <;> (try (intros; omega))
            intro _
            refine okX4_dueIn (zdea_of hiu) (zdeC_of hiu) (g_zlea hiu) (g_zpriC hiu) hls.1 hls.2.2.2.1 (by rw [ul]; omega) (by omega) (fun r hr => ?_)
            have hr2 := zrnt_cg (zfr_mo rfl fuσ) hr
            have hrb := zrnt_b hi ⟨i0, by omega⟩ (by omega) hr2
            have er := zrF_e hr2
            have hd : zdu σ Y i y = r := by
              unfold zdu
              rw [zif2_n, er]
              rintro ⟨z1, z2⟩
              rcases hpaid with ⟨_, p2⟩ | ⟨p1, _⟩
              · exact z2 p2
              · omega
            have h1 := zpdu_b (y := y) (k := i.toNat) hi hY (by omega) (by omega)
            have hw : zfw σ Y up y i.toNat = -up + (if y = 0 then σ 98 8 else 0) + zps (fun l => zdu σ Y l y) i.toNat := rfl
            have huy := hu y (by omega) (by omega)
            rw [if_neg (by omega)] at huy
            have hif : 0 ≤ (if y = 0 then σ 98 8 else 0) ∧ (if y = 0 then σ 98 8 else 0) ≤ 400000000 := by split <;> omega
            apply TX7_prepare_123 <;> (try (intros; omega))
            refine ihk (y + 1) _ (by omega) (by omega) (by omega) (zfr_uA rfl fu) (fun x x0 x1 => ?_)
            by_cases d : x = y
            · rw [d, zup_same, if_pos (by omega), hd]
              omega
            · rw [zup_oi d, hu x x0 x1]
              by_cases d2 : x < y
              · rw [if_pos d2, if_pos (by omega)]
              · rw [if_neg d2, if_neg (by omega)]
        refine inner _ paid t rfl (by omega) (by omega) zfr_0 (fun x x0 x1 => ?_)
        rw [h86 x x0 x1]
        by_cases d : x < paid
        · rw [if_pos d]
          have : zdu σ Y i x = 0 := zif2_y ⟨by omega, by
            rcases hpaid with ⟨p, _⟩ | ⟨_, p⟩
            · omega
            · exact p⟩
          omega
        · rw [if_neg d]
          omega
    refine loop _ 0 _ rfl (by omega) h8.1 (zfr_uA rfl f0) (by rw [zup_of (by decide)]; exact a10) (by rw [zup_of (by decide), a11]; exact zIn_0) (fun j j0 j1 => ?_) (fun y a b => ?_) (fun l y l0 l1 a b => ?_)
    · rw [zup_of (by decide), a11]
      exact ⟨fun z => absurd z (zb_0 j), fun z => by have := z.1; omega⟩
    · unfold zfw
      show _ = _ + 0
      by_cases d : y = 0
      · rw [d, zup_same, if_pos rfl, c3, a860]
        omega
      · rw [zup_oi d, if_neg d, a86 y a (by omega)]
        omega
    · rw [zup_of (by decide), a87 _ (by omega) (by omega), zif2_n (fun z => by have := z.1; omega)]
  apply TX7_prepare_27 <;> (try rw [c5]) <;> (try (intros; omega))
  · intro z
    refine main 0 (Or.inl ⟨rfl, ?_⟩)
    rw [eY] at z ⊢
    by_cases c : σ 151 (σ 98 0 / 365) = 0
    · exact c
    · exact absurd (htold.mpr c) z
  · intro z
    refine main 1 (Or.inr ⟨rfl, ?_⟩)
    rw [eY] at z ⊢
    exact htold.mp z
end PR
