/-! CALLS: leases, prices, rents asked; rooms, roofs, what was got -/
section SI
variable {G : zG} {σ : zS}
theorem st_lease {a1 a2 a3 a4 a5 a6 : Int} (hi : zinv σ) : zst2 G MX11_lease [zr 0, zi a1, zi a2, zi a3, zi a4, zi a5, zi a6] MX12_lease [zr 98, zi a1, zi a2, zi a3, zi a4, zi a5, zi a6] σ := by
  have hl := g_zlse hi
  have ha := g_zlea hi
  have hc := hl.1
  have h8 := ha.2.1
  have model : ∀ (s : zS) (Q : Int → zS → Prop), (∀ r, (r = 1 ∧ (1 ≤ a1 ∧ a1 ≤ 9999) ∧ (0 ≤ a2 ∧ a2 ≤ 999) ∧ (0 ≤ a3 ∧ a3 ≤ 999) ∧ (0 ≤ a4 ∧ a4 ≤ 51)) ∨ (r = 0 ∧ ¬ ((1 ≤ a1 ∧ a1 ≤ 9999) ∧ (0 ≤ a2 ∧ a2 ≤ 999) ∧ (0 ≤ a3 ∧ a3 ≤ 999) ∧ (0 ≤ a4 ∧ a4 ≤ 51))) → zR G MX12_lease 8 [zr 98, zi a1, zi a2, zi a3, zi a4, zi a5, zi a6] [zi r] s Q) → zO G MX12_lease [zr 98, zi a1, zi a2, zi a3, zi a4, zi a5, zi a6] s Q := by
    intro s Q kq
    refine TX12_lease ?_
    apply TX12_isLease
    · intros
      exact kq 1 (Or.inl ⟨rfl, by omega⟩)
    · intro h
      exact kq 0 (Or.inr ⟨rfl, by omega⟩)
  apply TX11_lease <;> (try simp (disch := decide) only [zup_of, zup_oi, zup_same]) <;> (try (intros; omega))
  · intro h1 h2 h3 h4
    refine model _ _ (fun r hr => ?_)
    apply TX12_lease_8 <;> (try simp (disch := decide) only [zup_of, zup_oi, zup_same]) <;> (try (intros; omega))
    intros
    refine ⟨by omega, ?_⟩
    rw [hc]
    have f : zfr [(74, none), (73, none), (69, none), (70, none), (71, none), (72, none), (68, some 11), (139, none), (140, none), (141, none), (142, none), (143, none), (144, none), (145, none), (98, some 5)] (zup (zup (zup (zup (zup (zup (zup (zup (zup (zup (zup (zup (zup (zup (zup σ 74 (σ 98 5) a6) 73 (σ 98 5) a5) 69 (σ 98 5) a1) 70 (σ 98 5) a2) 71 (σ 98 5) a3) 72 (σ 98 5) a4) 68 11 (σ 98 5 + 1)) 139 (σ 98 5) a1) 140 (σ 98 5) a2) 141 (σ 98 5) a3) 142 (σ 98 5) a4) 143 (σ 98 5) a5) 144 (σ 98 5) a6) 145 (σ 98 5) 0) 98 5 (σ 98 5 + 1)) σ := (by repeat (first | exact zfr_0 | refine zfr_uF rfl ?_ | refine zfr_uA rfl ?_ | refine zfr_cp rfl ?_ | refine zfr_fl rfl ?_ | refine zfr_s0 rfl (by omega) ?_ | refine zfr_sl rfl (by omega) ?_ | refine zfr_sc rfl (by omega) ?_))
    apply zinv_fr f hi <;> (try (intro h; exact absurd h (by decide)))
    · intro _
      unfold zlea
      ((try simp (disch := decide) only [zup_of, zup_oi, zup_same]) <;> (try simp only [zup_at]) <;> (try simp (disch := decide) only [zup_of, zup_oi, zup_same]) <;> (try simp only [zup_at]) <;> (try simp (disch := decide) only [zup_of, zup_oi, zup_same]) <;> (try simp only [zup_at]) <;> (try simp (disch := decide) only [zup_of, zup_oi, zup_same]))
      refine ⟨ha.1, by omega, fun l l0 l1 => ?_⟩
      by_cases e : l = σ 98 5
      · simp only [if_pos e]
        omega
      · simp only [if_neg e]
        exact ha.2.2 l l0 (by omega)
    · intro _
      unfold zlse zls1 zlsC zlif
      ((try simp (disch := decide) only [zup_of, zup_oi, zup_same]) <;> (try simp only [zup_at]) <;> (try simp (disch := decide) only [zup_of, zup_oi, zup_same]) <;> (try simp only [zup_at]) <;> (try simp (disch := decide) only [zup_of, zup_oi, zup_same]) <;> (try simp only [zup_at]) <;> (try simp (disch := decide) only [zup_of, zup_oi, zup_same]))
      refine ⟨by trivial, fun l l0 l1 => ?_, fun l l0 l1 l2 => hl.2.2 l l0 l1 (by omega)⟩
      by_cases e : l = σ 98 5
      · simp only [if_pos e]
        refine ⟨⟨hl.2.2 l l0 (by omega) (by omega), fun _ => ⟨by trivial, by trivial⟩, by trivial, by trivial, by trivial, by trivial⟩, h3, by omega, fun z => absurd rfl z, fun w _ _ hb => absurd hb (zb_0 w)⟩
      · simp only [if_neg e]
        exact hl.2.1 l l0 (by omega)
  all_goals (intros; refine model _ _ (fun r hr => ?_); apply TX12_lease_8 <;> (try simp (disch := decide) only [zup_of, zup_oi, zup_same]) <;> (try (intros; omega)) <;> (try (intros; exact ⟨by first | trivial | omega, zno hi (by decide) rfl rfl (by decide)⟩)))
theorem st_ends {a1 : Int} (hi : zinv σ) : zst2 G MX11_ends [zr 0, zi a1] MX12_ends_ [zr 98, zi a1] σ := by
  have hl := g_zlse hi
  have ha := g_zlea hi
  have hc := hl.1
  have h8 := ha.2.1
  have hp := g_zppl hi
  have hd := g_zdth hi
  have hdM : zdea σ := ⟨hp.1, fun w w0 w1 => by have := hd w w0 (by have := hp.1; omega); omega⟩
  have hdC : zdeC σ := ⟨hp.2.1, fun w w0 w1 => by have := hd w w0 (by have := hp.1; omega); omega⟩
  by_cases h : 0 ≤ a1 ∧ a1 < σ 98 5
  · have h1 := hl.2.1 a1 h.1 h.2
    apply TX11_ends <;> (try (intros; omega))
    intro _
    refine okX4_endOf hdM hdC h1.2.2.2.1 (by omega) h1.1.1 (fun z => (h1.1.2.1 z).1) (fun e he => TX11_ends_19 ?_)
    apply TX12_ends_ <;> (try (intros; omega))
    intro _ _
    exact okX12_endOf hdM h1.2.2.2.1 (by omega) (fun e' he' => TX12_ends__17 ⟨zend_one he' he, hi⟩)
  · apply TX11_ends <;> (try (intros; omega))
    intro _
    apply TX12_ends_ <;> (try (intros; omega))
    exact fun _ => ⟨rfl, hi⟩
theorem zdea_of (hi : zinv σ) : zdea σ := ⟨(g_zppl hi).1, fun w w0 w1 => by have := g_zdth hi w w0 (by have := (g_zppl hi).1; omega); omega⟩
theorem zdeC_of (hi : zinv σ) : zdeC σ := ⟨(g_zppl hi).2.1, fun w w0 w1 => by have := g_zdth hi w w0 (by have := (g_zppl hi).1; omega); omega⟩
theorem st_rent {a1 a2 : Int} (hi : zinv σ) : zst2 G MX11_rent [zr 0, zi a1, zi a2] MX12_rent [zr 98, zi a1, zi a2] σ := by
  have hl := g_zlse hi
  have ha := g_zlea hi
  have hc := hl.1
  have h8 := ha.2.1
  by_cases h : (0 ≤ a1 ∧ a1 < σ 98 5) ∧ (0 ≤ a2 ∧ a2 ≤ 200)
  · have h1 := hl.2.1 a1 h.1.1 h.1.2
    apply TX11_rent <;> (try (intros; omega))
    intro _ _
    refine okX4_dueIn (zdea_of hi) (zdeC_of hi) ha (g_zpriC hi) h1.1 h1.2.2.2.1 h.1 h.2 (fun r hr => TX11_rent_31 ?_)
    apply TX12_rent <;> (try (intros; omega))
    intros
    exact okX12_rentOf (zdea_of hi) ha h1.2.2.2.1 h.1 h.2 (fun r' hr' => TX12_rent_29 ⟨zrnt_one hr' hr, hi⟩)
  · apply TX11_rent <;> (try (intros; omega))
    intro _
    apply TX12_rent <;> (try (intros; omega))
    exact fun _ => ⟨rfl, hi⟩
theorem st_price {a1 a2 a3 : Int} (hi : zinv σ) : zst2 G MX11_price [zr 0, zi a1, zi a2, zi a3] MX12_price [zr 98, zi a1, zi a2, zi a3] σ := by
  have hP := g_zpriC hi
  have hn := g_zprn hi
  unfold zprn at hn
  have h0 := hP.1
  by_cases h : (0 ≤ a1 ∧ a1 ≤ 200) ∧ (0 ≤ a2 ∧ a2 ≤ 51) ∧ (0 ≤ a3 ∧ a3 ≤ 999)
  · apply TX11_price <;> (try (intros; omega))
    intro _ _ _
    refine okX4_isPriced hP (by omega) (fun r hr => ?_)
    by_cases hfree : σ 146 (52 * a1 + a2) = -1 ∧ σ 68 12 ≠ 200
    · apply TX11_price_45 <;> (try (intros; omega))
      intro _ _
      apply TX12_price <;> (try simp (disch := decide) only [zup_of, zup_oi, zup_same]) <;> (try (intros; omega))
      intros
      refine ⟨by omega, ?_⟩
      have f : zfr [(76, none), (77, none), (68, some 12), (146, none), (98, some 6)] (zup (zup (zup (zup (zup σ 76 (σ 68 12) (52 * a1 + a2)) 77 (σ 68 12) a3) 68 12 (σ 68 12 + 1)) 146 (52 * a1 + a2) a3) 98 6 (σ 98 6 + 1)) σ := (by repeat (first | exact zfr_0 | refine zfr_uF rfl ?_ | refine zfr_uA rfl ?_ | refine zfr_cp rfl ?_ | refine zfr_fl rfl ?_ | refine zfr_s0 rfl (by omega) ?_ | refine zfr_sl rfl (by omega) ?_ | refine zfr_sc rfl (by omega) ?_))
      apply zinv_fr f hi <;> (try (intro h; exact absurd h (by decide)))
      · intro _
        have ha := g_zlea hi
        unfold zlea
        ((try simp (disch := decide) only [zup_of, zup_oi, zup_same]) <;> (try simp only [zup_at]) <;> (try simp (disch := decide) only [zup_of, zup_oi, zup_same]) <;> (try simp only [zup_at]) <;> (try simp (disch := decide) only [zup_of, zup_oi, zup_same]) <;> (try simp only [zup_at]) <;> (try simp (disch := decide) only [zup_of, zup_oi, zup_same]))
        refine ⟨fun x x0 x1 => ?_, ha.2⟩
        by_cases e : x = 52 * a1 + a2
        · rw [if_pos e]; omega
        · rw [if_neg e]; exact ha.1 x x0 x1
      · intro _
        unfold zpriC
        ((try simp (disch := decide) only [zup_of, zup_oi, zup_same]) <;> (try simp only [zup_at]) <;> (try simp (disch := decide) only [zup_of, zup_oi, zup_same]) <;> (try simp only [zup_at]) <;> (try simp (disch := decide) only [zup_of, zup_oi, zup_same]) <;> (try simp only [zup_at]) <;> (try simp (disch := decide) only [zup_of, zup_oi, zup_same]))
        refine ⟨by omega, fun i i0 i1 => ?_, fun x x0 x1 hx => ?_⟩
        · by_cases e : i = σ 68 12
          · simp only [if_pos e]
            refine ⟨by omega, ?_, by omega⟩
            first | trivial | rw [if_pos rfl]
          · have := hP.2.1 i i0 (by omega)
            simp only [if_neg e]
            refine ⟨this.1, ?_, this.2.2⟩
            rw [if_neg]
            · exact this.2.1
            · intro z
              rw [z] at this
              omega
        · by_cases e : x = 52 * a1 + a2
          · exact ⟨σ 68 12, by omega, by rw [if_pos rfl, e]⟩
          · rw [if_neg e] at hx
            obtain ⟨i, i0, i1⟩ := hP.2.2 x x0 x1 hx
            exact ⟨i, by omega, by rw [if_neg (by omega)]; exact i1⟩
      · intro _
        unfold zprn
        (try simp (disch := decide) only [zup_of, zup_oi, zup_same])
        omega
    · apply TX11_price_45 <;> (try (intros; omega))
      all_goals (intros; apply TX12_price <;> (try simp (disch := decide) only [zup_of, zup_oi, zup_same]) <;> (try (intros; omega)) <;> (try (intros; exact ⟨by first | trivial | omega, zno hi (by first | decide | omega) rfl rfl (by first | decide | omega)⟩)))
  · apply TX11_price <;> (try (intros; omega))
    intros; apply TX12_price <;> (try simp (disch := decide) only [zup_of, zup_oi, zup_same]) <;> (try (intros; omega)) <;> (try (intros; exact ⟨by first | trivial | omega, zno hi (by first | decide | omega) rfl rfl (by first | decide | omega)⟩))
theorem st_roof {a1 a2 : Int} (hi : zinv σ) : zst2 G MX11_roof [zr 0, zi a1, zi a2] MX12_roof [zr 98, zi a1, zi a2] σ := by
  have hr := g_zrfs hi
  have h0 := hr.1
  apply TX11_roof <;> (try (intros; omega))
  · intro h1 h2 h3
    apply TX12_roof <;> (try simp (disch := decide) only [zup_of, zup_oi, zup_same]) <;> (try (intros; omega))
    intros
    refine ⟨by omega, ?_⟩
    rw [h0.1]
    apply zinv_fr (W := [(84, none), (85, none), (83, some 9), (155, none), (156, none), (98, some 10)]) (by repeat (first | exact zfr_0 | refine zfr_uF rfl ?_ | refine zfr_uA rfl ?_ | refine zfr_cp rfl ?_ | refine zfr_fl rfl ?_ | refine zfr_s0 rfl (by omega) ?_ | refine zfr_sl rfl (by omega) ?_ | refine zfr_sc rfl (by omega) ?_)) hi <;> (try (intro h; exact absurd h (by decide)))
    intro _
    unfold zrfs
    ((try simp (disch := decide) only [zup_of, zup_oi, zup_same]) <;> (try simp only [zup_at]) <;> (try simp (disch := decide) only [zup_of, zup_oi, zup_same]) <;> (try simp only [zup_at]) <;> (try simp (disch := decide) only [zup_of, zup_oi, zup_same]) <;> (try simp only [zup_at]) <;> (try simp (disch := decide) only [zup_of, zup_oi, zup_same]))
    refine ⟨⟨by trivial, by omega⟩, fun r r0 r1 => ?_, fun r r0 r1 => ?_⟩
    · by_cases e : r = σ 98 10
      · simp only [if_pos e]
        omega
      · simp only [if_neg e]
        exact hr.2.1 r r0 r1
    · by_cases e : r = σ 98 10
      · simp only [if_pos e, true_and]
        omega
      · simp only [if_neg e]
        exact hr.2.2 r r0 (by omega)
  all_goals (intros; apply TX12_roof <;> (try simp (disch := decide) only [zup_of, zup_oi, zup_same]) <;> (try (intros; omega)) <;> (try (intros; exact ⟨by first | trivial | omega, zno hi (by first | decide | omega) rfl rfl (by first | decide | omega)⟩)))
theorem st_planned {a1 : Int} (hi : zinv σ) : zst2 G MX11_planned [zr 0, zi a1] MX12_planned [zr 98, zi a1] σ := by
  have hp := g_zpld hi
  by_cases h : 0 ≤ a1 ∧ a1 ≤ 2
  · apply TX11_planned <;> (try (intros; omega))
    intro _
    rcases hp with ⟨h1, h2⟩ | ⟨h1, h2, h3, h4, h5⟩
    · apply TX7_told <;> (try (intros; omega))
      intro _
      refine TX11_planned_17 ?_
      apply TX12_planned <;> (try (intros; omega))
      exact fun _ => ⟨rfl, hi⟩
    · by_cases ha : a1 = 0
      · subst ha
        apply TX7_told <;> (try (intros; omega))
        intro _ _
        refine TX11_planned_17 ?_
        apply TX12_planned <;> (try (intros; omega))
        intros
        exact ⟨h4.symm, hi⟩
      · have h6 := h5 (a1 - 1) (by omega) (by omega)
        rw [show a1 - 1 + 1 = a1 from by omega] at h6
        apply TX7_told <;> (try (intros; omega))
        · intro _
          refine TX11_planned_17 ?_
          apply TX12_planned <;> (try (intros; omega))
          · intros
            exact ⟨by omega, hi⟩
          · intros
            exact ⟨rfl, hi⟩
        · intro _ _
          refine TX11_planned_17 ?_
          apply TX12_planned <;> (try (intros; omega))
          intros
          exact ⟨by omega, hi⟩
  · apply TX11_planned <;> (try (intros; omega))
    intro _
    apply TX12_planned <;> (try (intros; omega))
    · intros
      rcases hp with ⟨h1, h2⟩ | ⟨h1, h2, h3, h4, h5⟩ <;> omega
    · intros
      rcases hp with ⟨h1, h2⟩ | ⟨h1, h2, h3, h4, h5⟩ <;> omega
    · intros
      rcases hp with ⟨h1, h2⟩ | ⟨h1, h2, h3, h4, h5⟩ <;> omega
    · exact fun _ => ⟨rfl, hi⟩
theorem st_room (hi : zinv σ) : zst2 G MX11_room [zr 0] MX12_room [zr 98] σ := by
  have hr := g_zrms hi
  have h0 := hr.1
  apply TX11_room <;> (try (intros; omega))
  · intro h1
    apply TX12_room <;> (try simp (disch := decide) only [zup_of, zup_oi, zup_same]) <;> (try (intros; omega))
    intros
    refine ⟨by omega, ?_⟩
    apply zinv_fr (W := [(94, some 4), (98, some 9)]) (by repeat (first | exact zfr_0 | refine zfr_uF rfl ?_ | refine zfr_uA rfl ?_ | refine zfr_cp rfl ?_ | refine zfr_fl rfl ?_ | refine zfr_s0 rfl (by omega) ?_ | refine zfr_sl rfl (by omega) ?_ | refine zfr_sc rfl (by omega) ?_)) hi <;> (try (intro h; exact absurd h (by decide)))
    intro _
    unfold zrms
    (try simp (disch := decide) only [zup_of, zup_oi, zup_same])
    refine ⟨by omega, fun w w0 w1 => ?_, hr.2.2⟩
    have := hr.2.1 w w0 w1
    exact ⟨this.1, by omega, this.2.2⟩
  all_goals (intros; apply TX12_room <;> (try simp (disch := decide) only [zup_of, zup_oi, zup_same]) <;> (try (intros; omega)) <;> (try (intros; exact ⟨by first | trivial | omega, zno hi (by first | decide | omega) rfl rfl (by first | decide | omega)⟩)))
theorem st_roomOf {a1 : Int} (hi : zinv σ) : zst2 G MX11_roomOf [zr 0, zi a1] MX12_roomOf [zr 98, zi a1] σ := by
  have hr := g_zrms hi
  have hp := g_zppl hi
  have hn := hp.1
  have hc := hp.2.1
  apply TX11_roomOf <;> (try (intros; omega))
  · intro h1
    apply TX12_roomOf <;> (try (intros; omega))
    exact fun _ => ⟨rfl, hi⟩
  · intro h1
    apply TX12_roomOf <;> (try (intros; omega))
    exact fun _ => ⟨(hr.2.1 a1 h1.1 (by omega)).1.symm, hi⟩
theorem st_got {a1 : Int} (hi : zinv σ) : zst2 G MX11_got [zr 0, zi a1] MX12_got [zr 98, zi a1] σ := by
  have hk := g_zkpt hi
  have hp := g_zppl hi
  have hn := hp.1
  have hc := hp.2.1
  apply TX11_got <;> (try (intros; omega))
  · intro h1
    apply TX12_got <;> (try (intros; omega))
    exact fun _ => ⟨rfl, hi⟩
  · intro h1
    apply TX12_got <;> (try (intros; omega))
    exact fun _ => ⟨(hk.2 a1 h1.1 (by omega)).2.2.symm, hi⟩
theorem st_audit {a1 : Int} (hi : zinv σ) : zst2 G MX11_audit [zr 0, zi a1] MX12_audit [zr 98, zi a1] σ := by
  have hk := g_zche hi
  refine SX11_audit (SX12_audit ⟨?_, hi⟩)
  rw [hk.1]
theorem st_status {a1 : Int} (hi : zinv σ) : zst2 G MX11_status [zr 0, zi a1] MX12_status [zr 98, zi a1] σ := by
  have h1 := (g_zppl hi).2.1
  have h2 := (g_zfct hi).2.1
  have h3 := (g_zamC hi).1
  have h4 := (g_zplC hi).1
  have h5 := (g_zlse hi).1
  have h6 := g_zprn hi
  unfold zprn at h6
  have h7 := (g_zche hi).2.1
  have h8 := (g_zcnow hi).1
  have h9 := (g_zche hi).1
  have h10 := (g_zrms hi).1.1
  have h11 : σ 65 10 = σ 98 92 := by
    rcases g_zelc hi with h | h
    · omega
    · exact h.2.2.1.1
  by_cases ha : a1 = 4
  · subst ha
    have hpl := g_zpla hi
    have hpC := g_zplC hi
    have h0 := hpl.1
    have cls : ∀ (m : Nat) (i c : Int) (Q : Int → zS → Prop), (σ 98 4 - i).toNat = m → 0 ≤ i → i ≤ σ 98 4 → c = zcnt (fun p => σ 130 p ≠ -1) i.toNat → Q (zcnt (fun p => σ 130 p ≠ -1) (σ 98 4).toNat) σ → zR G MX6_howManyHeld 4 [zr 52, zi c, zi i] [] σ Q := by
      intro m
      induction m with
      | zero =>
        intro i c Q hm i0 i1 hcc kq
        have : i = σ 98 4 := by omega
        subst this
        apply TX6_howManyHeld_4 <;> (try rw [h4]) <;> (try (intros; omega))
        intro _
        rw [hcc]
        exact kq
      | succ m ih =>
        intro i c Q hm i0 i1 hcc kq
        have hb := zcnt_b (P := fun p => σ 130 p ≠ -1) i.toNat
        have hx := (hpC.2 i i0 (by omega)).2.1
        apply TX6_howManyHeld_4 <;> (try rw [h4]) <;> (try rw [hx]) <;> (try (intros; omega))
        · intro _ hh
          exact ih (i + 1) _ Q (by omega) (by omega) (by omega) (by rw [hcc, zcnt_y i0 hh]) kq
        · intro _ hh
          exact ih (i + 1) _ Q (by omega) (by omega) (by omega) (by rw [hcc, zcnt_n i0 (fun z => z hh), Int.add_zero]) kq
    have mdl : ∀ (m : Nat) (i c a : Int) (Q : Int → zS → Prop), (σ 98 4 - i).toNat = m → 0 ≤ i → i ≤ σ 98 4 → c = zcnt (fun p => σ 130 p ≠ -1) i.toNat → Q (zcnt (fun p => σ 130 p ≠ -1) (σ 98 4).toNat) σ → zR G MX12_status 138 [zr 98, zi a, zi c, zi i] [] σ Q := by
      intro m
      induction m with
      | zero =>
        intro i c a Q hm i0 i1 hcc kq
        have : i = σ 98 4 := by omega
        subst this
        apply TX12_status_138 <;> (try (intros; omega))
        intro _
        rw [hcc]
        exact kq
      | succ m ih =>
        intro i c a Q hm i0 i1 hcc kq
        have hb := zcnt_b (P := fun p => σ 130 p ≠ -1) i.toNat
        apply TX12_status_138 <;> (try (intros; omega))
        · intro _ hh
          exact ih (i + 1) _ a Q (by omega) (by omega) (by omega) (by rw [hcc, zcnt_n i0 (fun z => z hh)]) kq
        · intro _ hh
          exact ih (i + 1) _ a Q (by omega) (by omega) (by omega) (by rw [hcc, zcnt_y i0 hh]) kq
    apply TX11_status <;> (try (intros; omega))
    intro _
    refine TX6_howManyHeld (cls _ 0 0 _ rfl (by omega) (by omega) rfl (TX11_status_131 ?_))
    apply TX12_status <;> (try (intros; omega))
    intro _ _
    exact mdl _ 0 0 4 _ rfl (by omega) (by omega) rfl ⟨rfl, hi⟩
  · by_cases hb : 11 ≤ a1 ∧ a1 ≤ 17
    · have hr := g_zref hi (a1 - 10) (by omega) (by omega)
      apply TX11_status <;> (try (intros; omega))
      intro _ _
      apply TX12_status <;> (try (intros; omega))
      intro _ _
      exact ⟨hr.symm, hi⟩
    · apply TX11_status <;> (try (intros; omega))
      all_goals (intros; apply TX12_status <;> (try (intros; omega)) <;> (intros; exact ⟨by omega, hi⟩))
theorem st_head {a1 a2 : Int} (hi : zinv σ) : zst2 G MX11_head [zr 0, zi a1, zi a2] MX12_head [zr 98, zi a1, zi a2] σ := by
  have hs := g_zsms hi
  have hc := g_zche hi
  have hn := hc.2.2.1
  by_cases h : 0 ≤ a1 ∧ a1 ≤ 3
  · have sb : ∀ k : Nat, (k : Int) ≤ σ 98 7 → (-1000000 * k - zdv σ k ≤ zsum σ a1 a2 k ∧ zsum σ a1 a2 k ≤ 1000000 * k) ∧ 0 ≤ zdv σ k ∧ zdv σ k ≤ zdv σ (σ 98 7).toNat := by
      have mono : ∀ (j k : Nat), (j + k : Int) ≤ σ 98 7 → zdv σ j ≤ zdv σ (j + k) := by
        intro j k
        induction k with
        | zero => intro _; exact Int.le_refl _
        | succ k ih =>
          intro hk
          have h1 := ih (by omega)
          have he := hs.1 ((j + k : Nat) : Int) (by omega) (by omega)
          have e2 : zdv σ (j + k + 1) = zdv σ (j + k) + if σ 149 ((j + k : Nat) : Int) = 2 then - σ 150 ((j + k : Nat) : Int) else 0 := rfl
          rw [show j + (k + 1) = j + k + 1 from rfl, e2]
          split
          · have := he.2.2 (by assumption); omega
          · omega
      intro k
      induction k with
      | zero =>
        intro hk
        refine ⟨by unfold zsum zdv; omega, by unfold zdv; omega, ?_⟩
        have := mono 0 (σ 98 7).toNat (by omega)
        rw [Nat.zero_add] at this
        exact this
      | succ k ih =>
        intro hk
        have h1 := ih (by omega)
        have he := hs.1 (k : Int) (by omega) (by omega)
        have hm := mono (k + 1) ((σ 98 7).toNat - (k + 1)) (by omega)
        rw [show k + 1 + ((σ 98 7).toNat - (k + 1)) = (σ 98 7).toNat from by omega] at hm
        have e1 : zsum σ a1 a2 (k + 1) = zsum σ a1 a2 k + if σ 149 (k : Int) = a1 ∧ σ 148 (k : Int) = a2 then σ 150 (k : Int) else 0 := rfl
        have e2 : zdv σ (k + 1) = zdv σ k + if σ 149 (k : Int) = 2 then - σ 150 (k : Int) else 0 := rfl
        refine ⟨?_, ?_, hm⟩
        · rw [e1, e2]
          by_cases c : σ 149 (k : Int) = 2
          · have := he.2.2 c
            rw [if_pos c]
            split <;> omega
          · have := he.2.1 c
            rw [if_neg c]
            split <;> omega
        · rw [e2]
          by_cases c : σ 149 (k : Int) = 2
          · have := he.2.2 c
            rw [if_pos c]; omega
          · rw [if_neg c]; omega
    have loop : ∀ (m : Nat) (i v : Int), (σ 98 7 - i).toNat = m → 0 ≤ i → i ≤ σ 98 7 → v = zsum σ a1 a2 i.toNat → zR G MX12_head 18 [zr 98, zi a1, zi a2, zi v, zi i] [] σ (fun r' s' => r' = zsum σ a1 a2 (σ 98 7).toNat ∧ zinv s') := by
      intro m
      induction m with
      | zero =>
        intro i v hm i0 i1 hv
        have : i = σ 98 7 := by omega
        subst this
        apply TX12_head_18 <;> (try (intros; omega))
        intro _
        exact ⟨hv, hi⟩
      | succ m ih =>
        intro i v hm i0 i1 hv
        have s1 := sb i.toNat (by omega)
        have s2 := sb (i.toNat + 1) (by omega)
        have s3 := hs.2.2
        have hch := hc.2.2.2
        have e1 : zsum σ a1 a2 (i.toNat + 1) = zsum σ a1 a2 i.toNat + if σ 149 (i.toNat : Int) = a1 ∧ σ 148 (i.toNat : Int) = a2 then σ 150 (i.toNat : Int) else 0 := rfl
        rw [show ((i.toNat : Nat) : Int) = i from by omega] at e1
        apply TX12_head_18 <;> (try (intros; omega))
        · intro _ hne
          refine ih (i + 1) v (by omega) (by omega) (by omega) ?_
          rw [show (i + 1).toNat = i.toNat + 1 from by omega, e1, if_neg (by omega), Int.add_zero]
          exact hv
        · intro _ h1 h2
          refine ih (i + 1) _ (by omega) (by omega) (by omega) ?_
          rw [show (i + 1).toNat = i.toNat + 1 from by omega, e1, if_pos ⟨h1, h2⟩, hv]
    have model : ∀ r, r = zsum σ a1 a2 (σ 98 7).toNat → zO G MX12_head [zr 98, zi a1, zi a2] σ (fun r' s' => r' = r ∧ zinv s') := by
      intro r hr
      apply TX12_head <;> (try (intros; omega))
      intro _ _
      rw [hr]
      exact loop _ 0 0 rfl (by omega) (by omega) rfl
    apply TX11_head <;> (try (intros; omega))
    · intro _ h2
      refine model 0 ?_
      have : ∀ k : Nat, (k : Int) ≤ σ 98 7 → zsum σ a1 a2 k = 0 := by
        intro k
        induction k with
        | zero => intro _; rfl
        | succ k ih =>
          intro hk
          have he := hs.1 (k : Int) (by omega) (by omega)
          have e1 : zsum σ a1 a2 (k + 1) = zsum σ a1 a2 k + if σ 149 (k : Int) = a1 ∧ σ 148 (k : Int) = a2 then σ 150 (k : Int) else 0 := rfl
          rw [e1, ih (by omega), if_neg (by omega)]
          rfl
      exact (this _ (by omega)).symm
    · intro _ h2
      exact model _ (hs.2.1 a1 a2 h.1 (by omega) h2.1 (by omega))
  · apply TX11_head <;> (try (intros; omega))
    intro _
    apply TX12_head <;> (try (intros; omega))
    exact fun _ => ⟨rfl, hi⟩
end SI
