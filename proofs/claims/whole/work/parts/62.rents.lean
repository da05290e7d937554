/-! CALLS: renew, rents, kept -/
theorem zdiv365_b {x : Int} (h : -50000 ≤ x ∧ x ≤ 50000) : -200 ≤ zdiv x 365 ∧ zdiv x 365 ≤ 200 := by
  rw [zdiv_t (by unfold zIn; omega) (by decide)]
  by_cases h0 : 0 ≤ x
  · rw [Int.tdiv_eq_ediv_of_nonneg h0]
    omega
  · have e : x = -(-x) := by omega
    rw [e, Int.neg_tdiv, Int.tdiv_eq_ediv_of_nonneg (by omega)]
    omega
theorem zend_b {σ : zS} {l e : Int} (hi : zinv σ) (hl : 0 ≤ l ∧ l < σ 98 5) (h : zend σ l e) : -200 ≤ e ∧ e ≤ 1000 := by
  have h1 := (g_zlse hi).2.1 l hl.1 hl.2
  rcases h with ⟨_, e1⟩ | ⟨_, ⟨_, e1⟩ | ⟨hall, D, ⟨w, w0, wb, wd⟩, _, e1⟩⟩
  · have := h1.2.1; omega
  · omega
  · have hn := (g_zppl hi).1
    have hd := g_zdth hi w w0.1 (by omega)
    have h2 := hall w w0.1 w0.2 wb
    have := zdiv365_b (x := D) (by omega)
    omega
theorem zrnt_b {σ : zS} {l y r : Int} (hi : zinv σ) (hl : 0 ≤ l ∧ l < σ 98 5) (hy : 0 ≤ y ∧ y ≤ 200) (h : zrnt σ l y r) : 0 ≤ r ∧ r ≤ 101000 := by
  have ha := g_zlea hi
  have h1 := ha.2.2 l hl.1 hl.2
  obtain ⟨e, _, ⟨_, v, hv, er⟩ | ⟨_, er⟩⟩ := h
  · have bv := zprc_b ha (by omega) hv
    have bm := zmul_b h1.2.2.1.1 h1.2.2.1.2 bv.1 bv.2
    omega
  · omega
/-- the sum of rents of the first leases -/
def zrs (σ : zS) (y : Int) : Nat → Int → Prop
  | 0, s => s = 0
  | n + 1, s => ∃ s0 r, zrs σ y n s0 ∧ zrnt σ (n : Int) y r ∧ s = s0 + r
theorem zrs_one {σ : zS} {y : Int} : ∀ {n : Nat} {s s' : Int}, zrs σ y n s → zrs σ y n s' → s = s' := by
  intro n
  induction n with
  | zero => intro s s' h h'; rw [show s = 0 from h, show s' = 0 from h']
  | succ n ih =>
    rintro s s' ⟨s0, r, a, b, c⟩ ⟨s0', r', a', b', c'⟩
    rw [c, c', ih a a', zrnt_one b b']
theorem zrs_b {σ : zS} {y : Int} (hi : zinv σ) (hy : 0 ≤ y ∧ y ≤ 200) : ∀ {n : Nat} {s : Int}, (n : Int) ≤ σ 98 5 → zrs σ y n s → 0 ≤ s ∧ s ≤ 101000 * n := by
  intro n
  induction n with
  | zero => intro s _ h; rw [show s = 0 from h]; omega
  | succ n ih =>
    rintro s hn ⟨s0, r, a, b, c⟩
    have h1 := ih (by omega) a
    have h2 := zrnt_b hi ⟨by omega, by omega⟩ hy b
    omega
section RN
variable {G : zG} {σ : zS}
theorem st_renew {a1 : Int} (hi : zinv σ) : zst2 G MX11_renew [zr 0, zi a1] MX12_renew [zr 98, zi a1] σ := by
  have hl := g_zlse hi
  have ha := g_zlea hi
  have hc := hl.1
  have h8 := ha.2.1
  have hk := g_zche hi
  have c1 := hk.1
  have c2 := hk.2.1
  have c3 := hk.2.2.1
  have c4 := hk.2.2.2
  have hn := g_zcnow hi
  have hy := zyear hi
  have e0 : σ 0 13 = σ 98 0 := hn.1
  by_cases h : 0 ≤ a1 ∧ a1 < σ 98 5
  · have h1 := hl.2.1 a1 h.1 h.2
    have hv := (ha.2.2 a1 h.1 h.2).1
    apply TX11_renew <;> (try (intros; omega))
    intro _
    refine okX4_endOf (zdea_of hi) (zdeC_of hi) h1.2.2.2.1 (by omega) h1.1.1 (fun z => (h1.1.2.1 z).1) (fun e he => ?_)
    have heb := zend_b hi h he
    have hlb := h1.1.1
    by_cases hlv : σ 145 a1 = 0
    · have hee : e = σ 144 a1 := by
        rcases he with ⟨_, z⟩ | ⟨z, _⟩
        · exact z
        · exact absurd hlv z
      subst hee
      have hR := h1.1.2.1 hlv
      have hf := h1.2.2.1
      have hen := h1.2.1
      by_cases hok : σ 98 0 / 365 ≤ σ 144 a1 ∧ σ 98 7 < 400
      · apply TX11_renew_25 <;> (try rw [e0]) <;> (try rw [hy.1]) <;> (try rw [hlb]) <;> (try (intros; omega))
        intro _ _ _
        refine okX4_fineFor (g_ztbM hi) (g_ztbC hi) (by omega) hv hf.1 (by omega) h1.1.2.2.1 hR.2 ?_
        have hfb := zfin_b (g_ztbM hi) (l := a1) (left := σ 144 a1 - σ 98 0 / 365) hv hf.1 (by omega)
        generalize hfe : zfin σ a1 (σ 144 a1 - σ 98 0 / 365) = v at hfb
        have hsb := zsums_b hi (h := 1) (y := σ 98 0 / 365) (by omega) hy.2
        apply TX11_renew_79 <;> (try simp (disch := decide) only [zup_of, zup_oi, zup_same]) <;> (try rw [e0]) <;> (try rw [hy.1]) <;> (try rw [hR.2]) <;> (try (intros; omega))
        generalize hs1 : zup (zup (zup (zup σ 79 3 (σ 79 3 + v)) 79 4 (σ 79 4 + 1)) 80 (110 * 1 + σ 98 0 / 365) (σ 80 (110 * 1 + σ 98 0 / 365) + v)) 74 a1 (σ 98 0 / 365 + σ 143 a1) = s1
        have f1 : zfr [(79, some 3), (79, some 4), (80, none), (74, none)] s1 σ := by rw [← hs1]; exact (by repeat (first | exact zfr_0 | refine zfr_uF rfl ?_ | refine zfr_uA rfl ?_ | refine zfr_cp rfl ?_ | refine zfr_fl rfl ?_ | refine zfr_s0 rfl (by omega) ?_ | refine zfr_sl rfl (by omega) ?_ | refine zfr_sc rfl (by omega) ?_))
        have q98 : s1 98 = σ 98 := zfr_row f1 rfl
        have q145 : s1 145 = σ 145 := zfr_row f1 rfl
        have q144 : s1 144 = σ 144 := zfr_row f1 rfl
        have q139 : s1 139 = σ 139 := zfr_row f1 rfl
        have q143 : s1 143 = σ 143 := zfr_row f1 rfl
        apply TX12_renew <;> (try rw [q98]) <;> (try rw [q145]) <;> (try rw [q144]) <;> (try rw [hy.1]) <;> (try (intros; omega))
        intros
        refine okX12_fine (ztbM_ke (zfr_sm f1 rfl) (g_ztbM hi)) (by omega) (by rw [q139]; exact hv) (by rw [q143]; exact hf.1) (by omega) ?_
        have hfe2 : zfin s1 a1 (σ 144 a1 - σ 98 0 / 365) = v := by
          rw [← hfe]
          unfold zfin ztab
          rw [q139, q143, zfr_at (q := 98) (j := 63) f1 rfl, zfr_row (q := 147) f1 rfl]
        rw [hfe2]
        apply TX12_renew_80 <;> (try simp (disch := decide) only [zup_of, zup_oi, zup_same]) <;> (try rw [q98]) <;> (try rw [q143]) <;> (try rw [hy.1]) <;> (try (intros; omega))
        refine ⟨by trivial, ?_⟩
        have f : zfr [(79, some 3), (79, some 4), (80, none), (74, none), (148, none), (149, none), (98, some 7), (150, none), (98, some 8), (144, none)] (zup (zup (zup (zup (zup (zup s1 148 (σ 98 7) (σ 98 0 / 365)) 149 (σ 98 7) 1) 98 7 (σ 98 7 + 1)) 150 (σ 98 7) v) 98 8 (σ 98 8 + v)) 144 a1 (σ 98 0 / 365 + σ 143 a1)) σ :=
          zfr_uA rfl (zfr_uF rfl (zfr_uA rfl (zfr_uF rfl (zfr_uA rfl (zfr_uA rfl (zfr_mo rfl f1))))))
        have key := zentry (t := (zup (zup (zup (zup (zup (zup s1 148 (σ 98 7) (σ 98 0 / 365)) 149 (σ 98 7) 1) 98 7 (σ 98 7 + 1)) 150 (σ 98 7) v) 98 8 (σ 98 8 + v)) 144 a1 (σ 98 0 / 365 + σ 143 a1))) (h := 1) (y := σ 98 0 / 365) (v := v) hi (by omega) (by omega) hy.2 (fun _ => by omega) (by omega) (by omega)
          (by (try simp (disch := decide) only [zup_of, zup_oi, zup_same]); rw [← hs1]; (try simp (disch := decide) only [zup_of, zup_oi, zup_same]); omega) (by (try simp (disch := decide) only [zup_of, zup_oi, zup_same]); rw [← hs1]; (try simp (disch := decide) only [zup_of, zup_oi, zup_same]); omega) (by (try simp (disch := decide) only [zup_of, zup_oi, zup_same])) (by (try simp (disch := decide) only [zup_of, zup_oi, zup_same])) (fun j => by ((try simp (disch := decide) only [zup_of, zup_oi, zup_same]) <;> (try simp only [zup_at]) <;> (try simp (disch := decide) only [zup_of, zup_oi, zup_same]) <;> (try simp only [zup_at]) <;> (try simp (disch := decide) only [zup_of, zup_oi, zup_same]) <;> (try simp only [zup_at]) <;> (try simp (disch := decide) only [zup_of, zup_oi, zup_same])); rw [zfr_row (q := 148) f1 rfl]) (fun j => by ((try simp (disch := decide) only [zup_of, zup_oi, zup_same]) <;> (try simp only [zup_at]) <;> (try simp (disch := decide) only [zup_of, zup_oi, zup_same]) <;> (try simp only [zup_at]) <;> (try simp (disch := decide) only [zup_of, zup_oi, zup_same]) <;> (try simp only [zup_at]) <;> (try simp (disch := decide) only [zup_of, zup_oi, zup_same])); rw [zfr_row (q := 149) f1 rfl]) (fun j => by ((try simp (disch := decide) only [zup_of, zup_oi, zup_same]) <;> (try simp only [zup_at]) <;> (try simp (disch := decide) only [zup_of, zup_oi, zup_same]) <;> (try simp only [zup_at]) <;> (try simp (disch := decide) only [zup_of, zup_oi, zup_same]) <;> (try simp only [zup_at]) <;> (try simp (disch := decide) only [zup_of, zup_oi, zup_same])); rw [zfr_row (q := 150) f1 rfl]) (fun j => by
          (try simp (disch := decide) only [zup_of, zup_oi, zup_same])
          rw [← hs1]
          ((try simp (disch := decide) only [zup_of, zup_oi, zup_same]) <;> (try simp only [zup_at]) <;> (try simp (disch := decide) only [zup_of, zup_oi, zup_same]) <;> (try simp only [zup_at]) <;> (try simp (disch := decide) only [zup_of, zup_oi, zup_same]) <;> (try simp only [zup_at]) <;> (try simp (disch := decide) only [zup_of, zup_oi, zup_same]))
          by_cases e : j = 110 * 1 + σ 98 0 / 365
          · rw [if_pos e, if_pos e, e]
          · rw [if_neg e, if_neg e])
        apply zinv_fr f hi <;> (try (intro h; exact absurd h (by decide)))
        · intro _
          have r74 : ∀ j, (zup (zup (zup (zup (zup (zup s1 148 (σ 98 7) (σ 98 0 / 365)) 149 (σ 98 7) 1) 98 7 (σ 98 7 + 1)) 150 (σ 98 7) v) 98 8 (σ 98 8 + v)) 144 a1 (σ 98 0 / 365 + σ 143 a1)) 74 j = if j = a1 then σ 98 0 / 365 + σ 143 a1 else σ 74 j := fun j => by
            (try simp (disch := decide) only [zup_of, zup_oi, zup_same])
            rw [← hs1]
            ((try simp (disch := decide) only [zup_of, zup_oi, zup_same]) <;> (try simp only [zup_at]) <;> (try simp (disch := decide) only [zup_of, zup_oi, zup_same]) <;> (try simp only [zup_at]) <;> (try simp (disch := decide) only [zup_of, zup_oi, zup_same]) <;> (try simp only [zup_at]) <;> (try simp (disch := decide) only [zup_of, zup_oi, zup_same]))
          have r144 : ∀ j, (zup (zup (zup (zup (zup (zup s1 148 (σ 98 7) (σ 98 0 / 365)) 149 (σ 98 7) 1) 98 7 (σ 98 7 + 1)) 150 (σ 98 7) v) 98 8 (σ 98 8 + v)) 144 a1 (σ 98 0 / 365 + σ 143 a1)) 144 j = if j = a1 then σ 98 0 / 365 + σ 143 a1 else σ 144 j := fun j => by
            ((try simp (disch := decide) only [zup_of, zup_oi, zup_same]) <;> (try simp only [zup_at]) <;> (try simp (disch := decide) only [zup_of, zup_oi, zup_same]) <;> (try simp only [zup_at]) <;> (try simp (disch := decide) only [zup_of, zup_oi, zup_same]) <;> (try simp only [zup_at]) <;> (try simp (disch := decide) only [zup_of, zup_oi, zup_same]))
            rw [q144]
          have r5 := zfr_at (q := 98) (j := 5) f rfl
          have r1 := zfr_at (q := 98) (j := 1) f rfl
          have r11 := zfr_at (q := 68) (j := 11) f rfl
          have rr := fun q (hd : zdj [(q, none)] _ = true) => zfr_row (q := q) f hd
          unfold zlse zls1 zlsC zlif
          rw [r5, r1, r11, rr 75 rfl, rr 145 rfl, rr 73 rfl, rr 143 rfl, rr 69 rfl, rr 139 rfl, rr 70 rfl, rr 140 rfl, rr 71 rfl, rr 141 rfl, rr 72 rfl, rr 142 rfl]
          refine ⟨hl.1, fun l l0 l1 => ?_, hl.2.2⟩
          have ho := hl.2.1 l l0 l1
          rw [r74, r144]
          by_cases e : l = a1
          · subst e
            rw [if_pos rfl, if_pos rfl]
            exact ⟨⟨ho.1.1, fun z => ⟨rfl, (ho.1.2.1 z).2⟩, ho.1.2.2⟩, by omega, ho.2.2⟩
          · rw [if_neg e, if_neg e]
            exact ho
        · exact fun _ => key.1
        · exact fun _ => key.2
      · apply TX11_renew_25 <;> (try rw [e0]) <;> (try rw [hy.1]) <;> (try rw [hlb]) <;> (try (intros; omega))
        all_goals (intros; apply TX12_renew <;> (try simp (disch := decide) only [zup_of, zup_oi, zup_same]) <;> (try rw [hy.1]) <;> (try (intros; omega)) <;> (try (intros; exact ⟨by first | trivial | omega, zno hi (by decide) rfl rfl (by decide)⟩)))
    · apply TX11_renew_25 <;> (try rw [e0]) <;> (try rw [hy.1]) <;> (try rw [hlb]) <;> (try (intros; omega))
      all_goals (intros; apply TX12_renew <;> (try simp (disch := decide) only [zup_of, zup_oi, zup_same]) <;> (try rw [hy.1]) <;> (try (intros; omega)) <;> (try (intros; exact ⟨by first | trivial | omega, zno hi (by decide) rfl rfl (by decide)⟩)))
  · apply TX11_renew <;> (try (intros; omega))
    intros; apply TX12_renew <;> (try simp (disch := decide) only [zup_of, zup_oi, zup_same]) <;> (try (intros; omega)) <;> (try (intros; exact ⟨by first | trivial | omega, zno hi (by first | decide | omega) rfl rfl (by first | decide | omega)⟩))
theorem zyr_told {c : Int} {f : Int → Int} (h : zyr1 c (σ 98 0) f) (hi : zinv σ) : c = σ 98 0 / 365 ↔ f (σ 98 0 / 365) ≠ 0 := by
  have hn := (g_zcnow hi).2
  obtain ⟨h1, h2, h3⟩ := h
  constructor
  · intro e
    have := h3 (by omega)
    rw [e] at this
    omega
  · intro hf
    by_cases e : c = σ 98 0 / 365
    · exact e
    · exact absurd (h2 (σ 98 0 / 365) (by omega) (by omega)) hf
theorem zyr_new {c : Int} {f g : Int → Int} (h : zyr1 c (σ 98 0) f) (hi : zinv σ) (hg : ∀ j, g j = if j = σ 98 0 / 365 then 1 else f j) : zyr1 (σ 98 0 / 365) (σ 98 0) g := by
  have hn := (g_zcnow hi).2
  obtain ⟨h1, h2, h3⟩ := h
  refine ⟨by omega, fun y y0 y1 => ?_, fun _ => ?_⟩
  · rw [hg, if_neg (by omega)]
    exact h2 y (by omega) y1
  · rw [hg, if_pos rfl]
theorem st_rents (hi : zinv σ) : zst2 G MX11_rents [zr 0] MX12_rents [zr 98] σ := by
  have hl := g_zlse hi
  have ha := g_zlea hi
  have hlc := hl.1
  have h8 := ha.2.1
  have hk := g_zche hi
  have c1 := hk.1
  have c2 := hk.2.1
  have c3 := hk.2.2.1
  have c4 := hk.2.2.2
  have hn := g_zcnow hi
  have hy := zyear hi
  have e0 : σ 0 13 = σ 98 0 := hn.1
  have hyr := (g_zyrs hi).1
  have htold := zyr_told hyr hi
  have hyr1 := hyr.1
  by_cases hok : σ 79 5 ≠ σ 98 0 / 365 ∧ σ 98 7 < 400
  · apply TX11_rents <;> (try rw [e0]) <;> (try rw [hy.1]) <;> (try (intros; omega))
    intro _ _
    have cls : ∀ (m : Nat) (i v : Int), (σ 98 5 - i).toNat = m → 0 ≤ i → i ≤ σ 98 5 → zrs σ (σ 98 0 / 365) i.toNat v →
        zR G MX11_rents 42 [zr 0, zi v, zi i] [] σ (fun r s => zO G MX12_rents [zr 98] s (fun r' s' => r' = r ∧ zinv s')) := by
      intro m
      induction m with
      | zero =>
        intro i v hm i0 i1 hv
        have hie : i = σ 98 5 := by omega
        subst hie
        have hvb := zrs_b hi (by omega) (by omega) hv
        have hsb := zsums_b hi (h := 0) (y := σ 98 0 / 365) (by omega) hy.2
        apply TX11_rents_42 <;> (try simp (disch := decide) only [zup_of, zup_oi, zup_same]) <;> (try rw [e0]) <;> (try rw [hy.1]) <;> (try rw [hlc]) <;> (try (intros; omega))
        intro _
        generalize hs1 : zup (zup (zup (zup σ 79 3 (σ 79 3 + v)) 79 4 (σ 79 4 + 1)) 80 (110 * 0 + σ 98 0 / 365) (σ 80 (110 * 0 + σ 98 0 / 365) + v)) 79 5 (σ 98 0 / 365) = s1
        have f1 : zfr [(79, some 3), (79, some 4), (80, none), (79, some 5)] s1 σ := by rw [← hs1]; exact (by repeat (first | exact zfr_0 | refine zfr_uF rfl ?_ | refine zfr_uA rfl ?_ | refine zfr_cp rfl ?_ | refine zfr_fl rfl ?_ | refine zfr_s0 rfl (by omega) ?_ | refine zfr_sl rfl (by omega) ?_ | refine zfr_sc rfl (by omega) ?_))
        have q98 : s1 98 = σ 98 := zfr_row f1 rfl
        have q151 : s1 151 = σ 151 := zfr_row f1 rfl
        have q145 : s1 145 = σ 145 := zfr_row f1 rfl
        have hfree : σ 151 (σ 98 0 / 365) = 0 := by
          by_cases z : σ 151 (σ 98 0 / 365) = 0
          · exact z
          · exact absurd (htold.mpr z) hok.1
        apply TX12_rents <;> (try rw [q98]) <;> (try rw [q151]) <;> (try rw [hy.1]) <;> (try (intros; omega))
        intro _ _
        -- the model's sum
        have hlea1 : zlea s1 := zlea_ke (zfr_sm f1 rfl) ha
        have hdea1 : zdea s1 := by
          have := zdea_of hi
          unfold zdea at this ⊢
          rw [q98, zfr_row (q := 105) f1 rfl, zfr_row (q := 100) f1 rfl]
          exact this
        have hrel : ∀ l y r, zrnt s1 l y r → zrnt σ l y r := by
          intro l y r h
          have q146 : s1 146 = σ 146 := zfr_row f1 rfl
          have q105 : s1 105 = σ 105 := zfr_row f1 rfl
          have q100 : s1 100 = σ 100 := zfr_row f1 rfl
          have q144 : s1 144 = σ 144 := zfr_row f1 rfl
          have q142 : s1 142 = σ 142 := zfr_row f1 rfl
          have q140 : s1 140 = σ 140 := zfr_row f1 rfl
          have q141 : s1 141 = σ 141 := zfr_row f1 rfl
          have q139 : s1 139 = σ 139 := zfr_row f1 rfl
          unfold zrnt zend zrsv zprc at h ⊢
          rw [q98, q145, q146, q105, q100, q144, q142, q140, q141, q139] at h
          exact h
        have mdl : ∀ (m : Nat) (i w : Int), (σ 98 5 - i).toNat = m → 0 ≤ i → i ≤ σ 98 5 → zrs σ (σ 98 0 / 365) i.toNat w → zR G MX12_rents 40 [zr 98, zi w, zi i] [] s1 (fun r' s' => r' = v ∧ zinv s') := by
          intro m
          induction m with
          | zero =>
            intro i w hm i0 i1 hw
            have hie : i = σ 98 5 := by omega
            subst hie
            have hwv := zrs_one hw hv
            subst hwv
            apply TX12_rents_40 <;> (try simp (disch := decide) only [zup_of, zup_oi, zup_same]) <;> (try rw [q98]) <;> (try rw [hy.1]) <;> (try (intros; omega))
            intro _
            refine ⟨by trivial, ?_⟩
            have f : zfr [(79, some 3), (79, some 4), (80, none), (79, some 5), (151, none), (148, none), (149, none), (98, some 7), (150, none), (98, some 8)] (zup (zup (zup (zup (zup (zup s1 151 (σ 98 0 / 365) 1) 148 (σ 98 7) (σ 98 0 / 365)) 149 (σ 98 7) 0) 98 7 (σ 98 7 + 1)) 150 (σ 98 7) w) 98 8 (σ 98 8 + w)) σ :=
              zfr_uF rfl (zfr_uA rfl (zfr_uF rfl (zfr_uA rfl (zfr_uA rfl (zfr_uA rfl (zfr_mo rfl f1))))))
            have key := zentry (t := (zup (zup (zup (zup (zup (zup s1 151 (σ 98 0 / 365) 1) 148 (σ 98 7) (σ 98 0 / 365)) 149 (σ 98 7) 0) 98 7 (σ 98 7 + 1)) 150 (σ 98 7) w) 98 8 (σ 98 8 + w))) (h := 0) (y := σ 98 0 / 365) (v := w) hi (by omega) (by omega) hy.2 (fun _ => by omega) (by omega) (by omega)
              (by (try simp (disch := decide) only [zup_of, zup_oi, zup_same]); rw [← hs1]; (try simp (disch := decide) only [zup_of, zup_oi, zup_same]); omega) (by (try simp (disch := decide) only [zup_of, zup_oi, zup_same]); rw [← hs1]; (try simp (disch := decide) only [zup_of, zup_oi, zup_same]); omega) (by (try simp (disch := decide) only [zup_of, zup_oi, zup_same])) (by (try simp (disch := decide) only [zup_of, zup_oi, zup_same])) (fun j => by ((try simp (disch := decide) only [zup_of, zup_oi, zup_same]) <;> (try simp only [zup_at]) <;> (try simp (disch := decide) only [zup_of, zup_oi, zup_same]) <;> (try simp only [zup_at]) <;> (try simp (disch := decide) only [zup_of, zup_oi, zup_same]) <;> (try simp only [zup_at]) <;> (try simp (disch := decide) only [zup_of, zup_oi, zup_same])); rw [zfr_row (q := 148) f1 rfl]) (fun j => by ((try simp (disch := decide) only [zup_of, zup_oi, zup_same]) <;> (try simp only [zup_at]) <;> (try simp (disch := decide) only [zup_of, zup_oi, zup_same]) <;> (try simp only [zup_at]) <;> (try simp (disch := decide) only [zup_of, zup_oi, zup_same]) <;> (try simp only [zup_at]) <;> (try simp (disch := decide) only [zup_of, zup_oi, zup_same])); rw [zfr_row (q := 149) f1 rfl]) (fun j => by ((try simp (disch := decide) only [zup_of, zup_oi, zup_same]) <;> (try simp only [zup_at]) <;> (try simp (disch := decide) only [zup_of, zup_oi, zup_same]) <;> (try simp only [zup_at]) <;> (try simp (disch := decide) only [zup_of, zup_oi, zup_same]) <;> (try simp only [zup_at]) <;> (try simp (disch := decide) only [zup_of, zup_oi, zup_same])); rw [zfr_row (q := 150) f1 rfl]) (fun j => by
              (try simp (disch := decide) only [zup_of, zup_oi, zup_same])
              rw [← hs1]
              ((try simp (disch := decide) only [zup_of, zup_oi, zup_same]) <;> (try simp only [zup_at]) <;> (try simp (disch := decide) only [zup_of, zup_oi, zup_same]) <;> (try simp only [zup_at]) <;> (try simp (disch := decide) only [zup_of, zup_oi, zup_same]) <;> (try simp only [zup_at]) <;> (try simp (disch := decide) only [zup_of, zup_oi, zup_same]))
              by_cases e : j = 110 * 0 + σ 98 0 / 365
              · rw [if_pos e, if_pos e, e]
              · rw [if_neg e, if_neg e])
            apply zinv_fr f hi <;> (try (intro h; exact absurd h (by decide)))
            · exact fun _ => key.1
            · exact fun _ => key.2
            · intro _
              have h2 := (g_zyrs hi).2
              unfold zyrs
              have r5 : (zup (zup (zup (zup (zup (zup s1 151 (σ 98 0 / 365) 1) 148 (σ 98 7) (σ 98 0 / 365)) 149 (σ 98 7) 0) 98 7 (σ 98 7 + 1)) 150 (σ 98 7) w) 98 8 (σ 98 8 + w)) 79 5 = σ 98 0 / 365 := by (try simp (disch := decide) only [zup_of, zup_oi, zup_same]); rw [← hs1]; (try simp (disch := decide) only [zup_of, zup_oi, zup_same])
              have r151 : ∀ j, (zup (zup (zup (zup (zup (zup s1 151 (σ 98 0 / 365) 1) 148 (σ 98 7) (σ 98 0 / 365)) 149 (σ 98 7) 0) 98 7 (σ 98 7 + 1)) 150 (σ 98 7) w) 98 8 (σ 98 8 + w)) 151 j = if j = σ 98 0 / 365 then 1 else σ 151 j := fun j => by ((try simp (disch := decide) only [zup_of, zup_oi, zup_same]) <;> (try simp only [zup_at]) <;> (try simp (disch := decide) only [zup_of, zup_oi, zup_same]) <;> (try simp only [zup_at]) <;> (try simp (disch := decide) only [zup_of, zup_oi, zup_same]) <;> (try simp only [zup_at]) <;> (try simp (disch := decide) only [zup_of, zup_oi, zup_same])); rw [q151]
              rw [r5, zfr_at (q := 98) (j := 0) f rfl, zfr_at (q := 79) (j := 6) f rfl, zfr_row (q := 152) f rfl]
              exact ⟨zyr_new hyr hi r151, h2⟩
          | succ m ih =>
            intro i w hm i0 i1 hw
            have hwb := zrs_b hi (by omega) (by omega) hw
            have h1 := hl.2.1 i i0 (by omega)
            apply TX12_rents_40 <;> (try rw [q98]) <;> (try rw [hy.1]) <;> (try (intros; omega))
            intro _
            refine okX12_rentOf hdea1 hlea1 (by have := h1.2.2.2.1; unfold zlif at this ⊢; rw [q145, q98]; exact this) (by rw [q98]; omega) (by omega) (fun r hr => ?_)
            have hr' := hrel _ _ _ hr
            have hrb := zrnt_b hi ⟨i0, by omega⟩ (by omega) hr'
            apply TX12_rents_58 <;> (try (intros; omega))
            refine ih (i + 1) _ (by omega) (by omega) (by omega) ?_
            rw [show (i + 1).toNat = i.toNat + 1 from by omega]
            exact ⟨w, r, hw, by rw [show ((i.toNat : Nat) : Int) = i from by omega]; exact hr', rfl⟩
        exact mdl _ 0 0 rfl (by omega) (by omega) rfl
      | succ m ih =>
        intro i v hm i0 i1 hv
        have hvb := zrs_b hi (by omega) (by omega) hv
        have h1 := hl.2.1 i i0 (by omega)
        apply TX11_rents_42 <;> (try rw [e0]) <;> (try rw [hy.1]) <;> (try rw [hlc]) <;> (try (intros; omega))
        intro _
        refine okX4_dueIn (zdea_of hi) (zdeC_of hi) ha (g_zpriC hi) h1.1 h1.2.2.2.1 ⟨i0, by omega⟩ (by omega) (fun r hr => ?_)
        have hrb := zrnt_b hi ⟨i0, by omega⟩ (by omega) hr
        apply TX11_rents_66 <;> (try (intros; omega))
        refine ih (i + 1) _ (by omega) (by omega) (by omega) ?_
        rw [show (i + 1).toNat = i.toNat + 1 from by omega]
        exact ⟨v, r, hv, by rw [show ((i.toNat : Nat) : Int) = i from by omega]; exact hr, rfl⟩
    exact cls _ 0 0 rfl (by omega) (by omega) rfl
  · apply TX11_rents <;> (try rw [e0]) <;> (try rw [hy.1]) <;> (try (intros; omega))
    · intro h1 h2
      have hfree : σ 151 (σ 98 0 / 365) = 0 := by
        by_cases z : σ 151 (σ 98 0 / 365) = 0
        · exact z
        · exact absurd (htold.mpr z) h1
      apply TX12_rents <;> (try simp (disch := decide) only [zup_of, zup_oi, zup_same]) <;> (try rw [hy.1]) <;> (try (intros; omega)) <;> (try (intros; exact ⟨by first | trivial | omega, zno hi (by decide) rfl rfl (by decide)⟩))
    · intro h1
      have hfull := htold.mp h1
      apply TX12_rents <;> (try simp (disch := decide) only [zup_of, zup_oi, zup_same]) <;> (try rw [hy.1]) <;> (try (intros; omega)) <;> (try (intros; exact ⟨by first | trivial | omega, zno hi (by decide) rfl rfl (by decide)⟩))
/-- a new year's days kept -/
theorem okX0_beginYear {y : Int} {Q : Int → zS → Prop} (kq : ∀ s : zS, zfr [(79, some 7), (81, none)] s σ → s 79 7 = y → (∀ w, 0 ≤ w → w < 24 → s 81 w = if σ 79 7 = y then σ 81 w else 0) → Q 0 s) : zO G MX0_beginYear [zr 79, zi y] σ Q := by
  apply TX0_beginYear
  · intro h
    refine okFillI rfl (by decide) (TX0_beginYear_21 (kq _ (zfr_fl rfl (zfr_uF rfl zfr_0)) ?_ (fun w w0 w1 => ?_)))
    · unfold zfl
      rw [if_neg (by omega)]
      exact zup_same
    · unfold zfl
      rw [if_pos ⟨rfl, w0, w1⟩, if_neg (fun z => h z.symm)]
  · intro h
    exact kq σ zfr_0 h.symm (fun w _ _ => by rw [if_pos h.symm])
theorem okX12_newYear {y : Int} {Q : Int → zS → Prop} (hyd : zdiv (σ 98 0) 365 = y) (kq : ∀ s : zS, zfr [(98, some 12), (153, none)] s σ → s 98 12 = y → (∀ w, 0 ≤ w → w < 24 → s 153 w = if σ 98 12 = y then σ 153 w else 0) → Q 0 s) : zO G MX12_newYear [zr 98] σ Q := by
  apply TX12_newYear <;> (try rw [hyd])
  · intro h
    have loop : ∀ (n : Nat) (i : Int) (s : zS), (24 - i).toNat = n → 0 ≤ i → i ≤ 24 → zfr [(153, none)] s (zup σ 98 12 y) → (∀ w, 0 ≤ w → w < i → s 153 w = 0) → zR G MX12_newYear 22 [zr 98, zi i] [] s Q := by
      intro n
      induction n with
      | zero =>
        intro i s hn i0 i1 hf hw
        apply TX12_newYear_22 <;> (try (intros; omega))
        intro _
        refine kq s (zfr_tr (zfr_uF rfl zfr_0) (zfr_mo rfl hf)) (by rw [zfr_at hf rfl, zup_same]) (fun w w0 w1 => by rw [if_neg h]; exact hw w w0 (by omega))
      | succ n ih =>
        intro i s hn i0 i1 hf hw
        apply TX12_newYear_22 <;> (try (intros; omega))
        intro _
        refine ih (i + 1) _ (by omega) (by omega) (by omega) (zfr_uA rfl hf) (fun w w0 w1 => ?_)
        by_cases e : w = i
        · rw [e, zup_same]
        · rw [zup_oi e]
          exact hw w w0 (by omega)
    exact loop _ 0 _ rfl (by omega) (by omega) zfr_0 (fun w w0 w1 => by omega)
  · intro h
    exact kq σ zfr_0 h (fun w _ _ => by rw [if_pos h])
theorem st_kept {a1 a2 : Int} (hi : zinv σ) : zst2 G MX11_kept [zr 0, zi a1, zi a2] MX12_kept [zr 98, zi a1, zi a2] σ := by
  have hp := g_zppl hi
  have hn := hp.1
  have hc := hp.2.1
  have hk := g_zkpt hi
  have hy := zyear hi
  have e0 : σ 0 13 = σ 98 0 := (g_zcnow hi).1
  by_cases h : (0 ≤ a1 ∧ a1 < σ 98 1) ∧ (0 ≤ a2 ∧ a2 ≤ 365)
  · apply TX11_kept <;> (try rw [e0]) <;> (try rw [hy.1]) <;> (try (intros; omega))
    intro _ _
    refine TX0_keep (okX0_beginYear (fun s1 f1 y1 k1 => ?_))
    apply TX0_keep_5 <;> (try (intros; omega))
    refine TX11_kept_41 ?_
    have f2 : zfr [(79, some 7), (81, none)] (zup s1 81 a1 a2) σ := zfr_uA rfl f1
    have e1 : (zup s1 81 a1 a2) 98 1 = σ 98 1 := zfr_at f2 rfl
    apply TX12_kept <;> (try rw [e1]) <;> (try (intros; omega))
    intro _ _ _
    refine okX12_newYear (y := σ 98 0 / 365) (by rw [zfr_at (q := 98) (j := 0) f2 rfl]; exact hy.1) (fun s3 f3 y3 k3 => ?_)
    apply TX12_kept_36 <;> (try (intros; omega))
    have q12 : (zup s1 81 a1 a2) 98 12 = σ 98 12 := zfr_at f2 rfl
    have q153 : (zup s1 81 a1 a2) 153 = σ 153 := zfr_row f2 rfl
    rw [q12, q153] at k3
    rw [hk.1] at k1
    have same : ∀ w, 0 ≤ w → w < 24 → s1 81 w = s3 153 w ∧ 0 ≤ s3 153 w ∧ s3 153 w ≤ 365 := by
      intro w w0 w1
      have hw := hk.2 w w0 w1
      rw [k1 w w0 w1, k3 w w0 w1]
      by_cases c : σ 98 12 = σ 98 0 / 365
      · rw [if_pos c, if_pos c]
        exact ⟨hw.1, hw.2.1.1, hw.2.1.2⟩
      · rw [if_neg c, if_neg c]
        omega
    have f4 : zfr [(79, some 7), (81, none), (98, some 12), (153, none)] (zup s3 153 a1 a2) σ := zfr_uA rfl (zfr_tr (zfr_mo rfl f2) (zfr_mo rfl f3))
    refine ⟨(same a1 h.1.1 (by omega)).1.symm, ?_⟩
    apply zinv_fr f4 hi <;> (try (intro h; exact absurd h (by decide)))
    intro _
    unfold zkpt
    rw [zfr_row (q := 82) f4 rfl, zfr_row (q := 154) f4 rfl]
    refine ⟨?_, fun w w0 w1 => ?_⟩
    · rw [zup_of (by decide), zup_of (by decide), y3, zfr_at f3 rfl, zup_of (by decide), y1]
    · have hw := hk.2 w w0 w1
      rw [zup_of (by decide), zfr_row f3 rfl, zup_at, zup_at]
      by_cases c : w = a1
      · rw [if_pos c, if_pos c]
        exact ⟨rfl, h.2, hw.2.2⟩
      · rw [if_neg c, if_neg c]
        have := same w w0 w1
        exact ⟨this.1, this.2, hw.2.2⟩
  · apply TX11_kept <;> (try (intros; omega))
    all_goals (intros; apply TX12_kept <;> (try simp (disch := decide) only [zup_of, zup_oi, zup_same]) <;> (try (intros; omega)) <;> (try (intros; exact ⟨by first | trivial | omega, zno hi (by first | decide | omega) rfl rfl (by first | decide | omega)⟩)))
end RN
