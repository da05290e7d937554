/-! CALLS: days, the model -/
section DM
variable {G : zG} {σ : zS} {Q : Int → zS → Prop} {l : List Int} {d : Int}
/-- the model's first pass, from a state t0 that has the model's cells of σ but for the day -/
theorem okM_days1 {t0 : zS} {a : Int} (hi : zinv σ) (hl : zlaws t0 l) (hd : σ 98 0 ≤ d ∧ d ≤ 40000) (g0 : t0 98 0 = d) (sm : zsm (zDd ++ [(98, some 4), (98, some 11), (129, none), (130, none), (131, none), (132, none)]) t0 σ)
    (kq : ∀ s : zS, zfr (zWm ++ [(130, none), (131, none), (132, none)]) s t0 → (∀ p, 0 ≤ p → p < σ 98 4 → s 130 p = zH1 σ l d p ∧ s 131 p = zC1 σ l d p ∧ s 132 p = zN1 σ l d p) →
      zR G MX12_days 160 [zr 98, zi a, zi (zcnt (zE1 σ l d) (σ 98 4).toNat), zi 0, zu] [] s Q) : zR G MX12_days 45 [zr 98, zi a, zi 0, zi 0, zu] [] t0 Q := by
  have hpl := g_zpla hi
  have h0 := hpl.1
  have hn := (g_zppl hi).1
  have hnow := (g_zcnow hi).2
  have hgr := (g_zplc hi).1
  have k4 : t0 98 4 = σ 98 4 := zsm_at sm 98 4 rfl
  have k11 : t0 98 11 = σ 98 11 := zsm_at sm 98 11 rfl
  have k1 : t0 98 1 = σ 98 1 := zsm_at sm 98 1 rfl
  have k129 : t0 129 = σ 129 := zsm_row sm 129 rfl
  have loop : ∀ (m : Nat) (i : Int) (s : zS), (σ 98 4 - i).toNat = m → 0 ≤ i → i ≤ σ 98 4 → zfr (zWm ++ [(130, none), (131, none), (132, none)]) s t0 →
      (∀ p, 0 ≤ p → p < i → s 130 p = zH1 σ l d p ∧ s 131 p = zC1 σ l d p ∧ s 132 p = zN1 σ l d p) → (∀ p, i ≤ p → p < σ 98 4 → s 130 p = σ 130 p ∧ s 131 p = σ 131 p ∧ s 132 p = σ 132 p) →
      zR G MX12_days 45 [zr 98, zi a, zi (zcnt (zE1 σ l d) i.toNat), zi i, zu] [] s Q := by
    intro m
    induction m with
    | zero =>
      intro i s hm i0 i1 hf hlo hhi
      have hie : i = σ 98 4 := by omega
      have e4 : s 98 4 = σ 98 4 := by rw [zfr_at hf rfl]; exact k4
      apply TX12_days_45 <;> (try rw [e4]) <;> (try (intros; omega))
      intro _
      subst hie
      exact kq s hf hlo
    | succ m ih =>
      intro i s hm i0 i1 hf hlo hhi
      have e4 : s 98 4 = σ 98 4 := by rw [zfr_at hf rfl]; exact k4
      have e0 : s 98 0 = d := by rw [zfr_at hf rfl]; exact g0
      have e11 : s 98 11 = σ 98 11 := by rw [zfr_at hf rfl]; exact k11
      have e129 : s 129 = σ 129 := by rw [zfr_row hf rfl]; exact k129
      have es1 : s 98 1 = σ 98 1 := by rw [zfr_at hf rfl]; exact k1
      have hz := (g_zplc hi).2 i i0 (by omega)
      have hk := hpl.2.1 i i0 (by omega)
      have hx := hhi i (Int.le_refl _) (by omega)
      have cb := zcnt_b (P := zE1 σ l d) i.toNat
      have next : ∀ (t : zS) (c : Int), zfr (zWm ++ [(130, none), (131, none), (132, none)]) t s → (∀ p, p ≠ i → t 130 p = s 130 p ∧ t 131 p = s 131 p ∧ t 132 p = s 132 p) → (t 130 i = zH1 σ l d i ∧ t 131 i = zC1 σ l d i ∧ t 132 i = zN1 σ l d i) → c = zcnt (zE1 σ l d) (i + 1).toNat →
          zR G MX12_days 45 [zr 98, zi a, zi c, zi (i + 1), zu] [] t Q := by
        intro t c f1 ho hti hc
        rw [hc]
        refine ih (i + 1) t (by omega) (by omega) (by omega) (zfr_tr hf f1) (fun p p0 p1 => ?_) (fun p p0 p1 => ?_)
        · by_cases e : p = i
          · rw [e]; exact hti
          · have := ho p e
            rw [this.1, this.2.1, this.2.2]
            exact hlo p p0 (by omega)
        · have := ho p (by omega)
          rw [this.1, this.2.1, this.2.2]
          exact hhi p (by omega) p1
      by_cases hh : σ 130 i = -1
      · have hnE : ¬ zE1 σ l d i := fun z => z.1 hh
        have h1 := zH1_n hnE
        apply TX12_days_45 <;> (try rw [e4]) <;> (try rw [hx.1]) <;> (try (intros; omega))
        intro _ _
        exact next s _ zfr_0 (fun p _ => ⟨rfl, rfl, rfl⟩) ⟨by rw [hx.1, h1.1], by rw [hx.2.1, h1.2], by rw [hx.2.2, zN1_0 hh]⟩ (zcnt_n i0 hnE).symm
      · have hw : 0 ≤ σ 130 i ∧ σ 130 i < σ 98 1 := by omega
        have hls : zlaws s l := zlaws_ke (zfr_sm hf rfl) hl
        have ecan : zcan s l d (σ 130 i) (σ 129 i) ↔ zcan σ l d (σ 130 i) (σ 129 i) := by
          refine zcan_sm (fun q j z => ?_)
          rw [zfr_sm hf (D := zDd) rfl q j z, zsm_mo (D := zDd) rfl sm q j z]
        apply TX12_days_45 <;> (try rw [e4]) <;> (try rw [hx.1]) <;> (try rw [e129]) <;> (try (intros; omega))
        intro _ _
        refine okM_mhW hls (by rw [es1]; exact hw) hk.1 (fun s1 v f1 hv => ?_)
        rw [e0, ecan] at hv
        have g130 : s1 130 = s 130 := zfr_row f1 rfl
        have g131 : s1 131 = s 131 := zfr_row f1 rfl
        have g132 : s1 132 = s 132 := zfr_row f1 rfl
        have g11 : s1 98 11 = σ 98 11 := by rw [zfr_at f1 rfl]; exact e11
        have gg0 : s1 98 0 = d := by rw [zfr_at f1 rfl]; exact e0
        have x132 : s1 132 i = σ 132 i := by rw [g132]; exact hx.2.2
        rcases hv with ⟨rfl, hcan⟩ | ⟨rfl, hcan⟩
        · have hnE : ¬ zE1 σ l d i := fun z => z.2.1 hcan
          have h1 := zH1_n hnE
          apply TX12_days_82 <;> (try (intros; omega))
          intro _
          refine next _ _ (zfr_uA rfl (zfr_mo rfl f1)) (fun p hp => ?_) ⟨?_, ?_, ?_⟩ (zcnt_n i0 hnE).symm
          · rw [zup_of (by decide), zup_of (by decide), zup_oi hp, g130, g131, g132]
            exact ⟨rfl, rfl, rfl⟩
          · rw [zup_of (by decide), g130, hx.1, h1.1]
          · rw [zup_of (by decide), g131, hx.2.1, h1.2]
          · rw [zup_same, zN1_c hh hcan]
        · have out : ∀ t : zS, zfr (zWm ++ [(130, none), (131, none), (132, none)]) t s → (∀ p, p ≠ i → t 130 p = s 130 p ∧ t 131 p = s 131 p ∧ t 132 p = s 132 p) → zE1 σ l d i → zO G MX12_ends [zr 98, zi i, zi 1] t (fun rr σ' => zR G MX12_days 149 [zr 98, zi a, zi (zcnt (zE1 σ l d) i.toNat), zi i, zu] [] σ' Q) := by
            intro t ft ho hE
            have h1 := zH1_y hE
            apply TX12_ends <;> (try (intros; omega))
            intro _
            apply TX12_days_149 <;> (try (intros; omega))
            refine next _ _ (zfr_uA rfl (zfr_uA rfl (zfr_uA rfl ft))) (fun p hp => ?_) ⟨?_, ?_, ?_⟩ (zcnt_y i0 hE).symm
            · rw [zup_of (by decide), zup_of (by decide), zup_oi hp, zup_of (by decide), zup_oi hp, zup_of (by decide), zup_oi hp, zup_of (by decide), zup_of (by decide)]
              exact ho p hp
            · rw [zup_of (by decide), zup_of (by decide), zup_same, h1.1]
            · rw [zup_of (by decide), zup_same, h1.2.1]
            · rw [zup_same, h1.2.2]
          have stay : ∀ t : zS, zfr (zWm ++ [(130, none), (131, none), (132, none)]) t s → (∀ p, p ≠ i → t 130 p = s 130 p ∧ t 131 p = s 131 p ∧ t 132 p = s 132 p) → t 130 i = s 130 i → t 131 i = s 131 i → t 132 i = (if σ 132 i = -1 then d else σ 132 i) → ¬ zE1 σ l d i → zR G MX12_days 45 [zr 98, zi a, zi (zcnt (zE1 σ l d) i.toNat), zi (i + 1), zu] [] t Q := by
            intro t ft ho t1 t2 t3 hE
            have h1 := zH1_n hE
            exact next t _ ft ho ⟨by rw [t1, hx.1, h1.1], by rw [t2, hx.2.1, h1.2], by rw [t3, zN1_n hE hh hcan]⟩ (zcnt_n i0 hE).symm
          have hEiff : zE1 σ l d i ↔ σ 98 11 ≤ d - (if σ 132 i = -1 then d else σ 132 i) := ⟨fun z => z.2.2, fun z => ⟨hh, hcan, z⟩⟩
          have same : ∀ p, p ≠ i → s1 130 p = s 130 p ∧ s1 131 p = s 131 p ∧ s1 132 p = s 132 p := fun p _ => by rw [g130, g131, g132]; exact ⟨rfl, rfl, rfl⟩
          have same2 : ∀ p, p ≠ i → (zup s1 132 i d) 130 p = s 130 p ∧ (zup s1 132 i d) 131 p = s 131 p ∧ (zup s1 132 i d) 132 p = s 132 p := fun p hp => by
            rw [zup_of (by decide), zup_of (by decide), zup_oi hp, g130, g131, g132]; exact ⟨rfl, rfl, rfl⟩
          by_cases hno : σ 132 i = -1
          · rw [if_pos hno] at hEiff stay
            apply TX12_days_82 <;> (try rw [x132]) <;> (try rw [gg0]) <;> (try rw [g11]) <;> (try (intros; omega))
            · intro _ _ _ h5
              exact out _ (zfr_uA rfl (zfr_mo rfl f1)) same2 (hEiff.mpr (by omega))
            · intro _ _ h5
              exact stay _ (zfr_uA rfl (zfr_mo rfl f1)) same2 (by rw [zup_of (by decide), g130]) (by rw [zup_of (by decide), g131]) zup_same (fun z => by have := hEiff.mp z; omega)
          · rw [if_neg hno] at hEiff stay
            apply TX12_days_82 <;> (try rw [x132]) <;> (try rw [gg0]) <;> (try rw [g11]) <;> (try (intros; omega))
            · intro _ _ _ h5
              exact out _ (zfr_mo rfl f1) same (hEiff.mpr (by omega))
            · intro _ _ h5
              exact stay _ (zfr_mo rfl f1) same (by rw [g130]) (by rw [g131]) x132 (fun z => by have := hEiff.mp z; omega)
  refine loop _ 0 _ rfl (by omega) (by omega) zfr_0 (fun p p0 p1 => by omega) (fun p p0 p1 => ?_)
  rw [zsm_row sm 130 rfl, zsm_row sm 131 rfl, zsm_row sm 132 rfl]
  exact ⟨rfl, rfl, rfl⟩
theorem zplaX {s : zS} (hi : zinv σ) (e4 : s 98 4 = σ 98 4) (e129 : s 129 = σ 129) (hh : ∀ p, 0 ≤ p → p < σ 98 4 → s 130 p = -1 ∨ s 130 p = σ 130 p) : zpla s := by
  have hpl := g_zpla hi
  unfold zpla
  rw [e4, e129]
  refine ⟨hpl.1, fun p p0 p1 => ⟨(hpl.2.1 p p0 p1).1, ?_⟩, fun p q p0 p1 p2 hk hne => ?_⟩
  · rcases hh p p0 p1 with h | h
    · exact Or.inl h
    · rw [h]; exact (hpl.2.1 p p0 p1).2
  · rcases hh p p0 (by omega) with h | h
    · exact absurd h hne
    · rcases hh q (by omega) p2 with h' | h'
      · rw [h']; exact hne
      · rw [h] at hne
        rw [h, h']
        exact hpl.2.2 p q p0 p1 p2 hk hne
theorem okM_days2 {t0 s0 : zS} {a c0 : Int} (hi : zinv σ) (hd : σ 98 0 ≤ d ∧ d ≤ 40000) (hc0 : 0 ≤ c0 ∧ c0 ≤ 12) (g0 : t0 98 0 = d) (k4 : t0 98 4 = σ 98 4) (k11 : t0 98 11 = σ 98 11) (k129 : t0 129 = σ 129) (f0 : zfr (zWm ++ [(130, none), (131, none), (132, none)]) s0 t0)
    (h0 : ∀ p, 0 ≤ p → p < σ 98 4 → s0 130 p = zH1 σ l d p ∧ s0 131 p = zC1 σ l d p ∧ s0 132 p = zN1 σ l d p)
    (kq : ∀ s : zS, zfr (zWm ++ [(130, none), (131, none), (132, none)]) s t0 → (∀ p, 0 ≤ p → p < σ 98 4 → s 130 p = zH2 σ l d p ∧ s 131 p = zC2 σ l d p ∧ s 132 p = zN2 σ l d p) → Q (c0 + zcnt (zE2 σ l d) (σ 98 4).toNat) s) :
    zR G MX12_days 160 [zr 98, zi a, zi c0, zi 0, zu] [] s0 Q := by
  have hpl := g_zpla hi
  have hp0 := hpl.1
  have hn := (g_zppl hi).1
  have hnow := (g_zcnow hi).2
  have hgr := (g_zplc hi).1
  have loop : ∀ (m : Nat) (i : Int) (s : zS), (σ 98 4 - i).toNat = m → 0 ≤ i → i ≤ σ 98 4 → zfr (zWm ++ [(130, none), (131, none), (132, none)]) s t0 →
      (∀ p, 0 ≤ p → p < i → s 130 p = zH2 σ l d p ∧ s 131 p = zC2 σ l d p ∧ s 132 p = zN2 σ l d p) → (∀ p, i ≤ p → p < σ 98 4 → s 130 p = zH1 σ l d p ∧ s 131 p = zC1 σ l d p ∧ s 132 p = zN1 σ l d p) →
      zR G MX12_days 160 [zr 98, zi a, zi (c0 + zcnt (zE2 σ l d) i.toNat), zi i, zu] [] s Q := by
    intro m
    induction m with
    | zero =>
      intro i s hm i0 i1 hf hlo hhi
      have hie : i = σ 98 4 := by omega
      have e4 : s 98 4 = σ 98 4 := by rw [zfr_at hf rfl]; exact k4
      apply TX12_days_160 <;> (try rw [e4]) <;> (try (intros; omega))
      intro _
      subst hie
      exact kq s hf hlo
    | succ m ih =>
      intro i s hm i0 i1 hf hlo hhi
      have e4 : s 98 4 = σ 98 4 := by rw [zfr_at hf rfl]; exact k4
      have e0 : s 98 0 = d := by rw [zfr_at hf rfl]; exact g0
      have e11 : s 98 11 = σ 98 11 := by rw [zfr_at hf rfl]; exact k11
      have e129 : s 129 = σ 129 := by rw [zfr_row hf rfl]; exact k129
      have hx := hhi i (Int.le_refl _) (by omega)
      have cb := zcnt_b (P := zE2 σ l d) i.toNat
      have next : ∀ (t : zS) (c : Int), zfr [(130, none), (131, none), (132, none)] t s → (∀ p, p ≠ i → t 130 p = s 130 p ∧ t 131 p = s 131 p ∧ t 132 p = s 132 p) → (t 130 i = zH2 σ l d i ∧ t 131 i = zC2 σ l d i ∧ t 132 i = zN2 σ l d i) → c = c0 + zcnt (zE2 σ l d) (i + 1).toNat →
          zR G MX12_days 160 [zr 98, zi a, zi c, zi (i + 1), zu] [] t Q := by
        intro t c f1 ho hti hc
        rw [hc]
        refine ih (i + 1) t (by omega) (by omega) (by omega) (zfr_tr hf (zfr_mo rfl f1)) (fun p p0 p1 => ?_) (fun p p0 p1 => ?_)
        · by_cases e : p = i
          · rw [e]; exact hti
          · have := ho p e
            rw [this.1, this.2.1, this.2.2]
            exact hlo p p0 (by omega)
        · have := ho p (by omega)
          rw [this.1, this.2.1, this.2.2]
          exact hhi p (by omega) p1
      have stay : ¬ zE2 σ l d i → zR G MX12_days 160 [zr 98, zi a, zi (c0 + zcnt (zE2 σ l d) i.toNat), zi (i + 1), zu] [] s Q := by
        intro hE
        have h1 := zH2_n hE
        exact next s _ zfr_0 (fun p _ => ⟨rfl, rfl, rfl⟩) (by rw [h1.1, h1.2.1, h1.2.2]; exact hx) (by rw [zcnt_n i0 hE])
      by_cases hk : σ 129 i = 1 ∧ zH1 σ l d i ≠ -1
      · have rows : ∀ q, 0 ≤ q → q < σ 98 4 → σ 129 q = 3 → s 130 q = zH1 σ l d q ∧ s 131 q = zC1 σ l d q := by
          intro q q0 q1 c
          by_cases e : q < i
          · have hnE : ¬ zE2 σ l d q := fun z => by have := z.1; omega
            have h2 := zH2_n hnE
            have h3 := hlo q q0 e
            rw [h3.1, h3.2.1, h2.1, h2.2.1]
            exact ⟨rfl, rfl⟩
          · have h3 := hhi q (by omega) q1
            exact ⟨h3.1, h3.2.1⟩
        have pls : zpla s := by
          refine zplaX hi e4 e129 (fun p p0 p1 => ?_)
          have hr := (zH1_r (l := l) (p := p) hi ⟨p0, p1⟩ hd.1).1
          by_cases e : p < i
          · rw [(hlo p p0 e).1]
            by_cases hE : zE2 σ l d p
            · exact Or.inl (zH2_y hE).1
            · rw [(zH2_n hE).1]; exact hr
          · rw [(hhi p (by omega) p1).1]; exact hr
        apply TX12_days_160 <;> (try rw [e4]) <;> (try rw [e129]) <;> (try rw [hx.1]) <;> (try (intros; omega))
        intro _ _ _
        refine okX12_placeHeld pls (fun r hr => ?_)
        rw [e4, e129] at hr
        rcases hr with ⟨rfl, hno⟩ | ⟨hr, hrk, hrh, _⟩
        · apply TX12_days_202 <;> (try (intros; omega))
          intro _
          refine stay (fun z => ?_)
          obtain ⟨q, hq, q3, q4, _⟩ := z.2.2
          exact hno ⟨q, by rw [e4]; exact hq, by rw [e129]; exact q3, by rw [(rows q hq.1 hq.2 q3).1]; exact q4⟩
        · have hrr := rows r hr.1 hr.2 hrk
          have hC := (zH1_r (l := l) (p := r) hi hr hd.1).2.1
          have hE : zE2 σ l d i ↔ σ 98 11 ≤ d - zC1 σ l d r := by
            constructor
            · rintro ⟨_, _, q, hq, q3, q4, q5⟩
              have heq : q = r := by
                have hne : s 130 q ≠ -1 := by rw [(rows q hq.1 hq.2 q3).1, q4]; exact hk.2
                have h1 : s 130 q = s 130 r := by rw [(rows q hq.1 hq.2 q3).1, q4, hrh]
                by_cases x : q < r
                · exact absurd h1 (pls.2.2 q r hq.1 x (by rw [e4]; exact hr.2) (by rw [e129, q3, hrk]) hne)
                · by_cases y : r < q
                  · exact absurd h1.symm (pls.2.2 r q hr.1 y (by rw [e4]; exact hq.2) (by rw [e129, q3, hrk]) (by rw [← h1]; exact hne))
                  · omega
              rw [← heq]; exact q5
            · intro h
              exact ⟨hk.1, hk.2, r, hr, hrk, by rw [← hrr.1, hrh], h⟩
          apply TX12_days_202 <;> (try rw [e0]) <;> (try rw [e11]) <;> (try rw [hrr.2]) <;> (try (intros; omega))
          · intro _ h5
            have hEy := hE.mpr h5
            have h1 := zH2_y hEy
            apply TX12_ends <;> (try (intros; omega))
            intro _
            apply TX12_days_235 <;> (try (intros; omega))
            refine next _ _ (zfr_uA rfl (zfr_uA rfl (zfr_uA rfl zfr_0))) (fun p hp => ?_) ⟨?_, ?_, ?_⟩ (by rw [zcnt_y i0 hEy]; omega)
            · rw [zup_of (by decide), zup_of (by decide), zup_oi hp, zup_of (by decide), zup_oi hp, zup_of (by decide), zup_oi hp, zup_of (by decide), zup_of (by decide)]
              exact ⟨rfl, rfl, rfl⟩
            · rw [zup_of (by decide), zup_of (by decide), zup_same, h1.1]
            · rw [zup_of (by decide), zup_same, h1.2.1]
            · rw [zup_same, h1.2.2]
          · intro h5
            exact stay (fun z => by have := hE.mp z; omega)
      · have hnE : ¬ zE2 σ l d i := fun z => hk ⟨z.1, z.2.1⟩
        apply TX12_days_160 <;> (try rw [e4]) <;> (try rw [e129]) <;> (try rw [hx.1]) <;> (try (intros; omega))
        intro _ _
        exact stay hnE
  have := loop _ 0 s0 rfl (by omega) (by omega) f0 (fun p p0 p1 => by omega) h0
  rw [show c0 + zcnt (zE2 σ l d) (0 : Int).toNat = c0 from by show c0 + zcnt _ 0 = c0; unfold zcnt; omega] at this
  exact this
theorem zH2_r {p : Int} (hi : zinv σ) (hp : 0 ≤ p ∧ p < σ 98 4) (hd : σ 98 0 ≤ d) : (zH2 σ l d p = -1 ∨ zH2 σ l d p = σ 130 p) ∧ (-1 ≤ zC2 σ l d p ∧ zC2 σ l d p ≤ d) ∧ (-1 ≤ zN2 σ l d p ∧ zN2 σ l d p ≤ d) := by
  have hr := zH1_r (l := l) hi hp hd
  have hn := (g_zcnow hi).2
  by_cases h : zE2 σ l d p
  · have := zH2_y h
    rw [this.1, this.2.1, this.2.2]
    omega
  · have := zH2_n h
    rw [this.1, this.2.1, this.2.2]
    exact hr
theorem st_days {a1 : Int} (hi : zinv σ) : zst2 G MX11_days [zr 0, zi a1] MX12_days [zr 98, zi a1] σ := by
  obtain ⟨l, hM, hC⟩ := g_ztur hi
  have hnow := g_zcnow hi
  have hn0 := hnow.1
  have hn1 := hnow.2
  have hpl := g_zpla hi
  have hp0 := hpl.1
  by_cases hok : (1 ≤ a1 ∧ a1 ≤ 4000) ∧ σ 98 0 + a1 ≤ 40000
  · apply TX11_days <;> (try rw [hn0]) <;> (try (intros; omega))
    intro _ _
    have hd : σ 98 0 ≤ σ 98 0 + a1 ∧ σ 98 0 + a1 ≤ 40000 := by omega
    refine okC_days1 hi hM hC hd (fun s1 f1 r1 => ?_)
    have cb1 := zcnt_b (P := zE1 σ l (σ 98 0 + a1)) (σ 98 4).toNat
    refine okC_days2 hi hd ⟨cb1.1, by omega⟩ f1 r1 (fun s2 f2 r2 => TX11_days_50 ?_)
    have f2' : zfr (zWw ++ [(0, some 13), (54, none), (55, none), (56, none)]) s2 σ := zfr_tr (zfr_uF rfl zfr_0) (zfr_mo rfl f2)
    have e0 : s2 98 0 = σ 98 0 := zfr_at f2' rfl
    apply TX12_days <;> (try rw [e0]) <;> (try (intros; omega))
    intro _ _ _
    have f3 : zfr (zWw ++ [(0, some 13), (54, none), (55, none), (56, none), (98, some 0)]) (zup s2 98 0 (σ 98 0 + a1)) σ := zfr_uF rfl (zfr_mo rfl f2')
    have g0 : (zup s2 98 0 (σ 98 0 + a1)) 98 0 = σ 98 0 + a1 := zup_same
    have q13 : (zup s2 98 0 (σ 98 0 + a1)) 0 13 = σ 98 0 + a1 := by
      rw [zup_of (by decide)]
      rw [zfr_at f2 rfl, zup_same]
    have rr : ∀ p, 0 ≤ p → p < σ 98 4 → (zup s2 98 0 (σ 98 0 + a1)) 54 p = zH2 σ l (σ 98 0 + a1) p ∧ (zup s2 98 0 (σ 98 0 + a1)) 55 p = zC2 σ l (σ 98 0 + a1) p ∧ (zup s2 98 0 (σ 98 0 + a1)) 56 p = zN2 σ l (σ 98 0 + a1) p := fun p a b => by
      rw [zup_of (by decide), zup_of (by decide), zup_of (by decide)]; exact r2 p a b
    generalize zup s2 98 0 (σ 98 0 + a1) = t0 at f3 g0 q13 rr
    have hlt : zlaws t0 l := zlaws_ke (zfr_sm f3 rfl) (zlaws_of hi hM hC)
    refine okM_days1 (l := l) hi hlt hd g0 (zfr_sm f3 rfl) (fun s4 f4 r4 => ?_)
    refine okM_days2 hi hd ⟨cb1.1, by omega⟩ g0 (zfr_at f3 rfl) (zfr_at f3 rfl) (zfr_row f3 rfl) f4 r4 (fun s5 f5 r5 => ⟨rfl, ?_⟩)
    have f6 : zfr zWp s5 σ := zfr_tr (zfr_mo rfl f3) (zfr_mo rfl f5)
    have z0 : s5 98 0 = σ 98 0 + a1 := by rw [zfr_at f5 rfl]; exact g0
    refine zinv_pl hi f6 (by rw [zfr_at f5 rfl, z0]; exact q13) (by rw [z0]; exact hd) (fun p p0 p1 => ?_) (fun p p0 p1 => ?_) (fun p p0 p1 => ?_) (fun p q p0 p1 p2 hk hne => ?_)
    · have h5 := r5 p p0 p1
      have h2 := rr p p0 p1
      rw [zfr_row (q := 54) f5 rfl, zfr_row (q := 55) f5 rfl, zfr_row (q := 56) f5 rfl, h5.1, h5.2.1, h5.2.2]
      exact h2
    · rw [zfr_row (q := 57) f5 rfl, zfr_row (q := 133) f5 rfl, zfr_row (q := 57) f3 rfl, zfr_row (q := 133) f3 rfl]
      exact g_zpas hi p p0 p1
    · have h5 := r5 p p0 p1
      have hr := zH2_r (l := l) hi ⟨p0, p1⟩ hd.1
      have hz := (g_zplc hi).2 p p0 p1
      rw [h5.1, h5.2.1, h5.2.2, z0]
      refine ⟨?_, hr.2.1, hr.2.2⟩
      rcases hr.1 with h | h
      · exact Or.inl h
      · rw [h]; exact hz.1
    · rw [(r5 p p0 (by omega)).1] at hne
      rw [(r5 p p0 (by omega)).1, (r5 q (by omega) p2).1]
      rcases (zH2_r (l := l) hi ⟨p0, by omega⟩ hd.1).1 with h | h
      · exact absurd h hne
      · rcases (zH2_r (l := l) (p := q) hi ⟨by omega, p2⟩ hd.1).1 with h' | h'
        · rw [h']; exact hne
        · rw [h] at hne ⊢
          rw [h']
          exact hpl.2.2 p q p0 p1 p2 hk hne
  · apply TX11_days <;> (try (intros; omega))
    intros; apply TX12_days <;> (try simp (disch := decide) only [zup_of, zup_oi, zup_same]) <;> (try (intros; omega)) <;> (try (intros; exact ⟨by first | trivial | omega, zno hi (by first | decide | omega) rfl rfl (by first | decide | omega)⟩))
end DM
