/-! CALLS: days -/
noncomputable def zcnt (P : Int → Prop) : Nat → Int
  | 0 => 0
  | n + 1 => by classical exact zcnt P n + if P (n : Int) then 1 else 0
theorem zcnt_y {P : Int → Prop} {i : Int} (h : 0 ≤ i) (hP : P i) : zcnt P (i + 1).toNat = zcnt P i.toNat + 1 := by
  rw [show (i + 1).toNat = i.toNat + 1 from by omega]
  unfold zcnt
  rw [if_pos (by rw [show ((i.toNat : Nat) : Int) = i from by omega]; exact hP)]
  cases i.toNat <;> rfl
theorem zcnt_n {P : Int → Prop} {i : Int} (h : 0 ≤ i) (hP : ¬ P i) : zcnt P (i + 1).toNat = zcnt P i.toNat := by
  rw [show (i + 1).toNat = i.toNat + 1 from by omega]
  have e : zcnt P (i.toNat + 1) = zcnt P i.toNat + 0 := by
    conv => lhs; unfold zcnt
    rw [if_neg (by rw [show ((i.toNat : Nat) : Int) = i from by omega]; exact hP)]
  rw [e, Int.add_zero]
theorem zcnt_b {P : Int → Prop} : ∀ n : Nat, 0 ≤ zcnt P n ∧ zcnt P n ≤ n := by
  intro n
  induction n with
  | zero => unfold zcnt; omega
  | succ n ih =>
    unfold zcnt
    split <;> omega
/-- a place ends for want of grace -/
def zE1 (σ : zS) (l : List Int) (d p : Int) : Prop := σ 130 p ≠ -1 ∧ ¬ zcan σ l d (σ 130 p) (σ 129 p) ∧ σ 98 11 ≤ d - (if σ 132 p = -1 then d else σ 132 p)
noncomputable def zH1 (σ : zS) (l : List Int) (d p : Int) : Int := by classical exact if zE1 σ l d p then -1 else σ 130 p
noncomputable def zC1 (σ : zS) (l : List Int) (d p : Int) : Int := by classical exact if zE1 σ l d p then -1 else σ 131 p
noncomputable def zN1 (σ : zS) (l : List Int) (d p : Int) : Int := by classical exact if zE1 σ l d p then -1 else if σ 130 p = -1 then σ 132 p else if zcan σ l d (σ 130 p) (σ 129 p) then -1 else if σ 132 p = -1 then d else σ 132 p
def zE2 (σ : zS) (l : List Int) (d p : Int) : Prop := σ 129 p = 1 ∧ zH1 σ l d p ≠ -1 ∧ ∃ q, (0 ≤ q ∧ q < σ 98 4) ∧ σ 129 q = 3 ∧ zH1 σ l d q = zH1 σ l d p ∧ σ 98 11 ≤ d - zC1 σ l d q
noncomputable def zH2 (σ : zS) (l : List Int) (d p : Int) : Int := by classical exact if zE2 σ l d p then -1 else zH1 σ l d p
noncomputable def zC2 (σ : zS) (l : List Int) (d p : Int) : Int := by classical exact if zE2 σ l d p then -1 else zC1 σ l d p
noncomputable def zN2 (σ : zS) (l : List Int) (d p : Int) : Int := by classical exact if zE2 σ l d p then -1 else zN1 σ l d p
theorem zH1_y {σ : zS} {l : List Int} {d p : Int} (h : zE1 σ l d p) : zH1 σ l d p = -1 ∧ zC1 σ l d p = -1 ∧ zN1 σ l d p = -1 := by
  unfold zH1 zC1 zN1
  rw [if_pos h, if_pos h, if_pos h]
  exact ⟨rfl, rfl, rfl⟩
theorem zH1_n {σ : zS} {l : List Int} {d p : Int} (h : ¬ zE1 σ l d p) : zH1 σ l d p = σ 130 p ∧ zC1 σ l d p = σ 131 p := by
  unfold zH1 zC1
  rw [if_neg h, if_neg h]
  exact ⟨rfl, rfl⟩
theorem zN1_0 {σ : zS} {l : List Int} {d p : Int} (h : σ 130 p = -1) : zN1 σ l d p = σ 132 p := by
  unfold zN1
  rw [if_neg (fun z => z.1 h), if_pos h]
theorem zN1_c {σ : zS} {l : List Int} {d p : Int} (h : σ 130 p ≠ -1) (hc : zcan σ l d (σ 130 p) (σ 129 p)) : zN1 σ l d p = -1 := by
  unfold zN1
  rw [if_neg (fun z => z.2.1 hc), if_neg h, if_pos hc]
theorem zN1_n {σ : zS} {l : List Int} {d p : Int} (hn : ¬ zE1 σ l d p) (h : σ 130 p ≠ -1) (hc : ¬ zcan σ l d (σ 130 p) (σ 129 p)) : zN1 σ l d p = if σ 132 p = -1 then d else σ 132 p := by
  unfold zN1
  rw [if_neg hn, if_neg h, if_neg hc]
theorem zH2_y {σ : zS} {l : List Int} {d p : Int} (h : zE2 σ l d p) : zH2 σ l d p = -1 ∧ zC2 σ l d p = -1 ∧ zN2 σ l d p = -1 := by
  unfold zH2 zC2 zN2
  rw [if_pos h, if_pos h, if_pos h]
  exact ⟨rfl, rfl, rfl⟩
theorem zH2_n {σ : zS} {l : List Int} {d p : Int} (h : ¬ zE2 σ l d p) : zH2 σ l d p = zH1 σ l d p ∧ zC2 σ l d p = zC1 σ l d p ∧ zN2 σ l d p = zN1 σ l d p := by
  unfold zH2 zC2 zN2
  rw [if_neg h, if_neg h, if_neg h]
  exact ⟨rfl, rfl, rfl⟩
/-- rows of places: behind i as they were (first), ahead of i as they are (then) -/
def zrw (n i : Int) (s h c m : Int → Int) (F : Int → Int × Int × Int) (E : Int → Int × Int × Int) : Prop := ∀ p, 0 ≤ p → p < n → (p < i → (h p, c p, m p) = E p) ∧ (i ≤ p → (h p, c p, m p) = F p)
section DY
variable {G : zG} {σ : zS} {Q : Int → zS → Prop} {l : List Int} {d : Int}
theorem zH1_r {p : Int} (hi : zinv σ) (hp : 0 ≤ p ∧ p < σ 98 4) (hd : σ 98 0 ≤ d) : (zH1 σ l d p = -1 ∨ zH1 σ l d p = σ 130 p) ∧ (-1 ≤ zC1 σ l d p ∧ zC1 σ l d p ≤ d) ∧ (-1 ≤ zN1 σ l d p ∧ zN1 σ l d p ≤ d) := by
  have hz := (g_zplc hi).2 p hp.1 hp.2
  have hn := (g_zcnow hi).2
  by_cases h : zE1 σ l d p
  · have := zH1_y h
    rw [this.1, this.2.1, this.2.2]
    omega
  · have h1 := zH1_n h
    refine ⟨Or.inr h1.1, by rw [h1.2]; omega, ?_⟩
    unfold zN1
    rw [if_neg h]
    split
    · omega
    · split
      · omega
      · split <;> omega
/-- the class's first pass -/
theorem okC_days1 (hi : zinv σ) (hM : zturM σ l) (hC : zturC σ l) (hd : σ 98 0 ≤ d ∧ d ≤ 40000)
    (kq : ∀ s : zS, zfr (zWw ++ [(54, none), (55, none), (56, none)]) s (zup σ 0 13 d) → (∀ p, 0 ≤ p → p < σ 98 4 → s 54 p = zH1 σ l d p ∧ s 55 p = zC1 σ l d p ∧ s 56 p = zN1 σ l d p) →
      zR G MX6_endThose 47 [zr 52, zi d, zi (zcnt (zE1 σ l d) (σ 98 4).toNat), zi 0] [] s Q) : zO G MX6_endThose [zr 52, zi d] (zup σ 0 13 d) Q := by
  have hpl := g_zpla hi
  have hpC := g_zplC hi
  have h0 := hpl.1
  have hn := (g_zppl hi).1
  have hnow := (g_zcnow hi).2
  refine TX6_endThose ?_
  have loop : ∀ (m : Nat) (i : Int) (s : zS), (σ 98 4 - i).toNat = m → 0 ≤ i → i ≤ σ 98 4 → zfr (zWw ++ [(54, none), (55, none), (56, none)]) s (zup σ 0 13 d) →
      (∀ p, 0 ≤ p → p < i → s 54 p = zH1 σ l d p ∧ s 55 p = zC1 σ l d p ∧ s 56 p = zN1 σ l d p) → (∀ p, i ≤ p → p < σ 98 4 → s 54 p = σ 130 p ∧ s 55 p = σ 131 p ∧ s 56 p = σ 132 p) →
      zR G MX6_endThose 4 [zr 52, zi d, zi (zcnt (zE1 σ l d) i.toNat), zi i] [] s Q := by
    intro m
    induction m with
    | zero =>
      intro i s hm i0 i1 hf hlo hhi
      have hie : i = σ 98 4 := by omega
      have e7 : s 52 7 = σ 98 4 := by rw [zfr_at hf rfl, zup_of (by decide)]; exact hpC.1
      apply TX6_endThose_4 <;> (try rw [e7]) <;> (try (intros; omega))
      intro _
      subst hie
      exact kq s hf hlo
    | succ m ih =>
      intro i s hm i0 i1 hf hlo hhi
      have e7 : s 52 7 = σ 98 4 := by rw [zfr_at hf rfl, zup_of (by decide)]; exact hpC.1
      have hz := (g_zplc hi).2 i i0 (by omega)
      have hk := hpl.2.1 i i0 (by omega)
      have hx := hhi i (Int.le_refl _) (by omega)
      have e53 : s 53 i = σ 129 i := by rw [zfr_row (q := 53) hf rfl, zup_of (by decide)]; exact (hpC.2 i i0 (by omega)).1
      have cb := zcnt_b (P := zE1 σ l d) i.toNat
      -- on to the next one
      have next : ∀ (t : zS) (c : Int), zfr (zWw ++ [(56, none), (54, none), (55, none)]) t s → (∀ p, p ≠ i → t 54 p = s 54 p ∧ t 55 p = s 55 p ∧ t 56 p = s 56 p) → (t 54 i = zH1 σ l d i ∧ t 55 i = zC1 σ l d i ∧ t 56 i = zN1 σ l d i) → c = zcnt (zE1 σ l d) (i + 1).toNat →
          zR G MX6_endThose 4 [zr 52, zi d, zi c, zi (i + 1)] [] t Q := by
        intro t c f1 ho hti hc
        rw [hc]
        refine ih (i + 1) t (by omega) (by omega) (by omega) (zfr_tr hf (zfr_mo rfl f1)) (fun p p0 p1 => ?_) (fun p p0 p1 => ?_)
        · by_cases e : p = i
          · rw [e]; exact hti
          · have := ho p e
            rw [this.1, this.2.1, this.2.2]
            exact hlo p p0 (by omega)
        · have := ho p (by omega)
          rw [this.1, this.2.1, this.2.2]
          exact hhi p (by omega) p1
      by_cases hh : σ 130 i = -1
      · have hnE : ¬ zE1 σ l d i := fun z => z.1 hh
        have h1 := zH1_n hnE
        apply TX6_endThose_4 <;> (try rw [e7]) <;> (try rw [hx.1]) <;> (try (intros; omega))
        intro _ _
        exact next s _ zfr_0 (fun p _ => ⟨rfl, rfl, rfl⟩) ⟨by rw [hx.1, h1.1], by rw [hx.2.1, h1.2], by rw [hx.2.2, zN1_0 hh]⟩ (zcnt_n i0 hnE).symm
      · have hw : 0 ≤ σ 130 i ∧ σ 130 i < σ 98 1 := by omega
        have hls : zlaws s l := zlaws_ke (zfr_sm hf rfl) (zlaws_ke (s := zup σ 0 13 d) (zfr_sm (zfr_uF (W := [(0, some 13)]) rfl zfr_0) rfl) (zlaws_of hi hM hC))
        have es1 : s 98 1 = σ 98 1 := by rw [zfr_at hf rfl, zup_of (by decide)]
        have e8 : s 52 8 = σ 98 11 := by rw [zfr_at hf rfl, zup_of (by decide)]; exact (g_zplc hi).1.1
        have ecan : zcan s l d (σ 130 i) (σ 129 i) ↔ zcan σ l d (σ 130 i) (σ 129 i) := by
          refine zcan_sm (fun q j a => ?_)
          rw [zfr_sm hf (D := zDd) rfl q j a, zfr_sm (zfr_uF (W := [(0, some 13)]) (v := d) rfl zfr_0) (D := zDd) rfl q j a]
        apply TX6_endThose_4 <;> (try rw [e7]) <;> (try rw [hx.1]) <;> (try (intros; omega))
        intro _ _
        apply TX6_isOutOfGrace <;> (try rw [hx.1]) <;> (try rw [e53]) <;> (try (intros; omega))
        obtain ⟨q1, q2, q3, q4, q5, q6, q7, q8, q9⟩ := hls
        refine okX3_weigh q1 q2 q3 hk.1 q5 q6 q7 q8 q9 (by rw [es1]; exact hw) (fun s1 u f1 z1 _ _ => ?_)
        have hv := zcan_v (σ := s) (l := l) (d := d) (w := σ 130 i) (kd := σ 129 i) ⟨u, z1, rfl⟩
        rw [ecan] at hv
        generalize zmres s (zlawO s l (σ 129 i) d d u) (σ 130 i) d d = v at hv
        have g54 : s1 54 = s 54 := zfr_row f1 rfl
        have g55 : s1 55 = s 55 := zfr_row f1 rfl
        have g56 : s1 56 = s 56 := zfr_row f1 rfl
        have g8 : s1 52 8 = σ 98 11 := by rw [zfr_at f1 rfl]; exact e8
        have x56 : s1 56 i = σ 132 i := by rw [g56]; exact hx.2.2
        by_cases hc : v = 1
        · have hcan := hv.mp hc
          have hnE : ¬ zE1 σ l d i := fun z => z.2.1 hcan
          have h1 := zH1_n hnE
          apply TX6_isOutOfGrace_22 <;> (try (intros; omega))
          intro _
          apply TX6_endThose_28 <;> (try (intros; omega))
          intro _
          refine next _ _ (zfr_uA rfl (zfr_mo rfl f1)) (fun p hp => ?_) ⟨?_, ?_, ?_⟩ (zcnt_n i0 hnE).symm
          · rw [zup_of (by decide), zup_of (by decide), zup_oi hp, g54, g55, g56]
            exact ⟨rfl, rfl, rfl⟩
          · rw [zup_of (by decide), g54, hx.1, h1.1]
          · rw [zup_of (by decide), g55, hx.2.1, h1.2]
          · rw [zup_same, zN1_c hh hcan]
        · have hcan : ¬ zcan σ l d (σ 130 i) (σ 129 i) := fun z => hc (hv.mpr z)
          have out : ∀ t : zS, zfr (zWw ++ [(56, none), (54, none), (55, none)]) t s → (∀ p, p ≠ i → t 54 p = s 54 p ∧ t 55 p = s 55 p ∧ t 56 p = s 56 p) → zE1 σ l d i → zR G MX6_endThose 28 [zr 52, zi d, zi (zcnt (zE1 σ l d) i.toNat), zi i] [zi 1] t Q := by
            intro t ft ho hE
            have h1 := zH1_y hE
            apply TX6_endThose_28 <;> (try (intros; omega))
            intro _
            refine next _ _ (zfr_uA rfl (zfr_uA rfl (zfr_uA rfl ft))) (fun p hp => ?_) ⟨?_, ?_, ?_⟩ (zcnt_y i0 hE).symm
            · rw [zup_of (by decide), zup_of (by decide), zup_oi hp, zup_of (by decide), zup_oi hp, zup_of (by decide), zup_oi hp, zup_of (by decide), zup_of (by decide)]
              exact ho p hp
            · rw [zup_of (by decide), zup_of (by decide), zup_same, h1.1]
            · rw [zup_of (by decide), zup_same, h1.2.1]
            · rw [zup_same, h1.2.2]
          have stay : ∀ t : zS, zfr (zWw ++ [(56, none), (54, none), (55, none)]) t s → (∀ p, p ≠ i → t 54 p = s 54 p ∧ t 55 p = s 55 p ∧ t 56 p = s 56 p) → t 54 i = s 54 i → t 55 i = s 55 i → t 56 i = (if σ 132 i = -1 then d else σ 132 i) → ¬ zE1 σ l d i → zR G MX6_endThose 28 [zr 52, zi d, zi (zcnt (zE1 σ l d) i.toNat), zi i] [zi 0] t Q := by
            intro t ft ho t1 t2 t3 hE
            have h1 := zH1_n hE
            apply TX6_endThose_28 <;> (try (intros; omega))
            intro _
            exact next t _ ft ho ⟨by rw [t1, hx.1, h1.1], by rw [t2, hx.2.1, h1.2], by rw [t3, zN1_n hE hh hcan]⟩ (zcnt_n i0 hE).symm
          have hEiff : zE1 σ l d i ↔ σ 98 11 ≤ d - (if σ 132 i = -1 then d else σ 132 i) := ⟨fun z => z.2.2, fun z => ⟨hh, hcan, z⟩⟩
          have same : ∀ p, p ≠ i → s1 54 p = s 54 p ∧ s1 55 p = s 55 p ∧ s1 56 p = s 56 p := fun p _ => by rw [g54, g55, g56]; exact ⟨rfl, rfl, rfl⟩
          have same2 : ∀ p, p ≠ i → (zup s1 56 i d) 54 p = s 54 p ∧ (zup s1 56 i d) 55 p = s 55 p ∧ (zup s1 56 i d) 56 p = s 56 p := fun p hp => by
            rw [zup_of (by decide), zup_of (by decide), zup_oi hp, g54, g55, g56]; exact ⟨rfl, rfl, rfl⟩
          by_cases hno : σ 132 i = -1
          · rw [if_pos hno] at hEiff stay
            apply TX6_isOutOfGrace_22 <;> (try rw [x56]) <;> (try rw [g8]) <;> (try (intros; omega))
            · intro _ _ h5
              exact stay _ (zfr_uA rfl (zfr_mo rfl f1)) same2 (by rw [zup_of (by decide), g54]) (by rw [zup_of (by decide), g55]) zup_same (fun z => by have := hEiff.mp z; omega)
            · intro _ _ h5
              exact out _ (zfr_uA rfl (zfr_mo rfl f1)) same2 (hEiff.mpr (by omega))
          · rw [if_neg hno] at hEiff stay
            apply TX6_isOutOfGrace_22 <;> (try rw [x56]) <;> (try rw [g8]) <;> (try (intros; omega))
            · intro _ _ h5
              exact stay _ (zfr_mo rfl f1) same (by rw [g54]) (by rw [g55]) x56 (fun z => by have := hEiff.mp z; omega)
            · intro _ _ h5
              exact out _ (zfr_mo rfl f1) same (hEiff.mpr (by omega))
  refine loop _ 0 _ rfl (by omega) (by omega) zfr_0 (fun p p0 p1 => by omega) (fun p p0 p1 => ?_)
  have := hpC.2 p p0 p1
  rw [zup_of (by decide), zup_of (by decide), zup_of (by decide)]
  exact ⟨this.2.1, this.2.2.1, this.2.2.2.1⟩
/-- the class's second pass -/
theorem okC_days2 (hi : zinv σ) (hd : σ 98 0 ≤ d ∧ d ≤ 40000) {s0 : zS} {c0 : Int} (hc0 : 0 ≤ c0 ∧ c0 ≤ 12) (f0 : zfr (zWw ++ [(54, none), (55, none), (56, none)]) s0 (zup σ 0 13 d)) (h0 : ∀ p, 0 ≤ p → p < σ 98 4 → s0 54 p = zH1 σ l d p ∧ s0 55 p = zC1 σ l d p ∧ s0 56 p = zN1 σ l d p)
    (kq : ∀ s : zS, zfr (zWw ++ [(54, none), (55, none), (56, none)]) s (zup σ 0 13 d) → (∀ p, 0 ≤ p → p < σ 98 4 → s 54 p = zH2 σ l d p ∧ s 55 p = zC2 σ l d p ∧ s 56 p = zN2 σ l d p) → Q (c0 + zcnt (zE2 σ l d) (σ 98 4).toNat) s) :
    zR G MX6_endThose 47 [zr 52, zi d, zi c0, zi 0] [] s0 Q := by
  have hpl := g_zpla hi
  have hpC := g_zplC hi
  have hp0 := hpl.1
  have hn := (g_zppl hi).1
  have hnow := (g_zcnow hi).2
  have loop : ∀ (m : Nat) (i : Int) (s : zS), (σ 98 4 - i).toNat = m → 0 ≤ i → i ≤ σ 98 4 → zfr (zWw ++ [(54, none), (55, none), (56, none)]) s (zup σ 0 13 d) →
      (∀ p, 0 ≤ p → p < i → s 54 p = zH2 σ l d p ∧ s 55 p = zC2 σ l d p ∧ s 56 p = zN2 σ l d p) → (∀ p, i ≤ p → p < σ 98 4 → s 54 p = zH1 σ l d p ∧ s 55 p = zC1 σ l d p ∧ s 56 p = zN1 σ l d p) →
      zR G MX6_endThose 47 [zr 52, zi d, zi (c0 + zcnt (zE2 σ l d) i.toNat), zi i] [] s Q := by
    intro m
    induction m with
    | zero =>
      intro i s hm i0 i1 hf hlo hhi
      have hie : i = σ 98 4 := by omega
      have e7 : s 52 7 = σ 98 4 := by rw [zfr_at hf rfl, zup_of (by decide)]; exact hpC.1
      apply TX6_endThose_47 <;> (try rw [e7]) <;> (try (intros; omega))
      intro _
      subst hie
      exact kq s hf hlo
    | succ m ih =>
      intro i s hm i0 i1 hf hlo hhi
      have e7 : s 52 7 = σ 98 4 := by rw [zfr_at hf rfl, zup_of (by decide)]; exact hpC.1
      have e8 : s 52 8 = σ 98 11 := by rw [zfr_at hf rfl, zup_of (by decide)]; exact (g_zplc hi).1.1
      have hgr := (g_zplc hi).1
      have e53 : ∀ p, 0 ≤ p → p < σ 98 4 → s 53 p = σ 129 p := fun p a b => by rw [zfr_row (q := 53) hf rfl, zup_of (by decide)]; exact (hpC.2 p a b).1
      have hx := hhi i (Int.le_refl _) (by omega)
      have cb := zcnt_b (P := zE2 σ l d) i.toNat
      have next : ∀ (t : zS) (c : Int), zfr [(54, none), (55, none), (56, none)] t s → (∀ p, p ≠ i → t 54 p = s 54 p ∧ t 55 p = s 55 p ∧ t 56 p = s 56 p) → (t 54 i = zH2 σ l d i ∧ t 55 i = zC2 σ l d i ∧ t 56 i = zN2 σ l d i) → c = c0 + zcnt (zE2 σ l d) (i + 1).toNat →
          zR G MX6_endThose 47 [zr 52, zi d, zi c, zi (i + 1)] [] t Q := by
        intro t c f1 ho hti hc
        rw [hc]
        refine ih (i + 1) t (by omega) (by omega) (by omega) (zfr_tr hf (zfr_mo rfl f1)) (fun p p0 p1 => ?_) (fun p p0 p1 => ?_)
        · by_cases e : p = i
          · rw [e]; exact hti
          · have := ho p e
            rw [this.1, this.2.1, this.2.2]
            exact hlo p p0 (by omega)
        · have := ho p (by omega)
          rw [this.1, this.2.1, this.2.2]
          exact hhi p (by omega) p1
      have stay : ¬ zE2 σ l d i → zR G MX6_endThose 47 [zr 52, zi d, zi (c0 + zcnt (zE2 σ l d) i.toNat), zi (i + 1)] [] s Q := by
        intro hE
        have h1 := zH2_n hE
        exact next s _ zfr_0 (fun p _ => ⟨rfl, rfl, rfl⟩) (by rw [h1.1, h1.2.1, h1.2.2]; exact hx) (by rw [zcnt_n i0 hE])
      by_cases hk : σ 129 i = 1 ∧ zH1 σ l d i ≠ -1
      · apply TX6_endThose_47 <;> (try rw [e7]) <;> (try rw [e53 i i0 (by omega)]) <;> (try rw [hx.1]) <;> (try (intros; omega))
        intro _ _ _
        have out : zE2 σ l d i → zR G MX6_endThose 86 [zr 52, zi d, zi (c0 + zcnt (zE2 σ l d) i.toNat), zi i] [zi 1] s Q := by
          intro hE
          have h1 := zH2_y hE
          apply TX6_endThose_86 <;> (try (intros; omega))
          intro _
          refine next _ _ (zfr_uA rfl (zfr_uA rfl (zfr_uA rfl zfr_0))) (fun p hp => ?_) ⟨?_, ?_, ?_⟩ (by rw [zcnt_y i0 hE]; omega)
          · rw [zup_of (by decide), zup_of (by decide), zup_oi hp, zup_of (by decide), zup_oi hp, zup_of (by decide), zup_oi hp, zup_of (by decide), zup_of (by decide)]
            exact ⟨rfl, rfl, rfl⟩
          · rw [zup_of (by decide), zup_of (by decide), zup_same, h1.1]
          · rw [zup_of (by decide), zup_same, h1.2.1]
          · rw [zup_same, h1.2.2]
        refine TX6_hasSettledLiving ?_
        have inner : ∀ (n : Nat) (q : Int), (σ 98 4 - q).toNat = n → 0 ≤ q → q ≤ σ 98 4 → (∀ x, 0 ≤ x → x < q → ¬ (σ 129 x = 3 ∧ zH1 σ l d x = zH1 σ l d i ∧ σ 98 11 ≤ d - zC1 σ l d x)) →
            zR G MX6_hasSettledLiving 2 [zr 52, zi (zH1 σ l d i), zi d, zi q] [] s (fun rr σ' => zR G MX6_endThose 86 [zr 52, zi d, zi (c0 + zcnt (zE2 σ l d) i.toNat), zi i] [zi rr] σ' Q) := by
          intro n
          induction n with
          | zero =>
            intro q hq q0 q1 hno
            apply TX6_hasSettledLiving_2 <;> (try rw [e7]) <;> (try (intros; omega))
            intro _
            apply TX6_endThose_86 <;> (try (intros; omega))
            intro _
            refine stay (fun z => ?_)
            obtain ⟨x, hx0, hx1⟩ := z.2.2
            exact hno x hx0.1 (by omega) hx1
          | succ n ihn =>
            intro q hq q0 q1 hno
            have hk3 := e53 q q0 (by omega)
            have hr := zH1_r (l := l) (p := q) hi ⟨q0, by omega⟩ hd.1
            by_cases c : σ 129 q = 3
            · have hrow : s 54 q = zH1 σ l d q ∧ s 55 q = zC1 σ l d q := by
                by_cases e : q < i
                · have hnE : ¬ zE2 σ l d q := fun z => by have := z.1; omega
                  have h2 := zH2_n hnE
                  have h3 := hlo q q0 e
                  rw [h3.1, h3.2.1, h2.1, h2.2.1]
                  exact ⟨rfl, rfl⟩
                · have h3 := hhi q (by omega) (by omega)
                  exact ⟨h3.1, h3.2.1⟩
              apply TX6_hasSettledLiving_2 <;> (try rw [e7]) <;> (try rw [hk3]) <;> (try rw [hrow.1]) <;> (try rw [hrow.2]) <;> (try rw [e8]) <;> (try (intros; omega))
              · intro _ _ h4 h5
                exact out ⟨hk.1, hk.2, q, ⟨q0, by omega⟩, c, h4, h5⟩
              · intro _ h4
                refine ihn (q + 1) (by omega) (by omega) (by omega) (fun x x0 x1 => ?_)
                by_cases e : x = q
                · rw [e]; omega
                · exact hno x x0 (by omega)
            · apply TX6_hasSettledLiving_2 <;> (try rw [e7]) <;> (try rw [hk3]) <;> (try (intros; omega))
              intro _ h4
              refine ihn (q + 1) (by omega) (by omega) (by omega) (fun x x0 x1 => ?_)
              by_cases e : x = q
              · rw [e]; exact fun z => c z.1
              · exact hno x x0 (by omega)
        exact inner _ 0 rfl (by omega) (by omega) (fun x x0 x1 => by omega)
      · have hnE : ¬ zE2 σ l d i := fun z => hk ⟨z.1, z.2.1⟩
        apply TX6_endThose_47 <;> (try rw [e7]) <;> (try rw [e53 i i0 (by omega)]) <;> (try rw [hx.1]) <;> (try (intros; omega))
        intro _ _
        exact stay hnE
  have := loop _ 0 s0 rfl (by omega) (by omega) f0 (fun p p0 p1 => by omega) h0
  rw [show c0 + zcnt (zE2 σ l d) (0 : Int).toNat = c0 from by show c0 + zcnt _ 0 = c0; unfold zcnt; omega] at this
  exact this
end DY
