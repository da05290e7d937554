/-! CALLS: dividend in the model, and the step -/
section DM
variable {G : zG} {σ : zS}
/-- some place of a fellow below i is of w -/
def zhdB (σ : zS) (i w : Int) : Prop := ∃ p, (0 ≤ p ∧ p < i) ∧ zfel σ p ∧ σ 130 p = w
theorem zhdB_end {w : Int} (hw : 0 ≤ w) : zhdB σ (σ 98 4) w ↔ zhol σ 1 w := by
  constructor
  · rintro ⟨p, a, b, c⟩
    exact ⟨p, a, b.1, c⟩
  · rintro ⟨p, a, b, c⟩
    exact ⟨p, a, ⟨b, by rw [c]; omega⟩, c⟩
theorem zhdB_s {i w : Int} (h : zfel σ i) (i0 : 0 ≤ i) : zhdB σ (i + 1) w ↔ (zhdB σ i w ∨ σ 130 i = w) := by
  constructor
  · rintro ⟨p, a, b, c⟩
    by_cases e : p = i
    · rw [e] at c; exact Or.inr c
    · exact Or.inl ⟨p, by omega, b, c⟩
  · rintro (⟨p, a, b, c⟩ | c)
    · exact ⟨p, by omega, b, c⟩
    · exact ⟨i, by omega, h, c⟩
theorem zhdB_n {i w : Int} (h : ¬ zfel σ i) : zhdB σ (i + 1) w ↔ zhdB σ i w := by
  constructor
  · rintro ⟨p, a, b, c⟩
    by_cases e : p = i
    · rw [e] at b; exact absurd b h
    · exact ⟨p, by omega, b, c⟩
  · rintro ⟨p, a, b, c⟩
    exact ⟨p, by omega, b, c⟩
set_option maxHeartbeats 2000000 in
theorem okM_part {s : zS} {pot y all : Int} {kp : Int → Int} {Q : Int → zS → Prop} (hi : zinv σ) (fs : zfr [(79, some 3), (79, some 4), (79, some 6), (79, some 7), (80, none), (81, none), (82, none)] s σ) (hpot : 0 ≤ pot ∧ pot ≤ σ 98 8) (hy : y = σ 98 0 / 365) (hn : σ 98 7 < 400) (hfree : σ 152 y = 0)
    (hkp : ∀ w, 0 ≤ w → w < 24 → kp w = if σ 98 12 = y then σ 153 w else 0) (hall : all = zps (zhw σ (σ 98 4) kp) 24)
    (kq : ∀ (t : zS) (g : Int), g = (if 0 < all then zps (fun w => zshr1 pot all (zhw σ (σ 98 4) kp w)) 24 else 0) → 0 ≤ g ∧ g ≤ pot → zfr [(98, some 12), (153, none), (154, none), (152, none), (148, none), (149, none), (98, some 7), (150, none), (98, some 8)] t s → t 98 12 = y → (∀ w, 0 ≤ w → w < 24 → t 153 w = kp w) →
      (∀ w, 0 ≤ w → w < 24 → t 154 w = zif2 (0 < all ∧ zhol σ 1 w) (zW (σ 154 w + zshr1 pot all (kp w))) (σ 154 w)) → (∀ j, t 152 j = if j = y then 1 else σ 152 j) →
      t 98 7 = σ 98 7 + 1 → t 98 8 = σ 98 8 + -g → (∀ j, t 148 j = if j = σ 98 7 then y else σ 148 j) → (∀ j, t 149 j = if j = σ 98 7 then 2 else σ 149 j) → (∀ j, t 150 j = if j = σ 98 7 then -g else σ 150 j) →
      Q g t) : zO G MX12_dividend [zr 98, zi pot] s Q := by
  have hk := g_zkpt hi
  have hc := g_zche hi
  have hM := g_zpla hi
  have c3 := hc.2.2.1
  have c4 := hc.2.2.2
  have hyb := zyear hi
  have q0 : s 98 0 = σ 98 0 := zfr_at fs rfl
  have q8 : s 98 8 = σ 98 8 := zfr_at fs rfl
  have q7 : s 98 7 = σ 98 7 := zfr_at fs rfl
  have q152 : s 152 = σ 152 := zfr_row fs rfl
  have kpb : ∀ w, 0 ≤ w → w < 24 → 0 ≤ kp w ∧ kp w ≤ 365 := by
    intro w w0 w1
    have := hk.2 w w0 w1
    rw [hkp w w0 w1]
    split <;> omega
  have hpl : 0 ≤ σ 98 4 ∧ σ 98 4 ≤ 12 := hM.1
  have fb : ∀ p, 0 ≤ p → p < σ 98 4 → zfel σ p → 0 ≤ σ 130 p ∧ σ 130 p < 24 := by
    intro p p0 p1 hf
    have hh := (hM.2.1 p p0 p1).2
    have := hf.2
    omega
  have pb : ∀ j : Int, 0 ≤ j → j < ((σ 98 4).toNat : Nat) → 0 ≤ zhp σ kp j ∧ zhp σ kp j ≤ 365 := by
    intro j j0 j1
    by_cases c : zfel σ j
    · rw [zhp_y c]
      have := fb j j0 (by omega) c
      exact kpb _ this.1 this.2
    · rw [zhp_n c]; omega
  have e1 : all = zps (zhp σ kp) (σ 98 4).toNat := by
    rw [hall, ← zre_ix hM (σ 98 4).toNat (by omega)]
    congr 1
    funext w
    rw [show (((σ 98 4).toNat : Nat) : Int) = σ 98 4 from by omega]
  have e2 : zps (fun w => zshr1 pot all (zhw σ (σ 98 4) kp w)) 24 = zps (zhp σ (fun w => zshr1 pot all (kp w))) (σ 98 4).toNat := by
    rw [← zre_ix hM (σ 98 4).toNat (by omega)]
    refine zps_cg (fun w w0 w1 => ?_)
    show zshr1 pot all (zhw σ (σ 98 4) kp w) = zhw σ _ _ w
    rw [show (((σ 98 4).toNat : Nat) : Int) = σ 98 4 from by omega]
    by_cases c : zhdB σ (σ 98 4) w
    · rw [zhw_y c, zhw_y c]
    · rw [zhw_n c, zhw_n c, zshr1_0]
  have e3 : ∀ n : Nat, zps (zhp σ (fun w => zshr1 pot all (kp w))) n = zps (fun p => zshr1 pot all (zhp σ kp p)) n := by
    intro n
    refine zps_cg (fun p _ _ => ?_)
    by_cases c : zfel σ p
    · rw [zhp_y c, zhp_y c]
    · rw [zhp_n c, zhp_n c, zshr1_0]
  have allb := zps_b pb
  rw [← e1] at allb
  apply TX12_dividend <;> (try rw [q8]) <;> (try rw [q0]) <;> (try rw [hyb.1]) <;> (try rw [← hy]) <;> (try rw [q152]) <;> (try rw [q7]) <;> (try (intros; omega))
  intro _ _ _ _
  refine okX12_newYear (y := y) (by rw [q0, hyb.1, hy]) (fun s1 f1 y1 k1 => TX12_dividend_52 ?_)
  have q12 : s 98 12 = σ 98 12 := zfr_at fs rfl
  have q153 : s 153 = σ 153 := zfr_row fs rfl
  have q154 : s 154 = σ 154 := zfr_row fs rfl
  have e153 : ∀ w, 0 ≤ w → w < 24 → s1 153 w = kp w := by
    intro w w0 w1
    rw [k1 w w0 w1, hkp w w0 w1, q12, q153]
  have r4 : s1 98 4 = σ 98 4 := by rw [zfr_at f1 rfl]; exact zfr_at fs rfl
  have r129 : s1 129 = σ 129 := by rw [zfr_row f1 rfl]; exact zfr_row fs rfl
  have r130 : s1 130 = σ 130 := by rw [zfr_row f1 rfl]; exact zfr_row fs rfl
  have days : ∀ (n : Nat) (i v : Int), (σ 98 4 - i).toNat = n → 0 ≤ i → i ≤ σ 98 4 → v = zps (zhp σ kp) i.toNat → zR G MX12_dividend 109 [zr 98, zi pot, zi all, zi 0, zi 0, zu] [] s1 Q → zR G MX12_dividend 56 [zr 98, zi pot, zi v, zi i, zu, zu] [] s1 Q := by
    intro n
    induction n with
    | zero =>
      intro i v hn' i0 i1 hv kk
      have : i = σ 98 4 := by omega
      subst this
      apply TX12_dividend_56 <;> (try rw [r4]) <;> (try (intros; omega))
      intro _
      rw [show v = all from by rw [hv, e1]]
      exact kk
    | succ n ih =>
      intro i v hn' i0 i1 hv kk
      have hvb := zps_b (g := zhp σ kp) (n := i.toNat) (B := 365) (fun j a c => pb j a (by omega))
      have hs := zps_s (g := zhp σ kp) i0
      by_cases c : zfel σ i
      · have hh := fb i i0 (by omega) c
        have hkb := kpb _ hh.1 hh.2
        rw [zhp_y c] at hs
        have c1 := c.1
        have c2 := c.2
        apply TX12_dividend_56 <;> (try rw [r4]) <;> (try rw [r129]) <;> (try rw [r130]) <;> (try rw [e153 _ hh.1 hh.2]) <;> (try (intros; omega))
        intro _ _ _
        exact ih (i + 1) _ (by omega) (by omega) (by omega) (by rw [hs, hv]) kk
      · rw [zhp_n c] at hs
        have c' : σ 129 i ≠ 1 ∨ (σ 129 i = 1 ∧ σ 130 i = -1) := by
          by_cases z : σ 129 i = 1
          · by_cases z2 : σ 130 i = -1
            · exact Or.inr ⟨z, z2⟩
            · exact absurd ⟨z, z2⟩ c
          · exact Or.inl z
        apply TX12_dividend_56 <;> (try rw [r4]) <;> (try rw [r129]) <;> (try rw [r130]) <;> (try (intros; omega))
        intro _ _
        exact ih (i + 1) _ (by omega) (by omega) (by omega) (by rw [hs, hv]; omega) kk
  refine days _ 0 0 rfl (by omega) (by omega) rfl ?_
  have fin : ∀ (t : zS) (i g : Int), (σ 98 4 ≤ i ∨ (i < σ 98 4 ∧ all ≤ 0)) → (0 ≤ g ∧ g ≤ pot) → g = (if 0 < all then zps (fun w => zshr1 pot all (zhw σ (σ 98 4) kp w)) 24 else 0) → zfr [(154, none)] t s1 →
      (∀ w, 0 ≤ w → w < 24 → t 154 w = zif2 (0 < all ∧ zhol σ 1 w) (zW (σ 154 w + zshr1 pot all (kp w))) (σ 154 w)) → zR G MX12_dividend 109 [zr 98, zi pot, zi all, zi g, zi i, zu] [] t Q := by
    intro t i g hend hg hge hf hgot
    have f2 : zfr [(98, some 12), (153, none), (154, none)] t s := zfr_tr (zfr_mo rfl f1) (zfr_mo rfl hf)
    have t4 : t 98 4 = σ 98 4 := by rw [zfr_at hf rfl]; exact r4
    have t0 : t 98 0 = σ 98 0 := by rw [zfr_at f2 rfl]; exact q0
    have t7 : t 98 7 = σ 98 7 := by rw [zfr_at f2 rfl]; exact q7
    have t8 : t 98 8 = σ 98 8 := by rw [zfr_at f2 rfl]; exact q8
    have t152 : t 152 = σ 152 := by rw [zfr_row f2 rfl]; exact q152
    have t148 : t 148 = σ 148 := by rw [zfr_row f2 rfl]; exact zfr_row fs rfl
    have t149 : t 149 = σ 149 := by rw [zfr_row f2 rfl]; exact zfr_row fs rfl
    have t150 : t 150 = σ 150 := by rw [zfr_row f2 rfl]; exact zfr_row fs rfl
    have t153 : ∀ w, 0 ≤ w → w < 24 → t 153 w = kp w := by
      intro w w0 w1
      rw [zfr_row (q := 153) hf rfl]; exact e153 w w0 w1
    have t12 : t 98 12 = y := by rw [zfr_at hf rfl]; exact y1
    apply TX12_dividend_109 <;> (try simp (disch := decide) only [zup_of, zup_oi, zup_same]) <;> (try rw [t4]) <;> (try rw [t0]) <;> (try rw [hyb.1]) <;> (try rw [← hy]) <;> (try rw [t7]) <;> (try rw [t8]) <;> (try (intros; omega))
    intro _
    refine kq _ g hge hg (zfr_uF rfl (zfr_uA rfl (zfr_uF rfl (zfr_uA rfl (zfr_uA rfl (zfr_uA rfl (zfr_mo rfl f2))))))) ?_ (fun w w0 w1 => ?_) (fun w w0 w1 => ?_) (fun j => ?_) ?_ ?_ (fun j => ?_) (fun j => ?_) (fun j => ?_)
    · (try simp (disch := decide) only [zup_of, zup_oi, zup_same])
      exact t12
    · (try simp (disch := decide) only [zup_of, zup_oi, zup_same])
      exact t153 w w0 w1
    · (try simp (disch := decide) only [zup_of, zup_oi, zup_same])
      exact hgot w w0 w1
    · ((try simp (disch := decide) only [zup_of, zup_oi, zup_same]) <;> (try simp only [zup_at]) <;> (try simp (disch := decide) only [zup_of, zup_oi, zup_same]) <;> (try simp only [zup_at]) <;> (try simp (disch := decide) only [zup_of, zup_oi, zup_same]) <;> (try simp only [zup_at]) <;> (try simp (disch := decide) only [zup_of, zup_oi, zup_same]))
      rw [t152]
    · (try simp (disch := decide) only [zup_of, zup_oi, zup_same])
    · (try simp (disch := decide) only [zup_of, zup_oi, zup_same])
    · ((try simp (disch := decide) only [zup_of, zup_oi, zup_same]) <;> (try simp only [zup_at]) <;> (try simp (disch := decide) only [zup_of, zup_oi, zup_same]) <;> (try simp only [zup_at]) <;> (try simp (disch := decide) only [zup_of, zup_oi, zup_same]) <;> (try simp only [zup_at]) <;> (try simp (disch := decide) only [zup_of, zup_oi, zup_same]))
      rw [t148]
    · ((try simp (disch := decide) only [zup_of, zup_oi, zup_same]) <;> (try simp only [zup_at]) <;> (try simp (disch := decide) only [zup_of, zup_oi, zup_same]) <;> (try simp only [zup_at]) <;> (try simp (disch := decide) only [zup_of, zup_oi, zup_same]) <;> (try simp only [zup_at]) <;> (try simp (disch := decide) only [zup_of, zup_oi, zup_same]))
      rw [t149]
    · ((try simp (disch := decide) only [zup_of, zup_oi, zup_same]) <;> (try simp only [zup_at]) <;> (try simp (disch := decide) only [zup_of, zup_oi, zup_same]) <;> (try simp only [zup_at]) <;> (try simp (disch := decide) only [zup_of, zup_oi, zup_same]) <;> (try simp only [zup_at]) <;> (try simp (disch := decide) only [zup_of, zup_oi, zup_same]))
      rw [t150]
  by_cases ha : 0 < all
  · have kall : ∀ p : Int, 0 ≤ p → p < ((σ 98 4).toNat : Nat) → 0 ≤ zhp σ kp p ∧ zhp σ kp p ≤ all := by
      intro w w0 w1
      refine ⟨(pb w w0 w1).1, ?_⟩
      have h1 := zps_m (g := zhp σ kp) (n := (σ 98 4).toNat) (k := w.toNat + 1) (by omega) (fun j a c => (pb j a c).1)
      have h2 := zps_b (g := zhp σ kp) (n := w.toNat) (B := 365) (fun j a c => pb j a (by omega))
      have h3 : zps (zhp σ kp) (w.toNat + 1) = zps (zhp σ kp) w.toNat + zhp σ kp ((w.toNat : Nat) : Int) := rfl
      rw [show ((w.toNat : Nat) : Int) = w from by omega] at h3
      omega
    have gsum : ∀ n : Nat, n ≤ (σ 98 4).toNat → 0 ≤ zps (zhp σ (fun w => zshr1 pot all (kp w))) n ∧ zps (zhp σ (fun w => zshr1 pot all (kp w))) n ≤ pot := by
      intro n hn'
      rw [e3]
      refine zshr_sum hpot.1 ha (fun j a c => kall j a (by omega)) ?_
      have := zps_m (g := zhp σ kp) (n := (σ 98 4).toNat) (k := n) hn' (fun j a c => (pb j a c).1)
      omega
    have loop : ∀ (n : Nat) (i g : Int) (t : zS), (σ 98 4 - i).toNat = n → 0 ≤ i → i ≤ σ 98 4 → g = zps (zhp σ (fun w => zshr1 pot all (kp w))) i.toNat → zfr [(154, none)] t s1 →
        (∀ w, 0 ≤ w → w < 24 → t 154 w = zif2 (zhdB σ i w) (zW (σ 154 w + zshr1 pot all (kp w))) (σ 154 w)) → zR G MX12_dividend 109 [zr 98, zi pot, zi all, zi g, zi i, zu] [] t Q := by
      intro n
      induction n with
      | zero =>
        intro i g t hn' i0 i1 hg hf hgot
        have : i = σ 98 4 := by omega
        subst this
        have hgs := gsum _ (Nat.le_refl _)
        refine fin t _ g (Or.inl (by omega)) (by rw [hg]; exact hgs) (by rw [hg, if_pos ha, e2]) hf (fun w w0 w1 => ?_)
        rw [hgot w w0 w1]
        by_cases c : zhol σ 1 w
        · rw [zif2_y ((zhdB_end w0).mpr c), zif2_y ⟨ha, c⟩]
        · rw [zif2_n (fun z => c ((zhdB_end w0).mp z)), zif2_n (fun z => c z.2)]
      | succ n ih =>
        intro i g t hn' i0 i1 hg hf hgot
        have t4 : t 98 4 = σ 98 4 := by rw [zfr_at hf rfl]; exact r4
        have t129 : t 129 = σ 129 := by rw [zfr_row hf rfl]; exact r129
        have t130 : t 130 = σ 130 := by rw [zfr_row hf rfl]; exact r130
        have hgs := gsum i.toNat (by omega)
        have hgs2 := gsum (i.toNat + 1) (by omega)
        have hs := zps_s (g := zhp σ (fun w => zshr1 pot all (kp w))) i0
        rw [← hg] at hgs
        by_cases c : zfel σ i
        · have hh := fb i i0 (by omega) c
          have hkb := kpb _ hh.1 hh.2
          have t153 : t 153 (σ 130 i) = kp (σ 130 i) := by rw [zfr_row (q := 153) hf rfl]; exact e153 _ hh.1 hh.2
          have hka := kall i i0 (by omega)
          rw [zhp_y c] at hs hka
          have hsh := zshr1_b hpot.1 hka ha
          have c1 := c.1
          have c2 := c.2
          have hm := zmul_b (a := pot) (b := kp (σ 130 i)) hpot.1 hpot.2 hkb.1 hkb.2
          have hm2 : pot * kp (σ 130 i) ≤ 400000000 * 365 := (zmul_b (A := 400000000) (B := 365) hpot.1 (by omega) hkb.1 hkb.2).2
          have ew : zW (zldiv (pot * kp (σ 130 i)) all) = zshr1 pot all (kp (σ 130 i)) := by
            rw [zldiv_n (by omega) (by omega) ha (by omega)]
            exact zW_eq (by unfold zshr1 at hsh; omega) (by unfold zshr1 at hsh; omega)
          rw [show (i + 1).toNat = i.toNat + 1 from by omega] at hs
          rw [hs] at hgs2
          have hold : t 154 (σ 130 i) = σ 154 (σ 130 i) := by
            rw [hgot _ hh.1 hh.2, zif2_n]
            rintro ⟨p, a, b, e⟩
            exact hM.2.2 p i a.1 a.2 (by omega) (by rw [b.1, c.1]) b.2 e
          apply TX12_dividend_109 <;> (try rw [t4]) <;> (try rw [t129]) <;> (try rw [t130]) <;> (try rw [t153]) <;> (try rw [ew]) <;> (try rw [hold]) <;> (try (intros; omega))
          intro _ _ _ _
          refine ih (i + 1) _ _ (by omega) (by omega) (by omega) ?_ (zfr_uA rfl hf) (fun w w0 w1 => ?_)
          · rw [show (i + 1).toNat = i.toNat + 1 from by omega, hs, hg]
          · rw [zup_at]
            by_cases e : w = σ 130 i
            · rw [if_pos e, zif2_y ((zhdB_s c i0).mpr (Or.inr e.symm)), e]
            · rw [if_neg e, hgot w w0 w1]
              by_cases d : zhdB σ i w
              · rw [zif2_y d, zif2_y ((zhdB_s c i0).mpr (Or.inl d))]
              · rw [zif2_n d, zif2_n (fun z => ((zhdB_s c i0).mp z).elim d (fun x => e x.symm))]
        · rw [zhp_n c] at hs
          have c' : σ 129 i ≠ 1 ∨ (σ 129 i = 1 ∧ σ 130 i = -1) := by
            by_cases z : σ 129 i = 1
            · by_cases z2 : σ 130 i = -1
              · exact Or.inr ⟨z, z2⟩
              · exact absurd ⟨z, z2⟩ c
            · exact Or.inl z
          apply TX12_dividend_109 <;> (try rw [t4]) <;> (try rw [t129]) <;> (try rw [t130]) <;> (try (intros; omega))
          intro _ _ _
          refine ih (i + 1) _ _ (by omega) (by omega) (by omega) (by rw [hs, hg]; omega) hf (fun w w0 w1 => ?_)
          rw [hgot w w0 w1]
          by_cases d : zhdB σ i w
          · rw [zif2_y d, zif2_y ((zhdB_n c).mpr d)]
          · rw [zif2_n d, zif2_n (fun z => d ((zhdB_n c).mp z))]
    refine loop _ 0 0 s1 rfl (by omega) (by omega) rfl zfr_0 (fun w w0 w1 => ?_)
    rw [zif2_n (fun ⟨p, a, _⟩ => by omega), zfr_row (q := 154) f1 rfl, q154]
  · refine fin s1 0 0 (by by_cases z : σ 98 4 ≤ 0 <;> omega) (by omega) (by rw [if_neg ha]) zfr_0 (fun w w0 w1 => ?_)
    rw [zif2_n (fun z => ha z.1), zfr_row (q := 154) f1 rfl, q154]
set_option maxHeartbeats 2000000 in
theorem st_dividend {a1 : Int} (hi : zinv σ) : zst2 G MX11_dividend [zr 0, zi a1] MX12_dividend [zr 98, zi a1] σ := by
  have hk := g_zkpt hi
  have hc := g_zche hi
  have hy := zyear hi
  have hyr := (g_zyrs hi).2
  have htold := zyr_told hyr hi
  have e0 : σ 0 13 = σ 98 0 := (g_zcnow hi).1
  have e3 := hc.1
  have e4 := hc.2.1
  have c4 := hc.2.2.1
  by_cases h : (0 ≤ a1 ∧ a1 ≤ σ 98 8) ∧ σ 79 6 ≠ σ 98 0 / 365 ∧ σ 98 7 < 400
  · have hfree : σ 152 (σ 98 0 / 365) = 0 := by
      by_cases z : σ 152 (σ 98 0 / 365) = 0
      · exact z
      · exact absurd (htold.mpr z) h.2.1
    apply TX11_dividend <;> (try rw [e3]) <;> (try rw [e0]) <;> (try rw [hy.1]) <;> (try rw [e4]) <;> (try (intros; omega))
    intro _ _ _
    refine okX6_holdersOf (g_zpla hi) (g_zplC hi) (fun b hb hw => TX11_dividend_66 ?_)
    rw [e0, hy.1]
    refine okC_part (kp := fun w => if σ 98 12 = σ 98 0 / 365 then σ 153 w else 0) hi h.1 hw rfl h.2.2 (fun w _ _ => rfl) rfl (fun s fs k7 k81 k6 k82 k3 k4 k80 => TX11_dividend_73 ?_)
    refine okM_part (kp := fun w => if σ 98 12 = σ 98 0 / 365 then σ 153 w else 0) hi fs h.1 rfl h.2.2 hfree (fun w _ _ => rfl) rfl (fun t g hg hgb ft m12 m153 m154 m152 m7 m8 m148 m149 m150 => ?_)
    rw [← hg] at k3 k80 ⊢
    refine ⟨rfl, ?_⟩
    have f : zfr [(79, some 3), (79, some 4), (79, some 6), (79, some 7), (80, none), (81, none), (82, none), (98, some 12), (153, none), (154, none), (152, none), (148, none), (149, none), (98, some 7), (150, none), (98, some 8)] t σ := zfr_tr (zfr_mo rfl fs) (zfr_mo rfl ft)
    have u3 : t 79 3 = σ 98 8 + -g := by rw [zfr_at ft rfl]; exact k3
    have u4 : t 79 4 = σ 98 7 + 1 := by rw [zfr_at ft rfl]; exact k4
    have u80 : ∀ j, t 80 j = if j = 110 * 2 + σ 98 0 / 365 then σ 80 j + -g else σ 80 j := by
      intro j
      rw [zfr_row (q := 80) ft rfl]; exact k80 j
    have key := zentry (t := t) (h := 2) (y := σ 98 0 / 365) (v := -g) hi h.2.2 (by omega) hy.2 (fun z => absurd rfl z) (by omega) (by omega) u3 u4 m7 m8 m148 m149 m150 u80
    apply zinv_fr f hi <;> (try (intro h; exact absurd h (by decide)))
    · exact fun _ => key.1
    · exact fun _ => key.2
    · intro _
      have h1 := (g_zyrs hi).1
      unfold zyrs
      have u6 : t 79 6 = σ 98 0 / 365 := by rw [zfr_at ft rfl]; exact k6
      rw [u6, zfr_at (q := 98) (j := 0) f rfl, zfr_at (q := 79) (j := 5) f rfl, zfr_row (q := 151) f rfl]
      exact ⟨h1, zyr_new hyr hi m152⟩
    · intro _
      unfold zkpt
      have u7 : t 79 7 = σ 98 0 / 365 := by rw [zfr_at ft rfl]; exact k7
      refine ⟨by rw [u7, m12], fun w w0 w1 => ?_⟩
      have hw' := hk.2 w w0 w1
      have u81 := k81 w w0 w1
      have u82 := k82 w w0 w1
      rw [zfr_row (q := 81) ft rfl, zfr_row (q := 82) ft rfl, u81, u82, m153 w w0 w1, m154 w w0 w1, hw'.2.2]
      refine ⟨rfl, ?_, rfl⟩
      show 0 ≤ (if σ 98 12 = σ 98 0 / 365 then σ 153 w else 0) ∧ (if σ 98 12 = σ 98 0 / 365 then σ 153 w else 0) ≤ 365
      split
      · exact hw'.2.1
      · omega
  · have hD : σ 152 (σ 98 0 / 365) = 0 ∨ σ 79 6 = σ 98 0 / 365 ∧ σ 152 (σ 98 0 / 365) ≠ 0 := by
      by_cases z : σ 152 (σ 98 0 / 365) = 0
      · exact Or.inl z
      · exact Or.inr ⟨htold.mpr z, z⟩
    have hD2 : σ 79 6 = σ 98 0 / 365 → σ 152 (σ 98 0 / 365) ≠ 0 := htold.mp
    apply TX11_dividend <;> (try rw [e3]) <;> (try rw [e0]) <;> (try rw [hy.1]) <;> (try rw [e4]) <;> (try (intros; omega))
    all_goals (intros; apply TX12_dividend <;> (try simp (disch := decide) only [zup_of, zup_oi, zup_same]) <;> (try rw [hy.1]) <;> (try (intros; omega)) <;> (try (intros; exact ⟨by first | trivial | omega, zno hi (by decide) rfl rfl (by decide)⟩)))
end DM
