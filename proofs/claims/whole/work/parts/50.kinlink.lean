/-! CALLS: what is known of one; links -/
section KL
variable {G : zG} {σ : zS}
theorem okX5_measureS {w k : Int} {Q : Int → zS → Prop} (hi : zinv σ) (hw : 0 ≤ w ∧ w < σ 98 1)
    (kq : ∀ s : zS, zfr zWs s σ → zstp 99 24 (zlkC σ k) (fun p => p = w) (s 32) → zkin (zlkM σ k) w (zfdM σ (σ 98 1)) (s 22 15) → znear (zlkM σ k) w (zunM σ k) (s 22 15) (s 22 16) → Q 0 s) : zO G MX5_measure [zr 22, zi w, zi k] σ Q := by
  have hp := g_zppl hi
  have hl := g_zlnk hi
  have hn := hp.1
  refine okX5_measure hp.2.1 hn.2 hw (zlnk_L hl) (fun s f u z w' => kq s ?_ u (zkin_CM hp hl (g_zfnd hi) hw z) (znear_CM hp hl hw w'))
  intro q j a
  refine f q j (fun z => a ?_) (fun z => a ?_) (fun z => a ?_) (fun z => a ?_)
  · exact ⟨(32, none), by simp, z.symm, Or.inl rfl⟩
  · exact ⟨(33, none), by simp, z.symm, Or.inl rfl⟩
  · exact ⟨(34, none), by simp, z.symm, Or.inl rfl⟩
  · rcases z.2 with e | e
    · exact ⟨(22, some 15), by simp, z.1.symm, Or.inr (by rw [e])⟩
    · exact ⟨(22, some 16), by simp, z.1.symm, Or.inr (by rw [e])⟩
theorem zWk_s {s σ : zS} (f : ∀ q, q ≠ 158 → q ≠ 159 → q ≠ 160 → s q = σ q) : zfr zWs s σ :=
  zfr_of [158, 159, 160] (fun q hq => by simp only [List.mem_cons, List.not_mem_nil, or_false, not_or] at hq; exact f q hq.1 hq.2.1 hq.2.2) rfl
theorem zsc_D {s σ : zS} (h : zfr zWs s σ) : zsm zDd s σ := zfr_sm h rfl
theorem zlkM_sc {s σ : zS} (h : zfr zWs s σ) (k : Int) : zlkM s k = zlkM σ k := zlkM_eq (zfr_row h rfl) (zfr_row h rfl)
theorem zfdM_sc {s σ : zS} (h : zfr zWs s σ) : zfdM s (s 98 1) = zfdM σ (σ 98 1) := by unfold zfdM; rw [zfr_row (q := 104) h rfl, zfr_at (q := 98) (j := 1) h rfl]
theorem zunM_sc {s σ : zS} (h : zfr zWs s σ) (k : Int) : zunM s k = zunM σ k := by unfold zunM zunL; rw [zfr_row (q := 102) h rfl, zfr_row (q := 103) h rfl]
theorem st_is {a1 a2 a3 a4 : Int} (hi : zinv σ) : zst2 G MX11_is [zr 0, zi a1, zi a2, zi a3, zi a4] MX12_is [zr 98, zi a1, zi a2, zi a3, zi a4] σ := by
  have hp := g_zppl hi
  have hn := hp.1
  have hc := hp.2.1
  have hf := g_zfct hi
  have hff := hf.1
  apply TX11_is <;> (try (intros; omega))
  · intro h1 h2
    refine okX5_valueOf (by rw [hf.2.1]; exact hff) (TX11_is_37 ?_)
    apply TX12_is <;> (try (intros; omega))
    intro h3 h4 h5
    refine okX12_valueOf hff (TX12_is_26 ⟨?_, hi⟩)
    exact (zval_eq ⟨h4, h5⟩ hf.2.1 hff.1 hf.2.2).symm
  · intro h1
    apply TX12_is <;> (try (intros; omega))
    exact fun _ => ⟨rfl, hi⟩
theorem st_kin {a1 a2 a3 : Int} (hi : zinv σ) : zst2 G MX11_kin [zr 0, zi a1, zi a2, zi a3] MX12_kin [zr 98, zi a1, zi a2, zi a3] σ := by
  have hp := g_zppl hi
  have hn := hp.1
  have hc := hp.2.1
  apply TX11_kin <;> (try (intros; omega))
  · intro h1
    refine okX5_measureS hi (by omega) (fun s1 f1 _ z1 w1 => ?_)
    have hi1 := zinv_sc f1 hi
    have e1 : s1 98 1 = σ 98 1 := zfr_at f1 rfl
    have hM := zlnk_M (g_zppl hi1) (g_zlnk hi1)
    rw [← zlkM_sc f1, ← zfdM_sc f1] at z1
    rw [← zlkM_sc f1, ← zunM_sc f1] at w1
    apply TX11_kin_22 <;> (try (intros; omega))
    · intro h2
      apply TX12_kin <;> (try rw [e1]) <;> (try (intros; omega))
      intro _ _
      refine okX12_kinOf rfl (by omega) (by omega) hM (fun s2 K f2 z2 => TX12_kin_29 ⟨zkin_one z2 z1, zinv_sc (zWk_s f2) hi1⟩)
    · intro h2
      apply TX12_kin <;> (try rw [e1]) <;> (try (intros; omega))
      intro _ _
      refine okX12_nearOf rfl (by omega) (by omega) hM (fun s2 N K f2 z2 w2 => TX12_kin_20 ⟨?_, zinv_sc (zWk_s f2) hi1⟩)
      have := zkin_one z2 z1
      subst this
      exact znear_one w2 w1
  · intro h1
    apply TX12_kin <;> (try (intros; omega))
    exact fun _ => ⟨rfl, hi⟩
/-- a link that isn't told, of one a step less than N away -/
def zsc1 (σ : zS) (w N l : Int) : Prop := σ 102 l = -1 ∧ 0 ≤ N - 1 ∧ zball (zlkM σ (σ 98 0)) (fun q => q = w) (N - 1).toNat (l / 2) ∧ ∀ d : Nat, zball (zlkM σ (σ 98 0)) (fun q => q = w) d (l / 2) → N - 1 ≤ d
/-- the first of them; -1: none -/
def zstl (σ : zS) (w N n r : Int) : Prop := (r = -1 ∧ ∀ l, 0 ≤ l → l < n → ¬ zsc1 σ w N l) ∨ ((0 ≤ r ∧ r < n) ∧ zsc1 σ w N r ∧ ∀ l, 0 ≤ l → l < r → ¬ zsc1 σ w N l)
theorem zstl_one {w N n r r' : Int} (h : zstl σ w N n r) (h' : zstl σ w N n r') : r = r' := by
  rcases h with ⟨e, h1⟩ | ⟨b, c, d⟩ <;> rcases h' with ⟨e', h2⟩ | ⟨b', c', d'⟩
  · omega
  · exact absurd c' (h1 r' b'.1 b'.2)
  · exact absurd c (h2 r b.1 b.2)
  · by_cases x : r < r'
    · exact absurd c (d' r b.1 x)
    · by_cases y : r' < r
      · exact absurd c' (d r' b'.1 y)
      · omega
set_option maxHeartbeats 3000000 in
theorem st_settlesM {a1 : Int} (hi : zinv σ) (hw : 0 ≤ a1 ∧ a1 < σ 98 1) : ∀ (s1 : zS) (K N r : Int), zfr zWs s1 σ → zkin (zlkM σ (σ 98 0)) a1 (zfdM σ (σ 98 1)) K → znear (zlkM σ (σ 98 0)) a1 (zunM σ (σ 98 0)) K N → (N = K → r = -1) → (N ≠ K → zstl σ a1 N (2 * σ 98 1) r) →
        zO G MX12_settles [zr 98, zi a1] s1 (fun r' s' => r' = r ∧ zinv s') := by
  have hp := g_zppl hi
  have hn := hp.1
  have hc := hp.2.1
  intro s1 K N r f1 z1 w1 r1 r2
  have hi1 := zinv_sc f1 hi
  have e1 : s1 98 1 = σ 98 1 := zfr_at f1 rfl
  have e0 : s1 98 0 = σ 98 0 := zfr_at f1 rfl
  have hM := zlnk_M (g_zppl hi1) (g_zlnk hi1)
  have z1' := z1
  have w1' := w1
  rw [← zlkM_sc f1, ← zfdM_sc f1] at z1'
  rw [← zlkM_sc f1, ← zunM_sc f1] at w1'
  apply TX12_settles <;> (try rw [e1]) <;> (try rw [e0]) <;> (try (intros; omega))
  intro _
  refine okX12_nearOf rfl (by omega) (by omega) hM (fun s2 N' K' f2 z2 w2 => ?_)
  have g2 : zfr zWs s2 σ := zfr_tr f1 (zWk_s f2)
  have hK := zkin_one z2 z1'
  subst hK
  have hN := znear_one w2 w1'
  subst hN
  have hi2 := zinv_sc g2 hi
  have e1' : s2 98 1 = σ 98 1 := zfr_at g2 rfl
  have e0' : s2 98 0 = σ 98 0 := zfr_at g2 rfl
  have hM2 := zlnk_M (g_zppl hi2) (g_zlnk hi2)
  refine TX12_settles_19 ?_
  rw [e0']
  refine okX12_kinOf rfl (by omega) (by omega) hM2 (fun s3 K3 f3 z3 => ?_)
  have g3 : zfr zWs s3 σ := zfr_tr g2 (zWk_s f3)
  rw [zlkM_sc g2, zfdM_sc g2] at z3
  have hK : K3 = K' := zkin_one z3 z1
  rw [hK]
  have e1'' : s3 98 1 = σ 98 1 := zfr_at g3 rfl
  have e0'' : s3 98 0 = σ 98 0 := zfr_at g3 rfl
  have hi3 := zinv_sc g3 hi
  have hM3 := zlnk_M (g_zppl hi3) (g_zlnk hi3)
  by_cases hNK : N' = K'
  · apply TX12_settles_30 <;> (try (intros; omega))
    intro _
    exact ⟨(r1 hNK).symm, hi3⟩
  · apply TX12_settles_30 <;> (try (intros; omega))
    intro _
    rw [e0'']
    refine okX12_climbs rfl (by decide) (by decide) (by decide) (by decide) rfl (by omega) (by omega) hM3 (fun s4 f4 z4 => TX12_settles_48 ?_)
    have g4 : zfr zWs s4 σ := zfr_tr g3 (zfr_of [158, 160] (fun q hq => by simp only [List.mem_cons, List.not_mem_nil, or_false, not_or] at hq; exact f4 q hq.1 hq.2) rfl)
    have hi4 := zinv_sc g4 hi
    rw [zlkM_sc g3, e1''] at z4
    have q1 : s4 98 1 = σ 98 1 := zfr_at g4 rfl
    have q102 : s4 102 = σ 102 := zfr_row g4 rfl
    have hst := r2 hNK
    unfold zstl at hst
    have cond : ∀ p l, 0 ≤ p → p < σ 98 1 → 0 ≤ l → l < 2 → ((s4 158 p + 1 = N' ∧ s4 158 p ≠ -1 ∧ σ 102 (2 * p + l) = -1) ↔ zsc1 σ a1 N' (2 * p + l)) := by
      intro p l p0 p1 l0 l1
      unfold zsc1
      rw [show (2 * p + l) / 2 = p from by omega]
      have hz := z4 p p0 p1
      constructor
      · rintro ⟨x1, x2, x3⟩
        have := hz.1 x2
        rw [show N' - 1 = s4 158 p from by omega]
        exact ⟨x3, this.1, this.2.2, fun d hd => (hz.2 d hd).2⟩
      · rintro ⟨x1, x2, x3, x4⟩
        have y1 := hz.2 _ x3
        have y2 := hz.1 y1.1
        have y3 := x4 _ y2.2.2
        exact ⟨by omega, y1.1, x1⟩
    have loop : ∀ (n : Nat) (p l : Int), (2 * σ 98 1 - (2 * p + l)).toNat = n → 0 ≤ p → p < σ 98 1 → 0 ≤ l → l < 2 → (∀ x, 0 ≤ x → x < 2 * p + l → ¬ zsc1 σ a1 N' x) →
        zR G MX12_settles 61 [zr 98, zi a1, zi N', zi p, zi l] [] s4 (fun r' s' => r' = r ∧ zinv s') := by
      intro n
      induction n with
      | zero => intro p l hn; omega
      | succ n ih =>
        intro p l hn p0 p1 l0 l1 hx
        have hz := z4 p p0 p1
        have hsb : s4 158 p = -1 ∨ (0 ≤ s4 158 p ∧ s4 158 p < 24) := by
          by_cases c : s4 158 p = -1
          · exact Or.inl c
          · have := hz.1 c; omega
        by_cases hC : s4 158 p + 1 = N' ∧ s4 158 p ≠ -1 ∧ σ 102 (2 * p + l) = -1
        · apply TX12_settles_61 <;> (try rw [q102]) <;> (try (intros; omega))
          intros
          refine ⟨?_, hi4⟩
          rcases hst with ⟨e, h⟩ | ⟨b, c, d⟩
          · exact absurd ((cond p l p0 p1 l0 l1).mp hC) (h (2 * p + l) (by omega) (by omega))
          · by_cases x : 2 * p + l < r
            · exact absurd ((cond p l p0 p1 l0 l1).mp hC) (d _ (by omega) x)
            · by_cases y : r < 2 * p + l
              · exact absurd c (hx r b.1 y)
              · omega
        · have hno : ¬ zsc1 σ a1 N' (2 * p + l) := fun z => hC ((cond p l p0 p1 l0 l1).mpr z)
          have hx2 : ∀ x, 0 ≤ x → x < 2 * p + l + 1 → ¬ zsc1 σ a1 N' x := by
            intro x x0 x1
            by_cases e : x = 2 * p + l
            · rw [e]; exact hno
            · exact hx x x0 (by omega)
          apply TX12_settles_61 <;> (try rw [q102]) <;> (try (intros; omega))
          intros
          by_cases hl1 : l = 1
          · subst hl1
            apply TX12_settles_61 <;> (try (intros; omega))
            intro _
            by_cases hp1 : p + 1 < σ 98 1
            · apply TX12_settles_50 <;> (try rw [q1]) <;> (try (intros; omega))
              intro _
              exact ih (p + 1) 0 (by omega) (by omega) hp1 (by omega) (by omega) (fun x x0 x1 => hx2 x x0 (by omega))
            · apply TX12_settles_50 <;> (try rw [q1]) <;> (try (intros; omega))
              intro _
              refine ⟨?_, hi4⟩
              rcases hst with ⟨e, h⟩ | ⟨b, c, d⟩
              · exact e.symm
              · exact absurd c (hx2 r b.1 (by omega))
          · exact ih p (l + 1) (by omega) p0 p1 (by omega) (by omega) (fun x x0 x1 => hx2 x x0 (by omega))
    apply TX12_settles_50 <;> (try rw [q1]) <;> (try (intros; omega))
    intro _
    exact loop _ 0 0 rfl (by omega) (by omega) (by omega) (by omega) (fun x x0 x1 => by omega)
set_option maxHeartbeats 3000000 in
theorem st_settles {a1 : Int} (hi : zinv σ) : zst2 G MX11_settles [zr 0, zi a1] MX12_settles [zr 98, zi a1] σ := by
  have hp := g_zppl hi
  have hn := hp.1
  have hc := hp.2.1
  have hl := g_zlnk hi
  have hlw := g_zlkw hi
  have hnow := (g_zcnow hi).1
  by_cases hw : 0 ≤ a1 ∧ a1 < σ 98 1
  · have model := st_settlesM (G := G) hi hw
    apply TX11_settles <;> (try (intros; omega))
    intro _
    refine TX5_settlingLink ?_
    rw [hnow]
    refine okX5_measureS hi hw (fun s1 f1 u1 z1 w1 => ?_)
    by_cases hNK : s1 22 16 = s1 22 15
    · apply TX5_settlingLink_6 <;> (try (intros; omega))
      intro _
      exact TX11_settles_23 (model s1 _ _ _ f1 z1 w1 (fun _ => rfl) (fun h => absurd hNK h))
    · apply TX5_settlingLink_6 <;> (try (intros; omega))
      intro _
      have c12 : s1 22 12 = σ 98 1 := by rw [zfr_at (q := 22) (j := 12) f1 rfl]; exact hc
      have c25 : s1 25 = σ 25 := zfr_row f1 rfl
      have hNb : 0 ≤ s1 22 16 ∧ s1 22 16 < 99 := by
        have a := w1.1
        have b := w1.2.1
        have c := z1.1
        omega
      have cond : ∀ l, 0 ≤ l → l < 2 * σ 98 1 → ((s1 32 (l / 2) + 1 = s1 22 16 ∧ ¬ (σ 25 l ≠ -1 ∧ σ 25 l ≤ σ 98 0)) ↔ zsc1 σ a1 (s1 22 16) l) := by
        intro l l0 l1
        unfold zsc1
        have hz := u1 (l / 2) (by omega) (by omega)
        have hb := fun d p => zball_cg (S := fun q => q = a1) (zlk_in (k := σ 98 0) hp hl) (zlk_CM hp hl) (fun p (e : p = a1) => by rw [e]; exact hw) d p
        have hk := hl l l0 (by omega)
        have hk2 := hlw l l0 (by omega)
        have hun : (¬ (σ 25 l ≠ -1 ∧ σ 25 l ≤ σ 98 0)) ↔ σ 102 l = -1 := by
          rcases hk with hk | hk
          · omega
          · have := hk2 (by omega)
            omega
        rw [hun]
        constructor
        · rintro ⟨x1, x3⟩
          have x2 : s1 32 (l / 2) ≠ 99 := by omega
          have := hz.1 x2
          rw [show s1 22 16 - 1 = s1 32 (l / 2) from by omega]
          exact ⟨x3, this.1, (hb _ _).mp this.2.2, fun d hd => (hz.2 d ((hb _ _).mpr hd)).2⟩
        · rintro ⟨x1, x2, x3, x4⟩
          have y1 := hz.2 _ ((hb _ _).mpr x3)
          have y2 := hz.1 y1.1
          have y3 := x4 _ ((hb _ _).mp y2.2.2)
          exact ⟨by omega, x1⟩
      have ediv : ∀ l, 0 ≤ l → l < 48 → zdiv l 2 = l / 2 := fun l l0 l1 => by
        have := zdiv_nat (x := l) (d := 2) l0 (by omega) (by decide) (by decide)
        rw [show ((2 : Nat) : Int) = 2 from rfl] at this
        omega
      have fin : ∀ r, zstl σ a1 (s1 22 16) (2 * σ 98 1) r → zR G MX11_settles 23 [zr 0, zi a1] [zi r] s1 (fun r s => zO G MX12_settles [zr 98, zi a1] s (fun r' s' => r' = r ∧ zinv s')) := fun r hr => TX11_settles_23 (model s1 _ _ _ f1 z1 w1 (fun h => absurd h hNK) (fun _ => hr))
      have loop : ∀ (n : Nat) (l : Int), (2 * σ 98 1 - l).toNat = n → 0 ≤ l → l ≤ 2 * σ 98 1 → (∀ x, 0 ≤ x → x < l → ¬ (s1 32 (x / 2) + 1 = s1 22 16 ∧ ¬ (σ 25 x ≠ -1 ∧ σ 25 x ≤ σ 98 0))) →
          zR G MX5_settlingLink 21 [zr 22, zi a1, zi (σ 98 0), zi l] [] s1 (fun rr σ' => zR G MX11_settles 23 [zr 0, zi a1] [zi rr] σ' (fun r s => zO G MX12_settles [zr 98, zi a1] s (fun r' s' => r' = r ∧ zinv s'))) := by
        intro n
        induction n with
        | zero =>
          intro l hn l0 l1 hx
          apply TX5_settlingLink_21 <;> (try rw [c12]) <;> (try (intros; omega))
          intro _
          exact fin (-1) (Or.inl ⟨rfl, fun x x0 x1 z => hx x x0 (by omega) ((cond x x0 x1).mpr z)⟩)
        | succ n ih =>
          intro l hn l0 l1 hx
          have hz := u1 (l / 2) (by omega) (by omega)
          have hsb : s1 32 (l / 2) = 99 ∨ (0 ≤ s1 32 (l / 2) ∧ s1 32 (l / 2) < 24) := by
            by_cases c : s1 32 (l / 2) = 99
            · exact Or.inl c
            · have := hz.1 c; omega
          have ed := ediv l l0 (by omega)
          apply TX5_settlingLink_21 <;> (try rw [c12]) <;> (try rw [ed]) <;> (try rw [c25]) <;> (try (intros; omega))
          · intro _ h1 h2
            exact fin l (Or.inr ⟨by omega, (cond l l0 (by omega)).mp ⟨h1, h2⟩, fun x x0 x1 z => hx x x0 x1 ((cond x x0 (by omega)).mpr z)⟩)
          · intro _ h1
            refine ih (l + 1) (by omega) (by omega) (by omega) (fun x x0 x1 => ?_)
            by_cases e : x = l
            · rw [e]; omega
            · exact hx x x0 (by omega)
      exact loop _ 0 rfl (by omega) (by omega) (fun x x0 x1 => by omega)
  · apply TX11_settles <;> (try (intros; omega))
    intro _
    apply TX12_settles <;> (try (intros; omega))
    exact fun _ => ⟨rfl, hi⟩
end KL
