/-! CALLS: elect, the class's begin, the model's passes -/
section BE
variable {G : zG} {σ : zS} {Q : Int → zS → Prop}
theorem zhol_fr {s : zS} {W : zPl} (f : zfr W s σ) (hd : zdj [(98, some 4), (129, none), (130, none)] W = true) : zhol s = zhol σ := by
  have e := zfr_sm f hd
  unfold zhol
  rw [zsm_at e 98 4 rfl, zsm_row e 129 rfl, zsm_row e 130 rfl]
theorem zfo_fr {s : zS} {W : zPl} {n r : Int} (f : zfr W s σ) (hd : zdj [(129, none), (130, none)] W = true) : zfo s n r ↔ zfo σ n r := by
  have e := zfr_sm f hd
  unfold zfo
  rw [zsm_row e 129 rfl, zsm_row e 130 rfl]
theorem okX2_begin {X : Int} (hi : zinv σ) (hX : zset (σ 98 1) X) (hX1 : 1 ≤ zpop X)
    (kq : ∀ (D : zED) (Xs : Int → Int) (n w : Int) (s : zS), zhD D s → zokD D → zset 24 (zD1 D) → (∀ v, 0 ≤ v → v < 24 → (zbit (zD1 D) v ↔ zhol σ 1 v ∧ σ 61 v ≠ -1)) → zfo σ (σ 98 4) (zD2 D) → (∀ j, 0 ≤ j → j < 576 → zDo D j = σ 60 j) → (∀ v, 0 ≤ v → v < 24 → zDz D v = σ 61 v) → zDb D = σ 23 →
      zrnd D (σ 98 1) X Xs n w → zfr [(65, some 7), (65, some 8), (65, some 9), (63, none), (64, none), (67, none), (66, none), (65, some 10)] s σ → s 65 7 = X → s 65 10 = n → (∀ i w, 0 ≤ i → i < n → 0 ≤ w → w < 24 → s 66 (24 * i + w) = zif2 (zbit (Xs i) w) (ztal D (Xs i) w) (-1)) → Q w s) : zO G MX2_begin [zr 65, zi X] σ Q := by
  have hn := (g_zppl hi).1
  have hb := g_zblt hi
  have hl := g_zlim hi
  have hpl := g_zpla hi
  have f1 : zfr [(65, some 7)] (zup σ 65 7 X) σ := zfr_uF rfl zfr_0
  refine TX2_begin (okX2_withBallots (zpla_ke (zfr_sm f1 rfl) hpl) (zplC_ke (zfr_sm f1 rfl) (g_zplC hi)) (fun b hbs hbw => TX2_begin_10 ?_))
  rw [zhol_fr f1 rfl, zfr_row (q := 61) f1 rfl] at hbw
  have f2 : zfr [(65, some 7), (65, some 8)] (zup (zup σ 65 7 X) 65 8 b) σ := zfr_uF rfl (zfr_mo rfl f1)
  refine okX2_firstOfficer (zpla_ke (zfr_sm f2 rfl) hpl) (zplC_ke (zfr_sm f2 rfl) (g_zplC hi)) (fun r hr => TX2_begin_18 ?_)
  rw [zfo_fr f2 rfl, zfr_at (q := 98) (j := 4) f2 rfl] at hr
  have f3 : zfr [(65, some 7), (65, some 8), (65, some 9)] (zup (zup (zup σ 65 7 X) 65 8 b) 65 9 r) σ := zfr_uF rfl (zfr_mo rfl f2)
  generalize h3 : zup (zup (zup σ 65 7 X) 65 8 b) 65 9 r = s3 at f3
  have q59 : s3 59 0 = 24 := by rw [zfr_at f3 rfl]; exact hl.1
  have q62 : s3 62 0 = 24 := by rw [zfr_at f3 rfl]; exact hl.2.1
  apply TX1_takeOver (by decide +kernel : zsh 62 = (4, 1, [none, some 63, some 64])) (by decide +kernel : zsh 63 = (0, 576, [])) (by decide +kernel) (by decide +kernel : zsh 59 = (4, 1, [none, some 60, some 61])) (by decide +kernel : zsh 60 = (0, 576, [])) (by decide +kernel) <;> (try rw [q59]) <;> (try rw [q62]) <;> (try (intros; omega))
  intro _
  generalize h4 : zcp (zcp s3 60 0 63 0 ((576 : Nat) : Int)) 61 0 64 0 24 = s4
  have f4 : zfr [(65, some 7), (65, some 8), (65, some 9), (63, none), (64, none)] s4 σ := by rw [← h4]; exact zfr_cp rfl (zfr_cp rfl (zfr_mo rfl f3))
  have r63 : ∀ j, 0 ≤ j → j < 576 → s4 63 j = σ 60 j := by
    intro j j0 j1
    rw [← h4]
    unfold zcp
    rw [if_neg (by omega), if_pos ⟨rfl, by omega, by omega⟩, zfr_row (q := 60) f3 rfl, show (0 : Int) + (j - 0) = j from by omega]
  have r64 : ∀ v, 0 ≤ v → v < 24 → s4 64 v = σ 61 v := by
    intro v v0 v1
    rw [← h4]
    unfold zcp
    rw [if_pos ⟨rfl, by omega, by omega⟩, if_neg (by omega), zfr_row (q := 61) f3 rfl, show (0 : Int) + (v - 0) = v from by omega]
  have c7 : s4 65 7 = X := by rw [← h4, ← h3]; unfold zcp; simp [zup_of, zup_oi, zup_same]
  have c8 : s4 65 8 = b := by rw [← h4, ← h3]; unfold zcp; simp [zup_of, zup_oi, zup_same]
  have c9 : s4 65 9 = r := by rw [← h4, ← h3]; unfold zcp; simp [zup_of, zup_oi, zup_same]
  have c62 : s4 62 0 = 24 := by rw [zfr_at f4 rfl]; exact hl.2.1
  have hD : zhD (zDof s4) s4 := ⟨rfl, rfl, rfl, rfl, rfl, c62⟩
  have rok : ∀ v, 0 ≤ v → v < 24 → zrok (zDof s4) v := by
    intro v v0 v1
    have e64 : zDz (zDof s4) v = σ 61 v := r64 v v0 v1
    refine ⟨⟨v0, v1⟩, ?_, fun i i0 i1 => ?_⟩
    · rw [e64]
      have := hb v v0 v1
      omega
    · rw [e64] at i1
      show 0 ≤ s4 63 (24 * v + i) ∧ s4 63 (24 * v + i) < 24
      rcases hb v v0 v1 with h | ⟨h1, h2, h5, h6⟩
      · omega
      · rw [r63 _ (by omega) (by omega)]
        exact h5 i i0 i1
  have hok : zokD (zDof s4) := by
    refine ⟨fun v v0 v1 _ => rok v v0 v1, fun z => ?_⟩
    have e9 : zD2 (zDof s4) = r := c9
    rw [e9] at z ⊢
    rcases hr with ⟨a, _⟩ | ⟨p, a, c, d, _⟩
    · exact absurd a z
    · have := (hpl.2.1 p a.1 a.2).2
      exact rok r (by omega) (by omega)
  refine TX2_begin_32 (okX2_runRounds (D := zDof s4) (p := σ 98 1) hD hok (by omega) hX hX1 (fun Xs n w s hrn hf _ hv => TX2_begin_38 ?_))
  have hv' := hv (by decide)
  refine kq (zDof s4) Xs n w s (zhD_fr hf rfl hD) hok (by rw [show zD1 (zDof s4) = b from c8]; exact hbs) (fun v v0 v1 => by rw [show zD1 (zDof s4) = b from c8]; exact hbw v v0 v1) (by rw [show zD2 (zDof s4) = r from c9]; exact hr) r63 r64 ?_ hrn (zfr_tr (zfr_mo rfl f4) (zfr_mo rfl hf)) (by rw [zfr_at hf rfl]; exact c7) hv'.1 hv'.2
  show s4 23 = σ 23
  exact zfr_row f4 rfl
/-- the model keeps a ballot -/
theorem okX12_keeps {e w : Int} (he : 0 ≤ e ∧ e < 13) (hw : w = -1 ∨ (0 ≤ w ∧ w < 24)) (hn : 0 ≤ w → σ 135 w ≤ 80) (kq : ∀ s : zS, zfr [(168, none), (169, none)] s σ → (∀ x, x ≠ e → s 169 x = σ 169 x) → (∀ x j, x ≠ e → 0 ≤ j → j < 80 → s 168 (80 * x + j) = σ 168 (80 * x + j)) → (((w = -1 ∨ σ 135 w < 0) ∧ s 169 e = 0) ∨ ((w ≠ -1 ∧ 0 ≤ σ 135 w) ∧ s 169 e = σ 135 w ∧ ∀ j, 0 ≤ j → j < σ 135 w → s 168 (80 * e + j) = σ 134 (80 * w + j))) → Q 0 s) : zO G MX12_keeps [zr 98, zi e, zi w] σ Q := by
  have cop : ∀ (N : Int), 0 ≤ N → N ≤ 80 → (N = 0 ∨ 0 ≤ w ∧ w < 24) → (∀ s : zS, zfr [(168, none), (169, none)] s σ → (∀ x, x ≠ e → s 169 x = σ 169 x) → (∀ x j, x ≠ e → 0 ≤ j → j < 80 → s 168 (80 * x + j) = σ 168 (80 * x + j)) → s 169 e = N → (∀ j, 0 ≤ j → j < N → s 168 (80 * e + j) = σ 134 (80 * w + j)) → Q 0 s) → zR G MX12_keeps 32 [zr 98, zi e, zi w, zi 0] [] (zup σ 169 e N) Q := by
    intro N N0 N1 hN kk
    have loop : ∀ (n : Nat) (i : Int) (s : zS), (N - i).toNat = n → 0 ≤ i → i ≤ N → zfr [(168, none), (169, none)] s σ → (∀ x, x ≠ e → s 169 x = σ 169 x) → (∀ x j, x ≠ e → 0 ≤ j → j < 80 → s 168 (80 * x + j) = σ 168 (80 * x + j)) → s 169 e = N → (∀ j, 0 ≤ j → j < i → s 168 (80 * e + j) = σ 134 (80 * w + j)) → zR G MX12_keeps 32 [zr 98, zi e, zi w, zi i] [] s Q := by
      intro n
      induction n with
      | zero =>
        intro i s hm i0 i1 hf a1 a2 a3 a4
        have : i = N := by omega
        subst this
        apply TX12_keeps_32 <;> (try rw [a3]) <;> (try (intros; omega))
        intro _
        exact kk s hf a1 a2 a3 a4
      | succ n ih =>
        intro i s hm i0 i1 hf a1 a2 a3 a4
        have r134 : s 134 = σ 134 := zfr_row hf rfl
        apply TX12_keeps_32 <;> (try rw [a3]) <;> (try (intros; omega))
        intro _
        rw [r134]
        refine ih (i + 1) _ (by omega) (by omega) (by omega) (zfr_uA rfl hf) (fun x hx => by (try simp (disch := decide) only [zup_of, zup_oi, zup_same]); exact a1 x hx) (fun x j hx j0 j1 => ?_) (by (try simp (disch := decide) only [zup_of, zup_oi, zup_same]); exact a3) (fun j j0 j1 => ?_)
        · rw [zup_oi (by omega)]
          exact a2 x j hx j0 j1
        · rw [zup_at]
          by_cases y : j = i
          · rw [if_pos (by omega), y]
          · rw [if_neg (by omega)]
            exact a4 j j0 (by omega)
    exact loop _ 0 _ rfl (by omega) N0 (zfr_uA rfl zfr_0) (fun x hx => zup_oi hx) (fun x j _ _ _ => by (try simp (disch := decide) only [zup_of, zup_oi, zup_same])) zup_same (fun j j0 j1 => by omega)
  apply TX12_keeps <;> (try (intros; omega))
  · intro h
    exact cop 0 (by omega) (by omega) (Or.inl rfl) (fun s a b c d _ => kq s a b c (Or.inl ⟨Or.inl h, d⟩))
  · intro h h2
    have := hn (by omega)
    exact cop _ h2 this (Or.inr (by omega)) (fun s a b c d d2 => kq s a b c (Or.inr ⟨⟨h, h2⟩, d, d2⟩))
  · intro h h2
    exact cop 0 (by omega) (by omega) (Or.inl rfl) (fun s a b c d _ => kq s a b c (Or.inl ⟨Or.inr h2, d⟩))
/-- the model: may each be elected -/
theorem okM_elect57 {l : List Int} {p X kd : Int} (hl : zlaws σ l) (hpl : zpla σ) (hp : 0 ≤ p ∧ p < σ 98 4) (hk : σ 129 p = kd) (hX : zset (σ 98 1) X)
    (kq1 : zP1 σ l (σ 98 0) kd X → ∀ t : zS, zfr zWs t σ → zR G MX12_elect 127 [zr 98, zi p, zi X, zi 0, zi 0, zi (-1), zi 0] [] t Q)
    (kq0 : ¬ zP1 σ l (σ 98 0) kd X → ∀ t : zS, zfr zWs t σ → Q (-6) (zup t 157 (-(-6)) (zW (t 157 (-(-6)) + 1)))) : zR G MX12_elect 57 [zr 98, zi p, zi X, zi 0, zu, zu, zu] [] σ Q := by
  have hn := hl.2.2.2.2.1.1
  have h0 := hpl.1
  have hkd := (hpl.2.1 p hp.1 hp.2).1
  rw [hk] at hkd
  have loop : ∀ (n : Nat) (i : Int) (s : zS), (σ 98 1 - i).toNat = n → 0 ≤ i → i ≤ σ 98 1 → zfr zWs s σ → (∀ w, 0 ≤ w → w < i → zbit X w → ¬ zhol σ kd w ∧ zcan σ l (σ 98 0) w kd) → zR G MX12_elect 57 [zr 98, zi p, zi X, zi i, zu, zu, zu] [] s Q := by
    intro n
    induction n with
    | zero =>
      intro i s hm i0 i1 hf h
      have : i = σ 98 1 := by omega
      subst this
      have qp : s 98 1 = σ 98 1 := zfr_at hf rfl
      apply TX12_elect_57 <;> (try rw [qp]) <;> (try (intros; omega))
      intro _
      exact kq1 h s hf
    | succ n ih =>
      intro i s hm i0 i1 hf h
      have qp : s 98 1 = σ 98 1 := zfr_at hf rfl
      have q129 : s 129 p = kd := by rw [zfr_row (q := 129) hf rfl]; exact hk
      have qn : s 98 0 = σ 98 0 := zfr_at hf rfl
      have hls : zlaws s l := zlaws_ke (zfr_sm hf rfl) hl
      by_cases c : zbit X i
      · have h1 := (zb_shr1 (x := X) i0 (by omega)).1 c
        apply TX12_elect_57 <;> (try rw [qp]) <;> (try rw [q129]) <;> (try (intros; omega))
        intro _ _
        refine okM_mh hls (by omega) hkd (fun s1 r f1 hr => ?_)
        have f2 : zfr zWs s1 σ := zfr_tr hf f1
        have hcs := zcan_sm (l := l) (d := s 98 0) (w := i) (kd := kd) (zsc_D hf)
        rw [hcs, qn] at hr
        have q129' : s1 129 p = kd := by rw [zfr_row (q := 129) f2 rfl]; exact hk
        rcases hr with ⟨rfl, h3⟩ | ⟨rfl, h3⟩
        · apply TX12_elect_85 <;> (try rw [q129']) <;> (try (intros; omega))
          intro _
          refine okX12_placeHeld (zpla_ke (zfr_sm f2 rfl) hpl) (fun r hr => ?_)
          rw [zhol_sc f2] at hr
          rcases hr with ⟨rfl, h4⟩ | ⟨h4, h5, h6, _⟩
          · apply TX12_elect_99 <;> (try (intros; omega))
            intro _
            refine ih (i + 1) s1 (by omega) (by omega) (by omega) f2 (fun w w0 w1 hb => ?_)
            by_cases e : w = i
            · rw [e]; exact ⟨h4, h3⟩
            · exact h w w0 (by omega) hb
          · apply TX12_elect_99 <;> (try (intros; omega))
            intro _
            refine kq0 (fun z => ?_) s1 f2
            have hz : zhol s1 kd i := ⟨r, h4, h5, h6⟩
            rw [zhol_sc f2] at hz
            exact (z i i0 (by omega) c).1 hz
        · apply TX12_elect_85 <;> (try rw [q129']) <;> (try (intros; omega))
          intro _
          exact kq0 (fun z => h3 (z i i0 (by omega) c).2) s1 f2
      · have h1 := (zb_shr1 (x := X) i0 (by omega)).2 c
        apply TX12_elect_57 <;> (try rw [qp]) <;> (try (intros; omega))
        intro _ _
        refine ih (i + 1) s (by omega) (by omega) (by omega) hf (fun w w0 w1 hb => ?_)
        by_cases e : w = i
        · rw [e] at hb; exact absurd hb c
        · exact h w w0 (by omega) hb
  exact loop _ 0 σ rfl (by omega) (by omega) zfr_0 (fun w a b => by omega)
theorem zhp1_b {P : Int → Prop} {p : Int} : 0 ≤ zhp σ (fun w => zif2 (P w) 1 0) p ∧ zhp σ (fun w => zif2 (P w) 1 0) p ≤ 1 := by
  by_cases c : zfel σ p
  · rw [zhp_y c]; exact zif2_b
  · rw [zhp_n c]; omega
theorem okM_elect127 {p X : Int} (hpl : zpla σ) (hb : ∀ w, 0 ≤ w → w < 24 → (0 ≤ σ 135 w ↔ σ 61 w ≠ -1))
    (kq1 : zP2 σ → ∀ r v3 v4, zfo σ (σ 98 4) r → zR G MX12_elect 245 [zr 98, zi p, zi X, zi v3, zi v4, zi r, zi 0] [] (zup σ 98 91 0) Q)
    (kq0 : ¬ zP2 σ → Q (-6) (zup σ 157 (-(-6)) (zW (σ 157 (-(-6)) + 1)))) : zR G MX12_elect 127 [zr 98, zi p, zi X, zi 0, zi 0, zi (-1), zi 0] [] σ Q := by
  have h0 := hpl.1
  have loop : ∀ (n : Nat) (i r : Int), (σ 98 4 - i).toNat = n → 0 ≤ i → i ≤ σ 98 4 → zfo σ i r → zR G MX12_elect 127 [zr 98, zi p, zi X, zi (zps (zhp σ (fun _ => zif2 True 1 0)) i.toNat), zi (zps (zhp σ (fun w => zif2 (σ 61 w ≠ -1) 1 0)) i.toNat), zi r, zi i] [] σ Q := by
    intro n
    induction n with
    | zero =>
      intro i r hm i0 i1 hr
      have : i = σ 98 4 := by omega
      subst this
      have b1 := zps_b (g := zhp σ (fun _ => zif2 True 1 0)) (B := 1) (n := (σ 98 4).toNat) (fun j _ _ => zhp1_b (P := fun _ => True))
      have b2 := zps_b (g := zhp σ (fun w => zif2 (σ 61 w ≠ -1) 1 0)) (B := 1) (n := (σ 98 4).toNat) (fun j _ _ => zhp1_b)
      by_cases c : zP2 σ
      · have c' := c
        unfold zP2 znv znf at c'
        apply TX12_elect_127 <;> (try (intros; omega))
        intro _ _ _
        exact kq1 c _ _ _ hr
      · have c' := c
        unfold zP2 znv znf at c'
        apply TX12_elect_127 <;> (try (intros; omega))
        intro _ _
        exact kq0 c
    | succ n ih =>
      intro i r hm i0 i1 hr
      have b1 := zps_b (g := zhp σ (fun _ => zif2 True 1 0)) (B := 1) (n := i.toNat) (fun j _ _ => zhp1_b (P := fun _ => True))
      have b2 := zps_b (g := zhp σ (fun w => zif2 (σ 61 w ≠ -1) 1 0)) (B := 1) (n := i.toNat) (fun j _ _ => zhp1_b)
      have s1 := zps_s (g := zhp σ (fun _ => zif2 True 1 0)) i0
      have s2 := zps_s (g := zhp σ (fun w => zif2 (σ 61 w ≠ -1) 1 0)) i0
      have hm2 := (hpl.2.1 i i0 (by omega)).2
      -- the officer
      have keep : ¬ (σ 129 i = 2 ∧ σ 130 i ≠ -1) ∨ r ≠ -1 → zfo σ (i + 1) r := by
        intro hh
        rcases hr with ⟨a, b⟩ | ⟨q, a, b, c, d⟩
        · refine Or.inl ⟨a, fun q q0 q1 => ?_⟩
          by_cases e : q = i
          · rw [e]; exact hh.resolve_right (fun z => z a)
          · exact b q q0 (by omega)
        · exact Or.inr ⟨q, by omega, b, c, d⟩
      have new : (σ 129 i = 2 ∧ σ 130 i ≠ -1) → r = -1 → zfo σ (i + 1) (σ 130 i) := by
        intro hh hr1
        rcases hr with ⟨a, b⟩ | ⟨q, a, b, c, d⟩
        · exact Or.inr ⟨i, by omega, hh, rfl, b⟩
        · exact absurd (c.symm.trans hr1) b.2
      by_cases hh : σ 130 i = -1
      · have hnf : ¬ zfel σ i := fun z => z.2 hh
        rw [zhp_n hnf] at s1 s2
        have go := ih (i + 1) r (by omega) (by omega) (by omega) (keep (Or.inl (fun z => z.2 hh)))
        rw [s1, s2, Int.add_zero, Int.add_zero] at go
        clear keep new
        apply TX12_elect_127 <;> (try (intros; omega))
        all_goals (intros; exact go)
      · by_cases k1 : σ 129 i = 1
        · have hf : zfel σ i := ⟨k1, hh⟩
          rw [zhp_y hf] at s1
          have s1 := s1.trans (congrArg (fun z => zps (zhp σ (fun _ => zif2 True 1 0)) i.toNat + z) (zif2_y (p := True) (a := 1) (b := 0) trivial))
          rw [zhp_y hf] at s2
          have hbi := hb (σ 130 i) (by omega) (by omega)
          have go := ih (i + 1) r (by omega) (by omega) (by omega) (keep (Or.inl (fun z => by omega)))
          clear keep new
          by_cases d : σ 61 (σ 130 i) ≠ -1
          · have d2 := hbi.mpr d
            rw [zif2_y d] at s2
            rw [show zps (zhp σ (fun _ => zif2 True 1 0)) (i + 1).toNat = zps (zhp σ (fun _ => zif2 True 1 0)) i.toNat + 1 from s1, s2] at go
            apply TX12_elect_127 <;> (try (intros; omega))
            all_goals (intros; exact go)
          · have d2 : ¬ 0 ≤ σ 135 (σ 130 i) := fun z => d (hbi.mp z)
            rw [zif2_n d, Int.add_zero] at s2
            rw [show zps (zhp σ (fun _ => zif2 True 1 0)) (i + 1).toNat = zps (zhp σ (fun _ => zif2 True 1 0)) i.toNat + 1 from s1, s2] at go
            apply TX12_elect_127 <;> (try (intros; omega))
            all_goals (intros; exact go)
        · have hnf : ¬ zfel σ i := fun z => k1 z.1
          rw [zhp_n hnf] at s1 s2
          by_cases e : σ 129 i = 2 ∧ r = -1
          · have go := ih (i + 1) _ (by omega) (by omega) (by omega) (new ⟨e.1, hh⟩ e.2)
            rw [s1, s2, Int.add_zero, Int.add_zero] at go
            clear keep new
            apply TX12_elect_127 <;> (try (intros; omega))
            all_goals (intros; exact go)
          · have go := ih (i + 1) r (by omega) (by omega) (by omega) (keep ((Classical.em (r = -1)).elim (fun z => Or.inl (fun y => e ⟨y.1, z⟩)) Or.inr))
            rw [s1, s2, Int.add_zero, Int.add_zero] at go
            clear keep new
            apply TX12_elect_127 <;> (try (intros; omega))
            all_goals (intros; exact go)
  exact loop _ 0 (-1) rfl (by omega) h0.1 (Or.inl ⟨rfl, fun q a b => by omega⟩)
end BE
