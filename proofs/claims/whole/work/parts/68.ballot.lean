/-! CALLS: ballot, wish -/
theorem zshape_s : ∀ n : Nat, n < 10 → zsh (2 + 2 * n) = (4, 9, [some (3 + 2 * n), none, none, none]) ∧ zsh (3 + 2 * n) = (2, 80, []) := by decide +kernel
section BL
variable {G : zG} {σ : zS}
theorem st_ballot {a1 a2 : Int} (hi : zinv σ) : zst2 G MX11_ballot [zr 0, zi a1, zi a2] MX12_ballot [zr 98, zi a1, zi a2] σ := by
  have hv := g_zshv hi
  have hp := g_zppl hi
  have hn := hp.1
  have hc := hp.2.1
  have hb := g_zblt hi
  have hlim := (g_zlim hi).1
  have ht : zsh 59 = (4, 1, [none, some 60, some 61]) := by decide +kernel
  have hto : zsh 60 = (0, 576, []) := by decide +kernel
  have htz : zsh 61 = (0, 24, []) := by decide +kernel
  refine TX11_ballot ?_
  by_cases h : 0 ≤ a1 ∧ a1 < σ 98 1
  · apply TX11_choiceOf ht hto htz <;> (try rw [hc]) <;> (try (intros; omega))
    intro _
    refine okX11_rowTrouble hv (fun r hr => ?_)
    rcases hr with ⟨rfl, hs⟩ | ⟨hs, ⟨rfl, hh⟩ | ⟨rfl, hh⟩ | ⟨rfl, hh⟩⟩
    · have hr0 : zrt (zup σ 97 (- -1) (zW (σ 97 (- -1) + 1))) a2 (-1) := Or.inl ⟨rfl, hs⟩
      apply TX11_choiceOf_16 ht hto htz <;> (try (intros; omega))
      intro _
      refine TX11_ballot_10 ?_
      apply TX12_ballot <;> (try simp (disch := decide) only [zup_of, zup_oi, zup_same]) <;> (try (intros; omega))
      intro _
      refine okX12_wants (zshv_ke (zfr_sm (zfr_uA (W := [(97, none)]) rfl zfr_0) rfl) hv) (fun r' hr' => ?_)
      cases zrt_one hr' hr0
      apply TX12_ballot_19 <;> (try simp (disch := decide) only [zup_of, zup_oi, zup_same]) <;> (try (intros; omega)) <;> (try (intros; exact ⟨by first | trivial | omega, zno hi (by decide) rfl rfl (by decide)⟩))
    · have hr0 : zrt (zup σ 97 (- -2) (zW (σ 97 (- -2) + 1))) a2 (-2) := Or.inr ⟨hs, Or.inl ⟨rfl, by (try simp (disch := decide) only [zup_of, zup_oi, zup_same]); exact hh⟩⟩
      apply TX11_choiceOf_16 ht hto htz <;> (try (intros; omega))
      intro _
      refine TX11_ballot_10 ?_
      apply TX12_ballot <;> (try simp (disch := decide) only [zup_of, zup_oi, zup_same]) <;> (try (intros; omega))
      intro _
      refine okX12_wants (zshv_ke (zfr_sm (zfr_uA (W := [(97, none)]) rfl zfr_0) rfl) hv) (fun r' hr' => ?_)
      cases zrt_one hr' hr0
      apply TX12_ballot_19 <;> (try simp (disch := decide) only [zup_of, zup_oi, zup_same]) <;> (try (intros; omega)) <;> (try (intros; exact ⟨by first | trivial | omega, zno hi (by decide) rfl rfl (by decide)⟩))
    · have hr0 : zrt (zup σ 97 (- -3) (zW (σ 97 (- -3) + 1))) a2 (-3) := Or.inr ⟨hs, Or.inr (Or.inl ⟨rfl, by (try simp (disch := decide) only [zup_of, zup_oi, zup_same]); exact hh⟩)⟩
      apply TX11_choiceOf_16 ht hto htz <;> (try (intros; omega))
      intro _
      refine TX11_ballot_10 ?_
      apply TX12_ballot <;> (try simp (disch := decide) only [zup_of, zup_oi, zup_same]) <;> (try (intros; omega))
      intro _
      refine okX12_wants (zshv_ke (zfr_sm (zfr_uA (W := [(97, none)]) rfl zfr_0) rfl) hv) (fun r' hr' => ?_)
      cases zrt_one hr' hr0
      apply TX12_ballot_19 <;> (try simp (disch := decide) only [zup_of, zup_oi, zup_same]) <;> (try (intros; omega)) <;> (try (intros; exact ⟨by first | trivial | omega, zno hi (by decide) rfl rfl (by decide)⟩))
    · obtain ⟨b1, b2, b3, b4, b5, b6⟩ := zsh_row hv hs hh
      have sh := zshape_s a2.toNat (by omega)
      apply TX11_choiceOf_16 ht hto htz <;> (try (intros; omega))
      intro _
      refine okX1_tell ht hto htz sh.1 sh.2 ⟨by decide, by decide, by decide, by omega, by omega, by omega, by omega⟩ hlim (by omega) (by omega) (by omega) (by rw [b4]; exact b5) (fun s fs hz hor hzb hin hsel => ?_)
      apply TX11_choiceOf_45 ht hto htz
      · omega
      refine TX11_ballot_10 ?_
      have e2 : s (2 + 2 * a2.toNat) 2 = σ 113 a2 := by rw [show s (2 + 2 * a2.toNat) = σ (2 + 2 * a2.toNat) from zfr_row2 fs (by omega) (by omega)]; exact b4
      rw [e2]
      have q1 : s 98 1 = σ 98 1 := zfr_at fs rfl
      have q113 : s 113 = σ 113 := zfr_row fs rfl
      have q115 : s 115 = σ 115 := zfr_row fs rfl
      have q134 : s 134 = σ 134 := zfr_row fs rfl
      have q135 : s 135 = σ 135 := zfr_row fs rfl
      apply TX12_ballot <;> (try rw [q1]) <;> (try (intros; omega))
      intro _
      have hr0 : zrt s a2 0 := Or.inr ⟨hs, Or.inr (Or.inr ⟨rfl, by rw [zfr_row (q := 111) fs rfl]; exact hh⟩)⟩
      refine okX12_wants (zshv_ke (zfr_sm fs rfl) hv) (fun r' hr' => ?_)
      cases zrt_one hr' hr0
      apply TX12_ballot_19 <;> (try simp (disch := decide) only [zup_of, zup_oi, zup_same]) <;> (try (intros; omega))
      intro _
      rw [q113]
      have mdl : ∀ (n : Nat) (i : Int) (t : zS), (σ 113 a2 - i).toNat = n → 0 ≤ i → i ≤ σ 113 a2 → zfr [(61, none), (60, none), (134, none), (135, none)] t σ → (∀ w, t 61 w = s 61 w) → (∀ j, t 60 j = s 60 j) → (∀ w, t 135 w = if w = a1 then σ 113 a2 else σ 135 w) →
          (∀ w k, 0 ≤ k → k < 80 → t 134 (80 * w + k) = if w = a1 ∧ k < i then zW (σ 115 (80 * a2 + k)) else σ 134 (80 * w + k)) → zR G MX12_ballot 45 [zr 98, zi a1, zi a2, zi 0, zi i] [] t (fun r' s' => r' = σ 113 a2 ∧ zinv s') := by
        intro n
        induction n with
        | zero =>
          intro i t hm i0 i1 hf hA hB h135 h134
          have hi' : i = σ 113 a2 := by omega
          subst hi'
          have t113 : t 113 = σ 113 := zfr_row hf rfl
          apply TX12_ballot_45 <;> (try rw [t113]) <;> (try (intros; omega))
          intro _
          refine ⟨rfl, ?_⟩
          apply zinv_fr hf hi <;> (try (intro h; exact absurd h (by decide)))
          intro _ w w0 w1
          have hbw := hb w w0 w1
          have e135 := h135 w
          rw [hA w, e135]
          by_cases e : w = a1
          · rw [if_pos e, e]
            refine Or.inr ⟨hzb, by omega, ?_, ?_⟩
            · intro k k0 k1
              show 0 ≤ t 60 (24 * a1 + k) ∧ t 60 (24 * a1 + k) < 24
              rw [hB]
              exact hin k k0 k1
            · refine zsel_cgl (f := fun i => s 60 (24 * a1 + i)) (zsel_cgr (g := fun i => zW (σ (3 + 2 * a2.toNat) i)) (by rw [b4] at hsel; exact hsel) (fun j j0 j1 => ?_)) (fun j j0 j1 => hB _)
              show t 134 (80 * a1 + j) = zW (σ (3 + 2 * a2.toNat) j)
              rw [h134 a1 j j0 (by omega), if_pos ⟨rfl, j1⟩, b6 j j0 (by omega)]
          · rw [if_neg e, hz w e]
            rcases hbw with hbw | ⟨c1, c2, c3, c4⟩
            · exact Or.inl hbw
            · refine Or.inr ⟨c1, c2, fun k k0 k1 => ?_, zsel_cgl (f := fun i => σ 60 (24 * w + i)) (zsel_cgr (g := fun i => σ 134 (80 * w + i)) c4 (fun j j0 j1 => ?_)) (fun j j0 j1 => ?_)⟩
              · show 0 ≤ t 60 (24 * w + k) ∧ t 60 (24 * w + k) < 24
                rw [hB, hor w e k k0 (by omega)]
                exact c3 k k0 k1
              · show t 134 (80 * w + j) = σ 134 (80 * w + j)
                rw [h134 w j j0 (by omega), if_neg (fun z => e z.1)]
              · show t 60 (24 * w + j) = σ 60 (24 * w + j)
                rw [hB, hor w e j j0 (by omega)]
        | succ n ih =>
          intro i t hm i0 i1 hf hA hB h135 h134
          have t113 : t 113 = σ 113 := zfr_row hf rfl
          have t115 : t 115 = σ 115 := zfr_row hf rfl
          apply TX12_ballot_45 <;> (try rw [t113]) <;> (try (intros; omega))
          intro _
          rw [t115]
          refine ih (i + 1) _ (by omega) (by omega) (by omega) (zfr_uA rfl hf) (fun w => by (try simp (disch := decide) only [zup_of, zup_oi, zup_same]); exact hA w) (fun j => by (try simp (disch := decide) only [zup_of, zup_oi, zup_same]); exact hB j) (fun w => by (try simp (disch := decide) only [zup_of, zup_oi, zup_same]); exact h135 w) (fun w k k0 k1 => ?_)
          rw [zup_at, h134 w k k0 k1]
          by_cases e : w = a1 ∧ k = i
          · rw [if_pos (by omega), if_pos ⟨e.1, by omega⟩, e.2]
          · rw [if_neg (by omega)]
            by_cases e2 : w = a1 ∧ k < i
            · rw [if_pos e2, if_pos ⟨e2.1, by omega⟩]
            · rw [if_neg e2, if_neg (by omega)]
      refine mdl _ 0 _ rfl (by omega) (by omega) (zfr_uA rfl (zfr_mo rfl fs)) (fun w => by (try simp (disch := decide) only [zup_of, zup_oi, zup_same])) (fun j => by (try simp (disch := decide) only [zup_of, zup_oi, zup_same])) (fun w => ?_) (fun w k k0 k1 => ?_)
      · ((try simp (disch := decide) only [zup_of, zup_oi, zup_same]) <;> (try simp only [zup_at]) <;> (try simp (disch := decide) only [zup_of, zup_oi, zup_same]) <;> (try simp only [zup_at]) <;> (try simp (disch := decide) only [zup_of, zup_oi, zup_same]) <;> (try simp only [zup_at]) <;> (try simp (disch := decide) only [zup_of, zup_oi, zup_same]))
        rw [q135]
      · (try simp (disch := decide) only [zup_of, zup_oi, zup_same])
        rw [q134, if_neg (by omega)]
  · apply TX11_choiceOf ht hto htz <;> (try rw [hc]) <;> (try (intros; omega))
    intro _
    refine TX11_ballot_10 ?_
    intros; apply TX12_ballot <;> (try simp (disch := decide) only [zup_of, zup_oi, zup_same]) <;> (try (intros; omega)) <;> (try (intros; exact ⟨by first | trivial | omega, zno hi (by first | decide | omega) rfl rfl (by first | decide | omega)⟩))
theorem st_wish {a1 a2 : Int} (hi : zinv σ) : zst2 G MX11_wish [zr 0, zi a1, zi a2] MX12_wish [zr 98, zi a1, zi a2] σ := by
  have hv := g_zshv hi
  have hp := g_zppl hi
  have hn := hp.1
  have hc := hp.2.1
  have hb := g_zwsh hi
  have hlim := (g_zlim hi).2.2
  have ht : zsh 91 = (4, 1, [none, some 92, some 93]) := by decide +kernel
  have hto : zsh 92 = (0, 216, []) := by decide +kernel
  have htz : zsh 93 = (0, 24, []) := by decide +kernel
  refine TX11_wish ?_
  by_cases h : 0 ≤ a1 ∧ a1 < σ 98 1
  · apply TX11_choiceOf ht hto htz <;> (try rw [hc]) <;> (try (intros; omega))
    intro _
    refine okX11_rowTrouble hv (fun r hr => ?_)
    rcases hr with ⟨rfl, hs⟩ | ⟨hs, ⟨rfl, hh⟩ | ⟨rfl, hh⟩ | ⟨rfl, hh⟩⟩
    · have hr0 : zrt (zup σ 97 (- -1) (zW (σ 97 (- -1) + 1))) a2 (-1) := Or.inl ⟨rfl, hs⟩
      apply TX11_choiceOf_16 ht hto htz <;> (try (intros; omega))
      intro _
      refine TX11_wish_10 ?_
      apply TX12_wish <;> (try simp (disch := decide) only [zup_of, zup_oi, zup_same]) <;> (try (intros; omega))
      intro _
      refine okX12_wants (zshv_ke (zfr_sm (zfr_uA (W := [(97, none)]) rfl zfr_0) rfl) hv) (fun r' hr' => ?_)
      cases zrt_one hr' hr0
      apply TX12_wish_19 <;> (try simp (disch := decide) only [zup_of, zup_oi, zup_same]) <;> (try (intros; omega)) <;> (try (intros; exact ⟨by first | trivial | omega, zno hi (by decide) rfl rfl (by decide)⟩))
    · have hr0 : zrt (zup σ 97 (- -2) (zW (σ 97 (- -2) + 1))) a2 (-2) := Or.inr ⟨hs, Or.inl ⟨rfl, by (try simp (disch := decide) only [zup_of, zup_oi, zup_same]); exact hh⟩⟩
      apply TX11_choiceOf_16 ht hto htz <;> (try (intros; omega))
      intro _
      refine TX11_wish_10 ?_
      apply TX12_wish <;> (try simp (disch := decide) only [zup_of, zup_oi, zup_same]) <;> (try (intros; omega))
      intro _
      refine okX12_wants (zshv_ke (zfr_sm (zfr_uA (W := [(97, none)]) rfl zfr_0) rfl) hv) (fun r' hr' => ?_)
      cases zrt_one hr' hr0
      apply TX12_wish_19 <;> (try simp (disch := decide) only [zup_of, zup_oi, zup_same]) <;> (try (intros; omega)) <;> (try (intros; exact ⟨by first | trivial | omega, zno hi (by decide) rfl rfl (by decide)⟩))
    · have hr0 : zrt (zup σ 97 (- -3) (zW (σ 97 (- -3) + 1))) a2 (-3) := Or.inr ⟨hs, Or.inr (Or.inl ⟨rfl, by (try simp (disch := decide) only [zup_of, zup_oi, zup_same]); exact hh⟩)⟩
      apply TX11_choiceOf_16 ht hto htz <;> (try (intros; omega))
      intro _
      refine TX11_wish_10 ?_
      apply TX12_wish <;> (try simp (disch := decide) only [zup_of, zup_oi, zup_same]) <;> (try (intros; omega))
      intro _
      refine okX12_wants (zshv_ke (zfr_sm (zfr_uA (W := [(97, none)]) rfl zfr_0) rfl) hv) (fun r' hr' => ?_)
      cases zrt_one hr' hr0
      apply TX12_wish_19 <;> (try simp (disch := decide) only [zup_of, zup_oi, zup_same]) <;> (try (intros; omega)) <;> (try (intros; exact ⟨by first | trivial | omega, zno hi (by decide) rfl rfl (by decide)⟩))
    · obtain ⟨b1, b2, b3, b4, b5, b6⟩ := zsh_row hv hs hh
      have sh := zshape_s a2.toNat (by omega)
      apply TX11_choiceOf_16 ht hto htz <;> (try (intros; omega))
      intro _
      refine okX1_tell ht hto htz sh.1 sh.2 ⟨by decide, by decide, by decide, by omega, by omega, by omega, by omega⟩ hlim (by omega) (by omega) (by omega) (by rw [b4]; exact b5) (fun s fs hz hor hzb hin hsel => ?_)
      apply TX11_choiceOf_45 ht hto htz
      · omega
      refine TX11_wish_10 ?_
      have e2 : s (2 + 2 * a2.toNat) 2 = σ 113 a2 := by rw [show s (2 + 2 * a2.toNat) = σ (2 + 2 * a2.toNat) from zfr_row2 fs (by omega) (by omega)]; exact b4
      rw [e2]
      have q1 : s 98 1 = σ 98 1 := zfr_at fs rfl
      have q113 : s 113 = σ 113 := zfr_row fs rfl
      have q115 : s 115 = σ 115 := zfr_row fs rfl
      have q134 : s 136 = σ 136 := zfr_row fs rfl
      have q135 : s 137 = σ 137 := zfr_row fs rfl
      apply TX12_wish <;> (try rw [q1]) <;> (try (intros; omega))
      intro _
      have hr0 : zrt s a2 0 := Or.inr ⟨hs, Or.inr (Or.inr ⟨rfl, by rw [zfr_row (q := 111) fs rfl]; exact hh⟩)⟩
      refine okX12_wants (zshv_ke (zfr_sm fs rfl) hv) (fun r' hr' => ?_)
      cases zrt_one hr' hr0
      apply TX12_wish_19 <;> (try simp (disch := decide) only [zup_of, zup_oi, zup_same]) <;> (try (intros; omega))
      intro _
      rw [q113]
      have mdl : ∀ (n : Nat) (i : Int) (t : zS), (σ 113 a2 - i).toNat = n → 0 ≤ i → i ≤ σ 113 a2 → zfr [(93, none), (92, none), (136, none), (137, none)] t σ → (∀ w, t 93 w = s 93 w) → (∀ j, t 92 j = s 92 j) → (∀ w, t 137 w = if w = a1 then σ 113 a2 else σ 137 w) →
          (∀ w k, 0 ≤ k → k < 80 → t 136 (80 * w + k) = if w = a1 ∧ k < i then zW (σ 115 (80 * a2 + k)) else σ 136 (80 * w + k)) → zR G MX12_wish 45 [zr 98, zi a1, zi a2, zi 0, zi i] [] t (fun r' s' => r' = σ 113 a2 ∧ zinv s') := by
        intro n
        induction n with
        | zero =>
          intro i t hm i0 i1 hf hA hB h135 h134
          have hi' : i = σ 113 a2 := by omega
          subst hi'
          have t113 : t 113 = σ 113 := zfr_row hf rfl
          apply TX12_wish_45 <;> (try rw [t113]) <;> (try (intros; omega))
          intro _
          refine ⟨rfl, ?_⟩
          apply zinv_fr hf hi <;> (try (intro h; exact absurd h (by decide)))
          intro _ w w0 w1
          have hbw := hb w w0 w1
          have e135 := h135 w
          rw [hA w, e135]
          by_cases e : w = a1
          · rw [if_pos e, e]
            refine ⟨by omega, by omega, ?_, ?_⟩
            · intro k k0 k1
              show 0 ≤ t 92 (9 * a1 + k) ∧ t 92 (9 * a1 + k) < 9
              rw [hB]
              exact hin k k0 k1
            · refine zsel_cgl (f := fun i => s 92 (9 * a1 + i)) (zsel_cgr (g := fun i => zW (σ (3 + 2 * a2.toNat) i)) (by rw [b4] at hsel; exact hsel) (fun j j0 j1 => ?_)) (fun j j0 j1 => hB _)
              show t 136 (80 * a1 + j) = zW (σ (3 + 2 * a2.toNat) j)
              rw [h134 a1 j j0 (by omega), if_pos ⟨rfl, j1⟩, b6 j j0 (by omega)]
          · rw [if_neg e, hz w e]
            obtain ⟨c1, c2, c3, c4⟩ := hbw
            refine ⟨c1, c2, fun k k0 k1 => ?_, zsel_cgl (f := fun i => σ 92 (9 * w + i)) (zsel_cgr (g := fun i => σ 136 (80 * w + i)) c4 (fun j j0 j1 => ?_)) (fun j j0 j1 => ?_)⟩
            · show 0 ≤ t 92 (9 * w + k) ∧ t 92 (9 * w + k) < 9
              rw [hB, hor w e k k0 (by omega)]
              exact c3 k k0 k1
            · show t 136 (80 * w + j) = σ 136 (80 * w + j)
              rw [h134 w j j0 (by omega), if_neg (fun z => e z.1)]
            · show t 92 (9 * w + j) = σ 92 (9 * w + j)
              rw [hB, hor w e j j0 (by omega)]
        | succ n ih =>
          intro i t hm i0 i1 hf hA hB h135 h134
          have t113 : t 113 = σ 113 := zfr_row hf rfl
          have t115 : t 115 = σ 115 := zfr_row hf rfl
          apply TX12_wish_45 <;> (try rw [t113]) <;> (try (intros; omega))
          intro _
          rw [t115]
          refine ih (i + 1) _ (by omega) (by omega) (by omega) (zfr_uA rfl hf) (fun w => by (try simp (disch := decide) only [zup_of, zup_oi, zup_same]); exact hA w) (fun j => by (try simp (disch := decide) only [zup_of, zup_oi, zup_same]); exact hB j) (fun w => by (try simp (disch := decide) only [zup_of, zup_oi, zup_same]); exact h135 w) (fun w k k0 k1 => ?_)
          rw [zup_at, h134 w k k0 k1]
          by_cases e : w = a1 ∧ k = i
          · rw [if_pos (by omega), if_pos ⟨e.1, by omega⟩, e.2]
          · rw [if_neg (by omega)]
            by_cases e2 : w = a1 ∧ k < i
            · rw [if_pos e2, if_pos ⟨e2.1, by omega⟩]
            · rw [if_neg e2, if_neg (by omega)]
      refine mdl _ 0 _ rfl (by omega) (by omega) (zfr_uA rfl (zfr_mo rfl fs)) (fun w => by (try simp (disch := decide) only [zup_of, zup_oi, zup_same])) (fun j => by (try simp (disch := decide) only [zup_of, zup_oi, zup_same])) (fun w => ?_) (fun w k k0 k1 => ?_)
      · ((try simp (disch := decide) only [zup_of, zup_oi, zup_same]) <;> (try simp only [zup_at]) <;> (try simp (disch := decide) only [zup_of, zup_oi, zup_same]) <;> (try simp only [zup_at]) <;> (try simp (disch := decide) only [zup_of, zup_oi, zup_same]) <;> (try simp only [zup_at]) <;> (try simp (disch := decide) only [zup_of, zup_oi, zup_same]))
        rw [q135]
      · (try simp (disch := decide) only [zup_of, zup_oi, zup_same])
        rw [q134, if_neg (by omega)]
  · apply TX11_choiceOf ht hto htz <;> (try rw [hc]) <;> (try (intros; omega))
    intro _
    refine TX11_wish_10 ?_
    intros; apply TX12_wish <;> (try simp (disch := decide) only [zup_of, zup_oi, zup_same]) <;> (try (intros; omega)) <;> (try (intros; exact ⟨by first | trivial | omega, zno hi (by first | decide | omega) rfl rfl (by first | decide | omega)⟩))
end BL
