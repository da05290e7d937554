/-! CALLS: link -/
section LI
variable {G : zG} {σ : zS}
set_option maxHeartbeats 4000000 in
theorem st_link {a1 a2 a3 : Int} (hi : zinv σ) : zst2 G MX11_link [zr 0, zi a1, zi a2, zi a3] MX12_link [zr 98, zi a1, zi a2, zi a3] σ := by
  have hp := g_zppl hi
  have hn := hp.1
  have hc := hp.2.1
  have hl := g_zlnk hi
  have hlw := g_zlkw hi
  have hnow := g_zcnow hi
  by_cases hok : (0 ≤ a1 ∧ a1 < σ 98 1) ∧ (0 ≤ a3 ∧ a3 < σ 98 1) ∧ (0 ≤ a2 ∧ a2 ≤ 1)
  · obtain ⟨w1, w3, w2⟩ := hok
    have hk := hl (2 * a1 + a2) (by omega) (by omega)
    apply TX11_link <;> (try (intros; omega))
    intro _ _ _
    by_cases hfree : a1 ≠ a3 ∧ σ 102 (2 * a1 + a2) = -1
    · apply TX5_canLead <;> (try (intros; omega))
      intro _ _
      refine okX5_climb rfl (by decide) (by decide) (by decide) (fun l a b c => by have := zlnk_L hl l a b c; omega) (fun s1 f1 z1 => ?_)
      have g1 : zfr zWs s1 σ := zfr_of [32, 34] (fun q hq => by simp only [List.mem_cons, List.not_mem_nil, or_false, not_or] at hq; exact f1 q hq.1 hq.2) rfl
      have hi1 := zinv_sc g1 hi
      have e98 : s1 98 = σ 98 := f1 _ (by decide) (by decide)
      have e102 : s1 102 = σ 102 := f1 _ (by decide) (by decide)
      have e103 : s1 103 = σ 103 := f1 _ (by decide) (by decide)
      have e13 : s1 0 13 = σ 98 0 := by rw [f1 0 (by decide) (by decide)]; exact hnow.1
      rw [hnow.1] at z1
      have eS : (fun p : Int => (0 ≤ p ∧ p < 24) ∧ zbit (zshl 1 a3) p) = fun p => p = a3 := by
        funext p
        apply propext
        constructor
        · rintro ⟨a, b⟩
          exact (zb_shl (by omega) (by omega) a.1 (by omega)).mp b
        · rintro rfl
          exact ⟨by omega, (zb_shl (by omega) (by omega) (by omega) (by omega)).mpr rfl⟩
      rw [eS] at z1
      have up1 := z1 a1 w1.1 (by omega)
      have hb := fun d p => zball_cg (S := fun q => q = a3) (zlk_in (k := σ 98 0) hp hl) (zlk_CM hp hl) (fun p (e : p = a3) => by rw [e]; exact w3) d p
      have hM1 : ∀ l, 0 ≤ l → l < 2 * σ 98 1 → σ 102 l ≠ -1 → (0 ≤ σ 102 l ∧ σ 102 l < σ 98 1) := zlnk_M hp hl
      -- the model behind, from a state that is s1 but for the class's cells
      have model : ∀ (s2 : zS) (Q : Int → zS → Prop), s2 98 = σ 98 → s2 102 = σ 102 → s2 103 = σ 103 →
          (∀ s3 : zS, zfr [(158, none), (160, none)] s3 s2 → (s3 158 a1 = -1 ↔ s1 32 a1 = 99) → zR G MX12_link 70 [zr 98, zi a1, zi a2, zi a3] [] s3 Q) → zO G MX12_link [zr 98, zi a1, zi a2, zi a3] s2 Q := by
        intro s2 Q q98 q102 q103 kq
        apply TX12_link <;> (try rw [q98]) <;> (try rw [q102]) <;> (try (intros; omega))
        intros
        refine okX12_climbs (n := σ 98 1) rfl (by decide) (by decide) (by decide) (by decide) (by rw [q98]) (by omega) w3 (fun l a b => by rw [q102]; exact hM1 l a b) (fun s3 f3 z3 => kq s3 (zfr_of [158, 160] (fun q hq => by simp only [List.mem_cons, List.not_mem_nil, or_false, not_or] at hq; exact f3 q hq.1 hq.2) rfl) ?_)
        rw [zlkM_eq q102 q103] at z3
        have dn := z3 a1 w1.1 w1.2
        constructor
        · intro h
          by_cases c : s1 32 a1 = 99
          · exact c
          · have := up1.1 c
            exact absurd h (dn.2 _ ((hb _ _).mp this.2.2)).1
        · intro h
          by_cases c : s3 158 a1 = -1
          · exact c
          · have := dn.1 c
            exact absurd h (up1.2 _ ((hb _ _).mpr this.2.2)).1
      by_cases hup : s1 32 a1 = 99
      · apply TX5_canLead_34 <;> (try (intros; omega))
        intro _
        apply TX11_link_51 <;> (try (intros; omega))
        intro _
        rw [e13]
        refine model _ _ (by rw [zup_ne (by decide), zup_ne (by decide), e98]) (by rw [zup_ne (by decide), zup_ne (by decide), e102]) (by rw [zup_ne (by decide), zup_ne (by decide), e103]) (fun s3 f3 h3 => ?_)
        have h3' := h3.mpr hup
        apply TX12_link_70 <;> (try (intros; omega))
        intro _
        refine ⟨rfl, ?_⟩
        have q0 : s3 98 0 = σ 98 0 := by rw [zfr_at f3 rfl, zup_of (by decide), zup_of (by decide), e98]
        rw [q0]
        have f4 : zfr [(24, none), (25, none), (32, none), (34, none), (158, none), (160, none), (102, none), (103, none)] (zup (zup s3 102 (2 * a1 + a2) a3) 103 (2 * a1 + a2) (σ 98 0)) σ :=
          zfr_uA rfl (zfr_uA rfl (zfr_tr (zfr_uA rfl (zfr_uA rfl (zfr_of [32, 34] (fun q hq => by simp only [List.mem_cons, List.not_mem_nil, or_false, not_or] at hq; exact f1 q hq.1 hq.2) rfl))) (zfr_mo rfl f3)))
        have r24 : ∀ j, (zup (zup s3 102 (2 * a1 + a2) a3) 103 (2 * a1 + a2) (σ 98 0)) 24 j = if j = 2 * a1 + a2 then a3 else σ 24 j := fun j => by
          rw [zup_of (by decide), zup_of (by decide), zfr_row f3 rfl, zup_of (by decide), zup_at, f1 _ (by decide) (by decide)]
        have r25 : ∀ j, (zup (zup s3 102 (2 * a1 + a2) a3) 103 (2 * a1 + a2) (σ 98 0)) 25 j = if j = 2 * a1 + a2 then σ 98 0 else σ 25 j := fun j => by
          rw [zup_of (by decide), zup_of (by decide), zfr_row f3 rfl, zup_at, zup_of (by decide), f1 _ (by decide) (by decide)]
        have r102 : ∀ j, (zup (zup s3 102 (2 * a1 + a2) a3) 103 (2 * a1 + a2) (σ 98 0)) 102 j = if j = 2 * a1 + a2 then a3 else σ 102 j := fun j => by
          rw [zup_of (by decide), zup_at, zfr_row f3 rfl, zup_of (by decide), zup_of (by decide), e102]
        have r103 : ∀ j, (zup (zup s3 102 (2 * a1 + a2) a3) 103 (2 * a1 + a2) (σ 98 0)) 103 j = if j = 2 * a1 + a2 then σ 98 0 else σ 103 j := fun j => by
          rw [zup_at, zup_of (by decide), zfr_row f3 rfl, zup_of (by decide), zup_of (by decide), e103]
        have r1 := zfr_at (q := 98) (j := 1) f4 rfl
        have r0 := zfr_at (q := 98) (j := 0) f4 rfl
        apply zinv_fr f4 hi <;> (try (intro h; exact absurd h (by decide)))
        · intro _ l l0 l1
          have h := hl l l0 l1
          rw [r24, r25, r102, r103, r1]
          have := hnow.2
          by_cases e : l = 2 * a1 + a2
          · rw [if_pos e, if_pos e, if_pos e, if_pos e]
            omega
          · rw [if_neg e, if_neg e, if_neg e, if_neg e]
            exact h
        · intro _ l l0 l1
          have h := hlw l l0 l1
          rw [r102, r103, r0]
          by_cases e : l = 2 * a1 + a2
          · rw [if_pos e, if_pos e]
            omega
          · rw [if_neg e, if_neg e]
            exact h
      · apply TX5_canLead_34 <;> (try (intros; omega))
        intro _
        apply TX11_link_51 <;> (try (intros; omega))
        intro _
        refine model _ _ (by rw [zup_ne (by decide), e98]) (by rw [zup_ne (by decide), e102]) (by rw [zup_ne (by decide), e103]) (fun s3 f3 h3 => ?_)
        have h3' : s3 158 a1 ≠ -1 := fun z => hup (h3.mp z)
        apply TX12_link_70 <;> (try (intros; omega))
        intro _
        refine ⟨rfl, ?_⟩
        -- the refusals stand over scratch
        have f5 : zfr zWs s3 (zup s1 97 (- -6) (zW (s1 97 (- -6) + 1))) := zfr_mo rfl f3
        have hno := zno (a := - -6) (b := - -6) hi1 rfl rfl rfl (by decide)
        refine zinv_sc (σ := zup (zup s1 97 (- -6) (zW (s1 97 (- -6) + 1))) 157 (- -6) (zW (s1 157 (- -6) + 1))) ?_ hno
        have e157 : s3 157 (- -6) = s1 157 (- -6) := by rw [zfr_row f5 rfl, zup_of (by decide)]
        rw [e157]
        intro q j a
        unfold zup
        by_cases c : q = 157 ∧ j = - -6
        · rw [if_pos c, if_pos c]
        · rw [if_neg c, if_neg c]
          exact f5 q j a
    · apply TX5_canLead <;> (try (intros; omega))
      intro _
      apply TX11_link_51 <;> (try (intros; omega))
      intros; apply TX12_link <;> (try simp (disch := decide) only [zup_of, zup_oi, zup_same]) <;> (try (intros; omega)) <;> (try (intros; exact ⟨by first | trivial | omega, zno hi (by first | decide | omega) rfl rfl (by first | decide | omega)⟩))
  · apply TX11_link <;> (try (intros; omega))
    all_goals (intros; apply TX12_link <;> (try simp (disch := decide) only [zup_of, zup_oi, zup_same]) <;> (try (intros; omega)) <;> (try (intros; exact ⟨by first | trivial | omega, zno hi (by first | decide | omega) rfl rfl (by first | decide | omega)⟩)))
end LI
