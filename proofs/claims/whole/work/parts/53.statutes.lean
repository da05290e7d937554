/-! CALLS: statutes, amendments -/
theorem zfr_1 {s σ : zS} {a : Nat} (h : ∀ q, q ≠ a → s q = σ q) : zfr [(a, none)] s σ := zfr_of [a] (fun q hq => h q (by simpa using hq)) (by simp [zsb])
section SU
variable {G : zG} {σ : zS}
theorem zsh_ne {s : Int} (h : 0 ≤ s ∧ s < 10) {q : Nat} (hq : 22 ≤ q) : q ≠ 2 + 2 * s.toNat ∧ q ≠ 3 + 2 * s.toNat := by omega
theorem st_statute {a1 a2 : Int} (hi : zinv σ) : zst2 G MX11_statute [zr 0, zi a1, zi a2] MX12_statute [zr 98, zi a1, zi a2] σ := by
  have hv := g_zshv hi
  by_cases hw : 0 ≤ a1 ∧ a1 < 4
  · have hwt := g_zwto hi a1 hw.1 hw.2
    apply TX11_statute <;> (try (intros; omega))
    intro _
    refine okX11_rowTrouble hv (fun r hr => ?_)
    by_cases hz : r = 0
    · subst hz
      have h : (0 ≤ a2 ∧ a2 < 10) ∧ σ 111 a2 = 1 := by unfold zrt at hr; omega
      obtain ⟨b1, b2, b3, b4, b5, b6⟩ := zsh_row hv h.1 h.2
      by_cases hok : σ 37 a1 = 0 ∧ σ 113 a2 ≠ 0
      · apply TX11_statute_12 <;> (try (intros; omega))
        intro _ _ _
        apply TX10_tellFirst (zsh_o h.1.1 h.1.2) (zsh_e h.1.1 h.1.2) <;> (try (intros; omega))
        refine okX9_copyLetters (zsh_o h.1.1 h.1.2) (zsh_e h.1.1 h.1.2) rfl (by omega) (by omega) b4 b5 (by omega) (fun s1 f1 r1 => ?_)
        have f1' : zfr [(36, none)] s1 σ := zfr_1 f1
        have es : (zup s1 37 a1 (σ 113 a2)) (2 + 2 * a2.toNat) 2 = σ 113 a2 := by
          rw [zup_of (by omega), f1 _ (by omega)]; exact b4
        apply TX10_tellFirst_17 (zsh_o h.1.1 h.1.2) (zsh_e h.1.1 h.1.2) <;> (try rw [es]) <;> (try (intros; omega))
        refine TX11_statute_72 ?_
        have f2 : zfr [(36, none), (37, none)] (zup s1 37 a1 (σ 113 a2)) σ := zfr_uA rfl (zfr_mo rfl f1')
        have hi2v : zshv (zup s1 37 a1 (σ 113 a2)) := zshv_ke (zfr_sm f2 rfl) hv
        generalize hs2 : zup s1 37 a1 (σ 113 a2) = s2 at f2 hi2v
        have e161 : s2 161 = σ 161 := zfr_row f2 rfl
        have e113 : s2 113 = σ 113 := zfr_row f2 rfl
        have e111 : s2 111 = σ 111 := zfr_row f2 rfl
        have e115 : s2 115 = σ 115 := zfr_row f2 rfl
        apply TX12_statute <;> (try (intros; omega))
        intro _
        refine okX12_wants hi2v (fun r' hr' => ?_)
        have hr0 : r' = 0 := by unfold zrt at hr'; rw [e111] at hr'; omega
        subst hr0
        apply TX12_statute_18 <;> (try rw [e161]) <;> (try rw [e113]) <;> (try (intros; omega))
        intro _ _ _
        have loop : ∀ (m : Nat) (i : Int) (s : zS), (σ 113 a2 - i).toNat = m → 0 ≤ i → i ≤ σ 113 a2 → zfr [(117, none)] s (zup (zup s2 161 a1 1) 118 a1 (σ 113 a2)) → (∀ j, s 117 j = if 80 * a1 ≤ j ∧ j < 80 * a1 + i then zW (σ 115 (80 * a2 + (j - 80 * a1))) else σ 117 j) →
            zR G MX12_statute 76 [zr 98, zi a1, zi a2, zi 0, zi i] [] s (fun r' s' => r' = σ 113 a2 ∧ zinv s') := by
          intro m
          induction m with
          | zero =>
            intro i s hm i0 i1 hf hr
            have es : s 113 a2 = σ 113 a2 := by rw [zfr_row hf rfl, zup_of (by decide), zup_of (by decide), e113]
            have hie : i = σ 113 a2 := by omega
            apply TX12_statute_76 <;> (try rw [es]) <;> (try (intros; omega))
            intro _
            refine ⟨rfl, ?_⟩
            have f3 : zfr [(36, none), (37, none), (161, none), (118, none), (117, none)] s σ := zfr_tr (zfr_uA rfl (zfr_uA rfl (zfr_mo rfl f2))) (zfr_mo rfl hf)
            have q36 : ∀ j, s 36 j = if 80 * a1 ≤ j ∧ j < 80 * a1 + σ 113 a2 then zW (σ (3 + 2 * a2.toNat) (j - 80 * a1)) else σ 36 j := fun j => by
              rw [zfr_row hf rfl, zup_of (by decide), zup_of (by decide), ← hs2, zup_of (by decide)]
              exact r1 j
            have q37 : ∀ j, s 37 j = if j = a1 then σ 113 a2 else σ 37 j := fun j => by
              rw [zfr_row hf rfl, zup_of (by decide), zup_of (by decide), ← hs2, zup_at, f1 _ (by decide)]
            have q118 : ∀ j, s 118 j = if j = a1 then σ 113 a2 else σ 118 j := fun j => by
              rw [zfr_row hf rfl, zup_at, zup_of (by decide), zfr_row f2 rfl]
            have q161 : ∀ j, s 161 j = if j = a1 then 1 else σ 161 j := fun j => by
              rw [zfr_row hf rfl, zup_of (by decide), zup_at, e161]
            rw [hie] at hr
            apply zinv_fr f3 hi <;> (try (intro h; exact absurd h (by decide)))
            · intro _
              obtain ⟨m0, m1, m2⟩ := g_zamo hi
              unfold zamo
              rw [zfr_at (q := 98) (j := 3) f3 rfl, zfr_row (q := 119) f3 rfl, zfr_row (q := 120) f3 rfl, zfr_row (q := 122) f3 rfl, zfr_row (q := 123) f3 rfl]
              refine ⟨m0, fun w w0 w1 => ?_, m2⟩
              rw [q118]
              split
              · omega
              · exact m1 w w0 w1
            · intro _
              obtain ⟨c0, c1, c2⟩ := g_zamC hi
              unfold zamC
              rw [zfr_at (q := 35) (j := 11) f3 rfl, zfr_at (q := 98) (j := 3) f3 rfl, zfr_row (q := 38) f3 rfl, zfr_row (q := 39) f3 rfl, zfr_row (q := 40) f3 rfl, zfr_row (q := 42) f3 rfl, zfr_row (q := 44) f3 rfl, zfr_row (q := 41) f3 rfl, zfr_row (q := 43) f3 rfl,
                zfr_row (q := 119) f3 rfl, zfr_row (q := 120) f3 rfl, zfr_row (q := 121) f3 rfl, zfr_row (q := 122) f3 rfl, zfr_row (q := 123) f3 rfl, zfr_row (q := 124) f3 rfl, zfr_row (q := 125) f3 rfl]
              refine ⟨c0, fun w w0 w1 => ?_, c2⟩
              have m1 := (g_zamo hi).2.1 w w0 w1
              by_cases e : w = a1
              · subst e
                right
                rw [q37, q118, if_pos rfl, if_pos rfl]
                refine ⟨rfl, fun i i0 i1 => ?_⟩
                rw [q36, hr, if_pos (by omega), if_pos (by omega), b6 _ (by omega) (by omega)]
              · rw [q37, q118, if_neg e, if_neg e]
                rcases c1 w w0 w1 with ⟨x1, x2, x3⟩ | ⟨x1, x2⟩
                · left
                  refine ⟨x1, x2, ?_⟩
                  rw [hr, if_neg (by omega)]
                  exact x3
                · right
                  refine ⟨x1, fun i i0 i1 => ?_⟩
                  rw [q36, hr, if_neg (by omega), if_neg (by omega)]
                  exact x2 i i0 i1
            · intro _ w w0 w1
              have := g_zwto hi w w0 w1
              rw [q37, q161]
              by_cases e : w = a1
              · rw [if_pos e, if_pos e]
                omega
              · rw [if_neg e, if_neg e]
                exact this
          | succ m ih =>
            intro i s hm i0 i1 hf hr
            have es : s 113 a2 = σ 113 a2 := by rw [zfr_row hf rfl, zup_of (by decide), zup_of (by decide), e113]
            have ec : s 115 = σ 115 := by rw [zfr_row hf rfl, zup_ne (by decide), zup_ne (by decide), e115]
            apply TX12_statute_76 <;> (try rw [es]) <;> (try (intros; omega))
            intro _
            rw [ec]
            refine ih (i + 1) _ (by omega) (by omega) (by omega) (zfr_uA rfl hf) (fun j => ?_)
            rw [zup_at, hr j]
            by_cases c : j = 80 * a1 + i
            · rw [if_pos c, if_pos (by omega), show j - 80 * a1 = i from by omega]
            · rw [if_neg c]
              by_cases d : 80 * a1 ≤ j ∧ j < 80 * a1 + i
              · rw [if_pos d, if_pos (by omega)]
              · rw [if_neg d, if_neg (by omega)]
        refine loop _ 0 _ rfl (by omega) (by omega) zfr_0 (fun j => ?_)
        rw [if_neg (by omega), zup_of (by decide), zup_of (by decide), zfr_row f2 rfl]
      · apply TX11_statute_12 <;> (try (intros; omega))
        intro _ _
        generalize hs1 : zup σ 97 (- -6) (zW (σ 97 (- -6) + 1)) = s1
        have f1 : zfr [(97, none)] s1 σ := by rw [← hs1]; exact zfr_uA rfl zfr_0
        apply TX12_statute <;> (try (intros; omega))
        intro _
        refine okX12_wants (zshv_ke (zfr_sm f1 rfl) hv) (fun r' hr' => ?_)
        have hr0 : r' = 0 := by unfold zrt at hr'; rw [zfr_row (q := 111) f1 rfl] at hr'; omega
        subst hr0
        apply TX12_statute_18 <;> (try rw [zfr_row (q := 161) f1 rfl]) <;> (try rw [zfr_row (q := 113) f1 rfl]) <;> (try (intros; omega))
        intro _ _
        refine ⟨rfl, ?_⟩
        rw [← hs1]
        exact zno hi rfl rfl rfl (by decide)
    · have hrb : -3 ≤ r ∧ r < 0 := by unfold zrt at hr; omega
      apply TX11_statute_12 <;> (try (intros; omega))
      intro _
      generalize hs1 : zup σ 97 (-r) (zW (σ 97 (-r) + 1)) = s1
      have f1 : zfr [(97, none)] s1 σ := by rw [← hs1]; exact zfr_uA rfl zfr_0
      apply TX12_statute <;> (try (intros; omega))
      intro _
      refine okX12_wants (zshv_ke (zfr_sm f1 rfl) hv) (fun r' hr' => ?_)
      have hr0 : r' = r := by unfold zrt at hr' hr; rw [zfr_row (q := 111) f1 rfl] at hr'; omega
      subst hr0
      apply TX12_statute_18 <;> (try (intros; omega))
      intro _
      refine ⟨rfl, ?_⟩
      rw [← hs1]
      exact zno hi rfl rfl rfl (by omega)
  · apply TX11_statute <;> (try (intros; omega))
    intros; apply TX12_statute <;> (try simp (disch := decide) only [zup_of, zup_oi, zup_same]) <;> (try (intros; omega)) <;> (try (intros; exact ⟨by first | trivial | omega, zno hi (by first | decide | omega) rfl rfl (by first | decide | omega)⟩))
end SU
