/-! CALLS: copy -/
section CQ
variable {G : zG} {σ : zS}
theorem st_copy {a1 a2 a3 a4 a5 : Int} (hi : zinv σ) : zst2 G MX11_copy [zr 0, zi a1, zi a2, zi a3, zi a4, zi a5] MX12_copy [zr 98, zi a1, zi a2, zi a3, zi a4, zi a5] σ := by
  have hv := g_zshv hi
  refine zO_in (fun hargs _ => ?_)
  have hia : zIn a5 := hargs (zi a5) (by simp)
  unfold zIn at hia
  refine TX11_copy (okX11_rowTrouble hv (fun r hr => TX11_copy_5 (okX11_rowTrouble hv (fun r' hr' => TX11_copy_10 ?_))))
  by_cases hz : r = 0 ∧ r' = 0
  · obtain ⟨rfl, rfl⟩ := hz
    have h : (0 ≤ a1 ∧ a1 < 10) ∧ σ 111 a1 = 1 := by unfold zrt at hr; omega
    have h' : (0 ≤ a2 ∧ a2 < 10) ∧ σ 111 a2 = 1 := by unfold zrt at hr'; omega
    obtain ⟨b1, b2, b3, b4, b5, b6⟩ := zsh_row hv h.1 h.2
    obtain ⟨c1, c2, c3, c4, c5, c6⟩ := zsh_row hv h'.1 h'.2
    apply TX11_firstTrouble <;> (try (intros; omega))
    intro _
    rw [show (0 : Int) + 0 = 0 from rfl]
    apply TX11_copy_13 <;> (try (intros; omega))
    · intro _ h1 h2
      apply TX9_hasStretch (zsh_o h.1.1 h.1.2) (zsh_e h.1.1 h.1.2) <;> (try (intros; omega))
      · intro h3 h4 h5
        apply TX11_copy_83 (zsh_o h.1.1 h.1.2) (zsh_e h.1.1 h.1.2) (zsh_o h'.1.1 h'.1.2) (zsh_e h'.1.1 h'.1.2) <;> (try (intros; omega))
        intro _
        apply TX9_hasStretch (zsh_o h'.1.1 h'.1.2) (zsh_e h'.1.1 h'.1.2) <;> (try (intros; omega))
        · intro h6 h7 h8
          apply TX11_copy_95 (zsh_o h.1.1 h.1.2) (zsh_e h.1.1 h.1.2) (zsh_o h'.1.1 h'.1.2) (zsh_e h'.1.1 h'.1.2) <;> (try (intros; omega))
          intro _
          generalize hs1 : zcp σ (3 + 2 * a1.toNat) a3 (3 + 2 * a2.toNat) a4 a5 = s1
          have f1 : zfr zWh s1 σ := by rw [← hs1]; exact zfr_sc rfl (by omega) zfr_0
          have e111 : s1 111 = σ 111 := zfr_row f1 rfl
          have e112 : s1 112 = σ 112 := zfr_row f1 rfl
          have e113 : s1 113 = σ 113 := zfr_row f1 rfl
          have e115 : s1 115 = σ 115 := zfr_row f1 rfl
          apply TX12_copy <;> (try rw [e111]) <;> (try rw [e112]) <;> (try rw [e113]) <;> (try (intros; omega))
          intros
          have second : ∀ (n : Nat) (i : Int) (s : zS), (a5 - i).toNat = n → 0 ≤ i → i ≤ a5 → zfr [(115, none), (116, none)] s s1 → (∀ c, 0 ≤ c → c < a5 → s 116 c = σ 115 (80 * a1 + a3 + c)) → (∀ c, 0 ≤ c → c < i → s 115 (80 * a2 + a4 + c) = σ 115 (80 * a1 + a3 + c)) → (∀ c, (c < 80 * a2 + a4 ∨ 80 * a2 + a4 + i ≤ c) → s 115 c = σ 115 c) →
              zR G MX12_copy 202 [zr 98, zi a1, zi a2, zi a3, zi a4, zi a5, zi i] [] s (fun r' s' => r' = 1 ∧ zinv s') := by
            intro n
            induction n with
            | zero =>
              intro i s hn i0 i1 hf hd hc ho
              apply TX12_copy_202 <;> (try (intros; omega))
              intro _
              refine ⟨rfl, ?_⟩
              have f2 : zfr [(2, none), (3, none), (4, none), (5, none), (6, none), (7, none), (8, none), (9, none), (10, none), (11, none), (12, none), (13, none), (14, none), (15, none), (16, none), (17, none), (18, none), (19, none), (20, none), (21, none), (115, none), (116, none)] s σ := zfr_tr (zfr_mo rfl f1) (zfr_mo rfl hf)
              apply zinv_fr f2 hi <;> (try (intro h; exact absurd h (by decide)))
              intro _ x x0 x1
              have hx := hv x x0 x1
              have g1 : ∀ q j, 2 ≤ q → q < 22 → s q j = s1 q j := fun q j q0 q1 => by
                refine hf q j (fun ⟨d, a, b, c⟩ => ?_)
                simp only [List.mem_cons, List.not_mem_nil, or_false] at a
                rcases a with a | a <;> subst a <;> dsimp only at b <;> omega
              have g2 : s 111 = σ 111 := zfr_row f2 rfl
              have g3 : s 112 = σ 112 := zfr_row f2 rfl
              have g4 : s 113 = σ 113 := zfr_row f2 rfl
              have g5 : s 114 = σ 114 := zfr_row f2 rfl
              have g6 : s 98 1 = σ 98 1 := zfr_at f2 rfl
              have q2 : ∀ j, s (2 + 2 * x.toNat) j = σ (2 + 2 * x.toNat) j := fun j => by
                rw [g1 _ j (by omega) (by omega), ← hs1]
                unfold zcp
                rw [if_neg (by omega)]
              by_cases e : x = a2
              · subst e
                refine Or.inr (Or.inl ?_)
                rw [g2, g3, g4, q2, q2, q2]
                refine ⟨h'.2, c1, c2, c3, c4, c5, fun j j0 j1 => ?_⟩
                rw [g1 _ j (by omega) (by omega), ← hs1]
                unfold zcp
                by_cases ej : a4 ≤ j ∧ j < a4 + a5
                · rw [if_pos ⟨rfl, ej.1, ej.2⟩, b6 _ (by omega) (by omega)]
                  have := hc (j - a4) (by omega) (by omega)
                  rw [show 80 * x + a4 + (j - a4) = 80 * x + j from by omega] at this
                  rw [this]
                  congr 1
                  omega
                · rw [if_neg (fun z => ej ⟨z.2.1, z.2.2⟩), ho _ (by omega)]
                  exact c6 j j0 j1
              · refine zsh1_fr q2 (fun j _ _ => ?_) (by rw [g2]) (by rw [g3]) (by rw [g4]) (by rw [g5]) (fun i i0 i1 => ho _ (by omega)) g6 hx
                rw [g1 _ j (by omega) (by omega), ← hs1]
                unfold zcp
                rw [if_neg (by omega)]
            | succ n ih =>
              intro i s hn i0 i1 hf hd hc ho
              apply TX12_copy_202 <;> (try (intros; omega))
              intro _
              refine ih (i + 1) _ (by omega) (by omega) (by omega) (zfr_uA rfl hf) (fun c c0 c1 => by rw [zup_of (by decide)]; exact hd c c0 c1) (fun c c0 c1 => ?_) (fun c c0 => ?_)
              · by_cases e : c = i
                · rw [e, zup_same]
                  exact hd i i0 (by omega)
                · rw [zup_oi (by omega)]
                  exact hc c c0 (by omega)
              · rw [zup_oi (by omega)]
                exact ho c (by omega)
          have first : ∀ (n : Nat) (i : Int) (s : zS), (a5 - i).toNat = n → 0 ≤ i → i ≤ a5 → zfr [(116, none)] s s1 → (∀ c, 0 ≤ c → c < i → s 116 c = σ 115 (80 * a1 + a3 + c)) →
              zR G MX12_copy 165 [zr 98, zi a1, zi a2, zi a3, zi a4, zi a5, zi i] [] s (fun r' s' => r' = 1 ∧ zinv s') := by
            intro n
            induction n with
            | zero =>
              intro i s hn i0 i1 hf hd
              apply TX12_copy_165 <;> (try (intros; omega))
              intro _
              have hc : s 115 = σ 115 := by rw [zfr_row hf rfl, e115]
              exact second _ 0 s rfl (by omega) (by omega) (zfr_mo rfl hf) (fun c c0 c1 => hd c c0 (by omega)) (fun c c0 c1 => by omega) (fun c _ => by rw [hc])
            | succ n ih =>
              intro i s hn i0 i1 hf hd
              have hc : s 115 = σ 115 := by rw [zfr_row hf rfl, e115]
              apply TX12_copy_165 <;> (try (intros; omega))
              intro _
              refine ih (i + 1) _ (by omega) (by omega) (by omega) (zfr_uA rfl hf) (fun c c0 c1 => ?_)
              by_cases e : c = i
              · rw [e, zup_same, hc]
              · rw [zup_oi (by omega)]
                exact hd c c0 (by omega)
          exact first _ 0 s1 rfl (by omega) (by omega) zfr_0 (fun c c0 c1 => by omega)
        · intro h6
          apply TX11_copy_95 (zsh_o h.1.1 h.1.2) (zsh_e h.1.1 h.1.2) (zsh_o h'.1.1 h'.1.2) (zsh_e h'.1.1 h'.1.2) <;> (try (intros; omega))
          intros; apply TX12_copy <;> (try simp (disch := decide) only [zup_of, zup_oi, zup_same]) <;> (try (intros; omega)) <;> (try (intros; exact ⟨by first | trivial | omega, zno hi (by first | decide | omega) rfl rfl (by first | decide | omega)⟩))
      · intro h3
        apply TX11_copy_83 (zsh_o h.1.1 h.1.2) (zsh_e h.1.1 h.1.2) (zsh_o h'.1.1 h'.1.2) (zsh_e h'.1.1 h'.1.2) <;> (try (intros; omega))
        intros; apply TX12_copy <;> (try simp (disch := decide) only [zup_of, zup_oi, zup_same]) <;> (try (intros; omega)) <;> (try (intros; exact ⟨by first | trivial | omega, zno hi (by first | decide | omega) rfl rfl (by first | decide | omega)⟩))
    all_goals (intros; apply TX12_copy <;> (try simp (disch := decide) only [zup_of, zup_oi, zup_same]) <;> (try (intros; omega)) <;> (try (intros; exact ⟨by first | trivial | omega, zno hi (by first | decide | omega) rfl rfl (by first | decide | omega)⟩)))
  · have key : ∀ x : Int, x ≠ 0 → (-7 ≤ x ∧ x < 0) → ((r = 0 ∧ x = r') ∨ (r' = 0 ∧ x = r) ∨ (r ≠ 0 ∧ r' ≠ 0 ∧ x = max r r')) → zR G MX11_copy 13 [zr 0, zi a1, zi a2, zi a3, zi a4, zi a5, zu, zu, zu] [zi x] σ (fun r s => zO G MX12_copy [zr 98, zi a1, zi a2, zi a3, zi a4, zi a5] s (fun r' s' => r' = r ∧ zinv s')) := by
      intro x hx hx2 hx3
      unfold zrt at hr hr'
      apply TX11_copy_13 <;> (try (intros; omega))
      intro _
      apply TX12_copy <;> (try simp (disch := decide) only [zup_of, zup_oi, zup_same]) <;> (try (intros; omega)) <;> (try (intros; exact ⟨by omega, zno hi (by omega) rfl rfl (by omega)⟩))
    have b1 : -3 ≤ r ∧ r ≤ 0 := by unfold zrt at hr; omega
    have b2 : -3 ≤ r' ∧ r' ≤ 0 := by unfold zrt at hr'; omega
    apply TX11_firstTrouble <;> (try (intros; omega))
    · intro h1 h2
      exact key _ (by omega) (by omega) (by omega)
    · intro h1
      exact key _ (by omega) (by omega) (by omega)
end CQ
