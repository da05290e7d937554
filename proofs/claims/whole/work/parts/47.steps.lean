/-! CALLS, both sides: helpers -/
/-- a call of the class, then of the model: alike, and the invariant keeps -/
abbrev zst2 (G : zG) (C : zM) (ac : List zV) (D : zM) (am : List zV) (σ : zS) : Prop := zO G C ac σ (fun r s => zO G D am s (fun r' s' => r' = r ∧ zinv s'))
/-- scratch places -/
abbrev zWs : zPl := [(22, some 15), (22, some 16), (32, none), (33, none), (34, none), (35, some 12), (35, some 13), (46, none), (47, some 6), (47, some 7), (47, some 8), (47, some 9), (47, some 10), (47, some 11), (47, some 12), (47, some 13), (48, none), (49, none), (50, none), (51, none), (58, none), (67, none), (83, some 10), (83, some 11), (83, some 12), (86, none), (87, none), (88, none), (89, none), (96, none),
  (116, none), (126, none), (127, none), (128, none), (158, none), (159, none), (160, none), (162, none), (163, none), (164, none), (165, none), (166, none), (167, none), (172, none), (173, none), (175, none), (176, none), (177, none), (178, none), (98, some 43), (98, some 84), (98, some 85), (98, some 86), (98, some 87), (98, some 88), (98, some 104), (98, some 105)]
theorem zinv_sc {s σ : zS} (hf : zfr zWs s σ) (hi : zinv σ) : zinv s := by
  apply zinv_fr hf hi <;> (intro h; exact absurd h (by decide))
theorem zno {σ : zS} {a b v w : Int} (hi : zinv σ) (e : a = b) (hv : v = zW (σ 97 a + 1)) (hw : w = zW (σ 157 b + 1)) (h : 0 ≤ a ∧ a < 8) : zinv (zup (zup σ 97 a v) 157 b w) := by
  apply zinv_fr (W := [(97, none), (157, none)]) (zfr_uA rfl (zfr_uA rfl zfr_0)) hi <;> (try (intro h; exact absurd h (by decide)))
  intro _ j j0 j1
  have hr := g_zref hi j j0 j1
  rw [zup_of (by decide), zup_at, zup_at, zup_of (by decide), ← e]
  by_cases c : j = a
  · subst c
    rw [if_pos rfl, if_pos rfl, hv, hw, ← e, hr]
  · rw [if_neg c, if_neg c, hr]
theorem zor_at {x w j : Int} (w0 : 0 ≤ w ∧ w < 32) (j0 : 0 ≤ j ∧ j < 32) : zbit (zor x (zshl 1 w)) j ↔ zbit x j ∨ j = w := by
  rw [zb_or, zb_shl w0.1 w0.2 j0.1 j0.2]
section SA
variable {G : zG} {σ : zS}
theorem st_person {a1 : Int} (hi : zinv σ) : zst2 G MX11_person [zr 0, zi a1] MX12_person [zr 98, zi a1] σ := by
  have hp := g_zppl hi
  have hn := hp.1
  have hc := hp.2.1
  apply TX11_person <;> (try (intros; omega))
  · intro h1 h2
    apply TX12_person <;> (try simp (disch := decide) only [zup_of, zup_oi, zup_same]) <;> (try (intros; omega))
    intro _ _ _
    refine ⟨hc.symm, ?_⟩
    apply zinv_fr (W := [(23, none), (22, some 12), (99, none), (98, some 1)]) (zfr_uF rfl (zfr_uA rfl (zfr_uF rfl (zfr_uA rfl zfr_0)))) hi <;> (try (intro h; exact absurd h (by decide)))
    · intro _
      unfold zppl
      ((try simp (disch := decide) only [zup_of, zup_oi, zup_same]) <;> (try simp only [zup_at]) <;> (try simp (disch := decide) only [zup_of, zup_oi, zup_same]) <;> (try simp only [zup_at]) <;> (try simp (disch := decide) only [zup_of, zup_oi, zup_same]) <;> (try simp only [zup_at]) <;> (try simp (disch := decide) only [zup_of, zup_oi, zup_same]))
      refine ⟨by omega, by omega, fun w w0 w1 => ?_⟩
      by_cases e : w = σ 98 1
      · rw [if_pos (by omega), if_pos e]
        omega
      · rw [if_neg (by omega), if_neg e]
        exact hp.2.2 w w0 (by omega)
    · intro _ l l0 l1
      have := g_zlnk hi l l0 l1
      ((try simp (disch := decide) only [zup_of, zup_oi, zup_same]) <;> (try simp only [zup_at]) <;> (try simp (disch := decide) only [zup_of, zup_oi, zup_same]) <;> (try simp only [zup_at]) <;> (try simp (disch := decide) only [zup_of, zup_oi, zup_same]) <;> (try simp only [zup_at]) <;> (try simp (disch := decide) only [zup_of, zup_oi, zup_same]))
      omega
    · intro _
      have hf := g_zfnd hi
      unfold zfnd
      ((try simp (disch := decide) only [zup_of, zup_oi, zup_same]) <;> (try simp only [zup_at]) <;> (try simp (disch := decide) only [zup_of, zup_oi, zup_same]) <;> (try simp only [zup_at]) <;> (try simp (disch := decide) only [zup_of, zup_oi, zup_same]) <;> (try simp only [zup_at]) <;> (try simp (disch := decide) only [zup_of, zup_oi, zup_same]))
      refine ⟨fun w w0 w1 => ?_, fun w w0 w1 => ?_⟩
      · rw [hf.1 w w0 w1]
        by_cases e : w = σ 98 1
        · have := hf.2 w w0 (by omega)
          omega
        · omega
      · have := hf.2 w w0 w1
        omega
    · intro _ s s0 s1
      have h := g_zshv hi s s0 s1
      unfold zsh1 at h ⊢
      have e1 : ∀ q j : Int, zup (zup (zup (zup σ 23 (σ 22 12) a1) 22 12 (σ 22 12 + 1)) 99 (σ 98 1) a1) 98 1 (σ 98 1 + 1) (2 + 2 * s.toNat) j = σ (2 + 2 * s.toNat) j := fun q j => by
        rw [zup_of (by omega), zup_of (by omega), zup_of (by omega), zup_of (by omega)]
      have e2 : ∀ q j : Int, zup (zup (zup (zup σ 23 (σ 22 12) a1) 22 12 (σ 22 12 + 1)) 99 (σ 98 1) a1) 98 1 (σ 98 1 + 1) (3 + 2 * s.toNat) j = σ (3 + 2 * s.toNat) j := fun q j => by
        rw [zup_of (by omega), zup_of (by omega), zup_of (by omega), zup_of (by omega)]
      simp only [e1 0, e2 0]
      ((try simp (disch := decide) only [zup_of, zup_oi, zup_same]) <;> (try simp only [zup_at]) <;> (try simp (disch := decide) only [zup_of, zup_oi, zup_same]) <;> (try simp only [zup_at]) <;> (try simp (disch := decide) only [zup_of, zup_oi, zup_same]) <;> (try simp only [zup_at]) <;> (try simp (disch := decide) only [zup_of, zup_oi, zup_same]))
      rcases h with h | h | ⟨h1, h2, h3, h4, h5⟩
      · exact Or.inl h
      · exact Or.inr (Or.inl h)
      · exact Or.inr (Or.inr ⟨h1, h2, h3, h4, by omega⟩)
    · intro _
      have h := g_zplc hi
      unfold zplc at h ⊢
      ((try simp (disch := decide) only [zup_of, zup_oi, zup_same]) <;> (try simp only [zup_at]) <;> (try simp (disch := decide) only [zup_of, zup_oi, zup_same]) <;> (try simp only [zup_at]) <;> (try simp (disch := decide) only [zup_of, zup_oi, zup_same]) <;> (try simp only [zup_at]) <;> (try simp (disch := decide) only [zup_of, zup_oi, zup_same]))
      refine ⟨h.1, fun p p0 p1 => ?_⟩
      have := h.2 p p0 p1
      omega
    · intro _
      have h := g_zelc hi
      unfold zelc zvts zcst zcs1 at h ⊢
      simp (disch := decide) only [zup_of, zup_oi, zup_same]
      rcases h with h | ⟨h1, ⟨h2, h3, h4⟩, h5⟩
      · exact Or.inl h
      · exact Or.inr ⟨h1, ⟨h2, h3, fun w a b c => by have := h4 w a b c; omega⟩, h5⟩
    · intro _
      have h := g_zlse hi
      unfold zlse zls1 zlsC zlif at h ⊢
      simp (disch := decide) only [zup_of, zup_oi, zup_same]
      refine ⟨h.1, fun l l0 l1 => ?_, h.2.2⟩
      obtain ⟨x1, x2, x3, x4, x5⟩ := h.2.1 l l0 l1
      refine ⟨x1, x2, x3, fun hz => ?_, fun w a b c => by have := x5 w a b c; omega⟩
      obtain ⟨w, y1, y2⟩ := x4 hz
      exact ⟨w, by omega, y2⟩
    · intro _
      have h := g_zrms hi
      unfold zrms at h ⊢
      simp (disch := decide) only [zup_of, zup_oi, zup_same]
      refine ⟨h.1, fun w w0 w1 => ?_, h.2.2⟩
      have := h.2.1 w w0 w1
      exact ⟨this.1, this.2.1, fun z => this.2.2 (by omega)⟩
  all_goals (intros; apply TX12_person <;> (try simp (disch := decide) only [zup_of, zup_oi, zup_same]) <;> (try (intros; omega)) <;> (try (intros; exact ⟨by first | trivial | omega, zno hi (by first | decide | omega) rfl rfl (by first | decide | omega)⟩)))
theorem st_founder {a1 : Int} (hi : zinv σ) : zst2 G MX11_founder [zr 0, zi a1] MX12_founder [zr 98, zi a1] σ := by
  have hp := g_zppl hi
  have hn := hp.1
  have hc := hp.2.1
  have hf := g_zfnd hi
  have wf : zst2 G MX11_founder [zr 0, zi a1] MX12_founder [zr 98, zi a1] σ = zO G MX11_founder [zr 0, zi a1] σ (fun r s => zO G MX12_founder [zr 98, zi a1] s (fun r' s' => r' = r ∧ zinv s')) := rfl
  refine zO_in (fun _ hwf => ?_)
  have hin : zIn (σ 22 13) := hwf 22 13
  have same : 0 ≤ a1 → a1 < σ 98 1 → (zor (σ 22 13) (zshl 1 a1) = σ 22 13 ↔ σ 104 a1 ≠ 0) := by
    intro a0 a2
    have h1 := hf.1 a1 a0 (by omega)
    constructor
    · intro e
      have h2 := zor_at (x := σ 22 13) (w := a1) (j := a1) ⟨a0, by omega⟩ ⟨a0, by omega⟩
      rw [e] at h2
      exact (h1.mp (h2.mpr (Or.inr rfl))).2
    · intro e
      refine zb_ext (zIn_of _) hin (fun j j0 j1 => ?_)
      rw [zor_at ⟨a0, by omega⟩ ⟨j0, j1⟩]
      constructor
      · rintro (z | z)
        · exact z
        · rw [z]; exact h1.mpr ⟨a2, e⟩
      · exact Or.inl
  apply TX11_founder <;> (try (intros; omega))
  · intro h1 h2
    have hs := same h1.1 (by omega)
    apply TX12_founder <;> (try simp (disch := decide) only [zup_of, zup_oi, zup_same]) <;> (try (intros; omega))
    intro _ h0
    refine ⟨by trivial, ?_⟩
    apply zinv_fr (W := [(22, some 13), (104, none)]) (zfr_uA rfl (zfr_uF rfl zfr_0)) hi <;> (try (intro h; exact absurd h (by decide)))
    intro _
    unfold zfnd
    ((try simp (disch := decide) only [zup_of, zup_oi, zup_same]) <;> (try simp only [zup_at]) <;> (try simp (disch := decide) only [zup_of, zup_oi, zup_same]) <;> (try simp only [zup_at]) <;> (try simp (disch := decide) only [zup_of, zup_oi, zup_same]) <;> (try simp only [zup_at]) <;> (try simp (disch := decide) only [zup_of, zup_oi, zup_same]))
    refine ⟨fun w w0 w1 => ?_, fun w w0 w1 => ?_⟩
    · have := hf.1 w w0 w1
      rw [zor_at ⟨h1.1, by omega⟩ ⟨w0, w1⟩]
      by_cases e : w = a1
      · rw [if_pos e]
        simp only [e, or_true, true_iff]
        omega
      · rw [if_neg e, ← this]
        simp only [e, or_false]
    · have := hf.2 w w0 w1
      by_cases e : w = a1
      · rw [if_pos e]; omega
      · rw [if_neg e]; exact this
  · intro h1 h2
    have hs := (same h1.1 (by omega)).mp h2
    apply TX12_founder <;> (try simp (disch := decide) only [zup_of, zup_oi, zup_same]) <;> (try (intros; omega))
    intro _ h0
    refine ⟨by trivial, ?_⟩
    rw [h2]
    have e : zup σ 22 13 (σ 22 13) = σ := by
      funext q j
      unfold zup
      split
      · rename_i h; rw [h.1, h.2]
      · rfl
    rw [e]
    exact hi
  all_goals (intros; apply TX12_founder <;> (try simp (disch := decide) only [zup_of, zup_oi, zup_same]) <;> (try (intros; omega)) <;> (try (intros; exact ⟨by first | trivial | omega, zno hi (by first | decide | omega) rfl rfl (by first | decide | omega)⟩)))
theorem st_fact {a1 a2 a3 a4 : Int} (hi : zinv σ) : zst2 G MX11_fact [zr 0, zi a1, zi a2, zi a3, zi a4] MX12_fact [zr 98, zi a1, zi a2, zi a3, zi a4] σ := by
  have hp := g_zppl hi
  have hn := hp.1
  have hc := hp.2.1
  have hf := g_zfct hi
  have hff := hf.1
  have hfe := hf.2.1
  have hnow := g_zcnow hi
  apply TX11_fact <;> (try (intros; omega))
  · intro h1 h2 h3 h4 h5
    apply TX12_fact <;> (try simp (disch := decide) only [zup_of, zup_oi, zup_same]) <;> (try (intros; omega))
    intros
    refine ⟨by omega, ?_⟩
    apply zinv_fr (W := [(28, none), (29, none), (30, none), (31, none), (22, some 14), (106, none), (107, none), (108, none), (109, none), (110, none), (98, some 2)]) (zfr_uF rfl (zfr_uA rfl (zfr_uA rfl (zfr_uA rfl (zfr_uA rfl (zfr_uA rfl (zfr_uF rfl (zfr_uA rfl (zfr_uA rfl (zfr_uA rfl (zfr_uA rfl zfr_0))))))))))) hi <;> (try (intro h; exact absurd h (by decide)))
    intro _
    unfold zfct
    ((try simp (disch := decide) only [zup_of, zup_oi, zup_same]) <;> (try simp only [zup_at]) <;> (try simp (disch := decide) only [zup_of, zup_oi, zup_same]) <;> (try simp only [zup_at]) <;> (try simp (disch := decide) only [zup_of, zup_oi, zup_same]) <;> (try simp only [zup_at]) <;> (try simp (disch := decide) only [zup_of, zup_oi, zup_same]))
    refine ⟨by omega, by omega, fun f f0 f1 => ?_⟩
    by_cases e : f = σ 98 2
    · rw [hfe]
      simp only [if_pos e, true_and, and_true]
      have := hnow.1
      omega
    · rw [hfe]
      simp only [if_neg e]
      exact hf.2.2 f f0 (by omega)
  all_goals (intros; apply TX12_fact <;> (try simp (disch := decide) only [zup_of, zup_oi, zup_same]) <;> (try (intros; omega)) <;> (try (intros; exact ⟨by first | trivial | omega, zno hi (by first | decide | omega) rfl rfl (by first | decide | omega)⟩)))
theorem st_death {a1 a2 : Int} (hi : zinv σ) : zst2 G MX11_death [zr 0, zi a1, zi a2] MX12_death [zr 98, zi a1, zi a2] σ := by
  have hp := g_zppl hi
  have hn := hp.1
  have hc := hp.2.1
  have hd := g_zdth hi
  have hnow := g_zcnow hi
  by_cases hw : 0 ≤ a1 ∧ a1 < σ 98 1
  · have hb := hp.2.2 a1 hw.1 hw.2
    have hd1 := hd a1 hw.1 (by omega)
    unfold zcnow at hnow
    apply TX11_death <;> (try (intros; omega))
    · intro h1 h2 h3 h4
      apply TX12_death <;> (try simp (disch := decide) only [zup_of, zup_oi, zup_same]) <;> (try (intros; omega))
      intros
      refine ⟨by trivial, ?_⟩
      apply zinv_fr (W := [(26, none), (27, none), (105, none), (100, none), (101, none)]) (zfr_uA rfl (zfr_uA rfl (zfr_uA rfl (zfr_uA rfl (zfr_uA rfl zfr_0))))) hi <;> (try (intro h; exact absurd h (by decide)))
      intro _ w w0 w1
      have := hd w w0 w1
      ((try simp (disch := decide) only [zup_of, zup_oi, zup_same]) <;> (try simp only [zup_at]) <;> (try simp (disch := decide) only [zup_of, zup_oi, zup_same]) <;> (try simp only [zup_at]) <;> (try simp (disch := decide) only [zup_of, zup_oi, zup_same]) <;> (try simp only [zup_at]) <;> (try simp (disch := decide) only [zup_of, zup_oi, zup_same]))
      by_cases e : w = a1
      · simp only [if_pos e, true_and, and_true]
        omega
      · simp only [if_neg e]
        exact this
    all_goals (intros; apply TX12_death <;> (try simp (disch := decide) only [zup_of, zup_oi, zup_same]) <;> (try (intros; omega)) <;> (try (intros; exact ⟨by first | trivial | omega, zno hi (by first | decide | omega) rfl rfl (by first | decide | omega)⟩)))
  · apply TX11_death <;> (try (intros; omega))
    all_goals (intros; apply TX12_death <;> (try simp (disch := decide) only [zup_of, zup_oi, zup_same]) <;> (try (intros; omega)) <;> (try (intros; exact ⟨by first | trivial | omega, zno hi (by first | decide | omega) rfl rfl (by first | decide | omega)⟩)))
end SA
