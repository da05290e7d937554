/-! CALLS: shelves -/
abbrev zWh : zPl := [(2, none), (3, none), (4, none), (5, none), (6, none), (7, none), (8, none), (9, none), (10, none), (11, none), (12, none), (13, none), (14, none), (15, none), (16, none), (17, none), (18, none), (19, none), (20, none), (21, none)]
theorem zWh_at {q : Nat} {j : Int} (h : 2 ≤ q ∧ q < 22) : zat zWh q j := by
  refine ⟨(q, none), ?_, rfl, Or.inl rfl⟩
  have : q = 2 ∨ q = 3 ∨ q = 4 ∨ q = 5 ∨ q = 6 ∨ q = 7 ∨ q = 8 ∨ q = 9 ∨ q = 10 ∨ q = 11 ∨ q = 12 ∨ q = 13 ∨ q = 14 ∨ q = 15 ∨ q = 16 ∨ q = 17 ∨ q = 18 ∨ q = 19 ∨ q = 20 ∨ q = 21 := by omega
  rcases this with e | e | e | e | e | e | e | e | e | e | e | e | e | e | e | e | e | e | e | e <;> subst e <;> simp
theorem zfr_s0 {W : zPl} {s σ : zS} {q : Nat} {j v : Int} (hs : zsb zWh W = true) (hq : 2 ≤ q ∧ q < 22) (h : zfr W s σ) : zfr W (zup s q j v) σ := by
  intro a b c
  rw [← h a b c]
  unfold zup
  rw [if_neg]
  rintro ⟨rfl, _⟩
  exact c (zsb_at hs (zWh_at hq))
theorem zfr_sl {W : zPl} {s σ : zS} {q : Nat} {n v : Int} (hs : zsb zWh W = true) (hq : 2 ≤ q ∧ q < 22) (h : zfr W s σ) : zfr W (zfl s q n v) σ := by
  intro a b c
  rw [← h a b c]
  unfold zfl
  rw [if_neg]
  rintro ⟨rfl, _⟩
  exact c (zsb_at hs (zWh_at hq))
theorem zfr_sc {W : zPl} {s σ : zS} {a q : Nat} {i j n : Int} (hs : zsb zWh W = true) (hq : 2 ≤ q ∧ q < 22) (h : zfr W s σ) : zfr W (zcp s a i q j n) σ := by
  intro x b c
  rw [← h x b c]
  unfold zcp
  rw [if_neg]
  rintro ⟨rfl, _⟩
  exact c (zsb_at hs (zWh_at hq))
/-- why a shelf is no row: 0, it is one -/
def zrt (σ : zS) (s r : Int) : Prop := (r = -1 ∧ ¬ (0 ≤ s ∧ s < 10)) ∨ ((0 ≤ s ∧ s < 10) ∧ ((r = -2 ∧ σ 111 s = 2) ∨ (r = -3 ∧ σ 111 s = 0) ∨ (r = 0 ∧ σ 111 s = 1)))
theorem zrt_one {σ : zS} {s r r' : Int} (h : zrt σ s r) (h' : zrt σ s r') : r = r' := by
  unfold zrt at h h'
  omega
section SH
variable {G : zG} {σ : zS}
theorem okX11_rowTrouble {s : Int} {Q : Int → zS → Prop} (hv : zshv σ) (kq : ∀ r, zrt σ s r → Q r σ) : zO G MX11_rowTrouble [zr 0, zi s] σ Q := by
  unfold zrt at kq
  by_cases h : 0 ≤ s ∧ s < 10
  · have hz := hv s h.1 h.2
    unfold zsh1 at hz
    apply TX11_rowTrouble <;> (try (intros; omega))
    · intro _ h1 h2
      refine kq 0 (Or.inr ⟨h, Or.inr (Or.inr ⟨rfl, ?_⟩)⟩)
      rcases hz with hz | hz | hz <;> omega
    · intro _ h1 h2
      refine kq (-3) (Or.inr ⟨h, Or.inr (Or.inl ⟨rfl, ?_⟩)⟩)
      rcases hz with hz | hz | hz <;> omega
    · intro _ h1
      refine kq (-2) (Or.inr ⟨h, Or.inl ⟨rfl, ?_⟩⟩)
      rcases hz with hz | hz | hz <;> omega
  · apply TX11_rowTrouble <;> (try (intros; omega))
    intro _
    exact kq (-1) (Or.inl ⟨rfl, h⟩)
theorem okX12_wants {s : Int} {Q : Int → zS → Prop} (hv : zshv σ) (kq : ∀ r, zrt σ s r → Q r σ) : zO G MX12_wants [zr 98, zi s] σ Q := by
  unfold zrt at kq
  by_cases h : 0 ≤ s ∧ s < 10
  · have hz := hv s h.1 h.2
    unfold zsh1 at hz
    apply TX12_wants <;> (try (intros; omega))
    · intro _ h1 h2
      refine kq 0 (Or.inr ⟨h, Or.inr (Or.inr ⟨rfl, ?_⟩)⟩)
      rcases hz with hz | hz | hz <;> omega
    · intro _ h1 h2
      exact kq (-3) (Or.inr ⟨h, Or.inr (Or.inl ⟨rfl, h2⟩)⟩)
    · intro _ h1
      exact kq (-2) (Or.inr ⟨h, Or.inl ⟨rfl, h1⟩⟩)
  · apply TX12_wants <;> (try (intros; omega))
    intro _
    exact kq (-1) (Or.inl ⟨rfl, h⟩)
/-- a shelf that is a row -/
theorem zsh_row {s : Int} (hv : zshv σ) (hs : 0 ≤ s ∧ s < 10) (h1 : σ 111 s = 1) : σ (2 + 2 * s.toNat) 1 = σ 112 s ∧ (0 ≤ σ 112 s ∧ σ 112 s ≤ 3) ∧ σ (2 + 2 * s.toNat) 3 = -1 ∧ σ (2 + 2 * s.toNat) 2 = σ 113 s ∧ (0 ≤ σ 113 s ∧ σ 113 s ≤ 80) ∧ ∀ i, 0 ≤ i → i < 80 → σ (3 + 2 * s.toNat) i = σ 115 (80 * s + i) := by
  have hz := hv s hs.1 hs.2
  unfold zsh1 at hz
  rcases hz with hz | hz | hz
  · omega
  · exact hz.2
  · omega
theorem zsh1_fr {t : zS} {s : Int} (h2 : ∀ j, t (2 + 2 * s.toNat) j = σ (2 + 2 * s.toNat) j) (h3 : ∀ i, 0 ≤ i → i < 80 → t (3 + 2 * s.toNat) i = σ (3 + 2 * s.toNat) i) (e1 : t 111 s = σ 111 s) (e2 : t 112 s = σ 112 s) (e3 : t 113 s = σ 113 s) (e4 : t 114 s = σ 114 s)
    (e5 : ∀ i, 0 ≤ i → i < 80 → t 115 (80 * s + i) = σ 115 (80 * s + i)) (e6 : t 98 1 = σ 98 1) (h : zsh1 σ s) : zsh1 t s := by
  unfold zsh1 at h ⊢
  simp only [h2, e1, e2, e3, e4, e6]
  rcases h with h | ⟨a1, a2, a3, a4, a5, a6, a7⟩ | h
  · exact Or.inl h
  · exact Or.inr (Or.inl ⟨a1, a2, a3, a4, a5, a6, fun i i0 i1 => by rw [h3 i i0 i1, e5 i i0 i1]; exact a7 i i0 i1⟩)
  · exact Or.inr (Or.inr h)
theorem st_row {a1 a2 a3 : Int} (hi : zinv σ) : zst2 G MX11_row [zr 0, zi a1, zi a2, zi a3] MX12_row [zr 98, zi a1, zi a2, zi a3] σ := by
  have hv := g_zshv hi
  apply TX11_row <;> (try (intros; omega))
  · intro h1 h2 h3 h4
    refine TX9_takeRow (zsh_o h1.1 (by omega)) (zsh_e h1.1 (by omega)) (okFillJ (zsh_e h1.1 (by omega)) (by decide) (TX9_takeRow_8 (zsh_o h1.1 (by omega)) (zsh_e h1.1 (by omega)) (TX11_row_64 ?_)))
    generalize hs1 : zup (zup (zup (zfl σ (3 + 2 * a1.toNat) (80 : Nat) 0) (2 + 2 * a1.toNat) 1 a2) (2 + 2 * a1.toNat) 2 a3) (2 + 2 * a1.toNat) 3 (-1) = s1
    have f1 : zfr zWh s1 σ := by rw [← hs1]; exact zfr_s0 rfl (by omega) (zfr_s0 rfl (by omega) (zfr_s0 rfl (by omega) (zfr_sl rfl (by omega) zfr_0)))
    apply TX12_row <;> (try (intros; omega))
    intros
    have loop : ∀ (n : Nat) (i : Int) (s : zS), (80 - i).toNat = n → 0 ≤ i → i ≤ 80 → zfr [(115, none)] s (zup (zup (zup s1 111 a1 1) 112 a1 a2) 113 a1 a3) → (∀ c, 0 ≤ c → c < i → s 115 (80 * a1 + c) = 0) → (∀ c, (c < 80 * a1 ∨ 80 * a1 + i ≤ c) → s 115 c = σ 115 c) →
        zR G MX12_row 77 [zr 98, zi a1, zi a2, zi a3, zi i] [] s (fun r' s' => r' = 1 ∧ zinv s') := by
      intro n
      induction n with
      | zero =>
        intro i s hn i0 i1 hf hc ho
        apply TX12_row_77 <;> (try (intros; omega))
        intro _
        refine ⟨rfl, ?_⟩
        have f2 : zfr [(2, none), (3, none), (4, none), (5, none), (6, none), (7, none), (8, none), (9, none), (10, none), (11, none), (12, none), (13, none), (14, none), (15, none), (16, none), (17, none), (18, none), (19, none), (20, none), (21, none), (111, none), (112, none), (113, none), (115, none)] s σ :=
          zfr_tr (zfr_tr (zfr_mo rfl f1) (zfr_uA rfl (zfr_uA rfl (zfr_uA rfl zfr_0)))) (zfr_mo rfl hf)
        apply zinv_fr f2 hi <;> (try (intro h; exact absurd h (by decide)))
        intro _ x x0 x1
        have hx := hv x x0 x1
        have g1 : ∀ q j, 2 ≤ q → q < 22 → s q j = s1 q j := fun q j q0 q1 => by
          rw [hf q j (fun ⟨d, a, b, c⟩ => by
            simp only [List.mem_cons, List.not_mem_nil, or_false] at a
            subst a
            have : (115 : Nat) = q := b
            omega), zup_of (by omega), zup_of (by omega), zup_of (by omega)]
        have g2 : ∀ j, s 111 j = if j = a1 then 1 else σ 111 j := fun j => by
          rw [zfr_row hf rfl, zup_of (by decide), zup_of (by decide), zup_at, zfr_row f1 rfl]
        have g3 : ∀ j, s 112 j = if j = a1 then a2 else σ 112 j := fun j => by
          rw [zfr_row hf rfl, zup_of (by decide), zup_at, zup_of (by decide), zfr_row f1 rfl]
        have g4 : ∀ j, s 113 j = if j = a1 then a3 else σ 113 j := fun j => by
          rw [zfr_row hf rfl, zup_at, zup_of (by decide), zup_of (by decide), zfr_row f1 rfl]
        have g5 : ∀ j, s 114 j = σ 114 j := fun j => by
          rw [zfr_row hf rfl, zup_of (by decide), zup_of (by decide), zup_of (by decide), zfr_row f1 rfl]
        have g6 : s 98 1 = σ 98 1 := zfr_at f2 rfl
        by_cases e : x = a1
        · subst e
          refine Or.inr (Or.inl ?_)
          rw [g1 _ 1 (by omega) (by omega), g1 _ 2 (by omega) (by omega), g1 _ 3 (by omega) (by omega), g2, g3, g4, if_pos rfl, if_pos rfl, if_pos rfl, ← hs1]
          refine ⟨rfl, ?_, by omega, ?_, ?_, by omega, fun i i0 i1 => ?_⟩
          · rw [zup_oi (by decide), zup_oi (by decide), zup_same]
          · rw [zup_same]
          · rw [zup_oi (by decide), zup_same]
          · rw [hc i i0 (by omega), g1 _ i (by omega) (by omega), ← hs1, zup_of (by omega), zup_of (by omega), zup_of (by omega)]
            unfold zfl
            rw [if_pos ⟨rfl, i0, i1⟩]
        · have g7 : ∀ q j, 2 ≤ q → q < 22 → q ≠ 2 + 2 * a1.toNat → q ≠ 3 + 2 * a1.toNat → s q j = σ q j := fun q j q0 q1 q2 q3 => by
            rw [g1 q j q0 q1, ← hs1, zup_of q2, zup_of q2, zup_of q2]
            unfold zfl
            rw [if_neg (fun z => q3 z.1)]
          exact zsh1_fr (fun j => g7 _ j (by omega) (by omega) (by omega) (by omega)) (fun i _ _ => g7 _ i (by omega) (by omega) (by omega) (by omega)) (by rw [g2, if_neg e]) (by rw [g3, if_neg e]) (by rw [g4, if_neg e]) (g5 x) (fun i i0 i1 => ho _ (by omega)) g6 hx
      | succ n ih =>
        intro i s hn i0 i1 hf hc ho
        apply TX12_row_77 <;> (try (intros; omega))
        intro _
        refine ih (i + 1) _ (by omega) (by omega) (by omega) (zfr_uA rfl hf) (fun c c0 c1 => ?_) (fun c c0 => ?_)
        · by_cases e : c = i
          · rw [e, zup_same]
          · rw [zup_oi (by omega)]
            exact hc c c0 (by omega)
        · rw [zup_oi (by omega)]
          exact ho c (by omega)
    refine loop _ 0 _ rfl (by omega) (by omega) zfr_0 (fun c c0 c1 => by omega) (fun c _ => ?_)
    rw [zup_of (by decide), zup_of (by decide), zup_of (by decide), zfr_row f1 rfl]
  all_goals (intros; apply TX12_row <;> (try simp (disch := decide) only [zup_of, zup_oi, zup_same]) <;> (try (intros; omega)) <;> (try (intros; exact ⟨by first | trivial | omega, zno hi (by first | decide | omega) rfl rfl (by first | decide | omega)⟩)))
theorem st_set {a1 a2 a3 : Int} (hi : zinv σ) : zst2 G MX11_set [zr 0, zi a1, zi a2, zl a3] MX12_set [zr 98, zi a1, zi a2, zl a3] σ := by
  have hv := g_zshv hi
  refine TX11_set (okX11_rowTrouble hv (fun r hr => ?_))
  rcases hr with ⟨rfl, h⟩ | ⟨h, ⟨rfl, hh⟩ | ⟨rfl, hh⟩ | ⟨rfl, hh⟩⟩
  · apply TX11_set_5 <;> (try (intros; omega))
    intros; apply TX12_set <;> (try simp (disch := decide) only [zup_of, zup_oi, zup_same]) <;> (try (intros; omega)) <;> (try (intros; exact ⟨by first | trivial | omega, zno hi (by first | decide | omega) rfl rfl (by first | decide | omega)⟩))
  · apply TX11_set_5 <;> (try (intros; omega))
    intros; apply TX12_set <;> (try simp (disch := decide) only [zup_of, zup_oi, zup_same]) <;> (try (intros; omega)) <;> (try (intros; exact ⟨by first | trivial | omega, zno hi (by first | decide | omega) rfl rfl (by first | decide | omega)⟩))
  · apply TX11_set_5 <;> (try (intros; omega))
    intros; apply TX12_set <;> (try simp (disch := decide) only [zup_of, zup_oi, zup_same]) <;> (try (intros; omega)) <;> (try (intros; exact ⟨by first | trivial | omega, zno hi (by first | decide | omega) rfl rfl (by first | decide | omega)⟩))
  · obtain ⟨b1, b2, b3, b4, b5, b6⟩ := zsh_row hv h hh
    have fin : ∀ v, (0 ≤ a2 ∧ a2 < 80) → zinv (zup (zup σ (3 + 2 * a1.toNat) a2 v) 115 (80 * a1 + a2) v) := by
      intro v h80
      apply zinv_fr (W := [(2, none), (3, none), (4, none), (5, none), (6, none), (7, none), (8, none), (9, none), (10, none), (11, none), (12, none), (13, none), (14, none), (15, none), (16, none), (17, none), (18, none), (19, none), (20, none), (21, none), (115, none)]) (by repeat (first | exact zfr_0 | refine zfr_uF rfl ?_ | refine zfr_uA rfl ?_ | refine zfr_cp rfl ?_ | refine zfr_fl rfl ?_ | refine zfr_s0 rfl (by omega) ?_ | refine zfr_sl rfl (by omega) ?_ | refine zfr_sc rfl (by omega) ?_)) hi <;> (try (intro h; exact absurd h (by decide)))
      intro _ x x0 x1
      have hx := hv x x0 x1
      by_cases e : x = a1
      · subst e
        refine Or.inr (Or.inl ?_)
        simp (disch := omega) only [zup_of]
        refine ⟨hh, b1, b2, b3, b4, b5, fun i i0 i1 => ?_⟩
        by_cases ei : i = a2
        · subst ei
          rw [zup_same, zup_same]
        · rw [zup_oi ei, zup_oi (by omega), zup_of (by omega)]
          exact b6 i i0 i1
      · refine zsh1_fr (fun j => ?_) (fun i _ _ => ?_) (by rw [zup_of (by decide), zup_of (by omega)]) (by rw [zup_of (by decide), zup_of (by omega)]) (by rw [zup_of (by decide), zup_of (by omega)]) (by rw [zup_of (by decide), zup_of (by omega)]) (fun i i0 i1 => ?_) (by rw [zup_of (by decide), zup_of (by omega)]) hx
        · rw [zup_of (by omega), zup_of (by omega)]
        · rw [zup_of (by omega), zup_of (by omega)]
        · rw [zup_oi (by omega), zup_of (by omega)]
    apply TX11_set_5 <;> (try (intros; omega))
    · intro _ h1
      have go : ∀ v, (σ 112 a1 = 0 → v = zi2b (zW a3)) → (σ 112 a1 = 1 → v = zi2s (zW a3)) → (σ 112 a1 = 2 → v = zW a3) → (σ 112 a1 = 3 → v = a3) → zO G MX12_set [zr 98, zi a1, zi a2, zl a3] (zup σ (3 + 2 * a1.toNat) a2 v) (fun r' s' => r' = 1 ∧ zinv s') := by
        intro v v0 v1 v2 v3
        apply TX12_set <;> (try simp (disch := omega) only [zup_of, zup_oi, zup_same]) <;> (try (intros; omega))
        · intros
          rw [← v3 (by omega)]
          exact ⟨by trivial, fin v (by omega)⟩
        · intros
          rw [← v2 (by omega)]
          exact ⟨by trivial, fin v (by omega)⟩
        · intros
          rw [← v1 (by omega)]
          exact ⟨by trivial, fin v (by omega)⟩
        · intros
          rw [← v0 (by omega)]
          exact ⟨by trivial, fin v (by omega)⟩
      apply TX9_put (zsh_o h.1 h.2) (zsh_e h.1 h.2) <;> (try (intros; omega))
      · intro h2
        exact TX11_set_50 (go _ (by omega) (by omega) (by omega) (fun _ => rfl))
      · intro h2
        exact TX11_set_50 (go _ (fun _ => rfl) (by omega) (by omega) (by omega))
      · intro h2
        exact TX11_set_50 (go _ (by omega) (fun _ => rfl) (by omega) (by omega))
      · intro h2
        exact TX11_set_50 (go _ (by omega) (by omega) (fun _ => rfl) (by omega))
    · intros; apply TX12_set <;> (try simp (disch := decide) only [zup_of, zup_oi, zup_same]) <;> (try (intros; omega)) <;> (try (intros; exact ⟨by first | trivial | omega, zno hi (by first | decide | omega) rfl rfl (by first | decide | omega)⟩))
theorem st_element {a1 a2 : Int} (hi : zinv σ) : zst2 G MX11_element [zr 0, zi a1, zi a2] MX12_element [zr 98, zi a1, zi a2] σ := by
  have hv := g_zshv hi
  refine TX11_element (okX11_rowTrouble hv (fun r hr => ?_))
  rcases hr with ⟨rfl, h⟩ | ⟨h, ⟨rfl, hh⟩ | ⟨rfl, hh⟩ | ⟨rfl, hh⟩⟩
  · apply TX11_element_5 <;> (try (intros; omega))
    intro _
    apply TX12_element <;> (try (intros; omega))
    exact fun _ => ⟨rfl, hi⟩
  · apply TX11_element_5 <;> (try (intros; omega))
    intro _
    apply TX12_element <;> (try (intros; omega))
    exact fun _ => ⟨rfl, hi⟩
  · apply TX11_element_5 <;> (try (intros; omega))
    intro _
    apply TX12_element <;> (try (intros; omega))
    exact fun _ => ⟨rfl, hi⟩
  · obtain ⟨b1, b2, b3, b4, b5, b6⟩ := zsh_row hv h hh
    apply TX11_element_5 <;> (try (intros; omega))
    · intro _ h1
      apply TX12_element <;> (try (intros; omega))
      intros
      exact ⟨(b6 a2 (by omega) (by omega)).symm, hi⟩
    · intro h1
      apply TX12_element <;> (try (intros; omega))
      exact fun _ => ⟨rfl, hi⟩
theorem st_holds {a1 : Int} (hi : zinv σ) : zst2 G MX11_holds [zr 0, zi a1] MX12_holds [zr 98, zi a1] σ := by
  have hv := g_zshv hi
  by_cases h : 0 ≤ a1 ∧ a1 < 10
  · have hx := hv a1 h.1 h.2
    unfold zsh1 at hx
    rcases hx with hx | ⟨c1, c2, c3, c4, c5, c6, -⟩ | hx
    · apply TX11_holds <;> (try (intros; omega))
      intros
      apply TX12_holds <;> (try (intros; omega))
      exact fun _ => ⟨by omega, hi⟩
    · apply TX11_holds <;> (try (intros; omega))
      intros
      apply TX12_holds <;> (try (intros; omega))
      exact fun _ _ _ => ⟨by omega, hi⟩
    · apply TX11_holds <;> (try (intros; omega))
      intros
      apply TX12_holds <;> (try (intros; omega))
      exact fun _ _ _ => ⟨by omega, hi⟩
  · apply TX11_holds <;> (try (intros; omega))
    intros
    apply TX12_holds <;> (try (intros; omega))
    exact fun _ => ⟨by omega, hi⟩
theorem st_bornIn {a1 : Int} (hi : zinv σ) : zst2 G MX11_bornIn [zr 0, zi a1] MX12_bornIn [zr 98, zi a1] σ := by
  have hv := g_zshv hi
  have hp := g_zppl hi
  have hn := hp.1
  have hc := hp.2.1
  by_cases h : 0 ≤ a1 ∧ a1 < 10
  · have hx := hv a1 h.1 h.2
    unfold zsh1 at hx
    rcases hx with hx | ⟨c1, c2, c3, c4, c5, c6, -⟩ | hx
    · apply TX11_bornIn <;> (try (intros; omega))
      intros; apply TX12_bornIn <;> (try simp (disch := decide) only [zup_of, zup_oi, zup_same]) <;> (try (intros; omega)) <;> (try (intros; exact ⟨by first | trivial | omega, zno hi (by first | decide | omega) rfl rfl (by first | decide | omega)⟩))
    · apply TX11_bornIn <;> (try (intros; omega))
      intros; apply TX12_bornIn <;> (try simp (disch := decide) only [zup_of, zup_oi, zup_same]) <;> (try (intros; omega)) <;> (try (intros; exact ⟨by first | trivial | omega, zno hi (by first | decide | omega) rfl rfl (by first | decide | omega)⟩))
    · have hb := hp.2.2 _ hx.2.2.2.1 hx.2.2.2.2
      apply TX11_bornIn <;> (try (intros; omega))
      intros
      apply TX12_bornIn <;> (try (intros; omega))
      intros
      refine ⟨?_, hi⟩
      rw [hx.2.2.1]
      exact hb.1.symm
  · apply TX11_bornIn <;> (try (intros; omega))
    intros; apply TX12_bornIn <;> (try simp (disch := decide) only [zup_of, zup_oi, zup_same]) <;> (try (intros; omega)) <;> (try (intros; exact ⟨by first | trivial | omega, zno hi (by first | decide | omega) rfl rfl (by first | decide | omega)⟩))
theorem st_show {a1 a2 : Int} (hi : zinv σ) : zst2 G MX11_show [zr 0, zi a1, zi a2] MX12_show [zr 98, zi a1, zi a2] σ := by
  have hv := g_zshv hi
  have hp := g_zppl hi
  have hn := hp.1
  have hc := hp.2.1
  have fin : ∀ h : Int, (0 ≤ a1 ∧ a1 < 10) → ((h = 0 ∧ a2 = -1) ∨ (h = 2 ∧ 0 ≤ a2 ∧ a2 < σ 98 1)) → zinv (zup (zup (zup (zup (zup σ (2 + 2 * a1.toNat) 1 (-1)) (2 + 2 * a1.toNat) 2 0) (2 + 2 * a1.toNat) 3 a2) 111 a1 h) 114 a1 a2) := by
    intro h h10 hh
    apply zinv_fr (W := [(2, none), (3, none), (4, none), (5, none), (6, none), (7, none), (8, none), (9, none), (10, none), (11, none), (12, none), (13, none), (14, none), (15, none), (16, none), (17, none), (18, none), (19, none), (20, none), (21, none), (111, none), (114, none)]) (by repeat (first | exact zfr_0 | refine zfr_uF rfl ?_ | refine zfr_uA rfl ?_ | refine zfr_cp rfl ?_ | refine zfr_fl rfl ?_ | refine zfr_s0 rfl (by omega) ?_ | refine zfr_sl rfl (by omega) ?_ | refine zfr_sc rfl (by omega) ?_)) hi <;> (try (intro h; exact absurd h (by decide)))
    intro _ x x0 x1
    have hx := hv x x0 x1
    by_cases e : x = a1
    · subst e
      unfold zsh1
      simp (disch := omega) only [zup_of, zup_oi, zup_same]
      rcases hh with hh | hh
      · left
        refine ⟨hh.1, by trivial, hh.2⟩
      · right
        right
        exact ⟨hh.1, by trivial, by trivial, hh.2.1, hh.2.2⟩
    · refine zsh1_fr (fun j => ?_) (fun i _ _ => ?_) ?_ ?_ ?_ ?_ (fun i i0 i1 => ?_) ?_ hx <;> simp (disch := omega) only [zup_of, zup_oi]
  by_cases h : 0 ≤ a1 ∧ a1 < 10
  · apply TX11_show <;> (try (intros; omega))
    · intros; apply TX12_show <;> (try simp (disch := decide) only [zup_of, zup_oi, zup_same]) <;> (try (intros; omega)) <;> (try (intros; exact ⟨by first | trivial | omega, zno hi (by first | decide | omega) rfl rfl (by first | decide | omega)⟩))
    · intro _ h1 h2
      apply TX12_show <;> (try simp (disch := omega) only [zup_of, zup_oi, zup_same]) <;> (try (intros; omega))
      intros
      exact ⟨by trivial, fin 2 h (Or.inr ⟨rfl, by omega⟩)⟩
    · intro _ h1 h2
      apply TX12_show <;> (try simp (disch := omega) only [zup_of, zup_oi, zup_same]) <;> (try (intros; omega))
      intros
      exact ⟨by trivial, fin 0 h (Or.inl ⟨rfl, h2⟩)⟩
  · apply TX11_show <;> (try (intros; omega))
    intros; apply TX12_show <;> (try simp (disch := decide) only [zup_of, zup_oi, zup_same]) <;> (try (intros; omega)) <;> (try (intros; exact ⟨by first | trivial | omega, zno hi (by first | decide | omega) rfl rfl (by first | decide | omega)⟩))
end SH
