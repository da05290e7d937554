/-! CALLS: amend -/
section AM
variable {G : zG} {σ : zS}
/-- the class behind its checks -/
theorem okC_amend {l : List Int} {a1 a2 a3 a4 : Int} {Q : Int → zS → Prop} (hi : zinv σ) (hT : zturC σ l) (hM : zturM σ l) (h2 : (0 ≤ a2 ∧ a2 < 10) ∧ σ 111 a2 = 1) (h3 : (0 ≤ a3 ∧ a3 < 10) ∧ σ 111 a3 = 1) (hm : σ 98 3 < 12)
    (kq : ∀ (s : zS) (l' : List Int), zfr [(41, none), (42, none), (43, none), (44, none), (38, none), (39, none), (40, none), (45, none), (35, some 11)] s σ → s 35 11 = σ 98 3 + 1 →
      (∀ j, s 41 j = if 80 * σ 98 3 ≤ j ∧ j < 80 * σ 98 3 + σ 113 a2 then zW (σ 115 (80 * a2 + (j - 80 * σ 98 3))) else σ 41 j) → (∀ j, s 42 j = if j = σ 98 3 then σ 113 a2 else σ 42 j) →
      (∀ j, s 43 j = if 80 * σ 98 3 ≤ j ∧ j < 80 * σ 98 3 + σ 113 a3 then zW (σ 115 (80 * a3 + (j - 80 * σ 98 3))) else σ 43 j) → (∀ j, s 44 j = if j = σ 98 3 then σ 113 a3 else σ 44 j) →
      (∀ j, s 38 j = if j = σ 98 3 then a1 else σ 38 j) → (∀ j, s 39 j = if j = σ 98 3 then a4 else σ 39 j) → (∀ j, s 40 j = if j = σ 98 3 then σ 98 0 else σ 40 j) →
      (l'.length : Int) = σ 98 3 + 1 → (∀ (i : Nat) (x : Int), l'[i]? = some x → s 45 i = x ∧ 0 ≤ x ∧ x < σ 98 3 + 1) → (∀ x, x ∈ l' ↔ x ∈ l ∨ x = σ 98 3) → l'.Pairwise (fun x y => s 39 x < s 39 y ∨ (s 39 x = s 39 y ∧ x < y)) → Q (σ 98 3) s) :
    zO G MX10_tellWords [zr 35, zr (2 + 2 * a2.toNat), zr (2 + 2 * a3.toNat)] σ (fun _ σ' => zR G MX11_amend 118 [zr 0, zi a1, zi a2, zi a3, zi a4, zi 0] [] σ' Q) := by
  have hv := g_zshv hi
  obtain ⟨b1, b2, b3, b4, b5, b6⟩ := zsh_row hv h2.1 h2.2
  obtain ⟨c1, c2, c3, c4, c5, c6⟩ := zsh_row hv h3.1 h3.2
  have ha := g_zamo hi
  have hc := g_zamC hi
  have ha0 := ha.1
  have e11 := hc.1
  apply TX10_tellWords (zsh_o h2.1.1 h2.1.2) (zsh_e h2.1.1 h2.1.2) (zsh_o h3.1.1 h3.1.2) (zsh_e h3.1.1 h3.1.2) <;> (try rw [e11]) <;> (try (intros; omega))
  refine okX9_copyLetters (zsh_o h2.1.1 h2.1.2) (zsh_e h2.1.1 h2.1.2) rfl (by omega) (by omega) b4 b5 (by omega) (fun s1 f1 r1 => ?_)
  have f1' : zfr [(41, none)] s1 σ := zfr_1 f1
  have e11' : s1 35 11 = σ 98 3 := by rw [f1 _ (by decide)]; exact e11
  apply TX10_tellWords_23 (zsh_o h2.1.1 h2.1.2) (zsh_e h2.1.1 h2.1.2) (zsh_o h3.1.1 h3.1.2) (zsh_e h3.1.1 h3.1.2) <;> (try rw [e11']) <;> (try (intros; omega))
  have f2 : zfr [(41, none), (42, none)] (zup s1 42 (σ 98 3) (σ 113 a2)) σ := zfr_uA rfl (zfr_mo rfl f1')
  have esz : (zup s1 42 (σ 98 3) (σ 113 a2)) (2 + 2 * a3.toNat) 2 = σ 113 a3 := by rw [zup_of (by omega), f1 _ (by omega)]; exact c4
  refine okX9_copyLetters (zsh_o h3.1.1 h3.1.2) (zsh_e h3.1.1 h3.1.2) rfl (by omega) (by omega) esz c5 (by omega) (fun s2 g2 r2 => ?_)
  have f3 : zfr [(41, none), (42, none), (43, none)] s2 σ := zfr_tr (zfr_mo rfl f2) (zfr_mo rfl (zfr_1 g2))
  have e11'' : s2 35 11 = σ 98 3 := by rw [g2 _ (by decide), zup_of (by decide)]; exact e11'
  apply TX10_tellWords_47 (zsh_o h2.1.1 h2.1.2) (zsh_e h2.1.1 h2.1.2) (zsh_o h3.1.1 h3.1.2) (zsh_e h3.1.1 h3.1.2) <;> (try (intros; omega))
  refine TX11_amend_118 ?_
  have f4 : zfr [(41, none), (42, none), (43, none), (44, none)] (zup s2 44 (σ 98 3) (σ 113 a3)) σ := zfr_uA rfl (zfr_mo rfl f3)
  have q41 : ∀ j, (zup s2 44 (σ 98 3) (σ 113 a3)) 41 j = if 80 * σ 98 3 ≤ j ∧ j < 80 * σ 98 3 + σ 113 a2 then zW (σ 115 (80 * a2 + (j - 80 * σ 98 3))) else σ 41 j := fun j => by
    rw [zup_of (by decide), g2 _ (by decide), zup_of (by decide), r1 j]
    by_cases c : 80 * σ 98 3 ≤ j ∧ j < 80 * σ 98 3 + σ 113 a2
    · rw [if_pos c, if_pos c, b6 _ (by omega) (by omega)]
    · rw [if_neg c, if_neg c]
  have q42 : ∀ j, (zup s2 44 (σ 98 3) (σ 113 a3)) 42 j = if j = σ 98 3 then σ 113 a2 else σ 42 j := fun j => by
    rw [zup_of (by decide), g2 _ (by decide), zup_at, f1 _ (by decide)]
  have q43 : ∀ j, (zup s2 44 (σ 98 3) (σ 113 a3)) 43 j = if 80 * σ 98 3 ≤ j ∧ j < 80 * σ 98 3 + σ 113 a3 then zW (σ 115 (80 * a3 + (j - 80 * σ 98 3))) else σ 43 j := fun j => by
    rw [zup_of (by decide), r2 j, zup_of (by omega), f1 _ (by omega), zup_of (by decide), f1 _ (by decide)]
    by_cases c : 80 * σ 98 3 ≤ j ∧ j < 80 * σ 98 3 + σ 113 a3
    · rw [if_pos c, if_pos c, c6 _ (by omega) (by omega)]
    · rw [if_neg c, if_neg c]
  have q44 : ∀ j, (zup s2 44 (σ 98 3) (σ 113 a3)) 44 j = if j = σ 98 3 then σ 113 a3 else σ 44 j := fun j => by
    rw [zup_at, g2 _ (by decide), zup_of (by decide), f1 _ (by decide)]
  have q0 : (zup s2 44 (σ 98 3) (σ 113 a3)) 0 13 = σ 98 0 := by
    rw [zup_of (by decide), g2 _ (by decide), zup_of (by decide), f1 _ (by decide)]
    exact (g_zcnow hi).1
  have q11 : (zup s2 44 (σ 98 3) (σ 113 a3)) 35 11 = σ 98 3 := by rw [zup_of (by decide)]; exact e11''
  generalize zup s2 44 (σ 98 3) (σ 113 a3) = s3 at f4 q41 q42 q43 q44 q0 q11
  rw [q0]
  have e45 : s3 45 = σ 45 := zfr_row f4 rfl
  have e39 : s3 39 = σ 39 := zfr_row f4 rfl
  refine okX10_tellTerms q11 (by omega) hT.1 (fun i x hx => by rw [e45]; exact hT.2 i x hx) ?_ (fun s l' g1 g2 g3 g4 g5 g6 g7 g8 g9 => TX11_amend_132 ?_)
  · rw [e39]
    refine List.Pairwise.imp_of_mem (fun {x y} hx hy h => ?_) hM.2
    have hx' := (hM.1 x).mp hx
    have hy' := (hM.1 y).mp hy
    have cx := (hc.2.2 x hx'.1 hx'.2).2.1
    have cy := (hc.2.2 y hy'.1 hy'.2).2.1
    unfold zalt at h
    rw [cx, cy]
    exact h
  · refine kq s l' (zfr_tr (zfr_mo rfl f4) (zfr_mo rfl g1)) g2 (fun j => by rw [zfr_row g1 rfl]; exact q41 j) (fun j => by rw [zfr_row g1 rfl]; exact q42 j) (fun j => by rw [zfr_row g1 rfl]; exact q43 j) (fun j => by rw [zfr_row g1 rfl]; exact q44 j) (fun j => ?_) (fun j => ?_) (fun j => ?_) g6 g7 g8 g9
    · rw [g3, zfr_row (q := 38) f4 rfl]
    · rw [g4, e39]
    · rw [g5, zfr_row (q := 40) f4 rfl]
set_option maxHeartbeats 2000000 in
theorem st_amendM {l l' : List Int} {a1 a2 a3 a4 : Int} {s0 : zS} (hi : zinv σ) (hM : zturM σ l) (h1 : 0 ≤ a1 ∧ a1 < 4) (h2 : (0 ≤ a2 ∧ a2 < 10) ∧ σ 111 a2 = 1) (h3 : (0 ≤ a3 ∧ a3 < 10) ∧ σ 111 a3 = 1) (h4 : 0 ≤ a4 ∧ a4 ≤ 40000) (hm : σ 98 3 < 12) (z2 : σ 113 a2 ≠ 0) (z3 : σ 113 a3 ≠ 0)
    (f0 : zfr [(41, none), (42, none), (43, none), (44, none), (38, none), (39, none), (40, none), (45, none), (35, some 11)] s0 σ) (p11 : s0 35 11 = σ 98 3 + 1)
    (p41 : ∀ j, s0 41 j = if 80 * σ 98 3 ≤ j ∧ j < 80 * σ 98 3 + σ 113 a2 then zW (σ 115 (80 * a2 + (j - 80 * σ 98 3))) else σ 41 j) (p42 : ∀ j, s0 42 j = if j = σ 98 3 then σ 113 a2 else σ 42 j)
    (p43 : ∀ j, s0 43 j = if 80 * σ 98 3 ≤ j ∧ j < 80 * σ 98 3 + σ 113 a3 then zW (σ 115 (80 * a3 + (j - 80 * σ 98 3))) else σ 43 j) (p44 : ∀ j, s0 44 j = if j = σ 98 3 then σ 113 a3 else σ 44 j)
    (p38 : ∀ j, s0 38 j = if j = σ 98 3 then a1 else σ 38 j) (p39 : ∀ j, s0 39 j = if j = σ 98 3 then a4 else σ 39 j) (p40 : ∀ j, s0 40 j = if j = σ 98 3 then σ 98 0 else σ 40 j)
    (pl : (l'.length : Int) = σ 98 3 + 1) (pt : ∀ (i : Nat) (x : Int), l'[i]? = some x → s0 45 i = x ∧ 0 ≤ x ∧ x < σ 98 3 + 1) (pm : ∀ x, x ∈ l' ↔ x ∈ l ∨ x = σ 98 3) (pp : l'.Pairwise (fun x y => s0 39 x < s0 39 y ∨ (s0 39 x = s0 39 y ∧ x < y))) :
    zO G MX12_amend [zr 98, zi a1, zi a2, zi a3, zi a4] s0 (fun r' s' => r' = σ 98 3 ∧ zinv s') := by
  have hv := g_zshv hi
  obtain ⟨b1, b2, b3, b4, b5, b6⟩ := zsh_row hv h2.1 h2.2
  obtain ⟨c1, c2, c3, c4, c5, c6⟩ := zsh_row hv h3.1 h3.2
  have ha := g_zamo hi
  have hc := g_zamC hi
  have ha0 := ha.1
  have e3 : s0 98 3 = σ 98 3 := zfr_at f0 rfl
  have e0 : s0 98 0 = σ 98 0 := zfr_at f0 rfl
  have e111 : s0 111 = σ 111 := zfr_row f0 rfl
  have e113 : s0 113 = σ 113 := zfr_row f0 rfl
  have e115 : s0 115 = σ 115 := zfr_row f0 rfl
  apply TX12_amend <;> (try rw [e3]) <;> (try rw [e0]) <;> (try rw [e111]) <;> (try rw [e113]) <;> (try (intros; omega))
  intros
  generalize hs1 : zup (zup (zup (zup (zup s0 119 (σ 98 3) a1) 120 (σ 98 3) a4) 121 (σ 98 3) (σ 98 0)) 122 (σ 98 3) (σ 113 a2)) 123 (σ 98 3) (σ 113 a3) = s1
  have f1 : zfr [(119, none), (120, none), (121, none), (122, none), (123, none)] s1 s0 := by rw [← hs1]; exact zfr_uA rfl (zfr_uA rfl (zfr_uA rfl (zfr_uA rfl (zfr_uA rfl zfr_0))))
  have second : ∀ (n : Nat) (i : Int) (s : zS), (σ 113 a3 - i).toNat = n → 0 ≤ i → i ≤ σ 113 a3 → zfr [(124, none), (125, none)] s s1 → (∀ j, s 124 j = if 80 * σ 98 3 ≤ j ∧ j < 80 * σ 98 3 + σ 113 a2 then zW (σ 115 (80 * a2 + (j - 80 * σ 98 3))) else σ 124 j) →
      (∀ j, s 125 j = if 80 * σ 98 3 ≤ j ∧ j < 80 * σ 98 3 + i then zW (σ 115 (80 * a3 + (j - 80 * σ 98 3))) else σ 125 j) → zR G MX12_amend 242 [zr 98, zi a1, zi a2, zi a3, zi a4, zi (σ 98 3), zi i] [] s (fun r' s' => r' = σ 98 3 ∧ zinv s') := by
    intro n
    induction n with
    | zero =>
      intro i s hn i0 i1 hf ho hw
      have es : s 113 a3 = σ 113 a3 := by rw [zfr_row hf rfl, zfr_row f1 rfl, e113]
      have es3 : s 98 3 = σ 98 3 := by rw [zfr_at hf rfl, zfr_at f1 rfl, e3]
      have hie : i = σ 113 a3 := by omega
      rw [hie] at hw
      apply TX12_amend_242 <;> (try rw [es]) <;> (try rw [es3]) <;> (try (intros; omega))
      intro _
      refine ⟨rfl, ?_⟩
      have f3 : zfr [(41, none), (42, none), (43, none), (44, none), (38, none), (39, none), (40, none), (45, none), (35, some 11), (119, none), (120, none), (121, none), (122, none), (123, none), (124, none), (125, none), (98, some 3)] (zup s 98 3 (σ 98 3 + 1)) σ :=
        zfr_uF rfl (zfr_tr (zfr_tr (zfr_mo rfl f0) (zfr_mo rfl f1)) (zfr_mo rfl hf))
      have n3 : (zup s 98 3 (σ 98 3 + 1)) 98 3 = σ 98 3 + 1 := zup_same
      have n119 : ∀ j, (zup s 98 3 (σ 98 3 + 1)) 119 j = if j = σ 98 3 then a1 else σ 119 j := fun j => by
        rw [zup_of (by decide), zfr_row hf rfl, ← hs1, zup_of (by decide), zup_of (by decide), zup_of (by decide), zup_of (by decide), zup_at, zfr_row f0 rfl]
      have n120 : ∀ j, (zup s 98 3 (σ 98 3 + 1)) 120 j = if j = σ 98 3 then a4 else σ 120 j := fun j => by
        rw [zup_of (by decide), zfr_row hf rfl, ← hs1, zup_of (by decide), zup_of (by decide), zup_of (by decide), zup_at, zup_of (by decide), zfr_row f0 rfl]
      have n121 : ∀ j, (zup s 98 3 (σ 98 3 + 1)) 121 j = if j = σ 98 3 then σ 98 0 else σ 121 j := fun j => by
        rw [zup_of (by decide), zfr_row hf rfl, ← hs1, zup_of (by decide), zup_of (by decide), zup_at, zup_of (by decide), zup_of (by decide), zfr_row f0 rfl]
      have n122 : ∀ j, (zup s 98 3 (σ 98 3 + 1)) 122 j = if j = σ 98 3 then σ 113 a2 else σ 122 j := fun j => by
        rw [zup_of (by decide), zfr_row hf rfl, ← hs1, zup_of (by decide), zup_at, zup_of (by decide), zup_of (by decide), zup_of (by decide), zfr_row f0 rfl]
      have n123 : ∀ j, (zup s 98 3 (σ 98 3 + 1)) 123 j = if j = σ 98 3 then σ 113 a3 else σ 123 j := fun j => by
        rw [zup_of (by decide), zfr_row hf rfl, ← hs1, zup_at, zup_of (by decide), zup_of (by decide), zup_of (by decide), zup_of (by decide), zfr_row f0 rfl]
      have n124 : ∀ j, (zup s 98 3 (σ 98 3 + 1)) 124 j = if 80 * σ 98 3 ≤ j ∧ j < 80 * σ 98 3 + σ 113 a2 then zW (σ 115 (80 * a2 + (j - 80 * σ 98 3))) else σ 124 j := fun j => by rw [zup_of (by decide)]; exact ho j
      have n125 : ∀ j, (zup s 98 3 (σ 98 3 + 1)) 125 j = if 80 * σ 98 3 ≤ j ∧ j < 80 * σ 98 3 + σ 113 a3 then zW (σ 115 (80 * a3 + (j - 80 * σ 98 3))) else σ 125 j := fun j => by rw [zup_of (by decide)]; exact hw j
      have cl : ∀ q, q < 98 → (zup s 98 3 (σ 98 3 + 1)) q = s0 q := fun q hq => by
        rw [zup_ne (by omega)]
        funext j
        rw [hf q j (fun ⟨d, a, b, c⟩ => by
          simp only [List.mem_cons, List.not_mem_nil, or_false] at a
          rcases a with a | a <;> subst a <;> dsimp only at b <;> omega), ← hs1]
        rw [zup_of (by omega), zup_of (by omega), zup_of (by omega), zup_of (by omega), zup_of (by omega)]
      have k38 := cl 38 (by decide)
      have k39 := cl 39 (by decide)
      have k40 := cl 40 (by decide)
      have k41 := cl 41 (by decide)
      have k42 := cl 42 (by decide)
      have k43 := cl 43 (by decide)
      have k44 := cl 44 (by decide)
      have k45 := cl 45 (by decide)
      have k35 := cl 35 (by decide)
      generalize zup s 98 3 (σ 98 3 + 1) = s9 at f3 n3 n119 n120 n121 n122 n123 n124 n125 k38 k39 k40 k41 k42 k43 k44 k45 k35
      clear hs1 f1 hf ho hw
      apply zinv_fr f3 hi <;> (try (intro h; exact absurd h (by decide)))
      · intro _
        obtain ⟨m0, m1, m2⟩ := ha
        unfold zamo
        rw [n3, zfr_row (q := 118) f3 rfl]
        refine ⟨by omega, m1, fun x x0 x1 => ?_⟩
        rw [n119, n120, n122, n123]
        by_cases e : x = σ 98 3
        · rw [if_pos e, if_pos e, if_pos e, if_pos e]
          omega
        · rw [if_neg e, if_neg e, if_neg e, if_neg e]
          exact m2 x x0 (by omega)
      · intro _
        obtain ⟨d0, d1, d2⟩ := hc
        refine ⟨by rw [k35, p11, n3], fun w w0 w1 => ?_, fun x x0 x1 => ?_⟩
        · rw [zfr_row (q := 37) f3 rfl, zfr_row (q := 36) f3 rfl, zfr_row (q := 118) f3 rfl, zfr_row (q := 117) f3 rfl]
          exact d1 w w0 w1
        · rw [n3] at x1
          rw [k38, k39, k40, k41, k42, k43, k44, n119, n120, n121, n122, n123, p38, p39, p40, p42, p44]
          by_cases e : x = σ 98 3
          · subst e
            simp only [if_true]
            refine ⟨by trivial, by trivial, by trivial, by trivial, by trivial, fun i i0 i1 => ?_, fun i i0 i1 => ?_⟩
            · rw [p41, n124, if_pos (by omega), if_pos (by omega)]
            · rw [p43, n125, if_pos (by omega), if_pos (by omega)]
          · have d3 := d2 x x0 (by omega)
            have m2 := ha.2.2 x x0 (by omega)
            simp only [if_neg e]
            refine ⟨d3.1, d3.2.1, d3.2.2.1, d3.2.2.2.1, d3.2.2.2.2.1, fun i i0 i1 => ?_, fun i i0 i1 => ?_⟩
            · rw [p41, n124, if_neg (by omega), if_neg (by omega)]
              exact d3.2.2.2.2.2.1 i i0 i1
            · rw [p43, n125, if_neg (by omega), if_neg (by omega)]
              exact d3.2.2.2.2.2.2 i i0 i1
      · intro _
        refine ⟨l', ⟨fun x => ?_, ?_⟩, by rw [n3]; exact pl, fun i x hx => by rw [k45, n3]; exact pt i x hx⟩
        · rw [pm x, hM.1 x, n3]
          omega
        · refine List.Pairwise.imp_of_mem (fun {x y} hx hy h => ?_) pp
          have hx' := (pm x).mp hx
          have hy' := (pm y).mp hy
          rw [hM.1 x] at hx'
          rw [hM.1 y] at hy'
          have gx : s0 39 x = s9 120 x := by
            rw [p39, n120]
            by_cases e : x = σ 98 3
            · rw [if_pos e, if_pos e]
            · rw [if_neg e, if_neg e]
              exact (hc.2.2 x (by omega) (by omega)).2.1
          have gy : s0 39 y = s9 120 y := by
            rw [p39, n120]
            by_cases e : y = σ 98 3
            · rw [if_pos e, if_pos e]
            · rw [if_neg e, if_neg e]
              exact (hc.2.2 y (by omega) (by omega)).2.1
          rw [gx, gy] at h
          exact h
    | succ n ih =>
      intro i s hn i0 i1 hf ho hw
      have es : s 113 a3 = σ 113 a3 := by rw [zfr_row hf rfl, zfr_row f1 rfl, e113]
      have ec : s 115 = σ 115 := by rw [zfr_row hf rfl, zfr_row f1 rfl, e115]
      apply TX12_amend_242 <;> (try rw [es]) <;> (try (intros; omega))
      intro _
      rw [ec]
      refine ih (i + 1) _ (by omega) (by omega) (by omega) (zfr_uA rfl hf) (fun j => by rw [zup_of (by decide)]; exact ho j) (fun j => ?_)
      rw [zup_at, hw j]
      by_cases c : j = 80 * σ 98 3 + i
      · rw [if_pos c, if_pos (by omega), show j - 80 * σ 98 3 = i from by omega]
      · rw [if_neg c]
        by_cases d : 80 * σ 98 3 ≤ j ∧ j < 80 * σ 98 3 + i
        · rw [if_pos d, if_pos (by omega)]
        · rw [if_neg d, if_neg (by omega)]
  have first : ∀ (n : Nat) (i : Int) (s : zS), (σ 113 a2 - i).toNat = n → 0 ≤ i → i ≤ σ 113 a2 → zfr [(124, none)] s s1 → (∀ j, s 124 j = if 80 * σ 98 3 ≤ j ∧ j < 80 * σ 98 3 + i then zW (σ 115 (80 * a2 + (j - 80 * σ 98 3))) else σ 124 j) →
      zR G MX12_amend 196 [zr 98, zi a1, zi a2, zi a3, zi a4, zi (σ 98 3), zi i] [] s (fun r' s' => r' = σ 98 3 ∧ zinv s') := by
    intro n
    induction n with
    | zero =>
      intro i s hn i0 i1 hf ho
      have es : s 113 a2 = σ 113 a2 := by rw [zfr_row hf rfl, zfr_row f1 rfl, e113]
      have hie : i = σ 113 a2 := by omega
      rw [hie] at ho
      apply TX12_amend_196 <;> (try rw [es]) <;> (try (intros; omega))
      intro _
      refine second _ 0 s rfl (by omega) (by omega) (zfr_mo rfl hf) ho (fun j => ?_)
      rw [if_neg (by omega), zfr_row hf rfl, zfr_row f1 rfl, zfr_row f0 rfl]
    | succ n ih =>
      intro i s hn i0 i1 hf ho
      have es : s 113 a2 = σ 113 a2 := by rw [zfr_row hf rfl, zfr_row f1 rfl, e113]
      have ec : s 115 = σ 115 := by rw [zfr_row hf rfl, zfr_row f1 rfl, e115]
      apply TX12_amend_196 <;> (try rw [es]) <;> (try (intros; omega))
      intro _
      rw [ec]
      refine ih (i + 1) _ (by omega) (by omega) (by omega) (zfr_uA rfl hf) (fun j => ?_)
      rw [zup_at, ho j]
      by_cases c : j = 80 * σ 98 3 + i
      · rw [if_pos c, if_pos (by omega), show j - 80 * σ 98 3 = i from by omega]
      · rw [if_neg c]
        by_cases d : 80 * σ 98 3 ≤ j ∧ j < 80 * σ 98 3 + i
        · rw [if_pos d, if_pos (by omega)]
        · rw [if_neg d, if_neg (by omega)]
  refine first _ 0 _ rfl (by omega) (by omega) zfr_0 (fun j => ?_)
  rw [if_neg (by omega), zfr_row f1 rfl, zfr_row f0 rfl]
theorem st_amend {a1 a2 a3 a4 : Int} (hi : zinv σ) : zst2 G MX11_amend [zr 0, zi a1, zi a2, zi a3, zi a4] MX12_amend [zr 98, zi a1, zi a2, zi a3, zi a4] σ := by
  have hv := g_zshv hi
  obtain ⟨l, hM, hC⟩ := g_ztur hi
  have hc0 := (g_zamC hi).1
  have ha0 := (g_zamo hi).1
  by_cases hw : 0 ≤ a1 ∧ a1 < 4
  · apply TX11_amend <;> (try (intros; omega))
    intro _
    refine okX11_rowTrouble hv (fun r hr => TX11_amend_12 (okX11_rowTrouble hv (fun r' hr' => TX11_amend_17 ?_)))
    by_cases hz : r = 0 ∧ r' = 0
    · obtain ⟨rfl, rfl⟩ := hz
      have h : (0 ≤ a2 ∧ a2 < 10) ∧ σ 111 a2 = 1 := by unfold zrt at hr; omega
      have h' : (0 ≤ a3 ∧ a3 < 10) ∧ σ 111 a3 = 1 := by unfold zrt at hr'; omega
      obtain ⟨b1, b2, b3, b4, b5, b6⟩ := zsh_row hv h.1 h.2
      obtain ⟨c1, c2, c3, c4, c5, c6⟩ := zsh_row hv h'.1 h'.2
      apply TX11_firstTrouble <;> (try (intros; omega))
      intro _
      rw [show (0 : Int) + 0 = 0 from rfl]
      apply TX11_amend_20 <;> (try (intros; omega))
      · intro _ h1 h2 h3 h4
        exact okC_amend hi hC hM h h' (by omega) (fun s l' f0 p11 p41 p42 p43 p44 p38 p39 p40 pl pt pm pp => st_amendM hi hM hw h h' h1 (by omega) (by omega) (by omega) f0 p11 p41 p42 p43 p44 p38 p39 p40 pl pt pm pp)
      all_goals (intros; apply TX12_amend <;> (try simp (disch := decide) only [zup_of, zup_oi, zup_same]) <;> (try (intros; omega)) <;> (try (intros; exact ⟨by first | trivial | omega, zno hi (by first | decide | omega) rfl rfl (by first | decide | omega)⟩)))
    · have key : ∀ x : Int, x ≠ 0 → (-7 ≤ x ∧ x < 0) → ((r = 0 ∧ x = r') ∨ (r' = 0 ∧ x = r) ∨ (r ≠ 0 ∧ r' ≠ 0 ∧ x = max r r')) → zR G MX11_amend 20 [zr 0, zi a1, zi a2, zi a3, zi a4, zu] [zi x] σ (fun r s => zO G MX12_amend [zr 98, zi a1, zi a2, zi a3, zi a4] s (fun r' s' => r' = r ∧ zinv s')) := by
        intro x hx hx2 hx3
        unfold zrt at hr hr'
        apply TX11_amend_20 <;> (try (intros; omega))
        intro _
        apply TX12_amend <;> (try simp (disch := decide) only [zup_of, zup_oi, zup_same]) <;> (try (intros; omega)) <;> (try (intros; exact ⟨by omega, zno hi (by omega) rfl rfl (by omega)⟩))
      have b1 : -3 ≤ r ∧ r ≤ 0 := by unfold zrt at hr; omega
      have b2 : -3 ≤ r' ∧ r' ≤ 0 := by unfold zrt at hr'; omega
      apply TX11_firstTrouble <;> (try (intros; omega))
      · intro h1 h2
        exact key _ (by omega) (by omega) (by omega)
      · intro h1
        exact key _ (by omega) (by omega) (by omega)
  · apply TX11_amend <;> (try (intros; omega))
    intros; apply TX12_amend <;> (try simp (disch := decide) only [zup_of, zup_oi, zup_same]) <;> (try (intros; omega)) <;> (try (intros; exact ⟨by first | trivial | omega, zno hi (by first | decide | omega) rfl rfl (by first | decide | omega)⟩))
end AM
