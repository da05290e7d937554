/-! CALLS: judge -/
section JU
variable {G : zG} {σ : zS} {Q : Int → zS → Prop}
/-- a plan that can be followed -/
def zcf (σ : zS) (Y n : Int) (w : Int → Int) : Prop := zsb2 σ Y n (w 0) ∧ ∀ r, 0 ≤ r → r < σ 98 10 → -1 ≤ w (1 + r) ∧ w (1 + r) < n
/-- the year of a roof in it -/
noncomputable def zyf (σ : zS) (n : Int) (w : Int → Int) (r : Int) : Int := zif2 (r < σ 98 10 ∧ w (1 + r) ≠ -1) (w (1 + r)) n
theorem zyf_b {Y n : Int} {w : Int → Int} (hn : 1 ≤ n) (h : zcf σ Y n w) {r : Int} (r0 : 0 ≤ r) : (0 ≤ zyf σ n w r ∧ zyf σ n w r ≤ n) ∧ (zyf σ n w r < n → r < σ 98 10) ∧ (r < σ 98 10 → zty n (zyf σ n w r) (w (1 + r))) := by
  unfold zyf
  by_cases c : r < σ 98 10 ∧ w (1 + r) ≠ -1
  · rw [zif2_y c]
    have h2 := h.2 r r0 c.1
    have h3 := c.2
    exact ⟨by omega, fun _ => c.1, fun _ => Or.inr ⟨h2.2, rfl⟩⟩
  · rw [zif2_n c]
    refine ⟨by omega, fun z => by omega, fun z => Or.inl ⟨rfl, ?_⟩⟩
    by_cases d : w (1 + r) = -1
    · exact d
    · exact absurd ⟨z, d⟩ c
theorem zyf_ry {Y n : Int} {w : Int → Int} (hn : 1 ≤ n) (h : zcf σ Y n w) : zry σ n (zyf σ n w 0) (zyf σ n w 1) :=
  ⟨(zyf_b hn h (r := 0) (by omega)).1, (zyf_b hn h (r := 1) (by omega)).1, (zyf_b hn h (r := 0) (by omega)).2.1, (zyf_b hn h (r := 1) (by omega)).2.1⟩
theorem okX7_canFollow {s : zS} {a n up Y : Int} {w : Int → Int} (hi : zinv σ) (ha : 0 ≤ a ∧ a < 10) (h : zprp σ s Y n up) (hw : ∀ i, 0 ≤ i → i < 80 → zW (s (3 + 2 * a.toNat) i) = w i) (k1 : zcf σ Y n w → Q 1 s) (k2 : ¬ zcf σ Y n w → Q 0 s) : zO G MX7_canFollow [zr 83, zr (2 + 2 * a.toNat)] s Q := by
  have ho := zsh_o ha.1 ha.2
  have he := zsh_e ha.1 ha.2
  have hr12 := (g_zrfs hi).1
  have s9 : s 83 9 = σ 98 10 := by rw [zfr_at h.1 rfl]; exact hr12.1
  have s10 := h.2.1
  have hw0 := hw 0 (by omega) (by omega)
  have hsub := zsb2_e (σ := σ) (Y := Y) (n := n) (b := w 0) (e := s 83 11) (h.2.2.2.1)
  by_cases c : zsb2 σ Y n (w 0)
  · have e0 := hsub.mpr c
    apply TX7_canFollow ho he <;> (try rw [hw0]) <;> (try (intros; omega))
    intro _
    have loop : ∀ (m : Nat) (r : Int), (σ 98 10 - r).toNat = m → 0 ≤ r → r ≤ σ 98 10 → (∀ x, 0 ≤ x → x < r → -1 ≤ w (1 + x) ∧ w (1 + x) < n) → zR G MX7_canFollow 19 [zr 83, zr (2 + 2 * a.toNat), zi r, zu] [] s Q := by
      intro m
      induction m with
      | zero =>
        intro r hm r0 r1 hx
        apply TX7_canFollow_19 ho he <;> (try rw [s9]) <;> (try (intros; omega))
        intro _
        exact k1 ⟨c, fun x a b => hx x a (by omega)⟩
      | succ m ih =>
        intro r hm r0 r1 hx
        have hwr := hw (1 + r) (by omega) (by omega)
        by_cases d : -1 ≤ w (1 + r) ∧ w (1 + r) < n
        · have go := ih (r + 1) (by omega) (by omega) (by omega) (fun x x0 x1 => by
            by_cases e : x = r
            · rw [e]; exact d
            · exact hx x x0 (by omega))
          apply TX7_canFollow_19 ho he <;> (try rw [s9]) <;> (try rw [hwr]) <;> (try rw [s10]) <;> (try (intros; omega))
          all_goals (intros; exact go)
        · have go := k2 (fun z => d (z.2 r r0 (by omega)))
          apply TX7_canFollow_19 ho he <;> (try rw [s9]) <;> (try rw [hwr]) <;> (try rw [s10]) <;> (try (intros; omega))
          all_goals (intros; exact go)
    exact loop _ 0 rfl (by omega) (by omega) (fun x a b => by omega)
  · have e0 : zand (w 0) (zxor (s 83 11) (-1)) ≠ 0 := fun z => c (hsub.mp z)
    have go := k2 (fun z => c z.1)
    apply TX7_canFollow ho he <;> (try rw [hw0]) <;> (try (intros; omega))
    all_goals (intros; exact go)
theorem okX7_yearOf {s : zS} {a n up Y r : Int} {w : Int → Int} (hi : zinv σ) (ha : 0 ≤ a ∧ a < 10) (h : zprp σ s Y n up) (hw : ∀ i, 0 ≤ i → i < 80 → zW (s (3 + 2 * a.toNat) i) = w i) (hr : 0 ≤ r ∧ r < 2) (kq : Q (zyf σ n w r) s) : zO G MX7_yearOf [zr 83, zr (2 + 2 * a.toNat), zi r] s Q := by
  have ho := zsh_o ha.1 ha.2
  have he := zsh_e ha.1 ha.2
  have hr12 := (g_zrfs hi).1
  have s9 : s 83 9 = σ 98 10 := by rw [zfr_at h.1 rfl]; exact hr12.1
  have s10 := h.2.1
  have hwr := hw (1 + r) (by omega) (by omega)
  unfold zyf at kq
  by_cases c : r < σ 98 10
  · by_cases d : w (1 + r) = -1
    · rw [zif2_n (fun z => z.2 d)] at kq
      apply TX7_yearOf ho he <;> (try rw [s9]) <;> (try rw [hwr]) <;> (try rw [s10]) <;> (try (intros; omega))
      all_goals (intros; exact kq)
    · rw [zif2_y ⟨c, d⟩] at kq
      apply TX7_yearOf ho he <;> (try rw [s9]) <;> (try rw [hwr]) <;> (try rw [s10]) <;> (try (intros; omega))
      all_goals (intros; exact kq)
  · rw [zif2_n (fun z => c z.1)] at kq
    apply TX7_yearOf ho he <;> (try rw [s9]) <;> (try rw [hwr]) <;> (try rw [s10]) <;> (try (intros; omega))
    all_goals (intros; exact kq)
theorem okX7_outcomeOf {s : zS} {a n up fl Y : Int} {w : Int → Int} (hi : zinv σ) (ha : 0 ≤ a ∧ a < 10) (hY : 0 ≤ Y ∧ Y ≤ 110) (hn : 1 ≤ n ∧ n ≤ 10) (hu : 0 ≤ up ∧ up ≤ 99999) (hfl : 0 ≤ fl ∧ fl ≤ 99999) (h : zprp σ s Y n up) (hw : ∀ i, 0 ≤ i → i < 80 → zW (s (3 + 2 * a.toNat) i) = w i) (hcf : zcf σ Y n w)
    (k1 : ∀ u, zfr [(88, none), (89, none)] u s → zkp σ Y n up (w 0) fl (zyf σ n w 0) (zyf σ n w 1) → Q (zwo σ Y n up (w 0) (zyf σ n w 0) (zyf σ n w 1)) u)
    (k2 : ∀ (u : zS) (k : Nat), zfr [(88, none), (89, none)] u s → (k : Int) < n → (∀ j : Nat, j < k → fl ≤ zbal σ Y n up (w 0) (j + 1) - zco σ (zyf σ n w 0) (zyf σ n w 1) j) → ¬ (fl ≤ zbal σ Y n up (w 0) (k + 1) - zco σ (zyf σ n w 0) (zyf σ n w 1) k) → Q (-10 - k) u) : zO G MX7_outcomeOf [zr 83, zr (2 + 2 * a.toNat), zi fl] s Q := by
  have ho := zsh_o ha.1 ha.2
  have he := zsh_e ha.1 ha.2
  have hc := (g_zrfs hi).2.1
  have c0 := hc 0 (by omega) (by omega)
  have c1 := hc 1 (by omega) (by omega)
  have hbb := zbal_b (n := n) (bits := w 0) hi hY hu
  have hry := zyf_ry hn.1 hcf
  have ry1 := hry.1
  have ry2 := hry.2.1
  refine TX7_outcomeOf ho he (okX7_yearOf hi ha h hw (by omega) ?_)
  refine TX7_outcomeOf_6 ho he (okX7_yearOf hi ha h hw (by omega) ?_)
  have hw0 := hw 0 (by omega) (by omega)
  generalize zyf σ n w 0 = o at k1 k2 hry ry1 ⊢
  generalize zyf σ n w 1 = q at k1 k2 hry ry2 ⊢
  apply TX7_outcomeOf_13 ho he <;> (try rw [hw0]) <;> (try (intros; omega))
  refine okX7_settle hi hY hn hu h (fun u fu hs => TX7_outcomeOf_24 ho he ?_)
  have hpu := zprp_mo h (zfr_mo (V := [(83, some 12), (83, some 13), (88, none), (89, none), (90, none)]) rfl fu)
  have u10 := hpu.2.1
  have u84 : u 84 = σ 84 := zfr_row hpu.1 rfl
  have loop : ∀ (m : Nat) (k : Nat), (n - k).toNat = m → (k : Int) ≤ n → (∀ j : Nat, j < k → fl ≤ zbal σ Y n up (w 0) (j + 1) - zco σ o q j) → zR G MX7_outcomeOf 27 [zr 83, zr (2 + 2 * a.toNat), zi fl, zi o, zi q, zi k, zu] [] u Q := by
    intro m
    induction m with
    | zero =>
      intro k hm hk hj
      apply TX7_outcomeOf_27 ho he <;> (try rw [u10]) <;> (try (intros; omega))
      intro _
      refine okX7_worthOf hi hY hn hu hry hpu hs ?_
      exact TX7_outcomeOf_105 ho he (k1 u fu (fun j j1 => hj j (by omega)))
    | succ m ih =>
      intro k hm hk hj
      have h88 := hs.1 k (by omega)
      have bk := hbb (k + 1) (by omega)
      have go1 : fl ≤ zbal σ Y n up (w 0) (k + 1) - zco σ o q k → zR G MX7_outcomeOf 27 [zr 83, zr (2 + 2 * a.toNat), zi fl, zi o, zi q, zi (k + 1), zu] [] u Q := fun z => by
        have go := ih (k + 1) (by omega) (by omega) (fun j hj2 => by
          by_cases e : j = k
          · rw [e]; exact z
          · exact hj j (by omega))
        rw [show ((k + 1 : Nat) : Int) = (k : Int) + 1 from by omega] at go
        exact go
      have go2 := k2 u k fu (by omega) hj
      have zc : zco σ o q k = zif2 (o ≤ (k : Int)) (σ 84 0) 0 + zif2 (q ≤ (k : Int)) (σ 84 1) 0 := rfl
      by_cases x : o ≤ (k : Int) <;> by_cases y : q ≤ (k : Int)
      · rw [zif2_y x, zif2_y y] at zc
        by_cases d : fl ≤ zbal σ Y n up (w 0) (k + 1) - zco σ o q k
        · have go := go1 d
          apply TX7_outcomeOf_27 ho he <;> (try rw [u10]) <;> (try rw [h88]) <;> (try rw [u84]) <;> (try (intros; omega))
          all_goals (intros; exact go)
        · have go := go2 d
          apply TX7_outcomeOf_27 ho he <;> (try rw [u10]) <;> (try rw [h88]) <;> (try rw [u84]) <;> (try (intros; omega))
          all_goals (intros; exact go)
      · rw [zif2_y x, zif2_n y] at zc
        by_cases d : fl ≤ zbal σ Y n up (w 0) (k + 1) - zco σ o q k
        · have go := go1 d
          apply TX7_outcomeOf_27 ho he <;> (try rw [u10]) <;> (try rw [h88]) <;> (try rw [u84]) <;> (try (intros; omega))
          all_goals (intros; exact go)
        · have go := go2 d
          apply TX7_outcomeOf_27 ho he <;> (try rw [u10]) <;> (try rw [h88]) <;> (try rw [u84]) <;> (try (intros; omega))
          all_goals (intros; exact go)
      · rw [zif2_n x, zif2_y y] at zc
        by_cases d : fl ≤ zbal σ Y n up (w 0) (k + 1) - zco σ o q k
        · have go := go1 d
          apply TX7_outcomeOf_27 ho he <;> (try rw [u10]) <;> (try rw [h88]) <;> (try rw [u84]) <;> (try (intros; omega))
          all_goals (intros; exact go)
        · have go := go2 d
          apply TX7_outcomeOf_27 ho he <;> (try rw [u10]) <;> (try rw [h88]) <;> (try rw [u84]) <;> (try (intros; omega))
          all_goals (intros; exact go)
      · rw [zif2_n x, zif2_n y] at zc
        by_cases d : fl ≤ zbal σ Y n up (w 0) (k + 1) - zco σ o q k
        · have go := go1 d
          apply TX7_outcomeOf_27 ho he <;> (try rw [u10]) <;> (try rw [h88]) <;> (try rw [u84]) <;> (try (intros; omega))
          all_goals (intros; exact go)
        · have go := go2 d
          apply TX7_outcomeOf_27 ho he <;> (try rw [u10]) <;> (try rw [h88]) <;> (try rw [u84]) <;> (try (intros; omega))
          all_goals (intros; exact go)
  exact loop _ 0 rfl (by omega) (fun j hj => absurd hj (by omega))
end JU
