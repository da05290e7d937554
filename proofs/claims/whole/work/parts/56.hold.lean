/-! CALLS: hold, leave, asked, answer -/
abbrev zWp : zPl := zWs ++ [(0, some 13), (98, some 0), (54, none), (55, none), (56, none), (57, none), (130, none), (131, none), (132, none), (133, none)]
/-- places and the day have changed: the invariant -/
theorem zinv_pl {σ t : zS} (hi : zinv σ) (f : zfr zWp t σ) (h0 : t 0 13 = t 98 0) (h1 : σ 98 0 ≤ t 98 0 ∧ t 98 0 ≤ 40000)
    (hc : ∀ p, 0 ≤ p → p < σ 98 4 → t 54 p = t 130 p ∧ t 55 p = t 131 p ∧ t 56 p = t 132 p) (hps : ∀ p, 0 ≤ p → p < 12 → t 57 p = t 133 p)
    (hh : ∀ p, 0 ≤ p → p < σ 98 4 → (t 130 p = -1 ∨ (0 ≤ t 130 p ∧ t 130 p < σ 98 1)) ∧ (-1 ≤ t 131 p ∧ t 131 p ≤ t 98 0) ∧ (-1 ≤ t 132 p ∧ t 132 p ≤ t 98 0))
    (hu : ∀ p q, 0 ≤ p → p < q → q < σ 98 4 → σ 129 p = σ 129 q → t 130 p ≠ -1 → t 130 p ≠ t 130 q) : zinv t := by
  have hpl := g_zpla hi
  have hpC := g_zplC hi
  have hnow := g_zcnow hi
  have hn := (g_zppl hi).1
  have e1 : t 98 1 = σ 98 1 := zfr_at f rfl
  have e4 : t 98 4 = σ 98 4 := zfr_at f rfl
  have e129 : t 129 = σ 129 := zfr_row f rfl
  apply zinv_fr f hi <;> (try (intro h; exact absurd h (by decide)))
  · intro _
    exact ⟨h0, by have := hnow.2.1; omega, h1.2⟩
  · intro _ l l0 l1 h
    rw [zfr_row (q := 102) f rfl] at h
    rw [zfr_row (q := 103) f rfl]
    have := g_zlkw hi l l0 l1 h
    omega
  · intro _
    unfold zpla
    rw [e4, e129]
    refine ⟨hpl.1, fun p p0 p1 => ⟨(hpl.2.1 p p0 p1).1, ?_⟩, hu⟩
    have := (hh p p0 p1).1
    omega
  · intro _
    unfold zplC
    rw [e4, e129, zfr_at (q := 52) (j := 7) f rfl, zfr_row (q := 53) f rfl]
    refine ⟨hpC.1, fun p p0 p1 => ?_⟩
    have h2 := hc p p0 p1
    have := hpl.1
    exact ⟨(hpC.2 p p0 p1).1, h2.1, h2.2.1, h2.2.2, hps p p0 (by omega)⟩
  · intro _
    unfold zplc
    rw [e4, e1, zfr_at (q := 52) (j := 8) f rfl, zfr_at (q := 98) (j := 11) f rfl]
    exact ⟨(g_zplc hi).1, hh⟩
  · intro _
    exact hps
  · intro _
    have h := g_zyrs hi
    unfold zyrs zyr1 at h ⊢
    rw [zfr_at (q := 79) (j := 5) f rfl, zfr_at (q := 79) (j := 6) f rfl, zfr_row (q := 151) f rfl, zfr_row (q := 152) f rfl]
    exact ⟨⟨by omega, h.1.2⟩, by omega, h.2.2⟩
/-- one comes to a place -/
theorem zinv_cm {σ t : zS} {w p : Int} (hi : zinv σ) (hp : 0 ≤ p ∧ p < σ 98 4) (hw : 0 ≤ w ∧ w < σ 98 1) (hno : ¬ zhol σ (σ 129 p) w) (f : zfr zWp t σ) (h0 : t 0 13 = σ 98 0) (h0' : t 98 0 = σ 98 0)
    (r54 : ∀ j, t 54 j = if j = p then w else σ 54 j) (r55 : ∀ j, t 55 j = if j = p then σ 98 0 else σ 55 j) (r56 : ∀ j, t 56 j = if j = p then -1 else σ 56 j) (r57 : ∀ j, t 57 j = if j = p then 0 else σ 57 j)
    (r130 : ∀ j, t 130 j = if j = p then w else σ 130 j) (r131 : ∀ j, t 131 j = if j = p then σ 98 0 else σ 131 j) (r132 : ∀ j, t 132 j = if j = p then -1 else σ 132 j) (r133 : ∀ j, t 133 j = if j = p then 0 else σ 133 j) : zinv t := by
  have hpl := g_zpla hi
  have hpC := g_zplC hi
  have hnow := g_zcnow hi
  have hz := g_zplc hi
  refine zinv_pl hi f (by omega) ⟨by omega, by have := hnow.2; omega⟩ (fun q q0 q1 => ?_) (fun q q0 q1 => ?_) (fun q q0 q1 => ?_) (fun q q' q0 q1 q2 hk hne => ?_)
  · have := hpC.2 q q0 q1
    rw [r54, r55, r56, r130, r131, r132]
    by_cases e : q = p
    · simp only [if_pos e, true_and]
    · simp only [if_neg e]
      exact ⟨this.2.1, this.2.2.1, this.2.2.2.1⟩
  · have := g_zpas hi q q0 q1
    rw [r57, r133]
    by_cases e : q = p
    · simp only [if_pos e]
    · simp only [if_neg e]
      exact this
  · have := hz.2 q q0 q1
    have hn := hnow.2
    rw [r130, r131, r132, h0']
    by_cases e : q = p
    · simp only [if_pos e]
      omega
    · simp only [if_neg e]
      exact this
  · rw [r130] at hne
    rw [r130, r130]
    by_cases e : q = p
    · rw [if_pos e, if_neg (by omega)]
      intro z
      exact hno ⟨q', by omega, by rw [← hk, e], z.symm⟩
    · rw [if_neg e] at hne ⊢
      by_cases e2 : q' = p
      · rw [if_pos e2]
        intro z
        exact hno ⟨q, by omega, by rw [hk, e2], z⟩
      · rw [if_neg e2]
        exact hpl.2.2 q q' q0 q1 q2 hk hne
/-- refusals over scratch, on either side -/
theorem zno_sc {σ s1 s2 : zS} {a : Int} (hi : zinv s1) (h : 0 ≤ a ∧ a < 8) (f : zfr zWs s2 (zup s1 97 a (zW (s1 97 a + 1)))) : zinv (zup s2 157 a (zW (s2 157 a + 1))) := by
  have hno := zno (a := a) (b := a) hi rfl rfl rfl h
  refine zinv_sc (σ := zup (zup s1 97 a (zW (s1 97 a + 1))) 157 a (zW (s1 157 a + 1))) ?_ hno
  have e157 : s2 157 a = s1 157 a := by rw [zfr_row f rfl, zup_of (by decide)]
  rw [e157]
  intro q j b
  unfold zup
  by_cases c : q = 157 ∧ j = a
  · rw [if_pos c, if_pos c]
  · rw [if_neg c, if_neg c]
    exact f q j b
section HD
variable {G : zG} {σ : zS}
theorem zpla_ar {p : Int} (hi : zinv σ) (hp : 0 ≤ p ∧ p < σ 98 4) : p < 12 := by have := (g_zpla hi).1; omega
theorem st_hold {a1 a2 : Int} (hi : zinv σ) : zst2 G MX11_hold [zr 0, zi a1, zi a2] MX12_hold [zr 98, zi a1, zi a2] σ := by
  obtain ⟨l, hM, hC⟩ := g_ztur hi
  have hpl := g_zpla hi
  have hpC := g_zplC hi
  have hc := hpC.1
  have h0 := hpl.1
  have hp := g_zppl hi
  have hpc := hp.2.1
  have hnow := (g_zcnow hi).1
  by_cases hok : (0 ≤ a1 ∧ a1 < σ 98 1) ∧ (0 ≤ a2 ∧ a2 < σ 98 4)
  · obtain ⟨hw, hpp⟩ := hok
    have hC2 := hpC.2 a2 hpp.1 hpp.2
    have hk := (hpl.2.1 a2 hpp.1 hpp.2).1
    apply TX11_hold <;> (try (intros; omega))
    · intro _ _ h1
      rw [hC2.1, hnow]
      refine okC_take (zlaws_of hi hM hC) hpl hpC hw hk (fun s1 r f1 hr => ?_)
      have hi1 := zinv_sc f1 hi
      have s13 : s1 0 13 = σ 98 0 := by rw [zfr_at (q := 0) (j := 13) f1 rfl]; exact hnow
      rcases hr with ⟨rfl, hno, hcan⟩ | ⟨rfl, hnot⟩
      · apply TX11_hold_62 <;> (try (intros; omega))
        intro _
        rw [s13]
        generalize hs2 : zup (zup (zup (zup s1 54 a2 a1) 55 a2 (σ 98 0)) 56 a2 (-1)) 57 a2 0 = s2
        have f2 : zfr [(54, none), (55, none), (56, none), (57, none)] s2 s1 := by rw [← hs2]; exact zfr_uA rfl (zfr_uA rfl (zfr_uA rfl (zfr_uA rfl zfr_0)))
        have l2 : zlaws s2 l := zlaws_ke (zfr_sm f2 rfl) (zlaws_ke (zfr_sm f1 rfl) (zlaws_of hi hM hC))
        have e98 : s2 98 1 = σ 98 1 := by rw [zfr_at f2 rfl, zfr_at f1 rfl]
        have e4 : s2 98 4 = σ 98 4 := by rw [zfr_at f2 rfl, zfr_at f1 rfl]
        have e130 : s2 130 = σ 130 := by rw [zfr_row f2 rfl, zfr_row f1 rfl]
        have e129 : s2 129 = σ 129 := by rw [zfr_row f2 rfl, zfr_row f1 rfl]
        have e0 : s2 98 0 = σ 98 0 := by rw [zfr_at f2 rfl, zfr_at f1 rfl]
        apply TX12_hold <;> (try rw [e98]) <;> (try rw [e4]) <;> (try rw [e130]) <;> (try rw [e129]) <;> (try (intros; omega))
        intro _ _ _
        refine okM_mh l2 (by rw [e98]; exact hw) hk (fun s3 r3 f3 hr3 => ?_)
        have hcan2 : zcan s2 l (s2 98 0) a1 (σ 129 a2) := by
          rw [e0]
          exact (zcan_sm (zfr_sm f2 rfl)).mpr ((zcan_sm (zsc_D f1)).mpr hcan)
        have hr1 : r3 = 1 := by
          rcases hr3 with h | h
          · exact h.1
          · exact absurd hcan2 h.2
        have f4 : zfr zWp s3 σ := zfr_tr (zfr_tr (zfr_mo rfl f1) (zfr_mo rfl f2)) (zfr_mo rfl f3)
        have q4 : s3 98 4 = σ 98 4 := zfr_at f4 rfl
        have q129 : s3 129 = σ 129 := zfr_row f4 rfl
        have q130 : s3 130 = σ 130 := by rw [zfr_row f3 rfl, e130]
        have pl3 : zpla s3 := by unfold zpla; rw [q4, q129, q130]; exact hpl
        have q0 : s3 98 0 = σ 98 0 := by rw [zfr_at f3 rfl, e0]
        apply TX12_hold_43 <;> (try (intros; omega))
        intro _
        rw [q129]
        refine okX12_placeHeld pl3 (fun r5 hr5 => ?_)
        have hno3 : ¬ zhol s3 (σ 129 a2) a1 := by
          rintro ⟨x, x0, x1, x2⟩
          rw [q4] at x0
          rw [q129] at x1
          rw [q130] at x2
          exact hno ⟨x, x0, x1, x2⟩
        have h5 : r5 = -1 := by
          rcases hr5 with h | ⟨h, h', h'', _⟩
          · exact h.1
          · exact absurd ⟨r5, h, h', h''⟩ hno3
        apply TX12_hold_57 <;> (try (intros; omega))
        intro _
        rw [q0]
        refine ⟨rfl, zinv_cm hi hpp hw hno (zfr_uA rfl (zfr_uA rfl (zfr_uA rfl (zfr_uA rfl f4)))) ?_ ?_ (fun j => ?_) (fun j => ?_) (fun j => ?_) (fun j => ?_) (fun j => ?_) (fun j => ?_) (fun j => ?_) (fun j => ?_)⟩
        · rw [zup_of (by decide), zup_of (by decide), zup_of (by decide), zup_of (by decide), zfr_at f3 rfl, zfr_at f2 rfl]; exact s13
        · rw [zup_of (by decide), zup_of (by decide), zup_of (by decide), zup_of (by decide)]; exact q0
        · rw [zup_of (by decide), zup_of (by decide), zup_of (by decide), zup_of (by decide), zfr_row f3 rfl, ← hs2, zup_of (by decide), zup_of (by decide), zup_of (by decide), zup_at, zfr_row f1 rfl]
        · rw [zup_of (by decide), zup_of (by decide), zup_of (by decide), zup_of (by decide), zfr_row f3 rfl, ← hs2, zup_of (by decide), zup_of (by decide), zup_at, zup_of (by decide), zfr_row f1 rfl]
        · rw [zup_of (by decide), zup_of (by decide), zup_of (by decide), zup_of (by decide), zfr_row f3 rfl, ← hs2, zup_of (by decide), zup_at, zup_of (by decide), zup_of (by decide), zfr_row f1 rfl]
        · rw [zup_of (by decide), zup_of (by decide), zup_of (by decide), zup_of (by decide), zfr_row f3 rfl, ← hs2, zup_at, zup_of (by decide), zup_of (by decide), zup_of (by decide), zfr_row f1 rfl]
        · rw [zup_of (by decide), zup_of (by decide), zup_of (by decide), zup_at, q130]
        · rw [zup_of (by decide), zup_of (by decide), zup_at, zup_of (by decide), zfr_row f3 rfl, zfr_row f2 rfl, zfr_row f1 rfl]
        · rw [zup_of (by decide), zup_at, zup_of (by decide), zup_of (by decide), zfr_row f3 rfl, zfr_row f2 rfl, zfr_row f1 rfl]
        · rw [zup_at, zup_of (by decide), zup_of (by decide), zup_of (by decide), zfr_row f3 rfl, zfr_row f2 rfl, zfr_row f1 rfl]
      · apply TX11_hold_62 <;> (try (intros; omega))
        intro _
        generalize hs2 : zup s1 97 (- -6) (zW (s1 97 (- -6) + 1)) = s2
        have f2 : zfr [(97, none)] s2 s1 := by rw [← hs2]; exact zfr_uA rfl zfr_0
        have l2 : zlaws s2 l := zlaws_ke (zfr_sm f2 rfl) (zlaws_ke (zfr_sm f1 rfl) (zlaws_of hi hM hC))
        have e98 : s2 98 1 = σ 98 1 := by rw [zfr_at f2 rfl, zfr_at f1 rfl]
        have e4 : s2 98 4 = σ 98 4 := by rw [zfr_at f2 rfl, zfr_at f1 rfl]
        have e130 : s2 130 = σ 130 := by rw [zfr_row f2 rfl, zfr_row f1 rfl]
        have e129 : s2 129 = σ 129 := by rw [zfr_row f2 rfl, zfr_row f1 rfl]
        have e0 : s2 98 0 = σ 98 0 := by rw [zfr_at f2 rfl, zfr_at f1 rfl]
        apply TX12_hold <;> (try rw [e98]) <;> (try rw [e4]) <;> (try rw [e130]) <;> (try rw [e129]) <;> (try (intros; omega))
        intro _ _ _
        refine okM_mh l2 (by rw [e98]; exact hw) hk (fun s3 r3 f3 hr3 => ?_)
        have fin : ∀ s, zfr zWs s s2 → zinv (zup s 157 (- -6) (zW (s 157 (- -6) + 1))) := fun s hf => zno_sc (σ := σ) hi1 (by decide) (by rw [hs2]; exact hf)
        rcases hr3 with ⟨rfl, hcan⟩ | ⟨rfl, _⟩
        · apply TX12_hold_43 <;> (try (intros; omega))
          intro _
          have q4 : s3 98 4 = σ 98 4 := by rw [zfr_at f3 rfl, e4]
          have q129 : s3 129 = σ 129 := by rw [zfr_row f3 rfl, e129]
          have q130 : s3 130 = σ 130 := by rw [zfr_row f3 rfl, e130]
          have pl3 : zpla s3 := by unfold zpla; rw [q4, q129, q130]; exact hpl
          rw [q129]
          refine okX12_placeHeld pl3 (fun r5 hr5 => ?_)
          have h5 : r5 ≠ -1 := by
            rcases hr5 with h | ⟨h, _⟩
            · have hno : ¬ zhol σ (σ 129 a2) a1 := by
                rintro ⟨x, x0, x1, x2⟩
                exact h.2 ⟨x, by rw [q4]; exact x0, by rw [q129]; exact x1, by rw [q130]; exact x2⟩
              rw [e0] at hcan
              exact absurd ⟨hno, (zcan_sm (zsc_D f1)).mp ((zcan_sm (zfr_sm f2 rfl)).mp hcan)⟩ hnot
            · omega
          apply TX12_hold_57 <;> (try (intros; omega))
          intro _
          exact ⟨rfl, fin _ f3⟩
        · apply TX12_hold_43 <;> (try (intros; omega))
          intro _
          exact ⟨rfl, fin _ f3⟩
    · intros; apply TX12_hold <;> (try simp (disch := decide) only [zup_of, zup_oi, zup_same]) <;> (try (intros; omega)) <;> (try (intros; exact ⟨by first | trivial | omega, zno hi (by first | decide | omega) rfl rfl (by first | decide | omega)⟩))
  · apply TX11_hold <;> (try (intros; omega))
    intros; apply TX12_hold <;> (try simp (disch := decide) only [zup_of, zup_oi, zup_same]) <;> (try (intros; omega)) <;> (try (intros; exact ⟨by first | trivial | omega, zno hi (by first | decide | omega) rfl rfl (by first | decide | omega)⟩))
theorem st_leave {a1 : Int} (hi : zinv σ) : zst2 G MX11_leave [zr 0, zi a1] MX12_leave [zr 98, zi a1] σ := by
  have hpl := g_zpla hi
  have hpC := g_zplC hi
  have hc := hpC.1
  have h0 := hpl.1
  have hnow := g_zcnow hi
  by_cases hp : 0 ≤ a1 ∧ a1 < σ 98 4
  · have h2 := hpC.2 a1 hp.1 hp.2
    apply TX11_leave <;> (try (intros; omega))
    · intro _ h1
      apply TX12_leave <;> (try simp (disch := decide) only [zup_of, zup_oi, zup_same]) <;> (try (intros; omega))
      intros
      apply TX12_ends <;> (try (intros; omega))
      intro _
      refine TX12_leave_44 ⟨by omega, ?_⟩
      refine zinv_pl hi (by repeat (first | exact zfr_0 | refine zfr_uF rfl ?_ | refine zfr_uA rfl ?_ | refine zfr_cp rfl ?_ | refine zfr_fl rfl ?_ | refine zfr_s0 rfl (by omega) ?_ | refine zfr_sl rfl (by omega) ?_ | refine zfr_sc rfl (by omega) ?_)) ?_ ?_ (fun p p0 p1 => ?_) (fun p p0 p1 => ?_) (fun p p0 p1 => ?_) (fun p q p0 p1 p2 hk hne => ?_)
      · (try simp (disch := decide) only [zup_of, zup_oi, zup_same])
        exact hnow.1
      · (try simp (disch := decide) only [zup_of, zup_oi, zup_same])
        exact ⟨Int.le_refl _, hnow.2.2⟩
      · have := hpC.2 p p0 p1
        ((try simp (disch := decide) only [zup_of, zup_oi, zup_same]) <;> (try simp only [zup_at]) <;> (try simp (disch := decide) only [zup_of, zup_oi, zup_same]) <;> (try simp only [zup_at]) <;> (try simp (disch := decide) only [zup_of, zup_oi, zup_same]) <;> (try simp only [zup_at]) <;> (try simp (disch := decide) only [zup_of, zup_oi, zup_same]))
        by_cases e : p = a1
        · simp only [if_pos e, true_and]
        · simp only [if_neg e]
          exact ⟨this.2.1, this.2.2.1, this.2.2.2.1⟩
      · (try simp (disch := decide) only [zup_of, zup_oi, zup_same])
        exact g_zpas hi p p0 p1
      · have := (g_zplc hi).2 p p0 p1
        have hn := hnow.2
        ((try simp (disch := decide) only [zup_of, zup_oi, zup_same]) <;> (try simp only [zup_at]) <;> (try simp (disch := decide) only [zup_of, zup_oi, zup_same]) <;> (try simp only [zup_at]) <;> (try simp (disch := decide) only [zup_of, zup_oi, zup_same]) <;> (try simp only [zup_at]) <;> (try simp (disch := decide) only [zup_of, zup_oi, zup_same]))
        by_cases e : p = a1
        · simp only [if_pos e, true_or, true_and]
          omega
        · simp only [if_neg e]
          exact this
      · revert hne
        ((try simp (disch := decide) only [zup_of, zup_oi, zup_same]) <;> (try simp only [zup_at]) <;> (try simp (disch := decide) only [zup_of, zup_oi, zup_same]) <;> (try simp only [zup_at]) <;> (try simp (disch := decide) only [zup_of, zup_oi, zup_same]) <;> (try simp only [zup_at]) <;> (try simp (disch := decide) only [zup_of, zup_oi, zup_same]))
        by_cases e : p = a1
        · rw [if_pos e]
          intro z
          exact absurd rfl z
        · rw [if_neg e]
          intro z
          by_cases e2 : q = a1
          · rw [if_pos e2]
            exact z
          · rw [if_neg e2]
            exact hpl.2.2 p q p0 p1 p2 hk z
    · intros; apply TX12_leave <;> (try simp (disch := decide) only [zup_of, zup_oi, zup_same]) <;> (try (intros; omega)) <;> (try (intros; exact ⟨by first | trivial | omega, zno hi (by first | decide | omega) rfl rfl (by first | decide | omega)⟩))
  · apply TX11_leave <;> (try (intros; omega))
    intros; apply TX12_leave <;> (try simp (disch := decide) only [zup_of, zup_oi, zup_same]) <;> (try (intros; omega)) <;> (try (intros; exact ⟨by first | trivial | omega, zno hi (by first | decide | omega) rfl rfl (by first | decide | omega)⟩))
end HD
