/-! CALLS: elect -/
section EL
variable {G : zG} {σ : zS} {Q : Int → zS → Prop}
/-- slot e keeps the ballot of w -/
def zkp1 (σ t : zS) (w e : Int) : Prop := t 169 e = σ 135 w ∧ ∀ j, 0 ≤ j → j < σ 135 w → t 168 (80 * e + j) = σ 134 (80 * w + j)
def zkps (σ t : zS) (ow : Int → Int) (k i : Int) : Prop := (∀ e, 0 ≤ e → e < k → (∃ q, (0 ≤ q ∧ q < i) ∧ zfel σ q ∧ σ 130 q = ow e) ∧ 0 ≤ σ 135 (ow e) ∧ zkp1 σ t (ow e) e) ∧ (∀ e e', 0 ≤ e → e < e' → e' < k → ow e ≠ ow e') ∧
  ∀ q, 0 ≤ q → q < i → zfel σ q → 0 ≤ σ 135 (σ 130 q) → ∃ e, (0 ≤ e ∧ e < k) ∧ ow e = σ 130 q
theorem okM_elect245 {p X v3 v4 r : Int} (hpl : zpla σ) (hb : ∀ w, 0 ≤ w → w < 24 → σ 135 w ≤ 80) (h91 : σ 98 91 = 0) (hr : r = -1 ∨ (0 ≤ r ∧ r < 24))
    (kq : ∀ (t : zS) (v6 : Int) (ow : Int → Int), zfr [(98, some 91), (168, none), (169, none)] t σ → (0 ≤ t 98 91 ∧ t 98 91 ≤ 12) → zkps σ t ow (t 98 91) (σ 98 4) → (((r = -1 ∨ σ 135 r < 0) ∧ t 169 12 = 0) ∨ ((r ≠ -1 ∧ 0 ≤ σ 135 r) ∧ zkp1 σ t r 12)) → zR G MX12_elect 327 [zr 98, zi p, zi X, zi v3, zi v4, zi r, zi v6] [] t Q) :
    zR G MX12_elect 245 [zr 98, zi p, zi X, zi v3, zi v4, zi r, zi 0] [] σ Q := by
  have h0 := hpl.1
  have loop : ∀ (n : Nat) (i : Int) (t : zS) (ow : Int → Int), (σ 98 4 - i).toNat = n → 0 ≤ i → i ≤ σ 98 4 → zfr [(98, some 91), (168, none), (169, none)] t σ → (0 ≤ t 98 91 ∧ t 98 91 ≤ i) → zkps σ t ow (t 98 91) i → zR G MX12_elect 245 [zr 98, zi p, zi X, zi v3, zi v4, zi r, zi i] [] t Q := by
    intro n
    induction n with
    | zero =>
      intro i t ow hm i0 i1 hf hk hh
      have : i = σ 98 4 := by omega
      subst this
      have q4 : t 98 4 = σ 98 4 := zfr_at hf rfl
      have q135 : t 135 = σ 135 := zfr_row hf rfl
      have q134 : t 134 = σ 134 := zfr_row hf rfl
      apply TX12_elect_245 <;> (try rw [q4]) <;> (try (intros; omega))
      intro _
      refine okX12_keeps (by omega) (by omega) (fun z => by rw [q135]; exact hb r z (by omega)) (fun s fs a1 a2 a3 => ?_)
      rw [q135, q134] at a3
      have q91 : s 98 91 = t 98 91 := zfr_at fs rfl
      refine kq s _ ow (zfr_tr hf (zfr_mo rfl fs)) (by omega) ?_ ?_
      · rw [q91]
        refine ⟨fun e e0 e1 => ?_, hh.2⟩
        obtain ⟨b1, b2, b3⟩ := hh.1 e e0 e1
        refine ⟨b1, b2, by rw [a1 e (by omega)]; exact b3.1, fun j j0 j1 => ?_⟩
        obtain ⟨q, q0, q1, q2⟩ := b1
        have hm2 := (hpl.2.1 q q0.1 q0.2).2
        have hne := q1.2
        have h80 := hb (ow e) (by omega) (by omega)
        rw [a2 e j (by omega) j0 (by omega)]
        exact b3.2 j j0 j1
      · rcases a3 with ⟨x, y⟩ | ⟨x, y, z⟩
        · exact Or.inl ⟨x, y⟩
        · exact Or.inr ⟨x, y, z⟩
    | succ n ih =>
      intro i t ow hm i0 i1 hf hk hh
      have q4 : t 98 4 = σ 98 4 := zfr_at hf rfl
      have q135 : t 135 = σ 135 := zfr_row hf rfl
      have q134 : t 134 = σ 134 := zfr_row hf rfl
      have q129 : t 129 = σ 129 := zfr_row hf rfl
      have q130 : t 130 = σ 130 := zfr_row hf rfl
      have hm2 := (hpl.2.1 i i0 (by omega)).2
      by_cases c : zfel σ i ∧ 0 ≤ σ 135 (σ 130 i)
      · have c1 : σ 129 i = 1 := c.1.1
        have c2 : σ 130 i ≠ -1 := c.1.2
        have c3 := c.2
        generalize hw : σ 130 i = w at hm2 c2 c3
        have h80 := hb w (by omega) (by omega)
        apply TX12_elect_245 <;> (try rw [q4]) <;> (try rw [q129]) <;> (try rw [q130]) <;> (try rw [hw]) <;> (try rw [q135]) <;> (try (intros; omega))
        intro _ _ _ _
        generalize hk2 : t 98 91 = k at hk hh
        have f1 : zfr [(98, some 91), (168, none), (169, none)] (zup t 98 91 (k + 1)) σ := zfr_uF rfl hf
        refine okX12_keeps (by omega) (by omega) (fun z => by rw [zfr_row (q := 135) f1 rfl]; exact h80) (fun s fs a1 a2 a3 => ?_)
        rw [zfr_row (q := 135) f1 rfl, zfr_row (q := 134) f1 rfl] at a3
        have q91 : s 98 91 = k + 1 := by rw [zfr_at fs rfl, zup_same]
        apply TX12_elect_313
        · omega
        refine ih (i + 1) s (fun e => if e = k then w else ow e) (by omega) (by omega) (by omega) (zfr_tr f1 (zfr_mo rfl fs)) (by omega) ?_
        rw [q91]
        have a3' : s 169 k = σ 135 w ∧ ∀ j, 0 ≤ j → j < σ 135 w → s 168 (80 * k + j) = σ 134 (80 * w + j) := by
          rcases a3 with ⟨x, y⟩ | ⟨x, y, z⟩
          · omega
          · exact ⟨y, z⟩
        refine ⟨fun e e0 e1 => ?_, fun e e' e0 e1 e2 => ?_, fun q qq0 qq1 qf qb => ?_⟩
        · by_cases x : e = k
          · simp only [if_pos x]
            refine ⟨⟨i, by omega, c.1, hw⟩, c3, ?_⟩
            rw [x]
            exact a3'
          · simp only [if_neg x]
            obtain ⟨⟨q, q0, q1, q2⟩, b2, b3⟩ := hh.1 e e0 (by omega)
            have hm3 := (hpl.2.1 q q0.1 (by omega)).2
            have hne := q1.2
            have h80' := hb (ow e) (by omega) (by omega)
            refine ⟨⟨q, by omega, q1, q2⟩, b2, ?_, fun j j0 j1 => ?_⟩
            · rw [a1 e x, zup_of (by decide)]
              exact b3.1
            · rw [a2 e j x j0 (by omega), zup_of (by decide)]
              exact b3.2 j j0 j1
        · show (if e = k then w else ow e) ≠ (if e' = k then w else ow e')
          rw [if_neg (by omega)]
          by_cases x : e' = k
          · rw [if_pos x]
            obtain ⟨⟨q, q0, q1, q2⟩, _, _⟩ := hh.1 e e0 (by omega)
            rw [← q2, ← hw]
            exact hpl.2.2 q i q0.1 q0.2 (by omega) (by rw [q1.1, c1]) q1.2
          · rw [if_neg x]
            exact hh.2.1 e e' e0 e1 (by omega)
        · by_cases x : q = i
          · exact ⟨k, by omega, by simp only [if_pos]; rw [x, hw]⟩
          · obtain ⟨e, a, b⟩ := hh.2.2 q qq0 (by omega) qf qb
            exact ⟨e, by omega, by simp only [if_neg (show ¬ e = k from by omega)]; exact b⟩
      · have c' : σ 129 i ≠ 1 ∨ (σ 129 i = 1 ∧ σ 130 i = -1) ∨ (σ 129 i = 1 ∧ σ 130 i ≠ -1 ∧ σ 135 (σ 130 i) < 0) := by
          by_cases x : σ 129 i = 1
          · by_cases y : σ 130 i = -1
            · exact Or.inr (Or.inl ⟨x, y⟩)
            · by_cases z : σ 135 (σ 130 i) < 0
              · exact Or.inr (Or.inr ⟨x, y, z⟩)
              · exact absurd ⟨⟨x, y⟩, by omega⟩ c
          · exact Or.inl x
        have go := ih (i + 1) t ow (by omega) (by omega) (by omega) hf (by omega) ⟨fun e e0 e1 => by
          obtain ⟨⟨q, q0, q1⟩, b2⟩ := hh.1 e e0 e1
          exact ⟨⟨q, by omega, q1⟩, b2⟩, hh.2.1, fun q q0 q1 qf qb => by
          by_cases x : q = i
          · rw [x] at qf qb; exact absurd ⟨qf, qb⟩ c
          · exact hh.2.2 q q0 (by omega) qf qb⟩
        clear ih hh
        apply TX12_elect_245 <;> (try rw [q4]) <;> (try rw [q129]) <;> (try rw [q130]) <;> (try rw [q135]) <;> (try (intros; omega))
        all_goals (intros; exact go)
  refine loop _ 0 σ (fun _ => 0) rfl (by omega) h0.1 zfr_0 (by omega) ?_
  rw [h91]
  exact ⟨fun e a b => by omega, fun e e' a b c => by omega, fun q a b => by omega⟩
/-- F but for the places -/
def zmix (σ F : zS) : zS := fun q j => if q = 54 ∨ q = 55 ∨ q = 56 ∨ q = 57 ∨ q = 130 ∨ q = 131 ∨ q = 132 ∨ q = 133 then σ q j else F q j
abbrev zWe : zPl := zWs ++ [(65, some 7), (65, some 8), (65, some 9), (63, none), (64, none), (66, none), (65, some 10), (98, some 91), (168, none), (169, none), (98, some 89), (98, some 90), (172, none), (171, none), (170, none), (98, some 92)]
abbrev zPp : zPl := [(54, none), (55, none), (56, none), (57, none), (130, none), (131, none), (132, none), (133, none)]
theorem zmix_1 {F : zS} (f : zfr (zWe ++ zPp) F σ) : zfr zWe (zmix σ F) σ := by
  intro q j h
  unfold zmix
  by_cases c : q = 54 ∨ q = 55 ∨ q = 56 ∨ q = 57 ∨ q = 130 ∨ q = 131 ∨ q = 132 ∨ q = 133
  · rw [if_pos c]
  · rw [if_neg c]
    refine f q j ?_
    rintro ⟨d, hd, e1, e2⟩
    rcases List.mem_append.mp hd with z | z
    · exact h ⟨d, z, e1, e2⟩
    · simp only [List.mem_cons, List.not_mem_nil, or_false] at z
      rcases z with rfl | rfl | rfl | rfl | rfl | rfl | rfl | rfl <;> simp only at e1 <;> omega
theorem zmix_2 {F : zS} : zfr zPp F (zmix σ F) := by
  intro q j h
  unfold zmix
  rw [if_neg]
  intro c
  refine h ?_
  rcases c with rfl | rfl | rfl | rfl | rfl | rfl | rfl | rfl
  · exact ⟨(54, none), by simp, rfl, Or.inl rfl⟩
  · exact ⟨(55, none), by simp, rfl, Or.inl rfl⟩
  · exact ⟨(56, none), by simp, rfl, Or.inl rfl⟩
  · exact ⟨(57, none), by simp, rfl, Or.inl rfl⟩
  · exact ⟨(130, none), by simp, rfl, Or.inl rfl⟩
  · exact ⟨(131, none), by simp, rfl, Or.inl rfl⟩
  · exact ⟨(132, none), by simp, rfl, Or.inl rfl⟩
  · exact ⟨(133, none), by simp, rfl, Or.inl rfl⟩
theorem zsel_e {lim n m : Int} {f g : Int → Int} (hn : n ≤ 0) (hm : m ≤ 0) : zsel lim f n g m := by
  intro S hS r
  constructor
  · rintro (⟨e, _⟩ | ⟨j, a, _⟩)
    · exact Or.inl ⟨e, fun i a b => by omega⟩
    · omega
  · rintro (⟨e, _⟩ | ⟨j, a, _⟩)
    · exact Or.inl ⟨e, fun i a b => by omega⟩
    · omega
/-- the cast of the election is in order -/
theorem zcst_mk {s t : zS} {D : zED} {ow : Int → Int} (hb : zblt σ) (hpl : zpla σ) (hD : zhD D t) (hbits : ∀ v, 0 ≤ v → v < 24 → (zbit (zD1 D) v ↔ zhol σ 1 v ∧ σ 61 v ≠ -1)) (hfo : zfo σ (σ 98 4) (zD2 D)) (hord : ∀ j, 0 ≤ j → j < 576 → zDo D j = σ 60 j) (hsiz : ∀ v, 0 ≤ v → v < 24 → zDz D v = σ 61 v)
    (hf : zfr [(98, some 91), (168, none), (169, none)] t s) (e134 : s 134 = σ 134) (e135 : s 135 = σ 135) (e129 : s 129 = σ 129) (e130 : s 130 = σ 130) (e4 : s 98 4 = σ 98 4)
    (hk : 0 ≤ t 98 91 ∧ t 98 91 ≤ 12) (hkp : zkps s t ow (t 98 91) (s 98 4)) (hd : (((zD2 D) = -1 ∨ s 135 (zD2 D) < 0) ∧ t 169 12 = 0) ∨ (((zD2 D) ≠ -1 ∧ 0 ≤ s 135 (zD2 D)) ∧ zkp1 s t (zD2 D) 12)) : zcst t := by
  obtain ⟨d1, d2, d3, d4, _, _⟩ := hD
  have fel : zfel s = zfel σ := by unfold zfel; rw [e129, e130]
  have one : ∀ w e, 0 ≤ w → w < 24 → 0 ≤ σ 135 w → zkp1 s t w e → zcs1 t w e := by
    intro w e w0 w1 hw hz
    have hz1 := hz.1
    have hz2 := hz.2
    rw [e135] at hz1 hz2
    rw [e134] at hz2
    unfold zcs1
    rw [d3, d4, hsiz w w0 w1, hz1]
    rcases hb w w0 w1 with h | ⟨h1, h2, h3, h4⟩
    · omega
    · refine ⟨⟨w0, w1⟩, by omega, h2, fun i i0 i1 => ?_, zsel_cgl (zsel_cgr h4 (fun j j0 j1 => hz2 j j0 j1)) (fun j j0 j1 => hord _ (by omega) (by omega))⟩
      show 0 ≤ zDo D (24 * w + i) ∧ zDo D (24 * w + i) < 24
      rw [hord _ (by omega) (by omega)]
      exact h3 i i0 i1
  have hol : ∀ v, 0 ≤ v → zhol σ 1 v → ∃ q, (0 ≤ q ∧ q < s 98 4) ∧ zfel s q ∧ s 130 q = v := by
    rintro v v0 ⟨q, a, b, c⟩
    rw [fel, e130, e4]
    exact ⟨q, a, ⟨b, by rw [c]; omega⟩, c⟩
  have blt : ∀ v, 0 ≤ v → v < 24 → (0 ≤ σ 135 v ↔ σ 61 v ≠ -1) := by
    intro v v0 v1
    have := hb v v0 v1
    omega
  refine ⟨⟨hk, ow, fun e e0 e1 => ?_, hkp.2.1, fun w w0 w1 hz => ?_⟩, ?_⟩
  · obtain ⟨⟨q, q0, q1, q2⟩, b2, b3⟩ := hkp.1 e e0 e1
    rw [fel] at q1
    rw [e130] at q2
    rw [e4] at q0
    rw [e135] at b2
    have hm := (hpl.2.1 q q0.1 q0.2).2
    have hne := q1.2
    have r0 : 0 ≤ ow e ∧ ow e < 24 := by omega
    refine ⟨one _ e r0.1 r0.2 b2 b3, ?_⟩
    rw [d1]
    exact (hbits _ r0.1 r0.2).mpr ⟨⟨q, q0, q1.1, q2⟩, (blt _ r0.1 r0.2).mp b2⟩
  · rw [d1] at hz
    have h2 := (hbits w w0 w1).mp hz
    obtain ⟨q, q0, q1, q2⟩ := hol w w0 h2.1
    have := hkp.2.2 q q0.1 q0.2 q1 (by rw [q2, e135]; exact (blt w w0 w1).mpr h2.2)
    rw [q2] at this
    exact this
  · rw [d2]
    have rr : (zD2 D) = -1 ∨ (0 ≤ (zD2 D) ∧ (zD2 D) < 24) := by
      rcases hfo with ⟨a, _⟩ | ⟨q, a, b, c, _⟩
      · exact Or.inl a
      · have := (hpl.2.1 q a.1 a.2).2
        exact Or.inr (by omega)
    rcases hd with ⟨a, b⟩ | ⟨⟨a, a2⟩, b⟩
    · by_cases x : (zD2 D) = -1
      · exact Or.inl ⟨x, b⟩
      · have r2 := rr.resolve_left x
        have a' := a.resolve_left x
        rw [e135] at a'
        refine Or.inr ⟨x, ?_⟩
        have hs : σ 61 (zD2 D) = -1 := by
          have := blt _ r2.1 r2.2
          by_cases y : σ 61 (zD2 D) = -1
          · exact y
          · have := this.mpr y
            omega
        unfold zcs1
        rw [d3, d4, hsiz _ r2.1 r2.2, hs, b]
        exact ⟨r2, by omega, by omega, fun i i0 i1 => by omega, zsel_e (by omega) (by omega)⟩
    · have r2 := rr.resolve_left a
      rw [e135] at a2
      exact Or.inr ⟨a, one _ 12 r2.1 r2.2 a2 b⟩
end EL
