/-! CALLS: choose, the class -/
theorem zb_full : ∀ c : Nat, c < 10 → ∀ r : Nat, r < 32 → bt (Int32.ofInt (zshl 1 (c : Int) - 1)) r = decide (r < c) := by decide +kernel
/-- a room that nobody has -/
def zfree (σ : zS) (R : Int → Int) (r : Int) : Prop := (0 ≤ r ∧ r < σ 98 9) ∧ ∀ w, 0 ≤ w → w < 24 → R w ≠ r
noncomputable def zwc (σ : zS) (w : Int) (R : Int → Int) : Int := Classical.choose (zfi_ex (fun i => σ 92 (9 * w + i)) (σ 93 w) (zfree σ R))
theorem zwc_fi {σ : zS} {w : Int} {R : Int → Int} : zfi (fun i => σ 92 (9 * w + i)) (σ 93 w) (zfree σ R) (zwc σ w R) := Classical.choose_spec (zfi_ex (fun i => σ 92 (9 * w + i)) (σ 93 w) (zfree σ R))
theorem zwc_m {σ : zS} {w : Int} {R : Int → Int} : zwc σ w R = -1 ∨ zfree σ R (zwc σ w R) := by
  rcases zwc_fi (σ := σ) (w := w) (R := R) with ⟨e, _⟩ | ⟨j, a, b, c, d⟩
  · exact Or.inl e
  · exact Or.inr (by rw [c]; exact b)
/-- the first k fellows have no room -/
noncomputable def zclr (σ : zS) (h : Int → Int) (k w : Int) : Int := zif2 (∃ c, (0 ≤ c ∧ c < k) ∧ h c = w) (-1) (σ 138 w)
/-- rooms when the first k have chosen -/
noncomputable def zrk (σ : zS) (h : Int → Int) (n : Int) : Nat → Int → Int
  | 0 => zclr σ h n
  | k + 1 => fun w => if w = h (k : Int) then zwc σ w (zrk σ h n k) else zrk σ h n k w
noncomputable def ztk (σ : zS) (h : Int → Int) (n : Int) (c : Int) : Int := zif2 (zwc σ (h c) (zrk σ h n c.toNat) ≠ -1) 1 0
section CH
variable {G : zG} {σ : zS} {Q : Int → zS → Prop}
theorem zclr_s {h : Int → Int} {k w : Int} (k0 : 0 ≤ k) : zclr σ h (k + 1) w = if w = h k then -1 else zclr σ h k w := by
  unfold zclr
  by_cases e : w = h k
  · rw [if_pos e, zif2_y ⟨k, by omega, e.symm⟩]
  · rw [if_neg e]
    by_cases d : ∃ c, (0 ≤ c ∧ c < k) ∧ h c = w
    · obtain ⟨c, a, b⟩ := d
      rw [zif2_y ⟨c, by omega, b⟩, zif2_y ⟨c, a, b⟩]
    · rw [zif2_n d, zif2_n]
      rintro ⟨c, a, b⟩
      by_cases x : c = k
      · rw [x] at b; exact e b.symm
      · exact d ⟨c, by omega, b⟩
/-- whose turn has not come has none -/
theorem zrk_0 {h : Int → Int} {n : Int} (hj : ∀ c d, 0 ≤ c → c < d → d < n → h c ≠ h d) : ∀ (k : Nat) (c : Int), (k : Int) ≤ c → c < n → zrk σ h n k (h c) = -1 := by
  intro k
  induction k with
  | zero => intro c a b; exact zif2_y ⟨c, by omega, rfl⟩
  | succ k ih =>
    intro c a b
    show (if h c = h (k : Int) then _ else _) = -1
    rw [if_neg (fun z => hj k c (by omega) (by omega) b z.symm)]
    exact ih c (by omega) b
theorem okX8_chooseAll {n : Int} (hi : zinv σ) (hn : 0 ≤ n ∧ n ≤ 12) {a : Int → Int} (hs : zsen σ a (σ 98 4) n) (s0 : zS) (f0 : zfr [(58, none)] s0 σ) (ha : ∀ c, 0 ≤ c → c < n → s0 58 c = a c)
    (kq : ∀ s : zS, zfr [(58, none), (95, none)] s σ → (∀ w, 0 ≤ w → w < 24 → s 95 w = zrk σ (fun c => σ 130 (a c)) n n.toNat w) → Q (zps (ztk σ (fun c => σ 130 (a c)) n) n.toNat) s) : zR G MX8_chooseAll 7 [zr 94, zu, zu, zu, zu, zu, zu] [zi n] s0 Q := by
  have hr := g_zrms hi
  have hpl := g_zpla hi
  have hpC := g_zplC hi
  have hws := g_zwsh hi
  have hlim := (g_zlim hi).2.2
  have h0 := hpl.1
  have fel : ∀ c, 0 ≤ c → c < n → (0 ≤ a c ∧ a c < σ 98 4) ∧ (0 ≤ σ 130 (a c) ∧ σ 130 (a c) < 24) := by
    intro c c0 c1
    have h1 := hs.2.1 c c0 c1
    have h2 := (hpl.2.1 (a c) h1.1.1 h1.1.2).2
    have h3 := h1.2.2
    omega
  have e54 : ∀ c, 0 ≤ c → c < n → σ 54 (a c) = σ 130 (a c) := fun c c0 c1 => (hpC.2 (a c) (fel c c0 c1).1.1 (fel c c0 c1).1.2).2.1
  generalize hh : (fun c => σ 130 (a c)) = h at kq
  have hhc : ∀ c, σ 130 (a c) = h c := fun c => by rw [← hh]
  refine TX8_chooseAll_7 ?_
  -- nobody of them has a room
  have clr : ∀ (m : Nat) (i : Int) (s : zS), (n - i).toNat = m → 0 ≤ i → i ≤ n → zfr [(58, none), (95, none)] s σ → s 58 = s0 58 → (∀ w, 0 ≤ w → w < 24 → s 95 w = zclr σ h i w) → (∀ s : zS, zfr [(58, none), (95, none)] s σ → s 58 = s0 58 → (∀ w, 0 ≤ w → w < 24 → s 95 w = zclr σ h n w) → zR G MX8_chooseAll 55 [zr 94, zi n, zi (zshl 1 (σ 98 9) - 1), zi 0, zu, zu, zu] [] s Q) → zR G MX8_chooseAll 10 [zr 94, zi n, zi i, zu, zu, zu, zu] [] s Q := by
    intro m
    induction m with
    | zero =>
      intro i s hm i0 i1 hf h58 h95 kk
      have : i = n := by omega
      subst this
      have hr1 := hr.1
      have q94 : s 94 4 = σ 98 9 := by rw [zfr_at hf rfl]; exact hr.1.1
      have hz := zm_pow (σ 98 9).toNat (by omega)
      rw [show (((σ 98 9).toNat : Nat) : Int) = σ 98 9 from by omega] at hz
      have hpos : 0 < 2 ^ (σ 98 9).toNat := Nat.two_pow_pos _
      apply TX8_chooseAll_10 <;> (try rw [q94]) <;> (try (intros; omega))
      intro _
      exact kk s hf h58 h95
    | succ m ih =>
      intro i s hm i0 i1 hf h58 h95 kk
      have e58 : s 58 i = a i := by rw [h58]; exact ha i i0 (by omega)
      have q54 : s 54 (a i) = h i := by rw [zfr_row hf rfl, e54 i i0 (by omega), hhc]
      have hfe := fel i i0 (by omega)
      rw [hhc] at hfe
      apply TX8_chooseAll_10 <;> (try rw [e58]) <;> (try rw [q54]) <;> (try (intros; omega))
      intro _
      refine ih (i + 1) _ (by omega) (by omega) (by omega) (zfr_uA rfl hf) (by rw [zup_ne (by decide)]; exact h58) (fun w w0 w1 => ?_) kk
      rw [zup_at, zclr_s i0]
      by_cases e : w = h i
      · rw [if_pos e, if_pos e]
      · rw [if_neg e, if_neg e]; exact h95 w w0 w1
  refine clr _ 0 s0 rfl (by omega) hn.1 (zfr_mo rfl f0) rfl (fun w w0 w1 => ?_) (fun s hf h58 h95 => ?_)
  · rw [zfr_row f0 rfl, (hr.2.1 w w0 w1).1]
    exact (zif2_n (fun ⟨c, x, _⟩ => by omega)).symm
  have hr1 := hr.1
  have hjd : ∀ c d, 0 ≤ c → c < d → d < n → h c ≠ h d := by
    intro c d c0 cd dn
    rw [← hhc, ← hhc]
    have x1 := hs.2.1 c c0 (by omega)
    have x2 := hs.2.1 d (by omega) dn
    have hne : a c ≠ a d := by
      intro z
      have := hs.2.2.1 c d c0 cd dn
      rw [z] at this
      unfold zsr at this
      omega
    by_cases y : a c < a d
    · exact hpl.2.2 (a c) (a d) x1.1.1 y x2.1.2 (by rw [x1.2.1, x2.2.1]) x1.2.2
    · exact fun z => hpl.2.2 (a d) (a c) x2.1.1 (by omega) x1.1.2 (by rw [x1.2.1, x2.2.1]) x2.2.2 z.symm
  have crng : ∀ w, 0 ≤ w → w < 24 → -1 ≤ zclr σ h n w ∧ zclr σ h n w < 9 := by
    intro w w0 w1
    have h1 := (hr.2.1 w w0 w1).2.1
    unfold zclr
    by_cases d : ∃ c, (0 ≤ c ∧ c < n) ∧ h c = w
    · rw [zif2_y d]; omega
    · rw [zif2_n d]; omega
  -- the choices
  have cho : ∀ (m : Nat) (c X : Int) (s : zS), (n - c).toNat = m → 0 ≤ c → c ≤ n → zfr [(58, none), (95, none)] s σ → s 58 = s0 58 → (∀ w, 0 ≤ w → w < 24 → s 95 w = zrk σ h n c.toNat w) → (∀ x, 0 ≤ x → x < 32 → (zbit X x ↔ zfree σ (zrk σ h n c.toNat) x)) → zR G MX8_chooseAll 95 [zr 94, zi n, zi X, zi (zps (ztk σ h n) c.toNat), zi c, zu, zu] [] s Q := by
    intro m
    induction m with
    | zero =>
      intro c X s hm c0 c1 hf h58 h95 hX
      have : c = n := by omega
      subst this
      apply TX8_chooseAll_95 <;> (try (intros; omega))
      intro _
      exact kq s hf h95
    | succ m ih =>
      intro c X s hm c0 c1 hf h58 h95 hX
      have e58 : s 58 c = a c := by rw [h58]; exact ha c c0 (by omega)
      have q54 : s 54 (a c) = h c := by rw [zfr_row hf rfl, e54 c c0 (by omega), hhc]
      have hfe := fel c c0 (by omega)
      rw [hhc] at hfe
      have hwc := hws (h c) hfe.2.1 hfe.2.2
      have r92 : s 92 = σ 92 := zfr_row hf rfl
      have r93 : s 93 = σ 93 := zfr_row hf rfl
      have hps := zps_s (g := ztk σ h n) c0
      have hpb := zps_b (g := ztk σ h n) (B := 1) (n := c.toNat) (fun _ _ _ => zif2_b)
      have hnone : zrk σ h n c.toNat (h c) = -1 := zrk_0 hjd c.toNat c (by omega) (by omega)
      have nxt : ∀ w, zrk σ h n (c + 1).toNat w = if w = h c then zwc σ w (zrk σ h n c.toNat) else zrk σ h n c.toNat w := by
        intro w
        rw [show (c + 1).toNat = c.toNat + 1 from by omega]
        show (if w = h ((c.toNat : Nat) : Int) then _ else _) = _
        rw [show ((c.toNat : Nat) : Int) = c from by omega]
      apply TX8_chooseAll_95 <;> (try rw [e58]) <;> (try rw [q54]) <;> (try (intros; omega))
      intro _
      refine okX1_firstOf (lim := 9) (tn := 216) (by decide +kernel : zsh 91 = (4, 1, [none, some 92, some 93])) (by decide +kernel) (by decide +kernel) (by rw [zfr_at hf rfl]; exact hlim) (by omega) (by omega) hfe.2 (by rw [r93]; exact hwc.1) (by rw [r92, r93]; exact hwc.2.2.1) (fun r hr' => ?_)
      rw [r92, r93] at hr'
      have hre : r = zwc σ (h c) (zrk σ h n c.toNat) := by
        refine zfi_one (zfi_pc (fun i i0 i1 => ?_) hr') zwc_fi
        have hin := hwc.2.2.1 i i0 i1
        show zmem X (σ 92 (9 * h c + i)) ↔ zfree σ _ (σ 92 (9 * h c + i))
        have hin2 : 0 ≤ σ 92 (9 * h c + i) ∧ σ 92 (9 * h c + i) < 9 := hin
        rw [← hX _ hin2.1 (by omega)]
        exact ⟨fun z => z.2, fun z => ⟨by omega, z⟩⟩
      by_cases d : r = -1
      · have e0 : ztk σ h n c = 0 := zif2_n (fun z => z (by rw [← hre]; exact d))
        rw [e0, Int.add_zero] at hps
        apply TX8_chooseAll_131 <;> (try (intros; omega))
        intro _
        rw [← hps]
        have same : ∀ w, zrk σ h n (c + 1).toNat w = zrk σ h n c.toNat w := by
          intro w
          rw [nxt w]
          by_cases e : w = h c
          · rw [if_pos e, e, hnone, ← hre, d]
          · rw [if_neg e]
        refine ih (c + 1) X s (by omega) (by omega) (by omega) hf h58 (fun w w0 w1 => by rw [same w]; exact h95 w w0 w1) (fun x x0 x1 => ?_)
        rw [hX x x0 x1]
        unfold zfree
        simp only [same]
      · have hfr : zfree σ (zrk σ h n c.toNat) r := by
          rw [hre]
          rw [hre] at d
          exact zwc_m.resolve_left d
        have e1 : ztk σ h n c = 1 := zif2_y (by rw [← hre]; exact d)
        rw [e1] at hps
        have hr0 := hfr.1
        apply TX8_chooseAll_131 <;> (try (intros; omega))
        intro _
        rw [← hps]
        refine ih (c + 1) _ _ (by omega) (by omega) (by omega) (zfr_uA rfl hf) (by rw [zup_ne (by decide)]; exact h58) (fun w w0 w1 => ?_) (fun x x0 x1 => ?_)
        · rw [zup_at, nxt w]
          by_cases e : w = h c
          · rw [if_pos e, if_pos e, e]; exact hre
          · rw [if_neg e, if_neg e]; exact h95 w w0 w1
        · show zbit (zdrop X r) x ↔ _
          rw [zdrop_b (by omega) ⟨x0, x1⟩, hX x x0 x1]
          constructor
          · rintro ⟨⟨b1, b2⟩, b3⟩
            refine ⟨b1, fun w w0 w1 => ?_⟩
            rw [nxt w]
            by_cases e : w = h c
            · rw [if_pos e, e, ← hre]; exact fun z => b3 z.symm
            · rw [if_neg e]; exact b2 w w0 w1
          · rintro ⟨b1, b2⟩
            refine ⟨⟨b1, fun w w0 w1 => ?_⟩, fun z => ?_⟩
            · have := b2 w w0 w1
              rw [nxt w] at this
              by_cases e : w = h c
              · rw [e, hnone]; omega
              · rw [if_neg e] at this; exact this
            · have := b2 (h c) hfe.2.1 hfe.2.2
              rw [nxt, if_pos rfl, ← hre] at this
              exact this z.symm
  -- the rooms that are free
  have bits : ∀ (m : Nat) (i X : Int), (24 - i).toNat = m → 0 ≤ i → i ≤ 24 → (∀ x, 0 ≤ x → x < 32 → (zbit X x ↔ x < σ 98 9 ∧ ∀ w, 0 ≤ w → w < i → zclr σ h n w ≠ x)) → zR G MX8_chooseAll 55 [zr 94, zi n, zi X, zi i, zu, zu, zu] [] s Q := by
    intro m
    induction m with
    | zero =>
      intro i X hm i0 i1 hX
      have : i = 24 := by omega
      subst this
      apply TX8_chooseAll_55 <;> (try (intros; omega))
      intro _
      refine cho _ 0 X s rfl (by omega) hn.1 hf h58 h95 (fun x x0 x1 => ?_)
      rw [hX x x0 x1]
      exact ⟨fun z => ⟨⟨x0, z.1⟩, z.2⟩, fun z => ⟨z.1.2, z.2⟩⟩
    | succ m ih =>
      intro i X hm i0 i1 hX
      have e95 := h95 i i0 (by omega)
      have hcr := crng i i0 (by omega)
      by_cases d : zclr σ h n i = -1
      · apply TX8_chooseAll_55 <;> (try rw [e95]) <;> (try (intros; omega))
        intro _ _
        refine ih (i + 1) X (by omega) (by omega) (by omega) (fun x x0 x1 => ?_)
        rw [hX x x0 x1]
        constructor
        · rintro ⟨b1, b2⟩
          refine ⟨b1, fun w w0 w1 => ?_⟩
          by_cases e : w = i
          · rw [e, d]; omega
          · exact b2 w w0 (by omega)
        · exact fun z => ⟨z.1, fun w w0 w1 => z.2 w w0 (by omega)⟩
      · apply TX8_chooseAll_55 <;> (try rw [e95]) <;> (try (intros; omega))
        intro _ _
        refine ih (i + 1) _ (by omega) (by omega) (by omega) (fun x x0 x1 => ?_)
        show zbit (zdrop X (zclr σ h n i)) x ↔ _
        rw [zdrop_b (by omega) ⟨x0, x1⟩, hX x x0 x1]
        constructor
        · rintro ⟨⟨b1, b2⟩, b3⟩
          refine ⟨b1, fun w w0 w1 => ?_⟩
          by_cases e : w = i
          · rw [e]; exact fun z => b3 z.symm
          · exact b2 w w0 (by omega)
        · exact fun z => ⟨⟨z.1, fun w w0 w1 => z.2 w w0 (by omega)⟩, fun y => z.2 i i0 (by omega) y.symm⟩
  refine bits _ 0 _ rfl (by omega) (by omega) (fun x x0 x1 => ?_)
  have hfull := zb_full (σ 98 9).toNat (by omega) x.toNat (by omega)
  rw [show (((σ 98 9).toNat : Nat) : Int) = σ 98 9 from by omega] at hfull
  unfold zbit
  rw [hfull, decide_eq_true_eq]
  exact ⟨fun z => ⟨by omega, fun w a b => by omega⟩, fun z => by have := z.1; omega⟩
end CH
