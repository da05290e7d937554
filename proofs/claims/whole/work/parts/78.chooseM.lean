/-! CALLS: choose, the model, the step -/
section CM
variable {G : zG} {σ : zS} {Q : Int → zS → Prop}
theorem okX12_whoHas {x : Int} (hn : 0 ≤ σ 98 1 ∧ σ 98 1 ≤ 24) (kq : ∀ r, (r = -1 ∧ ∀ v, 0 ≤ v → v < σ 98 1 → σ 138 v ≠ x) ∨ ((0 ≤ r ∧ r < σ 98 1) ∧ σ 138 r = x) → Q r σ) : zO G MX12_whoHas [zr 98, zi x] σ Q := by
  refine TX12_whoHas ?_
  have loop : ∀ (n : Nat) (i : Int), (σ 98 1 - i).toNat = n → 0 ≤ i → i ≤ σ 98 1 → (∀ v, 0 ≤ v → v < i → σ 138 v ≠ x) → zR G MX12_whoHas 2 [zr 98, zi x, zi i] [] σ Q := by
    intro n
    induction n with
    | zero =>
      intro i hm i0 i1 h
      have : i = σ 98 1 := by omega
      subst this
      apply TX12_whoHas_2 <;> (try (intros; omega))
      intro _
      exact kq (-1) (Or.inl ⟨rfl, h⟩)
    | succ n ih =>
      intro i hm i0 i1 h
      apply TX12_whoHas_2 <;> (try (intros; omega))
      · intro _ hne
        refine ih (i + 1) (by omega) (by omega) (by omega) (fun v v0 v1 => ?_)
        by_cases e : v = i
        · rw [e]; exact hne
        · exact h v v0 (by omega)
      · intro _ he
        exact kq i (Or.inr ⟨by omega, he⟩)
  exact loop _ 0 rfl (by omega) hn.1 (fun v a b => by omega)
theorem zrk_hi {h : Int → Int} {n w : Int} (h0 : σ 138 w = -1) (hh : ∀ c, 0 ≤ c → c < n → h c ≠ w) : ∀ k : Nat, (k : Int) ≤ n → zrk σ h n k w = -1 := by
  intro k
  induction k with
  | zero =>
    intro _
    show zclr σ h n w = -1
    unfold zclr
    rw [zif2_n (fun ⟨c, a, b⟩ => hh c a.1 a.2 b), h0]
  | succ k ih =>
    intro hk
    show (if w = h (k : Int) then _ else _) = -1
    rw [if_neg (fun z => hh k (by omega) (by omega) z.symm)]
    exact ih (by omega)
theorem okX12_chooseAll {n : Int} (hi : zinv σ) (hn : 0 ≤ n ∧ n ≤ 12) {a : Int → Int} (hs : zsen σ a (σ 98 4) n) (s0 : zS) (f0 : zfr [(58, none), (95, none), (173, none)] s0 σ) (ha : ∀ c, 0 ≤ c → c < n → s0 173 c = a c)
    (kq : ∀ s : zS, zfr [(138, none)] s s0 → (∀ w, 0 ≤ w → w < 24 → s 138 w = zrk σ (fun c => σ 130 (a c)) n n.toNat w) → (∀ k : Nat, (k : Int) ≤ n → ∀ w, 0 ≤ w → w < 24 → (-1 ≤ zrk σ (fun c => σ 130 (a c)) n k w ∧ zrk σ (fun c => σ 130 (a c)) n k w < σ 98 9) ∧ (σ 98 1 ≤ w → zrk σ (fun c => σ 130 (a c)) n k w = -1)) → (∀ k : Nat, (k : Int) ≤ n → ∀ w v, 0 ≤ w → w < v → v < 24 → zrk σ (fun c => σ 130 (a c)) n k w ≠ -1 → zrk σ (fun c => σ 130 (a c)) n k w ≠ zrk σ (fun c => σ 130 (a c)) n k v) →
      Q (zps (ztk σ (fun c => σ 130 (a c)) n) n.toNat) s) : zR G MX12_choose 4 [zr 98, zu, zu, zu, zu, zu, zu] [zi n] s0 Q := by
  have hr := g_zrms hi
  have hpl := g_zpla hi
  have hpz := (g_zplc hi).2
  have hws := g_zwsh hi
  have hp := (g_zppl hi).1
  have h0 := hpl.1
  have hr1 := hr.1
  have fel : ∀ c, 0 ≤ c → c < n → (0 ≤ a c ∧ a c < σ 98 4) ∧ (0 ≤ σ 130 (a c) ∧ σ 130 (a c) < σ 98 1) := by
    intro c c0 c1
    have h1 := hs.2.1 c c0 c1
    have h2 := (hpz (a c) h1.1.1 h1.1.2).1
    have h3 := h1.2.2
    omega
  have hjd : ∀ c d, 0 ≤ c → c < d → d < n → σ 130 (a c) ≠ σ 130 (a d) := by
    intro c d c0 cd dn
    have x1 := hs.2.1 c c0 (by omega)
    have x2 := hs.2.1 d (by omega) dn
    have hne : a c ≠ a d := by
      intro z
      have := hs.2.2.1 c d c0 cd dn
      rw [z] at this
      unfold zsr at this
      omega
    by_cases y : a c < a d
    · exact hpl.2.2 (a c) (a d) x1.1.1 y x2.1.2 (by rw [x1.2.1, x2.2.1]) x1.2.2
    · exact fun z => hpl.2.2 (a d) (a c) x2.1.1 (by omega) x1.1.2 (by rw [x1.2.1, x2.2.1]) x2.2.2 z.symm
  generalize hh : (fun c => σ 130 (a c)) = h at kq
  have hhc : ∀ c, σ 130 (a c) = h c := fun c => by rw [← hh]
  have hjh : ∀ c d, 0 ≤ c → c < d → d < n → h c ≠ h d := fun c d c0 cd dn => by rw [← hhc, ← hhc]; exact hjd c d c0 cd dn
  have hhr : ∀ c, 0 ≤ c → c < n → 0 ≤ h c ∧ h c < σ 98 1 := fun c c0 c1 => by rw [← hhc]; exact (fel c c0 c1).2
  have high : ∀ k : Nat, (k : Int) ≤ n → ∀ w, w < 24 → σ 98 1 ≤ w → zrk σ h n k w = -1 := fun k hk w w1 hw => zrk_hi ((hr.2.1 w (by omega) w1).2.2 hw) (fun c c0 c1 z => by have := hhr c c0 c1; omega) k hk
  have rng : ∀ k : Nat, (k : Int) ≤ n → ∀ w, 0 ≤ w → w < 24 → -1 ≤ zrk σ h n k w ∧ zrk σ h n k w < σ 98 9 := by
    intro k
    induction k with
    | zero =>
      intro _ w w0 w1
      have h1 := (hr.2.1 w w0 w1).2.1
      show -1 ≤ zclr σ h n w ∧ zclr σ h n w < _
      unfold zclr
      by_cases d : ∃ c, (0 ≤ c ∧ c < n) ∧ h c = w
      · rw [zif2_y d]; omega
      · rw [zif2_n d]; exact h1
    | succ k ih =>
      intro hk w w0 w1
      show -1 ≤ (if w = h (k : Int) then zwc σ w (zrk σ h n k) else zrk σ h n k w) ∧ (if w = h (k : Int) then zwc σ w (zrk σ h n k) else zrk σ h n k w) < _
      by_cases e : w = h (k : Int)
      · rw [if_pos e]
        rcases zwc_m (σ := σ) (w := w) (R := zrk σ h n k) with z | z
        · rw [z]; omega
        · have := z.1; omega
      · rw [if_neg e]
        exact ih (by omega) w w0 w1
  have dis : ∀ k : Nat, (k : Int) ≤ n → ∀ w v, 0 ≤ w → w < v → v < 24 → zrk σ h n k w ≠ -1 → zrk σ h n k w ≠ zrk σ h n k v := by
    intro k
    induction k with
    | zero =>
      intro _ w v w0 wv v1
      show zclr σ h n w ≠ -1 → zclr σ h n w ≠ zclr σ h n v
      unfold zclr
      by_cases d : ∃ c, (0 ≤ c ∧ c < n) ∧ h c = w
      · rw [zif2_y d]; exact fun z => absurd rfl z
      · rw [zif2_n d]
        by_cases d2 : ∃ c, (0 ≤ c ∧ c < n) ∧ h c = v
        · rw [zif2_y d2]; exact fun z => z
        · rw [zif2_n d2]; exact hr.2.2 w v w0 wv v1
    | succ k ih =>
      intro hk w v w0 wv v1
      show (if w = h (k : Int) then zwc σ w (zrk σ h n k) else zrk σ h n k w) ≠ -1 → (if w = h (k : Int) then zwc σ w (zrk σ h n k) else zrk σ h n k w) ≠ (if v = h (k : Int) then zwc σ v (zrk σ h n k) else zrk σ h n k v)
      by_cases e : w = h (k : Int)
      · rw [if_pos e, if_neg (show ¬ v = h (k : Int) by omega)]
        intro z
        have := ((zwc_m (σ := σ) (w := w) (R := zrk σ h n k)).resolve_left z).2 v (by omega) v1
        exact fun y => this y.symm
      · rw [if_neg e]
        by_cases e2 : v = h (k : Int)
        · rw [if_pos e2]
          intro z
          rcases zwc_m (σ := σ) (w := v) (R := zrk σ h n k) with y | y
          · rw [y]; exact z
          · exact y.2 w w0 (by omega)
        · rw [if_neg e2]
          exact ih (by omega) w v w0 wv v1
  refine TX12_choose_4 ?_
  have q130 : ∀ s : zS, zfr [(138, none)] s s0 → s 130 = σ 130 := fun s f => by rw [zfr_row f rfl, zfr_row f0 rfl]
  have q173 : ∀ s : zS, zfr [(138, none)] s s0 → s 173 = s0 173 := fun s f => by rw [zfr_row f rfl]
  have clr : ∀ (m : Nat) (i : Int) (s : zS), (n - i).toNat = m → 0 ≤ i → i ≤ n → zfr [(138, none)] s s0 → (∀ w, 0 ≤ w → w < 24 → s 138 w = zclr σ h i w) → (∀ s : zS, zfr [(138, none)] s s0 → (∀ w, 0 ≤ w → w < 24 → s 138 w = zclr σ h n w) → zR G MX12_choose 39 [zr 98, zi n, zi 0, zi 0, zu, zu, zu] [] s Q) → zR G MX12_choose 7 [zr 98, zi n, zi i, zu, zu, zu, zu] [] s Q := by
    intro m
    induction m with
    | zero =>
      intro i s hm i0 i1 hf h138 kk
      have : i = n := by omega
      subst this
      apply TX12_choose_7 <;> (try (intros; omega))
      intro _
      exact kk s hf h138
    | succ m ih =>
      intro i s hm i0 i1 hf h138 kk
      have e1 : s 173 i = a i := by rw [q173 s hf]; exact ha i i0 (by omega)
      have e2 : s 130 (a i) = h i := by rw [q130 s hf, hhc]
      have hfe := fel i i0 (by omega)
      have hhi := hhr i i0 (by omega)
      apply TX12_choose_7 <;> (try rw [e1]) <;> (try rw [e2]) <;> (try (intros; omega))
      intro _
      refine ih (i + 1) _ (by omega) (by omega) (by omega) (zfr_uA rfl hf) (fun w w0 w1 => ?_) kk
      rw [zup_at, zclr_s i0]
      by_cases e : w = h i
      · rw [if_pos e, if_pos e]
      · rw [if_neg e, if_neg e]; exact h138 w w0 w1
  refine clr _ 0 s0 rfl (by omega) hn.1 zfr_0 (fun w w0 w1 => ?_) (fun s hf h138 => ?_)
  · rw [zfr_row f0 rfl]
    exact (zif2_n (fun ⟨c, x, _⟩ => by omega)).symm
  have cho : ∀ (m : Nat) (c : Int) (s : zS), (n - c).toNat = m → 0 ≤ c → c ≤ n → zfr [(138, none)] s s0 → (∀ w, 0 ≤ w → w < 24 → s 138 w = zrk σ h n c.toNat w) → zR G MX12_choose 39 [zr 98, zi n, zi (zps (ztk σ h n) c.toNat), zi c, zu, zu, zu] [] s Q := by
    intro m
    induction m with
    | zero =>
      intro c s hm c0 c1 hf h138
      have : c = n := by omega
      subst this
      apply TX12_choose_39 <;> (try (intros; omega))
      intro _
      exact kq s hf h138 (fun k hk w w0 w1 => ⟨rng k hk w w0 w1, high k hk w w1⟩) dis
    | succ m ih =>
      intro c s hm c0 c1 hf h138
      have e1 : s 173 c = a c := by rw [q173 s hf]; exact ha c c0 (by omega)
      have e2 : s 130 (a c) = h c := by rw [q130 s hf, hhc]
      have hfe := fel c c0 (by omega)
      have hhi := hhr c c0 (by omega)
      have hwc := hws (h c) hhi.1 (by omega)
      have hnone : zrk σ h n c.toNat (h c) = -1 := zrk_0 hjh c.toNat c (by omega) (by omega)
      have hps := zps_s (g := ztk σ h n) c0
      have hpb := zps_b (g := ztk σ h n) (B := 1) (n := c.toNat) (fun _ _ _ => zif2_b)
      have nxt : ∀ w, zrk σ h n (c + 1).toNat w = if w = h c then zwc σ w (zrk σ h n c.toNat) else zrk σ h n c.toNat w := by
        intro w
        rw [show (c + 1).toNat = c.toNat + 1 from by omega]
        show (if w = h ((c.toNat : Nat) : Int) then _ else _) = _
        rw [show ((c.toNat : Nat) : Int) = c from by omega]
      have hzm : zfi (fun i => σ 136 (80 * h c + i)) (σ 137 (h c)) (zfree σ (zrk σ h n c.toNat)) (zwc σ (h c) (zrk σ h n c.toNat)) := (hwc.2.2.2 _ (fun x hx => by have := hx.1; omega) _).mp zwc_fi
      apply TX12_choose_39 <;> (try rw [e1]) <;> (try rw [e2]) <;> (try (intros; omega))
      intro _
      have inner : ∀ (k : Nat) (i : Int) (t : zS), (80 - i).toNat = k → 0 ≤ i → i ≤ 80 → i ≤ σ 137 (h c) → zfr [(138, none)] t s0 → (∀ w, 0 ≤ w → w < 24 → w ≠ h c → t 138 w = zrk σ h n c.toNat w) → zfi (fun i => σ 136 (80 * h c + i)) i (zfree σ (zrk σ h n c.toNat)) (t 138 (h c)) → zR G MX12_choose 60 [zr 98, zi n, zi (zps (ztk σ h n) c.toNat), zi c, zi (h c), zi i, zu] [] t Q := by
        intro k
        induction k with
        | zero =>
          intro i t hk i0 i1 i2 ft hw hz
          have q137 : t 137 = σ 137 := by rw [zfr_row ft rfl, zfr_row f0 rfl]
          have hN : i = σ 137 (h c) := by omega
          have hre : t 138 (h c) = zwc σ (h c) (zrk σ h n c.toNat) := by rw [hN] at hz; exact zfi_one hz hzm
          have hst : ∀ w, 0 ≤ w → w < 24 → t 138 w = zrk σ h n (c + 1).toNat w := fun w w0 w1 => by
            rw [nxt w]
            by_cases e : w = h c
            · rw [if_pos e, e]; exact hre
            · rw [if_neg e]; exact hw w w0 w1 e
          by_cases d : t 138 (h c) = -1
          · have e0 : ztk σ h n c = 0 := zif2_n (fun z => z (by rw [← hre]; exact d))
            rw [e0, Int.add_zero] at hps
            have go := ih (c + 1) t (by omega) (by omega) (by omega) ft hst
            rw [hps] at go
            apply TX12_choose_60 <;> (try rw [q137]) <;> (try (intros; omega))
            all_goals (intros; exact go)
          · have e0 : ztk σ h n c = 1 := zif2_y (by rw [← hre]; exact d)
            rw [e0] at hps
            have go := ih (c + 1) t (by omega) (by omega) (by omega) ft hst
            rw [hps] at go
            apply TX12_choose_60 <;> (try rw [q137]) <;> (try (intros; omega))
            all_goals (intros; exact go)
        | succ k ihk =>
          intro i t hk i0 i1 i2 ft hw hz
          have q137 : t 137 = σ 137 := by rw [zfr_row ft rfl, zfr_row f0 rfl]
          have q136 : t 136 = σ 136 := by rw [zfr_row ft rfl, zfr_row f0 rfl]
          have q9 : t 98 9 = σ 98 9 := by rw [zfr_at ft rfl, zfr_at f0 rfl]
          have qp : t 98 1 = σ 98 1 := by rw [zfr_at ft rfl, zfr_at f0 rfl]
          by_cases stop : σ 137 (h c) ≤ i ∨ t 138 (h c) ≠ -1
          · have hre : t 138 (h c) = zwc σ (h c) (zrk σ h n c.toNat) := by
              by_cases y : σ 137 (h c) ≤ i
              · have hN : i = σ 137 (h c) := by omega
                rw [hN] at hz
                exact zfi_one hz hzm
              · have y2 := stop.resolve_left y
                rcases hz with ⟨z, _⟩ | ⟨j, b1, b2, b3, b4⟩
                · exact absurd z y2
                · exact zfi_one (Or.inr ⟨j, by omega, b2, b3, b4⟩) hzm
            have hst : ∀ w, 0 ≤ w → w < 24 → t 138 w = zrk σ h n (c + 1).toNat w := fun w w0 w1 => by
              rw [nxt w]
              by_cases e : w = h c
              · rw [if_pos e, e]; exact hre
              · rw [if_neg e]; exact hw w w0 w1 e
            by_cases d : t 138 (h c) = -1
            · have e0 : ztk σ h n c = 0 := zif2_n (fun z => z (by rw [← hre]; exact d))
              rw [e0, Int.add_zero] at hps
              have go := ih (c + 1) t (by omega) (by omega) (by omega) ft hst
              rw [hps] at go
              apply TX12_choose_60 <;> (try rw [q137]) <;> (try (intros; omega))
              all_goals (intros; exact go)
            · have e0 : ztk σ h n c = 1 := zif2_y (by rw [← hre]; exact d)
              rw [e0] at hps
              have go := ih (c + 1) t (by omega) (by omega) (by omega) ft hst
              rw [hps] at go
              apply TX12_choose_60 <;> (try rw [q137]) <;> (try (intros; omega))
              all_goals (intros; exact go)
          · have s1 : i < σ 137 (h c) := by omega
            have s2 : t 138 (h c) = -1 := by omega
            have hwn := hwc.2.1
            have tall : ∀ w, 0 ≤ w → w < 24 → t 138 w = zrk σ h n c.toNat w := by
              intro w w0 w1
              by_cases e : w = h c
              · rw [e, s2, hnone]
              · exact hw w w0 w1 e
            have none : ∀ j, 0 ≤ j → j < i → ¬ zfree σ (zrk σ h n c.toNat) (σ 136 (80 * h c + j)) := by
              rcases hz with ⟨_, z⟩ | ⟨j, b1, b2, b3, b4⟩
              · exact z
              · have := b2.1
                rw [s2] at b3
                omega
            have skip : ¬ zfree σ (zrk σ h n c.toNat) (σ 136 (80 * h c + i)) → zR G MX12_choose 60 [zr 98, zi n, zi (zps (ztk σ h n) c.toNat), zi c, zi (h c), zi (i + 1), zu] [] t Q := by
              intro hno
              refine ihk (i + 1) t (by omega) (by omega) (by omega) (by omega) ft hw (Or.inl ⟨s2, fun j j0 j1 => ?_⟩)
              by_cases e : j = i
              · rw [e]; exact hno
              · exact none j j0 (by omega)
            apply TX12_choose_60 <;> (try rw [q137]) <;> (try rw [q136]) <;> (try rw [q9]) <;> (try (intros; omega))
            · intro _ _ b0 b1
              refine okX12_whoHas (by rw [qp]; exact hp) (fun r hr' => ?_)
              rw [qp] at hr'
              rcases hr' with ⟨rfl, hz2⟩ | ⟨hz2, hz3⟩
              · have hfree : zfree σ (zrk σ h n c.toNat) (σ 136 (80 * h c + i)) := by
                  refine ⟨⟨b0, b1⟩, fun w w0 w1 => ?_⟩
                  by_cases y : w < σ 98 1
                  · rw [← tall w w0 w1]; exact hz2 w w0 y
                  · rw [high _ (by omega) w w1 (by omega)]; omega
                apply TX12_choose_118 <;> (try (intros; omega))
                intro _
                refine ihk (i + 1) _ (by omega) (by omega) (by omega) (by omega) (zfr_uA rfl ft) (fun w w0 w1 e => by rw [zup_oi e]; exact hw w w0 w1 e) ?_
                rw [zup_same]
                exact Or.inr ⟨i, by omega, hfree, rfl, none⟩
              · apply TX12_choose_118 <;> (try (intros; omega))
                intro _
                exact skip (fun z => z.2 r hz2.1 (by omega) (by rw [← tall r hz2.1 (by omega)]; exact hz3))
            · intro _ _ hb
              exact skip (fun z => by have := z.1; omega)
      refine inner _ 0 s rfl (by omega) (by omega) hwc.2.1.1 hf (fun w w0 w1 _ => h138 w w0 w1) ?_
      rw [h138 _ hhi.1 (by omega), hnone]
      exact Or.inl ⟨rfl, fun j a b => by omega⟩
  exact cho _ 0 s rfl (by omega) hn.1 hf h138
theorem st_choose (hi : zinv σ) : zst2 G MX11_choose [zr 0] MX12_choose [zr 98] σ := by
  have hr := g_zrms hi
  have hpl := g_zpla hi
  refine TX11_choose (TX8_chooseAll (okX6_lineUpFellows hpl (g_zplC hi) (fun s0 n hq hs => ?_)))
  have f0 : zfr [(58, none)] s0 σ := fun q j hz => by rw [hq q (fun e => hz ⟨(58, none), by simp, e.symm, Or.inl rfl⟩)]
  have hn : 0 ≤ n ∧ n ≤ 12 := by have := hs.1; have := hpl.1; omega
  refine okX8_chooseAll hi hn hs s0 f0 (fun c _ _ => rfl) (fun s fs h95 => TX11_choose_7 ?_)
  refine TX12_choose (okX12_seniors (zpla_ke (zfr_sm fs rfl) hpl) (fun t m hq2 hs2 => ?_))
  have f2 : zfr [(173, none)] t s := fun q j hz => by rw [hq2 q (fun e => hz ⟨(173, none), by simp, e.symm, Or.inl rfl⟩)]
  have hs3 : zsen σ (t 173) (σ 98 4) m := by
    unfold zsen zfel zsr at hs2 ⊢
    rw [zfr_row (q := 129) fs rfl, zfr_row (q := 130) fs rfl, zfr_row (q := 131) fs rfl, zfr_at (q := 98) (j := 4) fs rfl] at hs2
    exact hs2
  have one := zsen_one hs hs3
  have hm : m = n := one.1.symm
  subst hm
  refine okX12_chooseAll hi hn hs t (zfr_tr (zfr_mo rfl fs) (zfr_mo rfl f2)) (fun c c0 c1 => (one.2 c c0 c1).symm) (fun u fu h138 hb hd => ⟨rfl, ?_⟩)
  have f : zfr [(58, none), (95, none), (173, none), (138, none)] u σ := zfr_tr (zfr_tr (zfr_mo rfl fs) (zfr_mo rfl f2)) (zfr_mo rfl fu)
  have u95 : u 95 = s 95 := by rw [zfr_row fu rfl, zfr_row f2 rfl]
  apply zinv_fr f hi <;> (try (intro h; exact absurd h (by decide)))
  intro _
  unfold zrms
  rw [zfr_at (q := 94) (j := 4) f rfl, zfr_at (q := 98) (j := 9) f rfl, zfr_at (q := 98) (j := 1) f rfl]
  refine ⟨hr.1, fun w w0 w1 => ?_, fun w v w0 wv v1 => ?_⟩
  · have h2 := hb m.toNat (by omega) w w0 w1
    rw [u95, h95 w w0 w1, h138 w w0 w1]
    exact ⟨rfl, h2.1, h2.2⟩
  · rw [h138 w w0 (by omega), h138 v (by omega) v1]
    exact hd m.toNat (by omega) w v w0 wv v1
end CM
