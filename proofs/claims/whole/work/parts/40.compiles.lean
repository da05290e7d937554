/-! THE LAW in the model: the text becomes steps -/
abbrev zWd : zPl := [(98, some 84), (98, some 85), (98, some 86), (98, some 87), (98, some 88), (162, none), (163, none), (164, none), (165, none), (166, none)]
theorem zun_nil : ∀ {ops W : List Int}, ¬ zun ops W [] := by
  intro ops W h
  cases ops with
  | nil => obtain ⟨_, h⟩ := h; cases h
  | cons o ops =>
    rcases h with ⟨_, O', A', N', r', e, _⟩ | ⟨_, O', A', r', W', e, _⟩ | ⟨_, O', r', W', e, _⟩ | ⟨_, r', e, _⟩ <;> cases e
/-- tests are told -/
def ztld (s : zS) (u : zOne) (m : Int) (V : Int → Int) : Prop := ∀ i, 0 ≤ i → i < m → V i = ztv u (s 162 i) (s 163 i) (s 164 i) ∧ ztok (s 162 i)
theorem ztld_eq {s s' : zS} {u : zOne} {m : Int} {V : Int → Int} (h1 : s' 162 = s 162) (h2 : s' 163 = s 163) (h3 : s' 164 = s 164) (h : ztld s u m V) : ztld s' u m V := by
  unfold ztld
  rw [h1, h2, h3]
  exact h
/-- what the steps are -/
def zcr (s : zS) (u : zOne) (R : zRes) : Prop := zRes_f R = -1 → (s 98 84 = zRes_m R ∧ 0 ≤ zRes_m R ∧ zRes_m R ≤ 100) ∧ ztld s u (zRes_m R) (zRes_V R) ∧
  ∃ rc : List Int, s 98 85 = rc.length ∧ (rc.length : Int) ≤ 250 ∧ zstk (s 165) rc ∧ zex (zRes_V R) rc = some (zRes_m R, [zRes_x R])
def zdus (due : Bool) (V : Int → Int) (m : Int) (rc ops : List Int) (lv : List (Int × Int × Int)) : Prop :=
  (due = true → ∃ W, zex V rc = some (m, W) ∧ zun ops W lv) ∧
  (due = false → ∃ O A v r W, lv = (O, zboth A v, 0) :: r ∧ (zv3 A ∧ zv3 O) ∧ zex V rc = some (m, v :: W) ∧ zun ops W ((O, A, 0) :: r))
section CP
variable {G : zG} {σ : zS} {Q : Int → zS → Prop} {t : Int → Int} {n : Int} {u : zOne}
theorem okX12_compiles_loop (ht : zparM σ t n) : ∀ (f : Nat) (p : Int) (due : Bool) (b : Int) (m : Int) (V : Int → Int) (x : Int × Int × Int) (r : List (Int × Int × Int)) (s : zS) (ops rc : List Int),
    n - p < f → (0 ≤ p ∧ p ≤ n) → ((due = true → b = 1) ∧ (due = false → b = 0)) → zfr zWd s σ → (s 98 87 = p ∧ s 98 88 = zdep (x :: r) ∧ zdep (x :: r) ≤ 30) → znn (x :: r) → (s 98 84 = m ∧ 0 ≤ m ∧ 2 * m + b ≤ p + 1) → zcs s ops rc → (ops.length : Int) + rc.length ≤ p →
    ztld s u m V → (∀ i, zv3 (V i)) → zvv (x :: r) → zdus due V m rc ops (x :: r) →
    (∀ s' : zS, zfr zWd s' σ → zcr s' u (zgo (zlt t n) n u f p due m V (x :: r)) → Q (zRes_f (zgo (zlt t n) n u f p due m V (x :: r))) s') →
    zR G MX12_compiles 29 [zr 98, zi (r.length : Int), zi b, zu] [] s Q := by
  intro f
  induction f with
  | zero => intro p due b m V x r s ops rc hf hp; omega
  | succ f ih =>
    intro p due b m V x r s ops rc hf hp hbd hfr hst hnn hm hc hlen htl hV3 hvv hdu kq
    have hn := ht.1
    have e43 : s 98 43 = n := (zfr_at hfr rfl).trans ht.2.1
    have etx : s 127 = σ 127 := zfr_row hfr rfl
    have hpar : zparM s t n := ⟨ht.1, e43, by rw [etx]; exact ht.2.2⟩
    obtain ⟨e87, e88, hd30⟩ := hst
    have hdep := zdep_b hnn
    simp only [List.length_cons] at hdep
    by_cases hpn : n ≤ p
    · rw [zgo_end hpn] at kq
      by_cases hbad : due = true ∨ r ≠ []
      · rw [if_pos hbad] at kq
        have hbad2 : b ≠ 0 ∨ (b = 0 ∧ 0 < (r.length : Int)) := by
          rcases hbad with h | h
          · rw [hbd.1 h]; omega
          · cases r with
            | nil => exact absurd rfl h
            | cons y r' => simp only [List.length_cons]; omega
        apply TX12_compiles_29 <;> (try rw [e43]) <;> (try rw [e87]) <;> (try (intros; omega))
        intro _ _
        exact kq s hfr (fun z => by dsimp only [zRes_f] at z; omega)
      · rw [if_neg hbad] at kq
        have hd : due = false := by
          cases due
          · rfl
          · exact absurd (Or.inl rfl) hbad
        have hr : r = [] := by
          cases r with
          | nil => rfl
          | cons y r' => exact absurd (Or.inr (by simp)) hbad
        subst hr
        have hb0 := hbd.2 hd
        obtain ⟨O, A, v, r0, W, e, ⟨hA, hO⟩, hx, hz⟩ := hdu.2 hd
        simp only [List.cons.injEq] at e
        obtain ⟨rfl, rfl⟩ := e
        have hv := zex_3 hV3 hx v List.mem_cons_self
        apply TX12_compiles_29 <;> (try rw [e43]) <;> (try rw [e87]) <;> (try (intros; omega))
        · intro _ _ _
          refine TX12_pops (okX12_pops_0 ops rc s O A v m [] W hc (by omega) hz hv hA hO hx (fun s' ops' rc' W' w g1 g2 g3 g4 g5 g6 g7 => ?_))
          obtain ⟨hw, hz', hop⟩ := g7 (by decide)
          have hop2 : ops' = [] := by
            rcases hop with h | ⟨l, h⟩
            · exact h
            · rw [h] at hz'
              rcases hz' with ⟨z, _⟩ | ⟨z, _⟩ | ⟨z, _⟩ | ⟨_, r', e, h2⟩
              · omega
              · omega
              · omega
              · simp only [List.cons.injEq] at e
                rw [← e.2] at h2
                exact absurd h2 zun_nil
          rw [hop2] at hz'
          have hW : W' = [] := hz'.1
          rw [hW, hw] at g5
          refine TX12_compiles_303 ?_
          have hfr' : zfr zWd s' σ := zfr_tr hfr (zfr_mo rfl g1)
          refine kq s' hfr' (fun _ => ⟨⟨?_, hm.2.1, ?_⟩, ztld_eq (zfr_row g1 rfl) (zfr_row g1 rfl) (zfr_row g1 rfl) htl, rc', g3.2.1, by omega, g3.2.2, g5⟩)
          · rw [zfr_at g1 rfl]; exact hm.1
          · dsimp only [zRes_m]; omega
        · intro _ h
          simp only [List.length_nil] at h
          omega
    · have hpn2 : p < n := by omega
      apply TX12_compiles_29 <;> (try rw [e43]) <;> (try rw [e87]) <;> (try (intros; omega))
      intro _
      refine okX12_letter hpar e87 hp.1 (fun _ => ?_) (by intros; omega)
      have kflt : ∀ (s' : zS) (F : Int), zfr zWd s' σ → F ≠ -1 → zgo (zlt t n) n u (f + 1) p due m V (x :: r) = (F, m, V, 0) → Q F s' := by
        intro s' F h1 h3 h4
        rw [h4] at kq
        exact kq s' h1 (fun z => absurd z h3)
      cases due with
      | true =>
        have hb1 := hbd.1 rfl
        subst hb1
        obtain ⟨W, hx, hz⟩ := hdu.1 rfl
        have push : ∀ (c : Int) (lv' : List (Int × Int × Int)), zun (c :: ops) W lv' → zdep lv' = zdep (x :: r) + 1 →
            (zfr zWd (zup (zup (zup (zup s 98 88 (zdep (x :: r) + 1)) 98 86 (s 98 86 + 1)) 166 (s 98 86) c) 98 87 (p + 1)) σ) ∧ zcs (zup (zup (zup (zup s 98 88 (zdep (x :: r) + 1)) 98 86 (s 98 86 + 1)) 166 (s 98 86) c) 98 87 (p + 1)) (c :: ops) rc := by
          intro c lv' _ _
          obtain ⟨⟨c1, c2⟩, c3, c4⟩ := hc
          refine ⟨zfr_uF rfl (zfr_uA rfl (zfr_uF rfl (zfr_uF rfl hfr))), ⟨by simp [zup, c1], by simp [zup, c1], zstk_eq (fun i a b => ?_) c2⟩, by simp [zup, c3], ?_⟩
          · rw [zup_of (by decide), zup_oi (by omega), zup_of (by decide), zup_of (by decide)]
          · rw [zup_ne (by decide), zup_ne (by decide), zup_ne (by decide), zup_ne (by decide)]
            exact c4
        by_cases hc1 : zlt t n p = 33
        · by_cases hd : zdep (x :: r) = 30
          · apply TX12_compiles_44 <;> (try rw [e87]) <;> (try rw [e88]) <;> (try rw [hc.1.1]) <;> (try (intros; omega))
            intro _ _ _
            exact kflt s p hfr (by omega) (by rw [zgo_bang hpn2 hc1, if_pos hd])
          · rw [zgo_bang hpn2 hc1, if_neg hd] at kq
            have hdx : zdep ((x.1, x.2.1, x.2.2 + 1) :: r) = zdep (x :: r) + 1 := by simp only [zdep]; omega
            have hz2 : zun (33 :: ops) W ((x.1, x.2.1, x.2.2 + 1) :: r) := Or.inl ⟨rfl, x.1, x.2.1, x.2.2 + 1, r, rfl, by have := hnn.1; omega, by rw [show x.2.2 + 1 - 1 = x.2.2 from by omega]; exact hz⟩
            obtain ⟨p1, p2⟩ := push 33 _ hz2 hdx
            rw [hc1]
            apply TX12_compiles_44 <;> (try rw [e87]) <;> (try rw [e88]) <;> (try (intros; omega))
            · intro _ _ _
              have := hc.1.1
              omega
            · intro _ _ _
              have := hc.1.1
              omega
            · intro _ _ _ _
              refine ih (p + 1) true 1 m V (x.1, x.2.1, x.2.2 + 1) r _ (33 :: ops) rc (by omega) (by omega) ⟨fun _ => rfl, fun z => (by cases z)⟩ p1 ⟨by simp [zup], by simp [zup, hdx], by omega⟩ ⟨by have := hnn.1; dsimp only; omega, hnn.2⟩ ⟨by simp [zup, hm.1], hm.2.1, by omega⟩ p2 (by simp only [List.length_cons]; omega) (ztld_eq ?_ ?_ ?_ htl) hV3 ⟨hvv.1, hvv.2⟩ ⟨fun _ => ⟨W, hx, hz2⟩, fun z => (by cases z)⟩ kq
              · rw [zup_ne (by decide), zup_ne (by decide), zup_ne (by decide), zup_ne (by decide)]
              · rw [zup_ne (by decide), zup_ne (by decide), zup_ne (by decide), zup_ne (by decide)]
              · rw [zup_ne (by decide), zup_ne (by decide), zup_ne (by decide), zup_ne (by decide)]
        · by_cases hc2 : zlt t n p = 40
          · by_cases hd : zdep (x :: r) = 30
            · apply TX12_compiles_44 <;> (try rw [e87]) <;> (try rw [e88]) <;> (try rw [hc.1.1]) <;> (try (intros; omega))
              intro _ _ _
              exact kflt s p hfr (by omega) (by rw [zgo_open hpn2 hc2, if_pos hd])
            · rw [zgo_open hpn2 hc2, if_neg hd] at kq
              have hdx : zdep ((0, 1, 0) :: x :: r) = zdep (x :: r) + 1 := by simp only [zdep]; omega
              have hz2 : zun (40 :: ops) W ((0, 1, 0) :: x :: r) := Or.inr (Or.inr (Or.inr ⟨rfl, x :: r, rfl, hz⟩))
              obtain ⟨p1, p2⟩ := push 40 _ hz2 hdx
              rw [hc2]
              apply TX12_compiles_44 <;> (try rw [e87]) <;> (try rw [e88]) <;> (try (intros; omega))
              · intro _ _ _
                have := hc.1.1
                omega
              · intro _ _ _
                have := hc.1.1
                omega
              · intro _ _ _ _
                have el : (r.length : Int) + 1 = (((x :: r).length : Nat) : Int) := by simp
                rw [el]
                refine ih (p + 1) true 1 m V (0, 1, 0) (x :: r) _ (40 :: ops) rc (by omega) (by omega) ⟨fun _ => rfl, fun z => (by cases z)⟩ p1 ⟨by simp [zup], by simp [zup, hdx], by omega⟩ ⟨by decide, hnn⟩ ⟨by simp [zup, hm.1], hm.2.1, by omega⟩ p2 (by simp only [List.length_cons]; omega) (ztld_eq ?_ ?_ ?_ htl) hV3 ⟨⟨Or.inl rfl, Or.inr (Or.inl rfl)⟩, hvv⟩ ⟨fun _ => ⟨W, hx, hz2⟩, fun z => (by cases z)⟩ kq
                · rw [zup_ne (by decide), zup_ne (by decide), zup_ne (by decide), zup_ne (by decide)]
                · rw [zup_ne (by decide), zup_ne (by decide), zup_ne (by decide), zup_ne (by decide)]
                · rw [zup_ne (by decide), zup_ne (by decide), zup_ne (by decide), zup_ne (by decide)]
          · apply TX12_compiles_44 <;> (try rw [e87]) <;> (try rw [e88]) <;> (try rw [hc.1.1]) <;> (try (intros; omega))
            intro _ _
            refine okX12_reads hpar e87 ⟨hp.1, hpn2⟩ hm.1 (by omega) (fun hT s' w1 w2 w3 w4 w5 w6 w7 => ?_) (fun hT s' w1 w2 => ?_)
            · have he1 := zrd_e hT hp.1
              have he2 := zrd_n hT ⟨hp.1, hpn2⟩
              rw [zgo_test hpn2 hc1 hc2 hT] at kq
              have hval : ztv u (zTest_s (zrd (zlt t n) p)) (zTest_o (zrd (zlt t n) p)) (zTest_m (zrd (zlt t n) p)) = ztv u (s' 162 m) (s' 163 m) (s' 164 m) := by
                rw [← w6]
                rcases w7 with h | ⟨h, h2⟩
                · rw [h]
                  unfold ztv
                  rw [if_pos rfl, if_pos rfl]
                · rw [h, h2]
              have hv3 := ztv_3 u (zTest_s (zrd (zlt t n) p)) (zTest_o (zrd (zlt t n) p)) (zTest_m (zrd (zlt t n) p))
              generalize ztv u (zTest_s (zrd (zlt t n) p)) (zTest_o (zrd (zlt t n) p)) (zTest_m (zrd (zlt t n) p)) = v at hval hv3 kq
              have c85 : s' 98 85 = rc.length := (zfr_at w1 rfl).trans hc.2.1
              have c86 : s' 98 86 = ops.length := (zfr_at w1 rfl).trans hc.1.1
              have c165 : s' 165 = s 165 := zfr_row w1 rfl
              have c166 : s' 166 = s 166 := zfr_row w1 rfl
              have c88 : s' 98 88 = zdep (x :: r) := (zfr_at w1 rfl).trans e88
              have hx2 : zex (zupd1 V m v) (m :: rc) = some (m + 1, v :: W) := by
                have h1 := zex_test (zex_eq (V' := zupd1 V m v) (fun i a b => by unfold zupd1; rw [if_neg (by omega)]) hx) hm.2.1
                have h2 : zupd1 V m v m = v := by unfold zupd1; rw [if_pos rfl]
                rw [h2] at h1
                exact h1
              have xn := hnn.1
              have hxd : x.2.2 ≤ zdep (x :: r) := by have := zdep_b hnn.2; simp only [zdep]; omega
              have hdr : zdep (x :: r) = zdep r + 1 + x.2.2 := rfl
              apply TX12_compiles_132 <;> (try rw [w3]) <;> (try rw [c85]) <;> (try (intros; omega))
              intro _
              rw [show m + 1 - 1 = m from by omega]
              have hcs2 : zcs (zup (zup s' 98 85 ((rc.length : Int) + 1)) 165 (rc.length : Int) m) ops (m :: rc) := by
                obtain ⟨⟨c1, c2⟩, c3, c4⟩ := hc
                refine ⟨⟨by simp [zup, c86], ?_⟩, by simp [zup], ⟨by simp [zup], zstk_eq (fun i a b => ?_) c4⟩⟩
                · rw [zup_ne (by decide), zup_ne (by decide), c166]
                  exact c2
                · rw [zup_oi (by omega), zup_of (by decide), c165]
              refine TX12_closes (okX12_closes_0 ops (m :: rc) _ x.1 x.2.1 x.2.2 v (m + 1) r W hcs2 (by simp only [List.length_cons]; omega) hz xn hv3 hx2 (by simp [zup, c88]; omega) (by simp [zup, c88]; omega) (fun s2 ops' rc' y1 y2 y3 y4 y5 y6 y7 => ?_))
              refine TX12_compiles_166 ?_
              have y5' : s2 98 88 = zdep (x :: r) - x.2.2 := by rw [y5]; simp [zup, c88]
              have fr2 : zfr zWd s2 s' := zfr_tr (zfr_uA rfl (zfr_uF rfl zfr_0)) (zfr_mo rfl y1)
              have q84 : s2 98 84 = m + 1 := by rw [zfr_at y1 rfl]; simp [zup, w3]
              have q87 : s2 98 87 = zTest_e (zrd (zlt t n) p) := by rw [zfr_at y1 rfl]; simp [zup, w2]
              have q162 : s2 162 = s' 162 := by rw [zfr_row y1 rfl, zup_ne (by decide), zup_ne (by decide)]
              have q163 : s2 163 = s' 163 := by rw [zfr_row y1 rfl, zup_ne (by decide), zup_ne (by decide)]
              have q164 : s2 164 = s' 164 := by rw [zfr_row y1 rfl, zup_ne (by decide), zup_ne (by decide)]
              have hrlen := List.length_cons (a := m) (as := rc)
              refine ih (zTest_e (zrd (zlt t n) p)) false 0 (m + 1) (zupd1 V m v) (zendp v x) r s2 ops' rc' (by omega) (by omega) ⟨fun z => (by cases z), fun _ => rfl⟩ (zfr_tr (zfr_tr hfr (zfr_mo rfl w1)) fr2) ⟨q87, ?_, ?_⟩ ⟨by simp [zendp], hnn.2⟩ ⟨q84, by omega, by omega⟩ y2 (by omega) ?_ ?_ (zendp_3 hv3 hvv) ⟨fun z => (by cases z), fun _ => ⟨x.1, x.2.1, znot x.2.2 v, r, W, rfl, ⟨hvv.1.2, hvv.1.1⟩, y4, y3⟩⟩ kq
              · rw [y5']; simp only [zdep, zendp]; omega
              · simp only [zdep, zendp] at hd30 ⊢; omega
              · refine ztld_eq q162 q163 q164 (fun i i0 i1 => ?_)
                unfold zupd1
                by_cases e : i = m
                · rw [if_pos e, e]
                  exact ⟨hval, w5⟩
                · rw [if_neg e]
                  have g := w4 i e
                  rw [g.1, g.2.1, g.2.2]
                  exact htl i i0 (by omega)
              · intro i
                unfold zupd1
                split
                · exact hv3
                · exact hV3 i
            · apply TX12_compiles_132 <;> (try (intros; omega))
              intro _
              rw [w2]
              exact kflt s' _ (zfr_tr hfr (zfr_mo rfl w1)) hT (zgo_bad hpn2 hc1 hc2 hT)
      | false =>
        have hb0 := hbd.2 rfl
        subst hb0
        obtain ⟨O, A, v, r0, W, e, ⟨hA, hO⟩, hx, hz⟩ := hdu.2 rfl
        simp only [List.cons.injEq] at e
        obtain ⟨rfl, rfl⟩ := e
        have hv := zex_3 hV3 hx v List.mem_cons_self
        have push : ∀ (s' : zS) (c : Int) (ops' rc' : List Int), zfr zWc s' s → zcs s' ops' rc' →
            zfr zWd (zup (zup (zup s' 98 86 (s' 98 86 + 1)) 166 (s' 98 86) c) 98 87 (p + 1)) σ ∧ zcs (zup (zup (zup s' 98 86 (s' 98 86 + 1)) 166 (s' 98 86) c) 98 87 (p + 1)) (c :: ops') rc' := by
          intro s' c ops' rc' hf' hc'
          obtain ⟨⟨c1, c2⟩, c3, c4⟩ := hc'
          refine ⟨zfr_uF rfl (zfr_uA rfl (zfr_uF rfl (zfr_tr hfr (zfr_mo rfl hf')))), ⟨by simp [zup, c1], by simp [zup, c1], zstk_eq (fun i a b => ?_) c2⟩, by simp [zup, c3], ?_⟩
          · rw [zup_of (by decide), zup_oi (by omega), zup_of (by decide)]
          · rw [zup_ne (by decide), zup_ne (by decide), zup_ne (by decide)]
            exact c4
        have tl3 : ∀ (s' : zS) (c : Int), zfr zWc s' s → ztld (zup (zup (zup s' 98 86 (s' 98 86 + 1)) 166 (s' 98 86) c) 98 87 (p + 1)) u m V := by
          intro s' c hf'
          refine ztld_eq ?_ ?_ ?_ htl
          · rw [zup_ne (by decide), zup_ne (by decide), zup_ne (by decide), zfr_row hf' rfl]
          · rw [zup_ne (by decide), zup_ne (by decide), zup_ne (by decide), zfr_row hf' rfl]
          · rw [zup_ne (by decide), zup_ne (by decide), zup_ne (by decide), zfr_row hf' rfl]
        by_cases hc1 : zlt t n p = 38
        · rw [zgo_and hpn2 hc1] at kq
          rw [hc1]
          apply TX12_compiles_44 <;> (try (intros; omega))
          intro _ _ _
          refine TX12_pops (okX12_pops_0 ops rc s O A v m r W hc (by omega) hz hv hA hO hx (fun s' ops' rc' W' w g1 g2 g3 g4 g5 g6 g7 => ?_))
          obtain ⟨hw, hz'⟩ := g6 rfl
          obtain ⟨p1, p2⟩ := push s' 38 ops' rc' g1 g3
          have g87 : s' 98 87 = p := (zfr_at g1 rfl).trans e87
          have g84 : s' 98 84 = m := (zfr_at g1 rfl).trans hm.1
          have gl := g3.1.1
          apply TX12_compiles_188 <;> (try rw [g87]) <;> (try (intros; omega))
          refine ih (p + 1) true 1 m V (O, zboth A v, 0) r _ (38 :: ops') rc' (by omega) (by omega) ⟨fun _ => rfl, fun z => (by cases z)⟩ p1 ⟨by simp [zup], by simp [zup, g2, e88], hd30⟩ hnn ⟨by simp [zup, g84], hm.2.1, by omega⟩ p2 (by simp only [List.length_cons]; omega) (tl3 s' 38 g1) hV3 hvv ⟨fun _ => ⟨w :: W', g5, ?_⟩, fun z => (by cases z)⟩ kq
          exact Or.inr (Or.inl ⟨rfl, O, zboth A v, r, W', rfl, by rw [hw], hz'⟩)
        · by_cases hc2 : zlt t n p = 124
          · rw [zgo_or hpn2 hc2] at kq
            rw [hc2]
            apply TX12_compiles_44 <;> (try (intros; omega))
            intro _ _ _
            refine TX12_pops (okX12_pops_0 ops rc s O A v m r W hc (by omega) hz hv hA hO hx (fun s' ops' rc' W' w g1 g2 g3 g4 g5 g6 g7 => ?_))
            obtain ⟨hw, hz', _⟩ := g7 (by decide)
            obtain ⟨p1, p2⟩ := push s' 124 ops' rc' g1 g3
            have g87 : s' 98 87 = p := (zfr_at g1 rfl).trans e87
            have g84 : s' 98 84 = m := (zfr_at g1 rfl).trans hm.1
            have gl := g3.1.1
            apply TX12_compiles_188 <;> (try rw [g87]) <;> (try (intros; omega))
            refine ih (p + 1) true 1 m V (zeith O (zboth A v), 1, 0) r _ (124 :: ops') rc' (by omega) (by omega) ⟨fun _ => rfl, fun z => (by cases z)⟩ p1 ⟨by simp [zup], by simp [zup, g2, e88, zdep], by simp only [zdep] at hd30 ⊢; omega⟩ hnn ⟨by simp [zup, g84], hm.2.1, by omega⟩ p2 (by simp only [List.length_cons]; omega) (tl3 s' 124 g1) hV3 ⟨⟨zeith_3 hvv.1.1 hvv.1.2, Or.inr (Or.inl rfl)⟩, hvv.2⟩ ⟨fun _ => ⟨w :: W', g5, ?_⟩, fun z => (by cases z)⟩ kq
            exact Or.inr (Or.inr (Or.inl ⟨rfl, zeith O (zboth A v), r, W', rfl, by rw [hw], hz'⟩))
          · by_cases hc3 : zlt t n p = 41 ∧ r ≠ []
            · cases r with
              | nil => exact absurd rfl hc3.2
              | cons y r' =>
                obtain ⟨hc3, _⟩ := hc3
                rw [zgo_close hpn2 hc3] at kq
                rw [hc3]
                have el : (((y :: r').length : Nat) : Int) = (r'.length : Int) + 1 := by simp
                have y4 := hnn.2.1
                have hdr := zdep_b hnn.2.2
                have e3 : zdep ((O, zboth A v, 0) :: y :: r') = zdep (y :: r') + 1 + 0 := rfl
                have e4 : zdep (y :: r') = zdep r' + 1 + y.2.2 := rfl
                rw [el]
                apply TX12_compiles_44 <;> (try (intros; omega))
                intro _ _ _ _ _ _
                refine TX12_pops (okX12_pops_0 ops rc s O A v m (y :: r') W hc (by omega) hz hv hA hO hx (fun s' ops' rc' W' w g1 g2 g3 g4 g5 g6 g7 => ?_))
                obtain ⟨hw, hz', hop⟩ := g7 (by decide)
                have hop2 : ∃ l, ops' = 40 :: l ∧ zun l W' (y :: r') := by
                  rcases hop with h | ⟨l, h⟩
                  · rw [h] at hz'
                    obtain ⟨_, h2⟩ := hz'
                    simp only [List.cons.injEq] at h2
                    cases h2.2
                  · rw [h] at hz'
                    rcases hz' with ⟨z, _⟩ | ⟨z, _⟩ | ⟨z, _⟩ | ⟨_, r'', e, h2⟩
                    · omega
                    · omega
                    · omega
                    · simp only [List.cons.injEq] at e
                      rw [← e.2] at h2
                      exact ⟨l, h, h2⟩
                obtain ⟨l, hl1, hl2⟩ := hop2
                subst hl1
                have hw3 : zv3 w := by rw [hw]; exact zeith_3 hO (zboth_3 hA hv)
                have gl := g3.1.1
                simp only [List.length_cons] at gl g4
                have g87 : s' 98 87 = p := (zfr_at g1 rfl).trans e87
                have g84 : s' 98 84 = m := (zfr_at g1 rfl).trans hm.1
                have g88 : s' 98 88 = zdep (y :: r') + 1 := by rw [g2, e88, e3]; omega
                apply TX12_compiles_236 <;> (try rw [gl]) <;> (try rw [g88]) <;> (try (intros; omega))
                have c2 : zcs (zup (zup s' 98 86 (((l.length + 1 : Nat) : Int) - 1)) 98 88 (zdep (y :: r') + 1 - 1)) l rc' := by
                  obtain ⟨⟨c1, c2, c5⟩, c3, c4⟩ := g3
                  refine ⟨⟨by simp [zup], ?_⟩, by simp [zup, c3], ?_⟩
                  · rw [zup_ne (by decide), zup_ne (by decide)]
                    exact c5
                  · rw [zup_ne (by decide), zup_ne (by decide)]
                    exact c4
                refine TX12_closes (okX12_closes_0 l rc' _ y.1 y.2.1 y.2.2 w m r' W' c2 (by omega) hl2 y4 hw3 g5 (by simp [zup]; omega) (by simp [zup]; omega) (fun s2 ops2 rc2 y1 y2 y3 y4' y5 y6 y7 => ?_))
                have fr2 : zfr zWd s2 s' := zfr_tr (zfr_uF rfl (zfr_uF rfl zfr_0)) (zfr_mo rfl y1)
                have q87 : s2 98 87 = p := by rw [zfr_at y1 rfl]; simp [zup, g87]
                have q84 : s2 98 84 = m := by rw [zfr_at y1 rfl]; simp [zup, g84]
                have q162 : s2 162 = s 162 := by rw [zfr_row y1 rfl, zup_ne (by decide), zup_ne (by decide), zfr_row g1 rfl]
                have q163 : s2 163 = s 163 := by rw [zfr_row y1 rfl, zup_ne (by decide), zup_ne (by decide), zfr_row g1 rfl]
                have q164 : s2 164 = s 164 := by rw [zfr_row y1 rfl, zup_ne (by decide), zup_ne (by decide), zfr_row g1 rfl]
                have y5' : s2 98 88 = zdep (y :: r') - y.2.2 := by rw [y5]; simp [zup]
                apply TX12_compiles_263 <;> (try rw [q87]) <;> (try (intros; omega))
                rw [show (r'.length : Int) + 1 + -1 = r'.length from by omega]
                refine ih (p + 1) false 0 m V (zendp (zeith O (zboth A v)) y) r' _ ops2 rc2 (by omega) (by omega) ⟨fun z => (by cases z), fun _ => rfl⟩ (zfr_uF rfl (zfr_tr (zfr_tr hfr (zfr_mo rfl g1)) fr2)) ⟨by simp [zup], ?_, ?_⟩ ⟨by simp [zendp], hnn.2.2⟩ ⟨by simp [zup, q84], hm.2.1, by omega⟩ (zcs_eq (by simp [zup]) (by rw [zup_ne (by decide)]) (by simp [zup]) (by rw [zup_ne (by decide)]) y2) (by omega) (ztld_eq (by rw [zup_ne (by decide), q162]) (by rw [zup_ne (by decide), q163]) (by rw [zup_ne (by decide), q164]) htl) hV3 (zendp_3 (zeith_3 hO (zboth_3 hA hv)) hvv.2) ⟨fun z => (by cases z), fun _ => ⟨y.1, y.2.1, znot y.2.2 w, r', W', by rw [hw]; rfl, ⟨hvv.2.1.2, hvv.2.1.1⟩, y4', y3⟩⟩ kq
                · rw [zup_oi (by decide), y5']; simp only [zdep, zendp]; omega
                · simp only [zdep, zendp] at hd30 ⊢; omega
            · have hrr : zlt t n p ≠ 41 ∨ r = [] := by
                by_cases h4 : zlt t n p = 41
                · right
                  cases r with
                  | nil => rfl
                  | cons y r' => exact absurd ⟨h4, by simp⟩ hc3
                · exact Or.inl h4
              have hlv : zlt t n p ≠ 41 ∨ (zlt t n p = 41 ∧ (r.length : Int) ≤ 0) := by
                rcases hrr with h4 | h4
                · exact Or.inl h4
                · subst h4
                  simp only [List.length_nil]
                  omega
              apply TX12_compiles_44 <;> (try rw [e87]) <;> (try (intros; omega))
              intro _ _ _ _ _
              exact kflt s p hfr (by omega) (zgo_no hpn2 hc1 hc2 hrr)
theorem okX12_compiles (ht : zparM σ t n) (kq : ∀ s' : zS, zfr zWd s' σ → zcr s' u (zlaw (zlt t n) n u) → Q (zRes_f (zlaw (zlt t n) n u)) s') : zO G MX12_compiles [zr 98] σ Q := by
  have hn := ht.1
  refine TX12_compiles ?_
  have hfr : zfr zWd (zup (zup (zup (zup (zup σ 98 84 0) 98 85 0) 98 86 0) 98 87 0) 98 88 0) σ := zfr_uF rfl (zfr_uF rfl (zfr_uF rfl (zfr_uF rfl (zfr_uF rfl zfr_0))))
  refine okX12_compiles_loop (u := u) ht 201 0 true 1 0 (fun _ => 0) (0, 1, 0) [] _ [] [] (by omega) (by omega) ⟨fun _ => rfl, fun z => (by cases z)⟩ hfr ⟨by simp [zup], by simp [zup, zdep], by simp [zdep]⟩ ⟨by decide, trivial⟩ ⟨by simp [zup], by omega, by omega⟩ ⟨⟨by simp [zup], trivial⟩, by simp [zup], trivial⟩ (by simp) (fun i a b => by omega) (fun _ => Or.inl rfl) ⟨⟨Or.inl rfl, Or.inr (Or.inl rfl)⟩, trivial⟩ ⟨fun _ => ⟨[], rfl, rfl, rfl⟩, fun z => (by cases z)⟩ kq
end CP
