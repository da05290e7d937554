/-! CALLS: judge, the model, and both sides -/
section JM
variable {G : zG} {σ : zS} {Q : Int → zS → Prop}
theorem okX12_judge {t : zS} {a n up fl Y v5 : Int} {w : Int → Int} (hi : zinv σ) (eY : Y = σ 98 0 / 365) (ha : 0 ≤ a ∧ a < 10) (hn : 1 ≤ n ∧ n ≤ 10) (hu : 0 ≤ up ∧ up ≤ 99999) (hfl : 0 ≤ fl ∧ fl ≤ 99999) (f : zfr zWx t σ) (hw : ∀ i, 0 ≤ i → i < 80 → zW (σ 115 (80 * a + i)) = w i)
    (k1 : ∀ u, zfr zWM u t → zcf σ Y n w → zkp σ Y n up (w 0) fl (zyf σ n w 0) (zyf σ n w 1) → Q (zwo σ Y n up (w 0) (zyf σ n w 0) (zyf σ n w 1)) u)
    (k2 : ∀ (u : zS) (k : Nat), zfr zWM u t → zcf σ Y n w → (k : Int) < n → (∀ j : Nat, j < k → fl ≤ zbal σ Y n up (w 0) (j + 1) - zco σ (zyf σ n w 0) (zyf σ n w 1) j) → ¬ (fl ≤ zbal σ Y n up (w 0) (k + 1) - zco σ (zyf σ n w 0) (zyf σ n w 1) k) → Q (-10 - k) u)
    (k3 : ∀ u, zfr zWM u t → ¬ zcf σ Y n w → Q (-6) (zup u 157 (-(-6)) (zW ((u 157 (-(-6))) + 1)))) : zR G MX12_judge 48 [zr 98, zi a, zi n, zi fl, zi up, zi v5, zu, zu] [zi 1] t Q := by
  have hyr := zyear hi
  have h8 := (g_zlea hi).2.1
  have hr12 := (g_zrfs hi).1
  have t0 : t 98 0 = σ 98 0 := zfr_at f rfl
  have t5 : t 98 5 = σ 98 5 := zfr_at f rfl
  have t10 : t 98 10 = σ 98 10 := zfr_at f rfl
  have t115 : t 115 = σ 115 := zfr_row f rfl
  have t144 : t 144 = σ 144 := zfr_row f rfl
  have t145 : t 145 = σ 145 := zfr_row f rfl
  have hy : zdiv (t 98 0) 365 = Y := by rw [t0, hyr.1, eY]
  have hw0 : zW (σ 115 (80 * a)) = w 0 := by have := hw 0 (by omega) (by omega); rw [Int.add_zero] at this; exact this
  have win : zIn (w 0) := by rw [← hw0]; exact zIn_W _
  have hrng := zm_rng (p := σ 98 5) win (by omega) (by omega)
  have hsh := zb_sh0 (x := w 0) (n := σ 98 5) win (by omega) (by omega)
  -- the roofs
  have roofs : zsb2 σ Y n (w 0) → zR G MX12_judge 142 [zr 98, zi a, zi n, zi fl, zi up, zi v5, zi (w 0), zi 0] [] t Q := by
    intro hs
    have hbits : ∀ l, 0 ≤ l → l < σ 98 5 → zbit (w 0) l → zen σ Y n l := fun l l0 l1 hb => (hs l l0 (by omega) hb).2
    have loop : ∀ (m : Nat) (r : Int) (u : zS), (σ 98 10 - r).toNat = m → 0 ≤ r → r ≤ σ 98 10 → zfr zWM u t → (∀ x, 0 ≤ x → x < r → (-1 ≤ w (1 + x) ∧ w (1 + x) < n) ∧ u 175 x = w (1 + x)) → zR G MX12_judge 142 [zr 98, zi a, zi n, zi fl, zi up, zi v5, zi (w 0), zi r] [] u Q := by
      intro m
      induction m with
      | zero =>
        intro r u hm r0 r1 fu hx
        have u10 : u 98 10 = σ 98 10 := by rw [zfr_at fu rfl]; exact t10
        have hcf : zcf σ Y n w := ⟨hs, fun x a b => (hx x a (by omega)).1⟩
        have b0 := zyf_b hn.1 hcf (r := 0) (by omega)
        have b1 := zyf_b hn.1 hcf (r := 1) (by omega)
        apply TX12_judge_142 <;> (try rw [u10]) <;> (try (intros; omega))
        intro _
        refine okX12_holds hi eY hn hu hfl (zfr_tr f (zfr_mo rfl fu)) hbits (zyf_ry hn.1 hcf) (fun z => by rw [(hx 0 (by omega) (by omega)).2]; exact b0.2.2 z) (fun z => by rw [(hx 1 (by omega) (by omega)).2]; exact b1.2.2 z) (fun hk => ?_) (fun k kn hj hnk => ?_)
        · have go := k1 (zup u 98 105 (zwo σ Y n up (w 0) (zyf σ n w 0) (zyf σ n w 1))) (zfr_uF rfl fu) hcf hk
          refine TX12_judge_218 (fun z => absurd z (by decide)) (fun z => absurd z (by decide)) (fun _ => ?_)
          rw [zup_same]
          exact go
        · have go := k2 (zup u 98 104 k) k (zfr_uF rfl fu) hcf kn hj hnk
          refine TX12_judge_218 (fun _ => by rw [zup_same]; omega) (fun _ => ?_) (fun z => absurd rfl z)
          rw [zup_same]
          exact go
      | succ m ih =>
        intro r u hm r0 r1 fu hx
        have u10 : u 98 10 = σ 98 10 := by rw [zfr_at fu rfl]; exact t10
        have u115 : u 115 = σ 115 := by rw [zfr_row fu rfl]; exact t115
        have hwr : zW (σ 115 (((80 * a) + 1) + r)) = w (1 + r) := by rw [Int.add_assoc]; exact hw (1 + r) (by omega) (by omega)
        by_cases d : -1 ≤ w (1 + r) ∧ w (1 + r) < n
        · have go := ih (r + 1) (zup u 175 r (w (1 + r))) (by omega) (by omega) (by omega) (zfr_uA rfl fu) (fun x x0 x1 => by
            by_cases e : x = r
            · rw [e, zup_same]; exact ⟨d, rfl⟩
            · rw [zup_oi e]; exact hx x x0 (by omega))
          apply TX12_judge_142 <;> (try rw [u10]) <;> (try rw [u115]) <;> (try rw [hwr]) <;> (try (intros; omega))
          all_goals (intros; exact go)
        · have go := k3 (zup u 175 r (w (1 + r))) (zfr_uA rfl fu) (fun z => d (z.2 r r0 (by omega)))
          apply TX12_judge_142 <;> (try rw [u10]) <;> (try rw [u115]) <;> (try rw [hwr]) <;> (try (intros; omega))
          all_goals (intros; exact go)
    exact loop _ 0 t rfl (by omega) (by omega) zfr_0 (fun x a b => by omega)
  -- the set
  by_cases c : 0 ≤ w 0 ∧ w 0 < zshl 1 (σ 98 5)
  · have hlow := hsh.mp (hrng.mpr c)
    have loop : ∀ (m : Nat) (l : Int), (σ 98 5 - l).toNat = m → 0 ≤ l → l ≤ σ 98 5 → (∀ x, 0 ≤ x → x < l → zbit (w 0) x → zen σ Y n x) → zR G MX12_judge 96 [zr 98, zi a, zi n, zi fl, zi up, zi v5, zi (w 0), zi l] [] t Q := by
      intro m
      induction m with
      | zero =>
        intro l hm l0 l1 hx
        have go := roofs (fun j j0 j1 hb => by
          by_cases d : j < σ 98 5
          · exact ⟨d, hx j j0 (by omega) hb⟩
          · exact absurd hb (hlow j (by omega) j1))
        apply TX12_judge_96 <;> (try rw [t5]) <;> (try (intros; omega))
        all_goals (intros; exact go)
      | succ m ih =>
        intro l hm l0 l1 hx
        by_cases b : zbit (w 0) l
        · have hz := (zb_shr1 (x := w 0) l0 (by omega)).1 b
          apply TX12_judge_96 <;> (try rw [t5]) <;> (try (intros; omega))
          intro _ _
          by_cases d : zen σ Y n l
          · have go := ih (l + 1) (by omega) (by omega) (by omega) (fun x x0 x1 hb => by
              by_cases e : x = l
              · rw [e]; exact d
              · exact hx x x0 (by omega) hb)
            obtain ⟨d1, d2, d3⟩ := d
            apply TX12_endsIn <;> (try rw [hy]) <;> (try rw [t144]) <;> (try rw [t145]) <;> (try (intros; omega))
            intro _ _ _
            apply TX12_judge_123 <;> (try (intros; omega))
            all_goals (intros; exact go)
          · have go := k3 t zfr_0 (fun z => d (z.1 l l0 (by omega) b).2)
            have hc : σ 145 l ≠ 0 ∨ (σ 145 l = 0 ∧ σ 144 l < Y) ∨ (σ 145 l = 0 ∧ Y ≤ σ 144 l ∧ Y + n ≤ σ 144 l) := by
              by_cases p : σ 145 l = 0
              · have nc : ¬ (Y ≤ σ 144 l ∧ σ 144 l < Y + n) := fun z => d ⟨p, z.1, z.2⟩
                omega
              · exact Or.inl p
            apply TX12_endsIn <;> (try rw [hy]) <;> (try rw [t144]) <;> (try rw [t145]) <;> (try (intros; omega))
            intro _
            apply TX12_judge_123 <;> (try (intros; omega))
            all_goals (intros; exact go)
        · have hz := (zb_shr1 (x := w 0) l0 (by omega)).2 b
          have go := ih (l + 1) (by omega) (by omega) (by omega) (fun x x0 x1 hb => by
            by_cases e : x = l
            · rw [e] at hb; exact absurd hb b
            · exact hx x x0 (by omega) hb)
          apply TX12_judge_96 <;> (try rw [t5]) <;> (try (intros; omega))
          all_goals (intros; exact go)
    have go := loop _ 0 rfl (by omega) h8.1 (fun x a b => by omega)
    apply TX12_judge_48 <;> (try rw [t115]) <;> (try rw [hw0]) <;> (try rw [t5]) <;> (try (intros; omega))
    all_goals (intros; exact go)
  · have go := k3 t zfr_0 (fun z => c (hrng.mp (hsh.mpr (fun j j0 j1 hb => by have := (z.1 j (by omega) j1 hb).1; omega))))
    apply TX12_judge_48 <;> (try rw [t115]) <;> (try rw [hw0]) <;> (try rw [t5]) <;> (try (intros; omega))
    all_goals (intros; exact go)
theorem zno_ss {s w : zS} {a : Int} (hi : zinv σ) (ha : 0 ≤ a ∧ a < 8) (fs : zfr zWs s σ) (fw : zfr zWM w (zup s 97 a (zW (s 97 a + 1)))) : zinv (zup w 157 a (zW (w 157 a + 1))) := by
  have w97 : w 97 = zup s 97 a (zW (s 97 a + 1)) 97 := zfr_row fw rfl
  have s97 : s 97 = σ 97 := zfr_row fs rfl
  have s157 : s 157 = σ 157 := zfr_row fs rfl
  have w157 : w 157 = σ 157 := by
    rw [zfr_row fw rfl]
    funext j
    rw [zup_of (by decide), s157]
  have F : zfr ((97, none) :: (157, none) :: zWs) (zup w 157 a (zW (w 157 a + 1))) σ := zfr_uA rfl (zfr_tr (zfr_uA rfl (zfr_mo rfl fs)) (zfr_mo rfl fw))
  apply zinv_fr F hi <;> (try (intro h; exact absurd h (by decide)))
  intro _ j j0 j1
  have hr := g_zref hi j j0 j1
  rw [zup_of (by decide), w97, w157, s97]
  by_cases c : j = a
  · rw [c, zup_same, zup_same]
    rw [c] at hr
    rw [hr]
  · rw [zup_oi c, zup_oi c, w157, s97]
    exact hr
theorem st_judge {a1 a2 a3 a4 : Int} (hi : zinv σ) : zst2 G MX11_judge [zr 0, zi a1, zi a2, zi a3, zi a4] MX12_judge [zr 98, zi a1, zi a2, zi a3, zi a4] σ := by
  have hv := g_zshv hi
  have hyr := zyear hi
  have hnow := (g_zcnow hi).1
  have hr12 := (g_zrfs hi).1
  have e0 : zdiv (σ 0 13) 365 = σ 98 0 / 365 := by rw [hnow, hyr.1]
  have hY : 0 ≤ σ 98 0 / 365 ∧ σ 98 0 / 365 ≤ 110 := by omega
  refine TX11_judge (okX11_rowTrouble hv (fun r hr => ?_))
  by_cases hz : r = 0
  · subst hz
    have h : (0 ≤ a1 ∧ a1 < 10) ∧ σ 111 a1 = 1 := by unfold zrt at hr; omega
    have ha := h.1
    obtain ⟨b1, b2, b3, b4, b5, b6⟩ := zsh_row hv h.1 h.2
    have wants : ∀ (s : zS) (Q : Int → zS → Prop), s 111 = σ 111 → zshv s → zR G MX12_judge 5 [zr 98, zi a1, zi a2, zi a3, zi a4, zu, zu, zu] [zi 0] s Q → zO G MX12_judge [zr 98, zi a1, zi a2, zi a3, zi a4] s Q := by
      intro s Q e1 e2 kq
      refine TX12_judge (okX12_wants e2 (fun r' hr' => ?_))
      have : r' = 0 := by unfold zrt at hr'; rw [e1] at hr'; omega
      subst this
      exact kq
    by_cases sz : 1 + σ 98 10 ≤ σ 113 a1
    · by_cases ok : (1 ≤ a2 ∧ a2 ≤ 10) ∧ (0 ≤ a3 ∧ a3 ≤ 99999) ∧ (0 ≤ a4 ∧ a4 ≤ 99999)
      · have hn := ok.1
        have hfl := ok.2.1
        have hu := ok.2.2
        refine TX11_judge_5 (fun _ => ha) (fun _ => by rw [hr12.1]; omega) (fun _ _ _ => ?_) (fun _ _ z => absurd ok z) (fun _ _ z => absurd ok z) (fun _ _ z => absurd ok z) (fun _ z => by rw [b4, hr12.1] at z; omega) (fun _ z => by rw [b4, hr12.1] at z; omega) (fun _ z => by rw [b4, hr12.1] at z; omega) (fun z => absurd rfl z) (fun z => absurd rfl z) (fun z => absurd rfl z)
        rw [e0]
        refine okX7_prepare hi rfl hn hu (fun s fs hp => ?_)
        have fsc : zfr zWs s σ := zfr_mo rfl fs
        have srow : s (3 + 2 * a1.toNat) = σ (3 + 2 * a1.toNat) := by
          funext j
          refine fs _ j (fun ⟨d, hd, dq, _⟩ => ?_)
          simp only [List.mem_cons, List.not_mem_nil, or_false] at hd
          rcases hd with e | e | e | e <;> (rw [e] at dq; simp only at dq; omega)
        have hw : ∀ i, 0 ≤ i → i < 80 → zW (σ 115 (80 * a1 + i)) = (fun i => zW (σ 115 (80 * a1 + i))) i := fun i _ _ => rfl
        have hwC : ∀ i, 0 ≤ i → i < 80 → zW (s (3 + 2 * a1.toNat) i) = (fun i => zW (σ 115 (80 * a1 + i))) i := fun i i0 i1 => by rw [srow, b6 i i0 i1]
        generalize hwe : (fun i => zW (σ 115 (80 * a1 + i))) = w at hw hwC
        have mdl : ∀ (t : zS) (Q : Int → zS → Prop), zfr zWx t σ → zR G MX12_judge 48 [zr 98, zi a1, zi a2, zi a3, zi a4, zi 0, zu, zu] [zi 1] t Q → zO G MX12_judge [zr 98, zi a1, zi a2, zi a3, zi a4] t Q := by
          intro t Q ft kq
          have tsz : t 113 a1 = σ 113 a1 := by rw [zfr_row ft rfl]
          have t10 : t 98 10 = σ 98 10 := zfr_at ft rfl
          refine wants t Q (zfr_row ft rfl) (zshv_ke (zfr_sm ft rfl) hv) ?_
          apply TX12_judge_5 <;> (try rw [tsz]) <;> (try rw [t10]) <;> (try (intros; omega))
          intro _ _
          apply TX12_isPlan <;> (try (intros; omega))
          all_goals (intros; exact kq)
        refine TX11_judge_78 ha ?_
        refine okX7_canFollow hi ha hp hwC (fun hcf => ?_) (fun hcf => ?_)
        · refine TX11_judge_91 (fun z => absurd z (by decide)) (fun z => absurd z (by decide)) (fun z => absurd z (by decide)) (fun _ => ha) (fun _ => ?_)
          refine okX7_outcomeOf hi ha hY hn hu hfl hp hwC hcf (fun u fu hk => TX11_judge_108 ?_) (fun u k fu kn hj hnk => TX11_judge_108 ?_)
          · have fus : zfr [(83, some 10), (83, some 11), (86, none), (87, none), (88, none), (89, none)] u σ := zfr_tr (zfr_mo rfl fs) (zfr_mo rfl fu)
            refine mdl u _ (zfr_mo rfl fus) (okX12_judge hi rfl ha hn hu hfl (zfr_mo rfl fus) hw (fun v fv _ _ => ⟨rfl, ?_⟩) (fun v k fv _ kn _ hnk => absurd (hk k kn) hnk) (fun v fv z => absurd hcf z))
            exact zinv_sc (zfr_tr (zfr_mo rfl fus) (zfr_mo rfl fv)) hi
          · have fus : zfr [(83, some 10), (83, some 11), (86, none), (87, none), (88, none), (89, none)] u σ := zfr_tr (zfr_mo rfl fs) (zfr_mo rfl fu)
            refine mdl u _ (zfr_mo rfl fus) (okX12_judge hi rfl ha hn hu hfl (zfr_mo rfl fus) hw (fun v fv _ hk => absurd (hk k kn) hnk) (fun v k' fv _ kn' hj' hnk' => ⟨?_, ?_⟩) (fun v fv z => absurd hcf z))
            · have ek : k' = k := by
                by_cases x : k' < k
                · exact absurd (hj k' x) hnk'
                · by_cases y : k < k'
                  · exact absurd (hj' k y) hnk
                  · omega
              rw [ek]
            · exact zinv_sc (zfr_tr (zfr_mo rfl fus) (zfr_mo rfl fv)) hi
        · refine TX11_judge_91 (fun _ => by decide) (fun _ => by decide) (fun _ => ?_) (fun z => absurd rfl z) (fun z => absurd rfl z)
          have ft : zfr zWx (zup s 97 (-(-6)) (zW ((s 97 (-(-6))) + 1))) σ := zfr_uA rfl (zfr_mo rfl fs)
          refine mdl _ _ ft (okX12_judge hi rfl ha hn hu hfl ft hw (fun v fv z _ => absurd z hcf) (fun v k fv z _ _ _ => absurd z hcf) (fun v fv _ => ⟨rfl, ?_⟩))
          exact zno_ss hi (by decide) fsc fv
      · have no : a2 < 1 ∨ (1 ≤ a2 ∧ 10 < a2) ∨ (1 ≤ a2 ∧ a2 ≤ 10 ∧ a3 < 0) ∨ (1 ≤ a2 ∧ a2 ≤ 10 ∧ 0 ≤ a3 ∧ 99999 < a3) ∨ (1 ≤ a2 ∧ a2 ≤ 10 ∧ 0 ≤ a3 ∧ a3 ≤ 99999 ∧ a4 < 0) ∨ (1 ≤ a2 ∧ a2 ≤ 10 ∧ 0 ≤ a3 ∧ a3 ≤ 99999 ∧ 0 ≤ a4 ∧ 99999 < a4) := by omega
        refine TX11_judge_5 (fun _ => ha) (fun _ => by rw [hr12.1]; omega) (fun _ _ z => absurd z ok) (fun _ _ z => by decide) (fun _ _ z => by decide) (fun _ _ _ => ?_) (fun _ z => by rw [b4, hr12.1] at z; omega) (fun _ z => by rw [b4, hr12.1] at z; omega) (fun _ z => by rw [b4, hr12.1] at z; omega) (fun z => absurd rfl z) (fun z => absurd rfl z) (fun z => absurd rfl z)
        have f1 : zfr [(97, none)] (zup σ 97 (-(-6)) (zW (σ 97 (-(-6)) + 1))) σ := zfr_uA rfl zfr_0
        refine wants _ _ (zfr_row f1 rfl) (zshv_ke (zfr_sm f1 rfl) hv) ?_
        apply TX12_judge_5 <;> (try simp (disch := decide) only [zup_of, zup_oi, zup_same]) <;> (try (intros; omega))
        intro _ _
        apply TX12_isPlan <;> (try (intros; omega))
        intro _
        apply TX12_judge_48 <;> (try simp (disch := decide) only [zup_of, zup_oi, zup_same]) <;> (try (intros; omega))
        intro _
        exact ⟨by first | trivial | rfl, zno hi rfl rfl rfl (by decide)⟩
    · refine TX11_judge_5 (fun _ => ha) (fun _ => by rw [hr12.1]; omega) (fun _ z => by rw [b4, hr12.1] at z; omega) (fun _ z => by rw [b4, hr12.1] at z; omega) (fun _ z => by rw [b4, hr12.1] at z; omega) (fun _ z => by rw [b4, hr12.1] at z; omega) (fun _ _ => by decide) (fun _ _ => by decide) (fun _ _ => ?_) (fun z => absurd rfl z) (fun z => absurd rfl z) (fun z => absurd rfl z)
      have f1 : zfr [(97, none)] (zup σ 97 (-(-5)) (zW (σ 97 (-(-5)) + 1))) σ := zfr_uA rfl zfr_0
      refine wants _ _ (zfr_row f1 rfl) (zshv_ke (zfr_sm f1 rfl) hv) ?_
      apply TX12_judge_5 <;> (try simp (disch := decide) only [zup_of, zup_oi, zup_same]) <;> (try (intros; omega))
      intro _ _
      exact ⟨by first | trivial | rfl, zno hi rfl rfl rfl (by decide)⟩
  · have hrb : -3 ≤ r ∧ r < 0 := by unfold zrt at hr; omega
    apply TX11_judge_5 <;> (try (intros; omega))
    intro _
    generalize hs1 : zup σ 97 (-r) (zW (σ 97 (-r) + 1)) = s1
    have f1 : zfr [(97, none)] s1 σ := by rw [← hs1]; exact zfr_uA rfl zfr_0
    refine TX12_judge (okX12_wants (zshv_ke (zfr_sm f1 rfl) hv) (fun r' hr' => ?_))
    have hr0 : r' = r := by unfold zrt at hr' hr; rw [zfr_row (q := 111) f1 rfl] at hr'; omega
    subst hr0
    apply TX12_judge_5 <;> (try (intros; omega))
    intro _
    refine ⟨rfl, ?_⟩
    rw [← hs1]
    exact zno hi rfl rfl rfl (by omega)
end JM
