/-! CALLS: plan, the best of them (model) -/
section PM
variable {G : zG} {σ : zS} {Q : Int → zS → Prop}
abbrev zWM : zPl := [(175, none), (98, some 104), (98, some 105)]
/-- the model's best, in its locals -/
def zeM (n : Int) (x : zAcc) (any most set a b : Int) : Prop := (any = 0 ∧ x.1 = -1) ∨ (any ≠ 0 ∧ 0 ≤ x.1 ∧ most = x.1 ∧ set = x.2.1 ∧ zty n x.2.2.1 a ∧ zty n x.2.2.2 b)
theorem okX12_plan {t : zS} {Y n up fl o0 t0 : Int} (hi : zinv σ) (eY : Y = σ 98 0 / 365) (hn : 1 ≤ n ∧ n ≤ 10) (hu : 0 ≤ up ∧ up ≤ 99999) (hfl : 0 ≤ fl ∧ fl ≤ 99999) (f : zfr zWx t σ)
    (eo : (0 < σ 98 10 ∧ o0 = 0) ∨ (σ 98 10 ≤ 0 ∧ o0 = n)) (et : (1 < σ 98 10 ∧ t0 = 0) ∨ (σ 98 10 ≤ 1 ∧ t0 = n))
    (k1 : ∀ (u : zS) (a b : Int), zfr zWM u t → 0 ≤ (zq0 σ Y n up fl o0 t0 (zshl 1 (σ 98 5)).toNat).1 → zty n (zq0 σ Y n up fl o0 t0 (zshl 1 (σ 98 5)).toNat).2.2.1 a → zty n (zq0 σ Y n up fl o0 t0 (zshl 1 (σ 98 5)).toNat).2.2.2 b →
      Q (zq0 σ Y n up fl o0 t0 (zshl 1 (σ 98 5)).toNat).1 (zup (zup (zup (zup (zup u 98 99 1) 98 100 (zq0 σ Y n up fl o0 t0 (zshl 1 (σ 98 5)).toNat).2.1) 174 0 a) 174 1 b) 98 101 (σ 98 10)))
    (k2 : ∀ u : zS, zfr zWM u t → (zq0 σ Y n up fl o0 t0 (zshl 1 (σ 98 5)).toNat).1 = -1 → Q (-6) (zup u 157 (-(-6)) (zW ((u 157 (-(-6))) + 1)))) : zO G MX12_plan [zr 98, zi n, zi fl, zi up] t Q := by
  have hyr := zyear hi
  have hY : 0 ≤ Y ∧ Y ≤ 110 := by omega
  have h8 := (g_zlea hi).2.1
  have hrf := g_zrfs hi
  have hr12 := hrf.1
  have hN := zshl8 (σ 98 5).toNat (by omega)
  rw [show (((σ 98 5).toNat : Nat) : Int) = σ 98 5 from by omega] at hN
  have t0e : t 98 0 = σ 98 0 := zfr_at f rfl
  have t5 : t 98 5 = σ 98 5 := zfr_at f rfl
  have hy : zdiv (t 98 0) 365 = Y := by rw [t0e, hyr.1, eY]
  have t144 : t 144 = σ 144 := zfr_row f rfl
  have t145 : t 145 = σ 145 := zfr_row f rfl
  refine TX12_plan ?_
  apply TX12_isPlan <;> (try (intros; omega))
  intro _ _ _ _ _ _
  apply TX12_plan_6 <;> (try (intros; omega))
  intro _
  -- the search
  have sets : ∀ may : Int, (∀ j, 0 ≤ j → j < 32 → (zbit may j ↔ j < σ 98 5 ∧ zen σ Y n j)) → ∀ (m : Nat) (k : Nat) (u : zS) (any most set a b : Int), (zshl 1 (σ 98 5) - k).toNat = m → (k : Int) ≤ zshl 1 (σ 98 5) → zfr zWM u t → zeM n (zq0 σ Y n up fl o0 t0 k) any most set a b →
      zR G MX12_plan 79 [zr 98, zi n, zi fl, zi up, zi may, zi any, zi most, zi set, zi a, zi b, zi (n + 1), zi k, zu, zu] [] u Q := by
    intro may hmay m
    induction m with
    | zero =>
      intro k u any most set a b hm hk fu he
      have u5 : u 98 5 = σ 98 5 := by rw [zfr_at fu rfl]; exact t5
      have u10 : u 98 10 = σ 98 10 := by rw [zfr_at fu rfl, zfr_at f rfl]
      have ek : k = (zshl 1 (σ 98 5)).toNat := by omega
      rw [ek] at he
      rcases he with ⟨e1, e2⟩ | ⟨e1, e2, e3, e4, e5, e6⟩
      · have go := k2 u fu e2
        apply TX12_plan_79 <;> (try rw [u5]) <;> (try (intros; omega))
        all_goals (intros; exact go)
      · have go := k1 u a b fu e2 e5 e6
        rw [← e3, ← e4] at go
        apply TX12_plan_79 <;> (try rw [u5]) <;> (try rw [u10]) <;> (try (intros; omega))
        all_goals (intros; exact go)
    | succ m ih =>
      intro k u any most set a b hm hk fu he
      have u5 : u 98 5 = σ 98 5 := by rw [zfr_at fu rfl]; exact t5
      have hsub := zsb2_e (σ := σ) (Y := Y) (n := n) (b := (k : Int)) (e := may) hmay
      by_cases c : zsb2 σ Y n k
      · have e0 := hsub.mpr c
        have step : zq0 σ Y n up fl o0 t0 (k + 1) = zq1 σ Y n up fl k o0 t0 (zq0 σ Y n up fl o0 t0 k) (n + 1 - o0).toNat := if_pos c
        have hbits : ∀ l, 0 ≤ l → l < σ 98 5 → zbit (k : Int) l → zen σ Y n l := fun l l0 l1 hb => (c l l0 (by omega) hb).2
        apply TX12_plan_79 <;> (try rw [u5]) <;> (try (intros; omega))
        intro _ _
        -- the first roof's years
        have one : ∀ (r : Nat) (p : Nat) (v : zS) (any most set a b : Int), (n + 1 - o0 - p).toNat = r → (p : Int) ≤ n + 1 - o0 → zfr zWM v t → zeM n (zq1 σ Y n up fl k o0 t0 (zq0 σ Y n up fl o0 t0 k) p) any most set a b →
            zR G MX12_plan 106 [zr 98, zi n, zi fl, zi up, zi may, zi any, zi most, zi set, zi a, zi b, zi (n + 1), zi k, zi p, zu] [] v Q := by
          intro r
          induction r with
          | zero =>
            intro p v any most set a b hr hp fv he
            have v10 : v 98 10 = σ 98 10 := by rw [zfr_at fv rfl, zfr_at f rfl]
            have ep : p = (n + 1 - o0).toNat := by omega
            rw [ep, ← step] at he
            have go := ih (k + 1) v any most set a b (by omega) (by omega) fv he
            rw [show ((k + 1 : Nat) : Int) = (k : Int) + 1 from by omega] at go
            apply TX12_plan_106 <;> (try rw [v10]) <;> (try (intros; omega))
            all_goals (intros; exact go)
          | succ r ihr =>
            intro p v any most set a b hr hp fv he
            have v10 : v 98 10 = σ 98 10 := by rw [zfr_at fv rfl, zfr_at f rfl]
            -- the second's
            have two : ∀ (w : Nat) (q : Nat) (v : zS) (any most set a b : Int), (n + 1 - t0 - q).toNat = w → (q : Int) ≤ n + 1 - t0 → zfr zWM v t → zeM n (zq2 σ Y n up fl k (o0 + p) t0 (zq1 σ Y n up fl k o0 t0 (zq0 σ Y n up fl o0 t0 k) p) q) any most set a b →
                zR G MX12_plan 127 [zr 98, zi n, zi fl, zi up, zi may, zi any, zi most, zi set, zi a, zi b, zi (n + 1), zi k, zi p, zi q] [] v Q := by
              intro w
              induction w with
              | zero =>
                intro q v any most set a b hw hq fv he
                have v10 : v 98 10 = σ 98 10 := by rw [zfr_at fv rfl, zfr_at f rfl]
                have eq : q = (n + 1 - t0).toNat := by omega
                rw [eq] at he
                have go := ihr (p + 1) v any most set a b (by omega) (by omega) fv he
                rw [show ((p + 1 : Nat) : Int) = (p : Int) + 1 from by omega] at go
                apply TX12_plan_127 <;> (try rw [v10]) <;> (try (intros; omega))
                all_goals (intros; exact go)
              | succ w ihw =>
                intro q v any most set a b hw hq fv he
                have v10 : v 98 10 = σ 98 10 := by rw [zfr_at fv rfl, zfr_at f rfl]
                have hry : zry σ n (o0 + p) (t0 + q) := ⟨by omega, by omega, by omega, by omega⟩
                have stepn : zq2 σ Y n up fl k (o0 + p) t0 (zq1 σ Y n up fl k o0 t0 (zq0 σ Y n up fl o0 t0 k) p) (q + 1) = zsp (zkp σ Y n up k fl (o0 + p) (t0 + q)) (zwo σ Y n up k (o0 + p) (t0 + q)) k (o0 + p) (t0 + q) (zq2 σ Y n up fl k (o0 + p) t0 (zq1 σ Y n up fl k o0 t0 (zq0 σ Y n up fl o0 t0 k) p) q) := rfl
                generalize zq2 σ Y n up fl k (o0 + p) t0 (zq1 σ Y n up fl k o0 t0 (zq0 σ Y n up fl o0 t0 k) p) q = acc at he stepn
                have hold : ∀ A B : Int, zty n (o0 + p) A → zty n (t0 + q) B → zO G MX12_holds_ [zr 98, zi k, zi n, zi fl, zi up] (zup (zup v 175 0 A) 175 1 B) (fun rr σ' => zR G MX12_plan 206 [zr 98, zi n, zi fl, zi up, zi may, zi any, zi most, zi set, zi a, zi b, zi (n + 1), zi k, zi p, zi q] [zi rr] σ' Q) := by
                  intro A B hA hB
                  have fv2 : zfr zWM (zup (zup v 175 0 A) 175 1 B) t := zfr_uA rfl (zfr_uA rfl fv)
                  have rA : zup (zup v 175 0 A) 175 1 B 175 0 = A := by rw [zup_oi (by decide), zup_same]
                  have rB : zup (zup v 175 0 A) 175 1 B 175 1 = B := zup_same
                  have skip : ∀ (s : zS), zfr zWM s t → ¬ (zkp σ Y n up k fl (o0 + p) (t0 + q) ∧ acc.1 < zwo σ Y n up k (o0 + p) (t0 + q)) → zR G MX12_plan 127 [zr 98, zi n, zi fl, zi up, zi may, zi any, zi most, zi set, zi a, zi b, zi (n + 1), zi k, zi p, zi (q + 1)] [] s Q := by
                    intro s fs hno
                    have go := ihw (q + 1) s any most set a b (by omega) (by omega) fs (by rw [stepn, zsp_n hno]; exact he)
                    rw [show ((q + 1 : Nat) : Int) = (q : Int) + 1 from by omega] at go
                    exact go
                  refine okX12_holds hi eY hn hu hfl (zfr_tr f (zfr_mo rfl fv2)) hbits hry (fun _ => by rw [rA]; exact hA) (fun _ => by rw [rB]; exact hB) (fun hk2 => ?_) (fun x x1 _ hnk => ?_)
                  · have hw0 := zkp_w hi hn hfl hry hk2
                    have fs : zfr zWM (zup (zup (zup v 175 0 A) 175 1 B) 98 105 (zwo σ Y n up k (o0 + p) (t0 + q))) t := zfr_uF rfl fv2
                    have r1 : zup (zup (zup v 175 0 A) 175 1 B) 98 105 (zwo σ Y n up k (o0 + p) (t0 + q)) 98 105 = zwo σ Y n up k (o0 + p) (t0 + q) := zup_same
                    by_cases c2 : acc.1 < zwo σ Y n up k (o0 + p) (t0 + q)
                    · have go := ihw (q + 1) _ 1 (zwo σ Y n up k (o0 + p) (t0 + q)) k A B (by omega) (by omega) fs (by
                        rw [stepn, zsp_y hk2 c2]
                        exact Or.inr ⟨by decide, hw0, rfl, rfl, hA, hB⟩)
                      rw [show ((q + 1 : Nat) : Int) = (q : Int) + 1 from by omega] at go
                      have hc : any = 0 ∨ (any ≠ 0 ∧ most < zwo σ Y n up k (o0 + p) (t0 + q)) := by
                        rcases he with ⟨e1, _⟩ | ⟨e1, _, e3, _⟩
                        · exact Or.inl e1
                        · exact Or.inr ⟨e1, by omega⟩
                      apply TX12_plan_206 <;> (try rw [r1]) <;> (try (intros; omega))
                      all_goals (intros; rw [zup_of (by decide), rA, zup_of (by decide), rB]; exact go)
                    · have go := skip _ fs (fun z => c2 z.2)
                      have hc : any ≠ 0 ∧ zwo σ Y n up k (o0 + p) (t0 + q) ≤ most := by
                        rcases he with ⟨_, e2⟩ | ⟨e1, _, e3, _⟩
                        · omega
                        · exact ⟨e1, by omega⟩
                      apply TX12_plan_206 <;> (try rw [r1]) <;> (try (intros; omega))
                      all_goals (intros; exact go)
                  · have fs : zfr zWM (zup (zup (zup v 175 0 A) 175 1 B) 98 104 x) t := zfr_uF rfl fv2
                    have go := skip _ fs (fun z => hnk (z.1 x x1))
                    apply TX12_plan_206 <;> (try (intros; omega))
                    all_goals (intros; exact go)
                -- which years are tried
                rcases eo with ⟨o1, o2⟩ | ⟨o1, o2⟩
                · rcases et with ⟨w1, w2⟩ | ⟨w1, w2⟩
                  · by_cases x : (p : Int) < n <;> by_cases y : (q : Int) < n
                    · have go := hold p q (Or.inr ⟨by omega, by omega⟩) (Or.inr ⟨by omega, by omega⟩)
                      apply TX12_plan_127 <;> (try rw [v10]) <;> (try (intros; omega))
                      all_goals (intros; exact go)
                    · have go := hold p (-1) (Or.inr ⟨by omega, by omega⟩) (Or.inl ⟨by omega, rfl⟩)
                      apply TX12_plan_127 <;> (try rw [v10]) <;> (try (intros; omega))
                      all_goals (intros; exact go)
                    · have go := hold (-1) q (Or.inl ⟨by omega, rfl⟩) (Or.inr ⟨by omega, by omega⟩)
                      apply TX12_plan_127 <;> (try rw [v10]) <;> (try (intros; omega))
                      all_goals (intros; exact go)
                    · have go := hold (-1) (-1) (Or.inl ⟨by omega, rfl⟩) (Or.inl ⟨by omega, rfl⟩)
                      apply TX12_plan_127 <;> (try rw [v10]) <;> (try (intros; omega))
                      all_goals (intros; exact go)
                  · by_cases x : (p : Int) < n
                    · have go := hold p (-1) (Or.inr ⟨by omega, by omega⟩) (Or.inl ⟨by omega, rfl⟩)
                      apply TX12_plan_127 <;> (try rw [v10]) <;> (try (intros; omega))
                      all_goals (intros; exact go)
                    · have go := hold (-1) (-1) (Or.inl ⟨by omega, rfl⟩) (Or.inl ⟨by omega, rfl⟩)
                      apply TX12_plan_127 <;> (try rw [v10]) <;> (try (intros; omega))
                      all_goals (intros; exact go)
                · have go := hold (-1) (-1) (Or.inl ⟨by omega, rfl⟩) (Or.inl ⟨by omega, rfl⟩)
                  apply TX12_plan_127 <;> (try rw [v10]) <;> (try (intros; omega))
                  all_goals (intros; exact go)
            have go := two _ 0 v any most set a b rfl (by omega) fv he
            rw [show zi ((0 : Nat) : Int) = zi 0 from rfl] at go
            apply TX12_plan_106 <;> (try rw [v10]) <;> (try (intros; omega))
            all_goals (intros; exact go)
        exact one _ 0 u any most set a b rfl (by omega) fu he
      · have e0 : zand (k : Int) (zxor may (-1)) ≠ 0 := fun z => c (hsub.mp z)
        have step : zq0 σ Y n up fl o0 t0 (k + 1) = zq0 σ Y n up fl o0 t0 k := if_neg c
        have go := ih (k + 1) u any most set a b (by omega) (by omega) fu (by rw [step]; exact he)
        rw [show ((k + 1 : Nat) : Int) = (k : Int) + 1 from by omega] at go
        apply TX12_plan_79 <;> (try rw [u5]) <;> (try (intros; omega))
        all_goals (intros; exact go)
  -- which may be renewed
  have mays : ∀ (m : Nat) (i may : Int), (σ 98 5 - i).toNat = m → 0 ≤ i → i ≤ σ 98 5 → (∀ j, 0 ≤ j → j < 32 → (zbit may j ↔ j < i ∧ zen σ Y n j)) → zR G MX12_plan 22 [zr 98, zi n, zi fl, zi up, zi may, zi i, zu, zu, zu, zu, zu, zu, zu, zu] [] t Q := by
    intro m
    induction m with
    | zero =>
      intro i may hm i0 i1 hmay
      have e : i = σ 98 5 := by omega
      rw [e] at hmay
      have go := sets may hmay _ 0 t 0 0 0 0 0 rfl (by omega) zfr_0 (Or.inl ⟨rfl, rfl⟩)
      rw [show zi ((0 : Nat) : Int) = zi 0 from rfl] at go
      apply TX12_plan_22 <;> (try rw [t5]) <;> (try (intros; omega))
      all_goals (intros; exact go)
    | succ m ih =>
      intro i may hm i0 i1 hmay
      apply TX12_plan_22 <;> (try rw [t5]) <;> (try (intros; omega))
      intro _
      by_cases c : zen σ Y n i
      · have go := ih (i + 1) (zor may (zshl 1 i)) (by omega) (by omega) (by omega) (fun j j0 j1 => by
          rw [zb_or, zb_shl i0 (by omega) j0 j1, hmay j j0 j1]
          constructor
          · rintro (z | z)
            · exact ⟨by omega, z.2⟩
            · rw [z]; exact ⟨by omega, c⟩
          · rintro ⟨z1, z2⟩
            by_cases d : j = i
            · exact Or.inr d
            · exact Or.inl ⟨by omega, z2⟩)
        obtain ⟨c1, c2, c3⟩ := c
        apply TX12_endsIn <;> (try rw [hy]) <;> (try rw [t144]) <;> (try rw [t145]) <;> (try (intros; omega))
        intro _ _ _
        apply TX12_plan_38 <;> (try (intros; omega))
        all_goals (intros; exact go)
      · have go := ih (i + 1) may (by omega) (by omega) (by omega) (fun j j0 j1 => by
          rw [hmay j j0 j1]
          exact ⟨fun z => ⟨by omega, z.2⟩, fun z => ⟨by
            by_cases d : j = i
            · rw [d] at z; exact absurd z.2 c
            · omega, z.2⟩⟩)
        have hc : σ 145 i ≠ 0 ∨ (σ 145 i = 0 ∧ σ 144 i < Y) ∨ (σ 145 i = 0 ∧ Y ≤ σ 144 i ∧ Y + n ≤ σ 144 i) := by
          by_cases p : σ 145 i = 0
          · have nc : ¬ (Y ≤ σ 144 i ∧ σ 144 i < Y + n) := fun z => c ⟨p, z.1, z.2⟩
            omega
          · exact Or.inl p
        apply TX12_endsIn <;> (try rw [hy]) <;> (try rw [t144]) <;> (try rw [t145]) <;> (try (intros; omega))
        intro _
        apply TX12_plan_38 <;> (try (intros; omega))
        all_goals (intros; exact go)
  exact mays _ 0 0 rfl (by omega) h8.1 (fun j j0 j1 => ⟨fun z => absurd z (zb_0 j), fun z => by have := z.1; omega⟩)
end PM
