/-! CALLS: elect, the step -/
section ES
variable {G : zG} {σ : zS}
set_option maxHeartbeats 4000000 in
theorem st_elect {a1 a2 : Int} (hi : zinv σ) : zst2 G MX11_elect [zr 0, zi a1, zi a2] MX12_elect [zr 98, zi a1, zi a2] σ := by
  refine zO_in (fun hargs _ => ?_)
  have hin : zIn a2 := hargs (zi a2) (by simp)
  obtain ⟨l, hM, hC⟩ := g_ztur hi
  have hpl := g_zpla hi
  have hpC := g_zplC hi
  have hc := hpC.1
  have h0 := hpl.1
  have hp := g_zppl hi
  have hn := hp.1
  have hpc : σ 22 12 = σ 98 1 := hp.2.1
  have hnow := (g_zcnow hi).1
  have hrg := zm_rng (p := σ 98 1) hin (by omega) (by omega)
  by_cases hv : (0 ≤ a1 ∧ a1 < σ 98 4) ∧ (0 ≤ a2 ∧ a2 < zshl 1 (σ 98 1))
  · have hz := hrg.mpr hv.2
    have hset : zset (σ 98 1) a2 := ⟨hin, (zb_sh0 hin (by omega) (by omega)).mp hz⟩
    have hC2 := hpC.2 a1 hv.1.1 hv.1.2
    have hk := (hpl.2.1 a1 hv.1.1 hv.1.2).1
    by_cases h2 : σ 130 a1 = -1 ∧ a2 ≠ 0
    · apply TX11_elect <;> (try rw [hc]) <;> (try rw [hpc]) <;> (try rw [hC2.2.1]) <;> (try (intros; omega))
      intro _ _ _
      rw [hC2.1, hnow]
      refine okX2_canBe hi hM hC hk h2.2 (fun s1 r f1 hr => ?_)
      have hi1 := zinv_sc f1 hi
      have q1 : s1 98 1 = σ 98 1 := zfr_at f1 rfl
      have q4 : s1 98 4 = σ 98 4 := zfr_at f1 rfl
      have q0 : s1 98 0 = σ 98 0 := zfr_at f1 rfl
      have q13 : s1 0 13 = σ 98 0 := by rw [zfr_at (q := 0) (j := 13) f1 rfl]; exact hnow
      have q129 : s1 129 = σ 129 := zfr_row f1 rfl
      have q130 : s1 130 = σ 130 := zfr_row f1 rfl
      have lw1 : zlaws s1 l := zlaws_ke (zfr_sm f1 rfl) (zlaws_of hi hM hC)
      have P1eq : zP1 s1 l (σ 98 0) (σ 129 a1) a2 ↔ zP1 σ l (σ 98 0) (σ 129 a1) a2 := by
        unfold zP1
        rw [q1, zhol_sc f1]
        exact ⟨fun z w w0 w1 b => ⟨(z w w0 w1 b).1, (zcan_sm (zsc_D f1)).mp (z w w0 w1 b).2⟩, fun z w w0 w1 b => ⟨(z w w0 w1 b).1, (zcan_sm (zsc_D f1)).mpr (z w w0 w1 b).2⟩⟩
      have ballots : ∀ w, 0 ≤ w → w < 24 → (0 ≤ s1 135 w ↔ s1 61 w ≠ -1) ∧ s1 135 w ≤ 80 := by
        intro w w0 w1
        have := g_zblt hi1 w w0 w1
        omega
      rcases hr with ⟨rfl, hP1, hP2⟩ | ⟨rfl, hP⟩
      · have hpop : 1 ≤ zpop a2 := by
          obtain ⟨j, j0, jb⟩ := zb_ex hin h2.2
          by_cases x : j < σ 98 1
          · exact zpop_mem ⟨⟨j0.1, by omega⟩, jb⟩
          · exact absurd jb (hset.2 j (by omega) j0.2)
        apply TX11_elect_62 <;> (try (intros; omega))
        intro _
        refine okX2_begin hi1 (by rw [q1]; exact hset) hpop (fun D Xs n w s hD hok hD1 hbits hfo hord hsiz hborn hrn hfs c7 c10 hvt => ?_)
        apply TX11_elect_80
        · omega
        have s13 : s 0 13 = σ 98 0 := by rw [zfr_at (q := 0) (j := 13) hfs rfl]; exact q13
        rw [s13]
        have wm : zmem a2 w := by
          have hw := zRw_m hrn.2.2
          have key : ∀ k : Nat, (k : Int) ≤ n - 1 → ∀ x, zmem (Xs k) x → zmem a2 x := by
            intro k
            induction k with
            | zero =>
              intro _ x hx
              rw [show ((0 : Nat) : Int) = 0 from rfl, hrn.2.1.1] at hx
              exact hx
            | succ k ihk =>
              intro hk' x hx
              obtain ⟨l', hl', hxs⟩ := hrn.2.1.2.1 k (by omega) (by omega)
              rw [show ((k + 1 : Nat) : Int) = (k : Int) + 1 from by omega, hxs] at hx
              have hl24 : 0 ≤ l' ∧ l' < 24 := hl'.2.2.1.1
              have hx24 : 0 ≤ x ∧ x < 24 := hx.1
              exact ihk (by omega) x ⟨hx.1, ((zdrop_b (by omega) (by omega)).mp hx.2).1⟩
          have n1 := hrn.1
          refine key (n - 1).toNat (by omega) w ?_
          rw [show (((n - 1).toNat : Nat) : Int) = n - 1 from by omega]
          exact hw
        have wp : 0 ≤ w ∧ w < σ 98 1 := by
          have h24 : 0 ≤ w ∧ w < 24 := wm.1
          by_cases x : w < σ 98 1
          · omega
          · exact absurd wm.2 (hset.2 w (by omega) (by omega))
        generalize hs2 : zup (zup (zup (zup s 54 a1 w) 55 a1 (σ 98 0)) 56 a1 (-1)) 57 a1 0 = s2
        have f2 : zfr [(65, some 7), (65, some 8), (65, some 9), (63, none), (64, none), (67, none), (66, none), (65, some 10), (54, none), (55, none), (56, none), (57, none)] s2 s1 := by rw [← hs2]; exact zfr_uA rfl (zfr_uA rfl (zfr_uA rfl (zfr_uA rfl (zfr_mo rfl hfs))))
        have f2s : zfr [(54, none), (55, none), (56, none), (57, none)] s2 s := by rw [← hs2]; exact zfr_uA rfl (zfr_uA rfl (zfr_uA rfl (zfr_uA rfl zfr_0)))
        have l2 : zlaws s2 l := zlaws_ke (zfr_sm f2 rfl) lw1
        have pl2 : zpla s2 := zpla_ke (zfr_sm f2 rfl) (g_zpla hi1)
        have r1 : s2 98 1 = σ 98 1 := by rw [zfr_at f2 rfl]; exact q1
        have r4 : s2 98 4 = σ 98 4 := by rw [zfr_at f2 rfl]; exact q4
        have r0 : s2 98 0 = σ 98 0 := by rw [zfr_at f2 rfl]; exact q0
        have r129 : s2 129 = σ 129 := by rw [zfr_row f2 rfl]; exact q129
        have r130 : s2 130 = σ 130 := by rw [zfr_row f2 rfl]; exact q130
        have P1s2 : zP1 s2 l (s2 98 0) (σ 129 a1) a2 := by
          have hh := P1eq.mpr hP1
          unfold zP1 at hh ⊢
          rw [r0, r1, zhol_fr f2 rfl]
          rw [q1] at hh
          exact fun w w0 w1 b => ⟨(hh w w0 w1 b).1, (zcan_sm (zfr_sm f2 rfl)).mpr (hh w w0 w1 b).2⟩
        apply TX12_elect <;> (try rw [r1]) <;> (try rw [r4]) <;> (try rw [r130]) <;> (try (intros; omega))
        intro _ _ _ _ _
        refine okM_elect57 l2 pl2 (by rw [r4]; exact hv.1) (by rw [r129]) (by rw [r1]; exact hset) (fun _ t1 g1 => ?_) (fun z => absurd P1s2 z)
        have u61 : t1 61 = s1 61 := by rw [zfr_row g1 rfl, zfr_row f2 rfl]
        have u135 : t1 135 = s1 135 := by rw [zfr_row g1 rfl, zfr_row f2 rfl]
        have u134 : t1 134 = s1 134 := by rw [zfr_row g1 rfl, zfr_row f2 rfl]
        have u129 : t1 129 = s1 129 := by rw [zfr_row g1 rfl, zfr_row f2 rfl]
        have u130 : t1 130 = s1 130 := by rw [zfr_row g1 rfl, zfr_row f2 rfl]
        have u4 : t1 98 4 = s1 98 4 := by rw [zfr_at g1 rfl, zfr_at f2 rfl]
        have plt : zpla t1 := zpla_ke (zfr_sm g1 rfl) pl2
        have P2t : zP2 t1 := by
          have h3 := (zP2_sc f1).mpr hP2
          unfold zP2 znv znf zhp zfel at h3 ⊢
          rw [u61, u129, u130, u4]
          exact h3
        refine okM_elect127 plt (fun w w0 w1 => by rw [u135, u61]; exact (ballots w w0 w1).1) (fun _ r v3 v4 hr => ?_) (fun z => absurd P2t z)
        have hr' : r = zD2 D := by
          refine zfo_one (σ := s1) (n := s1 98 4) ?_ hfo
          unfold zfo at hr ⊢
          rw [u4, u129, u130] at hr
          exact hr
        subst hr'
        have rr : (zD2 D) = -1 ∨ (0 ≤ (zD2 D) ∧ (zD2 D) < 24) := by
          rcases hfo with ⟨a, _⟩ | ⟨q, a, b, c, _⟩
          · exact Or.inl a
          · have := ((g_zpla hi1).2.1 q a.1 a.2).2
            exact Or.inr (by omega)
        have g1' : zfr [(98, some 91)] (zup t1 98 91 0) t1 := zfr_uF rfl zfr_0
        refine okM_elect245 (zpla_ke (zfr_sm g1' rfl) plt) (fun w w0 w1 => by rw [zfr_row (q := 135) g1' rfl, u135]; exact (ballots w w0 w1).2) zup_same rr (fun t2 v6 ow g2 hk2 hkp hdec => ?_)
        have hDt : zhD D t2 := zhD_fr g2 rfl (zhD_fr g1' rfl (zhD_fr g1 rfl (zhD_fr f2s rfl hD)))
        have hcst : zcst t2 := zcst_mk (σ := s1) (s := zup t1 98 91 0) (g_zblt hi1) (g_zpla hi1) hDt hbits hfo hord hsiz g2 (by rw [zfr_row g1' rfl]; exact u134) (by rw [zfr_row g1' rfl]; exact u135) (by rw [zfr_row g1' rfl]; exact u129) (by rw [zfr_row g1' rfl]; exact u130) (by rw [zfr_at g1' rfl]; exact u4) hk2 (by
          rw [show (zup t1 98 91 0) 98 4 = (zup t1 98 91 0) 98 4 from rfl]
          exact hkp) hdec
        refine TX12_elect_327 ?_
        generalize hs3 : zup (zup t2 98 89 1) 98 90 a2 = t3
        have g3 : zfr [(98, some 89), (98, some 90)] t3 t2 := by rw [← hs3]; exact zfr_uF rfl (zfr_uF rfl zfr_0)
        have F3 : zfr (zWe ++ zPp) t3 s1 := zfr_tr (zfr_tr (zfr_tr (zfr_tr (zfr_mo rfl f2) (zfr_mo rfl g1)) (zfr_mo rfl g1')) (zfr_mo rfl g2)) (zfr_mo rfl g3)
        have v1 : t3 98 1 = σ 98 1 := by rw [zfr_at F3 rfl]; exact q1
        refine okX12_elects (D := D) (p := σ 98 1) (zhD_fr g3 rfl hDt) (zcst_fr g3 rfl hcst) v1 (by omega) (fun v v0 v1' => ?_) (by rw [q1] at hrn; exact hrn) (fun m gm _ hw1 => ?_)
        · rw [zfr_row (q := 99) F3 rfl, hborn]
          have := (g_zppl hi1).2.2 v v0 (by omega)
          omega
        have hw := hw1 (by decide)
        apply TX12_elect_343
        · omega
        have FM : zfr (zWe ++ zPp) m s1 := zfr_tr F3 (zfr_mo rfl gm)
        have m0 : m 98 0 = σ 98 0 := by rw [zfr_at FM rfl]; exact q0
        rw [m0]
        refine ⟨rfl, ?_⟩
        generalize hF : zup (zup (zup (zup m 130 a1 w) 131 a1 (σ 98 0)) 132 a1 (-1)) 133 a1 0 = F
        have FF : zfr (zWe ++ zPp) F s1 := by rw [← hF]; exact zfr_uA rfl (zfr_uA rfl (zfr_uA rfl (zfr_uA rfl FM)))
        have Fm : zfr [(130, none), (131, none), (132, none), (133, none)] F m := by rw [← hF]; exact zfr_uA rfl (zfr_uA rfl (zfr_uA rfl (zfr_uA rfl zfr_0)))
        have Ms2 : zfr (zWs ++ [(98, some 91), (168, none), (169, none), (98, some 89), (98, some 90), (172, none), (171, none), (170, none), (98, some 92)]) m s2 := zfr_tr (zfr_tr (zfr_tr (zfr_tr (zfr_mo rfl g1) (zfr_mo rfl g1')) (zfr_mo rfl g2)) (zfr_mo rfl g3)) (zfr_mo rfl gm)
        have Mt2 : zfr [(98, some 89), (98, some 90), (172, none), (171, none), (170, none), (98, some 92)] m t2 := zfr_tr (zfr_mo rfl g3) (zfr_mo rfl gm)
        have hmix := zmix_1 FF
        have mx : ∀ q j, (q ≠ 54 ∧ q ≠ 55 ∧ q ≠ 56 ∧ q ≠ 57) → (q ≠ 130 ∧ q ≠ 131 ∧ q ≠ 132 ∧ q ≠ 133) → zmix s1 F q j = m q j := by
          intro q j x y
          unfold zmix
          rw [if_neg (by omega), ← hF, zup_of (by omega), zup_of (by omega), zup_of (by omega), zup_of (by omega)]
        have hix : zinv (zmix s1 F) := by
          apply zinv_fr hmix hi1 <;> (try (intro h; exact absurd h (by decide)))
          intro _
          refine Or.inr ⟨?_, ⟨?_, ?_, fun v v0 v1 hb => ?_⟩, ⟨?_, ?_, ?_⟩, fun i v i0 i1 v0 v1 => ?_, ?_⟩
          · rw [mx 98 89 (by decide) (by decide), zfr_at gm rfl, ← hs3, zup_oi (by decide), zup_same]
          · rw [mx 65 7 (by decide) (by decide), mx 98 90 (by decide) (by decide), zfr_at Ms2 rfl, zfr_at f2s rfl, c7, zfr_at gm rfl, ← hs3, zup_same]
          · rw [mx 98 90 (by decide) (by decide), zfr_at gm rfl, ← hs3, zup_same]
            exact h2.2
          · rw [mx 98 90 (by decide) (by decide), zfr_at gm rfl, ← hs3, zup_same] at hb
            rw [mx 98 1 (by decide) (by decide), zfr_at FM rfl, q1]
            by_cases x : v < σ 98 1
            · exact x
            · exact absurd hb (hset.2 v (by omega) v1)
          · rw [mx 65 10 (by decide) (by decide), mx 98 92 (by decide) (by decide), zfr_at Ms2 rfl, zfr_at f2s rfl, c10, hw.1]
          · rw [mx 98 92 (by decide) (by decide), hw.1]
            exact hrn.1.1
          · rw [mx 98 92 (by decide) (by decide), hw.1]
            exact hrn.1.2
          · rw [mx 98 92 (by decide) (by decide), hw.1] at i1
            have hwi := hw.2 i i0 i1
            rw [mx 171 i (by decide) (by decide), mx 66 _ (by decide) (by decide), mx 170 _ (by decide) (by decide), hwi.1, zfr_row (q := 66) Ms2 rfl, zfr_row (q := 66) f2s rfl, hvt i v i0 i1 v0 v1]
            by_cases x : zbit (Xs i) v
            · have hsx := (hrn.2.1.2.2 i i0 (by omega)).1
              rw [q1] at hsx
              by_cases y : v < σ 98 1
              · exact Or.inl ⟨x, by rw [zif2_y x, hwi.2 v v0 y]⟩
              · exact absurd x (hsx.2 v (by omega) (by omega))
            · exact Or.inr ⟨x, zif2_n x⟩
          · have e1 : zcst m := zcst_fr Mt2 rfl hcst
            unfold zcst zcs1 at e1 ⊢
            have rw1 : ∀ q, (q ≠ 54 ∧ q ≠ 55 ∧ q ≠ 56 ∧ q ≠ 57) → (q ≠ 130 ∧ q ≠ 131 ∧ q ≠ 132 ∧ q ≠ 133) → zmix s1 F q = m q := fun q x y => funext (fun j => mx q j x y)
            rw [rw1 63 (by decide) (by decide), rw1 64 (by decide) (by decide), rw1 65 (by decide) (by decide), rw1 98 (by decide) (by decide), rw1 168 (by decide) (by decide), rw1 169 (by decide) (by decide)]
            exact e1
        have hno : ¬ zhol (zmix s1 F) ((zmix s1 F) 129 a1) w := by
          rw [mx 129 a1 (by decide) (by decide), zfr_row (q := 129) FM rfl, q129, zhol_fr hmix rfl, zhol_sc f1]
          exact (hP1 w wp.1 wp.2 wm.2).1
        have pm : ∀ q j, (q = 54 ∨ q = 55 ∨ q = 56 ∨ q = 57 ∨ q = 130 ∨ q = 131 ∨ q = 132 ∨ q = 133) → zmix s1 F q j = s1 q j := by
          intro q j x
          unfold zmix
          rw [if_pos x]
        have hnw : (zmix s1 F) 98 0 = σ 98 0 := by rw [mx 98 0 (by decide) (by decide)]; exact m0
        have Sm : ∀ q j, (q = 54 ∨ q = 55 ∨ q = 56 ∨ q = 57) → F q j = s2 q j := by
          intro q j x
          rcases x with rfl | rfl | rfl | rfl <;> rw [zfr_row Fm rfl, zfr_row Ms2 rfl]
        refine zinv_cm (σ := zmix s1 F) hix (p := a1) (w := w) ?_ ?_ hno (zfr_mo rfl zmix_2) ?_ ?_ (fun j => ?_) (fun j => ?_) (fun j => ?_) (fun j => ?_) (fun j => ?_) (fun j => ?_) (fun j => ?_) (fun j => ?_)
        · rw [mx 98 4 (by decide) (by decide), zfr_at FM rfl, q4]; exact hv.1
        · rw [mx 98 1 (by decide) (by decide), zfr_at FM rfl, q1]; exact wp
        · rw [hnw, zfr_at (q := 0) (j := 13) FF rfl]; exact q13
        · rw [hnw, zfr_at (q := 98) (j := 0) FF rfl]; exact q0
        · rw [pm 54 j (by decide), Sm 54 j (by decide), ← hs2, zup_of (by decide), zup_of (by decide), zup_of (by decide), zup_at, zfr_row hfs rfl]
        · rw [pm 55 j (by decide), Sm 55 j (by decide), hnw, ← hs2, zup_of (by decide), zup_of (by decide), zup_at, zup_of (by decide), zfr_row hfs rfl]
        · rw [pm 56 j (by decide), Sm 56 j (by decide), ← hs2, zup_of (by decide), zup_at, zup_of (by decide), zup_of (by decide), zfr_row hfs rfl]
        · rw [pm 57 j (by decide), Sm 57 j (by decide), ← hs2, zup_at, zup_of (by decide), zup_of (by decide), zup_of (by decide), zfr_row hfs rfl]
        · rw [pm 130 j (by decide), ← hF, zup_of (by decide), zup_of (by decide), zup_of (by decide), zup_at, zfr_row Ms2 rfl, zfr_row f2 rfl]
        · rw [pm 131 j (by decide), hnw, ← hF, zup_of (by decide), zup_of (by decide), zup_at, zup_of (by decide), zfr_row Ms2 rfl, zfr_row f2 rfl]
        · rw [pm 132 j (by decide), ← hF, zup_of (by decide), zup_at, zup_of (by decide), zup_of (by decide), zfr_row Ms2 rfl, zfr_row f2 rfl]
        · rw [pm 133 j (by decide), ← hF, zup_at, zup_of (by decide), zup_of (by decide), zup_of (by decide), zfr_row Ms2 rfl, zfr_row f2 rfl]
      · apply TX11_elect_62 <;> (try (intros; omega))
        intro _
        generalize hs2 : zup s1 97 (- -6) (zW (s1 97 (- -6) + 1)) = s2
        have f2 : zfr [(97, none)] s2 s1 := by rw [← hs2]; exact zfr_uA rfl zfr_0
        have l2 : zlaws s2 l := zlaws_ke (zfr_sm f2 rfl) lw1
        have pl2 : zpla s2 := zpla_ke (zfr_sm f2 rfl) (g_zpla hi1)
        have r1 : s2 98 1 = σ 98 1 := by rw [zfr_at f2 rfl]; exact q1
        have r4 : s2 98 4 = σ 98 4 := by rw [zfr_at f2 rfl]; exact q4
        have r0 : s2 98 0 = σ 98 0 := by rw [zfr_at f2 rfl]; exact q0
        have r129 : s2 129 = σ 129 := by rw [zfr_row f2 rfl]; exact q129
        have r130 : s2 130 = σ 130 := by rw [zfr_row f2 rfl]; exact q130
        have P1s2 : zP1 s2 l (s2 98 0) (σ 129 a1) a2 ↔ zP1 σ l (σ 98 0) (σ 129 a1) a2 := by
          rw [← P1eq]
          unfold zP1
          rw [r0, r1, q1, zhol_fr f2 rfl]
          exact ⟨fun z w w0 w1 b => ⟨(z w w0 w1 b).1, (zcan_sm (zfr_sm f2 rfl)).mp (z w w0 w1 b).2⟩, fun z w w0 w1 b => ⟨(z w w0 w1 b).1, (zcan_sm (zfr_sm f2 rfl)).mpr (z w w0 w1 b).2⟩⟩
        have no : ∀ t : zS, zfr zWs t s2 → zinv (zup t 157 (- -6) (zW (t 157 (- -6) + 1))) := by
          intro t g
          rw [← hs2] at g
          exact zno_sc (σ := σ) hi1 (by decide) g
        apply TX12_elect <;> (try rw [r1]) <;> (try rw [r4]) <;> (try rw [r130]) <;> (try (intros; omega))
        intro _ _ _ _ _
        refine okM_elect57 l2 pl2 (by rw [r4]; exact hv.1) (by rw [r129]) (by rw [r1]; exact hset) (fun hz1 t1 g1 => ?_) (fun _ t1 g1 => ⟨rfl, no t1 g1⟩)
        have u61 : t1 61 = s1 61 := by rw [zfr_row g1 rfl, zfr_row f2 rfl]
        have u135 : t1 135 = s1 135 := by rw [zfr_row g1 rfl, zfr_row f2 rfl]
        have u129 : t1 129 = s1 129 := by rw [zfr_row g1 rfl, zfr_row f2 rfl]
        have u130 : t1 130 = s1 130 := by rw [zfr_row g1 rfl, zfr_row f2 rfl]
        have u4 : t1 98 4 = s1 98 4 := by rw [zfr_at g1 rfl, zfr_at f2 rfl]
        have P2t : zP2 t1 ↔ zP2 σ := by
          rw [← zP2_sc f1]
          unfold zP2 znv znf zhp zfel
          rw [u61, u129, u130, u4]
        exact okM_elect127 (zpla_ke (zfr_sm g1 rfl) pl2) (fun w w0 w1 => by rw [u135, u61]; exact (ballots w w0 w1).1) (fun hz2 => absurd ⟨P1s2.mp hz1, P2t.mp hz2⟩ hP) (fun _ => ⟨rfl, no t1 g1⟩)
    · have ref : ∀ Q : Int → zS → Prop, Q (-6) (zup σ 97 (- -6) (zW (σ 97 (- -6) + 1))) → zO G MX11_elect [zr 0, zi a1, zi a2] σ Q := by
        intro Q hq
        apply TX11_elect <;> (try rw [hc]) <;> (try rw [hpc]) <;> (try rw [hC2.2.1]) <;> (try (intros; omega))
        · intro _ _ hh
          have hz0 : a2 = 0 := by
            by_cases x : a2 = 0
            · exact x
            · exact absurd ⟨hh, x⟩ h2
          apply TX2_canBe <;> (try (intros; omega))
          intro _
          apply TX11_elect_62 <;> (try (intros; omega))
          all_goals (exact fun _ => hq)
        all_goals (exact fun _ _ _ => hq)
      refine ref _ ?_
      have h3 : σ 130 a1 ≠ -1 ∨ (σ 130 a1 = -1 ∧ a2 = 0) := by
        by_cases x : a2 = 0
        · by_cases y : σ 130 a1 = -1
          · exact Or.inr ⟨y, x⟩
          · exact Or.inl y
        · exact Or.inl (fun y => h2 ⟨y, x⟩)
      clear hrg
      intros; apply TX12_elect <;> (try simp (disch := decide) only [zup_of, zup_oi, zup_same]) <;> (try (intros; omega)) <;> (try (intros; exact ⟨by first | trivial | omega, zno hi (by first | decide | omega) rfl rfl (by first | decide | omega)⟩))
  · have hz : ¬ (0 ≤ a1 ∧ a1 < σ 98 4) ∨ ((0 ≤ a1 ∧ a1 < σ 98 4) ∧ ¬ zushr a2 (σ 98 1) = 0) := by
      by_cases x : 0 ≤ a1 ∧ a1 < σ 98 4
      · exact Or.inr ⟨x, fun z => hv ⟨x, hrg.mp z⟩⟩
      · exact Or.inl x
    clear hrg
    apply TX11_elect <;> (try rw [hc]) <;> (try rw [hpc]) <;> (try (intros; omega))
    intro _
    intros; apply TX12_elect <;> (try simp (disch := decide) only [zup_of, zup_oi, zup_same]) <;> (try (intros; omega)) <;> (try (intros; exact ⟨by first | trivial | omega, zno hi (by first | decide | omega) rfl rfl (by first | decide | omega)⟩))
end ES
