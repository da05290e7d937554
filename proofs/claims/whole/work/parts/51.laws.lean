/-! CALLS: words, faults, who may -/
theorem zap_01 {σ : zS} {w a k x : Int} {T : zT} (h : ∀ y, T.2.2 y = 0 ∨ T.2.2 y = 1) : ∀ y, (zap σ w a k x T).2.2 y = 0 ∨ (zap σ w a k x T).2.2 y = 1 := by
  intro y
  unfold zap
  split
  · split
    · dsimp only
      unfold zupd1
      split
      · exact Or.inr rfl
      · exact h y
    · exact h y
  · exact h y
theorem zwords_01 {σ : zS} {l : List Int} {w a k : Int} : ∀ y, (zwords σ l w a k).2.2 y = 0 ∨ (zwords σ l w a k).2.2 y = 1 := by
  have key : ∀ (l : List Int) (T : zT), (∀ y, T.2.2 y = 0 ∨ T.2.2 y = 1) → ∀ y, (l.foldl (fun T x => zap σ w a k x T) T).2.2 y = 0 ∨ (l.foldl (fun T x => zap σ w a k x T) T).2.2 y = 1 := by
    intro l
    induction l with
    | nil => intro T h; exact h
    | cons x r ih => intro T h; exact ih _ (zap_01 h)
  exact key l _ (fun y => Or.inl rfl)
section LW
variable {G : zG} {σ : zS}
theorem okC_weigh {l : List Int} {w kd a k wt : Int} {Q : Int → zS → Prop} (hi : zinv σ) (hC : zturC σ l) (hw : 0 ≤ w ∧ w < σ 98 1) (hkd : 0 ≤ kd ∧ kd < 4)
    (kq : ∀ (s : zS) (u : zOne), zfr zWs s σ → zone σ w a k u → s 47 13 = zRes_f (zlawO σ l kd a k u) →
      (zRes_f (zlawO σ l kd a k u) = -1 → s 47 12 = if 0 ≤ wt ∧ wt < zRes_m (zlawO σ l kd a k u) then zRes_V (zlawO σ l kd a k u) wt else -1) → Q (zmres σ (zlawO σ l kd a k u) w a k) s) : zO G MX3_weigh [zr 47, zi w, zi kd, zi a, zi k, zi wt] σ Q :=
  okX3_weigh (g_zamo hi) (g_zamC hi) hC hkd (g_zppl hi) (g_zlnk hi) (g_zfnd hi) (g_zfct hi) (g_zdth hi) hw (fun s u f z y v => kq s u (zfr_mo rfl f) z y v)
theorem okM_may {l : List Int} {w kd a k : Int} {u : zOne} {Q : Int → zS → Prop} (hi : zinv σ) (hM : zturM σ l) (hw : 0 ≤ w ∧ w < σ 98 1) (hkd : 0 ≤ kd ∧ kd < 4) (hz : zone σ w a k u)
    (kq : ∀ s : zS, zfr zWs s σ → Q (zmres σ (zlawO σ l kd a k u) w a k) s) : zO G MX12_mays [zr 98, zi w, zi kd, zi a, zi k] σ Q :=
  okX12_mays (g_zamo hi) hM hkd (g_zppl hi) (g_zlnk hi) (g_zfct hi).1 hw hz (fun s f => kq s (zfr_mo rfl f))
theorem zsc_s {s σ : zS} (h : zfr zWs s σ) : zsm zDs s σ := zfr_sm h rfl
theorem st_words {a1 a2 a3 a4 : Int} (hi : zinv σ) : zst2 G MX11_words [zr 0, zi a1, zi a2, zi a3, zi a4] MX12_words_ [zr 98, zi a1, zi a2, zi a3, zi a4] σ := by
  obtain ⟨l, hM, hC⟩ := g_ztur hi
  apply TX11_words <;> (try (intros; omega))
  · intro h1
    refine okX10_compose (g_zamo hi) (g_zamC hi) hC (by omega) (fun s1 f1 g1 => ?_)
    have f1' : zfr zWs s1 σ := zfr_mo rfl (zfrC_fr f1)
    have hi1 := zinv_sc f1' hi
    have hw : zwords s1 l a1 a2 a3 = zwords σ l a1 a2 a3 := zwords_sm (zsc_s f1')
    obtain ⟨t1, t2, t3, t4⟩ := g1
    have model : ∀ r, (a4 = -1 → r = (zwords σ l a1 a2 a3).1) → (a4 ≠ -1 → ¬ (0 ≤ a4 ∧ a4 < (zwords σ l a1 a2 a3).1) → r = -1) → ((0 ≤ a4 ∧ a4 < (zwords σ l a1 a2 a3).1) → r = (zwords σ l a1 a2 a3).2.1 a4) → zO G MX12_words_ [zr 98, zi a1, zi a2, zi a3, zi a4] s1 (fun r' s' => r' = r ∧ zinv s') := by
      intro r r1 r2 r3
      apply TX12_words_ <;> (try (intros; omega))
      intro _
      refine okX12_words (g_zamo hi1) ((zturM_sm (zsc_s f1')).mpr hM) (by omega) (fun s2 f2 g2 => ?_)
      have hi2 : zinv s2 := zinv_sc (zfr_mo rfl (zfrM_fr f2)) hi1
      rw [hw] at g2
      obtain ⟨m1, m2, m3, m4⟩ := g2
      apply TX12_words__16 <;> (try rw [m2]) <;> (try (intros; omega))
      · intro _ h2 h3
        exact ⟨by rw [m3 a4 h2 h3, r3 ⟨h2, h3⟩], hi2⟩
      · intro h2
        exact ⟨(r1 h2).symm, hi2⟩
      · intro h2 h3
        exact ⟨(r2 h2 (by omega)).symm, hi2⟩
    apply TX11_words_19 <;> (try rw [t2]) <;> (try (intros; omega))
    · intro h2 h3
      exact model _ (by omega) (fun _ _ => rfl) (by omega)
    · intro h2 h3
      exact model _ (by omega) (by omega) (fun h => t3 a4 h.1 h.2)
    · intro h2
      exact model _ (fun _ => rfl) (by omega) (by omega)
  · intro h1
    apply TX12_words_ <;> (try (intros; omega))
    exact fun _ => ⟨rfl, hi⟩
theorem st_gone {a1 a2 a3 : Int} (hi : zinv σ) : zst2 G MX11_gone [zr 0, zi a1, zi a2, zi a3] MX12_gone [zr 98, zi a1, zi a2, zi a3] σ := by
  obtain ⟨l, hM, hC⟩ := g_ztur hi
  have ha := g_zamo hi
  have hc := g_zamC hi
  have ha0 := ha.1
  have hc0 := hc.1
  by_cases h : 0 ≤ a1 ∧ a1 < σ 98 3
  · have hx := ha.2.2 a1 h.1 h.2
    have cx := hc.2.2 a1 h.1 h.2
    have c1 := cx.1
    have c2 := cx.2.1
    have c3 := cx.2.2.1
    apply TX11_gone <;> (try (intros; omega))
    · intro h1 h2
      rw [c1]
      refine okX10_compose ha hc hC (by omega) (fun s1 f1 g1 => TX11_gone_50 ?_)
      have f1' : zfr zWs s1 σ := zfr_mo rfl (zfrC_fr f1)
      have hi1 := zinv_sc f1' hi
      have hw : zwords s1 l (σ 119 a1) a2 a3 = zwords σ l (σ 119 a1) a2 a3 := zwords_sm (zsc_s f1')
      obtain ⟨t1, t2, t3, t4⟩ := g1
      have hb := zb_and1 (x := s1 35 13) (i := a1) h.1 (by omega)
      have h01 := zwords_01 (σ := σ) (l := l) (w := σ 119 a1) (a := a2) (k := a3) a1
      have t5 := t4 a1 h.1 (by omega)
      have e3 : s1 98 3 = σ 98 3 := zfr_at f1' rfl
      have e119 : s1 119 = σ 119 := zfr_row f1' rfl
      have e120 : s1 120 = σ 120 := zfr_row f1' rfl
      have e121 : s1 121 = σ 121 := zfr_row f1' rfl
      apply TX12_gone <;> (try rw [e3]) <;> (try rw [e119]) <;> (try rw [e120]) <;> (try rw [e121]) <;> (try (intros; omega))
      intros
      refine okX12_words (g_zamo hi1) ((zturM_sm (zsc_s f1')).mpr hM) (by omega) (fun s2 f2 g2 => ?_)
      have hi2 : zinv s2 := zinv_sc (zfr_mo rfl (zfrM_fr f2)) hi1
      rw [hw] at g2
      have m4 := g2.2.2.2 a1 h.1 (by omega)
      apply TX12_gone_42 <;> (try rw [m4]) <;> (try (intros; omega))
      · intro h3
        exact ⟨(hb.2 (fun z => by have := t5.mp z; omega)).symm, hi2⟩
      · intro h3
        exact ⟨(hb.1 (t5.mpr (by omega))).symm, hi2⟩
    · intro h1
      apply TX12_gone <;> (try (intros; omega))
      exact fun _ => ⟨rfl, hi⟩
  · apply TX11_gone <;> (try (intros; omega))
    intro h1
    apply TX12_gone <;> (try (intros; omega))
    exact fun _ => ⟨rfl, hi⟩
theorem st_fault {a1 a2 a3 : Int} (hi : zinv σ) : zst2 G MX11_fault [zr 0, zi a1, zi a2, zi a3] MX12_fault [zr 98, zi a1, zi a2, zi a3] σ := by
  obtain ⟨l, hM, hC⟩ := g_ztur hi
  apply TX11_fault <;> (try (intros; omega))
  · intro h1
    refine okX3_weighN (g_zamo hi) (g_zamC hi) hC (by omega) (fun s1 u r f1 y1 => TX11_fault_21 ?_)
    have f1' : zfr zWs s1 σ := zfr_mo rfl f1
    have hi1 := zinv_sc f1' hi
    have hw : zwords s1 l a1 a2 a3 = zwords σ l a1 a2 a3 := zwords_sm (zsc_s f1')
    apply TX12_fault <;> (try (intros; omega))
    intro _
    refine okX12_words (g_zamo hi1) ((zturM_sm (zsc_s f1')).mpr hM) (by omega) (fun s2 f2 g2 => TX12_fault_16 ?_)
    rw [hw] at g2
    have hi2 : zinv s2 := zinv_sc (zfr_mo rfl (zfrM_fr f2)) hi1
    have hpar : zparM s2 (zwords σ l a1 a2 a3).2.1 (zwords σ l a1 a2 a3).1 := ⟨g2.1, g2.2.1, g2.2.2.1⟩
    refine okX12_compiles (u := u) hpar (fun s3 f3 _ => TX12_fault_20 ⟨y1.symm, zinv_sc (zfr_mo rfl f3) hi2⟩)
  · intro h1
    apply TX12_fault <;> (try (intros; omega))
    exact fun _ => ⟨rfl, hi⟩
theorem st_may {a1 a2 a3 a4 : Int} (hi : zinv σ) : zst2 G MX11_may [zr 0, zi a1, zi a2, zi a3, zi a4] MX12_may [zr 98, zi a1, zi a2, zi a3, zi a4] σ := by
  obtain ⟨l, hM, hC⟩ := g_ztur hi
  have hc := (g_zppl hi).2.1
  apply TX11_may <;> (try (intros; omega))
  · intro h1 h2
    refine okC_weigh hi hC (by omega) (by omega) (fun s1 u f1 hz _ _ => TX11_may_31 ?_)
    have hi1 := zinv_sc f1 hi
    have e1 : s1 98 1 = σ 98 1 := zfr_at f1 rfl
    apply TX12_may <;> (try rw [e1]) <;> (try (intros; omega))
    intro _ _
    refine okM_may hi1 ((zturM_sm (zsc_s f1)).mpr hM) (by omega) (by omega) ((zone_sm (zfr_sm f1 rfl)).mpr hz) (fun s2 f2 => TX12_may_24 ⟨?_, zinv_sc f2 hi1⟩)
    rw [zlawO_sm (zsc_s f1), zmres_sm (zsc_D f1)]
  · intro h1
    apply TX12_may <;> (try (intros; omega))
    exact fun _ => ⟨rfl, hi⟩
theorem st_test {a1 a2 a3 a4 a5 : Int} (hi : zinv σ) : zst2 G MX11_test [zr 0, zi a1, zi a2, zi a3, zi a4, zi a5] MX12_test [zr 98, zi a1, zi a2, zi a3, zi a4, zi a5] σ := by
  obtain ⟨l, hM, hC⟩ := g_ztur hi
  have hp := g_zppl hi
  have hn := hp.1
  have hc := hp.2.1
  apply TX11_test <;> (try (intros; omega))
  · intro h1 h2
    refine okC_weigh hi hC (by omega) (by omega) (fun s1 u f1 hz y1 y2 => ?_)
    have hi1 := zinv_sc f1 hi
    have e1 : s1 98 1 = σ 98 1 := zfr_at f1 rfl
    have hw : zwords s1 l a2 a3 a4 = zwords σ l a2 a3 a4 := zwords_sm (zsc_s f1)
    have model : ∀ r, (zRes_f (zlawO σ l a2 a3 a4 u) ≠ -1 → r = -1) → (zRes_f (zlawO σ l a2 a3 a4 u) = -1 → r = if 0 ≤ a5 ∧ a5 < zRes_m (zlawO σ l a2 a3 a4 u) then zRes_V (zlawO σ l a2 a3 a4 u) a5 else -1) → zO G MX12_test [zr 98, zi a1, zi a2, zi a3, zi a4, zi a5] s1 (fun r' s' => r' = r ∧ zinv s') := by
      intro r r1 r2
      apply TX12_test <;> (try rw [e1]) <;> (try (intros; omega))
      intro _ _
      refine okX12_words (g_zamo hi1) ((zturM_sm (zsc_s f1)).mpr hM) (by omega) (fun s2 f2 g2 => TX12_test_25 ?_)
      rw [hw] at g2
      have f2' : zfr zWs s2 s1 := zfr_mo rfl (zfrM_fr f2)
      have hpar : zparM s2 (zwords σ l a2 a3 a4).2.1 (zwords σ l a2 a3 a4).1 := ⟨g2.1, g2.2.1, g2.2.2.1⟩
      refine okX12_compiles (u := u) hpar (fun s3 f3 g3 => ?_)
      have hR : zlaw (zlt (zwords σ l a2 a3 a4).2.1 (zwords σ l a2 a3 a4).1) (zwords σ l a2 a3 a4).1 u = zlawO σ l a2 a3 a4 u := rfl
      rw [hR] at g3 ⊢
      have f3' : zfr zWs s3 σ := zfr_tr f1 (zfr_tr f2' (zfr_mo rfl f3))
      have hi3 := zinv_sc f3' hi
      by_cases hF : zRes_f (zlawO σ l a2 a3 a4 u) = -1
      · obtain ⟨⟨t1, t2, t3⟩, htl, _⟩ := g3 hF
        have hr := r2 hF
        by_cases h5 : 0 ≤ a5 ∧ a5 < zRes_m (zlawO σ l a2 a3 a4 u)
        · rw [if_pos h5] at hr
          have ht := htl a5 h5.1 h5.2
          apply TX12_test_29 <;> (try rw [t1]) <;> (try (intros; omega))
          intro _ _ _
          refine okX12_tested (g_zppl hi3) (g_zlnk hi3) (g_zfct hi3).1 (by rw [zfr_at (q := 98) (j := 1) f3' rfl]; omega) ((zone_sm (zfr_sm f3' rfl)).mpr hz) (by omega) ht.2 (fun s4 f4 => TX12_test_59 ⟨?_, zinv_sc (zfr_mo rfl f4) hi3⟩)
          rw [hr, ht.1]
        · rw [if_neg h5] at hr
          apply TX12_test_29 <;> (try rw [t1]) <;> (try (intros; omega))
          intro _
          exact ⟨hr.symm, hi3⟩
      · apply TX12_test_29 <;> (try (intros; omega))
        intro _
        exact ⟨(r1 hF).symm, hi3⟩
    apply TX11_test_34 <;> (try (intros; omega))
    · intro h3
      exact model _ (fun _ => rfl) (fun h => by omega)
    · intro h3
      exact model _ (fun h => by omega) (fun h => y2 h)
  · intro h1
    apply TX12_test <;> (try (intros; omega))
    exact fun _ => ⟨rfl, hi⟩
end LW
