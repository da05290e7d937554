/-! CALLS: votes, without -/
section WO
variable {G : zG} {σ : zS}
theorem st_votes {a1 a2 : Int} (hi : zinv σ) : zst2 G MX11_votes [zr 0, zi a1, zi a2] MX12_votes [zr 98, zi a1, zi a2] σ := by
  have hp := g_zppl hi
  have hn := hp.1
  have hpc : σ 22 12 = σ 98 1 := hp.2.1
  have he := g_zelc hi
  by_cases h : 0 ≤ a2 ∧ a2 < σ 98 1
  · apply TX11_votes <;> (try rw [hpc]) <;> (try (intros; omega))
    intro _
    rcases he with ⟨e1, e2, e3, e4⟩ | ⟨e1, e2, e3, e4, e5⟩
    · apply TX2_votesIn <;> (try rw [e3]) <;> (try (intros; omega))
      intro _
      refine TX11_votes_20 ?_
      apply TX12_votes <;> (try (intros; omega))
      exact fun _ => ⟨rfl, hi⟩
    · by_cases hr : 0 ≤ a1 ∧ a1 < σ 98 92
      · apply TX2_votesIn <;> (try rw [e3.1]) <;> (try (intros; omega))
        intro _ _
        refine TX11_votes_20 ?_
        rcases e4 a1 a2 hr.1 hr.2 h.1 (by omega) with ⟨b, v⟩ | ⟨b, v⟩
        · have hb := (zb_shr1 (x := σ 171 a1) h.1 (by omega)).1 b
          apply TX12_votes <;> (try (intros; omega))
          intros
          exact ⟨v.symm, hi⟩
        · have hb := (zb_shr1 (x := σ 171 a1) h.1 (by omega)).2 b
          apply TX12_votes <;> (try (intros; omega))
          intros
          exact ⟨v.symm, hi⟩
      · apply TX2_votesIn <;> (try rw [e3.1]) <;> (try (intros; omega))
        intro _
        refine TX11_votes_20 ?_
        apply TX12_votes <;> (try (intros; omega))
        exact fun _ => ⟨rfl, hi⟩
  · apply TX11_votes <;> (try rw [hpc]) <;> (try (intros; omega))
    intro _
    apply TX12_votes <;> (try (intros; omega))
    exact fun _ => ⟨rfl, hi⟩
theorem zcst_fr {s σ : zS} {W : zPl} (f : zfr W s σ) (hd : zdj [(63, none), (64, none), (65, some 8), (65, some 9), (168, none), (169, none), (98, some 91)] W = true) (h : zcst σ) : zcst s := by
  have e := zfr_sm f hd
  unfold zcst zcs1 at h ⊢
  rw [zsm_row e 63 rfl, zsm_row e 64 rfl, zsm_row e 168 rfl, zsm_row e 169 rfl, zsm_at e 65 8 rfl, zsm_at e 65 9 rfl, zsm_at e 98 91 rfl]
  exact h
/-- the election as the class's cells have it -/
def zDof (σ : zS) : zED := (σ 65 8, σ 65 9, σ 63, σ 64, σ 23)
theorem zDof_h (hl : zlim σ) : zhD (zDof σ) σ := ⟨rfl, rfl, rfl, rfl, rfl, hl.2.1⟩
theorem zDof_ok (hc : zcst σ) : zokD (zDof σ) := by
  obtain ⟨⟨_, ow, h1, h2, h3⟩, h4⟩ := hc
  refine ⟨fun v v0 v1 z => ?_, fun z => ?_⟩
  · obtain ⟨e, a, b⟩ := h3 v v0 v1 z
    have := (h1 e a.1 a.2).1
    rw [b] at this
    exact ⟨this.1, this.2.1, this.2.2.2.1⟩
  · rcases h4 with ⟨a, _⟩ | ⟨_, a⟩
    · exact absurd a z
    · exact ⟨a.1, a.2.1, a.2.2.2.1⟩
theorem zdrop_no {X w : Int} (hX : zIn X) (w0 : 0 ≤ w ∧ w < 32) : zdrop X w = X ↔ ¬ zbit X w := by
  constructor
  · intro e z
    rw [← e] at z
    exact ((zdrop_b w0 w0).mp z).2 rfl
  · intro z
    refine zb_ext (zIn_of _) hX (fun j a b => ?_)
    rw [zdrop_b w0 ⟨a, b⟩]
    exact ⟨fun y => y.1, fun y => ⟨y, fun e => by rw [e] at y; exact z y⟩⟩
theorem zdrop_0 {X w : Int} (hX : zIn X) (w0 : 0 ≤ w ∧ w < 32) (hb : zbit X w) : zdrop X w = 0 ↔ X = zshl 1 w := by
  constructor
  · intro e
    refine zb_ext hX (zIn_of _) (fun j a b => ?_)
    rw [zb_shl w0.1 w0.2 a b]
    constructor
    · intro y
      by_cases x : j = w
      · exact x
      · have := (zdrop_b (X := X) w0 ⟨a, b⟩).mpr ⟨y, x⟩
        rw [e] at this
        exact absurd this (zb_0 j)
    · intro y
      rw [y]; exact hb
  · intro e
    refine zb_ext (zIn_of _) zIn_0 (fun j a b => ?_)
    rw [zdrop_b w0 ⟨a, b⟩, e, zb_shl w0.1 w0.2 a b]
    exact ⟨fun y => absurd y.1 y.2, fun y => absurd y (zb_0 j)⟩
theorem zfr_67 {s σ : zS} (f : zfr [(67, none), (66, none), (65, some 10)] s σ) (h : s 66 = σ 66 ∧ s 65 10 = σ 65 10) : zfr [(67, none)] s σ := by
  intro q j hq
  by_cases a : q = 66
  · rw [a, h.1]
  · by_cases b : q = 65 ∧ j = 10
    · rw [b.1, b.2]; exact h.2
    · refine f q j ?_
      rintro ⟨d, hd, e1, e2⟩
      simp only [List.mem_cons, List.not_mem_nil, or_false] at hd
      rcases hd with rfl | rfl | rfl
      · exact hq ⟨_, List.mem_cons_self, e1, e2⟩
      · exact a e1.symm
      · rcases e2 with e2 | e2
        · cases e2
        · exact b ⟨e1.symm, by simpa using e2.symm⟩
theorem zfr_172 {s σ : zS} (f : zfr [(172, none), (171, none), (170, none), (98, some 92)] s σ) (h : s 171 = σ 171 ∧ s 170 = σ 170 ∧ s 98 92 = σ 98 92) : zfr [(172, none)] s σ := by
  intro q j hq
  by_cases a : q = 171
  · rw [a, h.1]
  · by_cases a' : q = 170
    · rw [a', h.2.1]
    · by_cases b : q = 98 ∧ j = 92
      · rw [b.1, b.2]; exact h.2.2
      · refine f q j ?_
        rintro ⟨d, hd, e1, e2⟩
        simp only [List.mem_cons, List.not_mem_nil, or_false] at hd
        rcases hd with rfl | rfl | rfl | rfl
        · exact hq ⟨_, List.mem_cons_self, e1, e2⟩
        · exact a e1.symm
        · exact a' e1.symm
        · rcases e2 with e2 | e2
          · cases e2
          · exact b ⟨e1.symm, by simpa using e2.symm⟩
theorem st_without {a1 : Int} (hi : zinv σ) : zst2 G MX11_without [zr 0, zi a1] MX12_without [zr 98, zi a1] σ := by
  have wf : zst2 G MX11_without [zr 0, zi a1] MX12_without [zr 98, zi a1] σ = zO G MX11_without [zr 0, zi a1] σ (fun r s => zO G MX12_without [zr 98, zi a1] s (fun r' s' => r' = r ∧ zinv s')) := rfl
  refine zO_in (fun _ hwf => ?_)
  have hin : zIn (σ 65 7) := hwf 65 7
  have hp := g_zppl hi
  have hn := hp.1
  have hpc : σ 22 12 = σ 98 1 := hp.2.1
  have he := g_zelc hi
  by_cases h : 0 ≤ a1 ∧ a1 < σ 98 1
  · apply TX11_without <;> (try rw [hpc]) <;> (try (intros; omega))
    intro _
    rcases he with ⟨e1, e2, e3, e4⟩ | ⟨e1, e2, e3, e4, e5⟩
    · have h0 : zand 0 (zxor (zshl 1 a1) (-1)) = 0 := (zdrop_no zIn_0 (by omega)).mpr (zb_0 a1)
      apply TX2_electedWithout <;> (try rw [e2]) <;> (try rw [h0]) <;> (try (intros; omega))
      intro _
      refine TX11_without_19 ?_
      apply TX12_without <;> (try (intros; omega))
      exact fun _ => ⟨rfl, hi⟩
    · have hst := e2.1
      have hinS : zIn (σ 98 90) := by rw [← hst]; exact hin
      have hno := zdrop_no (w := a1) hinS (by omega)
      by_cases c : zbit (σ 98 90) a1
      · have hb := (zb_shr1 (x := σ 98 90) h.1 (by omega)).1 c
        have hz := zdrop_0 hinS (by omega) c
        have hne : zand (σ 98 90) (zxor (zshl 1 a1) (-1)) ≠ σ 98 90 := fun z => absurd c (hno.mp z)
        by_cases d : σ 98 90 = zshl 1 a1
        · have hz0 : zand (σ 98 90) (zxor (zshl 1 a1) (-1)) = 0 := hz.mpr d
          apply TX2_electedWithout <;> (try rw [hst]) <;> (try (intros; omega))
          intro _
          refine TX11_without_19 ?_
          apply TX12_without <;> (try (intros; omega))
          exact fun _ => ⟨rfl, hi⟩
        · have hz0 : zand (σ 98 90) (zxor (zshl 1 a1) (-1)) ≠ 0 := fun z => d (hz.mp z)
          have hset : zset (σ 98 1) (zdrop (σ 98 90) a1) := by
            refine ⟨zIn_of _, fun j a b z => ?_⟩
            have := ((zdrop_b (by omega) ⟨by omega, b⟩).mp z).1
            have h2 := e2.2.2 j (by omega) b this
            omega
          have hpop : 1 ≤ zpop (zdrop (σ 98 90) a1) := by
            obtain ⟨j, j0, jb⟩ := zb_ex (x := zdrop (σ 98 90) a1) (zIn_of _) hz0
            by_cases x : j < σ 98 1
            · exact zpop_mem ⟨⟨j0.1, by omega⟩, jb⟩
            · exact absurd jb (hset.2 j (by omega) j0.2)
          apply TX2_electedWithout <;> (try rw [hst]) <;> (try (intros; omega))
          intro _ _
          refine okX2_runRounds (D := zDof σ) (p := σ 98 1) (zDof_h (g_zlim hi)) (zDof_ok e5) (by omega) hset hpop (fun Xs n w s hrn hf hv0 _ => ?_)
          have f1 : zfr [(67, none)] s σ := zfr_67 hf (hv0 rfl)
          refine TX2_electedWithout_33 (TX11_without_19 ?_)
          have q1 : s 98 1 = σ 98 1 := zfr_at f1 rfl
          have q89 : s 98 89 = σ 98 89 := zfr_at f1 rfl
          have q90 : s 98 90 = σ 98 90 := zfr_at f1 rfl
          apply TX12_without <;> (try rw [q1]) <;> (try rw [q89]) <;> (try rw [q90]) <;> (try (intros; omega))
          intros
          refine okX12_elects (D := zDof σ) (p := σ 98 1) (zhD_fr f1 rfl (zDof_h (g_zlim hi))) (zcst_fr f1 rfl e5) q1 (by omega) (fun v v0 v1 => ?_) hrn (fun s2 g2 w0 _ => TX12_without_53 ⟨rfl, ?_⟩)
          · rw [zfr_row (q := 99) f1 rfl]
            have := hp.2.2 v v0 v1
            show σ 99 v = σ 23 v
            omega
          · exact zinv_sc (zfr_tr (zfr_mo rfl f1) (zfr_mo rfl (zfr_172 g2 (w0 rfl)))) hi
      · have hb := (zb_shr1 (x := σ 98 90) h.1 (by omega)).2 c
        have hz0 : zand (σ 98 90) (zxor (zshl 1 a1) (-1)) = σ 98 90 := hno.mpr c
        apply TX2_electedWithout <;> (try rw [hst]) <;> (try (intros; omega))
        intro _
        refine TX11_without_19 ?_
        apply TX12_without <;> (try (intros; omega))
        exact fun _ => ⟨rfl, hi⟩
  · apply TX11_without <;> (try rw [hpc]) <;> (try (intros; omega))
    intro _
    apply TX12_without <;> (try (intros; omega))
    exact fun _ => ⟨rfl, hi⟩
end WO
