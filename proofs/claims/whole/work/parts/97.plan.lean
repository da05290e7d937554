/-! CALLS: plan -/
section PL
variable {G : zG} {σ : zS}
theorem st_plan {a1 a2 a3 : Int} (hi : zinv σ) : zst2 G MX11_plan [zr 0, zi a1, zi a2, zi a3] MX12_plan [zr 98, zi a1, zi a2, zi a3] σ := by
  have hyr := zyear hi
  have hnow := (g_zcnow hi).1
  have hrf := g_zrfs hi
  have hr12 := hrf.1
  have e0 : zdiv (σ 0 13) 365 = σ 98 0 / 365 := by rw [hnow, hyr.1]
  have hY : 0 ≤ σ 98 0 / 365 ∧ σ 98 0 / 365 ≤ 110 := by omega
  by_cases ok : (1 ≤ a1 ∧ a1 ≤ 10) ∧ (0 ≤ a2 ∧ a2 ≤ 99999) ∧ (0 ≤ a3 ∧ a3 ≤ 99999)
  · have hn := ok.1
    have hfl := ok.2.1
    have hu := ok.2.2
    obtain ⟨o0, eo⟩ : ∃ o0, (0 < σ 98 10 ∧ o0 = 0) ∨ (σ 98 10 ≤ 0 ∧ o0 = a1) := by
      by_cases c : 0 < σ 98 10
      · exact ⟨0, Or.inl ⟨c, rfl⟩⟩
      · exact ⟨a1, Or.inr ⟨by omega, rfl⟩⟩
    obtain ⟨t0, et⟩ : ∃ t0, (1 < σ 98 10 ∧ t0 = 0) ∨ (σ 98 10 ≤ 1 ∧ t0 = a1) := by
      by_cases c : 1 < σ 98 10
      · exact ⟨0, Or.inl ⟨c, rfl⟩⟩
      · exact ⟨a1, Or.inr ⟨by omega, rfl⟩⟩
    refine TX11_plan (fun _ => ?_) (fun z => absurd ok z) (fun z => absurd ok z) (fun z => absurd ok z)
    rw [e0]
    refine okX7_prepare hi rfl hn hu (fun s fs hp => TX11_plan_29 ?_)
    refine okX7_findBest hi hY hn hu hfl hp (zfr_at fs rfl) (zfr_row fs rfl) eo et (fun u fu he => ?_)
    have fuσ : zfr [(83, some 10), (83, some 11), (83, some 12), (83, some 13), (86, none), (87, none), (88, none), (89, none), (90, none)] u σ := zfr_tr (zfr_mo rfl fs) (zfr_mo rfl fu)
    generalize hacc : zq0 σ (σ 98 0 / 365) a1 a3 a2 o0 t0 (zshl 1 (σ 98 5)).toNat = acc at he
    obtain ⟨h12, he⟩ := he
    by_cases c : acc.1 = -1
    · have u13 : u 83 13 = σ 83 13 ∧ u 90 = σ 90 := by
        rcases he with ⟨_, x, y⟩ | ⟨x, _⟩
        · exact ⟨x, y⟩
        · omega
      have fsc : zfr [(83, some 10), (83, some 11), (83, some 12), (86, none), (87, none), (88, none), (89, none)] u σ := by
        intro q j hz
        by_cases e1 : q = 83 ∧ j = 13
        · rw [e1.1, e1.2]; exact u13.1
        · by_cases e2 : q = 90
          · rw [e2, u13.2]
          · refine fuσ q j (fun ⟨d, hd, dq, dj⟩ => ?_)
            simp only [List.mem_cons, List.not_mem_nil, or_false] at hd
            rcases hd with h | h | h | h | h | h | h | h | h
            · exact hz ⟨d, by simp [h], dq, dj⟩
            · exact hz ⟨d, by simp [h], dq, dj⟩
            · exact hz ⟨d, by simp [h], dq, dj⟩
            · subst h
              rcases dj with dj | dj
              · exact absurd dj (by simp)
              · refine e1 ⟨dq.symm, ?_⟩
                have := Option.some.inj dj
                exact this.symm
            · exact hz ⟨d, by simp [h], dq, dj⟩
            · exact hz ⟨d, by simp [h], dq, dj⟩
            · exact hz ⟨d, by simp [h], dq, dj⟩
            · exact hz ⟨d, by simp [h], dq, dj⟩
            · subst h
              exact e2 dq.symm
      apply TX11_plan_37 <;> (try (intros; omega))
      intro _
      have ft : zfr zWx (zup u 97 (-(-6)) (zW ((u 97 (-(-6))) + 1))) σ := zfr_uA rfl (zfr_mo rfl fsc)
      refine okX12_plan hi rfl hn hu hfl ft eo et (fun w a b fw hw _ _ => ?_) (fun w fw _ => ⟨rfl, ?_⟩)
      · rw [hacc] at hw
        omega
      · have w97 : w 97 = zup u 97 (-(-6)) (zW ((u 97 (-(-6))) + 1)) 97 := zfr_row fw rfl
        have w157 : w 157 = σ 157 := by rw [zfr_row fw rfl, zfr_row ft rfl]
        have u97 : u 97 = σ 97 := zfr_row fsc rfl
        have F : zfr [(83, some 10), (83, some 11), (83, some 12), (86, none), (87, none), (88, none), (89, none), (97, none), (157, none), (175, none), (98, some 104), (98, some 105)] (zup w 157 (-(-6)) (zW ((w 157 (-(-6))) + 1))) σ := zfr_uA rfl (zfr_tr (zfr_uA rfl (zfr_mo rfl fsc)) (zfr_mo rfl fw))
        apply zinv_fr F hi <;> (try (intro h; exact absurd h (by decide)))
        intro _ j j0 j1
        have hr := g_zref hi j j0 j1
        rw [zup_of (by decide), w97, w157, u97]
        by_cases c : j = -(-6)
        · rw [c, zup_same, zup_same]
          rw [c] at hr
          rw [hr]
        · rw [zup_oi c, zup_oi c, w157, u97]
          exact hr
    · obtain ⟨x1, x2, x3, x4, x5, x6⟩ : 0 ≤ acc.1 ∧ u 83 13 = a1 ∧ u 90 0 = acc.2.1 ∧ u 90 1 = acc.2.2.1 ∧ u 90 2 = acc.2.2.2 ∧ zry σ a1 acc.2.2.1 acc.2.2.2 := by
        rcases he with ⟨x, _⟩ | x
        · exact absurd x c
        · exact x
      apply TX11_plan_37 <;> (try (intros; omega))
      intro _
      have ft : zfr zWx u σ := zfr_mo rfl fuσ
      refine okX12_plan hi rfl hn hu hfl ft eo et (fun w a b fw hw ha hb => ⟨by rw [hacc], ?_⟩) (fun w fw hw => ?_)
      · rw [hacc] at ha hb ⊢
        have F : zfr [(83, some 10), (83, some 11), (83, some 12), (83, some 13), (86, none), (87, none), (88, none), (89, none), (90, none), (175, none), (98, some 104), (98, some 105), (98, some 99), (98, some 100), (98, some 101), (174, none)] (zup (zup (zup (zup (zup w 98 99 1) 98 100 acc.2.1) 174 0 a) 174 1 b) 98 101 (σ 98 10)) σ := zfr_uF rfl (zfr_uA rfl (zfr_uA rfl (zfr_uF rfl (zfr_uF rfl (zfr_tr (zfr_mo rfl fuσ) (zfr_mo rfl fw))))))
        apply zinv_fr F hi <;> (try (intro h; exact absurd h (by decide)))
        intro _
        have w13 : w 83 13 = a1 := by rw [zfr_at fw rfl]; exact x2
        have w90 : w 90 = u 90 := zfr_row fw rfl
        unfold zpld
        simp (disch := decide) only [zup_of, zup_oi, zup_same]
        rw [w13, w90]
        refine Or.inr ⟨trivial, by omega, by omega, x3, fun i i0 i1 => ?_⟩
        have hz1 := x6.1
        have hz2 := x6.2.1
        by_cases d : i = 0
        · subst d
          simp (disch := decide) only [zup_of, zup_oi, zup_same, Int.zero_add]
          rw [x4]
          by_cases r : 0 < σ 98 10
          · left
            refine ⟨r, ?_⟩
            rcases ha with ⟨p1, p2⟩ | ⟨p1, p2⟩
            · exact Or.inl ⟨p1, p2⟩
            · exact Or.inr ⟨by omega, p2.symm⟩
          · right
            refine ⟨by omega, ?_⟩
            by_cases e : acc.2.2.1 < a1
            · have := x6.2.2.1 e; omega
            · omega
        · have d1 : i = 1 := by omega
          subst d1
          simp (disch := decide) only [zup_of, zup_oi, zup_same]
          rw [show (1 : Int) + 1 = 2 from rfl, x5]
          by_cases r : 1 < σ 98 10
          · left
            refine ⟨r, ?_⟩
            rcases hb with ⟨p1, p2⟩ | ⟨p1, p2⟩
            · exact Or.inl ⟨p1, p2⟩
            · exact Or.inr ⟨by omega, p2.symm⟩
          · right
            refine ⟨by omega, ?_⟩
            by_cases e : acc.2.2.2 < a1
            · have := x6.2.2.2 e; omega
            · omega
      · rw [hacc] at hw
        exact absurd hw c
  · apply TX11_plan <;> (try (intro z; exact absurd z ok)) <;> (try (intros; omega))
    intro _
    have no : a1 < 1 ∨ (1 ≤ a1 ∧ 10 < a1) ∨ (1 ≤ a1 ∧ a1 ≤ 10 ∧ a2 < 0) ∨ (1 ≤ a1 ∧ a1 ≤ 10 ∧ 0 ≤ a2 ∧ 99999 < a2) ∨ (1 ≤ a1 ∧ a1 ≤ 10 ∧ 0 ≤ a2 ∧ a2 ≤ 99999 ∧ a3 < 0) ∨ (1 ≤ a1 ∧ a1 ≤ 10 ∧ 0 ≤ a2 ∧ a2 ≤ 99999 ∧ 0 ≤ a3 ∧ 99999 < a3) := by omega
    refine TX12_plan ?_
    apply TX12_isPlan <;> (try (intros; omega))
    intro _
    apply TX12_plan_6 <;> (try simp (disch := decide) only [zup_of, zup_oi, zup_same]) <;> (try (intros; omega))
    intro _
    exact ⟨by trivial, zno hi (by decide) rfl rfl (by decide)⟩
end PL
