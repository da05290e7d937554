/-! MAY in the model -/
theorem zmres_3 {σ : zS} {R : zRes} {w a k : Int} (h : zRes_f R ≠ -1) : zmres σ R w a k = 3 := by unfold zmres; rw [if_pos h]
theorem zmres_x {σ : zS} {R : zRes} {w a k : Int} (h : zRes_f R = -1) (h2 : zalv σ w a k) : zmres σ R w a k = zRes_x R := by unfold zmres; rw [if_neg (by omega), if_pos h2]
theorem zmres_0 {σ : zS} {R : zRes} {w a k : Int} (h : zRes_f R = -1) (h2 : ¬ zalv σ w a k) : zmres σ R w a k = 0 := by unfold zmres; rw [if_neg (by omega), if_neg h2]
abbrev zDs : zPl := [(98, some 3), (117, none), (118, none), (119, none), (120, none), (121, none), (122, none), (123, none), (124, none), (125, none)]
theorem zwords_sm {s σ : zS} {l : List Int} {w a k : Int} (h : zsm zDs s σ) : zwords s l w a k = zwords σ l w a k := by
  have e1 : zap s = zap σ := by
    funext w a k x T
    unfold zap
    rw [zsm_row h 119 rfl, zsm_row h 120 rfl, zsm_row h 121 rfl, zsm_row h 122 rfl, zsm_row h 123 rfl, zsm_row h 124 rfl, zsm_row h 125 rfl]
  unfold zwords
  rw [e1, zsm_row h 117 rfl, zsm_row h 118 rfl]
theorem zamo_sm {s σ : zS} (h : zsm zDs s σ) : zamo s ↔ zamo σ := by
  unfold zamo
  rw [zsm_at h 98 3 rfl, zsm_row h 118 rfl, zsm_row h 119 rfl, zsm_row h 120 rfl, zsm_row h 122 rfl, zsm_row h 123 rfl]
theorem zturM_sm {s σ : zS} {l : List Int} (h : zsm zDs s σ) : zturM s l ↔ zturM σ l := by
  have e : zalt s = zalt σ := by
    funext x y
    unfold zalt
    rw [zsm_row h 120 rfl]
  unfold zturM
  rw [e, zsm_at h 98 3 rfl]
theorem zlawO_sm {s σ : zS} {l : List Int} {kd a k : Int} {u : zOne} (h : zsm zDs s σ) : zlawO s l kd a k u = zlawO σ l kd a k u := by
  unfold zlawO
  rw [zwords_sm h]
abbrev zDd : zPl := [(98, some 1), (99, none), (102, none), (103, none), (104, none), (98, some 2), (106, none), (107, none), (108, none), (109, none), (110, none), (105, none), (100, none), (101, none),
  (98, some 3), (117, none), (118, none), (119, none), (120, none), (121, none), (122, none), (123, none), (124, none), (125, none)]
theorem zsm_mo {D E : zPl} {s σ : zS} (hs : zsb D E = true) (h : zsm E s σ) : zsm D s σ := fun q j z => h q j (zsb_at hs z)
theorem zalv_sm {s σ : zS} {w a k : Int} (h : zsm zDd s σ) : zalv s w a k ↔ zalv σ w a k := by
  unfold zalv
  rw [zsm_row h 99 rfl, zsm_row h 105 rfl, zsm_row h 101 rfl, zsm_row h 100 rfl]
theorem zmres_sm {s σ : zS} {R : zRes} {w a k : Int} (h : zsm zDd s σ) : zmres s R w a k = zmres σ R w a k := by
  by_cases h1 : zRes_f R = -1
  · by_cases h2 : zalv σ w a k
    · rw [zmres_x h1 h2, zmres_x h1 ((zalv_sm h).mpr h2)]
    · rw [zmres_0 h1 h2, zmres_0 h1 (fun z => h2 ((zalv_sm h).mp z))]
  · rw [zmres_3 h1, zmres_3 h1]
theorem zmy_sm {s σ : zS} {l : List Int} {w kd a k v : Int} (h : zsm zDd s σ) : zmy s l w kd a k v ↔ zmy σ l w kd a k v := by
  have h1 : zsm zDp s σ := zsm_mo rfl h
  have h2 : zsm zDs s σ := zsm_mo rfl h
  constructor
  · rintro ⟨u, a1, a2⟩
    exact ⟨u, (zone_sm h1).mp a1, by rw [a2, zlawO_sm h2, zmres_sm h]⟩
  · rintro ⟨u, a1, a2⟩
    exact ⟨u, (zone_sm h1).mpr a1, by rw [a2, zlawO_sm h2, zmres_sm h]⟩
theorem zfrM_fr {s σ : zS} (h : zfrM σ s) : zfr [(127, none), (128, none), (126, none), (98, some 43)] s σ := by
  intro q j a
  refine h q j (fun z => a ?_) (fun z => a ?_) (fun z => a ?_) (fun z => a ?_)
  · exact ⟨(127, none), by simp, z.symm, Or.inl rfl⟩
  · exact ⟨(128, none), by simp, z.symm, Or.inl rfl⟩
  · exact ⟨(126, none), by simp, z.symm, Or.inl rfl⟩
  · exact ⟨(98, some 43), by simp, z.1.symm, Or.inr (by rw [z.2])⟩
section MZ
variable {G : zG} {σ : zS} {Q : Int → zS → Prop}
theorem okX12_mays {l : List Int} {w kd a k : Int} {u : zOne} (hM : zamo σ) (ht : zturM σ l) (hkd : 0 ≤ kd ∧ kd < 4) (hp : zppl σ) (hl : zlnk σ) (hfc : 0 ≤ σ 98 2 ∧ σ 98 2 ≤ 400) (hw : 0 ≤ w ∧ w < σ 98 1) (hz : zone σ w a k u)
    (kq : ∀ s : zS, zfr zWm s σ → Q (zmres σ (zlawO σ l kd a k u) w a k) s) : zO G MX12_mays [zr 98, zi w, zi kd, zi a, zi k] σ Q := by
  refine TX12_mays (okX12_words hM ht hkd (fun s1 f1 g1 => ?_))
  have f1' := zfrM_fr f1
  have hpar : zparM s1 (zwords σ l kd a k).2.1 (zwords σ l kd a k).1 := ⟨g1.1, g1.2.1, g1.2.2.1⟩
  refine TX12_mays_8 (okX12_compiles (u := u) hpar (fun s2 f2 g2 => ?_))
  have f3 : zfr zWm s2 σ := zfr_tr (zfr_mo rfl f1') (zfr_mo rfl f2)
  have hR : zlaw (zlt (zwords σ l kd a k).2.1 (zwords σ l kd a k).1) (zwords σ l kd a k).1 u = zlawO σ l kd a k u := rfl
  rw [hR] at g2 ⊢
  have e99 : s2 99 = σ 99 := zfr_row f3 rfl
  have e100 : s2 100 = σ 100 := zfr_row f3 rfl
  have e101 : s2 101 = σ 101 := zfr_row f3 rfl
  have e105 : s2 105 = σ 105 := zfr_row f3 rfl
  have hn := hp.1
  apply TX12_mays_12 <;> (try rw [e99]) <;> (try rw [e100]) <;> (try rw [e101]) <;> (try rw [e105]) <;> (try (intros; omega))
  · intro h
    have := kq s2 f3
    rw [zmres_3 h] at this
    exact this
  · intro h h2
    have := kq s2 f3
    rw [zmres_0 h (by unfold zalv; omega)] at this
    exact this
  · intro h h2 h3
    have halv : zalv σ w a k := by unfold zalv; omega
    obtain ⟨⟨t1, t2, t3⟩, htl, rc, c1, c2, c3, c4⟩ := g2 h
    have hp' : zppl s2 := by
      unfold zppl
      rw [zfr_at (q := 98) (j := 1) f3 rfl, zfr_at (q := 22) (j := 12) f3 rfl, zfr_row (q := 23) f3 rfl, e99]
      exact hp
    have hl' : zlnk s2 := by
      unfold zlnk
      rw [zfr_at (q := 98) (j := 1) f3 rfl, zfr_row (q := 102) f3 rfl, zfr_row (q := 25) f3 rfl, zfr_row (q := 24) f3 rfl, zfr_row (q := 103) f3 rfl]
      exact hl
    have hz' : zone s2 w a k u := (zone_sm (zfr_sm f3 rfl)).mpr hz
    have hV : ∀ i, 0 ≤ i → i < zRes_m (zlawO σ l kd a k u) → zv3 (zRes_V (zlawO σ l kd a k u) i) := fun i x y => by rw [(htl i x y).1]; exact ztv_3 _ _ _ _
    have c4' := zex_eq (V' := fun i => if 0 ≤ i ∧ i < zRes_m (zlawO σ l kd a k u) then zRes_V (zlawO σ l kd a k u) i else 0) (fun i x y => if_pos ⟨x, y⟩) c4
    have htl' : ztld s2 u (zRes_m (zlawO σ l kd a k u)) (fun i => if 0 ≤ i ∧ i < zRes_m (zlawO σ l kd a k u) then zRes_V (zlawO σ l kd a k u) i else 0) := by
      intro i x y
      have := htl i x y
      dsimp only
      rw [if_pos ⟨x, y⟩]
      exact this
    have key := okX12_run (G := G) (Q := Q) (kd := kd) (rc := rc) (x := zRes_x (zlawO σ l kd a k u)) hp' hl' (by rw [zfr_at (q := 98) (j := 2) f3 rfl]; exact hfc) (by rw [zfr_at (q := 98) (j := 1) f3 rfl]; exact hw) hz'
      (fun i => by split; exact hV i (by omega) (by omega); exact Or.inl rfl) htl' t3 c1 c2 c3 c4' (fun s hs => by
        have := kq s (zfr_tr f3 (zfr_mo rfl hs))
        rw [zmres_x h halv] at this
        exact this) rc.reverse [] s2 0 [] (by simp) zfr_0 rfl trivial
    exact key
end MZ
