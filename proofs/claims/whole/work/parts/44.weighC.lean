/-! MAY in the class -/
theorem zfrC_fr {s σ : zS} (h : zfrC σ s) : zfr [(46, none), (35, some 12), (35, some 13)] s σ := by
  intro q j a
  refine h q j (fun z => a ?_) (fun z => a ?_)
  · exact ⟨(46, none), by simp, z.symm, Or.inl rfl⟩
  · rcases z.2 with e | e
    · exact ⟨(35, some 12), by simp, z.1.symm, Or.inr (by rw [e])⟩
    · exact ⟨(35, some 13), by simp, z.1.symm, Or.inr (by rw [e])⟩
abbrev zWw : zPl := [(46, none), (35, some 12), (35, some 13), (48, none), (49, none), (50, none), (51, none), (47, some 6), (47, some 7), (47, some 8), (47, some 9), (47, some 10), (47, some 11), (47, some 12), (47, some 13), (32, none), (33, none), (34, none), (22, some 15), (22, some 16)]
abbrev zWl : zPl := [(48, none), (49, none), (50, none), (47, some 7), (47, some 8), (47, some 9), (47, some 10), (47, some 11), (47, some 12), (47, some 13)]
theorem zlwf_fr {s σ : zS} (h : zlwf σ s) : zfr zWl s σ := by
  intro q j a
  refine h q j (fun z => a ?_) (fun z => a ?_) (fun z => a ?_) (fun z => a ?_)
  · exact ⟨(48, none), by simp, z.symm, Or.inl rfl⟩
  · exact ⟨(49, none), by simp, z.symm, Or.inl rfl⟩
  · exact ⟨(50, none), by simp, z.symm, Or.inl rfl⟩
  · refine ⟨(47, some j), ?_, z.1.symm, Or.inr rfl⟩
    have hj : j = 7 ∨ j = 8 ∨ j = 9 ∨ j = 10 ∨ j = 11 ∨ j = 12 ∨ j = 13 := by omega
    rcases hj with e | e | e | e | e | e | e <;> subst e <;> simp
section WC
variable {G : zG} {σ : zS} {Q : Int → zS → Prop}
theorem okX3_learn {w a k : Int} (hp : zppl σ) (hf : zfct σ) (hw : 0 ≤ w ∧ w < σ 98 1) (kq : ∀ s : zS, zfr [(51, none), (47, some 6)] s σ → s 47 6 = max 0 (zldiv (a - σ 99 w) 365) → (∀ t, 0 ≤ t → t < 4 → s 51 t = zval σ w t a k) → Q 0 s) : zO G MX3_learn [zr 47, zi w, zi a, zi k] σ Q := by
  refine zO_in (fun hargs hwf => ?_)
  have hia : zIn a := hargs (zi a) (by simp)
  unfold zIn at hia
  have hn := hp.1
  have hb := hp.2.2 w hw.1 hw.2
  have hd := zldiv_b (x := a - σ 99 w) (by omega)
  have hW := zW_eq (x := zldiv (a - σ 99 w) 365) (by omega) (by omega)
  have hff := hf.1
  refine TX3_learn ?_
  have loop : ∀ (n : Nat) (i : Int) (s : zS), (4 - i).toNat = n → 0 ≤ i → i ≤ 4 → zfr [(51, none)] s σ → (∀ t, 0 ≤ t → t < i → s 51 t = zval σ w t a k) → zR G MX3_learn 3 [zr 47, zi w, zi a, zi k, zi i] [] s Q := by
    intro n
    induction n with
    | zero =>
      intro i s hn i0 i1 hs ht
      have e23 : s 23 w = σ 99 w := by rw [zfr_row (q := 23) hs rfl]; exact hb.1
      apply TX3_learn_3 <;> (try rw [e23]) <;> (try (intros; omega))
      intro _
      refine kq _ (zfr_uF rfl (zfr_mo rfl hs)) ?_ (fun t t0 t1 => ?_)
      · rw [zup_same, hW]
      · rw [zup_of (by decide)]
        exact ht t t0 (by omega)
    | succ n ih =>
      intro i s hn i0 i1 hs ht
      apply TX3_learn_3 <;> (try (intros; omega))
      intro _
      have e14 : s 22 14 = σ 98 2 := by rw [zfr_at (q := 22) (j := 14) hs rfl]; exact hf.2.1
      have ev : zvalC s (4 * w + i) a k = zval σ w i a k := by
        rw [← zval_eq (σ := σ) ⟨i0, by omega⟩ hf.2.1 hff.1 hf.2.2]
        have g1 := zfr_row (q := 30) hs rfl
        have g2 := zfr_row (q := 28) hs rfl
        have g3 := zfr_row (q := 31) hs rfl
        have g4 := zfr_row (q := 29) hs rfl
        have g5 : s 22 14 = σ 22 14 := zfr_at (q := 22) (j := 14) hs rfl
        have e : zlat (zvokC s (4 * w + i) a k) (s 30) (s 22 14).toNat = zlat (zvokC σ (4 * w + i) a k) (σ 30) (σ 22 14).toNat := by
          rw [g5]
          refine zlat_congr (fun j _ _ => ⟨?_, by rw [g1]⟩)
          show (s 28 j = _ ∧ s 30 j ≤ a ∧ s 31 j ≤ k) ↔ (σ 28 j = _ ∧ σ 30 j ≤ a ∧ σ 31 j ≤ k)
          rw [g1, g2, g3]
        unfold zvalC
        rw [e, g4]
      refine okX5_valueOf (by rw [e14]; exact hff) ?_
      rw [ev]
      refine TX3_learn_30 (by omega) (by omega) ?_
      refine ih (i + 1) _ (by omega) (by omega) (by omega) (zfr_uA rfl hs) (fun t t0 t1 => ?_)
      by_cases e : t = i
      · rw [e, zup_same]
      · rw [zup_oi e]
        exact ht t t0 (by omega)
  exact loop _ 0 σ rfl (by omega) (by omega) zfr_0 (fun t t0 t1 => by omega)
/-- behind its preparations -/
theorem okX3_weigh_begin {who which a k wt : Int} {s : zS} {t : Int → Int} {n : Int} (ht : zpar s t n) (hw : who = -1 ∨ (0 ≤ who ∧ who < 24))
    (kq : ∀ (s' : zS) (v : Int), zfr zWl s' s → zlwr s' wt (zlaw (zlt t n) n (zoneC s)) →
      ((zRes_f (zlaw (zlt t n) n (zoneC s)) ≠ -1 ∧ v = 3) ∨ (zRes_f (zlaw (zlt t n) n (zoneC s)) = -1 ∧ ((who ≠ -1 ∧ zalvC s who a k ∧ v = zRes_x (zlaw (zlt t n) n (zoneC s))) ∨ ((who = -1 ∨ ¬ zalvC s who a k) ∧ v = 0)))) → Q v s') :
    zR G MX3_weigh 46 [zr 47, zi who, zi which, zi a, zi k, zi wt, zi 0, zi 0] [] (zup (zup (zup (zup (zup (zup (zup (zup (zup (zup s 47 11 wt) 47 12 (-1)) 47 10 0) 47 13 (-1)) 47 8 0) 47 7 0) 48 0 0) 49 0 1) 50 0 0) 47 9 1) Q := by
  have hn := ht.1
  have hl : zlwf s (zup (zup (zup (zup (zup (zup (zup (zup (zup (zup s 47 11 wt) 47 12 (-1)) 47 10 0) 47 13 (-1)) 47 8 0) 47 7 0) 48 0 0) 49 0 1) 50 0 0) 47 9 1) :=
    zlwf_up (zlwf_up (zlwf_up (zlwf_up (zlwf_up (zlwf_up (zlwf_up (zlwf_up (zlwf_up (zlwf_up (fun _ _ _ _ _ _ => rfl) (by omega)) (by omega)) (by omega)) (by omega)) (by omega)) (by omega)) (by omega)) (by omega)) (by omega)) (by omega)
  refine okX3_weigh_loop (t := t) (n := n) ht hw 201 0 true 0 (fun _ => 0) (0, 1, 0) [] _ 0 (by omega) (by omega) hl ?_ (by intro z; cases z) ⟨⟨Or.inl rfl, Or.inr (Or.inl rfl)⟩, trivial⟩ (fun s' v h1 h2 h3 => kq s' v (zlwf_fr h1) h2 h3)
  refine ⟨⟨by simp [zup], by simp [zup, zdep]⟩, ⟨by simp [zdep], ⟨by decide, trivial⟩⟩, fun _ => by simp [zup], (by intro z; cases z), ⟨by simp [zup], by omega, by omega⟩, ⟨by simp [zup], by simp [zup]⟩, ?_, ⟨by simp [zup], by simp [zup], by simp [zup]⟩, trivial⟩
  rw [if_neg (by omega)]
  simp [zup]
theorem zbeg_eq {s : zS} {wt : Int} {x : Int} (hx : x = 0) : zup (zup (zup (zup (zup (zup (zup (zup (zup (zup s 47 11 wt) 47 12 (-1)) 47 10 0) 47 13 (-1)) 47 8 0) 47 7 0) 48 x 0) 49 x 1) 50 x 0) 47 9 1 = zup (zup (zup (zup (zup (zup (zup (zup (zup (zup s 47 11 wt) 47 12 (-1)) 47 10 0) 47 13 (-1)) 47 8 0) 47 7 0) 48 0 0) 49 0 1) 50 0 0) 47 9 1 := by rw [hx]
theorem okX3_weigh {l : List Int} {who which a k wt : Int} (hM : zamo σ) (hC : zamC σ) (ht : zturC σ l) (hkd : 0 ≤ which ∧ which < 4) (hp : zppl σ) (hl : zlnk σ) (hfn : zfnd σ) (hf : zfct σ) (hdt : zdth σ) (hw : 0 ≤ who ∧ who < σ 98 1)
    (kq : ∀ (s : zS) (u : zOne), zfr zWw s σ → zone σ who a k u → s 47 13 = zRes_f (zlawO σ l which a k u) →
      (zRes_f (zlawO σ l which a k u) = -1 → s 47 12 = if 0 ≤ wt ∧ wt < zRes_m (zlawO σ l which a k u) then zRes_V (zlawO σ l which a k u) wt else -1) → Q (zmres σ (zlawO σ l which a k u) who a k) s) :
    zO G MX3_weigh [zr 47, zi who, zi which, zi a, zi k, zi wt] σ Q := by
  have hn := hp.1
  refine TX3_weigh (okX10_compose hM hC ht hkd (fun s1 f1 g1 => ?_))
  have f1' := zfrC_fr f1
  have p1 : ∀ D : zPl, zdj D [(46, none), (35, some 12), (35, some 13)] = true → zsm D s1 σ := fun D hd => zfr_sm f1' hd
  have hp1 : zppl s1 := by
    unfold zppl
    rw [zfr_at (q := 98) (j := 1) f1' rfl, zfr_at (q := 22) (j := 12) f1' rfl, zfr_row (q := 23) f1' rfl, zfr_row (q := 99) f1' rfl]
    exact hp
  have hf1 : zfct s1 := by
    unfold zfct
    rw [zfr_at (q := 98) (j := 2) f1' rfl, zfr_at (q := 22) (j := 14) f1' rfl, zfr_row (q := 28) f1' rfl, zfr_row (q := 29) f1' rfl, zfr_row (q := 30) f1' rfl, zfr_row (q := 31) f1' rfl, zfr_row (q := 106) f1' rfl, zfr_row (q := 107) f1' rfl, zfr_row (q := 108) f1' rfl, zfr_row (q := 109) f1' rfl, zfr_row (q := 110) f1' rfl]
    exact hf
  have hw1 : 0 ≤ who ∧ who < s1 98 1 := by rw [zfr_at (q := 98) (j := 1) f1' rfl]; exact hw
  refine TX3_weigh_11 (fun _ => okX3_learn hp1 hf1 hw1 (fun s2 f2 y2 v2 => ?_)) (by intros; omega) (by intros; omega)
  have f2' : zfr zWw s2 σ := zfr_tr (zfr_mo rfl f1') (zfr_mo rfl f2)
  have c1 : s2 22 12 = σ 98 1 := by rw [zfr_at (q := 22) (j := 12) f2' rfl]; exact hp.2.1
  have c2 : s2 25 = σ 25 := zfr_row f2' rfl
  have c3 : s2 24 = σ 24 := zfr_row f2' rfl
  have c4 : s2 22 13 = σ 22 13 := zfr_at (q := 22) (j := 13) f2' rfl
  refine TX3_weigh_24 (okX5_measure c1 hn.2 hw (fun x a b => by rw [c2, c3]; exact zlnk_L hl x a b) (fun s3 f3 u3 z3 w3 => ?_))
  have f3' : zfr zWw s3 s2 := by
    intro q j hz
    refine f3 q j (fun z => hz ?_) (fun z => hz ?_) (fun z => hz ?_) (fun z => hz ?_)
    · exact ⟨(32, none), by simp, z.symm, Or.inl rfl⟩
    · exact ⟨(33, none), by simp, z.symm, Or.inl rfl⟩
    · exact ⟨(34, none), by simp, z.symm, Or.inl rfl⟩
    · rcases z.2 with e | e
      · exact ⟨(22, some 15), by simp, z.1.symm, Or.inr (by rw [e])⟩
      · exact ⟨(22, some 16), by simp, z.1.symm, Or.inr (by rw [e])⟩
  have f4 : zfr zWw s3 σ := zfr_tr f2' f3'
  have g3 : ∀ q j, q ≠ 32 → q ≠ 33 → q ≠ 34 → ¬ (q = 22 ∧ (j = 15 ∨ j = 16)) → s3 q j = s2 q j := f3
  have k1 : s3 35 12 = s1 35 12 := by rw [g3 35 12 (by decide) (by decide) (by decide) (by omega), zfr_at (q := 35) (j := 12) f2 rfl]
  have k2 : s3 46 = s1 46 := by
    funext j
    rw [g3 _ _ (by decide) (by decide) (by decide) (fun z => absurd z.1 (by decide)), zfr_row (q := 46) f2 rfl]
  have hpar : zpar s3 (zwords σ l which a k).2.1 (zwords σ l which a k).1 := ⟨g1.1, k1.trans g1.2.1, by rw [k2]; exact g1.2.2.1⟩
  have efd : zfdC s2 = zfdC σ := by unfold zfdC; rw [c4]
  have eun : zunC s2 k = zunC σ k := by unfold zunC; rw [c2]
  rw [zlkC_eq c2 c3, efd] at z3
  rw [zlkC_eq c2 c3, eun] at w3
  have zz1 := zkin_CM hp hl hfn hw z3
  have zz2 := znear_CM hp hl hw w3
  have hone : zone σ who a k (zoneC s3) := by
    have ev : ∀ t, zval s1 who t a k = zval σ who t a k := fun t => zval_sm (p1 _ rfl)
    have e6 : s3 47 6 = s2 47 6 := g3 47 6 (by decide) (by decide) (by decide) (by omega)
    have e51 : ∀ t, s3 51 t = s2 51 t := fun t => g3 _ _ (by decide) (by decide) (by decide) (fun z => absurd z.1 (by decide))
    refine ⟨?_, ?_, ?_, ?_, ?_, zz1, zz2⟩
    · show s3 47 6 = _
      rw [e6, y2, zfr_row (q := 99) f1' rfl]
    · show s3 51 0 = _
      rw [e51, v2 0 (by omega) (by omega), ev]
    · show s3 51 1 = _
      rw [e51, v2 1 (by omega) (by omega), ev]
    · show s3 51 2 = _
      rw [e51, v2 2 (by omega) (by omega), ev]
    · show s3 51 3 = _
      rw [e51, v2 3 (by omega) (by omega), ev]
  have hlaw : zlaw (zlt (zwords σ l which a k).2.1 (zwords σ l which a k).1) (zwords σ l which a k).1 (zoneC s3) = zlawO σ l which a k (zoneC s3) := rfl
  have h70 : (zup (zup (zup (zup (zup (zup s3 47 11 wt) 47 12 (-1)) 47 10 0) 47 13 (-1)) 47 8 0) 47 7 0) 47 7 = 0 := zup_same
  refine TX3_weigh_34 (by rw [h70]; omega) ?_
  rw [zbeg_eq h70]
  refine okX3_weigh_begin hpar (Or.inr (by omega)) (fun s4 v f5 r1 r2 => ?_)
  rw [hlaw] at r1 r2
  have hv : v = zmres σ (zlawO σ l which a k (zoneC s3)) who a k := by
    have hd := hdt who hw.1 (by omega)
    have hb := hp.2.2 who hw.1 hw.2
    have hA : zalvC s3 who a k ↔ zalv σ who a k := by
      unfold zalvC zalv
      rw [zfr_row (q := 23) f4 rfl, zfr_row (q := 27) f4 rfl, zfr_row (q := 26) f4 rfl, hb.1]
      omega
    rcases r2 with ⟨x1, x2⟩ | ⟨x1, x2⟩
    · rw [zmres_3 x1, x2]
    · rcases x2 with ⟨y1, y2, y3⟩ | ⟨y1, y2⟩
      · rw [zmres_x x1 (hA.mp y2), y3]
      · rw [zmres_0 x1 (fun z => by
          rcases y1 with y1 | y1
          · omega
          · exact y1 (hA.mpr z)), y2]
  rw [hv]
  exact kq s4 (zoneC s3) (zfr_tr f4 (zfr_mo rfl f5)) hone r1.1 r1.2
/-- for nobody: the fault alone -/
theorem okX3_weighN {l : List Int} {which a k wt : Int} (hM : zamo σ) (hC : zamC σ) (ht : zturC σ l) (hkd : 0 ≤ which ∧ which < 4)
    (kq : ∀ (s : zS) (u : zOne) (r : Int), zfr zWw s σ → s 47 13 = zRes_f (zlawO σ l which a k u) → Q r s) : zO G MX3_weigh [zr 47, zi (-1), zi which, zi a, zi k, zi wt] σ Q := by
  refine TX3_weigh (okX10_compose hM hC ht hkd (fun s1 f1 g1 => ?_))
  have f1' := zfrC_fr f1
  have hpar : zpar s1 (zwords σ l which a k).2.1 (zwords σ l which a k).1 := ⟨g1.1, g1.2.1, g1.2.2.1⟩
  have h70 : (zup (zup (zup (zup (zup (zup s1 47 11 wt) 47 12 (-1)) 47 10 0) 47 13 (-1)) 47 8 0) 47 7 0) 47 7 = 0 := zup_same
  refine TX3_weigh_11 (by intros; omega) (fun _ => by rw [h70]; omega) (fun _ => ?_)
  rw [zbeg_eq h70]
  refine okX3_weigh_begin hpar (Or.inl rfl) (fun s4 v f5 r1 r2 => ?_)
  exact kq s4 (zoneC s1) v (zfr_tr (zfr_mo rfl f1') (zfr_mo rfl f5)) r1.1
end WC
