/-! THE LAW in the model: tests, the run of the steps -/
abbrev zWk : zPl := [(158, none), (159, none), (160, none)]
section TE
variable {G : zG} {s : zS} {Q : Int → zS → Prop}
theorem okX12_compared {v o m : Int} (kq : Q (zcmp v o m) s) : zO G MX12_compared [zi v, zi o, zi m] s Q := by
  have key : ∀ r : Int, r = zcmp v o m → Q r s := fun r hr => by rw [hr]; exact kq
  unfold zcmp at key
  apply TX12_compared <;> intros <;> apply key <;> (repeat' split) <;> omega
theorem okX12_tested {i w a k : Int} {u : zOne} (hp : zppl s) (hl : zlnk s) (hfc : 0 ≤ s 98 2 ∧ s 98 2 ≤ 400) (hw : 0 ≤ w ∧ w < s 98 1) (hz : zone s w a k u) (hi : 0 ≤ i ∧ i < 110) (hok : ztok (s 162 i))
    (kq : ∀ s' : zS, zfr zWk s' s → Q (ztv u (s 162 i) (s 163 i) (s 164 i)) s') : zO G MX12_tested [zr 98, zi i, zi w, zi a, zi k] s Q := by
  refine zO_in (fun hargs hwf => ?_)
  have hia : zIn a := hargs (zi a) (by simp)
  unfold zIn at hia
  have hn := hp.1
  have hb := hp.2.2 w hw.1 hw.2
  obtain ⟨zY, zD, zWd', zR', zT, zK, zN'⟩ := hz
  have hd := zldiv_b (x := a - s 99 w) (by omega)
  have hW := zW_eq (x := zldiv (a - s 99 w) 365) (by omega) (by omega)
  have hcmp := zlcmp_lt (x := zldiv (a - s 99 w) 365) (y := 0) (by unfold zLn; omega) (by unfold zLn; omega)
  unfold ztok at hok
  unfold ztv at kq
  rw [zY, zD, zWd', zR', zT] at kq
  have kq0 := kq s zfr_0
  apply TX12_tested <;> (try (intros; omega))
  · intro h h2
    rw [h] at kq0
    rw [if_neg (by decide), if_neg (by decide), if_neg (by decide), if_neg (by decide), if_neg (by decide)] at kq0
    rw [hW]
    rw [show max 0 (zldiv (a - s 99 w) 365) = zldiv (a - s 99 w) 365 from by omega] at kq0
    exact okX12_compared (TX12_tested_127 kq0)
  · intro h h2
    rw [h] at kq0
    rw [if_neg (by decide), if_neg (by decide), if_neg (by decide), if_neg (by decide), if_neg (by decide)] at kq0
    rw [show max 0 (zldiv (a - s 99 w) 365) = 0 from by omega] at kq0
    exact okX12_compared (TX12_tested_127 kq0)
  · intro _ h
    rw [h] at kq0
    rw [if_neg (by decide), if_neg (by decide), if_pos rfl] at kq0
    exact okX12_valueOf hfc (TX12_tested_137 (okX12_compared (TX12_tested_144 kq0)))
  · intro _ _ h
    rw [h] at kq0
    rw [if_neg (by decide), if_neg (by decide), if_neg (by decide), if_pos rfl] at kq0
    exact okX12_valueOf hfc (TX12_tested_154 (okX12_compared (TX12_tested_161 kq0)))
  · intro _ _ _ h
    rw [h] at kq0
    rw [if_neg (by decide), if_neg (by decide), if_neg (by decide), if_neg (by decide), if_pos rfl] at kq0
    exact okX12_valueOf hfc (TX12_tested_171 (okX12_compared (TX12_tested_178 kq0)))
  · intro _ _ _ _ h
    rw [h] at kq0
    rw [if_pos rfl] at kq0
    refine okX12_valueOf hfc ?_
    have key : ∀ r : Int, r = (if 0 < zval s w 1 a k then 1 else 0) → Q r s := fun r hr => by rw [hr]; exact kq0
    apply TX12_tested_81 <;> intros <;> apply key <;> (repeat' split) <;> omega
  · intro _ _ _ _ _
    have h107 : s 162 i = 107 := by omega
    refine okX12_kinOf rfl hn.2 hw (zlnk_M hp hl) (fun s1 K f1 z1 => ?_)
    have hK := zkin_one z1 zK
    subst hK
    have g1 : zfr zWk s1 s := zfr_of [158, 159, 160] (fun q hq => by simp only [List.mem_cons, List.not_mem_nil, or_false, not_or] at hq; exact f1 q hq.1 hq.2.1 hq.2.2) rfl
    have e1 : s1 98 1 = s 98 1 := zfr_at g1 rfl
    have e2 : s1 102 = s 102 := zfr_row g1 rfl
    have e3 : s1 103 = s 103 := zfr_row g1 rfl
    have e4 : s1 104 = s 104 := zfr_row g1 rfl
    refine TX12_tested_186 (okX12_nearOf e1 hn.2 hw (fun l x y => by rw [e2]; exact zlnk_M hp hl l x y) (fun s2 N K f2 z2 z3 => ?_))
    have g2 : zfr zWk s2 s := zfr_tr g1 (zfr_of [158, 159, 160] (fun q hq => by simp only [List.mem_cons, List.not_mem_nil, or_false, not_or] at hq; exact f2 q hq.1 hq.2.1 hq.2.2) rfl)
    have efd : zfdM s1 (s 98 1) = zfdM s (s 98 1) := by unfold zfdM; rw [e4]
    have eun : zunM s1 k = zunM s k := by unfold zunM zunL; rw [e2, e3]
    rw [zlkM_eq e2 e3, efd] at z2
    rw [zlkM_eq e2 e3, eun] at z3
    have hK2 := zkin_one z2 zK
    subst hK2
    have hN := znear_one z3 zN'
    subst hN
    have kq2 := kq s2 g2
    rw [h107, if_neg (by decide), if_pos rfl] at kq2
    have key : ∀ r : Int, r = zktst (zOne_K u) (zOne_N u) (s 163 i) (s 164 i) → Q r s2 := fun r hr => by rw [hr]; exact kq2
    unfold zktst at key
    apply TX12_tested_195 <;> intros <;> apply key <;> (repeat' split) <;> omega
theorem okX12_joined0 {a b : Int} (ha : zv3 a) (hb : zv3 b) (kq : Q (zboth a b) s) : zO G MX12_joined [zi a, zi b, zi 0] s Q := by
  unfold zv3 at ha hb
  have key : ∀ r : Int, r = zboth a b → Q r s := fun r hr => by rw [hr]; exact kq
  unfold zboth at key
  apply TX12_joined <;> intros <;> (try omega) <;> apply key <;> (repeat' split) <;> omega
theorem okX12_joined1 {a b : Int} (ha : zv3 a) (hb : zv3 b) (kq : Q (zeith a b) s) : zO G MX12_joined [zi a, zi b, zi 1] s Q := by
  unfold zv3 at ha hb
  have key : ∀ r : Int, r = zeith a b → Q r s := fun r hr => by rw [hr]; exact kq
  unfold zeith at key
  apply TX12_joined <;> intros <;> (try omega) <;> apply key <;> (repeat' split) <;> omega
end TE
theorem zex_pre {V : Int → Int} : ∀ {pre suf : List Int} {M : Int} {st : List Int}, zex V (pre ++ suf) = some (M, st) → ∃ m st', zex V suf = some (m, st') ∧ m ≤ M := by
  intro pre
  induction pre with
  | nil => intro suf M st h; exact ⟨M, st, h, by omega⟩
  | cons c pre ih =>
    intro suf M st h
    rcases zex_inv h with ⟨_, b, r, c1, _⟩ | ⟨_, b, r, c1, _⟩ | ⟨_, b, b2, r, c1, _⟩
    · obtain ⟨m, st', x, y⟩ := ih c1
      exact ⟨m, st', x, by omega⟩
    · exact ih c1
    · exact ih c1
theorem zstk_ap {f : Int → Int} : ∀ {pre suf : List Int}, zstk f (pre ++ suf) → zstk f suf := by
  intro pre
  induction pre with
  | nil => intro suf h; exact h
  | cons c pre ih => intro suf h; exact ih h.2
abbrev zWn : zPl := [(167, none), (158, none), (159, none), (160, none)]
abbrev zWm : zPl := [(127, none), (128, none), (126, none), (98, some 43), (98, some 84), (98, some 85), (98, some 86), (98, some 87), (98, some 88), (162, none), (163, none), (164, none), (165, none), (166, none), (167, none), (158, none), (159, none), (160, none)]
/-- places that people are read from, in the model -/
abbrev zDp : zPl := [(98, some 1), (99, none), (102, none), (103, none), (104, none), (98, some 2), (106, none), (107, none), (108, none), (109, none), (110, none)]
theorem zval_sm {s σ : zS} {w t a k : Int} (h : zsm zDp s σ) : zval s w t a k = zval σ w t a k := by
  have e6 := zsm_at h 98 2 rfl
  have e7 := zsm_row h 106 rfl
  have e8 := zsm_row h 107 rfl
  have e9 := zsm_row h 109 rfl
  have e10 := zsm_row h 110 rfl
  have e11 := zsm_row h 108 rfl
  have ev : zlat (zvok s w t a k) (s 109) (s 98 2).toNat = zlat (zvok σ w t a k) (σ 109) (σ 98 2).toNat := by
    rw [e6]
    refine zlat_congr (fun i _ _ => ⟨?_, by rw [e9]⟩)
    show (s 106 i = w ∧ s 107 i = t ∧ s 109 i ≤ a ∧ s 110 i ≤ k) ↔ (σ 106 i = w ∧ σ 107 i = t ∧ σ 109 i ≤ a ∧ σ 110 i ≤ k)
    rw [e7, e8, e9, e10]
  unfold zval
  rw [ev, e11]
theorem zone_sm {s σ : zS} {w a k : Int} {u : zOne} (h : zsm zDp s σ) : zone s w a k u ↔ zone σ w a k u := by
  have e1 := zsm_at h 98 1 rfl
  have e2 := zsm_row h 99 rfl
  have e3 := zsm_row h 102 rfl
  have e4 := zsm_row h 103 rfl
  have e5 := zsm_row h 104 rfl
  have efd : zfdM s (σ 98 1) = zfdM σ (σ 98 1) := by unfold zfdM; rw [e5]
  have eun : zunM s k = zunM σ k := by unfold zunM zunL; rw [e3, e4]
  unfold zone
  rw [zlkM_eq e3 e4, e1, e2, efd, eun, zval_sm h, zval_sm h, zval_sm h, zval_sm h]
section MY
variable {G : zG} {Q : Int → zS → Prop}
theorem okX12_run {s0 : zS} {w kd a k M x : Int} {u : zOne} {V : Int → Int} {rc : List Int} (hp : zppl s0) (hl : zlnk s0) (hfc : 0 ≤ s0 98 2 ∧ s0 98 2 ≤ 400) (hw : 0 ≤ w ∧ w < s0 98 1) (hz : zone s0 w a k u) (hV : ∀ i, zv3 (V i))
    (htl : ztld s0 u M V) (hM : M ≤ 100) (hcn : s0 98 85 = rc.length) (hrl : (rc.length : Int) ≤ 250) (hcd : zstk (s0 165) rc) (hex : zex V rc = some (M, [x])) (kq : ∀ s : zS, zfr zWn s s0 → Q x s) :
    ∀ (rem suf : List Int) (s : zS) (m : Int) (st : List Int), rc = rem.reverse ++ suf → zfr zWn s s0 → zex V suf = some (m, st) → zstk (s 167) st → zR G MX12_mays 66 [zr 98, zi w, zi kd, zi a, zi k, zi (st.length : Int), zi (suf.length : Int), zu] [] s Q := by
  intro rem
  induction rem with
  | nil =>
    intro suf s m st hr hf hx hs
    have e1 : rc = suf := by rw [hr]; rfl
    subst e1
    rw [hex] at hx
    cases hx
    have e85 : s 98 85 = rc.length := (zfr_at hf rfl).trans hcn
    apply TX12_mays_66 <;> (try rw [e85]) <;> (try (intros; omega))
    intro _
    have h1 : s 167 0 = x := hs.1
    rw [h1]
    exact kq s hf
  | cons c rem ih =>
    intro suf s m st hr hf hx hs
    have hr2 : rc = rem.reverse ++ (c :: suf) := by rw [hr]; simp
    have hlen : (rc.length : Int) = (rem.length : Int) + suf.length + 1 := by rw [hr2]; simp; omega
    have hcs := hcd
    rw [hr2] at hcs
    have hc0 := (zstk_ap hcs).1
    have hex0 := hex
    rw [hr2] at hex0
    obtain ⟨m2, st2, hx2, hm2⟩ := zex_pre hex0
    have e85 : s 98 85 = rc.length := (zfr_at hf rfl).trans hcn
    have e165 : s 165 = s0 165 := zfr_row hf rfl
    have hcode : s 165 (suf.length : Int) = c := by rw [e165]; exact hc0
    have b1 := zex_b hx
    have b2 := zex_b hx2
    have h3 := zex_3 hV hx
    rcases zex_inv hx2 with ⟨c0, em, r, hxr, e2⟩ | ⟨c0, a', r, hxr, e2⟩ | ⟨c0, bb, aa, r, hxr, e2⟩
    · rw [hx] at hxr
      cases hxr
      have g : zfr [] s s := zfr_0
      have hp' : zppl s := by
        unfold zppl
        rw [zfr_at (q := 98) (j := 1) hf rfl, zfr_at (q := 22) (j := 12) hf rfl, zfr_row (q := 23) hf rfl, zfr_row (q := 99) hf rfl]
        exact hp
      have hl' : zlnk s := by
        unfold zlnk
        rw [zfr_at (q := 98) (j := 1) hf rfl, zfr_row (q := 102) hf rfl, zfr_row (q := 25) hf rfl, zfr_row (q := 24) hf rfl, zfr_row (q := 103) hf rfl]
        exact hl
      have hz' : zone s w a k u := (zone_sm (zfr_sm hf rfl)).mpr hz
      have ht := htl c c0 (by omega)
      have e162 : s 162 = s0 162 := zfr_row hf rfl
      have e163 : s 163 = s0 163 := zfr_row hf rfl
      have e164 : s 164 = s0 164 := zfr_row hf rfl
      apply TX12_mays_66 <;> (try rw [e85]) <;> (try rw [hcode]) <;> (try (intros; omega))
      intro _ _
      refine okX12_tested hp' hl' (by rw [zfr_at (q := 98) (j := 2) hf rfl]; exact hfc) (by rw [zfr_at (q := 98) (j := 1) hf rfl]; exact hw) hz' (by omega) (by rw [e162]; exact ht.2) (fun s' hs' => ?_)
      rw [e162, e163, e164, ← ht.1]
      refine TX12_mays_108 (by omega) (by omega) ?_
      have e1 : (st.length : Int) + 1 = ((V c :: st).length : Nat) := by simp
      have e3 : (suf.length : Int) + 1 = ((c :: suf).length : Nat) := by simp
      rw [e1, e3]
      refine ih (c :: suf) _ m2 (V c :: st) hr2 (zfr_uA rfl (zfr_tr hf (zfr_mo rfl hs'))) (by rw [hx2, e2]) ⟨zup_same, zstk_eq (fun i i0 i1 => ?_) hs⟩
      rw [zup_oi (by omega), zfr_row (q := 167) hs' rfl]
    · rw [hx] at hxr
      cases hxr
      simp only [List.length_cons] at b1
      have hw1 : s 167 (r.length : Int) = a' := hs.1
      have el : (((a' :: r).length : Nat) : Int) - 1 = r.length := by simp
      have go : ∀ v : Int, v = znt a' → zR G MX12_mays 66 [zr 98, zi w, zi kd, zi a, zi k, zi (((a' :: r).length : Nat) : Int), zi ((suf.length : Int) + 1), zu] [] (zup s 167 (r.length : Int) v) Q := by
        intro v hv
        have e3 : (suf.length : Int) + 1 = ((c :: suf).length : Nat) := by simp
        have e4 : (((a' :: r).length : Nat) : Int) = (((v :: r).length : Nat) : Int) := by simp
        rw [e3, e4]
        refine ih (c :: suf) _ _ (v :: r) hr2 (zfr_uA rfl hf) (by rw [hx2, e2, hv]) ⟨zup_same, zstk_eq (fun i i0 i1 => ?_) hs.2⟩
        rw [zup_oi (by omega)]
      have h3a := h3 a' List.mem_cons_self
      unfold zv3 at h3a
      unfold znt at go
      apply TX12_mays_66 <;> (try rw [e85]) <;> (try rw [hcode]) <;> (try rw [el]) <;> (try rw [hw1]) <;> (try (intros; omega))
      · intro _ _ _ h2
        exact go _ (by rw [if_neg h2])
      · intro _ _ _ h2
        exact go _ (by rw [if_pos h2])
    · rw [hx] at hxr
      cases hxr
      simp only [List.length_cons] at b1
      have hw1 : s 167 ((r.length : Int) + 1) = bb := by
        have := hs.1
        simp only [List.length_cons] at this
        rw [show ((r.length + 1 : Nat) : Int) = (r.length : Int) + 1 from by omega] at this
        exact this
      have hw2 : s 167 (r.length : Int) = aa := hs.2.1
      have el : (((bb :: aa :: r).length : Nat) : Int) + -1 = r.length + 1 := by simp; omega
      have go : ∀ v : Int, v = (if c = -2 then zboth aa bb else zeith aa bb) → zR G MX12_mays 200 [zr 98, zi w, zi kd, zi a, zi k, zi ((r.length : Int) + 1), zi (suf.length : Int), zi c] [zi v, zi ((r.length : Int) + 1 - 1), zr 167] s Q := by
        intro v hv
        refine TX12_mays_200 (by omega) (by omega) ?_
        have e3 : (suf.length : Int) + 1 = ((c :: suf).length : Nat) := by simp
        have e4 : (r.length : Int) + 1 = (((v :: r).length : Nat) : Int) := by simp
        have e5 : (r.length : Int) + 1 - 1 = r.length := by omega
        rw [e5, e3, e4]
        refine ih (c :: suf) _ _ (v :: r) hr2 (zfr_uA rfl hf) (by rw [hx2, e2, hv]) ⟨zup_same, zstk_eq (fun i i0 i1 => ?_) hs.2.2⟩
        rw [zup_oi (by omega)]
      have q1 := h3 bb List.mem_cons_self
      have q2 := h3 aa (List.mem_cons_of_mem _ List.mem_cons_self)
      have e5 : (r.length : Int) + 1 - 1 = r.length := by omega
      apply TX12_mays_66 <;> (try rw [e85]) <;> (try rw [hcode]) <;> (try rw [el]) <;> (try rw [e5]) <;> (try rw [hw1]) <;> (try rw [hw2]) <;> (try (intros; omega))
      · intro _ _ _ h2
        rw [if_neg h2] at go
        rw [e5] at go
        exact okX12_joined1 q2 q1 (go _ rfl)
      · intro _ _ _ h2
        rw [if_pos h2] at go
        rw [e5] at go
        exact okX12_joined0 q2 q1 (go _ rfl)
end MY
