/-! THE LAW in the class: tests -/
/-- the class's words are a text -/
def zpar (s : zS) (t : Int → Int) (n : Int) : Prop := (1 ≤ n ∧ n ≤ 200) ∧ s 35 12 = n ∧ zalike n (s 46) t
def zoneC (s : zS) : zOne := (s 47 6, s 51 0, s 51 1, s 51 2, s 51 3, s 22 15, s 22 16)
section LC
variable {G : zG} {s : zS} {Q : Int → zS → Prop} {t : Int → Int} {n : Int}
theorem okX3_letterAt {p : Int} (ht : zpar s t n) (hp : 0 ≤ p) (kq : Q (zlt t n p) s) : zO G MX3_letterAt [zr 47, zi p] s Q := by
  obtain ⟨t1, t2, t3⟩ := ht
  unfold zlt at kq
  apply TX3_letterAt <;> (try rw [t2]) <;> (try (intros; omega))
  · intro h
    rw [if_neg (by omega)] at kq
    exact kq
  · intro h
    rw [if_pos h] at kq
    rw [t3 p hp h]
    exact kq
theorem okX3_endOfTest {p : Int} (ht : zpar s t n) (hp : 0 ≤ p ∧ p < n) (k1 : zTest_f (zrd (zlt t n) p) = -1 → Q (zTest_e (zrd (zlt t n) p)) s) (k2 : zTest_f (zrd (zlt t n) p) ≠ -1 → ∀ r, Q r (zup s 47 13 (zTest_f (zrd (zlt t n) p)))) : zO G MX3_endOfTest [zr 47, zi p] s Q := by
  have hn := ht.1
  have hb := zde_b (zlt t n) (p + 2)
  have fin : ∀ (e : Int), zlt t n p ≠ 119 → ¬ (zlt t n p ≠ 97 ∧ zlt t n p ≠ 107 ∧ zlt t n p ≠ 100 ∧ zlt t n p ≠ 114 ∧ zlt t n p ≠ 116) → ¬ (zlt t n (p + 1) ≠ 60 ∧ zlt t n (p + 1) ≠ 62 ∧ zlt t n (p + 1) ≠ 61) → e = zde (zlt t n) (p + 2) →
      (e ≠ p + 2 → Q e s) ∧ (e = p + 2 → Q e (zup s 47 13 e)) := by
    intro e h1 h2 h3 he
    subst he
    unfold zrd at k1 k2
    rw [if_neg h1, if_neg h2, if_neg h3] at k1 k2
    constructor
    · intro h4
      rw [if_neg h4] at k1
      exact k1 rfl
    · intro h4
      rw [if_pos h4] at k2
      rw [h4]
      exact k2 (by show p + 2 ≠ -1; omega) _
  have loop : ∀ (v2 v3 far : Int), zlt t n p ≠ 119 → ¬ (zlt t n p ≠ 97 ∧ zlt t n p ≠ 107 ∧ zlt t n p ≠ 100 ∧ zlt t n p ≠ 114 ∧ zlt t n p ≠ 116) → ¬ (zlt t n (p + 1) ≠ 60 ∧ zlt t n (p + 1) ≠ 62 ∧ zlt t n (p + 1) ≠ 61) → far ≤ p + 6 →
      ∀ (f : Nat) (e : Int), (far - e).toNat = f → p + 2 ≤ e → e ≤ far → zdeF (zlt t n) e f = zde (zlt t n) (p + 2) → zR G MX3_endOfTest 117 [zr 47, zi p, zi v2, zi v3, zi far, zi e] [] s Q := by
    intro v2 v3 far h1 h2 h3 hf f
    induction f with
    | zero =>
      intro e he e0 e1 hz
      have hee : e = zde (zlt t n) (p + 2) := hz
      have hfin := fin e h1 h2 h3 hee
      apply TX3_endOfTest_117 <;> (try (intros; omega))
      · exact fun _ => hfin.1
      · exact fun _ => hfin.2
    | succ f ih =>
      intro e he e0 e1 hz
      by_cases hd : zdig (zlt t n e)
      · have hz2 : zdeF (zlt t n) (e + 1) f = zde (zlt t n) (p + 2) := by
          rw [← hz]
          show _ = if zdig (zlt t n e) then _ else _
          rw [if_pos hd]
        apply TX3_endOfTest_117 <;> (try (intros; omega))
        intro _
        refine okX3_letterAt ht (by omega) ?_
        apply TX3_endOfTest_130 <;> (try (intros; omega))
        intro _
        refine okX3_letterAt ht (by omega) ?_
        apply TX3_endOfTest_141 <;> (try (intros; omega))
        intro _
        exact ih (e + 1) (by omega) (by omega) (by omega) hz2
      · have hee : e = zde (zlt t n) (p + 2) := by
          rw [← hz]
          show _ = if zdig (zlt t n e) then _ else _
          rw [if_neg hd]
        have hfin := fin e h1 h2 h3 hee
        apply TX3_endOfTest_117 <;> (try (intros; omega))
        intro _
        refine okX3_letterAt ht (by omega) ?_
        apply TX3_endOfTest_130 <;> (try (intros; omega))
        · intro _
          refine okX3_letterAt ht (by omega) ?_
          apply TX3_endOfTest_141 <;> (try (intros; omega))
          · exact fun _ => hfin.1
          · exact fun _ => hfin.2
        · exact fun _ => hfin.1
        · exact fun _ => hfin.2
  refine TX3_endOfTest (okX3_letterAt ht hp.1 ?_)
  apply TX3_endOfTest_5 <;> (try (intros; omega))
  · intro h1 h2 h3 h4 h5 h6
    unfold zrd at k2
    rw [if_neg h1, if_pos ⟨h2, h3, h4, h5, h6⟩] at k2
    exact k2 (by show p ≠ -1; omega) _
  · intro h1
    unfold zrd at k1
    rw [if_pos h1] at k1
    exact k1 rfl
  · intro h1 h2
    refine okX3_letterAt ht (by omega) ?_
    apply TX3_endOfTest_60 <;> (try (intros; omega))
    · intro h3 h4 h5
      unfold zrd at k2
      rw [if_neg h1, if_neg (by omega), if_pos ⟨h3, h4, h5⟩] at k2
      exact k2 (by show p + 1 ≠ -1; omega) _
    · intro h3
      refine okX3_letterAt ht (by omega) ?_
      have hz : zde (zlt t n) (p + 2) = if zlt t n (p + 2) = 48 then p + 2 + 1 else zdeF (zlt t n) (p + 2) 4 := rfl
      apply TX3_endOfTest_95 <;> (try (intros; omega))
      · intro h4
        rw [if_neg h4] at hz
        exact loop _ _ _ h1 (by omega) (by omega) (by omega) 4 (p + 2) (by omega) (by omega) (by omega) hz.symm
      · intro h4
        rw [if_pos h4] at hz
        refine loop _ _ _ h1 (by omega) (by omega) (by omega) 1 (p + 2) (by omega) (by omega) (by omega) ?_
        rw [hz]
        show (if zdig (zlt t n (p + 2)) then _ else _) = _
        rw [if_pos (by omega)]
        rfl
theorem okX3_plainTest {a o m : Int} (h1 : a ≠ 119 ∧ a ≠ 107) (kq : Q (ztv (zoneC s) a o m) s) : zO G MX3_plainTest [zr 47, zi a, zi o, zi m] s Q := by
  unfold ztv at kq
  rw [if_neg h1.1, if_neg h1.2] at kq
  dsimp only [zoneC, zOne_Y, zOne_D, zOne_R, zOne_T] at kq
  generalize hv : (if a = 100 then s 51 0 else if a = 114 then s 51 2 else if a = 116 then s 51 3 else s 47 6) = v at kq
  have e1 : a = 100 → v = s 51 0 := fun h => by rw [← hv, if_pos h]
  have e2 : a = 114 → v = s 51 2 := fun h => by rw [← hv, if_neg (by omega), if_pos h]
  have e3 : a = 116 → v = s 51 3 := fun h => by rw [← hv, if_neg (by omega), if_neg (by omega), if_pos h]
  have e4 : a ≠ 100 → a ≠ 114 → a ≠ 116 → v = s 47 6 := fun h h2 h3 => by rw [← hv, if_neg h, if_neg h2, if_neg h3]
  clear hv
  have key : ∀ r : Int, r = zcmp v o m → Q r s := fun r hr => by rw [hr]; exact kq
  unfold zcmp at key
  apply TX3_plainTest <;> intros <;> apply key <;> (repeat' split) <;> omega
theorem okX3_kinTest {o m : Int} (kq : Q (ztv (zoneC s) 107 o m) s) : zO G MX3_kinTest [zr 47, zi o, zi m] s Q := by
  unfold ztv zktst at kq
  rw [if_neg (by decide), if_pos rfl] at kq
  dsimp only [zoneC] at kq
  have key : ∀ r : Int, (r = if o = 60 then (if s 22 15 < m then 1 else if s 22 16 < m then 2 else 0) else if o = 62 then (if s 22 15 ≤ m then 0 else if s 22 16 ≤ m then 2 else 1)
  else if s 22 15 = m then (if s 22 16 < m then 2 else 1) else if m < s 22 15 ∧ s 22 16 ≤ m then 2 else 0) → Q r s := fun r hr => by rw [hr]; exact kq
  apply TX3_kinTest <;> intros <;> apply key <;> (repeat' split) <;> omega
theorem okX3_valueOfTest {p : Int} (ht : zpar s t n) (hp : 0 ≤ p ∧ p < n) (hf : zTest_f (zrd (zlt t n) p) = -1)
    (kq : Q (ztv (zoneC s) (zTest_s (zrd (zlt t n) p)) (zTest_o (zrd (zlt t n) p)) (zTest_m (zrd (zlt t n) p))) s) : zO G MX3_valueOfTest [zr 47, zi p, zi (zTest_e (zrd (zlt t n) p))] s Q := by
  have hn := ht.1
  have hb := zde_b (zlt t n) (p + 2)
  refine TX3_valueOfTest (okX3_letterAt ht hp.1 ?_)
  by_cases h1 : zlt t n p = 119
  · have hz : zrd (zlt t n) p = (-1, p + 1, 119, 0, 0) := by
      unfold zrd
      rw [if_pos h1]
    rw [hz] at kq ⊢
    dsimp only [zTest_s, zTest_o, zTest_m] at kq
    unfold ztv at kq
    rw [if_pos rfl] at kq
    dsimp only [zoneC, zOne_W] at kq
    have key : ∀ r : Int, r = (if 0 < s 51 1 then 1 else 0) → Q r s := fun r hr => by rw [hr]; exact kq
    apply TX3_valueOfTest_5 <;> (try (intros; omega)) <;> intros <;> apply key <;> (repeat' split) <;> omega
  · unfold zrd at kq hf ⊢
    rw [if_neg h1] at kq hf ⊢
    by_cases h2 : zlt t n p ≠ 97 ∧ zlt t n p ≠ 107 ∧ zlt t n p ≠ 100 ∧ zlt t n p ≠ 114 ∧ zlt t n p ≠ 116
    · rw [if_pos h2] at hf
      dsimp only [zTest_f] at hf
      omega
    · rw [if_neg h2] at kq hf ⊢
      by_cases h3 : zlt t n (p + 1) ≠ 60 ∧ zlt t n (p + 1) ≠ 62 ∧ zlt t n (p + 1) ≠ 61
      · rw [if_pos h3] at hf
        dsimp only [zTest_f] at hf
        omega
      · rw [if_neg h3] at kq hf ⊢
        by_cases h4 : zde (zlt t n) (p + 2) = p + 2
        · rw [if_pos h4] at hf
          dsimp only [zTest_f] at hf
          omega
        · rw [if_neg h4] at kq ⊢
          dsimp only [zTest_s, zTest_o, zTest_m, zTest_e] at kq ⊢
          have loop : ∀ (f : Nat) (k : Nat), f + k = (zde (zlt t n) (p + 2) - (p + 2)).toNat → zR G MX3_valueOfTest 35 [zr 47, zi p, zi (zde (zlt t n) (p + 2)), zi (zlt t n p), zi (znum (zlt t n) (p + 2) k), zi (p + 2 + k)] [] s Q := by
            intro f
            induction f with
            | zero =>
              intro k hk
              have hk2 : k = (zde (zlt t n) (p + 2) - (p + 2)).toNat := by omega
              rw [hk2]
              apply TX3_valueOfTest_35 <;> (try (intros; omega))
              intro _
              refine okX3_letterAt ht (by omega) ?_
              apply TX3_valueOfTest_71 <;> (try (intros; omega))
              · intro h5
                exact okX3_plainTest ⟨h1, h5⟩ (TX3_valueOfTest_99 kq)
              · intro h5
                rw [h5] at kq
                exact okX3_kinTest (TX3_valueOfTest_87 kq)
            | succ f ih =>
              intro k hk
              have hb1 := znum_b (zlt t n) (p + 2) k (by omega) (fun i a b => hb.2.2 i a (by omega))
              have h10 : (10 : Int) ^ k ≤ 10000 := by
                have hk3 : k = 0 ∨ k = 1 ∨ k = 2 ∨ k = 3 := by omega
                rcases hk3 with h | h | h | h <;> (rw [h]; decide)
              have hd := hb.2.2 (p + 2 + k) (by omega) (by omega)
              apply TX3_valueOfTest_35 <;> (try (intros; omega))
              intro _
              refine okX3_letterAt ht (by omega) ?_
              apply TX3_valueOfTest_52 <;> (try (intros; omega))
              have := ih (k + 1) (by omega)
              rw [show p + 2 + ((k + 1 : Nat) : Int) = p + 2 + k + 1 from by omega] at this
              exact this
          have := loop (zde (zlt t n) (p + 2) - (p + 2)).toNat 0 (by omega)
          rw [show p + 2 + ((0 : Nat) : Int) = p + 2 from by omega] at this
          apply TX3_valueOfTest_5 <;> (try (intros; omega))
          intro _
          exact this
/-- a part has ended: the row of parts of its level -/
theorem okX3_endPart {v l : Int} (hl : s 47 7 = l) (h31 : 0 ≤ l ∧ l < 31) (hn0 : 0 ≤ s 50 l ∧ s 50 l ≤ 30) (hd : 0 ≤ s 47 8 ∧ s 47 8 ≤ 31) (hv : zv3 v)
    (kq : Q 0 (zup (zup (zup (zup s 47 8 (s 47 8 - s 50 l)) 50 l 0) 49 l (zboth (s 49 l) (znot (s 50 l) v))) 47 9 0)) : zO G MX3_endPart [zr 47, zi v] s Q := by
  have er := zrem_nat hn0.1 (by omega)
  unfold zv3 at hv
  have fin : ∀ w : Int, w = znot (s 50 l) v → zO G MX3_both [zi (s 49 l), zi w] (zup (zup s 47 8 (s 47 8 - s 50 l)) 50 l 0) (fun rr σ' => zR G MX3_endPart 77 [zr 47, zi v, zi w] [zi rr, zi l, zr 49] σ' Q) := by
    intro w hw
    rw [← hw] at kq
    have key : ∀ r : Int, r = zboth (s 49 l) w → zR G MX3_endPart 77 [zr 47, zi v, zi w] [zi r, zi l, zr 49] (zup (zup s 47 8 (s 47 8 - s 50 l)) 50 l 0) Q := by
      intro r hr
      rw [← hr] at kq
      exact TX3_endPart_77 (by omega) kq
    unfold zboth at key
    apply TX3_both <;> intros <;> apply key <;> (repeat' split) <;> omega
  unfold znot at fin
  apply TX3_endPart <;> (try rw [hl]) <;> (try rw [er]) <;> (try (intros; omega))
  · intro h1 h2
    refine fin _ ?_
    rw [if_pos ⟨h1, h2⟩]
  · intro h1
    refine fin _ ?_
    rw [if_neg (by omega)]
end LC
