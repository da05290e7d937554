/-! THE LAW in the class: from left to right -/
section GO
variable {L : Int → Int} {n : Int} {u : zOne} {f : Nat} {p m : Int} {V : Int → Int} {x : Int × Int × Int} {r : List (Int × Int × Int)} {due : Bool}
theorem zgo_end (h : n ≤ p) : zgo L n u (f + 1) p due m V (x :: r) = if due = true ∨ r ≠ [] then (n, m, V, 0) else (-1, m, V, zeith x.1 x.2.1) := by
  simp only [zgo]
  rw [if_pos h]
theorem zgo_bang (h : p < n) (hL : L p = 33) : zgo L n u (f + 1) p true m V (x :: r) = if zdep (x :: r) = 30 then (p, m, V, 0) else zgo L n u f (p + 1) true m V ((x.1, x.2.1, x.2.2 + 1) :: r) := by
  simp only [zgo]
  rw [if_neg (by omega), if_pos (by trivial), if_pos hL]
theorem zgo_open (h : p < n) (hL : L p = 40) : zgo L n u (f + 1) p true m V (x :: r) = if zdep (x :: r) = 30 then (p, m, V, 0) else zgo L n u f (p + 1) true m V ((0, 1, 0) :: x :: r) := by
  simp only [zgo]
  rw [if_neg (by omega), if_pos (by trivial), if_neg (by omega), if_pos hL]
theorem zgo_bad (h : p < n) (h1 : L p ≠ 33) (h2 : L p ≠ 40) (h3 : zTest_f (zrd L p) ≠ -1) : zgo L n u (f + 1) p true m V (x :: r) = (zTest_f (zrd L p), m, V, 0) := by
  simp only [zgo]
  rw [if_neg (by omega), if_pos (by trivial), if_neg h1, if_neg h2, if_pos h3]
theorem zgo_test (h : p < n) (h1 : L p ≠ 33) (h2 : L p ≠ 40) (h3 : zTest_f (zrd L p) = -1) : zgo L n u (f + 1) p true m V (x :: r) =
    zgo L n u f (zTest_e (zrd L p)) false (m + 1) (zupd1 V m (ztv u (zTest_s (zrd L p)) (zTest_o (zrd L p)) (zTest_m (zrd L p)))) (zendp (ztv u (zTest_s (zrd L p)) (zTest_o (zrd L p)) (zTest_m (zrd L p))) x :: r) := by
  simp only [zgo]
  rw [if_neg (by omega), if_pos (by trivial), if_neg h1, if_neg h2, if_neg (by omega)]
theorem zgo_and (h : p < n) (hL : L p = 38) : zgo L n u (f + 1) p false m V (x :: r) = zgo L n u f (p + 1) true m V (x :: r) := by
  simp only [zgo]
  rw [if_neg (by omega), if_neg (by decide), if_pos hL]
theorem zgo_or (h : p < n) (hL : L p = 124) : zgo L n u (f + 1) p false m V (x :: r) = zgo L n u f (p + 1) true m V ((zeith x.1 x.2.1, 1, x.2.2) :: r) := by
  simp only [zgo]
  rw [if_neg (by omega), if_neg (by decide), if_neg (by omega), if_pos hL]
theorem zgo_close {y : Int × Int × Int} (h : p < n) (hL : L p = 41) : zgo L n u (f + 1) p false m V (x :: y :: r) = zgo L n u f (p + 1) false m V (zendp (zeith x.1 x.2.1) y :: r) := by
  simp only [zgo]
  rw [if_neg (by omega), if_neg (by decide), if_neg (by omega), if_neg (by omega), if_pos hL]
theorem zgo_no (h : p < n) (h1 : L p ≠ 38) (h2 : L p ≠ 124) (h3 : L p ≠ 41 ∨ r = []) : zgo L n u (f + 1) p false m V (x :: r) = (p, m, V, 0) := by
  simp only [zgo]
  rw [if_neg (by omega), if_neg (by decide), if_neg h1, if_neg h2]
  by_cases h4 : L p = 41
  · rw [if_pos h4]
    rcases h3 with h3 | h3
    · exact absurd h4 h3
    · rw [h3]
  · rw [if_neg h4]
end GO
theorem zrd_e {L : Int → Int} {p : Int} (h : zTest_f (zrd L p) = -1) (hp : 0 ≤ p) : p < zTest_e (zrd L p) := by
  have hb := zde_b L (p + 2)
  unfold zrd at h ⊢
  revert h
  dsimp only [zTest_f, zTest_e]
  repeat' split
  all_goals (intro h; dsimp only at h ⊢; omega)
theorem zrd_n {t : Int → Int} {n p : Int} (h : zTest_f (zrd (zlt t n) p) = -1) (hp : 0 ≤ p ∧ p < n) : zTest_e (zrd (zlt t n) p) ≤ n := by
  have hb := zde_b (zlt t n) (p + 2)
  have hd : p + 2 < zde (zlt t n) (p + 2) → zde (zlt t n) (p + 2) ≤ n := by
    intro h1
    have h2 := hb.2.2 (zde (zlt t n) (p + 2) - 1) (by omega) (by omega)
    unfold zlt at h2
    by_cases h3 : zde (zlt t n) (p + 2) - 1 < n
    · omega
    · unfold zlt at h3
      rw [if_neg h3] at h2
      omega
  unfold zrd at h ⊢
  revert h
  dsimp only [zTest_f, zTest_e]
  repeat' split
  all_goals (intro h; dsimp only at h ⊢; omega)
def zlwf (σ s : zS) : Prop := ∀ q j, q ≠ 48 → q ≠ 49 → q ≠ 50 → ¬ (q = 47 ∧ 7 ≤ j ∧ j ≤ 13) → s q j = σ q j
theorem zlwf_up {σ s : zS} {q : Nat} {j v : Int} (h : zlwf σ s) (hq : q = 48 ∨ q = 49 ∨ q = 50 ∨ (q = 47 ∧ 7 ≤ j ∧ j ≤ 13)) : zlwf σ (zup s q j v) := by
  intro q' j' a b c d
  rw [← h q' j' a b c d]
  unfold zup
  rw [if_neg]
  rintro ⟨rfl, rfl⟩
  omega
def zlw (s : zS) (wt p : Int) (due : Bool) (m : Int) (V : Int → Int) (lv : List (Int × Int × Int)) : Prop :=
  (s 47 7 = lv.length - 1 ∧ s 47 8 = zdep lv) ∧ (zdep lv ≤ 30 ∧ znn lv) ∧ (due = true → s 47 9 = 1) ∧ (due = false → s 47 9 = 0) ∧ (s 47 10 = m ∧ 0 ≤ m ∧ m ≤ p) ∧ (s 47 13 = -1 ∧ s 47 11 = wt) ∧
  (s 47 12 = if 0 ≤ wt ∧ wt < m then V wt else -1) ∧ zlvs (s 48) (s 49) (s 50) lv
def zlwr (s : zS) (wt : Int) (R : zRes) : Prop := s 47 13 = zRes_f R ∧ (zRes_f R = -1 → s 47 12 = if 0 ≤ wt ∧ wt < zRes_m R then zRes_V R wt else -1)
def zalvC (σ : zS) (w a k : Int) : Prop := σ 23 w ≤ a ∧ ¬ (σ 27 w ≠ -1 ∧ σ 27 w ≤ k ∧ σ 26 w ≤ a)
theorem zlvs_top {O A N : Int → Int} {x : Int × Int × Int} {r : List (Int × Int × Int)} {O' A' N' : Int → Int} {y : Int × Int × Int} (h : zlvs O A N (x :: r)) (h1 : O' r.length = y.1) (h2 : A' r.length = y.2.1) (h3 : N' r.length = y.2.2)
    (h4 : ∀ i : Int, 0 ≤ i → i < r.length → O' i = O i ∧ A' i = A i ∧ N' i = N i) : zlvs O' A' N' (y :: r) := ⟨⟨h1, h2, h3⟩, zlvs_eq h4 h.2⟩
theorem zlw_bang {s : zS} {wt p m : Int} {V : Int → Int} {x : Int × Int × Int} {r : List (Int × Int × Int)} {l : Int} (hl : l = r.length) (h : zlw s wt p true m V (x :: r)) (hd : zdep (x :: r) ≠ 30) :
    zlw (zup (zup s 47 8 (s 47 8 + 1)) 50 l (s 50 l + 1)) wt (p + 1) true m V ((x.1, x.2.1, x.2.2 + 1) :: r) := by
  obtain ⟨⟨l1, l2⟩, ⟨l3, l4⟩, l5, l6, ⟨l7, l8, l9⟩, ⟨l10, l11⟩, l12, l13⟩ := h
  have e1 : zdep ((x.1, x.2.1, x.2.2 + 1) :: r) = zdep (x :: r) + 1 := by simp only [zdep]; omega
  have hv := l13.1
  subst hl
  refine ⟨⟨by simp [zup, l1], by simp [zup, l2, e1]⟩, ⟨by omega, by simp only [znn]; exact ⟨by have := l4.1; omega, l4.2⟩⟩, fun _ => by simp [zup, l5 rfl], (by intro z; cases z), ⟨by simp [zup, l7], l8, by omega⟩, ⟨by simp [zup, l10], by simp [zup, l11]⟩, by simp [zup, l12], ?_⟩
  refine zlvs_top l13 ?_ ?_ ?_ (fun i a b => ⟨?_, ?_, ?_⟩)
  · simp [zup, hv]
  · simp [zup, hv]
  · simp [zup, hv]
  · simp [zup]
  · simp [zup]
  · simp [zup]; omega
theorem zlw_open {s : zS} {wt p m : Int} {V : Int → Int} {x : Int × Int × Int} {r : List (Int × Int × Int)} {l : Int} (hl : l = r.length + 1) (h : zlw s wt p true m V (x :: r)) (hd : zdep (x :: r) ≠ 30) :
    zlw (zup (zup (zup (zup (zup (zup s 47 8 (s 47 8 + 1)) 47 7 (s 47 7 + 1)) 48 l 0) 49 l 1) 50 l 0) 47 9 1) wt (p + 1) true m V ((0, 1, 0) :: x :: r) := by
  obtain ⟨⟨l1, l2⟩, ⟨l3, l4⟩, l5, l6, ⟨l7, l8, l9⟩, ⟨l10, l11⟩, l12, l13⟩ := h
  have e1 : zdep ((0, 1, 0) :: x :: r) = zdep (x :: r) + 1 := by simp only [zdep]; omega
  simp only [List.length_cons] at l1
  subst hl
  refine ⟨⟨by simp [zup, l1], by simp [zup, l2, e1]⟩, ⟨by omega, ⟨by decide, l4⟩⟩, fun _ => by simp [zup], (by intro z; cases z), ⟨by simp [zup, l7], l8, by omega⟩, ⟨by simp [zup, l10], by simp [zup, l11]⟩, by simp [zup, l12], ?_⟩
  refine ⟨⟨?_, ?_, ?_⟩, zlvs_eq (fun i a b => ⟨?_, ?_, ?_⟩) l13⟩
  · simp [zup]
  · simp [zup]
  · simp [zup]
  · simp only [List.length_cons] at b; simp [zup]; omega
  · simp only [List.length_cons] at b; simp [zup]; omega
  · simp only [List.length_cons] at b; simp [zup]; omega
/-- a part of this value has ended on this level, which may be the one below -/
theorem zlw_part {s : zS} {wt p' m' : Int} {V' : Int → Int} {x : Int × Int × Int} {r : List (Int × Int × Int)} {l v : Int} (hl : l = r.length) (h1 : s 47 7 = l) (h2 : s 47 8 = zdep (x :: r)) (h3 : zdep (x :: r) ≤ 31) (h4 : znn (x :: r)) (h5 : s 47 10 = m' ∧ 0 ≤ m' ∧ m' ≤ p')
    (h6 : s 47 13 = -1 ∧ s 47 11 = wt) (h7 : s 47 12 = if 0 ≤ wt ∧ wt < m' then V' wt else -1) (h8 : zlvs (s 48) (s 49) (s 50) (x :: r)) (h9 : zdep r + 1 ≤ 30) :
    zlw (zup (zup (zup (zup s 47 8 (s 47 8 - s 50 l)) 50 l 0) 49 l (zboth (s 49 l) (znot (s 50 l) v))) 47 9 0) wt p' false m' V' (zendp v x :: r) := by
  have e1 : zdep (zendp v x :: r) = zdep (x :: r) - x.2.2 := by simp only [zdep, zendp]; omega
  have e2 : zdep (x :: r) - x.2.2 = zdep r + 1 := by simp only [zdep]; omega
  have hv := h8.1
  subst hl
  refine ⟨⟨by simp [zup, h1], by simp [zup, h2, e1, hv]⟩, ⟨by omega, ⟨by simp [zendp], h4.2⟩⟩, (by intro z; cases z), fun _ => by simp [zup], ⟨by simp [zup, h5.1], h5.2.1, h5.2.2⟩, ⟨by simp [zup, h6.1], by simp [zup, h6.2]⟩, by simp [zup, h7], ?_⟩
  refine zlvs_top h8 ?_ ?_ ?_ (fun i a b => ⟨?_, ?_, ?_⟩)
  · simp [zup, hv, zendp]
  · simp [zup, hv, zendp]
  · simp [zup, zendp]
  · simp [zup]
  · simp [zup]; omega
  · simp [zup]; omega
theorem okX3_weigh_fault {G : zG} {s : zS} {Q : Int → zS → Prop} {who which a k wt p c : Int} (h : s 47 13 ≠ -1) (kq : Q 3 s) : zR G MX3_weigh 46 [zr 47, zi who, zi which, zi a, zi k, zi wt, zi p, zi c] [] s Q := by
  apply TX3_weigh_46 <;> (try (intros; omega)) <;> (try (intros; exact kq))
/-- values of all levels -/
def zvv : List (Int × Int × Int) → Prop
  | [] => True
  | x :: r => (zv3 x.1 ∧ zv3 x.2.1) ∧ zvv r
theorem zeith_3 {a b : Int} (ha : zv3 a) (hb : zv3 b) : zv3 (zeith a b) := by
  unfold zv3 at *
  unfold zeith
  repeat' split
  all_goals omega
theorem zboth_3 {a b : Int} (ha : zv3 a) (hb : zv3 b) : zv3 (zboth a b) := by
  unfold zv3 at *
  unfold zboth
  repeat' split
  all_goals omega
theorem znot_3 {k b : Int} (hb : zv3 b) : zv3 (znot k b) := by
  unfold zv3 at *
  unfold znot
  repeat' split
  all_goals omega
theorem zendp_3 {v : Int} {x : Int × Int × Int} {r : List (Int × Int × Int)} (hv : zv3 v) (h : zvv (x :: r)) : zvv (zendp v x :: r) := ⟨⟨h.1.1, zboth_3 h.1.2 (znot_3 hv)⟩, h.2⟩
section WE
variable {G : zG} {σ : zS} {Q : Int → zS → Prop} {t : Int → Int} {n : Int}
theorem okX3_weigh_loop {who which a k wt : Int} (ht : zpar σ t n) (hw : who = -1 ∨ (0 ≤ who ∧ who < 24)) : ∀ (f : Nat) (p : Int) (due : Bool) (m : Int) (V : Int → Int) (x : Int × Int × Int) (r : List (Int × Int × Int)) (s : zS) (c : Int),
    n - p < f → (0 ≤ p ∧ p ≤ n ∧ 0 ≤ c ∧ c ≤ p) → zlwf σ s → zlw s wt p due m V (x :: r) → (due = false → x.2.2 = 0) → zvv (x :: r) →
    (∀ (s' : zS) (v : Int), zlwf σ s' → zlwr s' wt (zgo (zlt t n) n (zoneC σ) f p due m V (x :: r)) →
      ((zRes_f (zgo (zlt t n) n (zoneC σ) f p due m V (x :: r)) ≠ -1 ∧ v = 3) ∨ (zRes_f (zgo (zlt t n) n (zoneC σ) f p due m V (x :: r)) = -1 ∧ ((who ≠ -1 ∧ zalvC σ who a k ∧ v = zRes_x (zgo (zlt t n) n (zoneC σ) f p due m V (x :: r))) ∨ ((who = -1 ∨ ¬ zalvC σ who a k) ∧ v = 0)))) → Q v s') →
    zR G MX3_weigh 46 [zr 47, zi who, zi which, zi a, zi k, zi wt, zi p, zi c] [] s Q := by
  intro f
  induction f with
  | zero =>
    intro p due m V x r s c hf hp hfr hz hx0 hvv kq
    obtain ⟨⟨l1, l2⟩, ⟨l3, l4⟩, l5, l6, ⟨l7, l8, l9⟩, ⟨l10, l11⟩, l12, l13⟩ := hz
    have e35 : s 35 12 = n := (hfr _ _ (by decide) (by decide) (by decide) (fun z => absurd z.1 (by decide))).trans ht.2.1
    have := ht.1
    omega
  | succ f ih =>
    intro p due m V x r s c hf hp hfr hz hx0 hvv kq
    have e35 : s 35 12 = n := (hfr _ _ (by decide) (by decide) (by decide) (fun z => absurd z.1 (by decide))).trans ht.2.1
    have e46 : s 46 = σ 46 := funext fun j => hfr _ _ (by decide) (by decide) (by decide) (fun z => absurd z.1 (by decide))
    have hpar : zpar s t n := ⟨ht.1, e35, by rw [e46]; exact ht.2.2⟩
    have hone : zoneC s = zoneC σ := by
      have g : ∀ q j, q ≠ 48 → q ≠ 49 → q ≠ 50 → ¬ (q = 47 ∧ 7 ≤ j ∧ j ≤ 13) → s q j = σ q j := hfr
      unfold zoneC
      rw [g 47 6 (by decide) (by decide) (by decide) (fun z => absurd z.2.1 (by decide)), g 51 0 (by decide) (by decide) (by decide) (fun z => absurd z.1 (by decide)), g 51 1 (by decide) (by decide) (by decide) (fun z => absurd z.1 (by decide)),
        g 51 2 (by decide) (by decide) (by decide) (fun z => absurd z.1 (by decide)), g 51 3 (by decide) (by decide) (by decide) (fun z => absurd z.1 (by decide)), g 22 15 (by decide) (by decide) (by decide) (fun z => absurd z.1 (by decide)), g 22 16 (by decide) (by decide) (by decide) (fun z => absurd z.1 (by decide))]
    have hn := ht.1
    obtain ⟨⟨l1, l2⟩, ⟨l3, l4⟩, l5, l6, ⟨l7, l8, l9⟩, ⟨l10, l11⟩, l12, l13⟩ := hz
    have hdep := zdep_b l4
    simp only [List.length_cons] at hdep l1
    by_cases hpn : n ≤ p
    · rw [zgo_end hpn] at kq
      by_cases hbad : due = true ∨ r ≠ []
      · rw [if_pos hbad] at kq
        have hbad2 : s 47 9 ≠ 0 ∨ (s 47 9 = 0 ∧ 0 < s 47 7) := by
          rcases hbad with h | h
          · rw [l5 h]; omega
          · rw [l1]
            cases r with
            | nil => exact absurd rfl h
            | cons y r' =>
              simp only [List.length_cons]
              cases due
              · rw [l6 rfl]; omega
              · rw [l5 rfl]; omega
        apply TX3_weigh_46 <;> (try rw [e35]) <;> (try (intros; omega))
        intro _ _ _ _
        refine kq _ 3 (zlwf_up hfr (by omega)) ⟨zup_same, fun h => ?_⟩ (Or.inl ⟨?_, rfl⟩)
        · dsimp only [zRes_f] at h
          omega
        · dsimp only [zRes_f]
          omega
      · rw [if_neg hbad] at kq
        have hd : due = false := by
          cases due
          · rfl
          · exact absurd (Or.inl rfl) hbad
        have hr : r = [] := by
          cases r with
          | nil => rfl
          | cons y r' => exact absurd (Or.inr (by simp)) hbad
        subst hr
        have h9 := l6 hd
        simp only [List.length_nil] at l1
        have hres : zlwr s wt (-1, m, V, zeith x.1 x.2.1) := ⟨l10, fun _ => l12⟩
        obtain ⟨⟨v1, v2, v3⟩, -⟩ := l13
        simp only [List.length_nil] at v1 v2
        have g : ∀ q j, q ≠ 48 → q ≠ 49 → q ≠ 50 → ¬ (q = 47 ∧ 7 ≤ j ∧ j ≤ 13) → s q j = σ q j := hfr
        have g1 : ∀ w, s 23 w = σ 23 w := fun w => g _ _ (by decide) (by decide) (by decide) (fun z => absurd z.1 (by decide))
        have g2 : ∀ w, s 27 w = σ 27 w := fun w => g _ _ (by decide) (by decide) (by decide) (fun z => absurd z.1 (by decide))
        have g3 : ∀ w, s 26 w = σ 26 w := fun w => g _ _ (by decide) (by decide) (by decide) (fun z => absurd z.1 (by decide))
        have kalive : who ≠ -1 → zalvC σ who a k → zR G MX3_weigh 208 [zr 47, zi who, zi which, zi a, zi k, zi wt, zi p, zi c] [zi 1] s Q := by
          intro h1 h2
          refine TX3_weigh_208 (fun _ => ?_) (by intros; omega)
          rw [show s 48 0 = x.1 from v1, show s 49 0 = x.2.1 from v2]
          have key : ∀ v : Int, v = zeith x.1 x.2.1 → zR G MX3_weigh 226 [zr 47, zi who, zi which, zi a, zi k, zi wt, zi p, zi c] [zi v] s Q := by
            intro v hv
            exact TX3_weigh_226 (kq s v hfr hres (Or.inr ⟨rfl, Or.inl ⟨h1, h2, hv⟩⟩))
          unfold zeith at key
          apply TX3_either <;> intros <;> apply key <;> (repeat' split) <;> omega
        have kdead : ¬ zalvC σ who a k → zR G MX3_weigh 208 [zr 47, zi who, zi which, zi a, zi k, zi wt, zi p, zi c] [zi 0] s Q := by
          intro h2
          exact TX3_weigh_208 (fun z => absurd rfl z) (fun _ => kq s 0 hfr hres (Or.inr ⟨rfl, Or.inr ⟨Or.inr h2, rfl⟩⟩))
        apply TX3_weigh_46 <;> (try rw [e35]) <;> (try (intros; omega))
        · intro _ _ _ h1
          unfold zalvC at kalive kdead
          rw [← g1, ← g2, ← g3] at kalive kdead
          apply TX5_isAlive <;> (try (intros; omega))
          · intro h2 h3
            exact kalive h1 (by omega)
          · intro h2 h3 h4 h5
            exact kdead (by omega)
          · intro h2 h3
            exact kdead (by omega)
        · intro _ _ _ h1
          exact kq s 0 hfr hres (Or.inr ⟨rfl, Or.inr ⟨Or.inl h1, rfl⟩⟩)
    · have hpn2 : p < n := by omega
      have hcl : zlt t n p = s 46 p := by
        unfold zlt
        rw [if_pos hpn2, hpar.2.2 p hp.1 hpn2]
      have lz : zlw s wt p due m V (x :: r) := ⟨⟨by simp only [List.length_cons]; exact l1, l2⟩, ⟨l3, l4⟩, l5, l6, ⟨l7, l8, l9⟩, ⟨l10, l11⟩, l12, l13⟩
      have hl : s 47 7 = r.length := by omega
      have kflt : ∀ (s' : zS) (p' c' F : Int), zlwf σ s' → s' 47 13 = F → F ≠ -1 → zgo (zlt t n) n (zoneC σ) (f + 1) p due m V (x :: r) = (F, m, V, 0) → zR G MX3_weigh 46 [zr 47, zi who, zi which, zi a, zi k, zi wt, zi p', zi c'] [] s' Q := by
        intro s' p' c' F h1 h2 h3 h4
        rw [h4] at kq
        exact okX3_weigh_fault (by omega) (kq s' 3 h1 ⟨h2, fun z => absurd z h3⟩ (Or.inl ⟨h3, rfl⟩))
      cases due with
      | true =>
        have h9 := l5 rfl
        by_cases hb1 : zlt t n p = 33
        · by_cases hd : zdep (x :: r) = 30
          · apply TX3_weigh_46 <;> (try rw [e35]) <;> (try (intros; omega))
            intro _ _ _ _ _
            apply TX3_readOpening <;> (try (intros; omega))
            intro _
            apply TX3_weigh_132 <;> (try (intros; omega))
            exact kflt _ _ _ p (zlwf_up hfr (by omega)) zup_same (by omega) (by rw [zgo_bang hpn2 hb1, if_pos hd])
          · rw [zgo_bang hpn2 hb1, if_neg hd] at kq
            have hnl : s 50 r.length = x.2.2 := l13.1.2.2
            have hxn := l4.1
            have hdx : x.2.2 ≤ zdep (x :: r) := by have := zdep_b l4.2; simp only [zdep]; omega
            apply TX3_weigh_46 <;> (try rw [e35]) <;> (try (intros; omega))
            intro _ _ _ _ _
            apply TX3_readOpening <;> (try rw [hl]) <;> (try rw [hnl]) <;> (try (intros; omega))
            intro _ _
            apply TX3_weigh_132 <;> (try (intros; omega))
            have := zlw_bang (l := r.length) rfl lz hd
            rw [hnl] at this
            exact ih _ _ _ _ _ _ _ _ (by omega) (by omega) (zlwf_up (zlwf_up hfr (by omega)) (by omega)) this (by intro z; cases z) ⟨hvv.1, hvv.2⟩ kq
        · by_cases hb2 : zlt t n p = 40
          · by_cases hd : zdep (x :: r) = 30
            · apply TX3_weigh_46 <;> (try rw [e35]) <;> (try (intros; omega))
              intro _ _ _ _ _
              apply TX3_readOpening <;> (try (intros; omega))
              intro _
              apply TX3_weigh_132 <;> (try (intros; omega))
              exact kflt _ _ _ p (zlwf_up hfr (by omega)) zup_same (by omega) (by rw [zgo_open hpn2 hb2, if_pos hd])
            · rw [zgo_open hpn2 hb2, if_neg hd] at kq
              have e7 : (zup (zup s 47 8 (s 47 8 + 1)) 47 7 (s 47 7 + 1)) 47 7 = r.length + 1 := by rw [zup_same, hl]
              apply TX3_weigh_46 <;> (try rw [e35]) <;> (try (intros; omega))
              intro _ _ _ _ _
              apply TX3_readOpening <;> (try rw [e7]) <;> (try (intros; omega))
              intro _ _
              apply TX3_weigh_132 <;> (try (intros; omega))
              exact ih _ _ _ _ _ _ _ _ (by omega) (by omega) (zlwf_up (zlwf_up (zlwf_up (zlwf_up (zlwf_up (zlwf_up hfr (by omega)) (by omega)) (by omega)) (by omega)) (by omega)) (by omega)) (zlw_open rfl lz hd) (by intro z; cases z) ⟨⟨Or.inl rfl, Or.inr (Or.inl rfl)⟩, hvv⟩ kq
          · have hd30 : zdep r + 1 ≤ 30 := by
              have h4 := l4.1
              simp only [zdep] at l3
              omega
            have hnl : s 50 r.length = x.2.2 := l13.1.2.2
            have hxn := l4.1
            have hdx : x.2.2 ≤ zdep (x :: r) := by have := zdep_b l4.2; simp only [zdep]; omega
            apply TX3_weigh_46 <;> (try rw [e35]) <;> (try (intros; omega))
            intro _ _ _ _ _ _
            refine TX3_readTest (okX3_endOfTest hpar ⟨hp.1, hpn2⟩ (fun hT => ?_) (fun hT rr => ?_))
            · have he1 := zrd_e hT hp.1
              have he2 := zrd_n hT ⟨hp.1, hpn2⟩
              rw [zgo_test hpn2 hb1 hb2 hT] at kq
              refine TX3_readTest_5 (fun _ => okX3_valueOfTest hpar ⟨hp.1, hpn2⟩ hT ?_) (fun z => absurd l10 z)
              have hv3 := ztv_3 (zoneC s) (zTest_s (zrd (zlt t n) p)) (zTest_o (zrd (zlt t n) p)) (zTest_m (zrd (zlt t n) p))
              rw [hone] at hv3 ⊢
              generalize ztv (zoneC σ) (zTest_s (zrd (zlt t n) p)) (zTest_o (zrd (zlt t n) p)) (zTest_m (zrd (zlt t n) p)) = v at hv3 kq ⊢
              have part : ∀ s' : zS, zlwf σ s' → s' 47 7 = r.length → s' 47 8 = zdep (x :: r) → (s' 47 10 = m + 1) → (s' 47 13 = -1 ∧ s' 47 11 = wt) → (s' 47 12 = if 0 ≤ wt ∧ wt < m + 1 then zupd1 V m v wt else -1) → zlvs (s' 48) (s' 49) (s' 50) (x :: r) →
                  zO G MX3_endPart [zr 47, zi v] s' (fun rr σ' => zR G MX3_readTest 52 [zr 47, zi p, zi (zTest_e (zrd (zlt t n) p)), zi v] [] σ' (fun rr σ' => zR G MX3_weigh 141 [zr 47, zi who, zi which, zi a, zi k, zi wt, zi p, zi c] [zi rr] σ' Q)) := by
                intro s' q0 q1 q2 q3 q4 q5 q6
                have hnl' : s' 50 r.length = x.2.2 := q6.1.2.2
                refine okX3_endPart q1 (by omega) (by rw [hnl']; omega) (by omega) hv3 (TX3_readTest_52 ?_)
                apply TX3_weigh_141 <;> (try (intros; omega))
                refine ih _ _ _ _ _ _ _ _ (by omega) (by omega) ?_ (zlw_part rfl q1 q2 (by omega) l4 ⟨q3, by omega, by omega⟩ q4 q5 q6 hd30) (fun _ => rfl) (zendp_3 hv3 hvv) kq
                exact zlwf_up (zlwf_up (zlwf_up (zlwf_up q0 (by omega)) (by omega)) (by omega)) (by omega)
              refine TX3_readTest_20 (by intros; omega) (fun h => ?_) (by intros; omega) (fun h => ?_)
              · refine part _ (zlwf_up hfr (by omega)) (by simp [zup, hl]) (by simp [zup, l2]) (by simp [zup, l7]) ⟨by simp [zup, l10], by simp [zup, l11]⟩ ?_ (zlvs_eq (fun i _ _ => ⟨rfl, rfl, rfl⟩) l13)
                have : m ≠ wt := by omega
                rw [zup_oi (by decide), l12]
                unfold zupd1
                by_cases h0 : 0 ≤ wt ∧ wt < m
                · rw [if_pos h0, if_pos (by omega), if_neg (by omega)]
                · rw [if_neg h0, if_neg (by omega)]
              · refine part _ (zlwf_up (zlwf_up hfr (by omega)) (by omega)) (by simp [zup, hl]) (by simp [zup, l2]) (by simp [zup, l7]) ⟨by simp [zup, l10], by simp [zup, l11]⟩ ?_ (zlvs_eq (fun i _ _ => ⟨rfl, rfl, rfl⟩) l13)
                have : m = wt := by omega
                rw [zup_oi (by decide), zup_same]
                unfold zupd1
                rw [if_pos (by omega), if_pos (by omega)]
            · apply TX3_readTest_5
              · intro h
                rw [zup_same] at h
                exact absurd h hT
              · intro _
                apply TX3_weigh_141 <;> (try (intros; omega))
                exact kflt _ _ _ (zTest_f (zrd (zlt t n) p)) (zlwf_up hfr (by omega)) zup_same hT (zgo_bad hpn2 hb1 hb2 hT)
      | false =>
        have h9 := l6 rfl
        by_cases hb1 : zlt t n p = 38
        · rw [zgo_and hpn2 hb1] at kq
          apply TX3_weigh_46 <;> (try rw [e35]) <;> (try (intros; omega))
          intro _ _ _ _
          apply TX3_readJoint <;> (try (intros; omega))
          intro _
          apply TX3_weigh_91 <;> (try (intros; omega))
          refine ih _ _ _ _ _ _ _ _ (by omega) (by omega) (zlwf_up hfr (by omega)) ?_ (by intro z; cases z) hvv kq
          exact ⟨⟨by simp [zup, lz.1.1], by simp [zup, l2]⟩, ⟨l3, l4⟩, fun _ => zup_same, (by intro z; cases z), ⟨by simp [zup, l7], by omega, by omega⟩, ⟨by simp [zup, l10], by simp [zup, l11]⟩, by simp [zup, l12], zlvs_eq (fun i _ _ => ⟨rfl, rfl, rfl⟩) l13⟩
        · have eith : ∀ (M : zM) (P : Int → Prop), P (zeith x.1 x.2.1) → ∀ (Q' : Int → zS → Prop), (∀ v, P v → Q' v s) → zO G MX3_either [zi x.1, zi x.2.1] s Q' := by
            intro M P h1 Q' h2
            have key : ∀ v : Int, v = zeith x.1 x.2.1 → Q' v s := fun v hv => h2 v (by rw [hv]; exact h1)
            unfold zeith at key
            apply TX3_either <;> intros <;> apply key <;> (repeat' split) <;> omega
          have v1 : s 48 r.length = x.1 := l13.1.1
          have v2 : s 49 r.length = x.2.1 := l13.1.2.1
          by_cases hb2 : zlt t n p = 124
          · rw [zgo_or hpn2 hb2] at kq
            apply TX3_weigh_46 <;> (try rw [e35]) <;> (try (intros; omega))
            intro _ _ _ _
            apply TX3_readJoint <;> (try rw [hl]) <;> (try rw [v1]) <;> (try rw [v2]) <;> (try (intros; omega))
            intro _ _
            refine eith MX3_readJoint (fun v => v = zeith x.1 x.2.1) rfl _ (fun v hv => ?_)
            subst hv
            apply TX3_readJoint_59 <;> (try rw [hl]) <;> (try (intros; omega))
            apply TX3_weigh_91 <;> (try (intros; omega))
            refine ih _ _ _ _ _ _ _ _ (by omega) (by omega) (zlwf_up (zlwf_up (zlwf_up hfr (by omega)) (by omega)) (by omega)) ?_ (by intro z; cases z) ⟨⟨zeith_3 hvv.1.1 hvv.1.2, Or.inr (Or.inl rfl)⟩, hvv.2⟩ kq
            refine ⟨⟨by simp [zup, hl], by simp [zup, l2, zdep]⟩, ⟨by simp only [zdep] at l3 ⊢; omega, l4⟩, fun _ => zup_same, (by intro z; cases z), ⟨by simp [zup, l7], by omega, by omega⟩, ⟨by simp [zup, l10], by simp [zup, l11]⟩, by simp [zup, l12], ?_⟩
            refine zlvs_top l13 (by simp [zup]) (by simp [zup]) (by simp [zup, l13.1.2.2]) (fun i _ _ => ⟨?_, ?_, by simp [zup]⟩)
            · simp [zup]; omega
            · simp [zup]; omega
          · by_cases hb3 : zlt t n p = 41 ∧ r ≠ []
            · cases r with
              | nil => exact absurd rfl hb3.2
              | cons y r' =>
                rw [zgo_close hpn2 hb3.1] at kq
                simp only [List.length_cons] at hl v1 v2
                rw [show ((r'.length + 1 : Nat) : Int) = r'.length + 1 from by omega] at hl v1 v2
                have y4 := l4.2.1
                have x4 := l4.1
                have hdr := zdep_b l4.2.2
                have hvy := l13.2.1
                have e3 : zdep (x :: y :: r') = zdep (y :: r') + 1 + x.2.2 := rfl
                have e4 : zdep (y :: r') = zdep r' + 1 + y.2.2 := rfl
                have x0 : x.2.2 = 0 := hx0 rfl
                apply TX3_weigh_46 <;> (try rw [e35]) <;> (try (intros; omega))
                intro _ _ _ _
                apply TX3_readJoint <;> (try rw [hl]) <;> (try rw [v1]) <;> (try rw [v2]) <;> (try (intros; omega))
                intro _ _ _ _
                refine eith MX3_readJoint (fun v => v = zeith x.1 x.2.1) rfl _ (fun v hv => ?_)
                have hv3 : zv3 v := by rw [hv]; exact zeith_3 hvv.1.1 hvv.1.2
                rw [← hv] at kq
                have q1 : (zup (zup s 47 7 (r'.length + 1 - 1)) 47 8 (s 47 8 - 1)) 47 7 = r'.length := by simp [zup]
                have q2 : (zup (zup s 47 7 (r'.length + 1 - 1)) 47 8 (s 47 8 - 1)) 47 8 = zdep (y :: r') := by simp [zup]; omega
                have q6 : (zup (zup s 47 7 (r'.length + 1 - 1)) 47 8 (s 47 8 - 1)) 50 r'.length = y.2.2 := by simp [zup]; exact hvy.2.2
                have q0 : zlwf σ (zup (zup s 47 7 (r'.length + 1 - 1)) 47 8 (s 47 8 - 1)) := zlwf_up (zlwf_up hfr (by omega)) (by omega)
                apply TX3_readJoint_112 <;> (try rw [hl]) <;> (try (intros; omega))
                refine okX3_endPart q1 (by omega) (by rw [q6]; omega) (by rw [q2]; omega) hv3 ?_
                apply TX3_readJoint_138 <;> (try (intros; omega))
                apply TX3_weigh_91 <;> (try (intros; omega))
                refine ih _ _ _ _ _ _ _ _ (by omega) (by omega) (zlwf_up (zlwf_up (zlwf_up (zlwf_up q0 (by omega)) (by omega)) (by omega)) (by omega))
                  (zlw_part rfl q1 q2 (by omega) l4.2 ⟨by simp [zup, l7], by omega, by omega⟩ ⟨by simp [zup, l10], by simp [zup, l11]⟩ (by simp [zup, l12]) (zlvs_eq (fun i _ _ => ⟨rfl, rfl, rfl⟩) l13.2) (by omega)) (fun _ => rfl) (zendp_3 hv3 hvv.2) kq
            · have hrr : zlt t n p ≠ 41 ∨ r = [] := by
                by_cases h4 : zlt t n p = 41
                · right
                  cases r with
                  | nil => rfl
                  | cons y r' => exact absurd ⟨h4, by simp⟩ hb3
                · exact Or.inl h4
              have hlv : zlt t n p ≠ 41 ∨ (zlt t n p = 41 ∧ s 47 7 ≤ 0) := by
                rcases hrr with h4 | h4
                · exact Or.inl h4
                · subst h4
                  simp only [List.length_nil] at hl
                  omega
              apply TX3_weigh_46 <;> (try rw [e35]) <;> (try (intros; omega))
              intro _ _ _ _
              apply TX3_readJoint <;> (try (intros; omega))
              intro _ _ _
              apply TX3_weigh_91 <;> (try (intros; omega))
              exact kflt _ _ _ p (zlwf_up hfr (by omega)) zup_same (by omega) (zgo_no hpn2 hb1 hb2 hrr)
end WE
