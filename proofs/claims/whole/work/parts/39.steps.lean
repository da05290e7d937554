/-! STEPS AND OPERATORS: what the model's rows mean -/
/-- a stack in a row: its top stands last -/
def zstk (f : Int → Int) : List Int → Prop
  | [] => True
  | a :: r => f r.length = a ∧ zstk f r
theorem zstk_eq {f g : Int → Int} : ∀ {l : List Int}, (∀ i : Int, 0 ≤ i → i < l.length → g i = f i) → zstk f l → zstk g l := by
  intro l
  induction l with
  | nil => intro _ _; trivial
  | cons a r ih =>
    intro h hz
    have h1 := h r.length (by omega) (by simp only [List.length_cons]; omega)
    exact ⟨by rw [h1]; exact hz.1, ih (fun i a b => h i a (by simp only [List.length_cons]; omega)) hz.2⟩
def znt (a : Int) : Int := if a = 2 then 2 else 1 - a
/-- a step of the run: tests done, the stack -/
def zex1 (V : Int → Int) (c : Int) (q : Int × List Int) : Option (Int × List Int) :=
  if 0 ≤ c then (if c = q.1 then some (q.1 + 1, V c :: q.2) else none)
  else if c = -1 then (match q.2 with | a :: r => some (q.1, znt a :: r) | [] => none)
  else (match q.2 with | b :: a :: r => some (q.1, (if c = -2 then zboth a b else zeith a b) :: r) | _ => none)
/-- steps, the last of them first -/
def zex (V : Int → Int) : List Int → Option (Int × List Int)
  | [] => some (0, [])
  | c :: rc => (zex V rc).bind (zex1 V c)
theorem zex_test {V : Int → Int} {rc : List Int} {m : Int} {st : List Int} (h : zex V rc = some (m, st)) (hm : 0 ≤ m) : zex V (m :: rc) = some (m + 1, V m :: st) := by
  simp only [zex, h, Option.bind_some, zex1, if_pos hm, if_true]
theorem zex_not {V : Int → Int} {rc : List Int} {m a : Int} {st : List Int} (h : zex V rc = some (m, a :: st)) : zex V (-1 :: rc) = some (m, znt a :: st) := by
  simp only [zex, h, Option.bind_some, zex1]
  rfl
theorem zex_and {V : Int → Int} {rc : List Int} {m a b : Int} {st : List Int} (h : zex V rc = some (m, b :: a :: st)) : zex V (-2 :: rc) = some (m, zboth a b :: st) := by
  simp only [zex, h, Option.bind_some, zex1]
  rfl
theorem zex_or {V : Int → Int} {rc : List Int} {m a b : Int} {st : List Int} (h : zex V rc = some (m, b :: a :: st)) : zex V (-3 :: rc) = some (m, zeith a b :: st) := by
  simp only [zex, h, Option.bind_some, zex1]
  rfl
/-- what a step may be -/
theorem zex_inv {V : Int → Int} {c : Int} {rc : List Int} {m : Int} {st : List Int} (h : zex V (c :: rc) = some (m, st)) :
    (0 ≤ c ∧ m = c + 1 ∧ ∃ r, zex V rc = some (c, r) ∧ st = V c :: r) ∨ (c = -1 ∧ ∃ a r, zex V rc = some (m, a :: r) ∧ st = znt a :: r) ∨
    ((c < 0 ∧ c ≠ -1) ∧ ∃ b a r, zex V rc = some (m, b :: a :: r) ∧ st = (if c = -2 then zboth a b else zeith a b) :: r) := by
  simp only [zex] at h
  cases hz : zex V rc with
  | none => rw [hz] at h; cases h
  | some q =>
    obtain ⟨m0, r⟩ := q
    rw [hz, Option.bind_some] at h
    unfold zex1 at h
    by_cases c0 : 0 ≤ c
    · rw [if_pos c0] at h
      by_cases c1 : c = m0
      · rw [if_pos c1] at h
        cases h
        exact Or.inl ⟨c0, by dsimp only at c1 ⊢; omega, r, by rw [c1], rfl⟩
      · rw [if_neg c1] at h
        cases h
    · rw [if_neg c0] at h
      by_cases c1 : c = -1
      · rw [if_pos c1] at h
        cases r with
        | nil => cases h
        | cons a r =>
          cases h
          exact Or.inr (Or.inl ⟨c1, a, r, rfl, rfl⟩)
      · rw [if_neg c1] at h
        cases r with
        | nil => cases h
        | cons b r =>
          cases r with
          | nil => cases h
          | cons a r =>
            cases h
            exact Or.inr (Or.inr ⟨⟨by omega, c1⟩, b, a, r, rfl, rfl⟩)
theorem zex_b {V : Int → Int} : ∀ {rc : List Int} {m : Int} {st : List Int}, zex V rc = some (m, st) → 0 ≤ m ∧ (st.length : Int) ≤ m := by
  intro rc
  induction rc with
  | nil => intro m st h; cases h; exact ⟨by omega, by simp⟩
  | cons c rc ih =>
    intro m st h
    rcases zex_inv h with ⟨a, b, r, c1, d⟩ | ⟨a, b, r, c1, d⟩ | ⟨a, b, b2, r, c1, d⟩
    · have := ih c1
      rw [d, List.length_cons]
      omega
    · have := ih c1
      rw [d]
      simp only [List.length_cons] at this ⊢
      omega
    · have := ih c1
      rw [d]
      simp only [List.length_cons] at this ⊢
      omega
theorem zex_3 {V : Int → Int} (hV : ∀ i, zv3 (V i)) : ∀ {rc : List Int} {m : Int} {st : List Int}, zex V rc = some (m, st) → ∀ a ∈ st, zv3 a := by
  intro rc
  induction rc with
  | nil => intro m st h; cases h; intro a ha; cases ha
  | cons c rc ih =>
    intro m st h
    rcases zex_inv h with ⟨a, b, r, c1, d⟩ | ⟨a, b, r, c1, d⟩ | ⟨a, b, b2, r, c1, d⟩
    · have := ih c1
      rw [d]
      exact List.forall_mem_cons.mpr ⟨hV c, this⟩
    · have := ih c1
      rw [d]
      refine List.forall_mem_cons.mpr ⟨?_, fun x hx => this x (List.mem_cons_of_mem _ hx)⟩
      have h3 := this b List.mem_cons_self
      unfold zv3 at h3 ⊢
      unfold znt
      split <;> omega
    · have := ih c1
      rw [d]
      refine List.forall_mem_cons.mpr ⟨?_, fun x hx => this x (List.mem_cons_of_mem _ (List.mem_cons_of_mem _ hx))⟩
      have h3 := this b List.mem_cons_self
      have h4 := this b2 (List.mem_cons_of_mem _ List.mem_cons_self)
      split
      · exact zboth_3 h4 h3
      · exact zeith_3 h4 h3
theorem zex_eq {V V' : Int → Int} : ∀ {rc : List Int} {m : Int} {st : List Int}, (∀ i, 0 ≤ i → i < m → V' i = V i) → zex V rc = some (m, st) → zex V' rc = some (m, st) := by
  intro rc
  induction rc with
  | nil => intro m st _ h; exact h
  | cons c rc ih =>
    intro m st hV h
    rcases zex_inv h with ⟨a, b, r, c1, d⟩ | ⟨a, b, r, c1, d⟩ | ⟨a, b, b2, r, c1, d⟩
    · have h1 := ih (fun i x y => hV i x (by omega)) c1
      rw [d, ← hV c a (by omega), b]
      exact zex_test h1 a
    · have h1 := ih hV c1
      rw [a, d]
      exact zex_not h1
    · have h1 := ih hV c1
      have h2 := h1
      simp only [zex, h1, Option.bind_some, zex1, if_neg (show ¬ 0 ≤ c by omega), if_neg a.2]
      rw [d]
/-- operators that wait, their values, the levels that they stand for -/
def zun : List Int → List Int → List (Int × Int × Int) → Prop
  | [], W, lv => W = [] ∧ lv = [(0, 1, 0)]
  | o :: ops, W, lv => (o = 33 ∧ ∃ O A N r, lv = (O, A, N) :: r ∧ 1 ≤ N ∧ zun ops W ((O, A, N - 1) :: r)) ∨
      (o = 38 ∧ ∃ O A r W', lv = (O, A, 0) :: r ∧ W = A :: W' ∧ zun ops W' ((O, 1, 0) :: r)) ∨
      (o = 124 ∧ ∃ O r W', lv = (O, 1, 0) :: r ∧ W = O :: W' ∧ zun ops W' ((0, 1, 0) :: r)) ∨
      (o = 40 ∧ ∃ r, lv = (0, 1, 0) :: r ∧ zun ops W r)
theorem znot_0 (v : Int) : znot 0 v = v := by unfold znot; rw [if_neg (by omega)]
theorem znot_s {N v : Int} (h : 1 ≤ N) (hv : zv3 v) : znot (N - 1) (znt v) = znot N v := by
  unfold zv3 at hv
  unfold znot znt
  by_cases h2 : v = 2
  · subst h2
    rw [if_pos rfl, if_neg (by omega), if_neg (by omega)]
  · rw [if_neg h2]
    by_cases hN : N % 2 = 1
    · rw [if_neg (by omega), if_pos ⟨hN, h2⟩]
    · rw [if_pos ⟨by omega, by omega⟩, if_neg (by omega)]
      omega
theorem zboth_1 {v : Int} (hv : zv3 v) : zboth 1 v = v := by
  unfold zv3 at hv
  unfold zboth
  by_cases h : v = 0
  · rw [if_pos (Or.inr h), h]
  · rw [if_neg (by omega), if_neg (by decide)]
theorem zeith_0 {v : Int} (hv : zv3 v) : zeith 0 v = v := by
  unfold zv3 at hv
  unfold zeith
  by_cases h : v = 1
  · rw [if_pos (Or.inr h), h]
  · rw [if_neg (by omega), if_neg (by decide)]
def zcs (s : zS) (ops rc : List Int) : Prop := (s 98 86 = ops.length ∧ zstk (s 166) ops) ∧ s 98 85 = rc.length ∧ zstk (s 165) rc
theorem zcs_eq {s s' : zS} {ops rc : List Int} (h1 : s' 98 86 = s 98 86) (h2 : s' 166 = s 166) (h3 : s' 98 85 = s 98 85) (h4 : s' 165 = s 165) (h : zcs s ops rc) : zcs s' ops rc := by
  unfold zcs
  rw [h1, h2, h3, h4]
  exact h
abbrev zWc : zPl := [(98, some 86), (98, some 88), (98, some 85), (165, none)]
section CC
variable {G : zG} {Q : Int → zS → Prop} {V : Int → Int}
theorem okX12_closes_0 : ∀ (ops rc : List Int) (s : zS) (O A N v m : Int) (r : List (Int × Int × Int)) (W : List Int), zcs s ops rc → (ops.length : Int) + rc.length ≤ 250 → zun ops W ((O, A, N) :: r) → 0 ≤ N → zv3 v → zex V rc = some (m, v :: W) → (0 ≤ s 98 88 ∧ s 98 88 ≤ 100) → N ≤ s 98 88 →
    (∀ (s' : zS) (ops' rc' : List Int), zfr zWc s' s → zcs s' ops' rc' → zun ops' W ((O, A, 0) :: r) → zex V rc' = some (m, znot N v :: W) → s' 98 88 = s 98 88 - N → (ops'.length : Int) + rc'.length = ops.length + rc.length → (∃ l, ops = l ++ ops') → Q 0 s') →
    zR G MX12_closes 0 [zr 98] [] s Q := by
  intro ops
  induction ops with
  | nil =>
    intro rc s O A N v m r W hc hl hz hN hv hx hd hNd kq
    obtain ⟨⟨c1, c2⟩, c3, c4⟩ := hc
    simp only [List.length_nil] at c1
    obtain ⟨z1, z2⟩ := hz
    simp only [List.cons.injEq, Prod.mk.injEq] at z2
    obtain ⟨⟨rfl, rfl, rfl⟩, rfl⟩ := z2
    apply TX12_closes_0 <;> (try (intros; omega))
    intro _
    exact kq s [] rc zfr_0 ⟨⟨c1, trivial⟩, c3, c4⟩ ⟨z1, rfl⟩ (by rw [znot_0]; exact hx) (by omega) rfl ⟨[], rfl⟩
  | cons o ops ih =>
    intro rc s O A N v m r W hc hl hz hN hv hx hd hNd kq
    have hc0 := hc
    obtain ⟨⟨c1, c2, c5⟩, c3, c4⟩ := hc
    simp only [List.length_cons] at c1 hl
    have e1 : s 98 86 - 1 = ops.length := by omega
    have hb := zex_b hx
    by_cases ho : o = 33
    · rcases hz with ⟨_, O', A', N', r', e, h1, h2⟩ | ⟨z, _⟩ | ⟨z, _⟩ | ⟨z, _⟩
      · simp only [List.cons.injEq, Prod.mk.injEq] at e
        obtain ⟨⟨rfl, rfl, rfl⟩, rfl⟩ := e
        have nt3 : zv3 (znt v) := by
          unfold zv3 at hv ⊢
          unfold znt
          split <;> omega
        apply TX12_closes_0 <;> (try rw [e1]) <;> (try rw [c2]) <;> (try (intros; omega))
        intro _ _
        refine ih (-1 :: rc) _ O A (N - 1) (znt v) m r W ⟨⟨by simp [zup], ?_⟩, ?_, ?_⟩ (by simp only [List.length_cons]; omega) h2 (by omega) nt3 (zex_not hx) (by simp [zup]; omega) (by simp [zup]; omega) (fun s' ops' rc' g1 g2 g3 g4 g5 g6 g7 => ?_)
        · rw [zup_ne (by decide), zup_ne (by decide), zup_ne (by decide), zup_ne (by decide)]
          exact c5
        · simp [zup, c3]
        · refine ⟨by simp [zup, c3], zstk_eq (fun i a b => ?_) c4⟩
          rw [zup_oi (by omega), zup_of (by decide), zup_of (by decide), zup_of (by decide)]
        · refine kq s' ops' rc' (zfr_tr (zfr_uA rfl (zfr_uF rfl (zfr_uF rfl (zfr_uF rfl zfr_0)))) g1) g2 g3 (by rw [← znot_s h1 hv]; exact g4) ?_ ?_ ?_
          · rw [g5]
            simp [zup]
            omega
          · simp only [List.length_cons] at g6 ⊢
            omega
          · obtain ⟨l, hl⟩ := g7
            exact ⟨o :: l, by rw [hl]; rfl⟩
      · omega
      · omega
      · omega
    · have hN0 : N = 0 := by
        rcases hz with ⟨z, _⟩ | ⟨_, O', A', r', W', e, _⟩ | ⟨_, O', r', W', e, _⟩ | ⟨_, r', e, _⟩
        · omega
        · simp only [List.cons.injEq, Prod.mk.injEq] at e
          exact e.1.2.2
        · simp only [List.cons.injEq, Prod.mk.injEq] at e
          exact e.1.2.2
        · simp only [List.cons.injEq, Prod.mk.injEq] at e
          exact e.1.2.2
      subst hN0
      apply TX12_closes_0 <;> (try rw [e1]) <;> (try rw [c2]) <;> (try (intros; omega))
      intro _
      exact kq s (o :: ops) rc zfr_0 hc0 hz (by rw [znot_0]; exact hx) (by omega) rfl ⟨[], rfl⟩
theorem okX12_pops_0 {sg : Int} : ∀ (ops rc : List Int) (s : zS) (O A v m : Int) (r : List (Int × Int × Int)) (W : List Int), zcs s ops rc → (ops.length : Int) + rc.length ≤ 250 → zun ops W ((O, A, 0) :: r) → zv3 v → zv3 A → zv3 O → zex V rc = some (m, v :: W) →
    (∀ (s' : zS) (ops' rc' : List Int) (W' : List Int) (w : Int), zfr zWc s' s → s' 98 88 = s 98 88 → zcs s' ops' rc' → (ops'.length : Int) + rc'.length = ops.length + rc.length → zex V rc' = some (m, w :: W') →
      (sg = 38 → w = zboth A v ∧ zun ops' W' ((O, 1, 0) :: r)) → (sg ≠ 38 → w = zeith O (zboth A v) ∧ zun ops' W' ((0, 1, 0) :: r) ∧ (ops' = [] ∨ ∃ l, ops' = 40 :: l)) → Q 0 s') →
    zR G MX12_pops 0 [zr 98, zi sg] [] s Q := by
  intro ops
  induction ops with
  | nil =>
    intro rc s O A v m r W hc hl hz hv hA hO hx kq
    obtain ⟨⟨c1, c2⟩, c3, c4⟩ := hc
    simp only [List.length_nil] at c1
    obtain ⟨z1, z2⟩ := hz
    simp only [List.cons.injEq, Prod.mk.injEq] at z2
    obtain ⟨⟨rfl, rfl, _⟩, rfl⟩ := z2
    apply TX12_pops_0 <;> (try (intros; omega))
    intro _
    exact kq s [] rc W v zfr_0 rfl ⟨⟨c1, trivial⟩, c3, c4⟩ rfl hx (fun _ => ⟨(zboth_1 hv).symm, z1, rfl⟩) (fun _ => ⟨by rw [zboth_1 hv, zeith_0 hv], ⟨z1, rfl⟩, Or.inl rfl⟩)
  | cons o ops ih =>
    intro rc s O A v m r W hc hl hz hv hA hO hx kq
    have hc0 := hc
    obtain ⟨⟨c1, c2, c5⟩, c3, c4⟩ := hc
    simp only [List.length_cons] at c1 hl
    have e1 : s 98 86 - 1 = ops.length := by omega
    have hz0 := hz
    have st : ∀ x : Int, x = -2 ∨ x = -3 → zcs (zup (zup (zup s 98 86 (ops.length : Int)) 98 85 (s 98 85 + 1)) 165 (s 98 85) x) ops (x :: rc) := by
      intro x _
      refine ⟨⟨by simp [zup], ?_⟩, by simp [zup, c3], ⟨by simp [zup, c3], zstk_eq (fun i a b => ?_) c4⟩⟩
      · rw [zup_ne (by decide), zup_ne (by decide), zup_ne (by decide)]
        exact c5
      · rw [zup_oi (by omega), zup_of (by decide), zup_of (by decide)]
    have fr : ∀ x : Int, zfr zWc (zup (zup (zup s 98 86 (ops.length : Int)) 98 85 (s 98 85 + 1)) 165 (s 98 85) x) s := fun x => zfr_uA rfl (zfr_uF rfl (zfr_uF rfl zfr_0))
    have dp : ∀ x : Int, (zup (zup (zup s 98 86 (ops.length : Int)) 98 85 (s 98 85 + 1)) 165 (s 98 85) x) 98 88 = s 98 88 := fun x => by simp [zup]
    rcases hz with ⟨z, O', A', N', r', e, h1, _⟩ | ⟨z, O', A', r', W', e, h1, h2⟩ | ⟨z, O', r', W', e, h1, h2⟩ | ⟨z, r', e, h2⟩
    · simp only [List.cons.injEq, Prod.mk.injEq] at e
      obtain ⟨⟨_, _, e3⟩, _⟩ := e
      omega
    · simp only [List.cons.injEq, Prod.mk.injEq] at e
      obtain ⟨⟨rfl, rfl, _⟩, rfl⟩ := e
      subst h1
      apply TX12_pops_0 <;> (try rw [e1]) <;> (try rw [c2]) <;> (try (intros; omega))
      intro _ _ _
      refine ih (-2 :: rc) _ O 1 (zboth A v) m r W' (st _ (Or.inl rfl)) (by simp only [List.length_cons]; omega) h2 (zboth_3 hA hv) (Or.inr (Or.inl rfl)) hO (zex_and hx) (fun s' ops' rc' W'' w g1 g2 g3 g4 g5 g6 g7 => ?_)
      rw [zboth_1 (zboth_3 hA hv)] at g6 g7
      refine kq s' ops' rc' W'' w (zfr_tr (fr _) g1) (g2.trans (dp _)) g3 ?_ g5 g6 g7
      simp only [List.length_cons] at g4 ⊢
      omega
    · simp only [List.cons.injEq, Prod.mk.injEq] at e
      obtain ⟨⟨rfl, rfl, _⟩, rfl⟩ := e
      subst h1
      by_cases hs : sg = 38
      · apply TX12_pops_0 <;> (try rw [e1]) <;> (try rw [c2]) <;> (try (intros; omega))
        intro _
        exact kq s _ rc _ v zfr_0 rfl hc0 rfl hx (fun _ => ⟨(zboth_1 hv).symm, hz0⟩) (fun h => absurd hs h)
      · apply TX12_pops_0 <;> (try rw [e1]) <;> (try rw [c2]) <;> (try (intros; omega))
        intro _ _ _
        refine ih (-3 :: rc) _ 0 1 (zeith O v) m r W' (st _ (Or.inr rfl)) (by simp only [List.length_cons]; omega) h2 (zeith_3 hO hv) (Or.inr (Or.inl rfl)) (Or.inl rfl) (zex_or hx) (fun s' ops' rc' W'' w g1 g2 g3 g4 g5 g6 g7 => ?_)
        rw [zboth_1 (zeith_3 hO hv), zeith_0 (zeith_3 hO hv)] at g7
        refine kq s' ops' rc' W'' w (zfr_tr (fr _) g1) (g2.trans (dp _)) g3 ?_ g5 (fun h => absurd h hs) (fun h => by rw [zboth_1 hv]; exact g7 h)
        simp only [List.length_cons] at g4 ⊢
        omega
    · simp only [List.cons.injEq, Prod.mk.injEq] at e
      obtain ⟨⟨rfl, rfl, _⟩, rfl⟩ := e
      apply TX12_pops_0 <;> (try rw [e1]) <;> (try rw [c2]) <;> (try (intros; omega))
      intro _
      exact kq s _ rc W v zfr_0 rfl hc0 rfl hx (fun _ => ⟨(zboth_1 hv).symm, hz0⟩) (fun _ => ⟨by rw [zboth_1 hv, zeith_0 hv], hz0, Or.inr ⟨ops, by rw [z]⟩⟩)
end CC
