/-! WHO HOLDS: places in class and model -/
/-- the model's places are in order -/
def zpla (σ : zS) : Prop := (0 ≤ σ 98 4 ∧ σ 98 4 ≤ 12) ∧ (∀ p, 0 ≤ p → p < σ 98 4 → (0 ≤ σ 129 p ∧ σ 129 p < 4) ∧ (σ 130 p = -1 ∨ (0 ≤ σ 130 p ∧ σ 130 p < 24))) ∧
  ∀ p q, 0 ≤ p → p < q → q < σ 98 4 → σ 129 p = σ 129 q → σ 130 p ≠ -1 → σ 130 p ≠ σ 130 q
/-- the class's places are the model's -/
def zplC (σ : zS) : Prop := σ 52 7 = σ 98 4 ∧ ∀ p, 0 ≤ p → p < σ 98 4 → σ 53 p = σ 129 p ∧ σ 54 p = σ 130 p ∧ σ 55 p = σ 131 p ∧ σ 56 p = σ 132 p ∧ σ 57 p = σ 133 p
/-- who holds a place of a kind -/
def zhol (σ : zS) (kd w : Int) : Prop := ∃ p, (0 ≤ p ∧ p < σ 98 4) ∧ σ 129 p = kd ∧ σ 130 p = w
section HO
variable {G : zG} {σ : zS} {Q : Int → zS → Prop}
theorem okX6_holdersOf {kd : Int} (hM : zpla σ) (hC : zplC σ) (kq : ∀ b, zIn b → (∀ w, 0 ≤ w → w < 32 → (zbit b w ↔ zhol σ kd w)) → Q b σ) : zO G MX6_holdersOf [zr 52, zi kd] σ Q := by
  obtain ⟨m0, m1, m2⟩ := hM
  obtain ⟨c0, c1⟩ := hC
  refine TX6_holdersOf ?_
  have loop : ∀ (n : Nat) (i b : Int), (σ 98 4 - i).toNat = n → 0 ≤ i → i ≤ σ 98 4 → zIn b → (∀ w, 0 ≤ w → w < 32 → (zbit b w ↔ ∃ p, (0 ≤ p ∧ p < i) ∧ σ 129 p = kd ∧ σ 130 p = w)) → zR G MX6_holdersOf 4 [zr 52, zi kd, zi b, zi i] [] σ Q := by
    intro n
    induction n with
    | zero =>
      intro i b hn i0 i1 hb hw
      have hi : i = σ 98 4 := by omega
      subst hi
      apply TX6_holdersOf_4 <;> (try rw [c0]) <;> (try (intros; omega))
      intro _
      exact kq b hb hw
    | succ n ih =>
      intro i b hn i0 i1 hb hw
      have c := c1 i i0 (by omega)
      have m := m1 i i0 (by omega)
      apply TX6_holdersOf_4 <;> (try rw [c0]) <;> (try rw [c.1]) <;> (try rw [c.2.1]) <;> (try (intros; omega))
      · intro _ h
        refine ih (i + 1) b (by omega) (by omega) (by omega) hb (fun w w0 w1 => ?_)
        rw [hw w w0 w1]
        constructor
        · rintro ⟨p, a, b, c⟩
          exact ⟨p, by omega, b, c⟩
        · rintro ⟨p, a, b, c⟩
          by_cases e : p = i
          · subst e; omega
          · exact ⟨p, by omega, b, c⟩
      · intro _ h1 h2
        refine ih (i + 1) _ (by omega) (by omega) (by omega) (zIn_of _) (fun w w0 w1 => ?_)
        rw [zb_or, hw w w0 w1, zb_shl (by omega) (by omega) w0 w1]
        constructor
        · rintro (⟨p, a, b, c⟩ | h)
          · exact ⟨p, by omega, b, c⟩
          · exact ⟨i, by omega, h1, h.symm⟩
        · rintro ⟨p, a, b, hh⟩
          by_cases e : p = i
          · rw [e] at hh; exact Or.inr hh.symm
          · exact Or.inl ⟨p, by omega, b, hh⟩
  exact loop _ 0 0 rfl (by omega) (by omega) zIn_0 (fun w w0 w1 => ⟨fun z => absurd z (zb_0 w), fun ⟨p, a, _⟩ => by omega⟩)
/-- the model's: the first place of a kind that one holds -/
theorem okX12_placeHeld {w kd : Int} (hM : zpla σ) (kq : ∀ r, ((r = -1 ∧ ¬ zhol σ kd w) ∨ ((0 ≤ r ∧ r < σ 98 4) ∧ σ 129 r = kd ∧ σ 130 r = w ∧ ∀ p, 0 ≤ p → p < r → ¬ (σ 129 p = kd ∧ σ 130 p = w))) → Q r σ) : zO G MX12_placeHeld [zr 98, zi w, zi kd] σ Q := by
  obtain ⟨m0, m1, m2⟩ := hM
  refine TX12_placeHeld ?_
  have loop : ∀ (n : Nat) (i : Int), (σ 98 4 - i).toNat = n → 0 ≤ i → i ≤ σ 98 4 → (∀ p, 0 ≤ p → p < i → ¬ (σ 129 p = kd ∧ σ 130 p = w)) → zR G MX12_placeHeld 2 [zr 98, zi w, zi kd, zi i] [] σ Q := by
    intro n
    induction n with
    | zero =>
      intro i hn i0 i1 hp
      apply TX12_placeHeld_2 <;> (try (intros; omega))
      intro _
      exact kq (-1) (Or.inl ⟨rfl, fun ⟨p, a, b⟩ => hp p a.1 (by omega) b⟩)
    | succ n ih =>
      intro i hn i0 i1 hp
      apply TX12_placeHeld_2 <;> (try (intros; omega))
      · intro _ h1 h2
        exact kq i (Or.inr ⟨by omega, h1, h2, hp⟩)
      · intro _ h
        refine ih (i + 1) (by omega) (by omega) (by omega) (fun p p0 p1 => ?_)
        by_cases e : p = i
        · rw [e]; omega
        · exact hp p p0 (by omega)
  exact loop _ 0 rfl (by omega) (by omega) (fun p p0 p1 => by omega)
end HO
/-! SENIORITY: fellows' places in a row, by an insertion that both do alike -/
def zfel (σ : zS) (p : Int) : Prop := σ 129 p = 1 ∧ σ 130 p ≠ -1
def zsr (σ : zS) (p q : Int) : Prop := σ 131 p < σ 131 q ∨ (σ 131 p = σ 131 q ∧ σ 130 p < σ 130 q)
/-- the first n of the row a are the fellows' places below i, by seniority -/
def zsen (σ : zS) (a : Int → Int) (i n : Int) : Prop := (0 ≤ n ∧ n ≤ i) ∧ (∀ c, 0 ≤ c → c < n → (0 ≤ a c ∧ a c < i) ∧ zfel σ (a c)) ∧ (∀ c d, 0 ≤ c → c < d → d < n → zsr σ (a c) (a d)) ∧ ∀ p, 0 ≤ p → p < i → zfel σ p → ∃ c, (0 ≤ c ∧ c < n) ∧ a c = p
/-- two such rows are one -/
theorem zsen_one {σ : zS} {a b : Int → Int} {i n m : Int} (ha : zsen σ a i n) (hb : zsen σ b i m) : n = m ∧ ∀ c, 0 ≤ c → c < n → a c = b c := by
  have key : ∀ (a b : Int → Int) (n m : Int), zsen σ a i n → zsen σ b i m → ∀ (k : Nat) (c : Int), c.toNat = k → 0 ≤ c → c < n → c < m → (∀ d, 0 ≤ d → d < c → a d = b d) → ¬ zsr σ (a c) (b c) := by
    intro a b n m ha hb k c hk c0 c1 c2 hd h
    obtain ⟨a0, a1, a2, a3⟩ := ha
    obtain ⟨b0, b1, b2, b3⟩ := hb
    obtain ⟨e, e0, e1⟩ := b3 (a c) (a1 c c0 c1).1.1 (a1 c c0 c1).1.2 (a1 c c0 c1).2
    by_cases he : e < c
    · have h1 := hd e e0.1 he
      have h2 := a2 e c e0.1 he c1
      rw [h1, e1] at h2
      unfold zsr at h2
      omega
    · by_cases he2 : e = c
      · rw [he2] at e1
        rw [e1] at h
        unfold zsr at h
        omega
      · have h2 := b2 c e c0 (by omega) e0.2
        rw [e1] at h2
        unfold zsr at h h2
        omega
  have eqn : ∀ (a b : Int → Int) (n m : Int), zsen σ a i n → zsen σ b i m → ∀ (k : Nat) (c : Int), c.toNat = k → 0 ≤ c → c < n → (∀ d, 0 ≤ d → d < c → a d = b d) → c < m := by
    intro a b n m ha hb k c hk c0 c1 hd
    obtain ⟨a0, a1, a2, a3⟩ := ha
    obtain ⟨b0, b1, b2, b3⟩ := hb
    obtain ⟨e, e0, e1⟩ := b3 (a c) (a1 c c0 c1).1.1 (a1 c c0 c1).1.2 (a1 c c0 c1).2
    by_cases he : e < c
    · have h1 := hd e e0.1 he
      have h2 := a2 e c e0.1 he c1
      rw [h1, e1] at h2
      unfold zsr at h2
      omega
    · omega
  have all : ∀ (k : Nat) (c : Int), c.toNat = k → 0 ≤ c → c < n → c < m ∧ a c = b c := by
    intro k
    induction k using Nat.strongRecOn with
    | ind k ih =>
      intro c hk c0 c1
      have hd : ∀ d, 0 ≤ d → d < c → a d = b d := fun d d0 d1 => (ih d.toNat (by omega) d rfl d0 (by omega)).2
      have cm := eqn a b n m ha hb k c hk c0 c1 hd
      refine ⟨cm, ?_⟩
      have h1 := key a b n m ha hb k c hk c0 c1 cm hd
      have h2 := key b a m n hb ha k c hk c0 cm c1 (fun d d0 d1 => (hd d d0 d1).symm)
      obtain ⟨a0, a1, a2, a3⟩ := ha
      obtain ⟨b0, b1, b2, b3⟩ := hb
      obtain ⟨e, e0, e1⟩ := b3 (a c) (a1 c c0 c1).1.1 (a1 c c0 c1).1.2 (a1 c c0 c1).2
      by_cases he : e = c
      · rw [he] at e1; exact e1.symm
      · by_cases he2 : e < c
        · have h3 := hd e e0.1 he2
          have h4 := a2 e c e0.1 he2 c1
          rw [h3, e1] at h4
          unfold zsr at h4
          omega
        · have h4 := b2 c e c0 (by omega) e0.2
          rw [e1] at h4
          exact absurd h4 h2
  have nm : ∀ (a b : Int → Int) (n m : Int), zsen σ a i n → zsen σ b i m → (∀ c, 0 ≤ c → c < n → c < m ∧ a c = b c) → n ≤ m := by
    intro a b n m ha hb h
    by_cases hn : n ≤ m
    · exact hn
    · have := (h m hb.1.1 (by omega)).1
      omega
  have h1 := nm a b n m ha hb (fun c c0 c1 => all _ c rfl c0 c1)
  refine ⟨?_, fun c c0 c1 => (all _ c rfl c0 c1).2⟩
  by_cases hn : n = m
  · exact hn
  · have := eqn b a m n hb ha _ n rfl ha.1.1 (by omega) (fun d d0 d1 => ((all _ d rfl d0 d1).2).symm)
    omega
