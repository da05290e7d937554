/-! THE START: what the constructors leave keeps the invariant -/
theorem zrw0_in {N v j : Int} (h0 : 0 ≤ j) (h1 : j < N) : zrw0 N v j = v := if_pos ⟨h0, h1⟩
theorem zinv_0 : zinv zSt0 := by
  have b0 : ∀ w, ¬ zbit 0 w := fun w => zb_0 w
  have c1 : zcnow zSt0 := ⟨rfl, by decide, by decide⟩
  have c2 : zppl zSt0 := ⟨⟨by decide, by decide⟩, rfl, fun w a b => absurd b (by show ¬ w < 0; omega)⟩
  have c3 : zlnk zSt0 := fun l a b => Or.inl ⟨zrw0_in a b, zrw0_in a b⟩
  have c4 : zlkw zSt0 := fun l a b h => absurd (zrw0_in a b) h
  have c5 : zfnd zSt0 := ⟨fun w a b => ⟨fun z => absurd z (b0 w), fun z => absurd z.1 (by show ¬ w < 0; omega)⟩, fun w a b => Or.inl rfl⟩
  have c6 : zdth zSt0 := fun w a b => Or.inl ⟨rfl, zrw0_in a b⟩
  have c7 : zfct zSt0 := ⟨⟨by decide, by decide⟩, rfl, fun f a b => absurd b (by show ¬ f < 0; omega)⟩
  have c8 : zshv zSt0 := by
    intro s a b
    refine Or.inl ⟨rfl, ?_⟩
    have : s = 0 ∨ s = 1 ∨ s = 2 ∨ s = 3 ∨ s = 4 ∨ s = 5 ∨ s = 6 ∨ s = 7 ∨ s = 8 ∨ s = 9 := by omega
    rcases this with rfl | rfl | rfl | rfl | rfl | rfl | rfl | rfl | rfl | rfl <;> exact ⟨rfl, rfl⟩
  have c9 : zamo zSt0 := ⟨⟨by decide, by decide⟩, fun w a b => by
    have e : zSt0 118 w = 1 := zrw0_in a b
    omega, fun x a b => absurd b (by show ¬ x < 0; omega)⟩
  have c10 : zamC zSt0 := ⟨rfl, fun w a b => Or.inl ⟨rfl, zrw0_in a b, by
    show (if 80 * w = 0 ∨ 80 * w = 80 ∨ 80 * w = 160 ∨ 80 * w = 240 then (119 : Int) else 0) = 119
    rw [if_pos (by omega)]⟩, fun x a b => absurd b (by show ¬ x < 0; omega)⟩
  have c11 : zwto zSt0 := fun w a b => Or.inl ⟨rfl, rfl⟩
  have c12 : ztur zSt0 := ⟨[], ⟨fun x => ⟨fun z => (by cases z), fun z => absurd z.2 (by show ¬ x < 0; omega)⟩, List.Pairwise.nil⟩, rfl, fun i x h => by cases h⟩
  have c13 : zpla zSt0 := ⟨⟨by decide, by decide⟩, fun p a b => absurd b (by show ¬ p < 0; omega), fun p q a b c => absurd c (by show ¬ q < 0; omega)⟩
  have c14 : zplC zSt0 := ⟨rfl, fun p a b => absurd b (by show ¬ p < 0; omega)⟩
  have c15 : zplc zSt0 := ⟨⟨rfl, by decide, by decide⟩, fun p a b => absurd b (by show ¬ p < 0; omega)⟩
  have c16 : zpas zSt0 := fun p a b => rfl
  have c17 : zblt zSt0 := fun w a b => Or.inl ⟨zrw0_in a b, zrw0_in a b⟩
  have c18 : zwsh zSt0 := fun w a b => by
    have e : zSt0 93 w = -1 := zrw0_in a b
    have e2 : zSt0 137 w = 0 := rfl
    rw [e, e2]
    exact ⟨⟨by decide, by decide⟩, ⟨by decide, by decide⟩, fun i i0 i1 => by omega, zsel_e (by decide) (by decide)⟩
  have c19 : zelc zSt0 := Or.inl ⟨rfl, rfl, rfl, rfl⟩
  have c20 : zlea zSt0 := ⟨fun x a b => Or.inl (zrw0_in a b), ⟨by decide, by decide⟩, fun l a b => absurd b (by show ¬ l < 0; omega)⟩
  have c21 : zlse zSt0 := ⟨rfl, fun l a b => absurd b (by show ¬ l < 0; omega), fun l a b c => rfl⟩
  have c22 : zpriC zSt0 := ⟨⟨by decide, by decide⟩, fun i a b => absurd b (by show ¬ i < 0; omega), fun x a b h => absurd (zrw0_in a b) h⟩
  have c23 : zprn zSt0 := rfl
  have c24 : ztbM zSt0 := ⟨⟨by decide, by decide⟩, fun i a b => absurd b (by show ¬ i < 0; omega)⟩
  have c25 : ztbC zSt0 := ⟨rfl, fun i a b => absurd b (by show ¬ i < 0; omega)⟩
  have c26 : zche zSt0 := ⟨rfl, rfl, ⟨by decide, by decide⟩, by decide, by decide⟩
  have c27 : zsms zSt0 := ⟨fun x a b => absurd b (by show ¬ x < 0; omega), fun h y _ _ _ _ => rfl, by decide⟩
  have c28 : zyrs zSt0 := ⟨⟨⟨by decide, by decide⟩, fun y _ _ => rfl, fun h => absurd rfl h⟩, ⟨⟨by decide, by decide⟩, fun y _ _ => rfl, fun h => absurd rfl h⟩⟩
  have c29 : zkpt zSt0 := ⟨rfl, fun w a b => ⟨rfl, ⟨by show (0 : Int) ≤ 0; omega, by show (0 : Int) ≤ 365; omega⟩, rfl⟩⟩
  have c30 : zrfs zSt0 := ⟨⟨rfl, by decide, by decide⟩, fun r a b => ⟨by show (0 : Int) ≤ 0; omega, by show (0 : Int) ≤ 99999; omega⟩, fun r a b => absurd b (by show ¬ r < 0; omega)⟩
  have c31 : zpld zSt0 := Or.inl ⟨rfl, rfl⟩
  have c32 : zrms zSt0 := by
    have e : ∀ w, 0 ≤ w → w < 24 → zSt0 138 w = -1 := fun w a b => zrw0_in a b
    refine ⟨⟨rfl, by decide, by decide⟩, fun w a b => ⟨?_, ?_, fun _ => e w a b⟩, fun w v a b c h => absurd (e w a (by omega)) h⟩
    · rw [e w a b]
      exact zrw0_in a b
    · rw [e w a b]
      exact ⟨by decide, by decide⟩
  have c33 : zref zSt0 := fun j a b => rfl
  have c34 : zlim zSt0 := ⟨rfl, rfl, rfl⟩
  exact ⟨c1, c2, c3, c4, c5, c6, c7, c8, c9, c10, c11, c12, c13, c14, c15, c16, c17, c18, c19, c20, c21, c22, c23, c24, c25, c26, c27, c28, c29, c30, c31, c32, c33, c34⟩
theorem zwf_0 : zwf zSt0 := by
  have key : ∀ (q : Nat) (j : Int), -1 ≤ zSt0 q j ∧ zSt0 q j ≤ 365 := by
    intro q j
    have r : ∀ N v : Int, -1 ≤ v → v ≤ 365 → -1 ≤ zrw0 N v j ∧ zrw0 N v j ≤ 365 := fun N v a b => by
      unfold zrw0
      split <;> omega
    unfold zSt0
    split <;> first | exact r _ _ (by decide) (by decide) | ((try dsimp only) <;> (repeat' split) <;> omega)
  intro q j
  have := key q j
  split
  · unfold zLn; omega
  · unfold zIn; omega
