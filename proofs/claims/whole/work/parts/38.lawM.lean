/-! THE LAW in the model: letters, tests, steps and operators -/
def zparM (s : zS) (t : Int → Int) (n : Int) : Prop := (1 ≤ n ∧ n ≤ 200) ∧ s 98 43 = n ∧ zalike n (s 127) t
def ztok (c : Int) : Prop := c = 119 ∨ c = 97 ∨ c = 107 ∨ c = 100 ∨ c = 114 ∨ c = 116
abbrev zWr : zPl := [(162, none), (163, none), (164, none), (98, some 87), (98, some 84)]
theorem znum_p {L : Int → Int} {q : Int} (h : 49 ≤ L q) : ∀ k : Nat, (∀ i, q ≤ i → i < q + k → zdig (L i)) → k = 0 ∨ 0 < znum L q k := by
  intro k
  induction k with
  | zero => intro _; exact Or.inl rfl
  | succ k ih =>
    intro hd
    right
    have h1 := ih (fun i a b => hd i a (by omega))
    have h2 := hd (q + k) (by omega) (by omega)
    unfold znum
    rcases h1 with h1 | h1
    · subst h1
      have h3 : q + ((0 : Nat) : Int) = q := by omega
      rw [h3]
      unfold znum
      omega
    · omega
section LM
variable {G : zG} {s : zS} {Q : Int → zS → Prop} {t : Int → Int} {n : Int}
theorem okX12_letter {p : Int} (ht : zparM s t n) (hp : s 98 87 = p) (h0 : 0 ≤ p) (k1 : p < n → Q (zlt t n p) s) (k2 : n ≤ p → Q (-1) s) : zO G MX12_letter [zr 98] s Q := by
  obtain ⟨t1, t2, t3⟩ := ht
  apply TX12_letter <;> (try rw [t2]) <;> (try rw [hp]) <;> (try (intros; omega))
  · exact k2
  · intro h
    have := k1 h
    unfold zlt at this
    rw [if_pos h] at this
    rw [t3 p h0 h]
    exact this
theorem okX12_reads {p m : Int} (ht : zparM s t n) (hp : s 98 87 = p) (h0 : 0 ≤ p ∧ p < n) (hm : s 98 84 = m) (hm0 : 0 ≤ m ∧ m < 110)
    (k1 : zTest_f (zrd (zlt t n) p) = -1 → ∀ s' : zS, zfr zWr s' s → s' 98 87 = zTest_e (zrd (zlt t n) p) → s' 98 84 = m + 1 →
      (∀ i, i ≠ m → s' 162 i = s 162 i ∧ s' 163 i = s 163 i ∧ s' 164 i = s 164 i) → ztok (s' 162 m) →
      s' 162 m = zTest_s (zrd (zlt t n) p) → (s' 162 m = 119 ∨ (s' 163 m = zTest_o (zrd (zlt t n) p) ∧ s' 164 m = zTest_m (zrd (zlt t n) p))) → Q 1 s')
    (k2 : zTest_f (zrd (zlt t n) p) ≠ -1 → ∀ s' : zS, zfr zWr s' s → s' 98 87 = zTest_f (zrd (zlt t n) p) → Q 0 s') : zO G MX12_reads [zr 98] s Q := by
  have hn := ht.1
  have hb := zde_b (zlt t n) (p + 2)
  have hLn : ∀ q, n ≤ q → zlt t n q = 0 := fun q h => by unfold zlt; rw [if_neg (by omega)]
  -- the number
  have num : ∀ (s1 : zS) (sg op : Int), zfr zWr s1 s → s1 98 84 = m → s1 162 m = sg → (∀ i, i ≠ m → s1 162 i = s 162 i ∧ s1 163 i = s 163 i ∧ s1 164 i = s 164 i) → sg = zlt t n p → op = zlt t n (p + 1) →
      zlt t n p ≠ 119 → ¬ (zlt t n p ≠ 97 ∧ zlt t n p ≠ 107 ∧ zlt t n p ≠ 100 ∧ zlt t n p ≠ 114 ∧ zlt t n p ≠ 116) → ¬ (zlt t n (p + 1) ≠ 60 ∧ zlt t n (p + 1) ≠ 62 ∧ zlt t n (p + 1) ≠ 61) →
      zR G MX12_reads 158 [zr 98, zi sg, zi op, zi 0, zi 0] [] (zup s1 98 87 (p + 2)) Q := by
    intro s1 sg op hf e84 hsg hrows hs ho h1 h2 h3
    have fin : ∀ (k : Nat) (v : Int), p + 2 + k = zde (zlt t n) (p + 2) → v = znum (zlt t n) (p + 2) k → ((k : Int) ≠ 0 → Q 1 (zup (zup (zup (zup s1 98 87 (p + 2 + k)) 163 m op) 164 m v) 98 84 (m + 1))) ∧ ((k : Int) = 0 → Q 0 (zup s1 98 87 (p + 2 + k))) := by
      intro k v hk hv
      unfold zrd at k1 k2
      rw [if_neg h1, if_neg h2, if_neg h3] at k1 k2
      constructor
      · intro hk0
        rw [if_neg (by omega)] at k1
        refine k1 rfl _ (zfr_uF rfl (zfr_uA rfl (zfr_uA rfl (zfr_uF rfl hf)))) ?_ ?_ (fun i hi => ?_) ?_ ?_ (Or.inr ⟨?_, ?_⟩)
        · simp [zup, hk]
        · simp [zup]
        · have := hrows i hi
          simp [zup, hi, this]
        · simp only [zup_of (show (162 : Nat) ≠ 98 by decide), zup_of (show (162 : Nat) ≠ 164 by decide), zup_of (show (162 : Nat) ≠ 163 by decide), hsg, hs]
          unfold ztok
          omega
        · simp [zup, hsg, hs]
        · simp [zup, ho]
        · simp only [zup_of (show (164 : Nat) ≠ 98 by decide), zup_same]
          rw [hv, ← hk]
          congr 1
          omega
      · intro hk0
        rw [if_pos (by omega)] at k2
        refine k2 (by show p + 2 ≠ -1; omega) _ (zfr_uF rfl hf) ?_
        rw [zup_same]
        show p + 2 + (k : Int) = p + 2
        omega
    have facts : ∀ k : Int, 0 ≤ k → zparM (zup s1 98 87 (p + 2 + k)) t n ∧ (zup s1 98 87 (p + 2 + k)) 98 87 = p + 2 + k ∧ (zup s1 98 87 (p + 2 + k)) 98 84 = m ∧ (zup s1 98 87 (p + 2 + k)) 98 43 = n := by
      intro k _
      have e43 : s1 98 43 = n := (zfr_at hf rfl).trans ht.2.1
      have e127 : s1 127 = s 127 := zfr_row hf rfl
      refine ⟨⟨ht.1, by simp [zup, e43], ?_⟩, by simp [zup], by simp [zup, e84], by simp [zup, e43]⟩
      rw [zup_ne (by decide), e127]
      exact ht.2.2
    have loop : zlt t n (p + 2) ≠ 48 → ∀ (f k : Nat), f + k = 4 → zdeF (zlt t n) (p + 2 + k) f = zde (zlt t n) (p + 2) → (∀ i, p + 2 ≤ i → i < p + 2 + k → zdig (zlt t n i)) →
        zR G MX12_reads 158 [zr 98, zi sg, zi op, zi (znum (zlt t n) (p + 2) k), zi (k : Int)] [] (zup s1 98 87 (p + 2 + k)) Q := by
      intro h48 f
      induction f with
      | zero =>
        intro k hk hz hd
        obtain ⟨g1, g2, g3, g4⟩ := facts k (by omega)
        have hfin := fin k _ hz rfl
        apply TX12_reads_158 <;> (try rw [g2]) <;> (try rw [g3]) <;> (try rw [g4]) <;> (try (intros; omega))
        · intro _
          refine okX12_letter g1 g2 (by omega) (fun _ => ?_) (by intros; omega)
          apply TX12_reads_173 <;> (try rw [g3]) <;> (try (intros; omega))
          · intro _
            refine okX12_letter g1 g2 (by omega) (fun _ => ?_) (by intros; omega)
            apply TX12_reads_182 <;> (try rw [g3]) <;> (try (intros; omega))
            exact fun _ => hfin.1
          · exact fun _ => hfin.1
        · exact fun _ => hfin.1
      | succ f ih =>
        intro k hk hz hd
        obtain ⟨g1, g2, g3, g4⟩ := facts k (by omega)
        by_cases hdg : zdig (zlt t n (p + 2 + k))
        · have hz2 : zdeF (zlt t n) (p + 2 + ((k + 1 : Nat) : Int)) f = zde (zlt t n) (p + 2) := by
            rw [← hz, show p + 2 + ((k + 1 : Nat) : Int) = p + 2 + k + 1 from by omega]
            show _ = if zdig (zlt t n (p + 2 + k)) then _ else _
            rw [if_pos hdg]
          have hin : p + 2 + k < n := by
            by_cases c : p + 2 + k < n
            · exact c
            · have := hLn (p + 2 + k) (by omega); omega
          have hpos : k = 0 ∨ 0 < znum (zlt t n) (p + 2) k := by
            by_cases hk0 : k = 0
            · exact Or.inl hk0
            · have h9 := hd (p + 2) (by omega) (by omega)
              exact znum_p (by omega) k hd
          have hb1 := znum_b (zlt t n) (p + 2) k (by omega) hd
          have h10 : (10 : Int) ^ k ≤ 10000 := by
            have hk3 : k = 0 ∨ k = 1 ∨ k = 2 ∨ k = 3 := by omega
            rcases hk3 with h | h | h | h <;> (rw [h]; decide)
          apply TX12_reads_158 <;> (try rw [g2]) <;> (try rw [g3]) <;> (try rw [g4]) <;> (try (intros; omega))
          intro _
          refine okX12_letter g1 g2 (by omega) (fun _ => ?_) (by intros; omega)
          apply TX12_reads_173 <;> (try rw [g3]) <;> (try (intros; omega))
          intro _
          refine okX12_letter g1 g2 (by omega) (fun _ => ?_) (by intros; omega)
          apply TX12_reads_182 <;> (try rw [g3]) <;> (try (intros; omega))
          intro _ _ _
          refine okX12_letter g1 g2 (by omega) (fun _ => ?_) (by intros; omega)
          apply TX12_reads_210 <;> (try rw [g2]) <;> (try (intros; omega))
          have := ih (k + 1) (by omega) hz2 (fun i a b => by
            by_cases e : i = p + 2 + k
            · rw [e]; exact hdg
            · exact hd i a (by omega))
          have e1 : zup (zup s1 98 87 (p + 2 + k)) 98 87 (p + 2 + k + 1) = zup s1 98 87 (p + 2 + ((k + 1 : Nat) : Int)) := by
            funext a b
            unfold zup
            rw [show p + 2 + ((k + 1 : Nat) : Int) = p + 2 + k + 1 from by omega]
            by_cases c : a = 98 ∧ b = 87
            · rw [if_pos c, if_pos c]
            · rw [if_neg c, if_neg c, if_neg c]
          rw [e1]
          exact this
        · have hee : p + 2 + k = zde (zlt t n) (p + 2) := by
            rw [← hz]
            show _ = if zdig (zlt t n (p + 2 + k)) then _ else _
            rw [if_neg hdg]
          have hfin := fin k _ hee rfl
          apply TX12_reads_158 <;> (try rw [g2]) <;> (try rw [g3]) <;> (try rw [g4]) <;> (try (intros; omega))
          · intro _
            refine okX12_letter g1 g2 (by omega) (fun _ => ?_) (by intros; omega)
            apply TX12_reads_173 <;> (try rw [g3]) <;> (try (intros; omega))
            · intro _
              refine okX12_letter g1 g2 (by omega) (fun _ => ?_) (by intros; omega)
              apply TX12_reads_182 <;> (try rw [g3]) <;> (try (intros; omega))
              · exact fun _ => hfin.1
              · exact fun _ => hfin.2
            · exact fun _ => hfin.1
            · exact fun _ => hfin.2
          · exact fun _ => hfin.1
          · exact fun _ => hfin.2
    by_cases h48 : zlt t n (p + 2) = 48
    · have hz : zde (zlt t n) (p + 2) = p + 2 + 1 := by unfold zde; rw [if_pos h48]
      have hin : p + 2 < n := by
        by_cases c : p + 2 < n
        · exact c
        · have := hLn (p + 2) (by omega); omega
      obtain ⟨g1, g2, g3, g4⟩ := facts 0 (by omega)
      obtain ⟨f1, f2, f3, f4⟩ := facts 1 (by omega)
      rw [show p + 2 + (0 : Int) = p + 2 from by omega] at g1 g2 g3 g4
      have hfin := fin 1 0 (by rw [hz]; rfl) (by
        show (0 : Int) = 10 * 0 + zlt t n (p + 2 + ((0 : Nat) : Int)) - 48
        rw [show p + 2 + ((0 : Nat) : Int) = p + 2 from by omega, h48]
        rfl)
      rw [show ((1 : Nat) : Int) = 1 from rfl] at hfin
      apply TX12_reads_158 <;> (try rw [g2]) <;> (try rw [g3]) <;> (try rw [g4]) <;> (try (intros; omega))
      intro _
      refine okX12_letter g1 g2 (by omega) (fun _ => ?_) (by intros; omega)
      apply TX12_reads_173 <;> (try rw [g3]) <;> (try (intros; omega))
      intro _
      refine okX12_letter g1 g2 (by omega) (fun _ => ?_) (by intros; omega)
      apply TX12_reads_182 <;> (try rw [g3]) <;> (try (intros; omega))
      intro _ _ _
      refine okX12_letter g1 g2 (by omega) (fun _ => ?_) (by intros; omega)
      apply TX12_reads_210 <;> (try rw [g2]) <;> (try (intros; omega))
      have e1 : zup (zup s1 98 87 (p + 2)) 98 87 (p + 2 + 1) = zup s1 98 87 (p + 2 + 1) := by
        funext a b
        unfold zup
        by_cases c : a = 98 ∧ b = 87
        · rw [if_pos c, if_pos c]
        · rw [if_neg c, if_neg c, if_neg c]
      rw [e1, h48]
      have q1 := hfin.1 (by omega)
      apply TX12_reads_158 <;> (try rw [f2]) <;> (try rw [f3]) <;> (try rw [f4]) <;> (try (intros; omega))
      · intro _
        refine okX12_letter f1 f2 (by omega) (fun _ => ?_) (by intros; omega)
        apply TX12_reads_173 <;> (try rw [f3]) <;> (try (intros; omega))
        · intro _
          refine okX12_letter f1 f2 (by omega) (fun _ => ?_) (by intros; omega)
          apply TX12_reads_182 <;> (try rw [f3]) <;> (try (intros; omega))
          exact fun _ _ => q1
        · exact fun _ _ => q1
      · exact fun _ _ => q1
    · have := loop h48 4 0 rfl (by
        unfold zde
        rw [if_neg h48, show p + 2 + ((0 : Nat) : Int) = p + 2 from by omega]) (fun i a b => by omega)
      rw [show p + 2 + ((0 : Nat) : Int) = p + 2 from by omega] at this
      exact this
  refine TX12_reads (okX12_letter ht hp h0.1 (fun _ => ?_) (by intros; omega))
  have e43 := ht.2.1
  have hset : ∀ v, zparM (zup (zup s 162 m (zlt t n p)) 98 87 v) t n := by
    intro v
    refine ⟨ht.1, by simp [zup, e43], ?_⟩
    rw [zup_ne (by decide), zup_ne (by decide)]
    exact ht.2.2
  apply TX12_reads_4 <;> (try rw [hp]) <;> (try rw [hm]) <;> (try rw [e43]) <;> (try (intros; omega))
  · intro h1 _
    unfold zrd at k1
    rw [if_pos h1] at k1
    refine k1 rfl _ (zfr_uF rfl (zfr_uF rfl (zfr_uA rfl zfr_0))) (by simp [zup]) (by simp [zup]) (fun i hi => by simp [zup, hi]) ?_ ?_ (Or.inl ?_)
    · rw [zup_of (by decide), zup_of (by decide), zup_same]
      exact Or.inl h1
    · rw [zup_of (by decide), zup_of (by decide), zup_same]
      exact h1
    · rw [zup_of (by decide), zup_of (by decide), zup_same]
      exact h1
  · intro h1 h2
    unfold zrd at k2
    rw [if_neg (by omega), if_pos (by omega)] at k2
    exact k2 (by show p ≠ -1; omega) _ (zfr_uA rfl zfr_0) (by simp [zup, hp])
  · intro h1 _ h2
    have e87 : (zup (zup s 162 m (zlt t n p)) 98 87 (p + 1)) 98 87 = p + 1 := zup_same
    have e43' : (zup (zup s 162 m (zlt t n p)) 98 87 (p + 1)) 98 43 = n := (hset (p + 1)).2.1
    have bad : (zlt t n (p + 1) ≠ 60 ∧ zlt t n (p + 1) ≠ 62 ∧ zlt t n (p + 1) ≠ 61) → Q 0 (zup (zup s 162 m (zlt t n p)) 98 87 (p + 1)) := by
      intro h4
      unfold zrd at k2
      rw [if_neg (by omega), if_neg (by omega), if_pos h4] at k2
      exact k2 (by show p + 1 ≠ -1; omega) _ (zfr_uF rfl (zfr_uA rfl zfr_0)) zup_same
    refine okX12_letter (hset (p + 1)) e87 (by omega) (fun hlt => ?_) (fun hge => ?_)
    · apply TX12_reads_111 <;> (try rw [e87]) <;> (try rw [e43']) <;> (try (intros; omega))
      · intro h3
        exact bad (by omega)
      · intro _ h3
        have e1 : zup (zup (zup s 162 m (zlt t n p)) 98 87 (p + 1)) 98 87 (p + 1 + 1) = zup (zup s 162 m (zlt t n p)) 98 87 (p + 2) := by
          funext a b
          unfold zup
          by_cases c : a = 98 ∧ b = 87
          · rw [if_pos c, if_pos c]; omega
          · rw [if_neg c, if_neg c, if_neg c]
        rw [e1]
        exact num _ _ _ (zfr_uA rfl zfr_0) (by simp [zup, hm]) (by simp [zup]) (fun i hi => by simp [zup, hi]) rfl rfl (by omega) (by omega) (by omega)
    · have := hLn (p + 1) hge
      apply TX12_reads_111 <;> (try rw [e87]) <;> (try rw [e43']) <;> (try (intros; omega))
      intro h3
      exact bad (by omega)
end LM
