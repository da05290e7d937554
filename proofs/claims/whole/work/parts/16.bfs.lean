/-! STEPS UP, counted along a line: what class and model do alike, as mathematics -/
def zball (E : Int → Int → Prop) (S : Int → Prop) : Nat → Int → Prop
  | 0, p => S p
  | d + 1, p => zball E S d p ∨ ∃ q, zball E S d q ∧ E q p
/-- no more different places below n than n -/
theorem zpig : ∀ (n k : Nat) (f : Int → Int), (∀ i : Int, 0 ≤ i → i < k → 0 ≤ f i ∧ f i < n) → (∀ i j : Int, 0 ≤ i → i < j → j < k → f i ≠ f j) → k ≤ n := by
  intro n
  induction n with
  | zero =>
    intro k f h1 h2
    by_cases hk : k = 0
    · omega
    · have := h1 0 (by omega) (by omega)
      omega
  | succ n ih =>
    intro k f h1 h2
    by_cases hk : k = 0
    · omega
    · by_cases hx : ∃ i : Int, 0 ≤ i ∧ i < k ∧ f i = n
      · obtain ⟨i0, a1, a2, a3⟩ := hx
        have h := ih (k - 1) (fun i => if i = i0 then f ((k : Int) - 1) else f i) (fun i b1 b2 => ?_) (fun i j b1 b2 b3 => ?_)
        · omega
        · by_cases c : i = i0
          · simp only [c, if_true]
            have h3 := h1 ((k : Int) - 1) (by omega) (by omega)
            have h4 := h2 i0 ((k : Int) - 1) a1 (by omega) (by omega)
            omega
          · simp only [c, if_false]
            have h3 := h1 i b1 (by omega)
            have h4 : f i ≠ f i0 := by
              by_cases d : i < i0
              · exact h2 i i0 b1 d a2
              · exact (h2 i0 i a1 (by omega) (by omega)).symm
            omega
        · by_cases c : i = i0
          · have d : ¬ j = i0 := by omega
            simp only [c, d, if_true, if_false]
            exact (h2 j ((k : Int) - 1) (by omega) (by omega) (by omega)).symm
          · by_cases d : j = i0
            · simp only [c, d, if_true, if_false]
              exact h2 i ((k : Int) - 1) b1 (by omega) (by omega)
            · simp only [c, d, if_false]
              exact h2 i j b1 b2 (by omega)
      · have h := ih k f (fun i b1 b2 => ?_) h2
        · omega
        · have h3 := h1 i b1 b2
          have h4 : f i ≠ n := fun z => hx ⟨i, b1, b2, z⟩
          omega
/-- the state of a count of steps: F stands for none; st the steps, ln the line, of which nx have been gone on from, wt stand in it -/
def zbfs (F n : Int) (E : Int → Int → Prop) (S : Int → Prop) (st ln : Int → Int) (nx wt : Int) : Prop :=
  (0 ≤ nx ∧ nx ≤ wt) ∧
  (∀ i, 0 ≤ i → i < wt → (0 ≤ ln i ∧ ln i < n) ∧ 0 ≤ st (ln i) ∧ st (ln i) ≤ i) ∧
  (∀ p, 0 ≤ p → p < n → st p ≠ F → ∃ i, 0 ≤ i ∧ i < wt ∧ ln i = p) ∧
  (∀ i j, 0 ≤ i → i < j → j < wt → ln i ≠ ln j ∧ st (ln i) ≤ st (ln j)) ∧
  (∀ i, 0 ≤ i → i < wt → nx < wt → st (ln i) ≤ st (ln nx) + 1) ∧
  (∀ i, 0 ≤ i → i < wt → zball E S (st (ln i)).toNat (ln i)) ∧
  (∀ p, S p → (0 ≤ p ∧ p < n) ∧ st p = 0) ∧
  (∀ i q, 0 ≤ i → i < nx → E (ln i) q → st q ≠ F ∧ st q ≤ st (ln i) + 1)
theorem zbfs_wt {F n : Int} {E : Int → Int → Prop} {S : Int → Prop} {st ln : Int → Int} {nx wt : Int} (h : zbfs F n E S st ln nx wt) (hn : 0 ≤ n) : wt ≤ n := by
  obtain ⟨h0, h1, h2, h3, h4, h5, h6, h7⟩ := h
  have := zpig n.toNat wt.toNat ln (fun i a b => by have := (h1 i a (by omega)).1; omega) (fun i j a b c => (h3 i j a b (by omega)).1)
  omega
def zupd1 (f : Int → Int) (k v : Int) : Int → Int := fun j => if j = k then v else f j
/-- a new one comes into the line, a step behind the one that is gone on from -/
theorem zbfs_new {F n : Int} {E : Int → Int → Prop} {S : Int → Prop} {st ln : Int → Int} {nx wt q : Int} (h : zbfs F n E S st ln nx wt) (hF : F < 0 ∨ n < F) (hx : nx < wt) (hE : E (ln nx) q) (hq : 0 ≤ q ∧ q < n) (hs : st q = F) :
    zbfs F n E S (zupd1 st q (st (ln nx) + 1)) (zupd1 ln wt q) nx (wt + 1) ∧ wt < n := by
  have hw := zbfs_wt h (by omega)
  obtain ⟨h0, h1, h2, h3, h4, h5, h6, h7⟩ := h
  have hne : ∀ i, 0 ≤ i → i < wt → ln i ≠ q := by
    intro i a b z
    have := h1 i a b
    rw [z, hs] at this
    omega
  have hl : ∀ i, i < wt → zupd1 ln wt q i = ln i := fun i a => by unfold zupd1; rw [if_neg (by omega)]
  have hlw : zupd1 ln wt q wt = q := by unfold zupd1; rw [if_pos rfl]
  have hst : ∀ i, 0 ≤ i → i < wt → zupd1 st q (st (ln nx) + 1) (ln i) = st (ln i) := fun i a b => by unfold zupd1; rw [if_neg (hne i a b)]
  have hsq : zupd1 st q (st (ln nx) + 1) q = st (ln nx) + 1 := by unfold zupd1; rw [if_pos rfl]
  have hso : ∀ p, p ≠ q → zupd1 st q (st (ln nx) + 1) p = st p := fun p a => by unfold zupd1; rw [if_neg a]
  have hnx := h1 nx h0.1 hx
  have big : zbfs F n E S (zupd1 st q (st (ln nx) + 1)) (zupd1 ln wt q) nx (wt + 1) := by
    refine ⟨⟨h0.1, by omega⟩, fun i a b => ?_, fun p a b c => ?_, fun i j a b c => ?_, fun i a b c => ?_, fun i a b => ?_, fun p a => ?_, fun i q' a b c => ?_⟩
    · by_cases e : i < wt
      · rw [hl i e, hst i a e]; exact h1 i a e
      · have : i = wt := by omega
        subst this
        rw [hlw, hsq]
        omega
    · by_cases e : p = q
      · exact ⟨wt, by omega, by omega, by rw [hlw, e]⟩
      · rw [hso p e] at c
        obtain ⟨i, x, y, z⟩ := h2 p a b c
        exact ⟨i, x, by omega, by rw [hl i y, z]⟩
    · by_cases e : j < wt
      · rw [hl i (by omega), hl j e, hst i a (by omega), hst j (by omega) e]; exact h3 i j a b e
      · have : j = wt := by omega
        subst this
        rw [hl i (by omega), hlw, hst i a (by omega), hsq]
        exact ⟨hne i a (by omega), h4 i a (by omega) hx⟩
    · rw [hl nx hx, hst nx h0.1 hx]
      by_cases e : i < wt
      · rw [hl i e, hst i a e]; exact h4 i a e hx
      · have : i = wt := by omega
        subst this
        rw [hlw, hsq]
        omega
    · by_cases e : i < wt
      · rw [hl i e, hst i a e]; exact h5 i a e
      · have : i = wt := by omega
        subst this
        rw [hlw, hsq]
        have e2 : (st (ln nx) + 1).toNat = (st (ln nx)).toNat + 1 := by omega
        rw [e2]
        exact Or.inr ⟨ln nx, h5 nx h0.1 hx, hE⟩
    · have h8 := h6 p a
      refine ⟨h8.1, ?_⟩
      rw [hso p (fun z => by rw [z, hs] at h8; omega)]
      exact h8.2
    · rw [hl i (by omega)] at c ⊢
      rw [hst i a (by omega)]
      have h8 := h7 i q' a b c
      rw [hso q' (fun z => h8.1 (by rw [z]; exact hs))]
      exact h8
  exact ⟨big, by have := zbfs_wt big (by omega); omega⟩
/-- one that is there already is no farther than a step behind -/
theorem zbfs_old {F n : Int} {E : Int → Int → Prop} {S : Int → Prop} {st ln : Int → Int} {nx wt q : Int} (h : zbfs F n E S st ln nx wt) (hx : nx < wt) (hq : 0 ≤ q ∧ q < n) (hs : st q ≠ F) : st q ≤ st (ln nx) + 1 := by
  obtain ⟨h0, h1, h2, h3, h4, h5, h6, h7⟩ := h
  obtain ⟨i, x, y, rfl⟩ := h2 q hq.1 hq.2 hs
  exact h4 i x y hx
/-- on to the next one -/
theorem zbfs_next {F n : Int} {E : Int → Int → Prop} {S : Int → Prop} {st ln : Int → Int} {nx wt : Int} (h : zbfs F n E S st ln nx wt) (hx : nx < wt) (hd : ∀ q, E (ln nx) q → st q ≠ F ∧ st q ≤ st (ln nx) + 1) : zbfs F n E S st ln (nx + 1) wt := by
  obtain ⟨h0, h1, h2, h3, h4, h5, h6, h7⟩ := h
  refine ⟨⟨by omega, by omega⟩, h1, h2, h3, fun i a b c => ?_, h5, h6, fun i q a b c => ?_⟩
  · have e1 := h4 i a b hx
    have e2 := (h3 nx (nx + 1) h0.1 (by omega) c).2
    omega
  · by_cases e : i < nx
    · exact h7 i q a e c
    · have : i = nx := by omega
      subst this
      exact hd q c
/-- at the end: the steps are the least -/
theorem zbfs_end {F n : Int} {E : Int → Int → Prop} {S : Int → Prop} {st ln : Int → Int} {nx wt : Int} (h : zbfs F n E S st ln nx wt) (hF : F < 0 ∨ n < F) (hx : wt ≤ nx) (hn : 0 ≤ n) (hE : ∀ p q, 0 ≤ p → p < n → E p q → 0 ≤ q ∧ q < n) :
    ∀ p, 0 ≤ p → p < n → (st p ≠ F → 0 ≤ st p ∧ st p < n ∧ zball E S (st p).toNat p) ∧ ∀ d : Nat, zball E S d p → st p ≠ F ∧ st p ≤ d := by
  have hw := zbfs_wt h hn
  obtain ⟨h0, h1, h2, h3, h4, h5, h6, h7⟩ := h
  have hF0 : F ≠ 0 := by omega
  have comp : ∀ (d : Nat) (p : Int), zball E S d p → (0 ≤ p ∧ p < n) ∧ st p ≠ F ∧ st p ≤ d := by
    intro d
    induction d with
    | zero =>
      intro p hp
      have h8 := h6 p hp
      exact ⟨h8.1, by rw [h8.2]; exact fun z => hF0 z.symm, by omega⟩
    | succ d ih =>
      intro p hp
      rcases hp with hp | ⟨q, hq, he⟩
      · have := ih p hp
        exact ⟨this.1, this.2.1, by omega⟩
      · have h8 := ih q hq
        obtain ⟨i, x, y, rfl⟩ := h2 q h8.1.1 h8.1.2 h8.2.1
        have h9 := h7 i p x (by omega) he
        exact ⟨hE _ p h8.1.1 h8.1.2 he, h9.1, by omega⟩
  intro p a b
  refine ⟨fun c => ?_, fun d hd => (comp d p hd).2⟩
  obtain ⟨i, x, y, rfl⟩ := h2 p a b c
  have h8 := h1 i x y
  exact ⟨h8.2.1, by omega, h5 i x y⟩
/-- the least steps are one number -/
theorem zbfs_one {E : Int → Int → Prop} {S : Int → Prop} {p a b : Int} (ha : 0 ≤ a ∧ zball E S a.toNat p) (hb : 0 ≤ b ∧ zball E S b.toNat p) (la : ∀ d : Nat, zball E S d p → a ≤ d) (lb : ∀ d : Nat, zball E S d p → b ≤ d) : a = b := by
  have h1 := la _ hb.2
  have h2 := lb _ ha.2
  omega
