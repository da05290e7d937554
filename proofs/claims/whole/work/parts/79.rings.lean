/-! CALLS: exchange, what rings come to, in whatever order -/
def zit (f : Int → Int) : Nat → Int → Int
  | 0, x => x
  | n + 1, x => zit f n (f x)
/-- C is one ring of f -/
def zring (f : Int → Int) (C : Int → Prop) : Prop := (∃ x, C x) ∧ (∀ x, C x → C (f x)) ∧ ∀ x y, C x → C y → ∃ k, zit f k x = y
theorem zring_it {f : Int → Int} {C : Int → Prop} (h : zring f C) : ∀ (k : Nat) (x : Int), C x → C (zit f k x) := by
  intro k
  induction k with
  | zero => exact fun x hx => hx
  | succ k ih => exact fun x hx => ih (f x) (h.2.1 x hx)
theorem zring_eq {f : Int → Int} {C D : Int → Prop} {x : Int} (h : zring f C) (h' : zring f D) (hx : C x) (hx' : D x) : C = D := by
  funext y
  apply propext
  constructor
  · intro hy
    obtain ⟨k, e⟩ := h.2.2 x y hx hy
    rw [← e]
    exact zring_it h' k x hx'
  · intro hy
    obtain ⟨k, e⟩ := h'.2.2 x y hx' hy
    rw [← e]
    exact zring_it h k x hx
theorem zring_cg {f g : Int → Int} {C : Int → Prop} (h : zring f C) (e : ∀ x, C x → g x = f x) : zring g C := by
  have it : ∀ (k : Nat) (x : Int), C x → zit g k x = zit f k x := by
    intro k
    induction k with
    | zero => exact fun x _ => rfl
    | succ k ih =>
      intro x hx
      show zit g k (g x) = zit f k (f x)
      rw [e x hx]
      exact ih _ (h.2.1 x hx)
  refine ⟨h.1, fun x hx => by rw [e x hx]; exact h.2.1 x hx, fun x y hx hy => ?_⟩
  obtain ⟨k, z⟩ := h.2.2 x y hx hy
  exact ⟨k, by rw [it k x hx]; exact z⟩
/-- m is what comes of S, ring by ring -/
def zTtc (F : (Int → Prop) → Int → Int) (m : Int → Int) : Nat → (Int → Prop) → Prop
  | 0, S => ∀ x, ¬ S x
  | n + 1, S => (∀ x, ¬ S x) ∨ ∃ C : Int → Prop, zring (F S) C ∧ (∀ x, C x → S x) ∧ (∀ x, C x → m x = F S x) ∧ zTtc F m n (fun x => S x ∧ ¬ C x)
/-- who points to one that is left points there still -/
def zhold (F : (Int → Prop) → Int → Int) : Prop := ∀ (S S' : Int → Prop) (w : Int), (∀ x, S' x → S x) → S' w → S' (F S w) → F S' w = F S w
theorem zTtc_ring {F : (Int → Prop) → Int → Int} {m : Int → Int} (hF : zhold F) : ∀ (n : Nat) (S C : Int → Prop), zTtc F m (n + 1) S → zring (F S) C → (∀ x, C x → S x) → (∀ x, C x → m x = F S x) ∧ zTtc F m n (fun x => S x ∧ ¬ C x) := by
  intro n
  induction n with
  | zero =>
    intro S C h hC hS
    obtain ⟨x0, hx0⟩ := hC.1
    rcases h with h | ⟨D, hD, hDS, hDm, hT⟩
    · exact absurd (hS x0 hx0) (h x0)
    · by_cases c : D x0
      · have := zring_eq hC hD hx0 c
        subst this
        exact ⟨hDm, hT⟩
      · exact absurd ⟨hS x0 hx0, c⟩ (hT x0)
  | succ n ih =>
    intro S C h hC hS
    obtain ⟨x0, hx0⟩ := hC.1
    rcases h with h | ⟨D, hD, hDS, hDm, hT⟩
    · exact absurd (hS x0 hx0) (h x0)
    · by_cases c : ∃ x, C x ∧ D x
      · obtain ⟨x, a, b⟩ := c
        have := zring_eq hC hD a b
        subst this
        exact ⟨hDm, hT⟩
      · have hCD : ∀ x, C x → ¬ D x := fun x a b => c ⟨x, a, b⟩
        have eC : ∀ x, C x → F (fun x => S x ∧ ¬ D x) x = F S x := fun x hx => hF S _ x (fun y hy => hy.1) ⟨hS x hx, hCD x hx⟩ ⟨hS _ (hC.2.1 x hx), hCD _ (hC.2.1 x hx)⟩
        have eD : ∀ x, D x → F (fun x => S x ∧ ¬ C x) x = F S x := fun x hx => hF S _ x (fun y hy => hy.1) ⟨hDS x hx, fun z => hCD x z hx⟩ ⟨hDS _ (hD.2.1 x hx), fun z => hCD _ z (hD.2.1 x hx)⟩
        obtain ⟨h1, h2⟩ := ih _ C hT (zring_cg hC eC) (fun x hx => ⟨hS x hx, hCD x hx⟩)
        refine ⟨fun x hx => by rw [h1 x hx]; exact eC x hx, Or.inr ⟨D, zring_cg hD eD, fun x hx => ⟨hDS x hx, fun z => hCD x z hx⟩, fun x hx => by rw [hDm x hx]; exact (eD x hx).symm, ?_⟩⟩
        have e : (fun x => (S x ∧ ¬ C x) ∧ ¬ D x) = (fun x => (S x ∧ ¬ D x) ∧ ¬ C x) := by
          funext x
          exact propext ⟨fun z => ⟨⟨z.1.1, z.2⟩, z.1.2⟩, fun z => ⟨⟨z.1.1, z.2⟩, z.1.2⟩⟩
        rw [e]
        exact h2
/-- what comes of S is one thing -/
theorem zTtc_one {F : (Int → Prop) → Int → Int} {m m' : Int → Int} (hF : zhold F) : ∀ (n' n : Nat) (S : Int → Prop), zTtc F m n S → zTtc F m' n' S → ∀ x, S x → m x = m' x := by
  intro n'
  induction n' with
  | zero => exact fun n S _ h' x hx => absurd hx (h' x)
  | succ n' ih =>
    intro n S h h' x hx
    rcases h' with h' | ⟨C, hC, hCS, hCm, hT⟩
    · exact absurd hx (h' x)
    · cases n with
      | zero => exact absurd hx (h x)
      | succ n =>
        obtain ⟨h1, h2⟩ := zTtc_ring hF n S C h hC hCS
        by_cases c : C x
        · rw [h1 x c, hCm x c]
        · exact ih n _ h2 hT x ⟨hx, c⟩
theorem zTtc_cg {F : (Int → Prop) → Int → Int} {m m' : Int → Int} : ∀ (n : Nat) (S : Int → Prop), (∀ x, S x → m' x = m x) → zTtc F m n S → zTtc F m' n S := by
  intro n
  induction n with
  | zero => exact fun S _ h => h
  | succ n ih =>
    intro S e h
    rcases h with h | ⟨C, hC, hCS, hCm, hT⟩
    · exact Or.inl h
    · exact Or.inr ⟨C, hC, hCS, fun x hx => by rw [e x (hCS x hx)]; exact hCm x hx, ih _ (fun x hx => e x hx.1) hT⟩
/-- one ring more ahead of it -/
theorem zTtc_step {F : (Int → Prop) → Int → Int} {m m' : Int → Int} {n : Nat} {S C : Int → Prop} (hC : zring (F S) C) (hCS : ∀ x, C x → S x) (h1 : ∀ x, C x → m' x = F S x) (h2 : ∀ x, S x → ¬ C x → m' x = m x) (hT : zTtc F m n (fun x => S x ∧ ¬ C x)) : zTtc F m' (n + 1) S :=
  Or.inr ⟨C, hC, hCS, h1, zTtc_cg n _ (fun x hx => h2 x hx.1 hx.2) hT⟩
