/-! CALLS: exchange, orbits -/
theorem zit_add {f : Int → Int} : ∀ (a b : Nat) (x : Int), zit f (a + b) x = zit f b (zit f a x) := by
  intro a
  induction a with
  | zero => intro b x; rw [Nat.zero_add]; rfl
  | succ a ih =>
    intro b x
    rw [show a + 1 + b = (a + b) + 1 from by omega]
    exact ih b (f x)
def zper (f : Int → Int) (x : Int) : Prop := ∃ p : Nat, 1 ≤ p ∧ zit f p x = x
def zorb (f : Int → Int) (x y : Int) : Prop := ∃ k : Nat, zit f k x = y
theorem zper_mul {f : Int → Int} {x : Int} {p : Nat} (h : zit f p x = x) : ∀ m : Nat, zit f (p * m) x = x := by
  intro m
  induction m with
  | zero => rfl
  | succ m ih => rw [Nat.mul_succ, zit_add, ih, h]
theorem zper_it {f : Int → Int} {x : Int} (h : zper f x) (k : Nat) : zper f (zit f k x) := by
  obtain ⟨p, p1, hp⟩ := h
  refine ⟨p, p1, ?_⟩
  rw [← zit_add, Nat.add_comm, zit_add, hp]
theorem zorb_ring {f : Int → Int} {x : Int} (h : zper f x) : zring f (zorb f x) := by
  refine ⟨⟨x, 0, rfl⟩, ?_, ?_⟩
  · rintro y ⟨k, rfl⟩
    refine ⟨k + 1, ?_⟩
    rw [zit_add]
    rfl
  · rintro y z ⟨i, rfl⟩ ⟨j, rfl⟩
    obtain ⟨p, p1, hp⟩ := h
    have hm : i ≤ p * i := Nat.le_mul_of_pos_left i p1
    refine ⟨(p * i - i) + j, ?_⟩
    rw [zit_add, ← zit_add i (p * i - i), show i + (p * i - i) = p * i from by omega, zper_mul hp]
/-- N + 1 numbers below N: two are one -/
theorem zpigR {N : Nat} {g : Nat → Int} (hN : N ≤ 24) (h : ∀ i, i ≤ N → 0 ≤ g i ∧ g i < N) : ∃ i j, i < j ∧ j ≤ N ∧ g i = g j := by
  by_cases c : ∃ i j, i < j ∧ j ≤ N ∧ g i = g j
  · exact c
  · have hr : ∀ e : Int, 0 ≤ e → e < ((N + 1 : Nat) : Int) → 0 ≤ g e.toNat ∧ g e.toNat < 24 := by
      intro e e0 e1
      have := h e.toNat (by omega)
      omega
    have hj : ∀ e e' : Int, 0 ≤ e → e < e' → e' < ((N + 1 : Nat) : Int) → g e.toNat ≠ g e'.toNat := fun e e' a b d z => c ⟨e.toNat, e'.toNat, by omega, by omega, z⟩
    have h1 := zre_g (ow := fun e => g e.toNat) (f := fun _ => 1) (n := ((N + 1 : Nat) : Int)) hr hj (N + 1) (Int.le_refl _)
    have h2 : ∀ k : Nat, zps (fun _ => (1 : Int)) k = k := by
      intro k
      induction k with
      | zero => rfl
      | succ k ih =>
        show zps _ k + 1 = _
        rw [ih]
        omega
    rw [h2] at h1
    rw [zps_0 (k := N) hN (fun v v0 v1 => zif2_n (fun ⟨e, a, b⟩ => by
      have b' : g e.toNat = v := b
      have := h e.toNat (by omega)
      omega))] at h1
    have h3 := zps_b (g := fun v => zif2 (∃ e : Int, (0 ≤ e ∧ e < ((N + 1 : Nat) : Int)) ∧ g e.toNat = v) (1 : Int) 0) (B := 1) (n := N) (fun _ _ _ => zif2_b)
    omega
/-- N steps within fewer than N + 1 lead into a ring -/
theorem zper_N {N : Nat} {f : Int → Int} {S : Int → Prop} {x : Int} (hN : N ≤ 24) (hS : ∀ y, S y → 0 ≤ y ∧ y < N) (hf : ∀ y, S y → S (f y)) (hx : S x) : zper f (zit f N x) := by
  have hin : ∀ (k : Nat) (y : Int), S y → S (zit f k y) := by
    intro k
    induction k with
    | zero => exact fun y hy => hy
    | succ k ih => exact fun y hy => ih _ (hf y hy)
  obtain ⟨i, j, hij, hjN, e⟩ := zpigR (g := fun k => zit f k x) hN (fun k _ => hS _ (hin k x hx))
  have hp : zper f (zit f i x) := by
    refine ⟨j - i, by omega, ?_⟩
    rw [← zit_add, show i + (j - i) = j from by omega]
    exact e.symm
  have := zper_it hp (N - i)
  rw [← zit_add, show i + (N - i) = N from by omega] at this
  exact this
