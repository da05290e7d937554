/-! THE LAW, as mathematics: texts are read from left to right, once -/
theorem zrem_nat {x : Int} (h0 : 0 ≤ x) (h1 : x < 2147483648) : zrem x 2 = x % 2 := by
  have h2 := zdiv_nat (d := 2) h0 h1 (by decide) (by decide)
  unfold zdiv at h2
  unfold zrem
  rw [Int32.toInt_sub, Int32.toInt_mul]
  rw [show ((2 : Nat) : Int) = 2 from rfl] at h2
  rw [h2, zI_toInt ⟨by omega, h1⟩, zI_toInt (by unfold zIn; omega)]
  have h3 : Int.bmod (((x.toNat / 2 : Nat) : Int) * 2) (2 ^ 32) = ((x.toNat / 2 : Nat) : Int) * 2 := by
    simp only [Int.bmod]
    split <;> omega
  rw [h3]
  simp only [Int.bmod]
  split <;> omega
/-- a letter of the text; 0 behind its end -/
def zlt (t : Int → Int) (n p : Int) : Int := if p < n then t p else 0
abbrev zdig (c : Int) : Prop := 48 ≤ c ∧ c ≤ 57
/-- behind the digits, at most so many -/
def zdeF (L : Int → Int) (p : Int) : Nat → Int
  | 0 => p
  | k + 1 => if zdig (L p) then zdeF L (p + 1) k else p
def zde (L : Int → Int) (p : Int) : Int := if L p = 48 then p + 1 else zdeF L p 4
theorem zdeF_b (L : Int → Int) : ∀ (k : Nat) (p : Int), p ≤ zdeF L p k ∧ zdeF L p k ≤ p + k ∧ ∀ i, p ≤ i → i < zdeF L p k → zdig (L i) := by
  intro k
  induction k with
  | zero => intro p; unfold zdeF; exact ⟨by omega, by omega, fun i a b => by omega⟩
  | succ k ih =>
    intro p
    unfold zdeF
    by_cases h : zdig (L p)
    · rw [if_pos h]
      have h2 := ih (p + 1)
      refine ⟨by omega, by omega, fun i a b => ?_⟩
      by_cases e : i = p
      · rw [e]; exact h
      · exact h2.2.2 i (by omega) b
    · rw [if_neg h]
      exact ⟨by omega, by omega, fun i a b => by omega⟩
theorem zde_b (L : Int → Int) (p : Int) : p ≤ zde L p ∧ zde L p ≤ p + 4 ∧ ∀ i, p ≤ i → i < zde L p → zdig (L i) := by
  unfold zde
  by_cases h : L p = 48
  · rw [if_pos h]
    refine ⟨by omega, by omega, fun i a b => ?_⟩
    rw [show i = p from by omega, h]
    omega
  · rw [if_neg h]
    have := zdeF_b L 4 p
    exact this
/-- the number that k digits spell -/
def znum (L : Int → Int) (p : Int) : Nat → Int
  | 0 => 0
  | k + 1 => 10 * znum L p k + L (p + k) - 48
theorem znum_b (L : Int → Int) (p : Int) : ∀ k : Nat, k ≤ 4 → (∀ i, p ≤ i → i < p + k → zdig (L i)) → 0 ≤ znum L p k ∧ znum L p k ≤ 10 ^ k - 1 := by
  intro k
  induction k with
  | zero => intro _ _; unfold znum; omega
  | succ k ih =>
    intro h1 h
    have h2 := ih (by omega) (fun i a b => h i a (by omega))
    have h3 := h (p + k) (by omega) (by omega)
    unfold znum
    have : (10 : Int) ^ (k + 1) = 10 * 10 ^ k := by rw [Int.pow_succ]; omega
    omega
/-- the test at a place: its fault or -1, where it ends, sign, operator, number -/
abbrev zTest : Type := Int × Int × Int × Int × Int
abbrev zTest_f (x : zTest) : Int := x.1
abbrev zTest_e (x : zTest) : Int := x.2.1
abbrev zTest_s (x : zTest) : Int := x.2.2.1
abbrev zTest_o (x : zTest) : Int := x.2.2.2.1
abbrev zTest_m (x : zTest) : Int := x.2.2.2.2
def zrd (L : Int → Int) (p : Int) : zTest :=
  if L p = 119 then ⟨-1, p + 1, 119, 0, 0⟩
  else if L p ≠ 97 ∧ L p ≠ 107 ∧ L p ≠ 100 ∧ L p ≠ 114 ∧ L p ≠ 116 then ⟨p, p, 0, 0, 0⟩
  else if L (p + 1) ≠ 60 ∧ L (p + 1) ≠ 62 ∧ L (p + 1) ≠ 61 then ⟨p + 1, p, 0, 0, 0⟩
  else if zde L (p + 2) = p + 2 then ⟨p + 2, p, 0, 0, 0⟩
  else ⟨-1, zde L (p + 2), L p, L (p + 1), znum L (p + 2) (zde L (p + 2) - (p + 2)).toNat⟩
/-- values: 0, 1, 2 (open) -/
def zcmp (v o m : Int) : Int := if o = 60 then (if v < m then 1 else 0) else if o = 62 then (if m < v then 1 else 0) else if v = m then 1 else 0
def zktst (K N o m : Int) : Int := if o = 60 then (if K < m then 1 else if N < m then 2 else 0) else if o = 62 then (if K ≤ m then 0 else if N ≤ m then 2 else 1)
  else if K = m then (if N < m then 2 else 1) else if m < K ∧ N ≤ m then 2 else 0
/-- what is known of one: years, learning, wed, income, terms, kin, near -/
abbrev zOne : Type := Int × Int × Int × Int × Int × Int × Int
abbrev zOne_Y (x : zOne) : Int := x.1
abbrev zOne_D (x : zOne) : Int := x.2.1
abbrev zOne_W (x : zOne) : Int := x.2.2.1
abbrev zOne_R (x : zOne) : Int := x.2.2.2.1
abbrev zOne_T (x : zOne) : Int := x.2.2.2.2.1
abbrev zOne_K (x : zOne) : Int := x.2.2.2.2.2.1
abbrev zOne_N (x : zOne) : Int := x.2.2.2.2.2.2
def ztv (u : zOne) (s o m : Int) : Int :=
  if s = 119 then (if 0 < zOne_W u then 1 else 0) else if s = 107 then zktst (zOne_K u) (zOne_N u) o m else zcmp (if s = 100 then zOne_D u else if s = 114 then zOne_R u else if s = 116 then zOne_T u else zOne_Y u) o m
def zv3 (v : Int) : Prop := v = 0 ∨ v = 1 ∨ v = 2
theorem ztv_3 (u : zOne) (s o m : Int) : zv3 (ztv u s o m) := by
  unfold ztv zktst zcmp zv3
  repeat' split
  all_goals omega
def znot (k v : Int) : Int := if k % 2 = 1 ∧ v ≠ 2 then 1 - v else v
def zboth (a b : Int) : Int := if a = 0 ∨ b = 0 then 0 else if a = 2 then 2 else b
def zeith (a b : Int) : Int := if a = 1 ∨ b = 1 then 1 else if a = 2 then 2 else b
def zdep : List (Int × Int × Int) → Int
  | [] => -1
  | x :: r => zdep r + 1 + x.2.2
def zendp (v : Int) (x : Int × Int × Int) : Int × Int × Int := (x.1, zboth x.2.1 (znot x.2.2 v), 0)
/-- what comes out: fault or -1, tests, their values, the value -/
abbrev zRes : Type := Int × Int × (Int → Int) × Int
abbrev zRes_f (x : zRes) : Int := x.1
abbrev zRes_m (x : zRes) : Int := x.2.1
abbrev zRes_V (x : zRes) : Int → Int := x.2.2.1
abbrev zRes_x (x : zRes) : Int := x.2.2.2
def zgo (L : Int → Int) (n : Int) (u : zOne) : Nat → Int → Bool → Int → (Int → Int) → List (Int × Int × Int) → zRes
  | 0, _, _, m, V, _ => (n, m, V, 0)
  | _ + 1, _, _, m, V, [] => (n, m, V, 0)
  | f + 1, p, due, m, V, x :: r =>
      if n ≤ p then (if due = true ∨ r ≠ [] then (n, m, V, 0) else (-1, m, V, zeith x.1 x.2.1))
      else if due = true then
        (if L p = 33 then (if zdep (x :: r) = 30 then (p, m, V, 0) else zgo L n u f (p + 1) due m V ((x.1, x.2.1, x.2.2 + 1) :: r))
        else if L p = 40 then (if zdep (x :: r) = 30 then (p, m, V, 0) else zgo L n u f (p + 1) due m V ((0, 1, 0) :: x :: r))
        else if zTest_f (zrd L p) ≠ -1 then (zTest_f (zrd L p), m, V, 0)
        else zgo L n u f (zTest_e (zrd L p)) false (m + 1) (zupd1 V m (ztv u (zTest_s (zrd L p)) (zTest_o (zrd L p)) (zTest_m (zrd L p)))) (zendp (ztv u (zTest_s (zrd L p)) (zTest_o (zrd L p)) (zTest_m (zrd L p))) x :: r))
      else if L p = 38 then zgo L n u f (p + 1) true m V (x :: r)
      else if L p = 124 then zgo L n u f (p + 1) true m V ((zeith x.1 x.2.1, 1, x.2.2) :: r)
      else if L p = 41 then (match r with
        | [] => (p, m, V, 0)
        | y :: r' => zgo L n u f (p + 1) due m V (zendp (zeith x.1 x.2.1) y :: r'))
      else (p, m, V, 0)
def zlaw (L : Int → Int) (n : Int) (u : zOne) : zRes := zgo L n u 201 0 true 0 (fun _ => 0) [(0, 1, 0)]
/-- levels in three rows -/
def zlvs (O A N : Int → Int) : List (Int × Int × Int) → Prop
  | [] => True
  | x :: r => (O r.length = x.1 ∧ A r.length = x.2.1 ∧ N r.length = x.2.2) ∧ zlvs O A N r
theorem zlvs_eq {O A N O' A' N' : Int → Int} : ∀ {l : List (Int × Int × Int)}, (∀ i : Int, 0 ≤ i → i < l.length → O' i = O i ∧ A' i = A i ∧ N' i = N i) → zlvs O A N l → zlvs O' A' N' l := by
  intro l
  induction l with
  | nil => intro _ _; trivial
  | cons x r ih =>
    intro h hz
    have h1 := h r.length (by omega) (by simp only [List.length_cons]; omega)
    refine ⟨by rw [h1.1, h1.2.1, h1.2.2]; exact hz.1, ih (fun i a b => h i a (by simp only [List.length_cons]; omega)) hz.2⟩
def znn : List (Int × Int × Int) → Prop
  | [] => True
  | x :: r => 0 ≤ x.2.2 ∧ znn r
theorem zdep_b : ∀ {l : List (Int × Int × Int)}, znn l → (l.length : Int) - 1 ≤ zdep l := by
  intro l
  induction l with
  | nil => intro _; simp only [zdep, List.length_nil]; omega
  | cons x r ih =>
    intro h
    have h1 := ih h.2
    have h2 := h.1
    simp only [zdep, List.length_cons]
    omega
