/-! THE ABSTRACT MACHINE: values, states of the fixed world, what it is to stand at a place of a method -/
abbrev zV : Type := Int ⊕ Int ⊕ Nat ⊕ Unit
abbrev zi (x : Int) : zV := .inl x
abbrev zl (x : Int) : zV := .inr (.inl x)
abbrev zr (q : Nat) : zV := .inr (.inr (.inl q))
abbrev zu : zV := .inr (.inr (.inr ()))
/-- an int out of any whole number, a long out of any -/
def zW (x : Int) : Int := (x + 2147483648) % 4294967296 - 2147483648
def zWL (x : Int) : Int := (x + 9223372036854775808) % 18446744073709551616 - 9223372036854775808
def zIn (x : Int) : Prop := -2147483648 ≤ x ∧ x < 2147483648
def zLn (x : Int) : Prop := -9223372036854775808 ≤ x ∧ x < 9223372036854775808
abbrev zS : Type := Nat → Int → Int
def zup (σ : zS) (i : Nat) (j v : Int) : zS := fun a b => if a = i ∧ b = j then v else σ a b
def zok : zV → Prop
  | .inl x => zIn x
  | .inr (.inl x) => zLn x
  | _ => True
theorem zIn_W (x : Int) : zIn (zW x) := by unfold zIn zW; omega
theorem zLn_W (x : Int) : zLn (zWL x) := by unfold zLn zWL; omega
theorem zW_id {x : Int} (h : zIn x) : zW x = x := by unfold zIn at h; unfold zW; omega
theorem zW_eq {x : Int} (h1 : -2147483648 ≤ x) (h2 : x < 2147483648) : zW x = x := zW_id ⟨h1, h2⟩
theorem zWL_id {x : Int} (h : zLn x) : zWL x = x := by unfold zLn at h; unfold zWL; omega
theorem zIn_Ln {x : Int} (h : zIn x) : zLn x := by unfold zIn at h; unfold zLn; omega
theorem zI_W (x : Int) : Int32.ofInt (zW x) = Int32.ofInt x := by
  apply Int32.toInt_inj.mp
  rw [Int32.toInt_ofInt, Int32.toInt_ofInt]
  unfold zW
  simp only [Int.bmod, Int32.size]
  split <;> split <;> omega
theorem zL_W (x : Int) : Int64.ofInt (zWL x) = Int64.ofInt x := by
  apply Int64.toInt_inj.mp
  rw [Int64.toInt_ofInt, Int64.toInt_ofInt]
  unfold zWL
  simp only [Int.bmod, Int64.size]
  split <;> split <;> omega
theorem zI_toInt {x : Int} (h : zIn x) : (Int32.ofInt x).toInt = x := by
  rw [Int32.toInt_ofInt]
  unfold zIn at h
  simp only [Int.bmod, Int32.size]
  split <;> omega
theorem zL_toInt {x : Int} (h : zLn x) : (Int64.ofInt x).toInt = x := by
  rw [Int64.toInt_ofInt]
  unfold zLn at h
  simp only [Int.bmod, Int64.size]
  split <;> omega
theorem zI_of (w : Int32) : Int32.ofInt w.toInt = w := by
  apply Int32.toInt_inj.mp
  rw [zI_toInt ⟨Int32.le_toInt w, Int32.toInt_lt w⟩]
theorem zL_of (w : Int64) : Int64.ofInt w.toInt = w := by
  apply Int64.toInt_inj.mp
  rw [zL_toInt ⟨Int64.le_toInt w, Int64.toInt_lt w⟩]
theorem zIn_of (w : Int32) : zIn w.toInt := ⟨Int32.le_toInt w, Int32.toInt_lt w⟩
theorem zLn_of (w : Int64) : zLn w.toInt := ⟨Int64.le_toInt w, Int64.toInt_lt w⟩
theorem zI_inj {x y : Int} (hx : zIn x) (hy : zIn y) : Int32.ofInt x = Int32.ofInt y ↔ x = y := by
  constructor
  · intro h
    have := congrArg Int32.toInt h
    rwa [zI_toInt hx, zI_toInt hy] at this
  · intro h; rw [h]
theorem zL_inj {x y : Int} (hx : zLn x) (hy : zLn y) : Int64.ofInt x = Int64.ofInt y ↔ x = y := by
  constructor
  · intro h
    have := congrArg Int64.toInt h
    rwa [zL_toInt hx, zL_toInt hy] at this
  · intro h; rw [h]
theorem zI_lt {x y : Int} (hx : zIn x) (hy : zIn y) : Int32.ofInt x < Int32.ofInt y ↔ x < y := by
  rw [Int32.lt_iff_toInt_lt, zI_toInt hx, zI_toInt hy]
theorem zI_le {x y : Int} (hx : zIn x) (hy : zIn y) : Int32.ofInt x ≤ Int32.ofInt y ↔ x ≤ y := by
  rw [Int32.le_iff_toInt_le, zI_toInt hx, zI_toInt hy]
theorem zI_clamp {x : Int} (h : zIn x) : (Int32.ofInt x).toNatClampNeg = x.toNat := by
  show (Int32.ofInt x).toInt.toNat = x.toNat
  rw [zI_toInt h]
/-- operations of bits, of quotients -/
def zand (x y : Int) : Int := (Int32.ofInt x &&& Int32.ofInt y).toInt
def zor (x y : Int) : Int := (Int32.ofInt x ||| Int32.ofInt y).toInt
def zxor (x y : Int) : Int := (Int32.ofInt x ^^^ Int32.ofInt y).toInt
def zshl (x y : Int) : Int := (Int32.ofInt x <<< (Int32.ofInt y &&& 31)).toInt
def zshr (x y : Int) : Int := (Int32.ofInt x >>> (Int32.ofInt y &&& 31)).toInt
def zushr (x y : Int) : Int := (((Int32.ofInt x).toUInt32 >>> ((Int32.ofInt y).toUInt32 &&& Int32.toUInt32 31)).toInt32).toInt
def zdiv (x y : Int) : Int := (Int32.ofInt x / Int32.ofInt y).toInt
def zrem (x y : Int) : Int := (Int32.ofInt x - Int32.ofInt x / Int32.ofInt y * Int32.ofInt y).toInt
def zldiv (x y : Int) : Int := (Int64.ofInt x / Int64.ofInt y).toInt
def zlcmp (x y : Int) : Int := (lg_cmp (Int64.ofInt x) (Int64.ofInt y)).toInt
def zi2b (x : Int) : Int := ((Int32.ofInt x).toInt8.toInt32).toInt
def zi2s (x : Int) : Int := ((Int32.ofInt x).toInt16.toInt32).toInt
/-- the context: the launch; the classes' numbers and slots; the cells' addresses; the array classes -/
abbrev zG : Type := Launch × (Nat → ClassId) × (Nat → Nat → Nat) × (Nat → Nat) × (Nat → ClassId)
abbrev zGL (G : zG) : Launch := G.1
abbrev zGD (G : zG) : va_G := (G.2.1, G.2.2.1)
abbrev zGa (G : zG) : Nat → Nat := G.2.2.2.1
abbrev zGt (G : zG) : Nat → ClassId := G.2.2.2.2
abbrev zGy (G : zG) : List (ClassId × FieldType) := [(zGt G 0, .int), (zGt G 1, .boolean), (zGt G 2, .long), (zGt G 3, .object "CollegeHouse$Shelf")]
def zre (G : zG) : zV → Value
  | .inl x => .int (Int32.ofInt x)
  | .inr (.inl x) => .long (Int64.ofInt x)
  | .inr (.inr (.inl q)) => .ref (zGa G q)
  | .inr (.inr (.inr ())) => .null
