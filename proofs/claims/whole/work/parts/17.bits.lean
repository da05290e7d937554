/-! ===== Int32 by its bits: bt x i ===== -/
def bt (x : Int32) (i : Nat) : Bool := x.toBitVec.getLsbD i
theorem b_ext {x y : Int32} (h : ∀ i, i < 32 → bt x i = bt y i) : x = y := Int32.toBitVec_inj.mp (BitVec.eq_of_getLsbD_eq (fun i hi => h i hi))
theorem b_or (x y : Int32) (i : Nat) : bt (x ||| y) i = (bt x i || bt y i) := by unfold bt; rw [Int32.toBitVec_or, BitVec.getLsbD_or]
theorem b_and (x y : Int32) (i : Nat) : bt (x &&& y) i = (bt x i && bt y i) := by unfold bt; rw [Int32.toBitVec_and, BitVec.getLsbD_and]
theorem b_xor (x y : Int32) (i : Nat) : bt (x ^^^ y) i = (bt x i ^^ bt y i) := by unfold bt; rw [Int32.toBitVec_xor, BitVec.getLsbD_xor]
theorem b_big {x : Int32} {i : Nat} (h : 32 ≤ i) : bt x i = false := BitVec.getLsbD_of_ge _ _ h
theorem b_255 (i : Nat) : bt 255 i = decide (i < 8) := by
  rcases Nat.lt_or_ge i 32 with h | h
  · exact (by decide +kernel : ∀ i, i < 32 → bt 255 i = decide (i < 8)) i h
  · rw [b_big h, decide_eq_false (by omega)]
theorem b_65535 (i : Nat) : bt 65535 i = decide (i < 16) := by
  rcases Nat.lt_or_ge i 32 with h | h
  · exact (by decide +kernel : ∀ i, i < 32 → bt 65535 i = decide (i < 16)) i h
  · rw [b_big h, decide_eq_false (by omega)]
theorem b_m1 : ∀ i, i < 32 → bt (-1) i = true := by decide +kernel
theorem b_0 (i : Nat) : bt 0 i = false := BitVec.getLsbD_zero
theorem s_l : ∀ n, n < 32 → ((nI n &&& 31).toBitVec.smod 32).toNat = n := by decide +kernel
theorem s_u : ∀ n, n < 32 → (((nI n).toUInt32 &&& Int32.toUInt32 31).toBitVec % 32).toNat = n := by decide +kernel
theorem b_shl (n : Nat) (hn : n < 32) (x : Int32) {i : Nat} (hi : i < 32) : bt (x <<< (nI n &&& 31)) i = (decide (n ≤ i) && bt x (i - n)) := by
  unfold bt
  rw [Int32.toBitVec_shiftLeft]
  show (x.toBitVec <<< ((nI n &&& 31).toBitVec.smod 32).toNat).getLsbD i = _
  rw [s_l n hn, BitVec.getLsbD_shiftLeft]
  rcases Nat.lt_or_ge i n with h | h
  · simp [h, Nat.not_le.mpr h]
  · simp [hi, h, Nat.not_lt.mpr h]
theorem b_ushr (n : Nat) (hn : n < 32) (x : Int32) (i : Nat) : bt ((x.toUInt32 >>> ((nI n).toUInt32 &&& Int32.toUInt32 31)).toInt32) i = bt x (n + i) := by
  show (x.toUInt32 >>> ((nI n).toUInt32 &&& Int32.toUInt32 31)).toBitVec.getLsbD i = x.toUInt32.toBitVec.getLsbD (n + i)
  rw [UInt32.toBitVec_shiftRight]
  show (x.toUInt32.toBitVec >>> (((nI n).toUInt32 &&& Int32.toUInt32 31).toBitVec % 32).toNat).getLsbD i = _
  rw [s_u n hn, BitVec.getLsbD_ushiftRight]
theorem b_sshr (n : Nat) (hn : n < 32) (x : Int32) {i : Nat} (hi : i < 32) : bt (x >>> (nI n &&& 31)) i = if n + i < 32 then bt x (n + i) else bt x 31 := by
  unfold bt
  rw [Int32.toBitVec_shiftRight]
  show (x.toBitVec.sshiftRight ((nI n &&& 31).toBitVec.smod 32).toNat).getLsbD i = _
  rw [s_l n hn, BitVec.getLsbD_sshiftRight, BitVec.msb_eq_getLsbD_last]
  simp [hi]
theorem b_shl8 (x : Int32) {i : Nat} (hi : i < 32) : bt (x <<< ((8 : Int32) &&& 31)) i = (decide (8 ≤ i) && bt x (i - 8)) := b_shl 8 (by omega) x hi
theorem b_shl16 (x : Int32) {i : Nat} (hi : i < 32) : bt (x <<< ((16 : Int32) &&& 31)) i = (decide (16 ≤ i) && bt x (i - 16)) := b_shl 16 (by omega) x hi
theorem b_shl24 (x : Int32) {i : Nat} (hi : i < 32) : bt (x <<< ((24 : Int32) &&& 31)) i = (decide (24 ≤ i) && bt x (i - 24)) := b_shl 24 (by omega) x hi
theorem b_sshr8 (x : Int32) {i : Nat} (hi : i < 32) : bt (x >>> ((8 : Int32) &&& 31)) i = if 8 + i < 32 then bt x (8 + i) else bt x 31 := b_sshr 8 (by omega) x hi
/-! bits of whole numbers -/
def zbit (x i : Int) : Prop := bt (Int32.ofInt x) i.toNat = true
theorem zbit_dec (x i : Int) : zbit x i ∨ ¬ zbit x i := by
  unfold zbit
  cases bt (Int32.ofInt x) i.toNat
  · right; intro h; cases h
  · left; rfl
theorem zb_nI {i : Int} (h : 0 ≤ i) : Int32.ofInt i = nI i.toNat := by
  have e : i = ((i.toNat : Nat) : Int) := by omega
  rw [e]
  exact Int32.ofInt_eq_ofNat ..
theorem zb_1 : ∀ j, j < 32 → bt 1 j = decide (j = 0) := by decide +kernel
theorem zb_w1 (w : Int32) : (w &&& 1).toInt = if bt w 0 = true then 1 else 0 := by
  have e : w &&& 1 = if bt w 0 = true then 1 else 0 := by
    apply b_ext
    intro j hj
    rw [b_and, zb_1 j hj]
    by_cases h0 : j = 0
    · subst h0
      cases bt w 0 <;> decide
    · simp only [h0, decide_false, Bool.and_false]
      cases bt w 0
      · simp [b_0]
      · simp [zb_1 j hj, h0]
  rw [e]
  cases bt w 0 <;> decide
theorem zb_and1 {x i : Int} (h0 : 0 ≤ i) (h1 : i < 32) : (zbit x i → zand (zushr x i) 1 = 1) ∧ (¬ zbit x i → zand (zushr x i) 1 = 0) := by
  have e : zand (zushr x i) 1 = if bt (Int32.ofInt x) i.toNat = true then 1 else 0 := by
    unfold zand zushr
    rw [zI_of, show Int32.ofInt 1 = 1 from rfl, zb_w1, zb_nI h0, b_ushr _ (by omega)]
    rfl
  unfold zbit
  rw [e]
  cases bt (Int32.ofInt x) i.toNat
  · exact ⟨fun h => (by cases h), fun _ => rfl⟩
  · exact ⟨fun _ => rfl, fun h => absurd rfl h⟩
theorem zb_shr1 {x i : Int} (h0 : 0 ≤ i) (h1 : i < 32) : (zbit x i → zand (zshr x i) 1 = 1) ∧ (¬ zbit x i → zand (zshr x i) 1 = 0) := by
  have e : zand (zshr x i) 1 = if bt (Int32.ofInt x) i.toNat = true then 1 else 0 := by
    unfold zand zshr
    rw [zI_of, show Int32.ofInt 1 = 1 from rfl, zb_w1, zb_nI h0, b_sshr _ (by omega) _ (by omega), if_pos (show i.toNat + 0 < 32 by omega)]
    rfl
  unfold zbit
  rw [e]
  cases bt (Int32.ofInt x) i.toNat
  · exact ⟨fun h => (by cases h), fun _ => rfl⟩
  · exact ⟨fun _ => rfl, fun h => absurd rfl h⟩
theorem zb_or {x y i : Int} : zbit (zor x y) i ↔ zbit x i ∨ zbit y i := by
  unfold zbit zor
  rw [zI_of, b_or, Bool.or_eq_true]
theorem zb_and {x y i : Int} : zbit (zand x y) i ↔ zbit x i ∧ zbit y i := by
  unfold zbit zand
  rw [zI_of, b_and, Bool.and_eq_true]
theorem zb_shl {i j : Int} (h0 : 0 ≤ i) (h1 : i < 32) (j0 : 0 ≤ j) (j1 : j < 32) : zbit (zshl 1 i) j ↔ j = i := by
  unfold zbit zshl
  rw [zI_of, zb_nI h0, b_shl _ (by omega) _ (by omega), show Int32.ofInt 1 = 1 from rfl, zb_1 _ (by omega), Bool.and_eq_true, decide_eq_true_eq, decide_eq_true_eq]
  omega
theorem zb_not {x j : Int} (j0 : 0 ≤ j) (j1 : j < 32) : zbit (zxor x (-1)) j ↔ ¬ zbit x j := by
  unfold zbit zxor
  rw [zI_of, b_xor, show Int32.ofInt (-1) = -1 from rfl, b_m1 _ (by omega)]
  cases bt (Int32.ofInt x) j.toNat <;> simp
theorem zb_0 (j : Int) : ¬ zbit 0 j := by
  unfold zbit
  rw [show Int32.ofInt 0 = 0 from rfl, b_0]
  exact fun h => by cases h
theorem zb_ext {x y : Int} (hx : zIn x) (hy : zIn y) (h : ∀ j, 0 ≤ j → j < 32 → (zbit x j ↔ zbit y j)) : x = y := by
  apply (zI_inj hx hy).mp
  apply b_ext
  intro j hj
  have h2 := h (j : Int) (by omega) (by omega)
  unfold zbit at h2
  rw [show ((j : Int)).toNat = j from by omega] at h2
  cases h3 : bt (Int32.ofInt x) j <;> cases h4 : bt (Int32.ofInt y) j <;> simp_all
theorem zb_sh0 {x n : Int} (hx : zIn x) (h0 : 0 ≤ n) (h1 : n < 32) : zushr x n = 0 ↔ ∀ j, n ≤ j → j < 32 → ¬ zbit x j := by
  have key : ∀ j : Nat, bt (Int32.ofInt (zushr x n)) j = bt (Int32.ofInt x) (n.toNat + j) := by
    intro j
    unfold zushr
    rw [zI_of, zb_nI h0, b_ushr _ (by omega)]
  constructor
  · intro h j a b z
    unfold zbit at z
    have h2 := key (j.toNat - n.toNat)
    rw [h, show Int32.ofInt 0 = 0 from rfl, b_0, show n.toNat + (j.toNat - n.toNat) = j.toNat from by omega, z] at h2
    cases h2
  · intro h
    refine zb_ext (zIn_of _) zIn_0 (fun j a b => ?_)
    unfold zbit
    rw [key, show Int32.ofInt 0 = 0 from rfl, b_0]
    by_cases hj : n + j < 32
    · have h2 := h (n + j) (by omega) hj
      unfold zbit at h2
      rw [show (n + j).toNat = n.toNat + j.toNat from by omega] at h2
      exact ⟨fun z => absurd z h2, fun z => by cases z⟩
    · rw [b_big (by omega)]
