/-! ===== Integer.bitCount ===== -/
theorem zNa_and {n m : Nat} (hn : n < 2147483648) (hm : m < 2147483648) : zand (n : Int) (m : Int) = ((n &&& m : Nat) : Int) := by
  have tn : ∀ k : Nat, k < 2147483648 → (Int32.ofInt (k : Int)).toBitVec.toNat = k := by
    intro k hk
    show (BitVec.ofInt 32 (k : Int)).toNat = k
    rw [BitVec.toNat_ofInt]
    omega
  have h : n &&& m ≤ n := Nat.and_le_left
  unfold zand
  show (Int32.ofInt (n : Int) &&& Int32.ofInt (m : Int)).toBitVec.toInt = _
  have e : (Int32.ofInt (n : Int) &&& Int32.ofInt (m : Int)).toBitVec.toNat = n &&& m := by
    rw [Int32.toBitVec_and, BitVec.toNat_and, tn n hn, tn m hm]
  rw [BitVec.toInt_eq_toNat_of_lt (by rw [e]; omega), e]
theorem zNa_ushr {n k : Nat} (hn : n < 2147483648) (hk : k < 32) : zushr (n : Int) (k : Int) = ((n / 2 ^ k : Nat) : Int) := by
  have tn : (Int32.ofInt (n : Int)).toBitVec.toNat = n := by
    show (BitVec.ofInt 32 (n : Int)).toNat = n
    rw [BitVec.toNat_ofInt]
    omega
  have h : n / 2 ^ k ≤ n := Nat.div_le_self _ _
  unfold zushr
  rw [zb_nI (show (0 : Int) ≤ (k : Int) by omega)]
  show ((Int32.ofInt (n : Int)).toUInt32 >>> ((nI k).toUInt32 &&& Int32.toUInt32 31)).toBitVec.toInt = _
  have e : ((Int32.ofInt (n : Int)).toUInt32 >>> ((nI k).toUInt32 &&& Int32.toUInt32 31)).toBitVec.toNat = n / 2 ^ k := by
    rw [UInt32.toBitVec_shiftRight]
    show ((Int32.ofInt (n : Int)).toBitVec >>> (((nI k).toUInt32 &&& Int32.toUInt32 31).toBitVec % 32).toNat).toNat = _
    rw [s_u k hk, BitVec.toNat_ushiftRight, tn, Nat.shiftRight_eq_div_pow]
  rw [BitVec.toInt_eq_toNat_of_lt (by rw [e]; omega), e]
/-- bits of a byte in all -/
def zP (a : Nat) : Nat := a % 2 + a / 2 % 2 + a / 4 % 2 + a / 8 % 2 + a / 16 % 2 + a / 32 % 2 + a / 64 % 2 + a / 128 % 2
def zA1 (a : Nat) : Nat := a / 2 &&& 85
def zG1 (a : Nat) : Nat := a - zA1 a
def zG2 (p : Nat) : Nat := (p &&& 51) + (p / 4 &&& 51)
theorem zB_and {a r m M : Nat} (ha : a < 256) (hm : m < 256) : (a + 256 * r) &&& (m + 256 * M) = (a &&& m) + 256 * (r &&& M) := by
  have h1 : ((a + 256 * r) &&& (m + 256 * M)) % 2 ^ 8 = ((a + 256 * r) % 2 ^ 8) &&& ((m + 256 * M) % 2 ^ 8) := Nat.and_mod_two_pow
  have h2 : ((a + 256 * r) &&& (m + 256 * M)) / 2 ^ 8 = ((a + 256 * r) / 2 ^ 8) &&& ((m + 256 * M) / 2 ^ 8) := Nat.and_div_two_pow
  rw [show (a + 256 * r) % 2 ^ 8 = a from by omega, show (m + 256 * M) % 2 ^ 8 = m from by omega] at h1
  rw [show (a + 256 * r) / 2 ^ 8 = r from by omega, show (m + 256 * M) / 2 ^ 8 = M from by omega] at h2
  omega
theorem zB3 {a b c m : Nat} (ha : a < 256) (hb : b < 256) (hc : c < 256) (hm : m < 256) : (a + 256 * (b + 256 * c)) &&& (m + 256 * (m + 256 * (m + 256 * m))) = (a &&& m) + 256 * ((b &&& m) + 256 * (c &&& m)) := by
  rw [zB_and ha hm, zB_and hb hm]
  have := zB_and (a := c) (r := 0) (m := m) (M := m) hc hm
  rw [Nat.zero_and, Nat.mul_zero, Nat.add_zero, Nat.add_zero] at this
  rw [this]
theorem zd_A1 : ∀ a, a < 256 → zA1 a ≤ a ∧ zA1 a < 128 ∧ zG1 a < 256 := by decide +kernel
theorem zd_A1e : ∀ e, e < 2 → ∀ a, a < 256 → (a / 2 + 128 * e) &&& 85 = zA1 a := by decide +kernel
theorem zd_A2e : ∀ e, e < 4 → ∀ p, p < 256 → (p / 4 + 64 * e) &&& 51 = p / 4 &&& 51 := by decide +kernel
theorem zd_A2 : ∀ a, a < 256 → (zG1 a &&& 51) + (zG1 a / 4 &&& 51) = zG2 (zG1 a) ∧ zG2 (zG1 a) ≤ 68 ∧ zG2 (zG1 a) % 16 ≤ 4 := by decide +kernel
theorem zd_A3 : ∀ e, e < 5 → ∀ a, a < 256 → (zG2 (zG1 a) + (zG2 (zG1 a) / 16 + 16 * e)) &&& 15 = zP a := by decide +kernel
theorem zd_P : ∀ a, a < 256 → zP a ≤ 8 := by decide +kernel
/-- the sum of the first 24 bits -/
def zpop (x : Int) : Int := zps (fun i => zand (zushr x i) 1) 24
section BC
variable {G : zG} {σ : zS} {Q : Int → zS → Prop}
theorem zP_0 {n : Nat} : zP (n % 256) = n / 2 ^ 0 % 2 + n / 2 ^ 1 % 2 + n / 2 ^ 2 % 2 + n / 2 ^ 3 % 2 + n / 2 ^ 4 % 2 + n / 2 ^ 5 % 2 + n / 2 ^ 6 % 2 + n / 2 ^ 7 % 2 := by
  unfold zP
  rw [show n % 256 % 2 = n / 2 ^ 0 % 2 from by omega, show n % 256 / 2 % 2 = n / 2 ^ 1 % 2 from by omega, show n % 256 / 4 % 2 = n / 2 ^ 2 % 2 from by omega, show n % 256 / 8 % 2 = n / 2 ^ 3 % 2 from by omega, show n % 256 / 16 % 2 = n / 2 ^ 4 % 2 from by omega, show n % 256 / 32 % 2 = n / 2 ^ 5 % 2 from by omega, show n % 256 / 64 % 2 = n / 2 ^ 6 % 2 from by omega, show n % 256 / 128 % 2 = n / 2 ^ 7 % 2 from by omega]
theorem zP_8 {n : Nat} : zP (n / 256 % 256) = n / 2 ^ 8 % 2 + n / 2 ^ 9 % 2 + n / 2 ^ 10 % 2 + n / 2 ^ 11 % 2 + n / 2 ^ 12 % 2 + n / 2 ^ 13 % 2 + n / 2 ^ 14 % 2 + n / 2 ^ 15 % 2 := by
  unfold zP
  rw [show n / 256 % 256 % 2 = n / 2 ^ 8 % 2 from by omega, show n / 256 % 256 / 2 % 2 = n / 2 ^ 9 % 2 from by omega, show n / 256 % 256 / 4 % 2 = n / 2 ^ 10 % 2 from by omega, show n / 256 % 256 / 8 % 2 = n / 2 ^ 11 % 2 from by omega, show n / 256 % 256 / 16 % 2 = n / 2 ^ 12 % 2 from by omega, show n / 256 % 256 / 32 % 2 = n / 2 ^ 13 % 2 from by omega, show n / 256 % 256 / 64 % 2 = n / 2 ^ 14 % 2 from by omega, show n / 256 % 256 / 128 % 2 = n / 2 ^ 15 % 2 from by omega]
theorem zP_16 {n : Nat} : zP (n / 65536) = n / 2 ^ 16 % 2 + n / 2 ^ 17 % 2 + n / 2 ^ 18 % 2 + n / 2 ^ 19 % 2 + n / 2 ^ 20 % 2 + n / 2 ^ 21 % 2 + n / 2 ^ 22 % 2 + n / 2 ^ 23 % 2 := by
  unfold zP
  rw [show n / 65536 % 2 = n / 2 ^ 16 % 2 from by omega, show n / 65536 / 2 % 2 = n / 2 ^ 17 % 2 from by omega, show n / 65536 / 4 % 2 = n / 2 ^ 18 % 2 from by omega, show n / 65536 / 8 % 2 = n / 2 ^ 19 % 2 from by omega, show n / 65536 / 16 % 2 = n / 2 ^ 20 % 2 from by omega, show n / 65536 / 32 % 2 = n / 2 ^ 21 % 2 from by omega, show n / 65536 / 64 % 2 = n / 2 ^ 22 % 2 from by omega, show n / 65536 / 128 % 2 = n / 2 ^ 23 % 2 from by omega]
theorem zpop_P {n : Nat} (hn : n < 16777216) : zpop (n : Int) = ((zP (n % 256) + zP (n / 256 % 256) + zP (n / 65536) : Nat) : Int) := by
  have hb : ∀ k : Nat, k < 24 → zand (zushr (n : Int) (k : Int)) 1 = ((n / 2 ^ k % 2 : Nat) : Int) := by
    intro k hk
    have h : n / 2 ^ k ≤ n := Nat.div_le_self _ _
    rw [zNa_ushr (by omega) (by omega), show (1 : Int) = ((1 : Nat) : Int) from rfl, zNa_and (by omega) (by omega), Nat.and_one_is_mod]
  rw [zP_0, zP_8, zP_16]
  obtain ⟨d, hd⟩ : ∃ d : Nat → Nat, ∀ k, n / 2 ^ k % 2 = d k := ⟨_, fun _ => rfl⟩
  simp only [hd] at hb ⊢
  clear hd hn
  unfold zpop
  rw [show ∀ g : Int → Int, zps g 24 = 0 + g ((0 : Nat) : Int) + g ((1 : Nat) : Int) + g ((2 : Nat) : Int) + g ((3 : Nat) : Int) + g ((4 : Nat) : Int) + g ((5 : Nat) : Int) + g ((6 : Nat) : Int) + g ((7 : Nat) : Int) + g ((8 : Nat) : Int) + g ((9 : Nat) : Int) + g ((10 : Nat) : Int) + g ((11 : Nat) : Int) + g ((12 : Nat) : Int) + g ((13 : Nat) : Int) + g ((14 : Nat) : Int) + g ((15 : Nat) : Int) + g ((16 : Nat) : Int) + g ((17 : Nat) : Int) + g ((18 : Nat) : Int) + g ((19 : Nat) : Int) + g ((20 : Nat) : Int) + g ((21 : Nat) : Int) + g ((22 : Nat) : Int) + g ((23 : Nat) : Int) from fun g => rfl]
  rw [hb 0 (by decide), hb 1 (by decide), hb 2 (by decide), hb 3 (by decide), hb 4 (by decide), hb 5 (by decide), hb 6 (by decide), hb 7 (by decide), hb 8 (by decide), hb 9 (by decide), hb 10 (by decide), hb 11 (by decide), hb 12 (by decide), hb 13 (by decide), hb 14 (by decide), hb 15 (by decide), hb 16 (by decide), hb 17 (by decide), hb 18 (by decide), hb 19 (by decide), hb 20 (by decide), hb 21 (by decide), hb 22 (by decide), hb 23 (by decide)]
  omega
theorem zB_1 {n a b c : Nat} (ha : a < 256) (hb : b < 256) (hc : c < 256) (dec : n = a + 256 * (b + 256 * c)) : zand (zushr (n : Int) 1) 1431655765 = ((zA1 a + 256 * (zA1 b + 256 * zA1 c) : Nat) : Int) := by
  have e : n / 2 ^ 1 = (a / 2 + 128 * (b % 2)) + 256 * ((b / 2 + 128 * (c % 2)) + 256 * (c / 2 + 128 * 0)) := by omega
  rw [show (1 : Int) = ((1 : Nat) : Int) from rfl, zNa_ushr (by omega) (by omega), show (1431655765 : Int) = ((85 + 256 * (85 + 256 * (85 + 256 * 85)) : Nat) : Int) from by decide, zNa_and (by omega) (by omega), e, zB3 (by omega) (by omega) (by omega) (by omega), zd_A1e _ (by omega) a ha, zd_A1e _ (by omega) b hb, zd_A1e 0 (by omega) c hc]
theorem zB_2 {n a b c : Nat} (ha : a < 256) (hb : b < 256) (hc : c < 256) (dec : n = a + 256 * (b + 256 * c)) : zW ((n : Int) - zand (zushr (n : Int) 1) 1431655765) = ((zG1 a + 256 * (zG1 b + 256 * zG1 c) : Nat) : Int) := by
  rw [zB_1 ha hb hc dec]
  have a1 := zd_A1 a ha
  have b1 := zd_A1 b hb
  have c1 := zd_A1 c hc
  unfold zG1
  generalize zA1 a = x at *
  generalize zA1 b = y at *
  generalize zA1 c = z at *
  have a2 := a1.1
  have b2 := b1.1
  have c2 := c1.1
  clear a1 b1 c1
  rw [zW_eq (by omega) (by omega)]
  omega
theorem zB_3 {n p q r : Nat} (hp : p < 256) (hq : q < 256) (hr : r < 256) (dec : n = p + 256 * (q + 256 * r)) : zand (n : Int) 858993459 = (((p &&& 51) + 256 * ((q &&& 51) + 256 * (r &&& 51)) : Nat) : Int) := by
  rw [show (858993459 : Int) = ((51 + 256 * (51 + 256 * (51 + 256 * 51)) : Nat) : Int) from by decide, zNa_and (by omega) (by omega), dec, zB3 (by omega) (by omega) (by omega) (by omega)]
theorem zB_4 {n p q r : Nat} (hp : p < 256) (hq : q < 256) (hr : r < 256) (dec : n = p + 256 * (q + 256 * r)) : zand (zushr (n : Int) 2) 858993459 = (((p / 4 &&& 51) + 256 * ((q / 4 &&& 51) + 256 * (r / 4 &&& 51)) : Nat) : Int) := by
  have e : n / 2 ^ 2 = (p / 4 + 64 * (q % 4)) + 256 * ((q / 4 + 64 * (r % 4)) + 256 * (r / 4 + 64 * 0)) := by omega
  rw [show (2 : Int) = ((2 : Nat) : Int) from rfl, zNa_ushr (by omega) (by omega), show (858993459 : Int) = ((51 + 256 * (51 + 256 * (51 + 256 * 51)) : Nat) : Int) from by decide, zNa_and (by omega) (by omega), e, zB3 (by omega) (by omega) (by omega) (by omega), zd_A2e _ (by omega) _ hp, zd_A2e _ (by omega) _ hq, zd_A2e 0 (by omega) _ hr]
theorem zd_G2 : ∀ p, p < 256 → (p &&& 51) ≤ 51 ∧ (p / 4 &&& 51) ≤ 51 ∧ (p &&& 51) + (p / 4 &&& 51) = zG2 p := by decide +kernel
theorem zB_5 {n p q r : Nat} (hp : p < 256) (hq : q < 256) (hr : r < 256) (dec : n = p + 256 * (q + 256 * r)) : zW (zand (n : Int) 858993459 + zand (zushr (n : Int) 2) 858993459) = ((zG2 p + 256 * (zG2 q + 256 * zG2 r) : Nat) : Int) := by
  rw [zB_3 hp hq hr dec, zB_4 hp hq hr dec]
  have a1 := zd_G2 p hp
  have b1 := zd_G2 q hq
  have c1 := zd_G2 r hr
  generalize zG2 p = x at *
  generalize zG2 q = y at *
  generalize zG2 r = z at *
  generalize p &&& 51 = p1 at *
  generalize q &&& 51 = q1 at *
  generalize r &&& 51 = r1 at *
  generalize p / 4 &&& 51 = p2 at *
  generalize q / 4 &&& 51 = q2 at *
  generalize r / 4 &&& 51 = r2 at *
  clear dec
  rw [zW_eq (by omega) (by omega)]
  omega
theorem zB_6 {n p q r : Nat} (hp : p ≤ 68) (hq : q ≤ 68) (hr : r ≤ 68) (dec : n = p + 256 * (q + 256 * r)) : zW ((n : Int) + zushr (n : Int) 4) = (((p + (p / 16 + 16 * (q % 16))) + 256 * ((q + (q / 16 + 16 * (r % 16))) + 256 * (r + (r / 16 + 16 * 0))) : Nat) : Int) := by
  have e : n / 2 ^ 4 = (p / 16 + 16 * (q % 16)) + 256 * ((q / 16 + 16 * (r % 16)) + 256 * (r / 16 + 16 * 0)) := by omega
  rw [show (4 : Int) = ((4 : Nat) : Int) from rfl, zNa_ushr (by omega) (by omega), e]
  have : p / 16 ≤ 4 := by omega
  have : q / 16 ≤ 4 := by omega
  have : r / 16 ≤ 4 := by omega
  have : q % 16 < 16 := by omega
  have : r % 16 < 16 := by omega
  generalize p / 16 = p1 at *
  generalize q / 16 = q1 at *
  generalize r / 16 = r1 at *
  generalize q % 16 = q2 at *
  generalize r % 16 = r2 at *
  clear e
  rw [zW_eq (by omega) (by omega)]
  omega
theorem zB_7 {n a b c : Nat} (ha : a < 256) (hb : b < 256) (hc : c < 256) (dec : n = zG2 (zG1 a) + 256 * (zG2 (zG1 b) + 256 * zG2 (zG1 c))) : zand (zW ((n : Int) + zushr (n : Int) 4)) 252645135 = ((zP a + 256 * (zP b + 256 * zP c) : Nat) : Int) := by
  have a2 := (zd_A2 a ha).2
  have b2 := (zd_A2 b hb).2
  have c2 := (zd_A2 c hc).2
  rw [zB_6 a2.1 b2.1 c2.1 dec]
  rw [show (252645135 : Int) = ((15 + 256 * (15 + 256 * (15 + 256 * 15)) : Nat) : Int) from by decide, zNa_and (by omega) (by omega), zB3 (by omega) (by omega) (by omega) (by omega), zd_A3 _ (by omega) a ha, zd_A3 _ (by omega) b hb, zd_A3 0 (by omega) c hc]
theorem zB_8 {n x y z : Nat} (hx : x ≤ 8) (hy : y ≤ 8) (hz : z ≤ 8) (dec : n = x + 256 * (y + 256 * z)) : zW ((n : Int) + zushr (n : Int) 8) = (((x + y) + 256 * ((y + z) + 256 * z) : Nat) : Int) := by
  rw [show (8 : Int) = ((8 : Nat) : Int) from rfl, zNa_ushr (by omega) (by omega), show n / 2 ^ 8 = y + 256 * z from by omega]
  rw [zW_eq (by omega) (by omega)]
  omega
theorem zB_9 {n x y z : Nat} (hx : x ≤ 8) (hy : y ≤ 8) (hz : z ≤ 8) (dec : n = (x + y) + 256 * ((y + z) + 256 * z)) : zand (zW ((n : Int) + zushr (n : Int) 16)) 63 = ((x + y + z : Nat) : Int) := by
  rw [show (16 : Int) = ((16 : Nat) : Int) from rfl, zNa_ushr (by omega) (by omega), show n / 2 ^ 16 = z from by omega]
  rw [zW_eq (by omega) (by omega), show (n : Int) + (z : Int) = ((n + z : Nat) : Int) from by omega]
  rw [show (63 : Int) = ((63 : Nat) : Int) from rfl, zNa_and (by omega) (by omega)]
  have := Nat.and_two_pow_sub_one_eq_mod (n + z) 6
  rw [show (2 : Nat) ^ 6 - 1 = 63 from by decide] at this
  rw [this]
  omega
theorem okJ6_bitCount {x : Int} (hx : 0 ≤ x ∧ x < 16777216) (kq : Q (zpop x) σ) : zO G MJ6_bitCount_0f7a4 [zi x] σ Q := by
  obtain ⟨n, rfl⟩ : ∃ n : Nat, x = (n : Int) := ⟨x.toNat, by omega⟩
  have hn : n < 16777216 := by omega
  rw [zpop_P hn] at kq
  have ha : n % 256 < 256 := by omega
  have hb : n / 256 % 256 < 256 := by omega
  have hc : n / 65536 < 256 := by omega
  have dec : n = n % 256 + 256 * (n / 256 % 256 + 256 * (n / 65536)) := by omega
  apply TJ6_bitCount_0f7a4
  rw [zB_2 ha hb hc dec, zB_5 (zd_A1 _ ha).2.2 (zd_A1 _ hb).2.2 (zd_A1 _ hc).2.2 rfl, zB_7 ha hb hc rfl, zB_8 (zd_P _ ha) (zd_P _ hb) (zd_P _ hc) rfl, zB_9 (zd_P _ ha) (zd_P _ hb) (zd_P _ hc) rfl]
  exact kq
theorem zpop_sh {x i : Int} (h0 : 0 ≤ i) (h1 : i < 24) : zand (zshr x i) 1 = zand (zushr x i) 1 := by
  have a := zb_shr1 (x := x) h0 (by omega)
  have b := zb_and1 (x := x) h0 (by omega)
  by_cases z : zbit x i
  · rw [a.1 z, b.1 z]
  · rw [a.2 z, b.2 z]
theorem zpop_1 {x i : Int} (h0 : 0 ≤ i) (h1 : i < 24) : 0 ≤ zand (zushr x i) 1 ∧ zand (zushr x i) 1 ≤ 1 := by
  have b := zb_and1 (x := x) h0 (by omega)
  by_cases z : zbit x i
  · rw [b.1 z]; omega
  · rw [b.2 z]; omega
theorem zpop_b {x : Int} : 0 ≤ zpop x ∧ zpop x ≤ 24 := by
  have := zps_b (g := fun i => zand (zushr x i) 1) (B := 1) (n := 24) (fun i a b => zpop_1 a (by omega))
  unfold zpop
  omega
theorem okX12_bits {x : Int} (kq : Q (zpop x) σ) : zO G MX12_bits [zi x] σ Q := by
  refine TX12_bits ?_
  have loop : ∀ (n : Nat) (i v : Int), (24 - i).toNat = n → 0 ≤ i → i ≤ 24 → v = zps (fun i => zand (zushr x i) 1) i.toNat → zR G MX12_bits 4 [zi x, zi v, zi i] [] σ Q := by
    intro n
    induction n with
    | zero =>
      intro i v hn i0 i1 hv
      have : i = 24 := by omega
      subst this
      apply TX12_bits_4 <;> (try (intros; omega))
      intro _
      rw [hv]
      exact kq
    | succ n ih =>
      intro i v hn i0 i1 hv
      have hb := zps_b (g := fun i => zand (zushr x i) 1) (B := 1) (n := i.toNat) (fun j a b => zpop_1 a (by omega))
      have h1 := zpop_1 (x := x) i0 (by omega)
      have hs := zps_s (g := fun i => zand (zushr x i) 1) i0
      apply TX12_bits_4 <;> (try rw [zpop_sh i0 (by omega)]) <;> (try (intros; omega))
      intro _
      exact ih (i + 1) _ (by omega) (by omega) (by omega) (by rw [hs, hv])
  exact loop _ 0 0 rfl (by omega) (by omega) rfl
end BC
