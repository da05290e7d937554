section ZN
variable {G : zG} {M : zM} {pc : Nat} {ls st : List zV} {σ : zS} {Q : Int → zS → Prop}
theorem z_iaddN {x y : Int} (d : decode (zMb M) pc = .ok (.iadd, 1)) (h : -2147483648 ≤ x + y ∧ x + y < 2147483648) (k : zR G M (pc + 1) ls (zi (x + y) :: st) σ Q) : zR G M pc ls (zi y :: zi x :: st) σ Q :=
  z_iadd d (by rw [zW_id h]; exact k)
theorem z_isubN {x y : Int} (d : decode (zMb M) pc = .ok (.isub, 1)) (h : -2147483648 ≤ x - y ∧ x - y < 2147483648) (k : zR G M (pc + 1) ls (zi (x - y) :: st) σ Q) : zR G M pc ls (zi y :: zi x :: st) σ Q :=
  z_isub d (by rw [zW_id h]; exact k)
theorem z_imulN {x y : Int} (d : decode (zMb M) pc = .ok (.imul, 1)) (h : -2147483648 ≤ x * y ∧ x * y < 2147483648) (k : zR G M (pc + 1) ls (zi (x * y) :: st) σ Q) : zR G M pc ls (zi y :: zi x :: st) σ Q :=
  z_imul d (by rw [zW_id h]; exact k)
theorem z_laddN {x y : Int} (d : decode (zMb M) pc = .ok (.ladd, 1)) (h : -9223372036854775808 ≤ x + y ∧ x + y < 9223372036854775808) (k : zR G M (pc + 1) ls (zl (x + y) :: st) σ Q) : zR G M pc ls (zl y :: zl x :: st) σ Q :=
  z_ladd d (by rw [zWL_id h]; exact k)
theorem z_lsubN {x y : Int} (d : decode (zMb M) pc = .ok (.lsub, 1)) (h : -9223372036854775808 ≤ x - y ∧ x - y < 9223372036854775808) (k : zR G M (pc + 1) ls (zl (x - y) :: st) σ Q) : zR G M pc ls (zl y :: zl x :: st) σ Q :=
  z_lsub d (by rw [zWL_id h]; exact k)
theorem z_lmulN {x y : Int} (d : decode (zMb M) pc = .ok (.lmul, 1)) (h : -9223372036854775808 ≤ x * y ∧ x * y < 9223372036854775808) (k : zR G M (pc + 1) ls (zl (x * y) :: st) σ Q) : zR G M pc ls (zl y :: zl x :: st) σ Q :=
  z_lmul d (by rw [zWL_id h]; exact k)
theorem z_inegN {x : Int} (d : decode (zMb M) pc = .ok (.ineg, 1)) (h : -2147483648 ≤ -x ∧ -x < 2147483648) (k : zR G M (pc + 1) ls (zi (-x) :: st) σ Q) : zR G M pc ls (zi x :: st) σ Q :=
  z_ineg d (by rw [zW_id h]; exact k)
theorem z_iincN {i : Nat} {n x : Int} {ls' : List zV} (d : decode (zMb M) pc = .ok (.iinc i n, 3)) (hv : ls[i]? = some (zi x)) (hn : i < zMl M) (h : -2147483648 ≤ x + n ∧ x + n < 2147483648) (he : zs1 ls i (zi (x + n)) = ls') (k : zR G M (pc + 3) ls' st σ Q) : zR G M pc ls st σ Q :=
  z_iinc d hv hn (by rw [zW_id h]; exact he) k
end ZN
theorem zb0 {p : Prop} [Decidable p] (h : (if p then (1 : Int) else 0) = 0) : ¬ p := fun z => by rw [if_pos z] at h; exact absurd h (by decide)
theorem zb1 {p : Prop} [Decidable p] (h : (if p then (1 : Int) else 0) ≠ 0) : p := by
  by_cases z : p
  · exact z
  · rw [if_neg z] at h; exact absurd rfl h
theorem zb01 (p : Prop) [Decidable p] : (if p then (1 : Int) else 0) = 0 ∨ (if p then (1 : Int) else 0) = 1 := by
  by_cases z : p
  · right; exact if_pos z
  · left; exact if_neg z
theorem zsh_n : ∀ n : Nat, n < 10 → zsh (2 + 2 * n) = (4, 9, [some (3 + 2 * n), none, none, none]) ∧ zsh (3 + 2 * n) = (2, 80, []) ∧ ([some 2, some 4, some 6, some 8, some 10, some 12, some 14, some 16, some 18, some 20] : List (Option Nat))[n]? = some (some (2 + 2 * n)) := by decide +kernel
theorem zsh_o {i : Int} (h0 : 0 ≤ i) (h1 : i < 10) : zsh (2 + 2 * i.toNat) = (4, 9, [some (3 + 2 * i.toNat), none, none, none]) := (zsh_n i.toNat (by omega)).1
theorem zsh_e {i : Int} (h0 : 0 ≤ i) (h1 : i < 10) : zsh (3 + 2 * i.toNat) = (2, 80, []) := (zsh_n i.toNat (by omega)).2.1
theorem zsh_v {i : Int} (h0 : 0 ≤ i) (h1 : i < 10) : ([some 2, some 4, some 6, some 8, some 10, some 12, some 14, some 16, some 18, some 20] : List (Option Nat))[i.toNat]? = some (some (2 + 2 * i.toNat)) := (zsh_n i.toNat (by omega)).2.2
theorem zO_in {G : zG} {M : zM} {as : List zV} {σ : zS} {Q : Int → zS → Prop} (k : (∀ v ∈ as, zok v) → zwf σ → zO G M as σ Q) : zO G M as σ Q := fun ha hw => k ha hw ha hw
theorem lcRX11_219 : zLc RX11 219 := ⟨zin_4 (List.mem_of_getElem? (i := 72) (by decide +kernel)), zin_3 (List.mem_of_getElem? (i := 112) (by decide +kernel)), zin_3 (List.mem_of_getElem? (i := 111) (by decide +kernel)), zin_1 (List.mem_of_getElem? (i := 15) (by decide +kernel))⟩
theorem lcRX1_36 : zLc RX1 36 := ⟨zin_5 (List.mem_of_getElem? (i := 2) (by decide +kernel)), zin_3 (List.mem_of_getElem? (i := 112) (by decide +kernel)), zin_3 (List.mem_of_getElem? (i := 111) (by decide +kernel)), zin_1 (List.mem_of_getElem? (i := 15) (by decide +kernel))⟩
theorem lcRX10_62 : zLc RX10 62 := ⟨zin_3 (List.mem_of_getElem? (i := 110) (by decide +kernel)), zin_3 (List.mem_of_getElem? (i := 112) (by decide +kernel)), zin_3 (List.mem_of_getElem? (i := 111) (by decide +kernel)), zin_1 (List.mem_of_getElem? (i := 15) (by decide +kernel))⟩
