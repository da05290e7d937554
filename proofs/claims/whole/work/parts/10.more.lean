section ZN
variable {G : zG} {M : zM} {pc : Nat} {ls st : List zV} {σ : zS} {Q : Int → zS → Prop}
theorem z_iaddN {x y : Int} (d : decode (zMb M) pc = .ok (.iadd, 1)) (h : -2147483648 ≤ x + y ∧ x + y < 2147483648) (k : zR G M (pc + 1) ls (zi (x + y) :: st) σ Q) : zR G M pc ls (zi y :: zi x :: st) σ Q :=
  z_iadd d (by rw [zW_id h]; exact k)
theorem z_isubN {x y : Int} (d : decode (zMb M) pc = .ok (.isub, 1)) (h : -2147483648 ≤ x - y ∧ x - y < 2147483648) (k : zR G M (pc + 1) ls (zi (x - y) :: st) σ Q) : zR G M pc ls (zi y :: zi x :: st) σ Q :=
  z_isub d (by rw [zW_id h]; exact k)
theorem z_imulN {x y : Int} (d : decode (zMb M) pc = .ok (.imul, 1)) (h : -2147483648 ≤ x * y ∧ x * y < 2147483648) (k : zR G M (pc + 1) ls (zi (x * y) :: st) σ Q) : zR G M pc ls (zi y :: zi x :: st) σ Q :=
  z_imul d (by rw [zW_id h]; exact k)
theorem z_laddN {x y : Int} (d : decode (zMb M) pc = .ok (.ladd, 1)) (h : -9223372036854775808 ≤ x + y ∧ x + y < 9223372036854775808) (k : zR G M (pc + 1) ls (zl (x + y) :: st) σ Q) : zR G M pc ls (zl y :: zl x :: st) σ Q :=
  z_ladd d (by rw [zWL_id h]; exact k)
theorem z_lsubN {x y : Int} (d : decode (zMb M) pc = .ok (.lsub, 1)) (h : -9223372036854775808 ≤ x - y ∧ x - y < 9223372036854775808) (k : zR G M (pc + 1) ls (zl (x - y) :: st) σ Q) : zR G M pc ls (zl y :: zl x :: st) σ Q :=
  z_lsub d (by rw [zWL_id h]; exact k)
theorem z_lmulN {x y : Int} (d : decode (zMb M) pc = .ok (.lmul, 1)) (h : -9223372036854775808 ≤ x * y ∧ x * y < 9223372036854775808) (k : zR G M (pc + 1) ls (zl (x * y) :: st) σ Q) : zR G M pc ls (zl y :: zl x :: st) σ Q :=
  z_lmul d (by rw [zWL_id h]; exact k)
theorem z_inegN {x : Int} (d : decode (zMb M) pc = .ok (.ineg, 1)) (h : -2147483648 ≤ -x ∧ -x < 2147483648) (k : zR G M (pc + 1) ls (zi (-x) :: st) σ Q) : zR G M pc ls (zi x :: st) σ Q :=
  z_ineg d (by rw [zW_id h]; exact k)
theorem z_iincN {i : Nat} {n x : Int} {ls' : List zV} (d : decode (zMb M) pc = .ok (.iinc i n, 3)) (hv : ls[i]? = some (zi x)) (hn : i < zMl M) (h : -2147483648 ≤ x + n ∧ x + n < 2147483648) (he : zs1 ls i (zi (x + n)) = ls') (k : zR G M (pc + 3) ls' st σ Q) : zR G M pc ls st σ Q :=
  z_iinc d hv hn (by rw [zW_id h]; exact he) k
end ZN
theorem zb0 {p : Prop} [Decidable p] (h : (if p then (1 : Int) else 0) = 0) : ¬ p := fun z => by rw [if_pos z] at h; exact absurd h (by decide)
theorem zb1 {p : Prop} [Decidable p] (h : (if p then (1 : Int) else 0) ≠ 0) : p := by
  by_cases z : p
  · exact z
  · rw [if_neg z] at h; exact absurd rfl h
theorem zb01 (p : Prop) [Decidable p] : (if p then (1 : Int) else 0) = 0 ∨ (if p then (1 : Int) else 0) = 1 := by
  by_cases z : p
  · right; exact if_pos z
  · left; exact if_neg z
theorem zsh_n : ∀ n : Nat, n < 10 → zsh (2 + 2 * n) = (4, 9, [some (3 + 2 * n), none, none, none]) ∧ zsh (3 + 2 * n) = (2, 80, []) ∧ ([some 2, some 4, some 6, some 8, some 10, some 12, some 14, some 16, some 18, some 20] : List (Option Nat))[n]? = some (some (2 + 2 * n)) := by decide +kernel
theorem zsh_o {i : Int} (h0 : 0 ≤ i) (h1 : i < 10) : zsh (2 + 2 * i.toNat) = (4, 9, [some (3 + 2 * i.toNat), none, none, none]) := (zsh_n i.toNat (by omega)).1
theorem zsh_e {i : Int} (h0 : 0 ≤ i) (h1 : i < 10) : zsh (3 + 2 * i.toNat) = (2, 80, []) := (zsh_n i.toNat (by omega)).2.1
theorem zsh_v {i : Int} (h0 : 0 ≤ i) (h1 : i < 10) : ([some 2, some 4, some 6, some 8, some 10, some 12, some 14, some 16, some 18, some 20] : List (Option Nat))[i.toNat]? = some (some (2 + 2 * i.toNat)) := (zsh_n i.toNat (by omega)).2.2
theorem zO_in {G : zG} {M : zM} {as : List zV} {σ : zS} {Q : Int → zS → Prop} (k : (∀ v ∈ as, zok v) → zwf σ → zO G M as σ Q) : zO G M as σ Q := fun ha hw => k ha hw ha hw
theorem lcRX11_219 : zLc RX11 219 := ⟨zin_4 (List.mem_of_getElem? (i := 72) (by decide +kernel)), zin_3 (List.mem_of_getElem? (i := 112) (by decide +kernel)), zin_3 (List.mem_of_getElem? (i := 111) (by decide +kernel)), zin_1 (List.mem_of_getElem? (i := 15) (by decide +kernel))⟩
theorem lcRX1_36 : zLc RX1 36 := ⟨zin_5 (List.mem_of_getElem? (i := 2) (by decide +kernel)), zin_3 (List.mem_of_getElem? (i := 112) (by decide +kernel)), zin_3 (List.mem_of_getElem? (i := 111) (by decide +kernel)), zin_1 (List.mem_of_getElem? (i := 15) (by decide +kernel))⟩
theorem lcRX10_62 : zLc RX10 62 := ⟨zin_3 (List.mem_of_getElem? (i := 110) (by decide +kernel)), zin_3 (List.mem_of_getElem? (i := 112) (by decide +kernel)), zin_3 (List.mem_of_getElem? (i := 111) (by decide +kernel)), zin_1 (List.mem_of_getElem? (i := 15) (by decide +kernel))⟩
theorem zmaxc : Cond.code Lib.Math.max.name Lib.Math.max.code 2 (some .int) ∈ lw_tbl := zin_3 (List.mem_of_getElem? (i := 136) (by decide +kernel))
theorem zminc : Cond.code Lib.Math.min.name Lib.Math.min.code 2 (some .int) ∈ lw_tbl := zin_3 (List.mem_of_getElem? (i := 151) (by decide +kernel))
theorem zmaxs : Cond.static Lib.Math.max.name ∈ lw_tbl := zin_3 (List.mem_of_getElem? (i := 135) (by decide +kernel))
theorem zmins : Cond.static Lib.Math.min.name ∈ lw_tbl := zin_3 (List.mem_of_getElem? (i := 150) (by decide +kernel))
theorem zmati : Cond.initialized "java/lang/Math" ∈ lw_tbl := zin_1 (List.mem_of_getElem? (i := 16) (by decide +kernel))
section ZX
variable {G : zG} {M : zM} {pc : Nat} {ls st : List zV} {σ : zS} {Q : Int → zS → Prop}
theorem zmx {x y : Int} (hx : zIn x) (hy : zIn y) : (if Int32.ofInt x < Int32.ofInt y then Int32.ofInt y else Int32.ofInt x) = Int32.ofInt (max x y) := by
  by_cases h : x < y
  · rw [if_pos ((zI_lt hx hy).mpr h), Int.max_eq_right (by omega)]
  · rw [if_neg (fun z => h ((zI_lt hx hy).mp z)), Int.max_eq_left (by omega)]
theorem zmn {x y : Int} (hx : zIn x) (hy : zIn y) : (if Int32.ofInt y < Int32.ofInt x then Int32.ofInt y else Int32.ofInt x) = Int32.ofInt (min x y) := by
  by_cases h : y < x
  · rw [if_pos ((zI_lt hy hx).mpr h), Int.min_eq_right (by omega)]
  · rw [if_neg (fun z => h ((zI_lt hy hx).mp z)), Int.min_eq_left (by omega)]
theorem zIn_max {x y : Int} (hx : zIn x) (hy : zIn y) : zIn (max x y) := by
  unfold zIn at *; omega
theorem zIn_min {x y : Int} (hx : zIn x) (hy : zIn y) : zIn (min x y) := by
  unfold zIn at *; omega
theorem z_max {idx : Nat} {x y : Int} (L : Cond.methodLink (zMy M).cls idx Lib.Math.max.name ∈ lw_tbl) (hfr : 1 ≤ (zMm M).frames) (hlo : 21 ≤ (zMm M).locals) (hst : (st.map zcat).sum ≤ 8) (d : decode (zMb M) pc = .ok (.invokestatic idx, 3))
    (kk : zR G M (pc + 3) ls (zi (max x y) :: st) σ Q) : zR G M pc ls (zi y :: zi x :: st) σ Q := by
  intro hl0 hs hw p e s m args below meth c C H locs lsr hP hS hL
  obtain ⟨hx, hb, hrt, hml, hown, hts, hlocks, hK, hinj⟩ := id C
  refine va_mmax hx hb (hml.trans hL.1.symm) hown (hts _ (zTb_in L rfl)) (hts _ (zTb_in zmaxs rfl)) (hts _ (zTb_in zmati rfl)) (hts _ (zTb_in zmaxc rfl)) hfr ?_ (Nat.zero_le _) (Nat.zero_le _) d ?_
  · rw [zcsum]; omega
  · rw [zmx (zk2 hs) (zk1 hs)]
    exact kk hl0 (zki (zIn_max (zk2 hs) (zk1 hs)) (zkt (zkt hs))) hw p e s m args below meth c C H locs lsr hP hS hL
theorem z_min {idx : Nat} {x y : Int} (L : Cond.methodLink (zMy M).cls idx Lib.Math.min.name ∈ lw_tbl) (hfr : 1 ≤ (zMm M).frames) (hlo : 21 ≤ (zMm M).locals) (hst : (st.map zcat).sum ≤ 8) (d : decode (zMb M) pc = .ok (.invokestatic idx, 3))
    (kk : zR G M (pc + 3) ls (zi (min x y) :: st) σ Q) : zR G M pc ls (zi y :: zi x :: st) σ Q := by
  intro hl0 hs hw p e s m args below meth c C H locs lsr hP hS hL
  obtain ⟨hx, hb, hrt, hml, hown, hts, hlocks, hK, hinj⟩ := id C
  refine va_mmin hx hb (hml.trans hL.1.symm) hown (hts _ (zTb_in L rfl)) (hts _ (zTb_in zmins rfl)) (hts _ (zTb_in zmati rfl)) (hts _ (zTb_in zminc rfl)) hfr ?_ (Nat.zero_le _) (Nat.zero_le _) d ?_
  · rw [zcsum]; omega
  · rw [zmn (zk2 hs) (zk1 hs)]
    exact kk hl0 (zki (zIn_min (zk2 hs) (zk1 hs)) (zkt (zkt hs))) hw p e s m args below meth c C H locs lsr hP hS hL
end ZX
theorem zlk {x a o d : Int} {r : List (Int × Int)} (h : ¬ x = a) : Op.lookupswitch.offset ((a, o) :: r) d x = Op.lookupswitch.offset r d x := by
  rw [Op.lookupswitch.offset_cons, if_neg]
  intro q
  exact h q.symm
/-- a place of the locals may be forgotten -/
def zfgt (ls : List zV) (b : List Bool) : List zV := List.zipWith (fun v c => if c then zu else v) ls b
theorem zfgt_at : ∀ (ls : List zV) (b : List Bool) (i : Nat) (v : zV), (zfgt ls b)[i]? = some v → v ≠ zu → ls[i]? = some v := by
  intro ls b i v h hv
  unfold zfgt at h
  rw [List.getElem?_zipWith] at h
  cases h1 : ls[i]? with
  | none => rw [h1] at h; simp at h
  | some w =>
    cases h2 : b[i]? with
    | none => rw [h1, h2] at h; simp at h
    | some c =>
      rw [h1, h2] at h
      simp only [Option.some.injEq] at h
      cases c with
      | true => simp at h; exact absurd h.symm hv
      | false => simp at h; rw [h]
theorem zR_fg {G : zG} {M : zM} {pc : Nat} {ls st : List zV} {σ : zS} {Q : Int → zS → Prop} (b : List Bool) (k : zR G M pc (zfgt ls b) st σ Q) : zR G M pc ls st σ Q := by
  intro hl hs hw p e s m args below meth c C H locs lsr hP hS hL
  refine k (fun v hv => ?_) hs hw p e s m args below meth c C H locs lsr hP hS ⟨hL.1, hL.2.1, fun q hq => ?_⟩
  · obtain ⟨i, hi⟩ := List.getElem?_of_mem hv
    by_cases hz : v = zu
    · rw [hz]; trivial
    · exact hl v (List.mem_of_getElem? (zfgt_at ls b i v hi hz))
  · obtain ⟨v, h1, h2, h3⟩ := zlv_mem hq
    have := zlv_in (G := G) (zfgt_at ls b q.1 v h1 h2) h2
    rw [← h3] at this
    exact hL.2.2 q this
/-! reading behind writing -/
theorem zup_of {σ : zS} {i q : Nat} {j v b : Int} (h : q ≠ i) : zup σ i j v q b = σ q b := by rw [zup_ne h]
theorem zup_oi {σ : zS} {i : Nat} {j v b : Int} (h : b ≠ j) : zup σ i j v i b = σ i b := by
  unfold zup
  rw [if_neg (fun z => h z.2)]
theorem zup_same {σ : zS} {i : Nat} {j v : Int} : zup σ i j v i j = v := by
  unfold zup
  rw [if_pos ⟨rfl, rfl⟩]
theorem zcp_of {σ : zS} {a q b : Nat} {i j n c : Int} (h : q ≠ b) : zcp σ a i b j n q c = σ q c := by rw [zcp_ne h]
section ZE
variable {G : zG} {M : zM} {pc : Nat} {ls st : List zV} {σ : zS} {Q : Int → zS → Prop}
theorem z_getfE {q idx ci k : Nat} {v : Int} {rs : List (Option Nat)} (f : zFl (zMy M).cls idx ci k) (hsh : zsh q = (4, ci, rs)) (hr : rs[k]? = some none) (he : σ q k = v) (d : decode (zMb M) pc = .ok (.getfield idx, 3))
    (kk : zR G M (pc + 3) ls (zi v :: st) σ Q) : zR G M pc ls (zr q :: st) σ Q := z_getfI f hsh hr d (by rw [he]; exact kk)
theorem z_ialdE {q n : Nat} {i v : Int} {rs : List (Option Nat)} (hsh : zsh q = (0, n, rs)) (h0 : 0 ≤ i) (h1 : i < n) (he : σ q i = v) (d : decode (zMb M) pc = .ok (.iaload, 1))
    (kk : zR G M (pc + 1) ls (zi v :: st) σ Q) : zR G M pc ls (zi i :: zr q :: st) σ Q := z_iald hsh h0 h1 d (by rw [he]; exact kk)
theorem z_baldE {q n : Nat} {i v : Int} {rs : List (Option Nat)} (hsh : zsh q = (1, n, rs)) (h0 : 0 ≤ i) (h1 : i < n) (he : σ q i = v) (d : decode (zMb M) pc = .ok (.baload, 1))
    (kk : zR G M (pc + 1) ls (zi v :: st) σ Q) : zR G M pc ls (zi i :: zr q :: st) σ Q := z_bald hsh h0 h1 d (by rw [he]; exact kk)
theorem z_laldE {q n : Nat} {i v : Int} {rs : List (Option Nat)} (hsh : zsh q = (2, n, rs)) (h0 : 0 ≤ i) (h1 : i < n) (he : σ q i = v) (d : decode (zMb M) pc = .ok (.laload, 1))
    (kk : zR G M (pc + 1) ls (zl v :: st) σ Q) : zR G M pc ls (zi i :: zr q :: st) σ Q := z_lald hsh h0 h1 d (by rw [he]; exact kk)
end ZE
