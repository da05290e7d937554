/-! THE LAW: rules of its body -/
section LB
variable {p : Program} {l : Launch} {e : Env} {s : State} {m : MethodId} {below : List Frame} {meth : Method} {c : Code} {b L : Nat} {xs : Nat → Int32} {G : zG} {σ : zS} {H : Heap} {locs : List Loc} {pc : Nat} {ls : Array Slot} {rest : List Value} {i : Nat}
/-- what holds all through the law, behind the constructors -/
def zLC (G : zG) (l : Launch) (p : Program) (s : State) (m : MethodId) (meth : Method) (c : Code) (b L : Nat) (xs : Nat → Int32) : Prop := lw_At p s m meth c b L xs ∧ zGL G = l ∧ va_K (zGD G) vwCl (zGy G) s ∧ zInj G ∧ (∀ i, i < zN → s.heap.size ≤ zGa G i) ∧ L ≤ 3584
def zLw (G : zG) (s : State) (σ : zS) (H : Heap) (locs : List Loc) : Prop := zwf σ ∧ va_P (zGD G) vwCl (zwd G σ) H ∧ va_S (fun q : Nat => s.heap.size ≤ q) s.heap H locs
abbrev zLW (p : Program) (l : Launch) (e : Env) (s : State) (m : MethodId) (b : Nat) (below : List Frame) (meth : Method) (c : Code) (H : Heap) (locs : List Loc) (g : JFrame) : Prop := W p l e room_1 s m #[Value.ref b] below meth c H locs 179 34029 (lw_Z below #[Value.ref b] s) g
abbrev zll (G : zG) (b i : Nat) : List (Nat × Value) := [(0, .ref b), (1, .ref (zGa G 0)), (2, .ref (zGa G 98)), (3, .int (Int32.ofInt (i : Int)))]
def zx (xs : Nat → Int32) (j : Nat) : Int := (xs j).toInt
theorem zx_in {j : Nat} : zIn (zx xs j) := zIn_of _
theorem zl_call {M' : zM} {idx n ci q : Nat} {rs : List (Option Nat)} {as : List zV} {st : List Value} {lvs : List (Nat × Value)} {Qk : Int → zS → Prop} (LC : zLC G l p s m meth c b L xs) (K : zMv M' n) (Lk : Cond.methodLink R_law idx (zMy M') ∈ lw_tbl) (hlen : as.length = n) (hsh : zsh q = (4, ci, rs)) (hcl : vwCl[ci]?.map (fun x => x.1) = some (zMy M').cls)
    (hroom : (zMm M').frames + 1 ≤ room_1.frames ∧ 8 + (zMl M' + 11) + (zMm M').locals ≤ room_1.locals) (hst : (rest.map fun v => v.category).sum ≤ 8) (hstk : st = (as.map (zre G)).reverse ++ .ref (zGa G q) :: rest) (hok : ∀ v ∈ as, zok v) (hl : lv_has ls 4 lvs) (w : zLw G s σ H locs) (d : decode code pc = .ok (.invokevirtual idx, 3))
    (ok : zO G M' (zr q :: as) σ Qk)
    (kk : ∀ (r : Int) (σ' : zS) (H1 : Heap) (locs1 : List Loc), zro (zMr M') r → Qk r σ' → zLw G s σ' H1 locs1 → zLW p l e s m b below meth c H1 locs1 (F0 m (pc + 3) ls ((zrv (zMr M') r).toList ++ rest))) :
    zLW p l e s m b below meth c H locs (F0 m pc ls st) := by
  obtain ⟨⟨hx, hb, hr, hml, hown, hts, hX, hbl, hlocks, hgv⟩, hGl, hK, hinj, hGA, hL⟩ := LC
  obtain ⟨hw, hP, hS⟩ := w
  subst hGl
  have hq := zsh_lt hsh (by decide)
  obtain ⟨qc, hqc, hqn⟩ := Option.map_eq_some_iff.mp hcl
  obtain ⟨⟨k1, k2, k3, k4, k5⟩, ki, ks⟩ := K
  have cb : CallB room_1 s #[Value.ref b] R_law idx (zMy M') (zMb M') (zMl M') (zMr M') (zMw M') (zMm M') 0 0 n := by
    refine callB_of n hts (fun w hw => ?_) rfl rfl rfl (hts _ k1) (hts _ Lk) ⟨k3, k4, k5⟩ hroom
    rcases List.mem_cons.mp hw with h | h
    · subst h; exact ⟨k2, good_of_word rfl⟩
    · exact ⟨(List.mem_filter.mp h).1, good_of_word (List.mem_filter.mp h).2⟩
  have has : ∀ v ∈ zr q :: as, zok v := zkq hok
  have hrun := va_runV (e := e) (below := below) (meth := meth) (locs := locs) (cells := 179) (slots := 34029) (rest := rest) (C := (zMy M').cls) (b := zGa G q) (As := as.map (zre G)) (g := F0 m pc ls st) ⟨hx, hb, hml, hown, hts⟩ (ok has hw hinj) ⟨cb, hts _ ki, hts _ ks⟩ ⟨zblind, by
    have := va_recv (q0 := q) (fs := zfs (zGa G) rs (σ q)) hK hP hqc (by rw [zwd_get hq, zcl_O hsh])
    rw [hqn] at this
    exact this, fun U hU hW => ⟨by simp [zre], by rw [hU]; exact hP, hK.moved hW.alike⟩⟩ rfl (by simp [hlen]) hl.1 hstk (lv_room hst) d ⟨Nat.le_of_ble_eq_true rfl, Nat.le_of_ble_eq_true rfl⟩
  intro T hT X
  obtain ⟨v, st₀, t, T', L', h0, X', hL', e1, e2, ⟨⟨r, σ', hv, hro, hw', hk, hP', hK'⟩, hz, hfr⟩, hst'⟩ := hrun T hT X
  cases hv
  rw [h0] at hz hfr
  have hS' : va_S (fun q : Nat => s.heap.size ≤ q) s.heap T'.heap (locs ++ L') := by
    refine ⟨Nat.le_trans hS.1 (by rw [e1]; exact hz), fun q h1 h2 => ?_, fun q hq => ?_⟩
    · rw [e1, hfr q (Nat.lt_of_lt_of_le h1 hS.1) (fun ⟨i, hi, hqi⟩ => h2 (by rw [hqi]; exact hGA i hi))]
      exact hS.2.1 q h1 h2
    · rcases List.mem_append.mp hq with h | h
      · exact hS.2.2 q h
      · obtain ⟨i, hi, hqi⟩ := hL' q h
        show s.heap.size ≤ q.base
        rw [hqi]
        exact hGA i hi
  obtain ⟨t2, a1, b1⟩ := kk r σ' T'.heap (locs ++ L') hro hk ⟨hw', by rw [e1]; exact hP', hS'⟩ T' rfl X'
  exact ⟨t2, hst' t2 a1, b1⟩
theorem zl_load {i0 : Int32} {j : Nat} (LC : zLC G l p s m meth c b L xs) (w : zLw G s σ H locs) (hj : j < L) (hi : i0 = Int32.ofInt (j : Int)) (d : decode code pc = .ok (.iaload, 1))
    (k : zLW p l e s m b below meth c H locs (F0 m (pc + 1) ls (.int (Int32.ofInt (zx xs j)) :: rest))) : zLW p l e s m b below meth c H locs (F0 m pc ls (.int i0 :: .ref b :: rest)) := by
  obtain ⟨⟨hx, hb, hr, hml, hown, hts, hX, hbl, hlocks, hgv⟩, hGl, hK, hinj, hGA, hL⟩ := LC
  obtain ⟨hw, hP, hS⟩ := w
  subst hi
  have hz : zIn (j : Int) := by unfold zIn; omega
  refine va_sld hx hb hX hbl (Nat.not_le.mpr hbl) hS (zvin hz (by omega) (by omega)) d ?_
  have e1 : (Int32.ofInt (j : Int)).toNatClampNeg = j := by have := zcla hz (by omega); omega
  rw [e1]
  have e2 : Int32.ofInt (zx xs j) = xs j := Int32.ofInt_toInt _
  rw [e2] at k
  exact k
/-- an argument: the script's int, k places on -/
theorem zl_arg {k : Nat} (LC : zLC G l p s m meth c b L xs) (hl : lv_has ls 4 (zll G b i)) (w : zLw G s σ H locs) (hi : i + 7 ≤ L) (hk : k < 7)
    (d0 : decode code pc = .ok (.aload_n 0, 1)) (d1 : decode code (pc + 1) = .ok (.iload_n 3, 1)) (d2 : decode code (pc + 2) = .ok (.iconst (k : Int), 1)) (d3 : decode code (pc + 3) = .ok (.iadd, 1)) (d4 : decode code (pc + 4) = .ok (.iaload, 1))
    (kk : zLW p l e s m b below meth c H locs (F0 m (pc + 5) ls (.int (Int32.ofInt (zx xs (i + k))) :: rest))) : zLW p l e s m b below meth c H locs (F0 m pc ls rest) := by
  have hx := LC.1.1
  have hb := LC.1.2.1
  refine lv_aload_n hx hb d0 rfl (lv_at hl 0 rfl) ?_
  refine lv_iload_n hx hb d1 rfl (lv_at hl 3 rfl) ?_
  refine lv_iconst (v := Int32.ofInt (k : Int)) hx hb d2 rfl ?_
  refine lv_iadd hx hb d3 ?_
  exact zl_load (j := i + k) LC w (by omega) (by rw [← Int32.ofInt_add]; rfl) d4 kk
theorem zl_argb {k : Nat} (LC : zLC G l p s m meth c b L xs) (hl : lv_has ls 4 (zll G b i)) (w : zLw G s σ H locs) (hi : i + 7 ≤ L) (hk : k < 7)
    (d0 : decode code pc = .ok (.aload_n 0, 1)) (d1 : decode code (pc + 1) = .ok (.iload_n 3, 1)) (d2 : decode code (pc + 2) = .ok (.bipush (k : Int), 2)) (d3 : decode code (pc + 4) = .ok (.iadd, 1)) (d4 : decode code (pc + 5) = .ok (.iaload, 1)) (hk2 : (Int8.ofInt (k : Int)).toInt32 = Int32.ofInt (k : Int))
    (kk : zLW p l e s m b below meth c H locs (F0 m (pc + 6) ls (.int (Int32.ofInt (zx xs (i + k))) :: rest))) : zLW p l e s m b below meth c H locs (F0 m pc ls rest) := by
  have hx := LC.1.1
  have hb := LC.1.2.1
  refine lv_aload_n hx hb d0 rfl (lv_at hl 0 rfl) ?_
  refine lv_iload_n hx hb d1 rfl (lv_at hl 3 rfl) ?_
  refine lv_bipush (v := Int32.ofInt (k : Int)) hx hb d2 hk2 ?_
  refine lv_iadd hx hb d3 ?_
  exact zl_load (j := i + k) LC w (by omega) (by rw [← Int32.ofInt_add]; rfl) d4 kk
/-- two answers that are alike -/
theorem zl_same {r : Int} (hx : p.tables.exec = Jvm.exec) (hb : c.code = code) {off : Int} (d : decode code pc = .ok (.if_icmp .eq off, 3)) (ht : (pc : Int) + off = ((2299 : Nat) : Int))
    (k : zLW p l e s m b below meth c H locs (F0 m 2299 ls rest)) : zLW p l e s m b below meth c H locs (F0 m pc ls (.int (Int32.ofInt r) :: .int (Int32.ofInt r) :: rest)) :=
  lv_icmp_eq (tgt := 2299) hx hb d ht (fun _ => k) (fun hc => absurd rfl hc)
end LB
