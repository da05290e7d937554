/-! THE LAW: more rules -/
section LX
variable {p : Program} {l : Launch} {e : Env} {s : State} {m : MethodId} {below : List Frame} {meth : Method} {c : Code} {b L : Nat} {xs : Nat → Int32} {G : zG} {σ : zS} {H : Heap} {locs : List Loc} {pc : Nat} {ls : Array Slot} {rest : List Value} {i : Nat}
theorem zl_samL {r off : Int} (hx : p.tables.exec = Jvm.exec) (hb : c.code = code) (d0 : decode code pc = .ok (.lcmp, 1)) (d : decode code (pc + 1) = .ok (.ifCond .eq off, 3)) (ht : ((pc + 1 : Nat) : Int) + off = ((2299 : Nat) : Int))
    (k : zLW p l e s m b below meth c H locs (F0 m 2299 ls rest)) : zLW p l e s m b below meth c H locs (F0 m pc ls (.long (Int64.ofInt r) :: .long (Int64.ofInt r) :: rest)) := by
  refine W.lcmp hx hb d0 ?_
  have e0 : lg_cmp (Int64.ofInt r) (Int64.ofInt r) = 0 := by
    unfold lg_cmp
    simp
  rw [e0]
  exact lv_if_eq (tgt := 2299) hx hb d ht (fun _ => k) (fun hc => absurd rfl hc)
/-- an int as a truth -/
theorem zl_bool {x bv o1 o2 : Int} {tgt tg2 : Nat} (hx : p.tables.exec = Jvm.exec) (hb : c.code = code) (hxi : zIn x) (hbv : (bv = 1 ∧ x ≠ 0) ∨ (bv = 0 ∧ x = 0)) (d : decode code pc = .ok (.ifCond .eq o1, 3)) (ht : (pc : Int) + o1 = (tgt : Int)) (d1 : decode code (pc + 3) = .ok (.iconst 1, 1)) (d2 : decode code (pc + 4) = .ok (.goto o2, 3)) (ht2 : ((pc + 4 : Nat) : Int) + o2 = (tg2 : Int)) (d3 : decode code tgt = .ok (.iconst 0, 1)) (ht3 : tgt + 1 = tg2)
    (k : zLW p l e s m b below meth c H locs (F0 m tg2 ls (.int (Int32.ofInt bv) :: rest))) : zLW p l e s m b below meth c H locs (F0 m pc ls (.int (Int32.ofInt x) :: rest)) := by
  refine lv_if_eq hx hb d ht (fun h => ?_) (fun h => ?_)
  · have h2 : x = 0 := (zI_inj hxi zIn_0).mp h
    have e : bv = 0 := by omega
    subst e
    subst ht3
    exact lv_iconst (v := Int32.ofInt 0) hx hb d3 rfl k
  · have h2 : x ≠ 0 := fun z => h ((zI_inj hxi zIn_0).mpr z)
    have e : bv = 1 := by omega
    subst e
    refine lv_iconst (v := Int32.ofInt 1) hx hb d1 rfl ?_
    exact lv_goto hx hb d2 ht2 k
/-- a long out of two ints -/
def zlng (x y : Int) : Int := (((Int32.ofInt x).toInt64 <<< ((Int32.ofInt 32).toInt64 &&& 63)) ||| ((Int32.ofInt y).toInt64 &&& 4294967295)).toInt
theorem zl_lng {x y : Int} : ((Int32.ofInt x).toInt64 <<< ((Int32.ofInt 32).toInt64 &&& 63)) ||| ((Int32.ofInt y).toInt64 &&& 4294967295) = Int64.ofInt (zlng x y) := (Int64.ofInt_toInt _).symm
theorem zlng_in {x y : Int} : zLn (zlng x y) := ⟨Int64.le_toInt _, Int64.toInt_lt _⟩
end LX
