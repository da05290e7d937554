/-! CONSTRUCTORS: calls -/
section BC
variable {G : zG} {M : zM} {p : Program} {e : Env} {R : Room} {s : State} {m : MethodId} {args : Array Value} {below : List Frame} {meth : Method} {c : Code} {H : Heap} {locs : List Loc} {cells slots : Nat} {Q : State → Prop} {pc : Nat} {lsr : Array Slot} {rest : List Value} {A : Nat → Prop} {H0 : Heap}
variable {α : Nat → Nat} {σ : zS} {b ci : Nat} {rs : List (Option Nat)} {sets : List (Nat × zSu)} {E : (Nat → Nat) → va_W} {I : List Nat} {lvs : List (Nat × Value)}
set_option maxHeartbeats 1000000 in
/-- Arrays.fill over one row -/
theorem zfill_met (hinj : zInj G) (a sz N : Nat) (f : Nat → Int32) (v : Int32) (hN : N < 2147483648) : Met (zGL G) (zMy MJ7_fill_53178) (zMw MJ7_fill_53178) (zMm MJ7_fill_53178) (va_Pc [.ref a, .int v] (fun U => U.heap.size = sz ∧ va_P (zGD G) vwCl [(a, .inl (zGt G 0, N, .inl f))] U.heap ∧ va_K (zGD G) vwCl (zGy G) U)) (va_Qv (S := Unit) (fun _ => True) (fun _ t => va_P (zGD G) vwCl [(a, .inl (zGt G 0, N, .inl (fun j => if j < N then v else f j)))] t.heap ∧ va_K (zGD G) vwCl (zGy G) t) (va_A [(a, .inl (zGt G 0, N, .inl f))] sz)) 0 0 (va_A [(a, .inl (zGt G 0, N, .inl f))] sz) := by
  refine Met.ofW (cc := zMb MJ7_fill_53178) (maxL := zMl MJ7_fill_53178) (ret := zMr MJ7_fill_53178) (by decide) rfl ?_
  intro p e s m args below meth c s₁ B hml hv
  obtain ⟨rfl, hsz, hP, hK⟩ := hv
  have hx := B.exec
  have hb := B.bytes
  have hr := B.returns
  have hlocks := B.notSynchronized
  subst hsz
  have hD0 : va_D (va_A [(a, .inl (zGt G 0, N, .inl f))] s.heap.size) [(a, .inl (zGt G 0, N, .inl f))] := by
    refine zD_iff.mpr ⟨by simp, fun q hq => ?_⟩
    have hq2 := List.mem_singleton.mp hq
    rw [hq2]
    exact va_A.in (k := 0) (q := (a, .inl (zGt G 0, N, .inl f))) rfl
  generalize va_A [(a, .inl (zGt G 0, N, .inl f))] s.heap.size = A at hD0 ⊢
  have hS : va_S A s.heap s.heap [] := va_S.rf
  have hP : va_P (zGD G) vwCl [(a, .inl (zGt G 0, N, .inl f))] s.heap := hP
  have hl := lv_entry ([.ref a, .int v]) (n := 4) (Nat.le_of_ble_eq_true rfl)
  rw [lg_entry_eq]
  generalize (lg_sl ([.ref a, .int v]) ++ List.replicate (zMl MJ7_fill_53178 - (lg_sl ([.ref a, .int v])).length) Slot.unset).toArray = ls at hl ⊢
  have hl : lv_has ls 4 [(0, .ref a), (1, .int v)] := hl
  refine lv_iconst (v := 0) hx hb dJ7_fill_53178_0 (by decide) ?_
  refine lv_istore_n (lv' := [(2, .int 0), (0, .ref a), (1, .int v)]) hx hb dJ7_fill_53178_1 rfl hl (by decide) rfl (fun ls hl => ?_)
  refine lv_aload_n hx hb dJ7_fill_53178_2 rfl (lv_at hl 1 rfl) ?_
  refine va_alen hx hb hK hP 0 0 rfl rfl (v := Int32.ofInt N) (Int32.ofInt_eq_ofNat ..).symm dJ7_fill_53178_3 ?_
  refine lv_istore_n (lv' := [(3, .int (Int32.ofInt N)), (2, .int 0), (0, .ref a), (1, .int v)]) hx hb dJ7_fill_53178_4 rfl hl (by decide) rfl (fun ls hl => ?_)
  have loop : ∀ (n : Nat) (i : Nat) (ls : Array Slot) (H : Heap) (locs : List Loc), N - i = n → i ≤ N → lv_has ls 4 [(2, .int (Int32.ofInt i)), (3, .int (Int32.ofInt N)), (0, .ref a), (1, .int v)] → va_P (zGD G) vwCl [(a, .inl (zGt G 0, N, .inl (fun j => if j < i then v else f j)))] H → va_D A [(a, .inl (zGt G 0, N, .inl (fun j => if j < i then v else f j)))] → va_S A s.heap H locs →
      W p (zGL G) e (zMm MJ7_fill_53178) s m [Value.ref a, Value.int v].toArray below meth c H locs 0 0 (MQ below (va_Qv (S := Unit) (fun _ => True) (fun _ t => va_P (zGD G) vwCl [(a, .inl (zGt G 0, N, .inl (fun j => if j < N then v else f j)))] t.heap ∧ va_K (zGD G) vwCl (zGy G) t) A) [Value.ref a, Value.int v].toArray s 0 0 A) (F0 m 5 ls []) := by
    intro n
    induction n with
    | zero =>
      intro i ls H locs hm hi hl hP hD hS
      have ei : i = N := by omega
      subst ei
      refine lv_iload_n hx hb dJ7_fill_53178_5 rfl (lv_at hl 0 rfl) ?_
      refine lv_iload_n hx hb dJ7_fill_53178_6 rfl (lv_at hl 1 rfl) ?_
      refine lv_icmp_ge (tgt := 20) hx hb dJ7_fill_53178_7 (by decide) (fun _ => ?_) (fun h => ?_)
      · exact W.vret hx hb hr (fun t ht hW => ⟨⟨(), rfl, trivial, by rw [ht]; exact hP, va_K.moved hW.alike hK⟩, hS.F ht⟩) hS.2.2 dJ7_fill_53178_20
      · exact absurd ((zI_le (by unfold zIn; omega) (by unfold zIn; omega)).mpr (Int.le_refl _)) h
    | succ n ih =>
      intro i ls H locs hm hi hl hP hD hS
      have zi1 : zIn (i : Int) := by unfold zIn; omega
      have zN1 : zIn (N : Int) := by unfold zIn; omega
      refine lv_iload_n hx hb dJ7_fill_53178_5 rfl (lv_at hl 0 rfl) ?_
      refine lv_iload_n hx hb dJ7_fill_53178_6 rfl (lv_at hl 1 rfl) ?_
      refine lv_icmp_ge (tgt := 20) hx hb dJ7_fill_53178_7 (by decide) (fun h => ?_) (fun _ => ?_)
      · have := (zI_le zN1 zi1).mp h
        omega
      · refine lv_aload_n hx hb dJ7_fill_53178_10 rfl (lv_at hl 2 rfl) ?_
        refine lv_iload_n hx hb dJ7_fill_53178_11 rfl (lv_at hl 0 rfl) ?_
        refine lv_iload_n hx hb dJ7_fill_53178_12 rfl (lv_at hl 3 rfl) ?_
        refine va_iast hx hb hK hP hD hS 0 0 rfl rfl (zvin zi1 (by omega) (by omega)) dJ7_fill_53178_13 (fun H1 locs1 hP1 hD1 hS1 => ?_)
        have eu : upd (fun j => if j < i then v else f j) (Int32.ofInt i).toNatClampNeg v = fun j => if j < i + 1 then v else f j := by
          funext j
          have e2 := zcla zi1 (by omega)
          unfold upd
          by_cases c : j = (Int32.ofInt (i : Int)).toNatClampNeg
          · rw [if_pos c, if_pos (by omega)]
          · rw [if_neg c]
            show (if j < i then v else f j) = _
            by_cases d : j < i
            · rw [if_pos d, if_pos (by omega)]
            · rw [if_neg d, if_neg (by omega)]
        have e3 : ([(a, .inl (zGt G 0, N, .inl (fun j => if j < i then v else f j)))] : va_W).set 0 (a, .inl (zGt G 0, N, .inl (upd (fun j => if j < i then v else f j) (Int32.ofInt i).toNatClampNeg v))) = [(a, .inl (zGt G 0, N, .inl (fun j => if j < i + 1 then v else f j)))] := by
          rw [eu]
          rfl
        rw [e3] at hP1 hD1
        have e4 : Int32.ofInt (i : Int) + Int32.ofInt 1 = Int32.ofInt ((i + 1 : Nat) : Int) := by rw [← Int32.ofInt_add]; rfl
        refine lv_iinc (v := Int32.ofInt ((i + 1 : Nat) : Int)) (lv' := [(2, .int (Int32.ofInt ((i + 1 : Nat) : Int))), (3, .int (Int32.ofInt N)), (0, .ref a), (1, .int v)]) hx hb dJ7_fill_53178_14 hl (k := 0) rfl e4 (by decide) rfl (fun ls hl => ?_)
        refine lv_goto (tgt := 5) hx hb dJ7_fill_53178_17 (by decide) ?_
        exact ih (i + 1) ls H1 locs1 (by omega) (by omega) hl hP1 hD1 hS1
  exact loop N 0 ls s.heap [] (by omega) (by omega) (lv_sub hl [1, 0, 2, 3] rfl) (by simpa using hP) (by simpa using hD0) hS
end BC
