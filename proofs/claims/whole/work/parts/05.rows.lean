section ZR
variable {G : zG} {M : zM} {pc : Nat} {ls st : List zV} {σ : zS} {Q : Int → zS → Prop}
/-- a step that changes the stack alone -/
theorem zst {pc' : Nat} {st' : List zV} (hok : (∀ v ∈ st, zok v) → ∀ v ∈ st', zok v)
    (h : ∀ {p : Program} {e : Env} {s : State} {m : MethodId} {args : Array Value} {below : List Frame} {meth : Method} {c : Code} {H : Heap} {locs : List Loc} {lsr : Array Slot}, p.tables.exec = Jvm.exec → c.code = zMb M → zC G M p s m args meth c → zLs G M lsr ls → (∀ v ∈ st, zok v) → W p (zGL G) e (zMm M) s m args below meth c H locs 0 0 (zE G M below args s Q) (F0 m pc' lsr (st'.map (zre G))) → W p (zGL G) e (zMm M) s m args below meth c H locs 0 0 (zE G M below args s Q) (F0 m pc lsr (st.map (zre G))))
    (k : zR G M pc' ls st' σ Q) : zR G M pc ls st σ Q := by
  intro hl hs hw p e s m args below meth c C H locs lsr hP hS hL
  exact h C.1 C.2.1 C hL hs (k hl (hok hs) hw p e s m args below meth c C H locs lsr hP hS hL)
theorem zk1 {a : zV} {l : List zV} (h : ∀ v ∈ a :: l, zok v) : zok a := h _ List.mem_cons_self
theorem zk2 {a b : zV} {l : List zV} (h : ∀ v ∈ a :: b :: l, zok v) : zok b := h _ (List.mem_cons_of_mem _ List.mem_cons_self)
theorem zk3 {a b c : zV} {l : List zV} (h : ∀ v ∈ a :: b :: c :: l, zok v) : zok c := h _ (List.mem_cons_of_mem _ (List.mem_cons_of_mem _ List.mem_cons_self))
theorem zkt {a : zV} {l : List zV} (h : ∀ v ∈ a :: l, zok v) : ∀ v ∈ l, zok v := fun v hv => h v (List.mem_cons_of_mem _ hv)
theorem zIn_0 : zIn 0 := ⟨by decide, by decide⟩
theorem zki {x : Int} {l : List zV} (ha : zIn x) (h : ∀ v ∈ l, zok v) : ∀ v ∈ zi x :: l, zok v := List.forall_mem_cons.mpr ⟨ha, h⟩
theorem zkl {x : Int} {l : List zV} (ha : zLn x) (h : ∀ v ∈ l, zok v) : ∀ v ∈ zl x :: l, zok v := List.forall_mem_cons.mpr ⟨ha, h⟩
theorem zkq {x : Nat} {l : List zV} (h : ∀ v ∈ l, zok v) : ∀ v ∈ zr x :: l, zok v := List.forall_mem_cons.mpr ⟨trivial, h⟩
theorem zkc {a : zV} {l : List zV} (ha : zok a) (h : ∀ v ∈ l, zok v) : ∀ v ∈ a :: l, zok v := List.forall_mem_cons.mpr ⟨ha, h⟩
/-- what is known of the state, the stack and the locals where one stands -/
theorem zR_wf (k : zwf σ → zR G M pc ls st σ Q) : zR G M pc ls st σ Q := fun hl hs hw => k hw hl hs hw
theorem zR_ls (k : (∀ v ∈ ls, zok v) → zR G M pc ls st σ Q) : zR G M pc ls st σ Q := fun hl hs hw => k hl hl hs hw
theorem zR_st (k : (∀ v ∈ st, zok v) → zR G M pc ls st σ Q) : zR G M pc ls st σ Q := fun hl hs hw => k hs hl hs hw
theorem zR_mono {Q' : Int → zS → Prop} (hq : ∀ r σ', Q' r σ' → Q r σ') (k : zR G M pc ls st σ Q') : zR G M pc ls st σ Q := by
  intro hl hs hw p e s m args below meth c C H locs lsr hP hS hL T hT X
  obtain ⟨t, h1, o, h2, h3, h4, h5⟩ := k hl hs hw p e s m args below meth c C H locs lsr hP hS hL T hT X
  refine ⟨t, h1, o, h2, h3, ?_, h5⟩
  obtain ⟨⟨r, σ', z1, z2, z3, z4, z5⟩, z6⟩ := h4
  exact ⟨⟨r, σ', z1, z2, z3, hq _ _ z4, z5⟩, z6⟩
theorem zO_mono {Q' : Int → zS → Prop} {as : List zV} (hq : ∀ r σ', Q' r σ' → Q r σ') (k : zO G M as σ Q') : zO G M as σ Q := by
  intro ha hw hi p e hv hx hy s m args below h1 h2 h3 h4
  obtain ⟨j, o, a1, a2, a3, ⟨⟨r, σ', z1, z2, z3, z4, z5⟩, z6⟩, a5⟩ := k ha hw hi p e hv hx hy s m args below h1 h2 h3 h4
  exact ⟨j, o, a1, a2, a3, ⟨⟨r, σ', z1, z2, z3, hq _ _ z4, z5⟩, z6⟩, a5⟩

theorem z_iconst {n : Int} (d : decode (zMb M) pc = .ok (.iconst n, 1)) (hn : zIn n) (k : zR G M (pc + 1) ls (zi n :: st) σ Q) : zR G M pc ls st σ Q :=
  zst (zki hn) (fun hx hb C hL hs w => lv_iconst hx hb d rfl w) k
theorem z_bipush {n x : Int} (d : decode (zMb M) pc = .ok (.bipush n, 2)) (hn : (Int8.ofInt n).toInt32 = Int32.ofInt x) (hx0 : zIn x) (k : zR G M (pc + 2) ls (zi x :: st) σ Q) : zR G M pc ls st σ Q :=
  zst (zki hx0) (fun hx hb C hL hs w => lv_bipush hx hb d hn w) k
theorem z_sipush {n x : Int} (d : decode (zMb M) pc = .ok (.sipush n, 3)) (hn : (Int16.ofInt n).toInt32 = Int32.ofInt x) (hx0 : zIn x) (k : zR G M (pc + 3) ls (zi x :: st) σ Q) : zR G M pc ls st σ Q :=
  zst (zki hx0) (fun hx hb C hL hs w => lv_sipush hx hb d hn w) k
theorem z_ldc {idx : Nat} {x : Int} (hc : Cond.constant (zMy M).cls idx (Int32.ofInt x) ∈ lw_tbl) (hx0 : zIn x) (d : decode (zMb M) pc = .ok (.ldc idx, 2)) (k : zR G M (pc + 2) ls (zi x :: st) σ Q) : zR G M pc ls st σ Q :=
  zst (zki hx0) (fun hx hb C hL hs w => lv_ldc hx hb C.2.2.2.2.1 (C.2.2.2.2.2.1 _ (zTb_in hc rfl)) d w) k
theorem z_ldcw {idx : Nat} {x : Int} (hc : Cond.constant (zMy M).cls idx (Int32.ofInt x) ∈ lw_tbl) (hx0 : zIn x) (d : decode (zMb M) pc = .ok (.ldc_w idx, 3)) (k : zR G M (pc + 3) ls (zi x :: st) σ Q) : zR G M pc ls st σ Q :=
  zst (zki hx0) (fun hx hb C hL hs w => lv_ldcw hx hb C.2.2.2.2.1 (C.2.2.2.2.2.1 _ (zTb_in hc rfl)) d w) k
theorem z_ldc2 {idx : Nat} {x : Int} (hc : Cond.constantLong (zMy M).cls idx (Int64.ofInt x) ∈ lw_tbl) (hx0 : zLn x) (d : decode (zMb M) pc = .ok (.ldc2_w idx, 3)) (k : zR G M (pc + 3) ls (zl x :: st) σ Q) : zR G M pc ls st σ Q :=
  zst (zkl hx0) (fun hx hb C hL hs w => lv_ldc2 hx hb C.2.2.2.2.1 (C.2.2.2.2.2.1 _ (zTb_in hc rfl)) d w) k
theorem z_lconst {n : Fin 2} {x : Int} (d : decode (zMb M) pc = .ok (.lconst n, 1)) (hn : Int64.ofNat (n : Nat) = Int64.ofInt x) (hx0 : zLn x) (k : zR G M (pc + 1) ls (zl x :: st) σ Q) : zR G M pc ls st σ Q :=
  zst (zkl hx0) (fun hx hb C hL hs w => lv_lconst hx hb d hn w) k

theorem z_iload_n {k0 : Fin 4} {i : Nat} {x : Int} (d : decode (zMb M) pc = .ok (.iload_n k0, 1)) (hi : (k0 : Nat) = i) (hv : ls[i]? = some (zi x)) (k : zR G M (pc + 1) ls (zi x :: st) σ Q) : zR G M pc ls st σ Q := by
  refine zR_ls fun hl => zst (zkc (hl _ (List.mem_of_getElem? hv))) (fun hx hb C hL hs w => lv_iload_n hx hb d hi (zLs_at hL hv (fun z => by cases z)) w) k

theorem z_iload {i : Nat} {x : Int} (d : decode (zMb M) pc = .ok (.iload i, 2)) (hv : ls[i]? = some (zi x)) (k : zR G M (pc + 2) ls (zi x :: st) σ Q) : zR G M pc ls st σ Q := by
  refine zR_ls fun hl => zst (zkc (hl _ (List.mem_of_getElem? hv))) (fun hx hb C hL hs w => lv_iload hx hb d (zLs_at hL hv (fun z => by cases z)) w) k

theorem z_lload_n {k0 : Fin 4} {i : Nat} {x : Int} (d : decode (zMb M) pc = .ok (.lload_n k0, 1)) (hi : (k0 : Nat) = i) (hv : ls[i]? = some (zl x)) (k : zR G M (pc + 1) ls (zl x :: st) σ Q) : zR G M pc ls st σ Q := by
  refine zR_ls fun hl => zst (zkc (hl _ (List.mem_of_getElem? hv))) (fun hx hb C hL hs w => lv_lload_n hx hb d hi (zLs_at hL hv (fun z => by cases z)) w) k

theorem z_lload {i : Nat} {x : Int} (d : decode (zMb M) pc = .ok (.lload i, 2)) (hv : ls[i]? = some (zl x)) (k : zR G M (pc + 2) ls (zl x :: st) σ Q) : zR G M pc ls st σ Q := by
  refine zR_ls fun hl => zst (zkc (hl _ (List.mem_of_getElem? hv))) (fun hx hb C hL hs w => lv_lload hx hb d (zLs_at hL hv (fun z => by cases z)) w) k

theorem z_aload_n {k0 : Fin 4} {i : Nat} {x : Nat} (d : decode (zMb M) pc = .ok (.aload_n k0, 1)) (hi : (k0 : Nat) = i) (hv : ls[i]? = some (zr x)) (k : zR G M (pc + 1) ls (zr x :: st) σ Q) : zR G M pc ls st σ Q := by
  refine zR_ls fun hl => zst (zkc (hl _ (List.mem_of_getElem? hv))) (fun hx hb C hL hs w => lv_aload_n hx hb d hi (zLs_at hL hv (fun z => by cases z)) w) k

theorem z_aload {i : Nat} {x : Nat} (d : decode (zMb M) pc = .ok (.aload i, 2)) (hv : ls[i]? = some (zr x)) (k : zR G M (pc + 2) ls (zr x :: st) σ Q) : zR G M pc ls st σ Q := by
  refine zR_ls fun hl => zst (zkc (hl _ (List.mem_of_getElem? hv))) (fun hx hb C hL hs w => lv_aload hx hb d (zLs_at hL hv (fun z => by cases z)) w) k

theorem z_istore_n {k0 : Fin 4} {i : Nat} {x : Int} {ls' : List zV} (d : decode (zMb M) pc = .ok (.istore_n k0, 1)) (hi : (k0 : Nat) = i) (hn : i < zMl M) (he : zs1 ls i (zi x) = ls') (k : zR G M (pc + 1) ls' st σ Q) : zR G M pc ls (zi x :: st) σ Q := by
  subst he
  intro hl hs hw p e s m args below meth c C H locs lsr hP hS hL
  exact lv_istore_n C.1 C.2.1 d hi hL hn rfl (fun ls' hL' => k (zok_s1 hl (zk1 hs)) (zkt hs) hw p e s m args below meth c C H locs ls' hP hS (zLs_s1 hL'))

theorem z_istore {i : Nat} {x : Int} {ls' : List zV} (d : decode (zMb M) pc = .ok (.istore i, 2)) (hn : i < zMl M) (he : zs1 ls i (zi x) = ls') (k : zR G M (pc + 2) ls' st σ Q) : zR G M pc ls (zi x :: st) σ Q := by
  subst he
  intro hl hs hw p e s m args below meth c C H locs lsr hP hS hL
  exact lv_istore C.1 C.2.1 d hL hn rfl (fun ls' hL' => k (zok_s1 hl (zk1 hs)) (zkt hs) hw p e s m args below meth c C H locs ls' hP hS (zLs_s1 hL'))

theorem z_astore_n {k0 : Fin 4} {i : Nat} {x : Nat} {ls' : List zV} (d : decode (zMb M) pc = .ok (.astore_n k0, 1)) (hi : (k0 : Nat) = i) (hn : i < zMl M) (he : zs1 ls i (zr x) = ls') (k : zR G M (pc + 1) ls' st σ Q) : zR G M pc ls (zr x :: st) σ Q := by
  subst he
  intro hl hs hw p e s m args below meth c C H locs lsr hP hS hL
  exact lv_astore_n C.1 C.2.1 d hi hL hn rfl (fun ls' hL' => k (zok_s1 hl (zk1 hs)) (zkt hs) hw p e s m args below meth c C H locs ls' hP hS (zLs_s1 hL'))

theorem z_astore {i : Nat} {x : Nat} {ls' : List zV} (d : decode (zMb M) pc = .ok (.astore i, 2)) (hn : i < zMl M) (he : zs1 ls i (zr x) = ls') (k : zR G M (pc + 2) ls' st σ Q) : zR G M pc ls (zr x :: st) σ Q := by
  subst he
  intro hl hs hw p e s m args below meth c C H locs lsr hP hS hL
  exact lv_astore C.1 C.2.1 d hL hn rfl (fun ls' hL' => k (zok_s1 hl (zk1 hs)) (zkt hs) hw p e s m args below meth c C H locs ls' hP hS (zLs_s1 hL'))

theorem z_lstore_n {k0 : Fin 4} {i : Nat} {x : Int} {ls' : List zV} (d : decode (zMb M) pc = .ok (.lstore_n k0, 1)) (hi : (k0 : Nat) = i) (hn : i + 1 < zMl M) (he : zs2 ls i (zl x) = ls') (k : zR G M (pc + 1) ls' st σ Q) : zR G M pc ls (zl x :: st) σ Q := by
  subst he
  intro hl hs hw p e s m args below meth c C H locs lsr hP hS hL
  exact lv_lstore_n C.1 C.2.1 d hi hL hn rfl (fun ls' hL' => k (zok_s2 hl (zk1 hs)) (zkt hs) hw p e s m args below meth c C H locs ls' hP hS (zLs_s2 hL'))

theorem z_lstore {i : Nat} {x : Int} {ls' : List zV} (d : decode (zMb M) pc = .ok (.lstore i, 2)) (hn : i + 1 < zMl M) (he : zs2 ls i (zl x) = ls') (k : zR G M (pc + 2) ls' st σ Q) : zR G M pc ls (zl x :: st) σ Q := by
  subst he
  intro hl hs hw p e s m args below meth c C H locs lsr hP hS hL
  exact lv_lstore C.1 C.2.1 d hL hn rfl (fun ls' hL' => k (zok_s2 hl (zk1 hs)) (zkt hs) hw p e s m args below meth c C H locs ls' hP hS (zLs_s2 hL'))

theorem z_iinc {i : Nat} {n x : Int} {ls' : List zV} (d : decode (zMb M) pc = .ok (.iinc i n, 3)) (hv : ls[i]? = some (zi x)) (hn : i < zMl M) (he : zs1 ls i (zi (zW (x + n))) = ls') (k : zR G M (pc + 3) ls' st σ Q) : zR G M pc ls st σ Q := by
  subst he
  intro hl hs hw p e s m args below meth c C H locs lsr hP hS hL
  obtain ⟨j, hj⟩ := List.getElem?_of_mem (zlv_in (G := G) hv (fun z => by cases z))
  have e1 : Int32.ofInt x + Int32.ofInt n = Int32.ofInt (zW (x + n)) := by rw [zI_W, Int32.ofInt_add]
  exact lv_iinc C.1 C.2.1 d hL hj e1 hn rfl (fun ls' hL' => k (zok_s1 hl (zIn_W _)) hs hw p e s m args below meth c C H locs ls' hP hS (zLs_s1 (v := zi (zW (x + n))) hL'))

theorem z_iadd {x y : Int} (d : decode (zMb M) pc = .ok (.iadd, 1)) (k : zR G M (pc + 1) ls (zi (zW (x + y)) :: st) σ Q) : zR G M pc ls (zi y :: zi x :: st) σ Q :=
  zst (fun h => zki (zIn_W _) (zkt (zkt h))) (fun hx hb C hL hs w => lv_iadd hx hb d (by
    have e : Int32.ofInt x + Int32.ofInt y = Int32.ofInt (zW (x + y)) := by rw [zI_W, Int32.ofInt_add]
    rw [e]; exact w)) k

theorem z_isub {x y : Int} (d : decode (zMb M) pc = .ok (.isub, 1)) (k : zR G M (pc + 1) ls (zi (zW (x - y)) :: st) σ Q) : zR G M pc ls (zi y :: zi x :: st) σ Q :=
  zst (fun h => zki (zIn_W _) (zkt (zkt h))) (fun hx hb C hL hs w => lv_isub hx hb d (by
    have e : Int32.ofInt x - Int32.ofInt y = Int32.ofInt (zW (x - y)) := by rw [zI_W, Int32.ofInt_sub]
    rw [e]; exact w)) k

theorem z_imul {x y : Int} (d : decode (zMb M) pc = .ok (.imul, 1)) (k : zR G M (pc + 1) ls (zi (zW (x * y)) :: st) σ Q) : zR G M pc ls (zi y :: zi x :: st) σ Q :=
  zst (fun h => zki (zIn_W _) (zkt (zkt h))) (fun hx hb C hL hs w => lv_imul hx hb d (by
    have e : Int32.ofInt x * Int32.ofInt y = Int32.ofInt (zW (x * y)) := by rw [zI_W, Int32.ofInt_mul]
    rw [e]; exact w)) k

theorem z_ineg {x : Int} (d : decode (zMb M) pc = .ok (.ineg, 1)) (k : zR G M (pc + 1) ls (zi (zW (-x)) :: st) σ Q) : zR G M pc ls (zi x :: st) σ Q :=
  zst (fun h => zki (zIn_W _) (zkt h)) (fun hx hb C hL hs w => lv_ineg hx hb d (by
    have e : -Int32.ofInt x = Int32.ofInt (zW (-x)) := by rw [zI_W, Int32.ofInt_neg]
    rw [e]; exact w)) k

theorem z_ladd {x y : Int} (d : decode (zMb M) pc = .ok (.ladd, 1)) (k : zR G M (pc + 1) ls (zl (zWL (x + y)) :: st) σ Q) : zR G M pc ls (zl y :: zl x :: st) σ Q :=
  zst (fun h => zkl (zLn_W _) (zkt (zkt h))) (fun hx hb C hL hs w => lv_ladd hx hb d (by
    have e : Int64.ofInt x + Int64.ofInt y = Int64.ofInt (zWL (x + y)) := by rw [zL_W, Int64.ofInt_add]
    rw [e]; exact w)) k

theorem z_lsub {x y : Int} (d : decode (zMb M) pc = .ok (.lsub, 1)) (k : zR G M (pc + 1) ls (zl (zWL (x - y)) :: st) σ Q) : zR G M pc ls (zl y :: zl x :: st) σ Q :=
  zst (fun h => zkl (zLn_W _) (zkt (zkt h))) (fun hx hb C hL hs w => lv_lsub hx hb d (by
    have e : Int64.ofInt x - Int64.ofInt y = Int64.ofInt (zWL (x - y)) := by rw [zL_W, Int64.ofInt_sub]
    rw [e]; exact w)) k

theorem z_lmul {x y : Int} (d : decode (zMb M) pc = .ok (.lmul, 1)) (k : zR G M (pc + 1) ls (zl (zWL (x * y)) :: st) σ Q) : zR G M pc ls (zl y :: zl x :: st) σ Q :=
  zst (fun h => zkl (zLn_W _) (zkt (zkt h))) (fun hx hb C hL hs w => lv_lmul hx hb d (by
    have e : Int64.ofInt x * Int64.ofInt y = Int64.ofInt (zWL (x * y)) := by rw [zL_W, Int64.ofInt_mul]
    rw [e]; exact w)) k

theorem z_iand {x y : Int} (d : decode (zMb M) pc = .ok (.iand, 1)) (k : zR G M (pc + 1) ls (zi (zand x y) :: st) σ Q) : zR G M pc ls (zi y :: zi x :: st) σ Q :=
  zst (fun h => zki (zIn_of _) (zkt (zkt h))) (fun hx hb C hL hs w => lv_iand hx hb d (by rw [← zI_of (Int32.ofInt x &&& Int32.ofInt y)]; exact w)) k

theorem z_ior {x y : Int} (d : decode (zMb M) pc = .ok (.ior, 1)) (k : zR G M (pc + 1) ls (zi (zor x y) :: st) σ Q) : zR G M pc ls (zi y :: zi x :: st) σ Q :=
  zst (fun h => zki (zIn_of _) (zkt (zkt h))) (fun hx hb C hL hs w => lv_ior hx hb d (by rw [← zI_of (Int32.ofInt x ||| Int32.ofInt y)]; exact w)) k

theorem z_ixor {x y : Int} (d : decode (zMb M) pc = .ok (.ixor, 1)) (k : zR G M (pc + 1) ls (zi (zxor x y) :: st) σ Q) : zR G M pc ls (zi y :: zi x :: st) σ Q :=
  zst (fun h => zki (zIn_of _) (zkt (zkt h))) (fun hx hb C hL hs w => lv_ixor hx hb d (by rw [← zI_of (Int32.ofInt x ^^^ Int32.ofInt y)]; exact w)) k

theorem z_ishl {x y : Int} (d : decode (zMb M) pc = .ok (.ishl, 1)) (k : zR G M (pc + 1) ls (zi (zshl x y) :: st) σ Q) : zR G M pc ls (zi y :: zi x :: st) σ Q :=
  zst (fun h => zki (zIn_of _) (zkt (zkt h))) (fun hx hb C hL hs w => lv_ishl hx hb d (by rw [← zI_of (Int32.ofInt x <<< (Int32.ofInt y &&& 31))]; exact w)) k

theorem z_ishr {x y : Int} (d : decode (zMb M) pc = .ok (.ishr, 1)) (k : zR G M (pc + 1) ls (zi (zshr x y) :: st) σ Q) : zR G M pc ls (zi y :: zi x :: st) σ Q :=
  zst (fun h => zki (zIn_of _) (zkt (zkt h))) (fun hx hb C hL hs w => lv_ishr hx hb d (by rw [← zI_of (Int32.ofInt x >>> (Int32.ofInt y &&& 31))]; exact w)) k

theorem z_iushr {x y : Int} (d : decode (zMb M) pc = .ok (.iushr, 1)) (k : zR G M (pc + 1) ls (zi (zushr x y) :: st) σ Q) : zR G M pc ls (zi y :: zi x :: st) σ Q :=
  zst (fun h => zki (zIn_of _) (zkt (zkt h))) (fun hx hb C hL hs w => lv_iushr hx hb d (zI_of _).symm w) k

theorem z_idiv {x y : Int} (d : decode (zMb M) pc = .ok (.idiv, 1)) (hy : y ≠ 0) (k : zR G M (pc + 1) ls (zi (zdiv x y) :: st) σ Q) : zR G M pc ls (zi y :: zi x :: st) σ Q :=
  zst (fun h => zki (zIn_of _) (zkt (zkt h))) (fun hx hb C hL hs w => lv_idiv hx hb d (fun z => hy ((zI_inj (zk1 hs) zIn_0).mp z)) (by rw [← zI_of (Int32.ofInt x / Int32.ofInt y)]; exact w)) k

theorem z_irem {x y : Int} (d : decode (zMb M) pc = .ok (.irem, 1)) (hy : y ≠ 0) (k : zR G M (pc + 1) ls (zi (zrem x y) :: st) σ Q) : zR G M pc ls (zi y :: zi x :: st) σ Q :=
  zst (fun h => zki (zIn_of _) (zkt (zkt h))) (fun hx hb C hL hs w => lv_irem hx hb d (fun z => hy ((zI_inj (zk1 hs) zIn_0).mp z)) (by rw [← zI_of (Int32.ofInt x - Int32.ofInt x / Int32.ofInt y * Int32.ofInt y)]; exact w)) k

theorem z_ldiv {x y : Int} (d : decode (zMb M) pc = .ok (.ldiv, 1)) (hy : y ≠ 0) (k : zR G M (pc + 1) ls (zl (zldiv x y) :: st) σ Q) : zR G M pc ls (zl y :: zl x :: st) σ Q :=
  zst (fun h => zkl (zLn_of _) (zkt (zkt h))) (fun hx hb C hL hs w => lv_ldiv hx hb d (fun z => hy ((zL_inj (zk1 hs) (zIn_Ln zIn_0)).mp z)) (by rw [← zL_of (Int64.ofInt x / Int64.ofInt y)]; exact w)) k
theorem z_lcmp {x y : Int} (d : decode (zMb M) pc = .ok (.lcmp, 1)) (k : zR G M (pc + 1) ls (zi (zlcmp x y) :: st) σ Q) : zR G M pc ls (zl y :: zl x :: st) σ Q :=
  zst (fun h => zki (zIn_of _) (zkt (zkt h))) (fun hx hb C hL hs w => W.lcmp hx hb d (by rw [← zI_of (lg_cmp (Int64.ofInt x) (Int64.ofInt y))]; exact w)) k
theorem z_i2l {x : Int} (d : decode (zMb M) pc = .ok (.i2l, 1)) (k : zR G M (pc + 1) ls (zl x :: st) σ Q) : zR G M pc ls (zi x :: st) σ Q := by
  refine zR_st fun h0 => zst (fun h => zkl (zIn_Ln (zk1 h)) (zkt h)) (fun hx hb C hL hs w => lv_i2l hx hb d ?_ w) k
  apply Int64.toInt_inj.mp
  rw [zL_toInt (zIn_Ln (zk1 h0)), Int32.toInt_toInt64, zI_toInt (zk1 h0)]
theorem z_l2i {x : Int} (d : decode (zMb M) pc = .ok (.l2i, 1)) (k : zR G M (pc + 1) ls (zi (zW x) :: st) σ Q) : zR G M pc ls (zl x :: st) σ Q := by
  refine zR_st fun h0 => zst (fun h => zki (zIn_W _) (zkt h)) (fun hx hb C hL hs w => lv_l2i hx hb d ?_ w) k
  rw [zI_W]
  apply Int32.toInt_inj.mp
  rw [Int64.toInt_toInt32, zL_toInt (zk1 h0), Int32.toInt_ofInt]
theorem z_i2b {x : Int} (d : decode (zMb M) pc = .ok (.i2b, 1)) (k : zR G M (pc + 1) ls (zi (zi2b x) :: st) σ Q) : zR G M pc ls (zi x :: st) σ Q :=
  zst (fun h => zki (zIn_of _) (zkt h)) (fun hx hb C hL hs w => lv_i2b hx hb d (zI_of _).symm w) k
theorem z_i2s {x : Int} (d : decode (zMb M) pc = .ok (.i2s, 1)) (k : zR G M (pc + 1) ls (zi (zi2s x) :: st) σ Q) : zR G M pc ls (zi x :: st) σ Q :=
  zst (fun h => zki (zIn_of _) (zkt h)) (fun hx hb C hL hs w => lv_i2s hx hb d (zI_of _).symm w) k
def zcat : zV → Nat
  | .inr (.inl _) => 2
  | _ => 1
theorem zcat_re (v : zV) : (zre G v).category = zcat v := by
  rcases v with x | x | x | x <;> rfl
theorem z_dup {v : zV} (d : decode (zMb M) pc = .ok (.dup, 1)) (hv : zcat v = 1) (k : zR G M (pc + 1) ls (v :: v :: st) σ Q) : zR G M pc ls (v :: st) σ Q :=
  zst (fun h => zkc (zk1 h) h) (fun hx hb C hL hs w => lv_dup hx hb d ((zcat_re v).trans hv) w) k
theorem z_pop {v : zV} (d : decode (zMb M) pc = .ok (.pop, 1)) (hv : zcat v = 1) (k : zR G M (pc + 1) ls st σ Q) : zR G M pc ls (v :: st) σ Q :=
  zst (fun h => zkt h) (fun hx hb C hL hs w => lv_pop hx hb d ((zcat_re v).trans hv) w) k
theorem z_dup_x1 {v u : zV} (d : decode (zMb M) pc = .ok (.dup_x1, 1)) (hv : zcat v = 1) (hu : zcat u = 1) (k : zR G M (pc + 1) ls (v :: u :: v :: st) σ Q) : zR G M pc ls (v :: u :: st) σ Q :=
  zst (fun h => zkc (zk1 h) (zkc (zk2 h) (zkc (zk1 h) (zkt (zkt h))))) (fun hx hb C hL hs w => lv_dup_x1 hx hb d ((zcat_re v).trans hv) ((zcat_re u).trans hu) w) k
theorem z_dup_x2 {v u t : zV} (d : decode (zMb M) pc = .ok (.dup_x2, 1)) (hv : zcat v = 1) (hu : zcat u = 1) (ht : zcat t = 1) (k : zR G M (pc + 1) ls (v :: u :: t :: v :: st) σ Q) : zR G M pc ls (v :: u :: t :: st) σ Q :=
  zst (fun h => zkc (zk1 h) (zkc (zk2 h) (zkc (zk3 h) (zkc (zk1 h) (zkt (zkt (zkt h))))))) (fun hx hb C hL hs w => lv_dup_x2 hx hb d ((zcat_re v).trans hv) ((zcat_re u).trans hu) ((zcat_re t).trans ht) w) k
theorem z_dup2 {v u : zV} (d : decode (zMb M) pc = .ok (.dup2, 1)) (hv : zcat v = 1) (hu : zcat u = 1) (k : zR G M (pc + 1) ls (v :: u :: v :: u :: st) σ Q) : zR G M pc ls (v :: u :: st) σ Q :=
  zst (fun h => zkc (zk1 h) (zkc (zk2 h) h)) (fun hx hb C hL hs w => lv_dup2_11 hx hb d ((zcat_re v).trans hv) ((zcat_re u).trans hu) w) k
theorem z_goto {off : Int} {tgt : Nat} (d : decode (zMb M) pc = .ok (.goto off, 3)) (ht : (pc : Int) + off = (tgt : Int)) (k : zR G M tgt ls st σ Q) : zR G M pc ls st σ Q :=
  zst (fun h => h) (fun hx hb C hL hs w => lv_goto hx hb d ht w) k

theorem z_icmp_eq {x y off : Int} {tgt : Nat} (d : decode (zMb M) pc = .ok (.if_icmp .eq off, 3)) (ht : (pc : Int) + off = (tgt : Int)) (kt : x = y → zR G M tgt ls st σ Q) (kf : x ≠ y → zR G M (pc + 3) ls st σ Q) : zR G M pc ls (zi y :: zi x :: st) σ Q := by
  intro hl hs hw p e s m args below meth c C H locs lsr hP hS hL
  have hy : zIn y := zk1 hs
  have hx : zIn x := zk2 hs
  exact lv_icmp_eq C.1 C.2.1 d ht (fun h => kt ((zI_inj hx hy).mp h) hl (zkt (zkt hs)) hw p e s m args below meth c C H locs lsr hP hS hL) (fun h => kf (fun z => h ((zI_inj hx hy).mpr z)) hl (zkt (zkt hs)) hw p e s m args below meth c C H locs lsr hP hS hL)

theorem z_if_eq {x off : Int} {tgt : Nat} (d : decode (zMb M) pc = .ok (.ifCond .eq off, 3)) (ht : (pc : Int) + off = (tgt : Int)) (kt : x = 0 → zR G M tgt ls st σ Q) (kf : x ≠ 0 → zR G M (pc + 3) ls st σ Q) : zR G M pc ls (zi x :: st) σ Q := by
  intro hl hs hw p e s m args below meth c C H locs lsr hP hS hL
  have hy : zIn 0 := zIn_0
  have hx : zIn x := zk1 hs
  exact lv_if_eq C.1 C.2.1 d ht (fun h => kt ((zI_inj hx hy).mp h) hl (zkt hs) hw p e s m args below meth c C H locs lsr hP hS hL) (fun h => kf (fun z => h ((zI_inj hx hy).mpr z)) hl (zkt hs) hw p e s m args below meth c C H locs lsr hP hS hL)

theorem z_icmp_ne {x y off : Int} {tgt : Nat} (d : decode (zMb M) pc = .ok (.if_icmp .ne off, 3)) (ht : (pc : Int) + off = (tgt : Int)) (kt : x ≠ y → zR G M tgt ls st σ Q) (kf : x = y → zR G M (pc + 3) ls st σ Q) : zR G M pc ls (zi y :: zi x :: st) σ Q := by
  intro hl hs hw p e s m args below meth c C H locs lsr hP hS hL
  have hy : zIn y := zk1 hs
  have hx : zIn x := zk2 hs
  exact lv_icmp_ne C.1 C.2.1 d ht (fun h => kt (fun z => h ((zI_inj hx hy).mpr z)) hl (zkt (zkt hs)) hw p e s m args below meth c C H locs lsr hP hS hL) (fun h => kf ((zI_inj hx hy).mp h) hl (zkt (zkt hs)) hw p e s m args below meth c C H locs lsr hP hS hL)

theorem z_if_ne {x off : Int} {tgt : Nat} (d : decode (zMb M) pc = .ok (.ifCond .ne off, 3)) (ht : (pc : Int) + off = (tgt : Int)) (kt : x ≠ 0 → zR G M tgt ls st σ Q) (kf : x = 0 → zR G M (pc + 3) ls st σ Q) : zR G M pc ls (zi x :: st) σ Q := by
  intro hl hs hw p e s m args below meth c C H locs lsr hP hS hL
  have hy : zIn 0 := zIn_0
  have hx : zIn x := zk1 hs
  exact lv_if_ne C.1 C.2.1 d ht (fun h => kt (fun z => h ((zI_inj hx hy).mpr z)) hl (zkt hs) hw p e s m args below meth c C H locs lsr hP hS hL) (fun h => kf ((zI_inj hx hy).mp h) hl (zkt hs) hw p e s m args below meth c C H locs lsr hP hS hL)

theorem z_icmp_lt {x y off : Int} {tgt : Nat} (d : decode (zMb M) pc = .ok (.if_icmp .lt off, 3)) (ht : (pc : Int) + off = (tgt : Int)) (kt : x < y → zR G M tgt ls st σ Q) (kf : y ≤ x → zR G M (pc + 3) ls st σ Q) : zR G M pc ls (zi y :: zi x :: st) σ Q := by
  intro hl hs hw p e s m args below meth c C H locs lsr hP hS hL
  have hy : zIn y := zk1 hs
  have hx : zIn x := zk2 hs
  exact lv_icmp_lt C.1 C.2.1 d ht (fun h => kt ((zI_lt hx hy).mp h) hl (zkt (zkt hs)) hw p e s m args below meth c C H locs lsr hP hS hL) (fun h => kf (Int.not_lt.mp (fun z => h ((zI_lt hx hy).mpr z))) hl (zkt (zkt hs)) hw p e s m args below meth c C H locs lsr hP hS hL)

theorem z_if_lt {x off : Int} {tgt : Nat} (d : decode (zMb M) pc = .ok (.ifCond .lt off, 3)) (ht : (pc : Int) + off = (tgt : Int)) (kt : x < 0 → zR G M tgt ls st σ Q) (kf : 0 ≤ x → zR G M (pc + 3) ls st σ Q) : zR G M pc ls (zi x :: st) σ Q := by
  intro hl hs hw p e s m args below meth c C H locs lsr hP hS hL
  have hy : zIn 0 := zIn_0
  have hx : zIn x := zk1 hs
  exact lv_if_lt C.1 C.2.1 d ht (fun h => kt ((zI_lt hx hy).mp h) hl (zkt hs) hw p e s m args below meth c C H locs lsr hP hS hL) (fun h => kf (Int.not_lt.mp (fun z => h ((zI_lt hx hy).mpr z))) hl (zkt hs) hw p e s m args below meth c C H locs lsr hP hS hL)

theorem z_icmp_ge {x y off : Int} {tgt : Nat} (d : decode (zMb M) pc = .ok (.if_icmp .ge off, 3)) (ht : (pc : Int) + off = (tgt : Int)) (kt : y ≤ x → zR G M tgt ls st σ Q) (kf : x < y → zR G M (pc + 3) ls st σ Q) : zR G M pc ls (zi y :: zi x :: st) σ Q := by
  intro hl hs hw p e s m args below meth c C H locs lsr hP hS hL
  have hy : zIn y := zk1 hs
  have hx : zIn x := zk2 hs
  exact lv_icmp_ge C.1 C.2.1 d ht (fun h => kt ((zI_le hy hx).mp h) hl (zkt (zkt hs)) hw p e s m args below meth c C H locs lsr hP hS hL) (fun h => kf (Int.not_le.mp (fun z => h ((zI_le hy hx).mpr z))) hl (zkt (zkt hs)) hw p e s m args below meth c C H locs lsr hP hS hL)

theorem z_if_ge {x off : Int} {tgt : Nat} (d : decode (zMb M) pc = .ok (.ifCond .ge off, 3)) (ht : (pc : Int) + off = (tgt : Int)) (kt : 0 ≤ x → zR G M tgt ls st σ Q) (kf : x < 0 → zR G M (pc + 3) ls st σ Q) : zR G M pc ls (zi x :: st) σ Q := by
  intro hl hs hw p e s m args below meth c C H locs lsr hP hS hL
  have hy : zIn 0 := zIn_0
  have hx : zIn x := zk1 hs
  exact lv_if_ge C.1 C.2.1 d ht (fun h => kt ((zI_le hy hx).mp h) hl (zkt hs) hw p e s m args below meth c C H locs lsr hP hS hL) (fun h => kf (Int.not_le.mp (fun z => h ((zI_le hy hx).mpr z))) hl (zkt hs) hw p e s m args below meth c C H locs lsr hP hS hL)

theorem z_icmp_gt {x y off : Int} {tgt : Nat} (d : decode (zMb M) pc = .ok (.if_icmp .gt off, 3)) (ht : (pc : Int) + off = (tgt : Int)) (kt : y < x → zR G M tgt ls st σ Q) (kf : x ≤ y → zR G M (pc + 3) ls st σ Q) : zR G M pc ls (zi y :: zi x :: st) σ Q := by
  intro hl hs hw p e s m args below meth c C H locs lsr hP hS hL
  have hy : zIn y := zk1 hs
  have hx : zIn x := zk2 hs
  exact lv_icmp_gt C.1 C.2.1 d ht (fun h => kt ((zI_lt hy hx).mp h) hl (zkt (zkt hs)) hw p e s m args below meth c C H locs lsr hP hS hL) (fun h => kf (Int.not_lt.mp (fun z => h ((zI_lt hy hx).mpr z))) hl (zkt (zkt hs)) hw p e s m args below meth c C H locs lsr hP hS hL)

theorem z_if_gt {x off : Int} {tgt : Nat} (d : decode (zMb M) pc = .ok (.ifCond .gt off, 3)) (ht : (pc : Int) + off = (tgt : Int)) (kt : 0 < x → zR G M tgt ls st σ Q) (kf : x ≤ 0 → zR G M (pc + 3) ls st σ Q) : zR G M pc ls (zi x :: st) σ Q := by
  intro hl hs hw p e s m args below meth c C H locs lsr hP hS hL
  have hy : zIn 0 := zIn_0
  have hx : zIn x := zk1 hs
  exact lv_if_gt C.1 C.2.1 d ht (fun h => kt ((zI_lt hy hx).mp h) hl (zkt hs) hw p e s m args below meth c C H locs lsr hP hS hL) (fun h => kf (Int.not_lt.mp (fun z => h ((zI_lt hy hx).mpr z))) hl (zkt hs) hw p e s m args below meth c C H locs lsr hP hS hL)

theorem z_icmp_le {x y off : Int} {tgt : Nat} (d : decode (zMb M) pc = .ok (.if_icmp .le off, 3)) (ht : (pc : Int) + off = (tgt : Int)) (kt : x ≤ y → zR G M tgt ls st σ Q) (kf : y < x → zR G M (pc + 3) ls st σ Q) : zR G M pc ls (zi y :: zi x :: st) σ Q := by
  intro hl hs hw p e s m args below meth c C H locs lsr hP hS hL
  have hy : zIn y := zk1 hs
  have hx : zIn x := zk2 hs
  exact lv_icmp_le C.1 C.2.1 d ht (fun h => kt ((zI_le hx hy).mp h) hl (zkt (zkt hs)) hw p e s m args below meth c C H locs lsr hP hS hL) (fun h => kf (Int.not_le.mp (fun z => h ((zI_le hx hy).mpr z))) hl (zkt (zkt hs)) hw p e s m args below meth c C H locs lsr hP hS hL)

theorem z_if_le {x off : Int} {tgt : Nat} (d : decode (zMb M) pc = .ok (.ifCond .le off, 3)) (ht : (pc : Int) + off = (tgt : Int)) (kt : x ≤ 0 → zR G M tgt ls st σ Q) (kf : 0 < x → zR G M (pc + 3) ls st σ Q) : zR G M pc ls (zi x :: st) σ Q := by
  intro hl hs hw p e s m args below meth c C H locs lsr hP hS hL
  have hy : zIn 0 := zIn_0
  have hx : zIn x := zk1 hs
  exact lv_if_le C.1 C.2.1 d ht (fun h => kt ((zI_le hx hy).mp h) hl (zkt hs) hw p e s m args below meth c C H locs lsr hP hS hL) (fun h => kf (Int.not_le.mp (fun z => h ((zI_le hx hy).mpr z))) hl (zkt hs) hw p e s m args below meth c C H locs lsr hP hS hL)

end ZR
