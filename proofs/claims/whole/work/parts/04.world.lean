/-- the cells of the world: kind (0 ints, 1 booleans, 2 longs, 3 the row of shelves, 4 an object), length or class, what its fields lead to -/
def zshL : List (Nat × Nat × List (Option Nat)) := [(4, 11, [some 1, some 22, some 35, some 47, some 52, some 59, some 65, some 68, some 79, some 83, some 91, some 94, some 97, none]), (3, 10, [some 2, some 4, some 6, some 8, some 10, some 12, some 14, some 16, some 18, some 20]), (4, 9, [some 3, none, none, none]), (2, 80, []), (4, 9, [some 5, none, none, none]), (2, 80, []), (4, 9, [some 7, none, none, none]), (2, 80, []), (4, 9, [some 9, none, none, none]), (2, 80, []), (4, 9, [some 11, none, none, none]), (2, 80, []), (4, 9, [some 13, none, none, none]), (2, 80, []), (4, 9, [some 15, none, none, none]), (2, 80, []), (4, 9, [some 17, none, none, none]), (2, 80, []), (4, 9, [some 19, none, none, none]), (2, 80, []), (4, 9, [some 21, none, none, none]), (2, 80, []), (4, 5, [some 23, some 24, some 25, some 26, some 27, some 28, some 29, some 30, some 31, some 32, some 33, some 34, none, none, none, none, none]), (0, 24, []), (0, 48, []), (0, 48, []), (0, 24, []), (0, 24, []), (0, 400, []), (0, 400, []), (0, 400, []), (0, 400, []), (0, 24, []), (0, 24, []), (0, 24, []), (4, 10, [some 36, some 37, some 38, some 39, some 40, some 41, some 42, some 43, some 44, some 45, some 46, none, none, none]), (0, 320, []), (0, 4, []), (0, 12, []), (0, 12, []), (0, 12, []), (0, 960, []), (0, 12, []), (0, 960, []), (0, 12, []), (0, 12, []), (0, 200, []), (4, 3, [some 22, some 35, some 48, some 49, some 50, some 51, none, none, none, none, none, none, none, none]), (0, 31, []), (0, 31, []), (0, 31, []), (0, 4, []), (4, 6, [some 47, some 53, some 54, some 55, some 56, some 57, some 58, none, none]), (0, 12, []), (0, 12, []), (0, 12, []), (0, 12, []), (0, 12, []), (0, 12, []), (4, 1, [none, some 60, some 61]), (0, 576, []), (0, 24, []), (4, 1, [none, some 63, some 64]), (0, 576, []), (0, 24, []), (4, 2, [some 22, some 52, some 47, some 59, some 62, some 66, some 67, none, none, none, none]), (0, 576, []), (0, 24, []), (4, 4, [some 22, some 69, some 70, some 71, some 72, some 73, some 74, some 75, some 76, some 77, some 78, none, none, none]), (0, 8, []), (0, 8, []), (0, 8, []), (0, 8, []), (0, 8, []), (0, 8, []), (0, 8, []), (0, 200, []), (0, 200, []), (0, 80, []), (4, 0, [some 80, some 81, some 82, none, none, none, none, none]), (0, 440, []), (0, 24, []), (0, 24, []), (4, 7, [some 68, some 79, some 84, some 85, some 86, some 87, some 88, some 89, some 90, none, none, none, none, none]), (0, 2, []), (0, 2, []), (0, 10, []), (0, 80, []), (0, 10, []), (0, 11, []), (0, 3, []), (4, 1, [none, some 92, some 93]), (0, 216, []), (0, 24, []), (4, 8, [some 52, some 91, some 95, some 96, none]), (0, 24, []), (0, 9, []), (0, 8, []), (4, 12, [none, none, none, none, none, none, none, none, none, none, none, none, none, some 99, some 100, some 101, some 102, some 103, some 104, some 105, some 106, some 107, some 108, some 109, some 110, some 111, some 112, some 113, some 114, some 115, some 116, some 117, some 118, some 119, some 120, some 121, some 122, some 123, some 124, some 125, some 126, some 127, some 128, none, some 129, some 130, some 131, some 132, some 133, some 134, some 135, some 136, some 137, some 138, some 139, some 140, some 141, some 142, some 143, some 144, some 145, some 146, some 147, none, some 148, some 149, some 150, some 151, some 152, some 153, some 154, some 155, some 156, some 157, some 158, some 159, some 160, some 161, some 162, some 163, some 164, some 165, some 166, some 167, none, none, none, none, none, none, none, none, none, some 168, some 169, some 170, some 171, some 172, some 173, none, none, none, some 174, some 175, none, none, some 176, some 177, some 178]), (0, 24, []), (0, 24, []), (0, 24, []), (0, 48, []), (0, 48, []), (1, 24, []), (1, 24, []), (0, 400, []), (0, 400, []), (0, 400, []), (0, 400, []), (0, 400, []), (0, 10, []), (0, 10, []), (0, 10, []), (0, 10, []), (2, 800, []), (2, 80, []), (0, 320, []), (0, 4, []), (0, 12, []), (0, 12, []), (0, 12, []), (0, 12, []), (0, 12, []), (0, 960, []), (0, 960, []), (1, 12, []), (0, 300, []), (0, 300, []), (0, 12, []), (0, 12, []), (0, 12, []), (0, 12, []), (0, 12, []), (0, 1920, []), (0, 24, []), (0, 1920, []), (0, 24, []), (0, 24, []), (0, 8, []), (0, 8, []), (0, 8, []), (0, 8, []), (0, 8, []), (0, 8, []), (0, 8, []), (0, 10452, []), (0, 80, []), (0, 400, []), (0, 400, []), (0, 400, []), (1, 120, []), (1, 120, []), (0, 24, []), (0, 24, []), (0, 2, []), (0, 2, []), (0, 8, []), (0, 24, []), (0, 24, []), (0, 24, []), (1, 4, []), (0, 110, []), (0, 110, []), (0, 110, []), (0, 500, []), (0, 300, []), (0, 110, []), (0, 1040, []), (0, 13, []), (0, 576, []), (0, 24, []), (0, 24, []), (0, 12, []), (0, 2, []), (0, 2, []), (0, 24, []), (0, 24, []), (1, 24, [])]
abbrev zN : Nat := 179
def zsh (q : Nat) : Nat × Nat × List (Option Nat) := zshL.getD q (9, 0, [])
abbrev zk (q : Nat) : Nat := (zsh q).1
def zwf (σ : zS) : Prop := ∀ (q : Nat) (j : Int), if zk q = 2 then zLn (σ q j) else zIn (σ q j)
def zfv (a : Nat → Nat) (x : Int) (r : Option Nat) : Value := match r with
  | none => Value.int (Int32.ofInt x)
  | some q => Value.ref (a q)
def zfs (a : Nat → Nat) (rs : List (Option Nat)) (f : Int → Int) : List Value := (List.range rs.length).map (fun k : Nat => zfv a (f (k : Int)) (rs.getD k none))
def zcl (G : zG) (σ : zS) (i : Nat) : va_E := match zsh i with
  | (0, n, _) => .inl (zGt G 0, n, .inl (fun j => Int32.ofInt (σ i j)))
  | (1, n, _) => .inl (zGt G 1, n, .inl (fun j => Int32.ofInt (σ i j)))
  | (2, n, _) => .inl (zGt G 2, n, .inr (.inl (fun j => Int64.ofInt (σ i j))))
  | (3, n, rs) => .inl (zGt G 3, n, .inr (.inr (.inr (.inr (fun j => (rs.getD j none).map (zGa G))))))
  | (_, c, rs) => .inr (c, zfs (zGa G) rs (σ i))
def zwd (G : zG) (σ : zS) : va_W := (List.range zN).map (fun i => (zGa G i, zcl G σ i))
theorem zsh_lt {q a b : Nat} {rs : List (Option Nat)} (h : zsh q = (a, b, rs)) (ha : a ≠ 9) : q < zN := by
  by_cases hq : q < zshL.length
  · exact hq
  · exfalso
    rw [zsh, List.getD_eq_getElem?_getD, List.getElem?_eq_none (Nat.le_of_not_lt hq)] at h
    simp only [Option.getD_none, Prod.mk.injEq] at h
    exact ha h.1.symm
theorem zwd_get {G : zG} {σ : zS} {i : Nat} (h : i < zN) : (zwd G σ)[i]? = some (zGa G i, zcl G σ i) := by
  simp [zwd, List.getElem?_range h]
theorem zwd_set {G : zG} {σ σ' : zS} {i : Nat} {e : va_E} (he : zcl G σ' i = e) (ho : ∀ q, q ≠ i → σ' q = σ q) : (zwd G σ).set i (zGa G i, e) = zwd G σ' := by
  apply List.ext_getElem?
  intro k
  by_cases hk : k = i
  · subst hk
    by_cases hl : k < zN
    · rw [List.getElem?_set_self (by simpa [zwd] using hl), zwd_get hl, he]
    · rw [List.getElem?_eq_none (by simpa [zwd] using hl), List.getElem?_eq_none (by simpa [zwd] using hl)]
  · rw [List.getElem?_set_ne (fun q => hk q.symm)]
    by_cases hl : k < zN
    · rw [zwd_get hl, zwd_get hl]
      simp only [zcl, ho k hk]
    · rw [List.getElem?_eq_none (by simpa [zwd] using hl), List.getElem?_eq_none (by simpa [zwd] using hl)]
theorem zup_ne {σ : zS} {i q : Nat} {j v : Int} (h : q ≠ i) : zup σ i j v q = σ q := by
  funext b
  simp [zup, h]
theorem zup_eq {σ : zS} {i : Nat} {j v : Int} : zup σ i j v i = fun b => if b = j then v else σ i b := by
  funext b
  simp [zup]
theorem zup_wf {σ : zS} {i : Nat} {j v : Int} (h : zwf σ) (hv : if zk i = 2 then zLn v else zIn v) : zwf (zup σ i j v) := by
  intro q b
  by_cases hq : q = i ∧ b = j
  · obtain ⟨rfl, rfl⟩ := hq
    simpa [zup] using hv
  · have e : zup σ i j v q b = σ q b := if_neg hq
    rw [e]
    exact h q b
theorem zcl_I {G : zG} {σ : zS} {q n : Nat} {rs : List (Option Nat)} (h : zsh q = (0, n, rs)) : zcl G σ q = .inl (zGt G 0, n, .inl (fun j => Int32.ofInt (σ q j))) := by simp [zcl, h]
theorem zcl_Z {G : zG} {σ : zS} {q n : Nat} {rs : List (Option Nat)} (h : zsh q = (1, n, rs)) : zcl G σ q = .inl (zGt G 1, n, .inl (fun j => Int32.ofInt (σ q j))) := by simp [zcl, h]
theorem zcl_J {G : zG} {σ : zS} {q n : Nat} {rs : List (Option Nat)} (h : zsh q = (2, n, rs)) : zcl G σ q = .inl (zGt G 2, n, .inr (.inl (fun j => Int64.ofInt (σ q j)))) := by simp [zcl, h]
theorem zcl_Q {G : zG} {σ : zS} {q n : Nat} {rs : List (Option Nat)} (h : zsh q = (3, n, rs)) : zcl G σ q = .inl (zGt G 3, n, .inr (.inr (.inr (.inr (fun j => (rs.getD j none).map (zGa G)))))) := by simp [zcl, h]
theorem zcl_O {G : zG} {σ : zS} {q c : Nat} {rs : List (Option Nat)} (h : zsh q = (4, c, rs)) : zcl G σ q = .inr (c, zfs (zGa G) rs (σ q)) := by simp [zcl, h]
theorem zfs_get {a : Nat → Nat} {rs : List (Option Nat)} {f : Int → Int} {k : Nat} {r : Option Nat} (h : rs[k]? = some r) : (zfs a rs f)[k]? = some (zfv a (f k) r) := by
  have hk := (List.getElem?_eq_some_iff.mp h).1
  simp [zfs, List.getElem?_range hk, List.getD_eq_getElem?_getD, h]
theorem zfs_set {a : Nat → Nat} {rs : List (Option Nat)} {f : Int → Int} {k : Nat} {x : Int} (h : rs[k]? = some none) : (zfs a rs f).set k (Value.int (Int32.ofInt x)) = zfs a rs (fun b => if b = (k : Int) then x else f b) := by
  apply List.ext_getElem?
  intro i
  have hk := (List.getElem?_eq_some_iff.mp h).1
  by_cases hi : i = k
  · subst hi
    rw [List.getElem?_set_self (by simpa [zfs] using hk), zfs_get h]
    simp [zfv]
  · rw [List.getElem?_set_ne (fun q => hi q.symm)]
    by_cases hl : i < rs.length
    · have hr : rs[i]? = some (rs[i]) := List.getElem?_eq_getElem hl
      rw [zfs_get hr, zfs_get hr]
      have : ¬ ((i : Int) = (k : Int)) := by omega
      simp [this, zfv]
    · rw [List.getElem?_eq_none (by simpa [zfs] using hl), List.getElem?_eq_none (by simpa [zfs] using hl)]
/-- a method: name, bytes, places for locals, what it returns, the frames and words of room that it needs -/
abbrev zM : Type := MethodName × ByteArray × Nat × Option FieldType × Nat × Nat
abbrev zMy (M : zM) : MethodName := M.1
abbrev zMb (M : zM) : ByteArray := M.2.1
abbrev zMl (M : zM) : Nat := M.2.2.1
abbrev zMr (M : zM) : Option FieldType := M.2.2.2.1
abbrev zMm (M : zM) : Room := { frames := M.2.2.2.2.1, cells := 0, slots := 0, locals := M.2.2.2.2.2 }
abbrev zTb : List Cond := lw_tbl.filter goodWord
abbrev zMw (M : zM) : List Cond := Cond.code (zMy M) (zMb M) (zMl M) (zMr M) :: zTb
def zA (G : zG) : Nat → Prop := fun q => ∃ i, i < zN ∧ q = zGa G i
def zInj (G : zG) : Prop := ∀ i j, i < zN → j < zN → zGa G i = zGa G j → i = j
theorem zwd_D {G : zG} (h : zInj G) (σ : zS) : va_D (zA G) (zwd G σ) := by
  have key : ∀ (k : Nat) (q : Nat × va_E), (zwd G σ)[k]? = some q → k < zN ∧ q.1 = zGa G k := by
    intro k q hk
    have hl : k < zN := by have := (List.getElem?_eq_some_iff.mp hk).1; simpa [zwd] using this
    rw [zwd_get hl] at hk
    cases hk
    exact ⟨hl, rfl⟩
  refine ⟨fun i j p q hi hj e => ?_, fun k q hk => ?_⟩
  · obtain ⟨l1, e1⟩ := key i p hi
    obtain ⟨l2, e2⟩ := key j q hj
    exact h i j l1 l2 (by rw [← e1, ← e2, e])
  · obtain ⟨l1, e1⟩ := key k q hk
    exact ⟨k, l1, e1⟩
def zrv (ret : Option FieldType) (r : Int) : Option Value := match ret with
  | none => none
  | some .long => some (.long (Int64.ofInt r))
  | some _ => some (.int (Int32.ofInt r))
def zro (ret : Option FieldType) (r : Int) : Prop := match ret with
  | none => True
  | some .long => zLn r
  | some _ => zIn r
theorem zTb_in {w : Cond} (h : w ∈ lw_tbl) (hg : goodWord w = true) : w ∈ zTb := List.mem_filter.mpr ⟨h, hg⟩
/-- how a method ends -/
def zQc (G : zG) (M : zM) (Q : Int → zS → Prop) : Array Value → State → Outcome → State → Prop := fun _ st oc t => (∃ (r : Int) (σ : zS), oc = .returned (zrv (zMr M) r) ∧ zro (zMr M) r ∧ zwf σ ∧ Q r σ ∧ va_P (zGD G) vwCl (zwd G σ) t.heap ∧ va_K (zGD G) vwCl (zGy G) t) ∧ va_F (zA G) st t
abbrev zE (G : zG) (M : zM) (below : List Frame) (args : Array Value) (s : State) (Q : Int → zS → Prop) : State → Prop := MQ below (zQc G M Q) args s 0 0 (zA G)
/-- what holds all through a method -/
def zC (G : zG) (M : zM) (p : Program) (s : State) (m : MethodId) (args : Array Value) (meth : Method) (c : Code) : Prop :=
  p.tables.exec = Jvm.exec ∧ c.code = zMb M ∧ meth.sig.returnType = zMr M ∧ c.maxLocals = zMl M ∧ s.vm.findClass (zMy M).cls = some m.cls ∧ (∀ w ∈ zTb, w.before args s = true) ∧ meth.locks = false ∧ va_K (zGD G) vwCl (zGy G) s ∧ zInj G
/-- the locals -/
def zlo (G : zG) (i : Nat) : Option zV → Option (Nat × Value)
  | some (.inl x) => some (i, zre G (zi x))
  | some (.inr (.inl x)) => some (i, zre G (zl x))
  | some (.inr (.inr (.inl x))) => some (i, zre G (zr x))
  | _ => none
def zlv (G : zG) (ls : List zV) : List (Nat × Value) := (List.range ls.length).filterMap (fun i => zlo G i ls[i]?)
abbrev zLs (G : zG) (M : zM) (lsr : Array Slot) (ls : List zV) : Prop := lv_has lsr (zMl M) (zlv G ls)
/-- TO STAND at a place of a method: from every real state that is so, the method comes to its end with Q -/
def zR (G : zG) (M : zM) (pc : Nat) (ls st : List zV) (σ : zS) (Q : Int → zS → Prop) : Prop :=
  (∀ v ∈ ls, zok v) → (∀ v ∈ st, zok v) → zwf σ → ∀ (p : Program) (e : Env) (s : State) (m : MethodId) (args : Array Value) (below : List Frame) (meth : Method) (c : Code), zC G M p s m args meth c →
  ∀ (H : Heap) (locs : List Loc) (lsr : Array Slot), va_P (zGD G) vwCl (zwd G σ) H → va_S (zA G) s.heap H locs → zLs G M lsr ls →
  W p (zGL G) e (zMm M) s m args below meth c H locs 0 0 (zE G M below args s Q) (F0 m pc lsr (st.map (zre G)))
/-- A CALL of a method, with these arguments in this state, comes to Q -/
def zO (G : zG) (M : zM) (as : List zV) (σ : zS) (Q : Int → zS → Prop) : Prop :=
  (∀ v ∈ as, zok v) → zwf σ → zInj G → Met (zGL G) (zMy M) (zMw M) (zMm M) (va_Pc (as.map (zre G)) (fun U => va_P (zGD G) vwCl (zwd G σ) U.heap ∧ va_K (zGD G) vwCl (zGy G) U)) (zQc G M Q) 0 0 (zA G)
theorem zlv_mem {G : zG} {ls : List zV} {q : Nat × Value} (h : q ∈ zlv G ls) : ∃ v, ls[q.1]? = some v ∧ v ≠ zu ∧ q.2 = zre G v := by
  obtain ⟨i, -, hi⟩ := List.mem_filterMap.mp h
  cases hv : ls[i]? with
  | none => rw [hv] at hi; cases hi
  | some v =>
    rw [hv] at hi
    rcases v with x | x | x | x
    · cases hi; exact ⟨_, hv, (fun z => by cases z), rfl⟩
    · cases hi; exact ⟨_, hv, (fun z => by cases z), rfl⟩
    · cases hi; exact ⟨_, hv, (fun z => by cases z), rfl⟩
    · cases hi
theorem zlv_in {G : zG} {ls : List zV} {i : Nat} {v : zV} (h : ls[i]? = some v) (hv : v ≠ zu) : (i, zre G v) ∈ zlv G ls := by
  refine List.mem_filterMap.mpr ⟨i, List.mem_range.mpr (List.getElem?_eq_some_iff.mp h).1, ?_⟩
  rw [h]
  rcases v with x | x | x | x
  · rfl
  · rfl
  · rfl
  · exact absurd rfl hv
theorem zLs_at {G : zG} {M : zM} {lsr : Array Slot} {ls : List zV} (h : zLs G M lsr ls) {i : Nat} {v : zV} (hi : ls[i]? = some v) (hv : v ≠ zu) : lsr[i]? = some (.val (zre G v)) := h.2.2 _ (zlv_in hi hv)
/-- what a store leaves of a long that it cuts -/
def zcut (ls : List zV) (i : Nat) : List zV := match i with
  | 0 => ls
  | j + 1 => match ls[j]? with
    | some (.inr (.inl _)) => ls.set j zu
    | _ => ls
def zs1 (ls : List zV) (i : Nat) (v : zV) : List zV := (zcut ls i).set i v
def zs2 (ls : List zV) (i : Nat) (v : zV) : List zV := ((zcut ls i).set i v).set (i + 1) zu
theorem zcut_at {ls : List zV} {i k : Nat} {v : zV} (h : (zcut ls i)[k]? = some v) (hv : v ≠ zu) : ls[k]? = some v ∧ ¬ (k + 1 = i ∧ ∃ x, v = zl x) := by
  unfold zcut at h
  split at h
  · exact ⟨h, fun z => by omega⟩
  · rename_i j
    split at h
    · rename_i x hx
      by_cases hk : k = j
      · subst hk
        rw [List.getElem?_set_self (List.getElem?_eq_some_iff.mp hx).1] at h
        cases h
        exact absurd rfl hv
      · rw [List.getElem?_set_ne (fun q => hk q.symm)] at h
        exact ⟨h, fun z => by omega⟩
    · rename_i hx
      refine ⟨h, fun z => ?_⟩
      obtain ⟨z1, x, rfl⟩ := z
      have : k = j := by omega
      subst this
      exact hx x h
theorem zcut_len {ls : List zV} {i : Nat} : (zcut ls i).length = ls.length := by
  unfold zcut
  split
  · rfl
  · split <;> simp
theorem zre_cat {G : zG} {v : zV} (h : (zre G v).category = 2) : ∃ x, v = zl x := by
  rcases v with x | x | x | x
  · simp [zre, Value.category] at h
  · exact ⟨x, rfl⟩
  · simp [zre, Value.category] at h
  · simp [zre, Value.category] at h
theorem zLs_s1 {G : zG} {M : zM} {lsr : Array Slot} {ls : List zV} {i : Nat} {v : zV} (h : lv_has lsr (zMl M) ((i, zre G v) :: (zlv G ls).filter (fun q => !(q.1 == i) && !(q.1 + 1 == i && q.2.category == 2)))) : zLs G M lsr (zs1 ls i v) := by
  refine ⟨h.1, h.2.1, fun q hq => ?_⟩
  obtain ⟨w, h1, h2, h3⟩ := zlv_mem hq
  apply h.2.2
  unfold zs1 at h1
  by_cases hk : q.1 = i
  · have hl : q.1 < ((zcut ls i).set i v).length := (List.getElem?_eq_some_iff.mp h1).1
    rw [hk, List.getElem?_set_self (by rw [hk] at hl; simpa using hl)] at h1
    cases h1
    exact List.mem_cons.mpr (Or.inl (Prod.ext hk h3))
  · rw [List.getElem?_set_ne (fun z => hk z.symm)] at h1
    obtain ⟨h4, h5⟩ := zcut_at h1 h2
    refine List.mem_cons.mpr (Or.inr (List.mem_filter.mpr ⟨?_, ?_⟩))
    · have := zlv_in (G := G) h4 h2
      rw [← h3] at this
      exact this
    · simp only [Bool.and_eq_true, Bool.not_eq_true', beq_eq_false_iff_ne, ne_eq, hk, not_false_eq_true, true_and, Bool.and_eq_false_iff]
      by_cases hc : (zre G w).category = 2
      · left
        intro z
        exact h5 ⟨z, zre_cat hc⟩
      · right
        rw [h3]
        exact hc
theorem zLs_s2 {G : zG} {M : zM} {lsr : Array Slot} {ls : List zV} {i : Nat} {v : zV} (h : lv_has lsr (zMl M) ((i, zre G v) :: (zlv G ls).filter (fun q => !(q.1 == i) && (!(q.1 == i + 1) && !(q.1 + 1 == i && q.2.category == 2))))) : zLs G M lsr (zs2 ls i v) := by
  refine ⟨h.1, h.2.1, fun q hq => ?_⟩
  obtain ⟨w, h1, h2, h3⟩ := zlv_mem hq
  apply h.2.2
  unfold zs2 at h1
  by_cases hk1 : q.1 = i + 1
  · have hl := (List.getElem?_eq_some_iff.mp h1).1
    rw [hk1, List.getElem?_set_self (by rw [hk1] at hl; simpa using hl)] at h1
    cases h1
    exact absurd rfl h2
  · rw [List.getElem?_set_ne (fun z => hk1 z.symm)] at h1
    by_cases hk : q.1 = i
    · have hl : q.1 < ((zcut ls i).set i v).length := (List.getElem?_eq_some_iff.mp h1).1
      rw [hk, List.getElem?_set_self (by rw [hk] at hl; simpa using hl)] at h1
      cases h1
      exact List.mem_cons.mpr (Or.inl (Prod.ext hk h3))
    · rw [List.getElem?_set_ne (fun z => hk z.symm)] at h1
      obtain ⟨h4, h5⟩ := zcut_at h1 h2
      refine List.mem_cons.mpr (Or.inr (List.mem_filter.mpr ⟨?_, ?_⟩))
      · have := zlv_in (G := G) h4 h2
        rw [← h3] at this
        exact this
      · simp only [Bool.and_eq_true, Bool.not_eq_true', beq_eq_false_iff_ne, ne_eq, hk, hk1, not_false_eq_true, true_and, Bool.and_eq_false_iff]
        by_cases hc : (zre G w).category = 2
        · left
          intro z
          exact h5 ⟨z, zre_cat hc⟩
        · right
          rw [h3]
          exact hc
theorem zok_s1 {ls : List zV} {i : Nat} {v : zV} (h : ∀ w ∈ ls, zok w) (hv : zok v) : ∀ w ∈ zs1 ls i v, zok w := by
  intro w hw
  rcases List.mem_or_eq_of_mem_set hw with h1 | h1
  · unfold zcut at h1
    split at h1
    · exact h w h1
    · split at h1
      · rcases List.mem_or_eq_of_mem_set h1 with h2 | h2
        · exact h w h2
        · rw [h2]; trivial
      · exact h w h1
  · rw [h1]; exact hv
theorem zok_s2 {ls : List zV} {i : Nat} {v : zV} (h : ∀ w ∈ ls, zok w) (hv : zok v) : ∀ w ∈ zs2 ls i v, zok w := by
  intro w hw
  rcases List.mem_or_eq_of_mem_set hw with h1 | h1
  · exact zok_s1 h hv w h1
  · rw [h1]; trivial
