/-! CONSTRUCTORS: the rules -/
section BR
variable {G : zG} {M : zM} {p : Program} {e : Env} {R : Room} {s : State} {m : MethodId} {args : Array Value} {below : List Frame} {meth : Method} {c : Code} {H : Heap} {locs : List Loc} {cells slots : Nat} {Q : State → Prop} {pc : Nat} {lsr : Array Slot} {rest : List Value} {A : Nat → Prop} {H0 : Heap}
variable {α : Nat → Nat} {σ : zS} {b ci : Nat} {rs : List (Option Nat)} {sets : List (Nat × zSu)} {E : (Nat → Nat) → va_W} {I : List Nat}
def zWq (G : zG) (A : Nat → Prop) (H0 H : Heap) (locs : List Loc) (w : va_W) : Prop := va_P (zGD G) vwCl w H ∧ va_D A w ∧ va_S A H0 H locs
theorem zWq_pm {w w' : va_W} (h : w.Perm w') (hw : zWq G A H0 H locs w) : zWq G A H0 H locs w' := ⟨zP_pm h hw.1, zD_pm h hw.2.1, hw.2.2⟩
/-- a new array into a field -/
theorem zb_arr {t0 j N kf idx h0 : Nat} {at0 : ArrayType} {ty ty2 : FieldType} {a0 : vp_A} {q : vw_C} {n : Int32} (C : zC G M p s m args meth c) (hin : meth.name = "<init>") (hA : ∀ q, H0.size ≤ q → A q)
    (w : zWq G A H0 H locs (zbw G α σ b ci rs sets E I)) (hh : α b = h0)
    (hat : newarray.typeOf at0 = ty) (htt : (zGy G)[t0]? = some (zGt G t0, ty)) (harr : Cond.arrayClass ty ∈ zTb) (hra : ∀ (U : State) (cA cB : ClassId), va_RA U cA ty → va_RA U cB ty → cA = cB)
    (ha : ∀ cA : ClassId, vp_cell cA a0 = arrV cA N (fun _ => defaultValue ty)) (hz : ∀ α', zcl (zGs G α') σ j = .inl (zGt G t0, a0))
    (hn : ¬ n < 0) (hN : n.toNatClampNeg = N) (hby : N * componentBytes ty ≤ 536870912)
    (hok : zqa [j] I = true) (hos : zsap [j] sets = true) (hbj : b ≠ j) (hE : ∀ q, E (zau α j q) = E α)
    (f : zFl (zMy M).cls idx ci kf) (hq : vwCl[ci]? = some q) (hf : (q.2.1 kf).2.2.2 = true) (hdecl : (q.2.1 kf).1 = (zMy M).cls) (hty : parseFieldDescriptor (q.2.1 kf).2.2.1 = some ty2) (hnar : ∀ a : Nat, narrow ty2 (.ref a) = .ref a) (hfit : ∀ a : Nat, fits ty2 (.ref a) = true)
    (hk : kf < rs.length) (hc1 : cells + 1 ≤ R.cells) (hs1 : slots + N ≤ R.slots)
    (d1 : decode (zMb M) pc = .ok (.newarray at0, 2)) (d2 : decode (zMb M) (pc + 2) = .ok (.putfield idx, 3))
    (kk : ∀ (α' : Nat → Nat) (H1 : Heap) (locs1 : List Loc), (∀ i, i ≠ j → α' i = α i) → zWq G A H0 H1 locs1 (zbw G α' σ b ci rs ((kf, .inl j) :: sets) E (j :: I)) → α' b = h0 → W p (zGL G) e R s m args below meth c H1 locs1 (cells + 1) (slots + N) Q (F0 m (pc + 5) lsr rest)) :
    W p (zGL G) e R s m args below meth c H locs cells slots Q (F0 m pc lsr (.int n :: .ref h0 :: rest)) := by
  obtain ⟨hP, hD, hS⟩ := w
  obtain ⟨hx, hb, hrt, hml, hown, hts, hlocks, hK, hinj⟩ := id C
  subst hat
  subst hh
  refine va_newa (atype := at0) hx hb (hts _ harr) rfl hK hP hD hS hA ha hn hN hby hc1 hs1 d1 (fun qq cA H1 hK1 hP1 hD1 hS1 => ?_)
  have ec : cA = zGt G t0 := hra s _ _ (hK1.2 4 (cA, newarray.typeOf at0) rfl).2 (hK.2 t0 _ htt).2
  subst ec
  obtain ⟨q', hc', hkN, hd', hl'⟩ := f
  rw [hq] at hc'
  cases hc'
  obtain ⟨⟨ty0, hty0⟩, hnm⟩ := zct hq
  obtain ⟨C0, T0, N0⟩ := q
  refine va_putF hx hb hts (zcwT hq) ty0 hty0 hnm hown hK hP1 hD1 hS1 0 rfl hq kf hkN (hts _ (zTb_in hl' rfl)) (fun x h => by rw [← hd']; exact h) hf hin hdecl hty (hnar qq) (hfit qq) (by rw [zqf_len]; exact hk) d2 (fun H2 locs2 hP2 hD2 hS2 => ?_)
  have e1 : zqw G (zau α j qq) σ I = zqw G α σ I := zqw_ap hok (fun i hi => zau_ne (fun z => hi (by rw [z]; exact List.mem_cons_self)))
  have e2 : zqf (zau α j qq) rs sets = zqf α rs sets := zqf_ap hos (fun i hi => zau_ne (fun z => hi (by rw [z]; exact List.mem_cons_self)))
  have e3 : zau α j qq b = α b := zau_ne hbj
  have e4 : zau α j qq j = qq := zau_at
  refine kk (zau α j qq) H2 locs2 (fun i hi => zau_ne hi) (zWq_pm (w := ((α b, Sum.inr (ci, (zqf α rs sets).set kf (.ref qq))) :: (zqw G α σ I ++ E α)) ++ [(qq, Sum.inl (zGt G t0, a0))]) ?_ ⟨hP2, hD2, hS2⟩) e3
  unfold zbw zbo
  have e5 : zqf (zau α j qq) rs ((kf, .inl j) :: sets) = (zqf α rs sets).set kf (.ref qq) := by
    show (zqf (zau α j qq) rs sets).set kf (.ref (zau α j qq j)) = _
    rw [e2, e4]
  have e6 : zqw G (zau α j qq) σ (j :: I) = (qq, Sum.inl (zGt G t0, a0)) :: zqw G α σ I := by
    show (zau α j qq j, zcl (zGs G (zau α j qq)) σ j) :: zqw G (zau α j qq) σ I = _
    rw [e4, hz, e1]
  rw [e3, e5, e6, hE]
  refine (List.perm_append_singleton _ _).trans ?_
  exact List.Perm.swap _ _ _
/-- a value into a final field -/
theorem zb_fin {kf idx h0 : Nat} {ty2 : FieldType} {q : vw_C} {v : zSu} (C : zC G M p s m args meth c) (hin : meth.name = "<init>")
    (w : zWq G A H0 H locs (zbw G α σ b ci rs sets E I)) (hh : α b = h0)
    (f : zFl (zMy M).cls idx ci kf) (hq : vwCl[ci]? = some q) (hf : (q.2.1 kf).2.2.2 = true) (hdecl : (q.2.1 kf).1 = (zMy M).cls) (hty : parseFieldDescriptor (q.2.1 kf).2.2.1 = some ty2) (hnar : narrow ty2 (zov α v) = zov α v) (hfit : fits ty2 (zov α v) = true)
    (hk : kf < rs.length) (d2 : decode (zMb M) pc = .ok (.putfield idx, 3))
    (kk : ∀ (H1 : Heap) (locs1 : List Loc), zWq G A H0 H1 locs1 (zbw G α σ b ci rs ((kf, v) :: sets) E I) → W p (zGL G) e R s m args below meth c H1 locs1 cells slots Q (F0 m (pc + 3) lsr rest)) :
    W p (zGL G) e R s m args below meth c H locs cells slots Q (F0 m pc lsr (zov α v :: .ref h0 :: rest)) := by
  obtain ⟨hP, hD, hS⟩ := w
  obtain ⟨hx, hb, hrt, hml, hown, hts, hlocks, hK, hinj⟩ := id C
  subst hh
  obtain ⟨q', hc', hkN, hd', hl'⟩ := f
  rw [hq] at hc'
  cases hc'
  obtain ⟨⟨ty0, hty0⟩, hnm⟩ := zct hq
  obtain ⟨C0, T0, N0⟩ := q
  refine va_putF hx hb hts (zcwT hq) ty0 hty0 hnm hown hK hP hD hS 0 rfl hq kf hkN (hts _ (zTb_in hl' rfl)) (fun x h => by rw [← hd']; exact h) hf hin hdecl hty hnar hfit (by rw [zqf_len]; exact hk) d2 (fun H2 locs2 hP2 hD2 hS2 => ?_)
  exact kk H2 locs2 ⟨hP2, hD2, hS2⟩
/-- a number into a field -/
theorem zb_put {kf idx h0 : Nat} {x : Int} (C : zC G M p s m args meth c)
    (w : zWq G A H0 H locs (zbw G α σ b ci rs sets E I)) (hh : α b = h0) (f : zFp (zMy M).cls idx ci kf .int)
    (hk : kf < rs.length) (d2 : decode (zMb M) pc = .ok (.putfield idx, 3))
    (kk : ∀ (H1 : Heap) (locs1 : List Loc), zWq G A H0 H1 locs1 (zbw G α σ b ci rs ((kf, .inr x) :: sets) E I) → W p (zGL G) e R s m args below meth c H1 locs1 cells slots Q (F0 m (pc + 3) lsr rest)) :
    W p (zGL G) e R s m args below meth c H locs cells slots Q (F0 m pc lsr (.int (Int32.ofInt x) :: .ref h0 :: rest)) := by
  obtain ⟨hP, hD, hS⟩ := w
  obtain ⟨hx, hb, hrt, hml, hown, hts, hlocks, hK, hinj⟩ := id C
  subst hh
  obtain ⟨⟨C0, T0, N0⟩, hq, hkN, hd', hl', hfin, hty⟩ := f
  obtain ⟨⟨ty0, hty0⟩, hnm⟩ := zct hq
  refine va_put hx hb hts (zcwT hq) ty0 hty0 hnm hown hK hP hD hS 0 rfl hq kf hkN (hts _ (zTb_in hl' rfl)) (fun x h => by rw [← hd']; exact h) hfin hty (vp_nar_int _) rfl (by rw [zqf_len]; exact hk) d2 (fun H2 locs2 hP2 hD2 hS2 => ?_)
  exact kk H2 locs2 ⟨hP2, hD2, hS2⟩
/-- a field is read -/
theorem zb_get {kf idx h0 : Nat} {v : zSu} {ws : va_W} (C : zC G M p s m args meth c)
    (w : zWq G A H0 H locs ws) (hmem : zbo α b ci rs sets ∈ ws) (hh : α b = h0) (f : zFl (zMy M).cls idx ci kf) (hk : kf < rs.length) (hv : sets.lookup kf = some v)
    (d2 : decode (zMb M) pc = .ok (.getfield idx, 3))
    (kk : W p (zGL G) e R s m args below meth c H locs cells slots Q (F0 m (pc + 3) lsr (zov α v :: rest))) :
    W p (zGL G) e R s m args below meth c H locs cells slots Q (F0 m pc lsr (.ref h0 :: rest)) := by
  obtain ⟨hP, hD, hS⟩ := w
  obtain ⟨hx, hb, hrt, hml, hown, hts, hlocks, hK, hinj⟩ := id C
  subst hh
  obtain ⟨⟨C0, T0, N0⟩, hq, hkN, hd', hl'⟩ := f
  obtain ⟨i0, hi0⟩ := List.getElem?_of_mem hmem
  refine va_get hx hb hts (zcwT hq) hown hK hP i0 hi0 hq kf hkN (hts _ (zTb_in hl' rfl)) (fun x h => by rw [← hd']; exact h) (v := zov α v) ?_ d2 kk
  have := zqf_get (α := α) (sets := sets) hk
  rw [hv] at this
  exact this
/-- one of the finished cells, and the others -/
theorem zqw_foc {j : Nat} {τ : zS} (hj : j ∈ I) (hn : (I.erase j).contains j = false) (ht : ∀ i, i ≠ j → τ i = σ i) : (zqw G α τ I).Perm (zce G α τ j :: zqw G α σ (I.erase j)) := by
  have h1 : (zqw G α τ I).Perm (zqw G α τ (j :: I.erase j)) := (List.perm_cons_erase hj).map _
  have h2 : zqw G α τ (I.erase j) = zqw G α σ (I.erase j) := zqw_cg (fun i hi => ⟨rfl, fun _ _ => rfl, ht i (fun z => by
    rw [z] at hi
    rw [List.contains_iff_mem.mpr hi] at hn
    cases hn)⟩)
  rw [← h2]
  exact h1
theorem zbw_foc {j : Nat} {τ : zS} (hj : j ∈ I) (hn : (I.erase j).contains j = false) (ht : ∀ i, i ≠ j → τ i = σ i) : (zbw G α τ b ci rs sets E I).Perm (zce G α τ j :: zbw G α σ b ci rs sets E (I.erase j)) := by
  unfold zbw
  refine ((List.Perm.cons _ ((zqw_foc (σ := σ) hj hn ht).append_right (E α))).trans ?_)
  exact List.Perm.swap _ _ _
/-- an element of a finished row of ints is written -/
theorem zb_iast {j N : Nat} {i x : Int} (C : zC G M p s m args meth c) (w : zWq G A H0 H locs (zbw G α σ b ci rs sets E I)) (hsh : zsh j = (0, N, [])) (hj : j ∈ I) (hn : (I.erase j).contains j = false) (hi : zIn i) (i0 : 0 ≤ i) (i1 : i < N)
    (d : decode (zMb M) pc = .ok (.iastore, 1))
    (kk : ∀ (H1 : Heap) (locs1 : List Loc), zWq G A H0 H1 locs1 (zbw G α (zup σ j i x) b ci rs sets E I) → W p (zGL G) e R s m args below meth c H1 locs1 cells slots Q (F0 m (pc + 1) lsr rest)) :
    W p (zGL G) e R s m args below meth c H locs cells slots Q (F0 m pc lsr (.int (Int32.ofInt x) :: .int (Int32.ofInt i) :: .ref (α j) :: rest)) := by
  obtain ⟨hx, hb, hrt, hml, hown, hts, hlocks, hK, hinj⟩ := id C
  obtain ⟨hP, hD, hS⟩ := zWq_pm (zbw_foc (τ := σ) hj hn (fun _ _ => rfl)) w
  have e0 : zce G α σ j = (α j, .inl (zGt G 0, N, .inl (fun k : Nat => Int32.ofInt (σ j k)))) := by
    unfold zce
    rw [zcl_I hsh]
    rfl
  rw [e0] at hP hD
  refine va_iast hx hb hK hP hD hS 0 0 rfl rfl (zvin hi i0 i1) d (fun H1 locs1 hP1 hD1 hS1 => ?_)
  refine kk H1 locs1 (zWq_pm (zbw_foc (σ := σ) hj hn (fun q hq => zup_ne hq)).symm ?_)
  have e1 : zce G α (zup σ j i x) j = (α j, .inl (zGt G 0, N, .inl (upd (fun k : Nat => Int32.ofInt (σ j k)) (Int32.ofInt i).toNatClampNeg (Int32.ofInt x)))) := by
    unfold zce
    rw [zcl_I hsh]
    show (α j, Sum.inl (zGt G 0, N, Sum.inl (fun k : Nat => Int32.ofInt (zup σ j i x j k)))) = _
    rw [zupd hi i0]
  rw [e1]
  exact ⟨hP1, hD1, hS1⟩
end BR
