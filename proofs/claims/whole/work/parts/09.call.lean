section ZC
variable {G : zG} {M : zM} {pc : Nat} {ls st : List zV} {σ : zS} {Q : Int → zS → Prop}
/-- the locals at a method's entry -/
def zspr : List zV → List zV
  | [] => []
  | v :: r => if zcat v = 2 then v :: zu :: zspr r else v :: zspr r
def zent (as : List zV) (n : Nat) : List zV := zspr as ++ List.replicate (n - (zspr as).length) zu
theorem zarg (G : zG) (as : List zV) : ∀ (k0 i : Nat) (v : zV), (zspr as)[i]? = some v → v ≠ zu → (k0 + i, zre G v) ∈ lv_args k0 (as.map (zre G)) := by
  induction as with
  | nil => intro k0 i v h; simp [zspr] at h
  | cons a r ih =>
    intro k0 i v h hv
    rw [List.map_cons]
    unfold lv_args
    by_cases hc : zcat a = 2
    · rw [if_pos (by rw [zcat_re]; exact hc)]
      simp only [zspr, if_pos hc] at h
      match i, h with
      | 0, h => cases h; exact List.mem_cons_self
      | 1, h => cases h; exact absurd rfl hv
      | i + 2, h =>
        have h2 := ih (k0 + 2) i v (by simpa using h) hv
        rw [show k0 + (i + 2) = k0 + 2 + i by omega]
        exact List.mem_cons_of_mem _ h2
    · rw [if_neg (by rw [zcat_re]; exact hc)]
      simp only [zspr, if_neg hc] at h
      match i, h with
      | 0, h => cases h; exact List.mem_cons_self
      | i + 1, h =>
        have h2 := ih (k0 + 1) i v (by simpa using h) hv
        rw [show k0 + (i + 1) = k0 + 1 + i by omega]
        exact List.mem_cons_of_mem _ h2
theorem zspr_len (G : zG) (as : List zV) : (lg_sl (as.map (zre G))).length = (zspr as).length := by
  induction as with
  | nil => rfl
  | cons a r ih =>
    unfold lg_sl at ih ⊢
    rw [List.map_cons, List.flatMap_cons, List.length_append, ih]
    by_cases hc : zcat a = 2
    · rw [if_pos (by rw [zcat_re]; exact hc)]
      simp only [zspr, if_pos hc, List.length_cons, List.length_nil]
      omega
    · rw [if_neg (by rw [zcat_re]; exact hc)]
      simp only [zspr, if_neg hc, List.length_cons, List.length_nil]
      omega
theorem zspr_ok {as : List zV} (h : ∀ v ∈ as, zok v) : ∀ v ∈ zspr as, zok v := by
  induction as with
  | nil => intro v hv; cases hv
  | cons a r ih =>
    have h1 := zk1 h
    have h2 := ih (zkt h)
    unfold zspr
    split
    · exact zkc h1 (zkc trivial h2)
    · exact zkc h1 h2
theorem zO_of {as ls0 : List zV} (hp : plainName (zMy M).cls = true) (hlen : (zspr as).length ≤ zMl M) (he : zent as (zMl M) = ls0) (k : zR G M 0 ls0 [] σ Q) : zO G M as σ Q := by
  subst he
  intro ha hw hi
  refine Met.ofW (cc := zMb M) (maxL := zMl M) (ret := zMr M) hp rfl ?_
  intro p e s m args below meth c s₁ B hml hv
  obtain ⟨rfl, hP, hK⟩ := hv
  have hts := atoms_spec (ws := zMw M) B.pre
  have hlen' : (lg_sl (as.map (zre G))).length ≤ zMl M := by rw [zspr_len]; exact hlen
  have hent := lv_entry (as.map (zre G)) (n := zMl M) hlen'
  rw [lg_entry_eq]
  refine k ?_ (fun v h => by cases h) hw p e s m _ below meth c ⟨B.exec, B.bytes, B.returns, hml, findClass_of_methodNamed B.named, fun w h => hts w (List.mem_cons_of_mem _ h), B.notSynchronized, hK, hi⟩ s.heap [] _ hP va_S.rf ⟨hent.1, hent.2.1, fun q hq => hent.2.2 q ?_⟩
  · intro v hv
    rcases List.mem_append.mp hv with h | h
    · exact zspr_ok ha v h
    · rw [(List.mem_replicate.mp h).2]; trivial
  · obtain ⟨v, h1, h2, h3⟩ := zlv_mem hq
    unfold zent at h1
    by_cases hl : q.1 < (zspr as).length
    · rw [List.getElem?_append_left hl] at h1
      have h4 := zarg G as 0 q.1 v h1 h2
      rw [Nat.zero_add, ← h3] at h4
      exact h4
    · rw [List.getElem?_append_right (Nat.le_of_not_lt hl)] at h1
      have h4 := (List.mem_replicate.mp (List.mem_of_getElem? h1)).2
      exact absurd h4 h2
/-- what a call leaves on the stack -/
def zpu (ret : Option FieldType) (r : Int) (st : List zV) : List zV := match ret with
  | none => st
  | some .long => zl r :: st
  | some _ => zi r :: st
theorem zpu_ok {ret : Option FieldType} {r : Int} (hr : zro ret r) (h : ∀ v ∈ st, zok v) : ∀ v ∈ zpu ret r st, zok v := by
  cases ret with
  | none => exact h
  | some t => cases t <;> exact zkc hr h
theorem zpu_re {ret : Option FieldType} {r : Int} : (zrv ret r).toList ++ st.map (zre G) = (zpu ret r st).map (zre G) := by
  cases ret with
  | none => rfl
  | some t => cases t <;> rfl
theorem zblind {as : List Value} : FrameBlind (va_Pc as (fun U => va_P (zGD G) vwCl (zwd G σ) U.heap ∧ va_K (zGD G) vwCl (zGy G) U)) := by
  intro a U g mk q
  obtain ⟨q1, q2, q3⟩ := q
  exact ⟨q1, q2, va_K.moved (u := U) (U := U.calling g mk a) (Vm.Alike.refl U.vm) q3⟩
theorem zcsum (l : List zV) : ((l.map (zre G)).map fun v => v.category).sum = (l.map zcat).sum := by
  rw [List.map_map]
  congr 1
  apply List.map_congr_left
  intro v _
  exact zcat_re v
theorem z_run {p : Program} {e : Env} {s : State} {m : MethodId} {args : Array Value} {below : List Frame} {meth : Method} {c : Code} {H : Heap} {locs : List Loc} {lsr : Array Slot} {st0 : List zV} {M' : zM} {a : Array Value} (C : zC G M p s m args meth c) (hl0 : ∀ v ∈ ls, zok v) (hs : ∀ v ∈ st, zok v) (hS : va_S (zA G) s.heap H locs) (hL : zLs G M lsr ls)
    (hrun : va_Run p (zGL G) e (zMm M) s m args below meth c H locs 0 0 0 0 (F0 m pc lsr (st0.map (zre G))) (st.map (zre G)) (zQc G M' (fun r σ' => zR G M (pc + 3) ls (zpu (zMr M') r st) σ' Q) a) (zA G)) :
    W p (zGL G) e (zMm M) s m args below meth c H locs 0 0 (zE G M below args s Q) (F0 m pc lsr (st0.map (zre G))) := by
  intro T hT X
  obtain ⟨v, st₀, t, T', L, h0, X', hL', e1, e2, ⟨⟨r, σ', hv, hr, hw', hk, hP', hK'⟩, hz, hfr⟩, hst⟩ := hrun T hT X
  cases hv
  rw [h0] at hz hfr
  have hS' : va_S (zA G) s.heap T'.heap (locs ++ L) := by
    refine ⟨Nat.le_trans hS.1 (by rw [e1]; exact hz), fun q h1 h2 => ?_, fun q hq => ?_⟩
    · rw [e1, hfr q (Nat.lt_of_lt_of_le h1 hS.1) h2]
      exact hS.2.1 q h1 h2
    · rcases List.mem_append.mp hq with h | h
      · exact hS.2.2 q h
      · exact hL' q h
  obtain ⟨t2, a1, b1⟩ := hk hl0 (zpu_ok hr hs) hw' p e s m args below meth c C T'.heap (locs ++ L) lsr (by rw [e1]; exact hP') hS' hL T' rfl X'
  refine ⟨t2, hst t2 ?_, b1⟩
  have e3 := zpu_re (G := G) (st := st) (ret := zMr M') (r := r)
  show Steps _ _ _ (T'.setTop { method := m, pc := pc + 3, locals := lsr, stack := (zrv (zMr M') r).toList ++ st.map (zre G), locked := none }) t2
  rw [e3]
  exact a1
theorem zcallB {p : Program} {s : State} {m : MethodId} {args : Array Value} {meth : Method} {c : Code} {M' : zM} {idx n : Nat} (C : zC G M p s m args meth c) (K : zMk M' n) (L : zLk (zMy M).cls idx M') (hroom : (zMm M').frames + 1 ≤ (zMm M).frames ∧ 8 + (zMl M' + 11) + (zMm M').locals ≤ (zMm M).locals) :
    CallB (zMm M) s args (zMy M).cls idx (zMy M') (zMb M') (zMl M') (zMr M') (zMw M') (zMm M') 0 0 n := by
  obtain ⟨k1, k2, k3, k4, k5⟩ := K
  obtain ⟨hx, hb, hrt, hml, hown, hts, hlocks, hK, hinj⟩ := C
  refine callB_of n hts (fun w hw => ?_) rfl rfl rfl (hts _ (zTb_in k1 rfl)) (hts _ (zTb_in L rfl)) ⟨k3, k4, k5⟩ hroom
  rcases List.mem_cons.mp hw with h | h
  · subst h; exact ⟨zTb_in k2 rfl, good_of_word rfl⟩
  · exact ⟨h, good_of_word (List.mem_filter.mp h).2⟩
theorem z_callv {M' : zM} {idx n ci q : Nat} {rs : List (Option Nat)} {as stk : List zV} (K : zMv M' n) (L : zLk (zMy M).cls idx M') (hlen : as.length = n) (hsh : zsh q = (4, ci, rs)) (hcl : vwCl[ci]?.map (fun x => x.1) = some (zMy M').cls) (hroom : (zMm M').frames + 1 ≤ (zMm M).frames ∧ 8 + (zMl M' + 11) + (zMm M').locals ≤ (zMm M).locals) (hst : (st.map zcat).sum ≤ 8) (hstk : as.reverse ++ zr q :: st = stk) (d : decode (zMb M) pc = .ok (.invokevirtual idx, 3))
    (ok : zO G M' (zr q :: as) σ (fun r σ' => zR G M (pc + 3) ls (zpu (zMr M') r st) σ' Q)) : zR G M pc ls stk σ Q := by
  subst hstk
  intro hl0 hs hw p e s m args below meth c C H locs lsr hP hS hL
  obtain ⟨hx, hb, hrt, hml, hown, hts, hlocks, hK, hinj⟩ := id C
  have hq := zsh_lt hsh (by decide)
  have has : ∀ v ∈ zr q :: as, zok v := zkq (fun v hv => hs v (List.mem_append_left _ (List.mem_reverse.mpr hv)))
  have hst0 : ∀ v ∈ st, zok v := fun v hv => hs v (List.mem_append_right _ (List.mem_cons_of_mem _ hv))
  obtain ⟨qc, hqc, hqn⟩ := Option.map_eq_some_iff.mp hcl
  refine z_run C hl0 hst0 hS hL (va_runV (C := (zMy M').cls) (b := zGa G q) (As := as.map (zre G)) ⟨hx, hb, hml, hown, hts⟩ (ok has hw hinj) ⟨zcallB C K.1 L hroom, hts _ (zTb_in K.2.1 rfl), hts _ (zTb_in K.2.2 rfl)⟩ ⟨zblind, ?_, fun U hU hW => ⟨by simp [zre], by rw [hU]; exact hP, hK.moved hW.alike⟩⟩ rfl (by simp [hlen]) hL.1 (by simp [zre]) (lv_room (by rw [zcsum]; exact hst)) d ⟨Nat.le_of_ble_eq_true rfl, Nat.le_of_ble_eq_true rfl⟩)
  have := va_recv (q0 := q) (fs := zfs (zGa G) rs (σ q)) hK hP hqc (by rw [zwd_get hq, zcl_O hsh])
  rw [hqn] at this
  exact this
theorem z_calls {M' : zM} {idx n : Nat} {as stk : List zV} (K : zMs M' n) (L : zLk (zMy M).cls idx M') (hlen : as.length = n) (hroom : (zMm M').frames + 1 ≤ (zMm M).frames ∧ 8 + (zMl M' + 11) + (zMm M').locals ≤ (zMm M).locals) (hst : (st.map zcat).sum ≤ 8) (hstk : as.reverse ++ st = stk) (d : decode (zMb M) pc = .ok (.invokestatic idx, 3))
    (ok : zO G M' as σ (fun r σ' => zR G M (pc + 3) ls (zpu (zMr M') r st) σ' Q)) : zR G M pc ls stk σ Q := by
  subst hstk
  intro hl0 hs hw p e s m args below meth c C H locs lsr hP hS hL
  obtain ⟨hx, hb, hrt, hml, hown, hts, hlocks, hK, hinj⟩ := id C
  have has : ∀ v ∈ as, zok v := fun v hv => hs v (List.mem_append_left _ (List.mem_reverse.mpr hv))
  have hst0 : ∀ v ∈ st, zok v := fun v hv => hs v (List.mem_append_right _ hv)
  exact z_run C hl0 hst0 hS hL (va_runS (As := as.map (zre G)) ⟨hx, hb, hml, hown, hts⟩ (ok has hw hinj) ⟨zcallB C K.1 L hroom, hts _ (zTb_in K.2 rfl)⟩ ⟨zblind, fun U hU hW => ⟨rfl, by rw [hU]; exact hP, hK.moved hW.alike⟩⟩ rfl (by simp [hlen]) hL.1 (by simp) (lv_room (by rw [zcsum]; exact hst)) d ⟨Nat.le_of_ble_eq_true rfl, Nat.le_of_ble_eq_true rfl⟩)
/-! switches -/
theorem z_tabOut {dflt lo hi : Int} {offs : Array Int} {len : Nat} {x : Int} {tgt : Nat} (d : decode (zMb M) pc = .ok (.tableswitch dflt lo hi offs, len)) (h : x < lo ∨ hi < x) (ht : (pc : Int) + dflt = (tgt : Int)) (k : zR G M tgt ls st σ Q) : zR G M pc ls (zi x :: st) σ Q := by
  refine zR_st fun h0 => zst zkt (fun hx hb C hL hs w => lv_tableOut hx hb d ?_ ht w) k
  rw [zI_toInt (zk1 h0)]
  exact h
theorem z_tabIn {dflt lo hi : Int} {offs : Array Int} {len : Nat} {x off : Int} {tgt : Nat} (d : decode (zMb M) pc = .ok (.tableswitch dflt lo hi offs, len)) (h1 : lo ≤ x) (h2 : x ≤ hi) (ho : offs[(x - lo).toNat]? = some off) (ht : (pc : Int) + off = (tgt : Int)) (k : zR G M tgt ls st σ Q) : zR G M pc ls (zi x :: st) σ Q := by
  refine zR_st fun h0 => zst zkt (fun hx hb C hL hs w => lv_tableIn (off := off) hx hb d ?_ ?_ ?_ ht w) k
  · rw [zI_toInt (zk1 h0)]; omega
  · rw [zI_toInt (zk1 h0)]; omega
  · rw [zI_toInt (zk1 h0)]; exact ho
theorem z_lookup {dflt : Int} {ps : Array (Int × Int)} {len : Nat} {x off : Int} {tgt : Nat} (d : decode (zMb M) pc = .ok (.lookupswitch dflt ps, len)) (hp : (ps.toList.zip (ps.toList.drop 1)).all (fun (a, next) => a.1 < next.1) = true) (ho : Op.lookupswitch.offset ps.toList dflt x = off) (ht : (pc : Int) + off = (tgt : Int)) (k : zR G M tgt ls st σ Q) : zR G M pc ls (zi x :: st) σ Q := by
  refine zR_st fun h0 => zst zkt (fun hx hb C hL hs w => lv_lookup (off := off) hx hb d hp ?_ ht w) k
  rw [zI_toInt (zk1 h0)]
  exact ho
/-! System.arraycopy -/
def zcp (σ : zS) (a : Nat) (i : Int) (b : Nat) (j n : Int) : zS := fun q k => if q = b ∧ j ≤ k ∧ k < j + n then σ a (i + (k - j)) else σ q k
theorem zcp_ne {a b q : Nat} {i j n : Int} (h : q ≠ b) : zcp σ a i b j n q = σ q := by
  funext k
  simp [zcp, h]
theorem zcp_wf {a b : Nat} {i j n : Int} (h : zwf σ) (hk : zk a = zk b) : zwf (zcp σ a i b j n) := by
  intro q k
  by_cases hq : q = b ∧ j ≤ k ∧ k < j + n
  · have e : zcp σ a i b j n q k = σ a (i + (k - j)) := if_pos hq
    rw [e, hq.1, ← hk]
    exact h a _
  · have e : zcp σ a i b j n q k = σ q k := if_neg hq
    rw [e]
    exact h q k
theorem zcpf {a b : Nat} {i j n : Int} (hi : zIn i) (hj : zIn j) (hn : zIn n) (i0 : 0 ≤ i) (j0 : 0 ≤ j) (n0 : 0 ≤ n) {α : Type} (f : Int → α) (k : Nat) : va_cpy (fun k : Nat => f (σ a k)) (fun k : Nat => f (σ b k)) (Int32.ofInt i).toNatClampNeg (Int32.ofInt j).toNatClampNeg (Int32.ofInt n).toNatClampNeg k = f (zcp σ a i b j n b k) := by
  have e1 := zcla hi i0
  have e2 := zcla hj j0
  have e3 := zcla hn n0
  generalize (Int32.ofInt i).toNatClampNeg = ni at *
  generalize (Int32.ofInt j).toNatClampNeg = nj at *
  generalize (Int32.ofInt n).toNatClampNeg = nn at *
  unfold va_cpy zcp
  by_cases hk : nj ≤ k ∧ k < nj + nn
  · have : b = b ∧ j ≤ (k : Int) ∧ (k : Int) < j + n := ⟨rfl, by omega, by omega⟩
    have e : i + ((k : Int) - j) = ((ni + (k - nj) : Nat) : Int) := by omega
    rw [if_pos hk, if_pos this, e]
  · have : ¬ (b = b ∧ j ≤ (k : Int) ∧ (k : Int) < j + n) := fun z => hk ⟨by omega, by omega⟩
    rw [if_neg hk, if_neg this]
def zLc (own : String) (idx : Nat) : Prop := Cond.methodLink own idx arraycopyName ∈ lw_tbl ∧ Cond.native arraycopyName ∈ lw_tbl ∧ Cond.static arraycopyName ∈ lw_tbl ∧ Cond.initialized "java/lang/System" ∈ lw_tbl
theorem z_copyI {idx a b na nb : Nat} {ra rb : List (Option Nat)} {i j n : Int} (L : zLc (zMy M).cls idx) (ha : zsh a = (0, na, ra)) (hb : zsh b = (0, nb, rb)) (i0 : 0 ≤ i) (j0 : 0 ≤ j) (n0 : 0 ≤ n) (h1 : i + n ≤ na) (h2 : j + n ≤ nb) (hfr : 1 ≤ (zMm M).frames) (hlo : 8 + (nativeFrameWords "java/lang/System" "arraycopy" 5 + 11) ≤ (zMm M).locals) (hst : (st.map zcat).sum ≤ 8) (d : decode (zMb M) pc = .ok (.invokestatic idx, 3))
    (kk : zR G M (pc + 3) ls st (zcp σ a i b j n) Q) : zR G M pc ls (zi n :: zi j :: zr b :: zi i :: zr a :: st) σ Q := by
  intro hl0 hs hw p e s m args below meth c C H locs lsr hP hS hL
  obtain ⟨hx, hbb, hrt, hml, hown, hts, hlocks, hK, hinj⟩ := id C
  have hn : zIn n := zk1 hs
  have hj : zIn j := zk2 hs
  have hi : zIn i := zk1 (zkt (zkt (zkt hs)))
  have e1 := zcla hi i0
  have e2 := zcla hj j0
  have e3 := zcla hn n0
  have neg : ∀ x : Int, zIn x → 0 ≤ x → ¬ Int32.ofInt x < 0 := fun x hx h0 z => by
    have := (zI_lt hx zIn_0).mp z
    omega
  refine va_copyi hx hbb (hml.trans hL.1.symm) hown (hts _ (zTb_in L.1 rfl)) (hts _ (zTb_in L.2.1 rfl)) (hts _ (zTb_in L.2.2.1 rfl)) (hts _ (zTb_in L.2.2.2 rfl)) hK hP (zwd_D hinj σ) hS a b 0 0 (by rw [zwd_get (zsh_lt ha (by decide)), zcl_I ha]) (by rw [zwd_get (zsh_lt hb (by decide)), zcl_I hb]) rfl rfl rfl (neg i hi i0) (neg j hj j0) (neg n hn n0) (by omega) (by omega) (fun _ _ => rfl) hfr ?_ d (fun H1 locs1 hP1 hD1 hS1 => ?_)
  · have := zcsum (G := G) st
    rw [this]
    omega
  · have e4 : zcl G (zcp σ a i b j n) b = .inl (zGt G 0, nb, .inl (va_cpy (fun k : Nat => Int32.ofInt (σ a k)) (fun k : Nat => Int32.ofInt (σ b k)) (Int32.ofInt i).toNatClampNeg (Int32.ofInt j).toNatClampNeg (Int32.ofInt n).toNatClampNeg)) := by
      rw [zcl_I hb]
      congr 4
      funext k
      exact (zcpf hi hj hn i0 j0 n0 Int32.ofInt k).symm
    rw [zwd_set e4 (fun q' h => zcp_ne h)] at hP1
    exact kk hl0 (fun v hv => hs v (by simp [hv])) (zcp_wf hw (by rw [zk_of ha, zk_of hb])) p e s m args below meth c C H1 locs1 lsr hP1 hS1 hL
theorem z_copyL {idx a b na nb : Nat} {ra rb : List (Option Nat)} {i j n : Int} (L : zLc (zMy M).cls idx) (ha : zsh a = (2, na, ra)) (hb : zsh b = (2, nb, rb)) (i0 : 0 ≤ i) (j0 : 0 ≤ j) (n0 : 0 ≤ n) (h1 : i + n ≤ na) (h2 : j + n ≤ nb) (hfr : 1 ≤ (zMm M).frames) (hlo : 8 + (nativeFrameWords "java/lang/System" "arraycopy" 5 + 11) ≤ (zMm M).locals) (hst : (st.map zcat).sum ≤ 8) (d : decode (zMb M) pc = .ok (.invokestatic idx, 3))
    (kk : zR G M (pc + 3) ls st (zcp σ a i b j n) Q) : zR G M pc ls (zi n :: zi j :: zr b :: zi i :: zr a :: st) σ Q := by
  intro hl0 hs hw p e s m args below meth c C H locs lsr hP hS hL
  obtain ⟨hx, hbb, hrt, hml, hown, hts, hlocks, hK, hinj⟩ := id C
  have hn : zIn n := zk1 hs
  have hj : zIn j := zk2 hs
  have hi : zIn i := zk1 (zkt (zkt (zkt hs)))
  have e1 := zcla hi i0
  have e2 := zcla hj j0
  have e3 := zcla hn n0
  have neg : ∀ x : Int, zIn x → 0 ≤ x → ¬ Int32.ofInt x < 0 := fun x hx h0 z => by
    have := (zI_lt hx zIn_0).mp z
    omega
  refine va_copyl hx hbb (hml.trans hL.1.symm) hown (hts _ (zTb_in L.1 rfl)) (hts _ (zTb_in L.2.1 rfl)) (hts _ (zTb_in L.2.2.1 rfl)) (hts _ (zTb_in L.2.2.2 rfl)) hK hP (zwd_D hinj σ) hS a b 2 2 (by rw [zwd_get (zsh_lt ha (by decide)), zcl_J ha]) (by rw [zwd_get (zsh_lt hb (by decide)), zcl_J hb]) rfl rfl rfl (neg i hi i0) (neg j hj j0) (neg n hn n0) (by omega) (by omega) (fun _ _ => rfl) hfr ?_ d (fun H1 locs1 hP1 hD1 hS1 => ?_)
  · have := zcsum (G := G) st
    rw [this]
    omega
  · have e4 : zcl G (zcp σ a i b j n) b = .inl (zGt G 2, nb, .inr (.inl (va_cpy (fun k : Nat => Int64.ofInt (σ a k)) (fun k : Nat => Int64.ofInt (σ b k)) (Int32.ofInt i).toNatClampNeg (Int32.ofInt j).toNatClampNeg (Int32.ofInt n).toNatClampNeg))) := by
      rw [zcl_J hb]
      congr 5
      funext k
      exact (zcpf hi hj hn i0 j0 n0 Int64.ofInt k).symm
    rw [zwd_set e4 (fun q' h => zcp_ne h)] at hP1
    exact kk hl0 (fun v hv => hs v (by simp [hv])) (zcp_wf hw (by rw [zk_of ha, zk_of hb])) p e s m args below meth c C H1 locs1 lsr hP1 hS1 hL
end ZC
