/-! CONSTRUCTORS: rules of calls -/
section BD
variable {G : zG} {M : zM} {p : Program} {e : Env} {R : Room} {s : State} {m : MethodId} {args : Array Value} {below : List Frame} {meth : Method} {c : Code} {H : Heap} {locs : List Loc} {cells slots : Nat} {Q : State → Prop} {pc : Nat} {lsr : Array Slot} {rest : List Value} {A : Nat → Prop} {H0 : Heap}
variable {α : Nat → Nat} {σ : zS} {b ci : Nat} {rs : List (Option Nat)} {sets : List (Nat × zSu)} {E : (Nat → Nat) → va_W} {I : List Nat} {lvs : List (Nat × Value)}
theorem zcallR {M' : zM} {idx n mc ms : Nat} {rm : Room} (C : zC G M p s m args meth c) (k1 : Cond.initialized (zMy M').cls ∈ lw_tbl) (k2 : Cond.code (zMy M') (zMb M') (zMl M') (zMr M') ∈ lw_tbl) (k3 : (zMy M').cls ≠ "java/lang/invoke/MethodHandle" ∧ (zMy M').cls ≠ "java/lang/invoke/VarHandle" ∧ (parseMethodDescriptor (zMy M').desc).map (fun d => d.parameters.length) = some n) (L : zLk (zMy M).cls idx M') (hrc : rm.cells = mc) (hrs : rm.slots = ms) (hroom : rm.frames + 1 ≤ R.frames ∧ 8 + (zMl M' + 11) + rm.locals ≤ R.locals) :
    CallB R s args (zMy M).cls idx (zMy M') (zMb M') (zMl M') (zMr M') (zMw M') rm mc ms n := by
  obtain ⟨hx, hb, hrt, hml, hown, hts, hlocks, hK, hinj⟩ := C
  refine callB_of n hts (fun w hw => ?_) rfl hrc hrs (hts _ (zTb_in k1 rfl)) (hts _ (zTb_in L rfl)) k3 hroom
  rcases List.mem_cons.mp hw with h | h
  · subst h; exact ⟨zTb_in k2 rfl, good_of_word rfl⟩
  · exact ⟨h, good_of_word (List.mem_filter.mp h).2⟩
theorem zF_A {wc ws : va_W} (hp : ∀ q ∈ wc, q ∈ ws) (hD : va_D A ws) (hS : va_S A H0 H locs) (hA : ∀ q, H0.size ≤ q → A q) : ∀ q, va_A wc H.size q → A q := by
  intro q h
  rcases h with ⟨k, x, h⟩ | h
  · have := (zD_iff.mp hD).2 _ (hp _ (List.mem_of_getElem? h))
    exact this
  · exact hA q (Nat.le_trans hS.1 h)
/-- a finished row is filled -/
theorem zb_fill {j N idx : Nat} {v : Int} (C : zC G M p s m args meth c) (hA : ∀ q, H0.size ≤ q → A q) (hl : lv_has lsr (zMl M) lvs) (w : zWq G A H0 H locs (zbw G α σ b ci rs sets E I)) (hsh : zsh j = (0, N, [])) (hN : N < 2147483648) (hj : j ∈ I) (hn : (I.erase j).contains j = false)
    (L : zLk (zMy M).cls idx MJ7_fill_53178) (hroom : (zMm MJ7_fill_53178).frames + 1 ≤ R.frames ∧ 8 + (zMl MJ7_fill_53178 + 11) + (zMm MJ7_fill_53178).locals ≤ R.locals) (hst : (rest.map fun v => v.category).sum ≤ 8) (hc1 : cells ≤ R.cells ∧ slots ≤ R.slots)
    (d : decode (zMb M) pc = .ok (.invokestatic idx, 3))
    (kk : ∀ (H1 : Heap) (locs1 : List Loc), zWq G A H0 H1 locs1 (zbw G α (zfl σ j N v) b ci rs sets E I) → W p (zGL G) e R s m args below meth c H1 locs1 cells slots Q (F0 m (pc + 3) lsr rest)) :
    W p (zGL G) e R s m args below meth c H locs cells slots Q (F0 m pc lsr (.int (Int32.ofInt v) :: .ref (α j) :: rest)) := by
  obtain ⟨hx, hb, hrt, hml, hown, hts, hlocks, hK, hinj⟩ := id C
  obtain ⟨hP, hD, hS⟩ := zWq_pm (zbw_foc (τ := σ) hj hn (fun _ _ => rfl)) w
  have e0 : zce G α σ j = (α j, .inl (zGt G 0, N, .inl (fun k : Nat => Int32.ofInt (σ j k)))) := by
    unfold zce
    rw [zcl_I hsh]
    rfl
  rw [e0] at hP hD
  have K := mkJ7_fill_53178
  have hF : ∀ q, va_A [(α j, .inl (zGt G 0, N, .inl (fun k : Nat => Int32.ofInt (σ j k))))] H.size q → A q := zF_A (fun q hq => by rw [List.mem_singleton.mp hq]; exact List.mem_cons_self) hD hS hA
  refine va_callv (S := Unit) (va_runS (As := [.ref (α j), .int (Int32.ofInt v)]) (rest := rest) ⟨hx, hb, hml, hown, hts⟩ (zfill_met hinj (α j) H.size N (fun k : Nat => Int32.ofInt (σ j k)) (Int32.ofInt v) hN) ⟨zcallR C K.1.1 K.1.2.1 K.1.2.2 L rfl rfl hroom, hts _ (zTb_in K.2 rfl)⟩ ⟨fun a U g mk q => by obtain ⟨q0, q1, q2, q3⟩ := q; exact ⟨q0, q1, q2, va_K.moved (u := U) (U := U.calling g mk a) (Vm.Alike.refl U.vm) q3⟩, fun U hU hW => ⟨rfl, by rw [hU], by rw [hU]; exact zP_iff.mpr (fun q hq => zP_iff.mp hP q (by rw [List.mem_singleton.mp hq]; exact List.mem_cons_self)), va_K.moved hW.alike hK⟩⟩ rfl rfl hl.1 rfl (lv_room hst) d hc1) hS (fun q _ h => hF q h) hF (fun u t H1 locs1 ht hvm _ hB hz1 hk1 hS1 => ?_)
  obtain ⟨hP1, hK1⟩ := hB
  rw [ht] at hP1
  have hD1 : va_D (va_A [(α j, .inl (zGt G 0, N, .inl (fun k : Nat => Int32.ofInt (σ j k))))] H.size) [(α j, .inl (zGt G 0, N, .inl (fun k => if k < N then Int32.ofInt v else Int32.ofInt (σ j k))))] := by
    refine zD_iff.mpr ⟨by simp, fun q hq => ?_⟩
    rw [List.mem_singleton.mp hq]
    exact va_A.in (k := 0) (q := (α j, .inl (zGt G 0, N, .inl (fun k : Nat => Int32.ofInt (σ j k))))) rfl
  obtain ⟨hP2, hD2⟩ := zjoin (wc := [(α j, .inl (zGt G 0, N, .inl (fun k : Nat => Int32.ofInt (σ j k))))]) (wr := zbw G α σ b ci rs sets E (I.erase j)) (List.Perm.refl _) hP hD hk1 hF hP1 hD1
  refine kk H1 locs1 (zWq_pm (zbw_foc (σ := σ) hj hn (fun q hq => ?_)).symm ?_)
  · funext k
    unfold zfl
    rw [if_neg (fun z => hq z.1)]
  · have e1 : zce G α (zfl σ j N v) j = (α j, .inl (zGt G 0, N, .inl (fun k => if k < N then Int32.ofInt v else Int32.ofInt (σ j k)))) := by
      unfold zce
      rw [zcl_I hsh]
      show (α j, Sum.inl (zGt G 0, N, Sum.inl (fun k : Nat => Int32.ofInt (zfl σ j N v j k)))) = _
      congr 5
      funext k
      unfold zfl
      by_cases d : k < N
      · rw [if_pos ⟨rfl, by omega, by omega⟩, if_pos d]
      · rw [if_neg (fun z => by omega), if_neg d]
    rw [e1]
    exact zWq_pm List.perm_append_comm ⟨hP2, hD2, hS1⟩
/-- a new object -/
theorem zb_new {j cj idx : Nat} {rsj : List (Option Nat)} {q : vw_C} {ty : Nat → FieldType} {ws : va_W} (C : zC G M p s m args meth c) (hA : ∀ q, H0.size ≤ q → A q) (w : zWq G A H0 H locs ws)
    (hq : vwCl[cj]? = some q) (hty : ∀ k, k < q.2.2 → parseFieldDescriptor (q.2.1 k).2.2.1 = some (ty k)) (hfs : ∀ k, k < q.2.2 → defaultValue (ty k) = vp_V (zdf rsj) k)
    (l1 : Cond.classLink (zMy M).cls idx q.1 ∈ lw_tbl) (l2 : Cond.instantiable q.1 q.2.2 ∈ lw_tbl) (l3 : Cond.initialized q.1 ∈ lw_tbl) (hc1 : cells + 1 ≤ R.cells) (hs1 : slots + q.2.2 ≤ R.slots)
    (d : decode (zMb M) pc = .ok (.new idx, 3))
    (kk : ∀ (α' : Nat → Nat) (H1 : Heap), (∀ i, i ≠ j → α' i = α i) → zWq G A H0 H1 locs (zbo α' j cj rsj [] :: ws) → W p (zGL G) e R s m args below meth c H1 locs (cells + 1) (slots + q.2.2) Q (F0 m (pc + 3) lsr (.ref (α' j) :: rest))) :
    W p (zGL G) e R s m args below meth c H locs cells slots Q (F0 m pc lsr rest) := by
  obtain ⟨hx, hb, hrt, hml, hown, hts, hlocks, hK, hinj⟩ := id C
  obtain ⟨hP, hD, hS⟩ := w
  obtain ⟨C0, T0, N0⟩ := q
  refine va_new (ci := cj) (fs := zdf rsj) hx hb hts (zcwT hq) ty hty hown (hts _ (zTb_in l1 rfl)) (hts _ (zTb_in l2 rfl)) (hts _ (zTb_in l3 rfl)) hK hP hD hS hA hq hfs hc1 hs1 d (fun qq H1 hP1 hD1 hS1 => ?_)
  have e4 : zau α j qq j = qq := zau_at
  have := kk (zau α j qq) H1 (fun i hi => zau_ne hi) (zWq_pm (w := ws ++ [(qq, Sum.inr (cj, zdf rsj))]) (by
    unfold zbo
    rw [e4]
    exact List.perm_append_singleton _ _) ⟨hP1, hD1, hS1⟩)
  rw [e4] at this
  exact this
def zRm (M : zM) (mc ms : Nat) : Room := { frames := M.2.2.2.2.1, cells := mc, slots := ms, locals := M.2.2.2.2.2 }
/-- what the tables say beside the words that a contract may name: arrays of shelves, constructors of nest mates -/
def zNw (U : State) : Prop := va_AO "CollegeHouse$Shelf" U ∧ va_Nw (.methodLinkNest "CollegeHouse" 24 ⟨"CollegeHouse$Statutes", "<init>", "()V"⟩ "CollegeHouse") U ∧ va_Nw (.methodLinkNest "CollegeHouse" 76 ⟨"CollegeHouse$Chest", "<init>", "()V"⟩ "CollegeHouse") U ∧ va_Nw (.methodLinkNest "CollegeHouse" 110 ⟨"CollegeHouse$Shelf", "<init>", "()V"⟩ "CollegeHouse") U
theorem zNw_same {u U : State} (h : u.vm = U.vm) (hz : zNw u) : zNw U := ⟨va_AO.moved (by rw [h]; exact Vm.Alike.refl _) hz.1, va_Nw.same rfl h hz.2.1, va_Nw.same rfl h hz.2.2.1, va_Nw.same rfl h hz.2.2.2⟩
theorem zNw_warm {u U : State} (h : u.WarmedH U.vm) (hz : zNw u) : zNw U := ⟨va_AO.moved h.alike hz.1, va_Nw.warmM h hz.2.1, va_Nw.warmM h hz.2.2.1, va_Nw.warmM h hz.2.2.2⟩
abbrev zPcI (G : zG) (α : Nat → Nat) (b ci : Nat) (as : (Nat → Nat) → List Value) (sz : Nat) : Array Value → State → Prop := va_Pc (.ref (α b) :: as α) (fun U => U.heap.size = sz ∧ va_P (zGD G) vwCl [zbo α b ci (zsh b).2.2 []] U.heap ∧ va_K (zGD G) vwCl (zGy G) U ∧ zNw U)
abbrev zQcI (G : zG) (α : Nat → Nat) (b ci : Nat) (own : List Nat) (τ : zS) (sz : Nat) : Array Value → State → Outcome → State → Prop := va_Qv (S := Nat → Nat) (fun β => ∀ i, i ∉ own → β i = α i) (fun β t => va_P (zGD G) vwCl (zqw G β τ (b :: own)) t.heap ∧ va_K (zGD G) vwCl (zGy G) t ∧ va_D (va_A [zbo α b ci (zsh b).2.2 []] sz) (zqw G β τ (b :: own))) (va_A [zbo α b ci (zsh b).2.2 []] sz)
/-- WHAT A CONSTRUCTOR DOES: its object at b and own cells, as τ has them -/
def zMi (G : zG) (M : zM) (mc ms b ci : Nat) (as : (Nat → Nat) → List Value) (own : List Nat) (τ : zS) : Prop := ∀ (α : Nat → Nat) (sz : Nat), Met (zGL G) (zMy M) (zMw M) (zRm M mc ms) (zPcI G α b ci as sz) (zQcI G α b ci own τ sz) mc ms (va_A [zbo α b ci (zsh b).2.2 []] sz)
/-- the call of a constructor -/
theorem zb_callG {mc ms j cj : Nat} {as : (Nat → Nat) → List Value} {own : List Nat} {τ : zS} {st : List Value} {ws : va_W} (C : zC G M p s m args meth c) (hnw : zNw s) (hA : ∀ q, H0.size ≤ q → A q) (w : zWq G A H0 H locs (zbo α j cj (zsh j).2.2 [] :: ws))
    (run : PreS s H (zPcI G α j cj as H.size) (.ref (α j) :: as α) → va_Run p (zGL G) e R s m args below meth c H locs cells slots mc ms (F0 m pc lsr st) rest (zQcI G α j cj own τ H.size (Value.ref (α j) :: as α).toArray) (va_A [zbo α j cj (zsh j).2.2 []] H.size))
    (kk : ∀ (β : Nat → Nat) (H1 : Heap) (locs1 : List Loc), (∀ i, i ∉ own → β i = α i) → zWq G A H0 H1 locs1 (zqw G β τ (j :: own) ++ ws) → W p (zGL G) e R s m args below meth c H1 locs1 (cells + mc) (slots + ms) Q (F0 m (pc + 3) lsr rest)) :
    W p (zGL G) e R s m args below meth c H locs cells slots Q (F0 m pc lsr st) := by
  obtain ⟨hx, hb, hrt, hml, hown, hts, hlocks, hK, hinj⟩ := id C
  obtain ⟨hP, hD, hS⟩ := w
  have hF : ∀ q, va_A [zbo α j cj (zsh j).2.2 []] H.size q → A q := zF_A (fun q hq => by rw [List.mem_singleton.mp hq]; exact List.mem_cons_self) hD hS hA
  refine va_callv (S := Nat → Nat) (run ⟨fun a U g mk q => by obtain ⟨q0, q1, q2, q3, q4⟩ := q; exact ⟨q0, q1, q2, va_K.moved (u := U) (U := U.calling g mk a) (Vm.Alike.refl U.vm) q3, zNw_same (u := U) (U := U.calling g mk a) rfl q4⟩, fun U hU hW => ⟨rfl, by rw [hU], by rw [hU]; exact zP_iff.mpr (fun q hq => zP_iff.mp hP q (by rw [List.mem_singleton.mp hq]; exact List.mem_cons_self)), va_K.moved hW.alike hK, zNw_warm hW hnw⟩⟩) hS (fun q _ h => hF q h) hF (fun β t H1 locs1 ht hvm hβ hB hz1 hk1 hS1 => ?_)
  obtain ⟨hP1, hK1, hD1⟩ := hB
  rw [ht] at hP1
  obtain ⟨hP2, hD2⟩ := zjoin (wc := [zbo α j cj (zsh j).2.2 []]) (wr := ws) (List.Perm.refl _) hP hD hk1 hF hP1 hD1
  exact kk β H1 locs1 hβ (zWq_pm List.perm_append_comm ⟨hP2, hD2, hS1⟩)
theorem zb_call {M' : zM} {mc ms j cj idx n : Nat} {as : (Nat → Nat) → List Value} {st : List Value} {own : List Nat} {τ : zS} {ws : va_W} (C : zC G M p s m args meth c) (hnw : zNw s) (hA : ∀ q, H0.size ≤ q → A q) (hl : lv_has lsr (zMl M) lvs) (hM : zMi G M' mc ms j cj as own τ)
    (k1 : Cond.initialized (zMy M').cls ∈ lw_tbl) (k2 : Cond.code (zMy M') (zMb M') (zMl M') (zMr M') ∈ lw_tbl) (k3 : (zMy M').cls ≠ "java/lang/invoke/MethodHandle" ∧ (zMy M').cls ≠ "java/lang/invoke/VarHandle" ∧ (parseMethodDescriptor (zMy M').desc).map (fun d => d.parameters.length) = some n) (L : zLk (zMy M).cls idx M') (kn : (zMy M').name = "<init>") (ki : Cond.instanceMethod (zMy M') ∈ lw_tbl) (kr : zMr M' = none)
    (hroom : (zRm M' mc ms).frames + 1 ≤ R.frames ∧ 8 + (zMl M' + 11) + (zRm M' mc ms).locals ≤ R.locals) (w : zWq G A H0 H locs (zbo α j cj (zsh j).2.2 [] :: ws)) (hlen : (as α).length = n) (hstk : st = (as α).reverse ++ .ref (α j) :: rest) (hst : (rest.map fun v => v.category).sum ≤ 8) (hc1 : cells + mc ≤ R.cells ∧ slots + ms ≤ R.slots)
    (d : decode (zMb M) pc = .ok (.invokespecial idx, 3))
    (kk : ∀ (β : Nat → Nat) (H1 : Heap) (locs1 : List Loc), (∀ i, i ∉ own → β i = α i) → zWq G A H0 H1 locs1 (zqw G β τ (j :: own) ++ ws) → W p (zGL G) e R s m args below meth c H1 locs1 (cells + mc) (slots + ms) Q (F0 m (pc + 3) lsr rest)) :
    W p (zGL G) e R s m args below meth c H locs cells slots Q (F0 m pc lsr st) := by
  obtain ⟨hx, hb, hrt, hml, hown, hts, hlocks, hK, hinj⟩ := id C
  have cb : CallB R s args (zMy M).cls idx (zMy M') (zMb M') (zMl M') none (zMw M') (zRm M' mc ms) mc ms n := by
    have := zcallR (R := R) (rm := zRm M' mc ms) C k1 k2 k3 L rfl rfl hroom
    rw [kr] at this
    exact this
  exact zb_callG C hnw hA w (fun hp => va_runI (As := as α) (rest := rest) ⟨hx, hb, hml, hown, hts⟩ (hM α H.size) ⟨cb, kn, hts _ (zTb_in ki rfl)⟩ hp rfl hlen hl.1 hstk (lv_room hst) d hc1) kk
/-- of a nest mate -/
theorem zb_callN {M' : zM} {mc ms j cj idx n : Nat} {as : (Nat → Nat) → List Value} {st : List Value} {own : List Nat} {τ : zS} {ws : va_W} {host : String} (C : zC G M p s m args meth c) (hnw : zNw s) (hA : ∀ q, H0.size ≤ q → A q) (hl : lv_has lsr (zMl M) lvs) (hM : zMi G M' mc ms j cj as own τ)
    (k1 : Cond.initialized (zMy M').cls ∈ lw_tbl) (k2 : Cond.code (zMy M') (zMb M') (zMl M') (zMr M') ∈ lw_tbl) (k3 : (zMy M').cls ≠ "java/lang/invoke/MethodHandle" ∧ (zMy M').cls ≠ "java/lang/invoke/VarHandle" ∧ (parseMethodDescriptor (zMy M').desc).map (fun d => d.parameters.length) = some n) (L : va_Nw (.methodLinkNest (zMy M).cls idx (zMy M') host) s) (kn : (zMy M').name = "<init>") (ki : Cond.instanceMethod (zMy M') ∈ lw_tbl) (kr : zMr M' = none)
    (hroom : (zRm M' mc ms).frames + 1 ≤ R.frames ∧ 8 + (zMl M' + 11) + (zRm M' mc ms).locals ≤ R.locals) (w : zWq G A H0 H locs (zbo α j cj (zsh j).2.2 [] :: ws)) (hlen : (as α).length = n) (hstk : st = (as α).reverse ++ .ref (α j) :: rest) (hst : (rest.map fun v => v.category).sum ≤ 8) (hc1 : cells + mc ≤ R.cells ∧ slots + ms ≤ R.slots)
    (d : decode (zMb M) pc = .ok (.invokespecial idx, 3))
    (kk : ∀ (β : Nat → Nat) (H1 : Heap) (locs1 : List Loc), (∀ i, i ∉ own → β i = α i) → zWq G A H0 H1 locs1 (zqw G β τ (j :: own) ++ ws) → W p (zGL G) e R s m args below meth c H1 locs1 (cells + mc) (slots + ms) Q (F0 m (pc + 3) lsr rest)) :
    W p (zGL G) e R s m args below meth c H locs cells slots Q (F0 m pc lsr st) := by
  obtain ⟨hx, hb, hrt, hml, hown, hts, hlocks, hK, hinj⟩ := id C
  have cb : va_CN R s args (zMy M).cls idx (zMy M') host (zMb M') (zMl M') none (zMw M') (zRm M' mc ms) mc ms n := by
    refine va_cnB n hts (fun w hw => ?_) (by rw [← kr]) rfl rfl L (hts _ (zTb_in k1 rfl)) k3 hroom
    rcases List.mem_cons.mp hw with h | h
    · subst h; exact ⟨zTb_in k2 rfl, good_of_word rfl⟩
    · exact ⟨h, good_of_word (List.mem_filter.mp h).2⟩
  exact zb_callG C hnw hA w (fun hp => va_runIN (As := as α) (rest := rest) ⟨hx, hb, hml, hown, hts⟩ (hM α H.size) ⟨cb, kn, hts _ (zTb_in ki rfl)⟩ hp rfl hlen hl.1 hstk (lv_room hst) d hc1) kk
theorem zbw_ap {α β : Nat → Nat} {own : List Nat} (h1 : zqa own I = true) (h2 : zsap own sets = true) (h3 : own.contains b = false) (hE : E β = E α) (hab : ∀ i, i ∉ own → β i = α i) : zbw G α σ b ci rs sets E I = zbw G β σ b ci rs sets E I := by
  unfold zbw zbo
  have h4 : β b = α b := hab b (fun z => by rw [List.contains_iff_mem.mpr z] at h3; cases h3)
  rw [zqw_ap h1 hab, zqf_ap h2 hab, hE, h4]
theorem zbw_in {β : Nat → Nat} {J : List Nat} : (zqw G β σ J ++ zbw G β σ b ci rs sets E I).Perm (zbw G β σ b ci rs sets E (J ++ I)) := by
  unfold zbw
  refine List.perm_middle.trans (List.Perm.cons _ ?_)
  rw [← List.append_assoc]
  unfold zqw
  rw [List.map_append]
/-- how a constructor ends -/
abbrev zIQ (G : zG) (α : Nat → Nat) (b : Nat) (own : List Nat) (τ : zS) (A : Nat → Prop) : Array Value → State → Outcome → State → Prop := va_Qv (S := Nat → Nat) (fun β => ∀ i, i ∉ own → β i = α i) (fun β t => va_P (zGD G) vwCl (zqw G β τ (b :: own)) t.heap ∧ va_K (zGD G) vwCl (zGy G) t ∧ va_D A (zqw G β τ (b :: own))) A
theorem zi_of {mc ms b ci idx0 : Nat} {as : (Nat → Nat) → List Value} {own : List Nat} {τ : zS} (hinj : zInj G) (hname : (zMy M).name = "<init>") (hpl : plainName (zMy M).cls = true) (hr : zMr M = none) (hlen : ∀ α : Nat → Nat, (lg_sl (.ref (α b) :: as α)).length ≤ zMl M)
    (d0 : decode (zMb M) 0 = .ok (.aload_n 0, 1)) (d1 : decode (zMb M) 1 = .ok (.invokespecial idx0, 3)) (o1 : Cond.methodLink (zMy M).cls idx0 Lib.objectInit ∈ lw_tbl) (o2 : Cond.instanceMethod Lib.objectInit ∈ lw_tbl) (o3 : Cond.code Lib.objectInit ⟨#[0xb1]⟩ 1 none ∈ lw_tbl) (hf : 1 ≤ (zRm M mc ms).frames ∧ 12 ≤ (zRm M mc ms).locals)
    (k : ∀ (α : Nat → Nat) (p : Program) (e : Env) (s : State) (m : MethodId) (args : Array Value) (below : List Frame) (meth : Method) (c : Code) (A : Nat → Prop) (lsr : Array Slot), zC G M p s m args meth c → zNw s → meth.name = "<init>" → (∀ q, s.heap.size ≤ q → A q) → zWq G A s.heap s.heap [] [zbo α b ci (zsh b).2.2 []] → lv_has lsr (zMl M) (lv_args 0 (.ref (α b) :: as α)) →
      W p (zGL G) e (zRm M mc ms) s m args below meth c s.heap [] 0 0 (MQ below (zIQ G α b own τ A) args s mc ms A) (F0 m 4 lsr [])) : zMi G M mc ms b ci as own τ := by
  intro α sz
  refine Met.ofW (cc := zMb M) (maxL := zMl M) (ret := zMr M) hpl rfl ?_
  intro p e s m args below meth c s₁ B hml hv
  obtain ⟨rfl, hsz, hP, hK, hnw⟩ := hv
  subst hsz
  have hts := atoms_spec (ws := zMw M) B.pre
  have C : zC G M p s m (.ref (α b) :: as α).toArray meth c := ⟨B.exec, B.bytes, B.returns, hml, findClass_of_methodNamed B.named, fun w h => hts w (List.mem_cons_of_mem _ h), B.notSynchronized, hK, hinj⟩
  have hin : meth.name = "<init>" := (name_of_methodNamed B.named B.method).1.trans hname
  have hD0 : va_D (va_A [zbo α b ci (zsh b).2.2 []] s.heap.size) [zbo α b ci (zsh b).2.2 []] := by
    refine zD_iff.mpr ⟨by simp, fun q hq => ?_⟩
    rw [List.mem_singleton.mp hq]
    exact va_A.in (k := 0) (q := zbo α b ci (zsh b).2.2 []) rfl
  unfold zQcI
  generalize hAe : va_A [zbo α b ci (zsh b).2.2 []] s.heap.size = A at hD0 ⊢
  have hA : ∀ q : Nat, s.heap.size ≤ q → A q := fun q h => by rw [← hAe]; exact Or.inr h
  have hl := lv_entry (.ref (α b) :: as α) (n := zMl M) (hlen α)
  rw [lg_entry_eq]
  generalize (lg_sl (.ref (α b) :: as α) ++ List.replicate (zMl M - (lg_sl (.ref (α b) :: as α)).length) Slot.unset).toArray = ls at hl ⊢
  have h0 : (0, Value.ref (α b)) ∈ lv_args 0 (.ref (α b) :: as α) := by
    unfold lv_args
    rw [if_neg (by simp [Value.category])]
    exact List.mem_cons_self
  obtain ⟨k0, hk0⟩ := List.getElem?_of_mem h0
  refine lv_aload_n C.1 C.2.1 d0 rfl (lv_at hl k0 hk0) ?_
  refine W.objInit C.1 C.2.1 C.2.2.2.2.1 (C.2.2.2.2.2.1 _ (zTb_in o1 rfl)) (C.2.2.2.2.2.1 _ (zTb_in o2 rfl)) (C.2.2.2.2.2.1 _ (zTb_in o3 rfl)) rfl (by rw [hml]; exact hl.1) rfl d1 hf.1 hf.2 ?_
  exact k α p e s m _ below meth c A ls C hnw hin hA ⟨hP, hD0, va_S.rf⟩ hl
theorem zi_end {mc ms b ci : Nat} {own : List Nat} {τ : zS} {α0 : Nat → Nat} (C : zC G M p s m args meth c) (hr : zMr M = none) (w : zWq G A s.heap H locs (zbw G α σ b ci rs sets (fun _ => []) own)) (hsh : zsh b = (4, ci, rs)) (hch : zchk rs sets (τ b) = true) (hrow : ∀ i ∈ own, σ i = τ i) (hab : ∀ i, i ∉ own → α i = α0 i) (hc : cells ≤ mc ∧ slots ≤ ms)
    (d : decode (zMb M) pc = .ok (.return_, 1)) : W p (zGL G) e (zRm M mc ms) s m args below meth c H locs cells slots (MQ below (zIQ G α0 b own τ A) args s mc ms A) (F0 m pc lsr []) := by
  obtain ⟨hP, hD, hS⟩ := w
  have e1 : zbw G α σ b ci rs sets (fun _ => []) own = zqw G α τ (b :: own) := by
    unfold zbw zbo
    show (α b, Sum.inr (ci, zqf α rs sets)) :: (zqw G α σ own ++ []) = (α b, zcl (zGs G α) τ b) :: zqw G α τ own
    rw [List.append_nil, zcl_O hsh, zqf_fin hch, zqw_cg (fun i hi => ⟨rfl, fun _ _ => rfl, hrow i hi⟩)]
    rfl
  rw [e1] at hP hD
  refine W.widen (k := mc) (n := ms) hc.1 hc.2 ?_
  exact W.vret C.1 C.2.1 (C.2.2.1.trans hr) (fun t ht hW => ⟨⟨α, rfl, hab, by rw [ht]; exact hP, va_K.moved hW.alike C.2.2.2.2.2.2.2.1, hD⟩, hS.F ht⟩) hS.2.2 d (hlocks := C.2.2.2.2.2.2.1)
theorem zcl_z0 {j N : Nat} {G : zG} (h : zsh j = (0, N, [])) (hs : σ j = fun _ => 0) : zcl G σ j = .inl (zGt G 0, N, .inl (fun _ => 0)) := by
  rw [zcl_I h, hs]
  rfl
theorem zcl_z1 {j N : Nat} {G : zG} (h : zsh j = (1, N, [])) (hs : σ j = fun _ => 0) : zcl G σ j = .inl (zGt G 1, N, .inl (fun _ => 0)) := by
  rw [zcl_Z h, hs]
  rfl
theorem zcl_z2 {j N : Nat} {G : zG} (h : zsh j = (2, N, [])) (hs : σ j = fun _ => 0) : zcl G σ j = .inl (zGt G 2, N, .inr (.inl (fun _ => 0))) := by
  rw [zcl_J h, hs]
  rfl
end BD
