/-! CONSTRUCTORS: the world while it is made -/
section BW
def zGs (G : zG) (α : Nat → Nat) : zG := (G.1, G.2.1, G.2.2.1, α, G.2.2.2.2)
/-- a finished cell -/
def zce (G : zG) (α : Nat → Nat) (σ : zS) (i : Nat) : Nat × va_E := (α i, zcl (zGs G α) σ i)
def zqw (G : zG) (α : Nat → Nat) (σ : zS) (I : List Nat) : va_W := I.map (zce G α σ)
/-- the cells that a cell's fields lead to -/
def zrf (i : Nat) : List Nat := (zsh i).2.2.filterMap id
/-- a new address -/
def zau (α : Nat → Nat) (j q : Nat) : Nat → Nat := fun i => if i = j then q else α i
theorem zau_at {α : Nat → Nat} {j q : Nat} : zau α j q j = q := if_pos rfl
theorem zau_ne {α : Nat → Nat} {j q i : Nat} (h : i ≠ j) : zau α j q i = α i := if_neg h
theorem zrf_mem {rs : List (Option Nat)} {k q : Nat} (h : rs.getD k none = some q) : q ∈ rs.filterMap id := by
  refine List.mem_filterMap.mpr ⟨some q, ?_, rfl⟩
  rw [List.getD_eq_getElem?_getD] at h
  cases e : rs[k]? with
  | none => rw [e] at h; cases h
  | some r =>
    rw [e] at h
    have h2 : r = some q := h
    rw [h2] at e
    exact List.mem_of_getElem? e
theorem zfs_cg {a b : Nat → Nat} {rs : List (Option Nat)} {f : Int → Int} (h : ∀ q ∈ rs.filterMap id, a q = b q) : zfs a rs f = zfs b rs f := by
  unfold zfs
  refine List.map_congr_left (fun k _ => ?_)
  cases e : rs.getD k none with
  | none => rfl
  | some q =>
    show Value.ref (a q) = Value.ref (b q)
    rw [h q (zrf_mem e)]
theorem zce_cg {G : zG} {α β : Nat → Nat} {σ τ : zS} {i : Nat} (h : α i = β i) (hr : ∀ q ∈ zrf i, α q = β q) (hs : σ i = τ i) : zce G α σ i = zce G β τ i := by
  unfold zce
  rw [h]
  congr 1
  unfold zrf at hr
  unfold zcl
  rw [hs]
  generalize zsh i = z at hr ⊢
  obtain ⟨k, n, rs⟩ := z
  match k with
  | 0 => rfl
  | 1 => rfl
  | 2 => rfl
  | 3 =>
    show Sum.inl (zGt G 3, n, _) = Sum.inl (zGt G 3, n, _)
    have e : (fun j : Nat => (rs.getD j none).map α) = (fun j : Nat => (rs.getD j none).map β) := by
      funext j
      cases e : rs.getD j none with
      | none => rfl
      | some q =>
        show some (α q) = some (β q)
        rw [hr q (zrf_mem e)]
    show Sum.inl (zGt G 3, n, Sum.inr (Sum.inr (Sum.inr (Sum.inr (fun j : Nat => (rs.getD j none).map α))))) = Sum.inl (zGt G 3, n, Sum.inr (Sum.inr (Sum.inr (Sum.inr (fun j : Nat => (rs.getD j none).map β)))))
    rw [e]
  | k + 4 =>
    show Sum.inr (n, zfs α rs (τ i)) = Sum.inr (n, zfs β rs (τ i))
    rw [zfs_cg hr]
theorem zqw_cg {G : zG} {α β : Nat → Nat} {σ τ : zS} {I : List Nat} (h : ∀ i ∈ I, α i = β i ∧ (∀ q ∈ zrf i, α q = β q) ∧ σ i = τ i) : zqw G α σ I = zqw G β τ I :=
  List.map_congr_left (fun i hi => zce_cg (h i hi).1 (h i hi).2.1 (h i hi).2.2)
/-- cells of I don't speak of those of own -/
def zqa (own I : List Nat) : Bool := I.all (fun i => !own.contains i && (zrf i).all (fun q => !own.contains q))
theorem zqa_of {own I : List Nat} (h : zqa own I = true) : ∀ i ∈ I, i ∉ own ∧ ∀ q ∈ zrf i, q ∉ own := by
  intro i hi
  have h1 := List.all_eq_true.mp h i hi
  rw [Bool.and_eq_true] at h1
  refine ⟨fun z => ?_, fun q hq z => ?_⟩
  · have := h1.1
    rw [Bool.not_eq_true'] at this
    rw [List.contains_iff_mem.mpr z] at this
    cases this
  · have := List.all_eq_true.mp h1.2 q hq
    rw [Bool.not_eq_true'] at this
    rw [List.contains_iff_mem.mpr z] at this
    cases this
theorem zqw_ap {G : zG} {α β : Nat → Nat} {σ : zS} {own I : List Nat} (h : zqa own I = true) (hab : ∀ i, i ∉ own → β i = α i) : zqw G β σ I = zqw G α σ I :=
  zqw_cg (fun i hi => ⟨hab i (zqa_of h i hi).1, fun q hq => hab q ((zqa_of h i hi).2 q hq), rfl⟩)
theorem zP_iff {D : va_G} {cl : List vw_C} {ws : va_W} {H : Heap} : va_P D cl ws H ↔ ∀ q ∈ ws, va_at D cl q H :=
  ⟨fun h q hq => by obtain ⟨k, hk⟩ := List.getElem?_of_mem hq; exact h k q hk, fun h k q hk => h q (List.mem_of_getElem? hk)⟩
theorem zD_iff {A : Nat → Prop} {ws : va_W} : va_D A ws ↔ (ws.map (fun q => q.1)).Nodup ∧ ∀ q ∈ ws, A q.1 := by
  constructor
  · rintro ⟨h1, h2⟩
    refine ⟨List.pairwise_iff_getElem.mpr (fun i j hi hj hij => ?_), fun q hq => by obtain ⟨k, hk⟩ := List.getElem?_of_mem hq; exact h2 k q hk⟩
    have hi' : i < ws.length := by simpa using hi
    have hj' : j < ws.length := by simpa using hj
    simp only [List.getElem_map]
    intro e
    have := h1 i j ws[i] ws[j] (List.getElem?_eq_getElem hi') (List.getElem?_eq_getElem hj') e
    omega
  · rintro ⟨h1, h2⟩
    refine ⟨fun i j p q hi hj e => ?_, fun k q hk => h2 q (List.mem_of_getElem? hk)⟩
    obtain ⟨li, ei⟩ := List.getElem?_eq_some_iff.mp hi
    obtain ⟨lj, ej⟩ := List.getElem?_eq_some_iff.mp hj
    have h3 := List.pairwise_iff_getElem.mp h1
    have key : ∀ a b (ha : a < ws.length) (hb : b < ws.length), a < b → ws[a].1 ≠ ws[b].1 := fun a b ha hb hab => by
      have := h3 a b (by simpa using ha) (by simpa using hb) hab
      simpa only [List.getElem_map] using this
    by_cases c : i < j
    · exact absurd (by rw [ei, ej]; exact e) (key i j li lj c)
    · by_cases d : j < i
      · exact absurd (by rw [ei, ej]; exact e.symm) (key j i lj li d)
      · omega
theorem zP_pm {D : va_G} {cl : List vw_C} {ws ws' : va_W} {H : Heap} (h : ws.Perm ws') (hP : va_P D cl ws H) : va_P D cl ws' H := zP_iff.mpr (fun q hq => zP_iff.mp hP q (h.mem_iff.mpr hq))
theorem zD_pm {A : Nat → Prop} {ws ws' : va_W} (h : ws.Perm ws') (hD : va_D A ws) : va_D A ws' := by
  have h1 := zD_iff.mp hD
  exact zD_iff.mpr ⟨(h.map _).nodup_iff.mp h1.1, fun q hq => h1.2 q (h.mem_iff.mpr hq)⟩
/-- a value of a field: a cell, or a number -/
abbrev zSu : Type := Nat ⊕ Int
def zov (α : Nat → Nat) : zSu → Value
  | .inl j => .ref (α j)
  | .inr x => .int (Int32.ofInt x)
def zdf (rs : List (Option Nat)) : List Value := rs.map (fun r => match r with
  | none => .int 0
  | some _ => .null)
/-- the fields of an object that is being made -/
def zqf (α : Nat → Nat) (rs : List (Option Nat)) : List (Nat × zSu) → List Value
  | [] => zdf rs
  | (k, v) :: r => (zqf α rs r).set k (zov α v)
theorem zqf_len {α : Nat → Nat} {rs : List (Option Nat)} : ∀ {sets : List (Nat × zSu)}, (zqf α rs sets).length = rs.length := by
  intro sets
  induction sets with
  | nil => simp [zqf, zdf]
  | cons p r ih => simp [zqf, ih]
theorem zqf_cg {α β : Nat → Nat} {rs : List (Option Nat)} : ∀ {sets : List (Nat × zSu)}, (∀ p ∈ sets, ∀ j, p.2 = .inl j → α j = β j) → zqf α rs sets = zqf β rs sets := by
  intro sets
  induction sets with
  | nil => exact fun _ => rfl
  | cons p r ih =>
    intro h
    have e : zov α p.2 = zov β p.2 := by
      cases hv : p.2 with
      | inl j => show Value.ref (α j) = Value.ref (β j); rw [h p List.mem_cons_self j hv]
      | inr x => rfl
    show (zqf α rs r).set p.1 (zov α p.2) = (zqf β rs r).set p.1 (zov β p.2)
    rw [ih (fun q hq => h q (List.mem_cons_of_mem _ hq)), e]
def zsap (own : List Nat) (sets : List (Nat × zSu)) : Bool := sets.all (fun p => match p.2 with
  | .inl j => !own.contains j
  | .inr _ => true)
theorem zqf_ap {α β : Nat → Nat} {rs : List (Option Nat)} {own : List Nat} {sets : List (Nat × zSu)} (h : zsap own sets = true) (hab : ∀ i, i ∉ own → β i = α i) : zqf β rs sets = zqf α rs sets := by
  refine zqf_cg (fun p hp j hj => hab j (fun z => ?_))
  have h1 := List.all_eq_true.mp h p hp
  rw [hj] at h1
  have h2 : (!own.contains j) = true := h1
  rw [Bool.not_eq_true', List.contains_iff_mem.mpr z] at h2
  cases h2
theorem zqf_get {α : Nat → Nat} {rs : List (Option Nat)} {k : Nat} (hk : k < rs.length) : ∀ {sets : List (Nat × zSu)}, (zqf α rs sets)[k]? = match sets.lookup k with
    | some v => some (zov α v)
    | none => (zdf rs)[k]? := by
  intro sets
  induction sets with
  | nil => rfl
  | cons p r ih =>
    obtain ⟨a, v⟩ := p
    show ((zqf α rs r).set a (zov α v))[k]? = _
    by_cases c : k = a
    · subst c
      rw [List.getElem?_set_self (by rw [zqf_len]; exact hk), List.lookup_cons_self]
    · rw [List.getElem?_set_ne (fun z => c z.symm), ih]
      have e : (k == a) = false := beq_eq_false_iff_ne.mpr c
      rw [List.lookup_cons, e]
/-- all is set: the fields are those of the finished cell -/
def zchk (rs : List (Option Nat)) (sets : List (Nat × zSu)) (o : Int → Int) : Bool := (List.range rs.length).all (fun k => match rs.getD k none with
  | some j => decide (sets.lookup k = some (Sum.inl j))
  | none => match sets.lookup k with
    | some (.inr x) => decide (o (k : Int) = x)
    | some (.inl _) => false
    | none => decide (o (k : Int) = 0))
theorem zqf_fin {α : Nat → Nat} {rs : List (Option Nat)} {sets : List (Nat × zSu)} {o : Int → Int} (h : zchk rs sets o = true) : zqf α rs sets = zfs α rs o := by
  apply List.ext_getElem?
  intro k
  by_cases hk : k < rs.length
  · have h1 := List.all_eq_true.mp h k (List.mem_range.mpr hk)
    have hr : rs[k]? = some (rs[k]) := List.getElem?_eq_getElem hk
    have hg : rs.getD k none = rs[k] := by rw [List.getD_eq_getElem?_getD, hr]; rfl
    rw [zqf_get hk, zfs_get hr]
    rw [hg] at h1
    cases er : rs[k] with
    | some j =>
      rw [er] at h1
      have h2 : sets.lookup k = some (Sum.inl j) := of_decide_eq_true h1
      rw [h2]
      rfl
    | none =>
      rw [er] at h1
      cases es : sets.lookup k with
      | none =>
        rw [es] at h1
        have h2 : o (k : Int) = 0 := of_decide_eq_true h1
        show (zdf rs)[k]? = some (Value.int (Int32.ofInt (o k)))
        rw [h2]
        unfold zdf
        rw [List.getElem?_map, hr, er]
        rfl
      | some v =>
        rw [es] at h1
        cases v with
        | inl j => cases h1
        | inr x =>
          have h2 : o (k : Int) = x := of_decide_eq_true h1
          show some (Value.int (Int32.ofInt x)) = some (Value.int (Int32.ofInt (o k)))
          rw [h2]
  · rw [List.getElem?_eq_none (by rw [zqf_len]; omega), List.getElem?_eq_none (by unfold zfs; simp; omega)]
/-- the world of a constructor: its object, the cells that are finished, what else there is -/
def zbo (α : Nat → Nat) (b ci : Nat) (rs : List (Option Nat)) (sets : List (Nat × zSu)) : Nat × va_E := (α b, .inr (ci, zqf α rs sets))
def zbw (G : zG) (α : Nat → Nat) (σ : zS) (b ci : Nat) (rs : List (Option Nat)) (sets : List (Nat × zSu)) (E : (Nat → Nat) → va_W) (I : List Nat) : va_W := zbo α b ci rs sets :: (zqw G α σ I ++ E α)
theorem zva_rg : ∀ (n s : Nat), va_nd (List.range' s n) = true := by
  intro n
  induction n with
  | zero => intro s; rfl
  | succ n ih =>
    intro s
    rw [List.range'_succ]
    show (decide (s ∉ List.range' (s + 1) n) && va_nd (List.range' (s + 1) n)) = true
    rw [ih, Bool.and_true, decide_eq_true_eq]
    intro h
    have := List.mem_range'_1.mp h
    omega
/-- a callee's part and the rest -/
theorem zjoin {A0 : Nat → Prop} {D : va_G} {cl : List vw_C} {ws wc wr w1 : va_W} {H H1 : Heap} (hp : ws.Perm (wc ++ wr)) (hP : va_P D cl ws H) (hD : va_D A0 ws) (hk : ∀ q : Nat, q < H.size → ¬ va_A wc H.size q → H1[q]? = H[q]?) (hF : ∀ q, va_A wc H.size q → A0 q) (hP1 : va_P D cl w1 H1) (hD1 : va_D (va_A wc H.size) w1) : va_P D cl (wr ++ w1) H1 ∧ va_D A0 (wr ++ w1) := by
  refine va_join (zP_pm hp hP) (zD_pm hp hD) (List.range wc.length) (List.range' wc.length wr.length) ?_ ?_ ?_ ?_ hk hF hP1 hD1
  · apply List.ext_getElem?
    intro k
    rw [List.getElem?_map, List.getElem?_map]
    by_cases c : k < wc.length
    · rw [List.getElem?_range c, List.getElem?_eq_getElem c]
      show some ((wc ++ wr)[k]?) = some (some wc[k])
      rw [List.getElem?_append_left c, List.getElem?_eq_getElem c]
    · rw [List.getElem?_eq_none (by simpa using c), List.getElem?_eq_none (by omega)]
      rfl
  · apply List.ext_getElem?
    intro k
    rw [List.getElem?_map, List.getElem?_map]
    by_cases c : k < wr.length
    · rw [List.getElem?_range' c, List.getElem?_eq_getElem c]
      show some ((wc ++ wr)[wc.length + 1 * k]?) = some (some wr[k])
      rw [List.getElem?_append_right (by omega), show wc.length + 1 * k - wc.length = k from by omega, List.getElem?_eq_getElem c]
    · rw [List.getElem?_eq_none (by simpa using c), List.getElem?_eq_none (by omega)]
      rfl
  · exact zva_rg _ _
  · intro i hi hc
    have h1 := List.mem_range'_1.mp hi
    have h2 := List.mem_range.mp hc
    omega
end BW
