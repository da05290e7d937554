/-! PLACES that are written, places that are read -/
abbrev zPl : Type := List (Nat × Option Int)
def zat (W : zPl) (q : Nat) (j : Int) : Prop := ∃ d, d ∈ W ∧ d.1 = q ∧ (d.2 = none ∨ d.2 = some j)
/-- s is σ but for the places W -/
def zfr (W : zPl) (s σ : zS) : Prop := ∀ q j, ¬ zat W q j → s q j = σ q j
/-- s is σ at the places D -/
def zsm (D : zPl) (s σ : zS) : Prop := ∀ q j, zat D q j → s q j = σ q j
def zdj (D W : zPl) : Bool := D.all fun d => W.all fun w => !(d.1 == w.1) || (match d.2, w.2 with | some a, some b => !(a == b) | _, _ => false)
def zsb (W V : zPl) : Bool := W.all fun w => V.any fun v => v.1 == w.1 && (v.2 == none || v.2 == w.2)
theorem zdj_no {D W : zPl} (h : zdj D W = true) {q : Nat} {j : Int} (hd : zat D q j) : ¬ zat W q j := by
  rintro ⟨w, hw, rfl, h2⟩
  obtain ⟨d, hd, h3, h4⟩ := hd
  have h5 := List.all_eq_true.mp (List.all_eq_true.mp h d hd) w hw
  rw [h3] at h5
  simp only [beq_self_eq_true, Bool.not_true, Bool.false_or] at h5
  rcases h4 with h4 | h4 <;> rcases h2 with h2 | h2 <;> rw [h4, h2] at h5 <;> simp at h5
theorem zsb_at {W V : zPl} (h : zsb W V = true) {q : Nat} {j : Int} (hw : zat W q j) : zat V q j := by
  obtain ⟨w, hw, rfl, h2⟩ := hw
  obtain ⟨v, hv, h3⟩ := List.any_eq_true.mp (List.all_eq_true.mp h w hw)
  simp only [Bool.and_eq_true, Bool.or_eq_true, beq_iff_eq] at h3
  refine ⟨v, hv, h3.1, ?_⟩
  rcases h3.2 with h4 | h4
  · exact Or.inl h4
  · rw [h4]; exact h2
theorem zfr_0 {W : zPl} {σ : zS} : zfr W σ σ := fun _ _ _ => rfl
theorem zfr_tr {W : zPl} {σ s t : zS} (h : zfr W s σ) (h2 : zfr W t s) : zfr W t σ := fun q j a => (h2 q j a).trans (h q j a)
theorem zfr_mo {W V : zPl} {σ s : zS} (hs : zsb W V = true) (h : zfr W s σ) : zfr V s σ := fun q j a => h q j (fun z => a (zsb_at hs z))
theorem zfr_ap {W V : zPl} {σ s t : zS} (h : zfr W s σ) (h2 : zfr V t s) : zfr (W ++ V) t σ := fun q j a => by
  have h3 : ¬ zat V q j := fun ⟨d, x, y⟩ => a ⟨d, List.mem_append.mpr (Or.inr x), y⟩
  have h4 : ¬ zat W q j := fun ⟨d, x, y⟩ => a ⟨d, List.mem_append.mpr (Or.inl x), y⟩
  rw [h2 q j h3, h q j h4]
theorem zfr_uA {W : zPl} {σ s : zS} {i : Nat} {j v : Int} (hs : zsb [(i, none)] W = true) (h : zfr W s σ) : zfr W (zup s i j v) σ := by
  intro q b a
  rw [← h q b a]
  unfold zup
  rw [if_neg]
  rintro ⟨rfl, rfl⟩
  exact a (zsb_at hs ⟨_, List.mem_cons_self, rfl, Or.inl rfl⟩)
theorem zfr_uF {W : zPl} {σ s : zS} {i : Nat} {j v : Int} (hs : zsb [(i, some j)] W = true) (h : zfr W s σ) : zfr W (zup s i j v) σ := by
  intro q b a
  rw [← h q b a]
  unfold zup
  rw [if_neg]
  rintro ⟨rfl, rfl⟩
  exact a (zsb_at hs ⟨_, List.mem_cons_self, rfl, Or.inr rfl⟩)
theorem zfr_cp {W : zPl} {σ s : zS} {a b : Nat} {i j n : Int} (hs : zsb [(b, none)] W = true) (h : zfr W s σ) : zfr W (zcp s a i b j n) σ := by
  intro q c d
  rw [← h q c d]
  unfold zcp
  rw [if_neg]
  rintro ⟨rfl, _⟩
  exact d (zsb_at hs ⟨_, List.mem_cons_self, rfl, Or.inl rfl⟩)
theorem zfr_fl {W : zPl} {σ s : zS} {b : Nat} {n v : Int} (hs : zsb [(b, none)] W = true) (h : zfr W s σ) : zfr W (zfl s b n v) σ := by
  intro q c d
  rw [← h q c d]
  unfold zfl
  rw [if_neg]
  rintro ⟨rfl, _⟩
  exact d (zsb_at hs ⟨_, List.mem_cons_self, rfl, Or.inl rfl⟩)
theorem zfr_row {W : zPl} {σ s : zS} {q : Nat} (h : zfr W s σ) (hd : zdj [(q, none)] W = true) : s q = σ q := by
  funext j
  exact h q j (zdj_no hd ⟨_, List.mem_cons_self, rfl, Or.inl rfl⟩)
theorem zfr_at {W : zPl} {σ s : zS} {q : Nat} {j : Int} (h : zfr W s σ) (hd : zdj [(q, some j)] W = true) : s q j = σ q j :=
  h q j (zdj_no hd ⟨_, List.mem_cons_self, rfl, Or.inr rfl⟩)
theorem zfr_sm {W D : zPl} {σ s : zS} (h : zfr W s σ) (hd : zdj D W = true) : zsm D s σ := fun q j z => h q j (zdj_no hd z)
theorem zsm_row {D : zPl} {σ s : zS} (h : zsm D s σ) (q : Nat) (hm : zsb [(q, none)] D = true) : s q = σ q := by
  funext j
  exact h q j (zsb_at hm ⟨_, List.mem_cons_self, rfl, Or.inl rfl⟩)
theorem zsm_at {D : zPl} {σ s : zS} (h : zsm D s σ) (q : Nat) (j : Int) (hm : zsb [(q, some j)] D = true) : s q j = σ q j :=
  h q j (zsb_at hm ⟨_, List.mem_cons_self, rfl, Or.inr rfl⟩)
theorem zfr_of {W : zPl} {σ s : zS} (l : List Nat) (h : ∀ q, q ∉ l → s q = σ q) (hs : zsb (l.map fun q => (q, none)) W = true) : zfr W s σ := by
  intro q j a
  rw [h q (fun z => a (zsb_at hs ⟨(q, none), List.mem_map.mpr ⟨q, z, rfl⟩, rfl, Or.inl rfl⟩))]
