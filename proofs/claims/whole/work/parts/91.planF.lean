/-! CALLS: plan, what years bring -/
noncomputable def zrF (σ : zS) (l y : Int) : Int := zif2 (∃ r, zrnt σ l y r) (Classical.epsilon (zrnt σ l y)) 0
noncomputable def zvF (σ : zS) (l y : Int) : Int := zif2 (∃ r, zrsv σ l y r) (Classical.epsilon (zrsv σ l y)) 0
theorem zrF_e {σ : zS} {l y r : Int} (h : zrnt σ l y r) : zrF σ l y = r := by
  have h' : ∃ r, zrnt σ l y r := ⟨r, h⟩
  unfold zrF
  rw [zif2_y h']
  exact zrnt_one (Classical.epsilon_spec h') h
theorem zvF_e {σ : zS} {l y r : Int} (h : zrsv σ l y r) : zvF σ l y = r := by
  have h' : ∃ r, zrsv σ l y r := ⟨r, h⟩
  unfold zvF
  rw [zif2_y h']
  exact zrsv_one (Classical.epsilon_spec h') h
theorem zrF_b {σ : zS} {l y : Int} (hi : zinv σ) (hl : 0 ≤ l ∧ l < σ 98 5) (hy : 0 ≤ y ∧ y ≤ 200) : 0 ≤ zrF σ l y ∧ zrF σ l y ≤ 101000 := by
  by_cases h : ∃ r, zrnt σ l y r
  · obtain ⟨r, hr⟩ := h
    rw [zrF_e hr]
    exact zrnt_b hi hl hy hr
  · unfold zrF
    rw [zif2_n h]
    omega
theorem zrsv_b {σ : zS} {l y r : Int} (hi : zinv σ) (hl : 0 ≤ l ∧ l < σ 98 5) (hy : 0 ≤ y ∧ y ≤ 200) (h : zrsv σ l y r) : 0 ≤ r ∧ r ≤ 101000 := by
  have ha := g_zlea hi
  have h1 := ha.2.2 l hl.1 hl.2
  obtain ⟨v, hv, er⟩ := h
  have bv := zprc_b ha (by omega) hv
  have bm := zmul_b h1.2.2.1.1 h1.2.2.1.2 bv.1 bv.2
  omega
theorem zvF_b {σ : zS} {l y : Int} (hi : zinv σ) (hl : 0 ≤ l ∧ l < σ 98 5) (hy : 0 ≤ y ∧ y ≤ 200) : 0 ≤ zvF σ l y ∧ zvF σ l y ≤ 101000 := by
  by_cases h : ∃ r, zrsv σ l y r
  · obtain ⟨r, hr⟩ := h
    rw [zvF_e hr]
    exact zrsv_b hi hl hy hr
  · unfold zvF
    rw [zif2_n h]
    omega
/-- a lease that may be renewed in these years -/
def zen (σ : zS) (Y n l : Int) : Prop := σ 145 l = 0 ∧ Y ≤ σ 144 l ∧ σ 144 l < Y + n
/-- what renewing it adds to a year -/
noncomputable def zgn (σ : zS) (Y l y : Int) : Int := if Y + y < σ 144 l then 0 else if Y + y = σ 144 l then zfin σ l 0 else zvF σ l (Y + y) - σ 139 l
/-- what it brings else -/
noncomputable def zdu (σ : zS) (Y l y : Int) : Int := zif2 (y = 0 ∧ σ 151 Y ≠ 0) 0 (zrF σ l (Y + y))
noncomputable def zgt (σ : zS) (Y n bits l y : Int) : Int := zif2 (zbit bits l ∧ zen σ Y n l) (zgn σ Y l y) 0
/-- a year's flow, nothing renewed -/
noncomputable def zfw (σ : zS) (Y up y : Int) (L : Nat) : Int := -up + (if y = 0 then σ 98 8 else 0) + zps (fun l => zdu σ Y l y) L
/-- in the chest behind k years, but for roofs -/
noncomputable def zbal (σ : zS) (Y n up bits : Int) : Nat → Int
  | 0 => σ 98 8
  | k + 1 => zbal σ Y n up bits k + (-up) + zps (fun l => zdu σ Y l k) (σ 98 5).toNat + zps (fun l => zgt σ Y n bits l k) (σ 98 5).toNat
theorem zdu_b {σ : zS} {Y l y : Int} (hi : zinv σ) (hl : 0 ≤ l ∧ l < σ 98 5) (hY : 0 ≤ Y ∧ Y ≤ 110) (hy : 0 ≤ y ∧ y < 10) : 0 ≤ zdu σ Y l y ∧ zdu σ Y l y ≤ 101000 := by
  unfold zdu
  by_cases c : y = 0 ∧ σ 151 Y ≠ 0
  · rw [zif2_y c]; omega
  · rw [zif2_n c]
    exact zrF_b hi hl (by omega)
theorem zgn_b {σ : zS} {Y l y : Int} (hi : zinv σ) (hl : 0 ≤ l ∧ l < σ 98 5) (hY : 0 ≤ Y ∧ Y ≤ 110) (hy : 0 ≤ y ∧ y < 10) : -9999 ≤ zgn σ Y l y ∧ zgn σ Y l y ≤ 999900 := by
  have ha := (g_zlea hi).2.2 l hl.1 hl.2
  have hs := (g_zlse hi).2.1 l hl.1 hl.2
  have h1 := zfin_b (l := l) (left := 0) (g_ztbM hi) ha.1 hs.2.2.1.1 (by omega)
  have h2 := zvF_b (y := Y + y) hi hl (by omega)
  unfold zgn
  split
  · omega
  · split
    · omega
    · omega
theorem zgt_b {σ : zS} {Y n bits l y : Int} (hi : zinv σ) (hl : 0 ≤ l ∧ l < σ 98 5) (hY : 0 ≤ Y ∧ Y ≤ 110) (hy : 0 ≤ y ∧ y < 10) : -9999 ≤ zgt σ Y n bits l y ∧ zgt σ Y n bits l y ≤ 999900 := by
  unfold zgt
  by_cases c : zbit bits l ∧ zen σ Y n l
  · rw [zif2_y c]; exact zgn_b hi hl hY hy
  · rw [zif2_n c]; omega
theorem zps_bb {g : Int → Int} {A B : Int} : ∀ {n : Nat}, (∀ i : Int, 0 ≤ i → i < n → A ≤ g i ∧ g i ≤ B) → A * n ≤ zps g n ∧ zps g n ≤ B * n := by
  intro n
  induction n with
  | zero => intro _; exact ⟨Int.le_of_eq (Int.mul_zero A), Int.le_of_eq (Int.mul_zero B).symm⟩
  | succ n ih =>
    intro h
    have h1 := ih (fun i a b => h i a (by omega))
    have h2 := h (n : Int) (by omega) (by omega)
    show A * ((n + 1 : Nat) : Int) ≤ zps g n + g (n : Int) ∧ zps g n + g (n : Int) ≤ B * ((n + 1 : Nat) : Int)
    rw [Int.natCast_succ, Int.mul_add, Int.mul_add, Int.mul_one, Int.mul_one]
    omega
theorem zpdu_b {σ : zS} {Y y : Int} {k : Nat} (hi : zinv σ) (hY : 0 ≤ Y ∧ Y ≤ 110) (hy : 0 ≤ y ∧ y < 10) (hk : (k : Int) ≤ σ 98 5) : 0 ≤ zps (fun l => zdu σ Y l y) k ∧ zps (fun l => zdu σ Y l y) k ≤ 808000 := by
  have h8 := (g_zlea hi).2.1
  have := zps_bb (g := fun l => zdu σ Y l y) (A := 0) (B := 101000) (n := k) (fun i i0 i1 => zdu_b hi ⟨i0, by omega⟩ hY hy)
  omega
theorem zpgt_b {σ : zS} {Y n bits y : Int} {k : Nat} (hi : zinv σ) (hY : 0 ≤ Y ∧ Y ≤ 110) (hy : 0 ≤ y ∧ y < 10) (hk : (k : Int) ≤ σ 98 5) : -80000 ≤ zps (fun l => zgt σ Y n bits l y) k ∧ zps (fun l => zgt σ Y n bits l y) k ≤ 8000000 := by
  have h8 := (g_zlea hi).2.1
  have := zps_bb (g := fun l => zgt σ Y n bits l y) (A := -9999) (B := 999900) (n := k) (fun i i0 i1 => zgt_b hi ⟨i0, by omega⟩ hY hy)
  omega
theorem zbal_b {σ : zS} {Y n up bits : Int} (hi : zinv σ) (hY : 0 ≤ Y ∧ Y ≤ 110) (hu : 0 ≤ up ∧ up ≤ 99999) : ∀ k : Nat, k ≤ 10 → -180000 * (k : Int) ≤ zbal σ Y n up bits k ∧ zbal σ Y n up bits k ≤ 400000000 + 9000000 * (k : Int) := by
  intro k
  have hc := g_zche hi
  have hc3 := hc.2.2.1
  have hc4 := hc.2.2.2
  have h8 := (g_zlea hi).2.1
  induction k with
  | zero =>
    intro _
    show -180000 * ((0 : Nat) : Int) ≤ σ 98 8 ∧ σ 98 8 ≤ 400000000 + 9000000 * ((0 : Nat) : Int)
    omega
  | succ k ih =>
    intro hk
    have h := ih (by omega)
    have h1 := zpdu_b (y := k) (k := (σ 98 5).toNat) hi hY (by omega) (by omega)
    have h2 := zpgt_b (n := n) (bits := bits) (y := k) (k := (σ 98 5).toNat) hi hY (by omega) (by omega)
    show _ ≤ zbal σ Y n up bits k + (-up) + zps (fun l => zdu σ Y l k) (σ 98 5).toNat + zps (fun l => zgt σ Y n bits l k) (σ 98 5).toNat ∧ zbal σ Y n up bits k + (-up) + zps (fun l => zdu σ Y l k) (σ 98 5).toNat + zps (fun l => zgt σ Y n bits l k) (σ 98 5).toNat ≤ _
    omega
/-- places of plans -/
abbrev zWx : zPl := [(97, none), (83, none), (86, none), (87, none), (88, none), (89, none), (90, none), (175, none), (98, some 104), (98, some 105)]
section CG
variable {σ t : zS}
/-- scratch places are nothing to rents -/
theorem zend_cg (f : zfr zWx t σ) {l e : Int} (h : zend t l e) : zend σ l e := by
  unfold zend at h ⊢
  rw [zfr_row (q := 145) f rfl, zfr_row (q := 144) f rfl, zfr_row (q := 105) f rfl, zfr_row (q := 100) f rfl, zfr_at (q := 98) (j := 1) f rfl] at h
  exact h
theorem zrsv_cg (f : zfr zWx t σ) {l y r : Int} (h : zrsv t l y r) : zrsv σ l y r := by
  unfold zrsv zprc at h ⊢
  rw [zfr_row (q := 146) f rfl, zfr_row (q := 142) f rfl, zfr_row (q := 140) f rfl, zfr_row (q := 141) f rfl] at h
  exact h
theorem zrnt_cg (f : zfr zWx t σ) {l y r : Int} (h : zrnt t l y r) : zrnt σ l y r := by
  obtain ⟨e, he, h⟩ := h
  refine ⟨e, zend_cg f he, ?_⟩
  rcases h with ⟨a, b⟩ | ⟨a, b⟩
  · exact Or.inl ⟨a, zrsv_cg f b⟩
  · exact Or.inr ⟨a, by rw [← zfr_row (q := 139) f rfl]; exact b⟩
theorem zfin_cg (f : zfr zWx t σ) {l n : Int} : zfin t l n = zfin σ l n := by
  unfold zfin ztab
  rw [zfr_row (q := 139) f rfl, zfr_row (q := 143) f rfl, zfr_row (q := 147) f rfl, zfr_at (q := 98) (j := 63) f rfl]
end CG
