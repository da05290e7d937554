/-! CALLS: elections, what both sides find -/
theorem zfi_one {f : Int → Int} {n r r' : Int} {S : Int → Prop} (h : zfi f n S r) (h' : zfi f n S r') : r = r' := by
  rcases h with ⟨e, h⟩ | ⟨j, a, b, c, d⟩ <;> rcases h' with ⟨e', h'⟩ | ⟨j', a', b', c', d'⟩
  · omega
  · exact absurd b' (h j' a'.1 a'.2)
  · exact absurd b (h' j a.1 a.2)
  · have : j = j' := by
      by_cases x : j < j'
      · exact absurd b (d' j a.1 x)
      · by_cases y : j' < j
        · exact absurd b' (d j' a'.1 y)
        · omega
    rw [c, c', this]
theorem zfi_ex (f : Int → Int) (n : Int) (S : Int → Prop) : ∃ r, zfi f n S r := by
  have key : ∀ k : Nat, (∀ j, 0 ≤ j → j < (k : Int) → ¬ S (f j)) ∨ ∃ j, (0 ≤ j ∧ j < (k : Int)) ∧ S (f j) ∧ ∀ i, 0 ≤ i → i < j → ¬ S (f i) := by
    intro k
    induction k with
    | zero => exact Or.inl (fun j a b => by omega)
    | succ k ih =>
      rcases ih with h | ⟨j, a, b, c⟩
      · by_cases z : S (f k)
        · exact Or.inr ⟨k, by omega, z, h⟩
        · refine Or.inl (fun j a b => ?_)
          by_cases e : j = k
          · rw [e]; exact z
          · exact h j a (by omega)
      · exact Or.inr ⟨j, by omega, b, c⟩
  rcases key n.toNat with h | ⟨j, a, b, c⟩
  · exact ⟨-1, Or.inl ⟨rfl, fun i a b => h i a (by omega)⟩⟩
  · exact ⟨f j, Or.inr ⟨j, by omega, b, rfl, c⟩⟩
theorem zfi_pc {f : Int → Int} {n r : Int} {S S' : Int → Prop} (h : ∀ i, 0 ≤ i → i < n → (S (f i) ↔ S' (f i))) (hz : zfi f n S r) : zfi f n S' r := by
  rcases hz with ⟨e, h1⟩ | ⟨j, a, b, c, d⟩
  · exact Or.inl ⟨e, fun i a b z => h1 i a b ((h i a b).mpr z)⟩
  · exact Or.inr ⟨j, a, (h j a.1 a.2).mp b, c, fun i a' b' z => d i a' b' ((h i a' (by omega)).mpr z)⟩
/-- w stands in the set X -/
def zmem (X w : Int) : Prop := (0 ≤ w ∧ w < 24) ∧ zbit X w
/-- a set of those below p -/
def zset (p X : Int) : Prop := zIn X ∧ ∀ j, p ≤ j → j < 32 → ¬ zbit X j
theorem zset_b {p X : Int} (h : zset p X) (p0 : 0 ≤ p) (p1 : p ≤ 24) : 0 ≤ X ∧ X < 16777216 := by
  have h2 := (zm_rng (x := X) (p := 24) h.1 (by omega) (by omega)).mp ((zb_sh0 h.1 (by omega) (by omega)).mpr (fun j a b => h.2 j (by omega) b))
  have h3 : zshl 1 24 = 16777216 := by decide +kernel
  omega
/-- without one -/
def zdrop (X w : Int) : Int := zand X (zxor (zshl 1 w) (-1))
theorem zdrop_b {X w j : Int} (w0 : 0 ≤ w ∧ w < 32) (j0 : 0 ≤ j ∧ j < 32) : zbit (zdrop X w) j ↔ zbit X j ∧ j ≠ w := by
  unfold zdrop
  rw [zb_and, zb_not j0.1 j0.2, zb_shl w0.1 w0.2 j0.1 j0.2]
theorem zdrop_set {p X w : Int} (h : zset p X) (p0 : 0 ≤ p) (w0 : 0 ≤ w ∧ w < 32) : zset p (zdrop X w) := by
  refine ⟨zIn_of _, fun j a b z => ?_⟩
  exact h.2 j a b ((zdrop_b w0 ⟨by omega, b⟩).mp z).1
theorem zpop_drop {X w : Int} (h : zmem X w) : zpop (zdrop X w) = zpop X - 1 := by
  unfold zpop
  have hw24 : 0 ≤ w ∧ w < 24 := h.1
  have hb := (zb_and1 (x := X) (i := w) h.1.1 (by omega)).1 h.2
  have h1 := zps_1 (g := fun i => zand (zushr X i) 1) (g' := fun i => if i = w then 0 else zand (zushr X i) 1) (w := w) (n := 24) (by omega) (fun j hj => by show (if j = w then _ else _) = _; rw [if_neg hj])
  have h2 : zps (fun i => if i = w then 0 else zand (zushr X i) 1) 24 = zps (fun i => zand (zushr X i) 1) 24 - 1 := by
    rw [h1]
    show _ + ((if w = w then (0 : Int) else _) - zand (zushr X w) 1) = _
    rw [if_pos rfl, hb]
    omega
  rw [← h2]
  refine zps_cg (fun j j0 j1 => ?_)
  have ha := zb_and1 (x := zdrop X w) j0 (by omega)
  have hb := zb_and1 (x := X) j0 (by omega)
  have ho := zdrop_b (X := X) (w := w) (j := j) (by have := h.1; omega) (by omega)
  show zand (zushr (zdrop X w) j) 1 = if j = w then 0 else zand (zushr X j) 1
  by_cases e : j = w
  · rw [if_pos e, ha.2 (fun z => (ho.mp z).2 e)]
  · rw [if_neg e]
    by_cases z : zbit X j
    · rw [ha.1 (ho.mpr ⟨z, e⟩), hb.1 z]
    · rw [ha.2 (fun y => z (ho.mp y).1), hb.2 z]
theorem zpop_ex {X : Int} (h : 1 ≤ zpop X) : ∃ w, zmem X w := by
  by_cases c : ∃ w, zmem X w
  · exact c
  · have : zpop X = zps (fun _ => 0) 24 := zps_cg (fun i a b => (zb_and1 (x := X) a (by omega)).2 (fun z => c ⟨i, ⟨a, by omega⟩, z⟩))
    have h2 : zps (fun _ => 0) 24 = 0 := rfl
    omega
theorem zpop_mem {X w : Int} (h : zmem X w) : 1 ≤ zpop X := by
  have h1 := zpop_drop h
  have h2 := zpop_b (x := zdrop X w)
  omega
/-- what an election is about -/
abbrev zED : Type := Int × Int × (Int → Int) × (Int → Int) × (Int → Int)
def zD1 (D : zED) : Int := D.1
def zD2 (D : zED) : Int := D.2.1
def zDo (D : zED) : Int → Int := D.2.2.1
def zDz (D : zED) : Int → Int := D.2.2.2.1
def zDb (D : zED) : Int → Int := D.2.2.2.2
def zrow (D : zED) (v : Int) : Int → Int := fun i => (zDo D) (24 * v + i)
def zrok (D : zED) (v : Int) : Prop := (0 ≤ v ∧ v < 24) ∧ (-1 ≤ (zDz D) v ∧ (zDz D) v ≤ 24) ∧ zin2 24 (zrow D v) ((zDz D) v)
noncomputable def zcv (D : zED) (v X : Int) : Int := Classical.choose (zfi_ex (zrow D v) ((zDz D) v) (zmem X))
theorem zcv_fi {D : zED} {v X : Int} : zfi (zrow D v) ((zDz D) v) (zmem X) (zcv D v X) := Classical.choose_spec (zfi_ex (zrow D v) ((zDz D) v) (zmem X))
theorem zcv_m {D : zED} {v X : Int} : zcv D v X = -1 ∨ zmem X (zcv D v X) := by
  rcases zcv_fi (D := D) (v := v) (X := X) with ⟨e, _⟩ | ⟨j, a, b, c, d⟩
  · exact Or.inl e
  · exact Or.inr (by rw [c]; exact b)
noncomputable def ztl1 (D : zED) (X w v : Int) : Int := zif2 (zbit (zD1 D) v ∧ zcv D v X = w) 1 0
noncomputable def zgv1 (D : zED) (X v : Int) : Int := zif2 (zbit (zD1 D) v ∧ zcv D v X ≠ -1) 1 0
noncomputable def ztal (D : zED) (X w : Int) : Int := zps (ztl1 D X w) 24
noncomputable def zgiv (D : zED) (X : Int) : Int := zps (zgv1 D X) 24
theorem zif2_b {p : Prop} : 0 ≤ zif2 p 1 0 ∧ zif2 p 1 0 ≤ 1 := by
  by_cases h : p
  · rw [zif2_y h]; omega
  · rw [zif2_n h]; omega
theorem ztal_b {D : zED} {X w : Int} {n : Nat} : 0 ≤ zps (ztl1 D X w) n ∧ zps (ztl1 D X w) n ≤ n := by
  have := zps_b (g := ztl1 D X w) (B := 1) (n := n) (fun i _ _ => zif2_b)
  omega
theorem zgiv_b {D : zED} {X : Int} {n : Nat} : 0 ≤ zps (zgv1 D X) n ∧ zps (zgv1 D X) n ≤ n := by
  have := zps_b (g := zgv1 D X) (B := 1) (n := n) (fun i _ _ => zif2_b)
  omega
def zMaj (D : zED) (X w : Int) : Prop := zmem X w ∧ (zpop X = 1 ∨ zgiv D X < 2 * ztal D X w)
def zeld (D : zED) (X w : Int) : Prop := zmem X w ∧ ∀ v, zmem X v → (zDb D) w ≤ (zDb D) v ∧ (v < w → (zDb D) w < (zDb D) v)
def zlst (D : zED) (X w : Int) : Prop := zmem X w ∧ ∀ v, zmem X v → ztal D X w < ztal D X v ∨ (ztal D X w = ztal D X v ∧ ((zDb D) v < (zDb D) w ∨ ((zDb D) v = (zDb D) w ∧ v ≤ w)))
def zDec (D : zED) (X w : Int) : Prop := ((zD2 D) ≠ -1 ∧ zcv D (zD2 D) X ≠ -1 ∧ w = zcv D (zD2 D) X) ∨ (((zD2 D) = -1 ∨ zcv D (zD2 D) X = -1) ∧ zeld D X w)
def zRw (D : zED) (X w : Int) : Prop := (zMaj D X w ∧ ∀ v, v < w → ¬ zMaj D X v) ∨ ((∀ v, ¬ zMaj D X v) ∧ zpop X = 2 ∧ zDec D X w)
def zRl (D : zED) (X w : Int) : Prop := (∀ v, ¬ zMaj D X v) ∧ zpop X ≠ 2 ∧ zlst D X w
theorem zeld_one {D : zED} {X w w' : Int} (h : zeld D X w) (h' : zeld D X w') : w = w' := by
  have a := h.2 w' h'.1
  have b := h'.2 w h.1
  by_cases x : w < w'
  · have := b.2 x; omega
  · by_cases y : w' < w
    · have := a.2 y; omega
    · omega
theorem zlst_one {D : zED} {X w w' : Int} (h : zlst D X w) (h' : zlst D X w') : w = w' := by
  have a := h.2 w' h'.1
  have b := h'.2 w h.1
  omega
theorem zDec_one {D : zED} {X w w' : Int} (h : zDec D X w) (h' : zDec D X w') : w = w' := by
  rcases h with ⟨a, b, c⟩ | ⟨a, b⟩ <;> rcases h' with ⟨a', b', c'⟩ | ⟨a', b'⟩
  · omega
  · exact (a'.elim a b).elim
  · exact (a.elim a' b').elim
  · exact zeld_one b b'
theorem zRw_one {D : zED} {X w w' : Int} (h : zRw D X w) (h' : zRw D X w') : w = w' := by
  rcases h with ⟨a, b⟩ | ⟨a, b, c⟩ <;> rcases h' with ⟨a', b'⟩ | ⟨a', b', c'⟩
  · by_cases x : w < w'
    · exact absurd a (b' w x)
    · by_cases y : w' < w
      · exact absurd a' (b w' y)
      · omega
  · exact absurd a (a' w)
  · exact absurd a' (a w')
  · exact zDec_one c c'
theorem zRwl {D : zED} {X w l : Int} (h : zRw D X w) (h' : zRl D X l) : False := by
  rcases h with ⟨a, b⟩ | ⟨a, b, c⟩
  · exact h'.1 w a
  · exact h'.2.1 b
theorem zRw_m {D : zED} {X w : Int} (h : zRw D X w) : zmem X w := by
  rcases h with ⟨a, b⟩ | ⟨a, b, c⟩
  · exact a.1
  · rcases c with ⟨a, b, c⟩ | ⟨a, b⟩
    · rcases zcv_m (D := D) (v := (zD2 D)) (X := X) with e | e
      · exact absurd e b
      · rw [c]; exact e
    · exact b.1
/-- the class's state is about D -/
def zhD (D : zED) (s : zS) : Prop := s 65 8 = (zD1 D) ∧ s 65 9 = (zD2 D) ∧ s 63 = (zDo D) ∧ s 64 = (zDz D) ∧ s 23 = (zDb D) ∧ s 62 0 = 24
def zokD (D : zED) : Prop := (∀ v, 0 ≤ v → v < 24 → zbit (zD1 D) v → zrok D v) ∧ ((zD2 D) ≠ -1 → zrok D (zD2 D))
theorem zhD_fr {D : zED} {s t : zS} {W : zPl} (f : zfr W t s) (hd : zdj [(65, some 8), (65, some 9), (63, none), (64, none), (23, none), (62, some 0)] W = true) (h : zhD D s) : zhD D t := by
  have e := zfr_sm f hd
  unfold zhD at h ⊢
  rw [zsm_at e 65 8 rfl, zsm_at e 65 9 rfl, zsm_row e 63 rfl, zsm_row e 64 rfl, zsm_row e 23 rfl, zsm_at e 62 0 rfl]
  exact h
section E2
variable {G : zG} {σ : zS} {Q : Int → zS → Prop}
theorem zn1_iff {X w : Int} (h : 0 ≤ w ∧ w < 32) : zand (zushr X w) 1 ≠ 0 ↔ zbit X w := by
  have hb := zb_and1 (x := X) h.1 h.2
  by_cases z : zbit X w
  · rw [hb.1 z]; exact ⟨fun _ => z, fun _ => by decide⟩
  · rw [hb.2 z]; exact ⟨fun y => absurd rfl y, fun y => absurd y z⟩
/-- the first of a choice that stands in a set -/
theorem okX1_firstOf {t to tz tn : Nat} {w lim X : Int} (ht : zsh t = (4, 1, [none, some to, some tz])) (hto : zsh to = (0, tn, [])) (htz : zsh tz = (0, 24, [])) (hl : σ t 0 = lim) (hlim : 0 ≤ lim ∧ lim ≤ 24) (htn : (tn : Int) = 24 * lim) (hw : 0 ≤ w ∧ w < 24) (hn : -1 ≤ σ tz w ∧ σ tz w ≤ lim)
    (hin : zin2 lim (fun i => σ to (lim * w + i)) (σ tz w)) (kq : ∀ r, zfi (fun i => σ to (lim * w + i)) (σ tz w) (zmem X) r → Q r σ) : zO G MX1_firstOf [zr t, zi w, zi X] σ Q := by
  refine TX1_firstOf ht hto htz ?_
  have hlw : 0 ≤ lim * w ∧ lim * w ≤ 24 * 23 := by
    have := zmul_b (a := lim) (b := w) (A := 24) (B := 23) hlim.1 hlim.2 hw.1 (by omega)
    omega
  have hlw2 : lim * w + lim ≤ 24 * lim := by
    have h1 : lim * w ≤ lim * 23 := Int.mul_le_mul_of_nonneg_left (by omega) hlim.1
    omega
  have loop : ∀ (n : Nat) (i : Int), (24 - i).toNat = n → 0 ≤ i → i ≤ 24 → (∀ j, 0 ≤ j → j < i → j < σ tz w → ¬ zmem X (σ to (lim * w + j))) → zR G MX1_firstOf 2 [zr t, zi w, zi X, zi i, zu] [] σ Q := by
    intro n
    induction n with
    | zero =>
      intro i hm i0 i1 h
      apply TX1_firstOf_2 ht hto htz <;> (try (intros; omega))
      intro _
      exact kq (-1) (Or.inl ⟨rfl, fun j a b => h j a (by omega) b⟩)
    | succ n ih =>
      intro i hm i0 i1 h
      by_cases c : i < σ tz w
      · have hx : 0 ≤ σ to (lim * w + i) ∧ σ to (lim * w + i) < lim := hin i i0 c
        apply TX1_firstOf_2 ht hto htz <;> (try rw [hl]) <;> (try (intros; omega))
        · intro _ h0
          refine ih (i + 1) (by omega) (by omega) (by omega) (fun j a b d => ?_)
          by_cases e : j = i
          · rw [e]
            exact fun z => absurd h0 ((zn1_iff (by omega)).mpr z.2)
          · exact h j a (by omega) d
        · intro _ h0
          exact kq _ (Or.inr ⟨i, ⟨i0, c⟩, (show zmem X (σ to (lim * w + i)) from ⟨⟨hx.1, by omega⟩, (zn1_iff (by omega)).mp h0⟩), rfl, fun j a b => h j a b (by omega)⟩)
      · apply TX1_firstOf_2 ht hto htz <;> (try (intros; omega))
        intro _
        exact kq (-1) (Or.inl ⟨rfl, fun j a b => h j a (by omega) b⟩)
  exact loop _ 0 rfl (by omega) (by omega) (fun j a b => by omega)
/-- of the cast of the election -/
theorem okX1_cast {D : zED} {v X : Int} (hD : zhD D σ) (hv : zrok D v) (kq : Q (zcv D v X) σ) : zO G MX1_firstOf [zr 62, zi v, zi X] σ Q := by
  obtain ⟨_, _, h3, h4, _, h6⟩ := hD
  refine okX1_firstOf (lim := 24) (tn := 576) (by decide +kernel : zsh 62 = (4, 1, [none, some 63, some 64])) (by decide +kernel) (by decide +kernel) h6 (by omega) (by omega) hv.1 (by rw [h4]; exact hv.2.1) (by rw [h4, h3]; exact hv.2.2) (fun r hr => ?_)
  rw [h4, h3] at hr
  rw [zfi_one (show zfi (zrow D v) ((zDz D) v) (zmem X) r from hr) zcv_fi]
  exact kq
theorem okX2_countVotes {D : zED} {X : Int} (hD : zhD D σ) (hok : zokD D) (kq : ∀ s : zS, zfr [(67, none)] s σ → (∀ w, 0 ≤ w → w < 24 → s 67 w = ztal D X w) → Q (zgiv D X) s) : zO G MX2_countVotes [zr 65, zi X] σ Q := by
  refine TX2_countVotes (okFillI rfl (by decide) (TX2_countVotes_8 ?_))
  have loop : ∀ (n : Nat) (i : Int) (s : zS), (24 - i).toNat = n → 0 ≤ i → i ≤ 24 → zfr [(67, none)] s σ → (∀ w, 0 ≤ w → w < 24 → s 67 w = zps (ztl1 D X w) i.toNat) → zR G MX2_countVotes 12 [zr 65, zi X, zi (zps (zgv1 D X) i.toNat), zi i, zu] [] s Q := by
    intro n
    induction n with
    | zero =>
      intro i s hm i0 i1 hf h
      have : i = 24 := by omega
      subst this
      apply TX2_countVotes_12 <;> (try (intros; omega))
      intro _
      exact kq s hf h
    | succ n ih =>
      intro i s hm i0 i1 hf h
      have hDs : zhD D s := zhD_fr hf rfl hD
      have e8 : s 65 8 = (zD1 D) := hDs.1
      have hg := zgiv_b (D := D) (X := X) (n := i.toNat)
      have hgs := zps_s (g := zgv1 D X) i0
      by_cases c : zbit (zD1 D) i
      · have h1 : zand (zushr (zD1 D) i) 1 ≠ 0 := (zn1_iff (by omega)).mpr c
        apply TX2_countVotes_12 <;> (try rw [e8]) <;> (try (intros; omega))
        intro _ _
        refine okX1_cast hDs (hok.1 i i0 (by omega) c) ?_
        by_cases d : zcv D i X = -1
        · have e0 : zgv1 D X i = 0 := zif2_n (fun z => z.2 d)
          rw [e0] at hgs
          apply TX2_countVotes_38 <;> (try (intros; omega))
          intro _
          rw [show zps (zgv1 D X) i.toNat = zps (zgv1 D X) (i + 1).toNat from by omega]
          refine ih (i + 1) s (by omega) (by omega) (by omega) hf (fun w w0 w1 => ?_)
          rw [h w w0 w1, zps_s (g := ztl1 D X w) i0, show ztl1 D X w i = 0 from zif2_n (fun z => by have := z.2; omega)]
          omega
        · have hmm := (zcv_m (D := D) (v := i) (X := X)).resolve_left d
          have hr := hmm.1
          have e1 : zgv1 D X i = 1 := zif2_y ⟨c, d⟩
          rw [e1] at hgs
          have ht := ztal_b (D := D) (X := X) (w := zcv D i X) (n := i.toNat)
          have hts := h (zcv D i X) hr.1 hr.2
          apply TX2_countVotes_38 <;> (try rw [hts]) <;> (try (intros; omega))
          intro _
          rw [show zps (zgv1 D X) i.toNat + 1 = zps (zgv1 D X) (i + 1).toNat from by omega]
          refine ih (i + 1) _ (by omega) (by omega) (by omega) (zfr_uA rfl hf) (fun w w0 w1 => ?_)
          rw [zps_s (g := ztl1 D X w) i0, zup_at]
          by_cases e : w = zcv D i X
          · rw [if_pos e, ← e, show ztl1 D X w i = 1 from zif2_y ⟨c, e.symm⟩]
          · rw [if_neg e, h w w0 w1, show ztl1 D X w i = 0 from zif2_n (fun z => e z.2.symm)]
            omega
      · have h1 : zand (zushr (zD1 D) i) 1 = 0 := (zb_and1 i0 (by omega)).2 c
        have e0 : zgv1 D X i = 0 := zif2_n (fun z => c z.1)
        rw [e0] at hgs
        apply TX2_countVotes_12 <;> (try rw [e8]) <;> (try (intros; omega))
        intro _ _
        rw [show zps (zgv1 D X) i.toNat = zps (zgv1 D X) (i + 1).toNat from by omega]
        refine ih (i + 1) s (by omega) (by omega) (by omega) hf (fun w w0 w1 => ?_)
        rw [h w w0 w1, zps_s (g := ztl1 D X w) i0, show ztl1 D X w i = 0 from zif2_n (fun z => c z.1)]
        omega
  refine loop _ 0 _ rfl (by omega) (by omega) (zfr_fl rfl zfr_0) (fun w w0 w1 => ?_)
  unfold zfl
  rw [if_pos ⟨rfl, w0, w1⟩]
  rfl
theorem okX2_writeRound {X j : Int} (hj : 0 ≤ j ∧ j < 24) (kq : ∀ s : zS, zfr [(66, none)] s σ → (∀ i w, 0 ≤ i → 0 ≤ w → w < 24 → s 66 (24 * i + w) = zif2 (i = j) (zif2 (zbit X w) (σ 67 w) (-1)) (σ 66 (24 * i + w))) → Q 0 s) : zO G MX2_writeRound [zr 65, zi j, zi X] σ Q := by
  refine TX2_writeRound ?_
  have loop : ∀ (n : Nat) (k : Int) (s : zS), (24 - k).toNat = n → 0 ≤ k → k ≤ 24 → zfr [(66, none)] s σ → (∀ i w, 0 ≤ i → 0 ≤ w → w < 24 → s 66 (24 * i + w) = zif2 (i = j ∧ w < k) (zif2 (zbit X w) (σ 67 w) (-1)) (σ 66 (24 * i + w))) → zR G MX2_writeRound 2 [zr 65, zi j, zi X, zi k] [] s Q := by
    intro n
    induction n with
    | zero =>
      intro k s hm k0 k1 hf h
      apply TX2_writeRound_2 <;> (try (intros; omega))
      intro _
      refine kq s hf (fun i w i0 w0 w1 => ?_)
      rw [h i w i0 w0 w1]
      by_cases e : i = j
      · rw [zif2_y ⟨e, by omega⟩, zif2_y e]
      · rw [zif2_n (fun z => e z.1), zif2_n e]
    | succ n ih =>
      intro k s hm k0 k1 hf h
      have r67 : s 67 = σ 67 := zfr_row hf rfl
      have nxt : ∀ v, v = zif2 (zbit X k) (σ 67 k) (-1) → ∀ i w, 0 ≤ i → 0 ≤ w → w < 24 → (zup s 66 (24 * j + k) v) 66 (24 * i + w) = zif2 (i = j ∧ w < k + 1) (zif2 (zbit X w) (σ 67 w) (-1)) (σ 66 (24 * i + w)) := by
        intro v hv i w i0 w0 w1
        rw [zup_at]
        by_cases e : i = j ∧ w = k
        · rw [if_pos (by omega), zif2_y (p := i = j ∧ w < k + 1) ⟨e.1, by omega⟩, hv, e.2]
        · rw [if_neg (by omega), h i w i0 w0 w1]
          by_cases d : i = j ∧ w < k
          · rw [zif2_y d, zif2_y (p := i = j ∧ w < k + 1) ⟨d.1, by omega⟩]
          · rw [zif2_n d, zif2_n (p := i = j ∧ w < k + 1) (fun z => d ⟨z.1, by have := z.1; have := z.2; omega⟩)]
      by_cases c : zbit X k
      · have h1 := (zn1_iff (X := X) (w := k) (by omega)).mpr c
        apply TX2_writeRound_2 <;> (try rw [r67]) <;> (try (intros; omega))
        intro _ _
        exact ih (k + 1) _ (by omega) (by omega) (by omega) (zfr_uA rfl hf) (nxt _ (zif2_y c).symm)
      · have h1 := (zb_and1 (x := X) k0 (by omega)).2 c
        apply TX2_writeRound_2 <;> (try rw [r67]) <;> (try (intros; omega))
        intro _ _
        exact ih (k + 1) _ (by omega) (by omega) (by omega) (zfr_uA rfl hf) (nxt _ (zif2_n c).symm)
  refine loop _ 0 _ rfl (by omega) (by omega) zfr_0 (fun i w _ w0 _ => ?_)
  rw [zif2_n (fun z => by have := z.2; omega)]
end E2
