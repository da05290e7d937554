/-! CALLS: elect, the class -/
/-- some fellow's place is held by w who meets P: bits and counts -/
theorem zpop_hw {σ : zS} {b : Int} {P : Int → Prop} (hM : zpla σ) (h : ∀ w, 0 ≤ w → w < 24 → (zbit b w ↔ zhol σ 1 w ∧ P w)) : zpop b = zps (zhp σ (fun w => zif2 (P w) 1 0)) (σ 98 4).toNat := by
  have h0 := hM.1
  rw [← zre_ix hM (σ 98 4).toNat (by omega)]
  unfold zpop
  refine zps_cg (fun w w0 w1 => ?_)
  show zand (zushr b w) 1 = zhw σ _ _ w
  rw [show (((σ 98 4).toNat : Nat) : Int) = σ 98 4 from by omega]
  have hb := zb_and1 (x := b) w0 (by omega)
  have hw := h w w0 (by omega)
  by_cases c : zhol σ 1 w
  · rw [zhw_y ((zhdB_end w0).mpr c)]
    by_cases d : P w
    · rw [hb.1 (hw.mpr ⟨c, d⟩), zif2_y d]
    · rw [hb.2 (fun z => d (hw.mp z).2), zif2_n d]
  · rw [zhw_n (fun z => c ((zhdB_end w0).mp z)), hb.2 (fun z => c (hw.mp z).1)]
noncomputable def znv (σ : zS) : Int := zps (zhp σ (fun w => zif2 (σ 61 w ≠ -1) 1 0)) (σ 98 4).toNat
noncomputable def znf (σ : zS) : Int := zps (zhp σ (fun _ => zif2 True 1 0)) (σ 98 4).toNat
/-- the first officer -/
def zfo (σ : zS) (n r : Int) : Prop := (r = -1 ∧ ∀ p, 0 ≤ p → p < n → ¬ (σ 129 p = 2 ∧ σ 130 p ≠ -1)) ∨ ∃ p, (0 ≤ p ∧ p < n) ∧ (σ 129 p = 2 ∧ σ 130 p ≠ -1) ∧ r = σ 130 p ∧ ∀ q, 0 ≤ q → q < p → ¬ (σ 129 q = 2 ∧ σ 130 q ≠ -1)
theorem zfo_one {σ : zS} {n r r' : Int} (h : zfo σ n r) (h' : zfo σ n r') : r = r' := by
  rcases h with ⟨e, h⟩ | ⟨j, a, b, c, d⟩ <;> rcases h' with ⟨e', h'⟩ | ⟨j', a', b', c', d'⟩
  · omega
  · exact absurd b' (h j' a'.1 a'.2)
  · exact absurd b (h' j a.1 a.2)
  · have : j = j' := by
      by_cases x : j < j'
      · exact absurd b (d' j a.1 x)
      · by_cases y : j' < j
        · exact absurd b' (d j' a'.1 y)
        · omega
    rw [c, c', this]
section BG
variable {G : zG} {σ : zS} {Q : Int → zS → Prop}
theorem okX2_withBallots (hM : zpla σ) (hC : zplC σ) (kq : ∀ b, zset 24 b → (∀ w, 0 ≤ w → w < 24 → (zbit b w ↔ zhol σ 1 w ∧ σ 61 w ≠ -1)) → Q b σ) : zO G MX2_withBallots [zr 65] σ Q := by
  refine TX2_withBallots (okX6_holdersOf hM hC (fun b0 hb0 hw0 => TX2_withBallots_8 ?_))
  have hlt : ∀ w, zhol σ 1 w → w < 24 := by
    rintro w ⟨p, a, b, c⟩
    have := (hM.2.1 p a.1 a.2).2
    omega
  have loop : ∀ (n : Nat) (i v : Int), (24 - i).toNat = n → 0 ≤ i → i ≤ 24 → zIn v → (∀ w, 0 ≤ w → w < 32 → (zbit v w ↔ zhol σ 1 w ∧ (w < i → σ 61 w ≠ -1))) → zR G MX2_withBallots 11 [zr 65, zi v, zi i] [] σ Q := by
    intro n
    induction n with
    | zero =>
      intro i v hm i0 i1 hv h
      have : i = 24 := by omega
      subst this
      apply TX2_withBallots_11 <;> (try (intros; omega))
      intro _
      refine kq v ⟨hv, fun j a b z => ?_⟩ (fun w w0 w1 => ?_)
      · have := hlt j ((h j (by omega) b).mp z).1
        omega
      · rw [h w w0 (by omega)]
        exact ⟨fun z => ⟨z.1, z.2 w1⟩, fun z => ⟨z.1, fun _ => z.2⟩⟩
    | succ n ih =>
      intro i v hm i0 i1 hv h
      by_cases c : σ 61 i ≠ -1
      · apply TX2_withBallots_11 <;> (try (intros; omega))
        intro _ _
        refine ih (i + 1) v (by omega) (by omega) (by omega) hv (fun w w0 w1 => ?_)
        rw [h w w0 w1]
        constructor
        · rintro ⟨a, b⟩
          refine ⟨a, fun z => ?_⟩
          by_cases e : w = i
          · rw [e]; exact c
          · exact b (by omega)
        · exact fun z => ⟨z.1, fun y => z.2 (by omega)⟩
      · apply TX2_withBallots_11 <;> (try (intros; omega))
        intro _ _
        refine ih (i + 1) _ (by omega) (by omega) (by omega) (zIn_of _) (fun w w0 w1 => ?_)
        show zbit (zdrop v i) w ↔ _
        rw [zdrop_b (by omega) ⟨w0, w1⟩, h w w0 w1]
        constructor
        · rintro ⟨⟨a, b⟩, e⟩
          exact ⟨a, fun z => b (by omega)⟩
        · rintro ⟨a, b⟩
          refine ⟨⟨a, fun z => b (by omega)⟩, fun e => ?_⟩
          rw [e] at b
          exact c (b (by omega))
  refine loop _ 0 b0 rfl (by omega) (by omega) hb0 (fun w w0 w1 => ?_)
  rw [hw0 w w0 w1]
  exact ⟨fun z => ⟨z, fun y => by omega⟩, fun z => z.1⟩
theorem okX2_firstOfficer (hM : zpla σ) (hC : zplC σ) (kq : ∀ r, zfo σ (σ 98 4) r → Q r σ) : zO G MX2_firstOfficer [zr 65] σ Q := by
  have h0 := hM.1
  have hc := hC.1
  refine TX2_firstOfficer ?_
  have loop : ∀ (n : Nat) (i : Int), (σ 98 4 - i).toNat = n → 0 ≤ i → i ≤ σ 98 4 → (∀ q, 0 ≤ q → q < i → ¬ (σ 129 q = 2 ∧ σ 130 q ≠ -1)) → zR G MX2_firstOfficer 2 [zr 65, zi i] [] σ Q := by
    intro n
    induction n with
    | zero =>
      intro i hm i0 i1 h
      have : i = σ 98 4 := by omega
      subst this
      apply TX2_firstOfficer_2 <;> (try rw [hc]) <;> (try (intros; omega))
      intro _
      exact kq (-1) (Or.inl ⟨rfl, h⟩)
    | succ n ih =>
      intro i hm i0 i1 h
      have hC2 := hC.2 i i0 (by omega)
      have ek := hC2.1
      have eh := hC2.2.1
      by_cases c : σ 129 i = 2 ∧ σ 130 i ≠ -1
      · apply TX2_firstOfficer_2 <;> (try rw [hc]) <;> (try rw [ek]) <;> (try rw [eh]) <;> (try (intros; omega))
        intro _ _ _
        exact kq _ (Or.inr ⟨i, by omega, c, rfl, h⟩)
      · apply TX2_firstOfficer_2 <;> (try rw [hc]) <;> (try rw [ek]) <;> (try rw [eh]) <;> (try (intros; omega))
        intro _ _
        refine ih (i + 1) (by omega) (by omega) (by omega) (fun q q0 q1 => ?_)
        by_cases e : q = i
        · rw [e]; exact c
        · exact h q q0 (by omega)
  exact loop _ 0 rfl (by omega) (by omega) (fun q a b => by omega)
/-- they may all take it -/
def zP1 (σ : zS) (l : List Int) (d kd X : Int) : Prop := ∀ w, 0 ≤ w → w < σ 98 1 → zbit X w → ¬ zhol σ kd w ∧ zcan σ l d w kd
def zP2 (σ : zS) : Prop := 1 ≤ znv σ ∧ znf σ ≤ 2 * znv σ
theorem zhol_sc {s : zS} (f : zfr zWs s σ) : zhol s = zhol σ := by
  unfold zhol
  rw [zfr_at (q := 98) (j := 4) f rfl, zfr_row (q := 129) f rfl, zfr_row (q := 130) f rfl]
theorem zhp_sc {s : zS} {W : zPl} (f : zfr W s σ) (hd : zdj [(129, none), (130, none)] W = true) : zhp s = zhp σ := by
  have e := zfr_sm f hd
  unfold zhp zfel
  rw [zsm_row e 129 rfl, zsm_row e 130 rfl]
theorem zP2_sc {s : zS} (f : zfr zWs s σ) : zP2 s ↔ zP2 σ := by
  unfold zP2 znv znf
  rw [zhp_sc f rfl, zfr_row (q := 61) f rfl, zfr_at (q := 98) (j := 4) f rfl]
theorem okX2_canBe {l : List Int} {kd X d : Int} (hi : zinv σ) (hM : zturM σ l) (hC : zturC σ l) (hkd : 0 ≤ kd ∧ kd < 4) (hne : X ≠ 0) (kq : ∀ (s : zS) (r : Int), zfr zWs s σ → ((r = 1 ∧ zP1 σ l d kd X ∧ zP2 σ) ∨ (r = 0 ∧ ¬ (zP1 σ l d kd X ∧ zP2 σ))) → Q r s) : zO G MX2_canBe [zr 65, zi kd, zi X, zi d] σ Q := by
  have hp := g_zppl hi
  have hn := hp.1
  apply TX2_canBe <;> (try (intros; omega))
  intro _
  have loop : ∀ (n : Nat) (i : Int) (s : zS), (σ 98 1 - i).toNat = n → 0 ≤ i → i ≤ σ 98 1 → zfr zWs s σ → (∀ w, 0 ≤ w → w < i → zbit X w → ¬ zhol σ kd w ∧ zcan σ l d w kd) → zR G MX2_canBe 9 [zr 65, zi kd, zi X, zi d, zi i] [] s Q := by
    intro n
    induction n with
    | zero =>
      intro i s hm i0 i1 hf h
      have : i = σ 98 1 := by omega
      subst this
      have his := zinv_sc hf hi
      have qc : s 22 12 = σ 98 1 := by rw [zfr_at hf rfl]; exact hp.2.1
      have hP : zP1 σ l d kd X := h
      apply TX2_canBe_9 <;> (try rw [qc]) <;> (try (intros; omega))
      intro _
      refine okX2_withBallots (g_zpla his) (g_zplC his) (fun b hb hw => TX2_canBe_56 (okJ6_bitCount (zset_b hb (by omega) (by omega)) ?_))
      have e1 : zpop b = znv s := zpop_hw (g_zpla his) hw
      have hvb := zpop_b (x := b)
      rw [e1] at hvb
      rw [e1]
      have e2 := zP2_sc hf
      by_cases c : 1 ≤ znv s
      · apply TX2_canBe_59 <;> (try (intros; omega))
        intro _
        refine okX6_holdersOf (g_zpla his) (g_zplC his) (fun b2 hb2 hw2 => TX2_canBe_79 (okJ6_bitCount ?_ ?_))
        · refine zset_b (p := 24) ⟨hb2, fun j a b' z => ?_⟩ (by omega) (by omega)
          obtain ⟨p, p0, p1, p2⟩ := (hw2 j (by omega) b').mp z
          have := ((g_zpla his).2.1 p p0.1 p0.2).2
          omega
        · have e3 : zpop b2 = znf s := zpop_hw (P := fun _ => True) (g_zpla his) (fun w w0 w1 => by rw [hw2 w w0 (by omega)]; exact ⟨fun z => ⟨z, trivial⟩, fun z => z.1⟩)
          rw [e3]
          by_cases c2 : znf s ≤ 2 * znv s
          · apply TX2_canBe_82 <;> (try (intros; omega))
            intro _
            exact kq s 1 hf (Or.inl ⟨rfl, hP, e2.mp ⟨c, c2⟩⟩)
          · apply TX2_canBe_82 <;> (try (intros; omega))
            intro _
            exact kq s 0 hf (Or.inr ⟨rfl, fun z => c2 (e2.mpr z.2).2⟩)
      · apply TX2_canBe_59 <;> (try (intros; omega))
        intro _
        exact kq s 0 hf (Or.inr ⟨rfl, fun z => c (e2.mpr z.2).1⟩)
    | succ n ih =>
      intro i s hm i0 i1 hf h
      have his := zinv_sc hf hi
      have qc : s 22 12 = σ 98 1 := by rw [zfr_at hf rfl]; exact hp.2.1
      have qp : s 98 1 = σ 98 1 := zfr_at hf rfl
      have hl : zlaws s l := zlaws_ke (zfr_sm hf rfl) (zlaws_of hi hM hC)
      by_cases c : zbit X i
      · have h1 := (zn1_iff (X := X) (w := i) (by omega)).mpr c
        apply TX2_canBe_9 <;> (try rw [qc]) <;> (try (intros; omega))
        intro _ _
        refine okC_take hl (g_zpla his) (g_zplC his) (by omega) hkd (fun s1 r f1 hr => ?_)
        have f2 : zfr zWs s1 σ := zfr_tr hf f1
        rw [zhol_sc hf] at hr
        have hcs := zcan_sm (l := l) (d := d) (w := i) (kd := kd) (zsc_D hf)
        rcases hr with ⟨rfl, h2, h3⟩ | ⟨rfl, h2⟩
        · apply TX2_canBe_41 <;> (try (intros; omega))
          intro _
          refine ih (i + 1) s1 (by omega) (by omega) (by omega) f2 (fun w w0 w1 hb => ?_)
          by_cases e : w = i
          · rw [e]; exact ⟨h2, hcs.mp h3⟩
          · exact h w w0 (by omega) hb
        · apply TX2_canBe_41 <;> (try (intros; omega))
          intro _
          refine kq s1 0 f2 (Or.inr ⟨rfl, fun z => ?_⟩)
          have := z.1 i i0 (by omega) c
          exact h2 ⟨this.1, hcs.mpr this.2⟩
      · have h1 := (zb_and1 (x := X) i0 (by omega)).2 c
        apply TX2_canBe_9 <;> (try rw [qc]) <;> (try (intros; omega))
        intro _ _
        refine ih (i + 1) s (by omega) (by omega) (by omega) hf (fun w w0 w1 hb => ?_)
        by_cases e : w = i
        · rw [e] at hb; exact absurd hb c
        · exact h w w0 (by omega) hb
  exact loop _ 0 σ rfl (by omega) (by omega) zfr_0 (fun w a b => by omega)
end BG
