/-! CALLS: elections, rounds of the class -/
section E3
variable {G : zG} {σ : zS} {Q : Int → zS → Prop} {D : zED}
theorem okX2_decide {X : Int} (hD : zhD D σ) (hok : zokD D) (hX : ∃ w, zmem X w) (kq : ∀ w, zDec D X w → Q w σ) : zO G MX2_decide [zr 65, zi X] σ Q := by
  have e9 : σ 65 9 = zD2 D := hD.2.1
  have e23 : σ 23 = zDb D := hD.2.2.2.2.1
  have tail : ∀ v2, ((zD2 D) = -1 ∨ zcv D (zD2 D) X = -1) → zR G MX2_decide 37 [zr 65, zi X, zi v2, zi (-1), zi 0] [] σ Q := by
    intro v2 hn
    have loop : ∀ (n : Nat) (i e : Int), (24 - i).toNat = n → 0 ≤ i → i ≤ 24 → ((e = -1 ∧ ∀ v, v < i → ¬ zmem X v) ∨ (zmem X e ∧ e < i ∧ ∀ v, v < i → zmem X v → (zDb D) e ≤ (zDb D) v ∧ (v < e → (zDb D) e < (zDb D) v))) → zR G MX2_decide 37 [zr 65, zi X, zi v2, zi e, zi i] [] σ Q := by
      intro n
      induction n with
      | zero =>
        intro i e hm i0 i1 h
        have : i = 24 := by omega
        subst this
        apply TX2_decide_37 <;> (try (intros; omega))
        intro _
        refine kq e (Or.inr ⟨hn, ?_⟩)
        rcases h with ⟨_, h⟩ | ⟨a, b, c⟩
        · obtain ⟨w, hw⟩ := hX
          exact absurd hw (h w hw.1.2)
        · exact ⟨a, fun v hv => c v hv.1.2 hv⟩
      | succ n ih =>
        intro i e hm i0 i1 h
        by_cases c : zbit X i
        · have h1 := (zn1_iff (X := X) (w := i) (by omega)).mpr c
          have hmi : zmem X i := ⟨⟨i0, by omega⟩, c⟩
          rcases h with ⟨he, h⟩ | ⟨a, b, h⟩
          · apply TX2_decide_37 <;> (try rw [e23]) <;> (try (intros; omega))
            intro _ _ _
            refine ih (i + 1) i (by omega) (by omega) (by omega) (Or.inr ⟨hmi, by omega, fun v hv hm' => ?_⟩)
            by_cases z : v < i
            · exact absurd hm' (h v z)
            · have : v = i := by omega
              rw [this]
              exact ⟨Int.le_refl _, fun y => by omega⟩
          · have ha : 0 ≤ e ∧ e < 24 := a.1
            by_cases d : (zDb D) i < (zDb D) e
            · apply TX2_decide_37 <;> (try rw [e23]) <;> (try (intros; omega))
              intro _ _ _
              refine ih (i + 1) i (by omega) (by omega) (by omega) (Or.inr ⟨hmi, by omega, fun v hv hm' => ?_⟩)
              by_cases z : v < i
              · have := h v z hm'
                omega
              · have : v = i := by omega
                rw [this]
                exact ⟨Int.le_refl _, fun y => by omega⟩
            · apply TX2_decide_37 <;> (try rw [e23]) <;> (try (intros; omega))
              intro _ _
              refine ih (i + 1) e (by omega) (by omega) (by omega) (Or.inr ⟨a, by omega, fun v hv hm' => ?_⟩)
              by_cases z : v < i
              · exact h v z hm'
              · have : v = i := by omega
                rw [this]
                exact ⟨by omega, fun y => by omega⟩
        · have h1 := (zb_and1 (x := X) i0 (by omega)).2 c
          apply TX2_decide_37 <;> (try (intros; omega))
          intro _ _
          refine ih (i + 1) e (by omega) (by omega) (by omega) ?_
          rcases h with ⟨he, h⟩ | ⟨a, b, h⟩
          · refine Or.inl ⟨he, fun v hv z => ?_⟩
            by_cases y : v = i
            · rw [y] at z; exact c z.2
            · exact h v (by omega) z
          · refine Or.inr ⟨a, by omega, fun v hv z => ?_⟩
            by_cases y : v = i
            · rw [y] at z; exact absurd z.2 c
            · exact h v (by omega) z
    exact loop _ 0 (-1) rfl (by omega) (by omega) (Or.inl ⟨rfl, fun v hv z => by have : 0 ≤ v ∧ v < 24 := z.1; omega⟩)
  by_cases hd : zD2 D = -1
  · apply TX2_decide <;> (try rw [e9]) <;> (try (intros; omega))
    intro _
    exact tail _ (Or.inl hd)
  · apply TX2_decide <;> (try rw [e9]) <;> (try (intros; omega))
    intro _
    refine okX1_cast hD (hok.2 hd) ?_
    by_cases c : zcv D (zD2 D) X = -1
    · apply TX2_decide_24 <;> (try (intros; omega))
      intro _
      exact tail _ (Or.inr c)
    · apply TX2_decide_24 <;> (try (intros; omega))
      intro _
      exact kq _ (Or.inl ⟨hd, c, rfl⟩)
theorem okX2_winnerOf {X : Int} (hD : zhD D σ) (hok : zokD D) (hX : 0 ≤ X ∧ X < 16777216) (ht : ∀ w, 0 ≤ w → w < 24 → σ 67 w = ztal D X w) (kq : ∀ w, (w ≠ -1 ∧ zRw D X w) ∨ (w = -1 ∧ (∀ v, ¬ zMaj D X v) ∧ zpop X ≠ 2) → Q w σ) : zO G MX2_winnerOf [zr 65, zi X, zi (zgiv D X)] σ Q := by
  refine TX2_winnerOf (okJ6_bitCount hX (TX2_winnerOf_4 ?_))
  have loop : ∀ (n : Nat) (i : Int), (24 - i).toNat = n → 0 ≤ i → i ≤ 24 → (∀ v, v < i → ¬ zMaj D X v) → zR G MX2_winnerOf 8 [zr 65, zi X, zi (zgiv D X), zi (zpop X), zi i] [] σ Q := by
    intro n
    induction n with
    | zero =>
      intro i hm i0 i1 h
      have : i = 24 := by omega
      subst this
      have hno : ∀ v, ¬ zMaj D X v := by
        intro v z
        have hv : 0 ≤ v ∧ v < 24 := z.1.1
        exact h v hv.2 z
      by_cases c : zpop X = 2
      · apply TX2_winnerOf_8 <;> (try (intros; omega))
        intro _ _
        refine okX2_decide hD hok (zpop_ex (by omega)) (fun w hw => TX2_winnerOf_61 (kq w (Or.inl ⟨?_, Or.inr ⟨hno, c, hw⟩⟩)))
        have : zmem X w := zRw_m (D := D) (Or.inr ⟨hno, c, hw⟩)
        have h2 : 0 ≤ w ∧ w < 24 := this.1
        omega
      · apply TX2_winnerOf_8 <;> (try (intros; omega))
        intro _ _
        exact kq (-1) (Or.inr ⟨rfl, hno, c⟩)
    | succ n ih =>
      intro i hm i0 i1 h
      have e67 := ht i i0 (by omega)
      have hb := ztal_b (D := D) (X := X) (w := i) (n := 24)
      have hb' : 0 ≤ ztal D X i ∧ ztal D X i ≤ 24 := hb
      by_cases c : zbit X i
      · have h1 := (zn1_iff (X := X) (w := i) (by omega)).mpr c
        by_cases d : zpop X = 1 ∨ zgiv D X < 2 * ztal D X i
        · apply TX2_winnerOf_8 <;> (try rw [e67]) <;> (try (intros; omega))
          intro _ _ _
          exact kq i (Or.inl ⟨by omega, Or.inl ⟨⟨⟨⟨i0, by omega⟩, c⟩, d⟩, h⟩⟩)
        · apply TX2_winnerOf_8 <;> (try rw [e67]) <;> (try (intros; omega))
          intro _ _
          refine ih (i + 1) (by omega) (by omega) (by omega) (fun v hv z => ?_)
          by_cases y : v = i
          · rw [y] at z; exact d z.2
          · exact h v (by omega) z
      · have h1 := (zb_and1 (x := X) i0 (by omega)).2 c
        apply TX2_winnerOf_8 <;> (try rw [e67]) <;> (try (intros; omega))
        intro _ _
        refine ih (i + 1) (by omega) (by omega) (by omega) (fun v hv z => ?_)
        by_cases y : v = i
        · rw [y] at z; exact c z.1.2
        · exact h v (by omega) z
  refine loop _ 0 rfl (by omega) (by omega) (fun v hv z => ?_)
  have h2 : 0 ≤ v ∧ v < 24 := z.1.1
  omega
theorem okX2_leastOf {X : Int} (hD : zhD D σ) (hX : ∃ w, zmem X w) (ht : ∀ w, 0 ≤ w → w < 24 → σ 67 w = ztal D X w) (kq : ∀ w, zlst D X w → Q w σ) : zO G MX2_leastOf [zr 65, zi X] σ Q := by
  have e23 : σ 23 = zDb D := hD.2.2.2.2.1
  refine TX2_leastOf ?_
  have loop : ∀ (n : Nat) (i e : Int), (24 - i).toNat = n → 0 ≤ i → i ≤ 24 → ((e = -1 ∧ ∀ v, v < i → ¬ zmem X v) ∨ (zmem X e ∧ e < i ∧ ∀ v, v < i → zmem X v → ztal D X e < ztal D X v ∨ (ztal D X e = ztal D X v ∧ ((zDb D) v < (zDb D) e ∨ ((zDb D) v = (zDb D) e ∧ v ≤ e))))) → zR G MX2_leastOf 4 [zr 65, zi X, zi e, zi i] [] σ Q := by
    intro n
    induction n with
    | zero =>
      intro i e hm i0 i1 h
      have : i = 24 := by omega
      subst this
      apply TX2_leastOf_4 <;> (try (intros; omega))
      intro _
      rcases h with ⟨_, h⟩ | ⟨a, b, c⟩
      · obtain ⟨w, hw⟩ := hX
        exact absurd hw (h w hw.1.2)
      · have ha : 0 ≤ e ∧ e < 24 := a.1
        rw [show max e 0 = e from by omega]
        exact kq e ⟨a, fun v hv => c v hv.1.2 hv⟩
    | succ n ih =>
      intro i e hm i0 i1 h
      have e67 := ht i i0 (by omega)
      by_cases c : zbit X i
      · have h1 := (zn1_iff (X := X) (w := i) (by omega)).mpr c
        have hmi : zmem X i := ⟨⟨i0, by omega⟩, c⟩
        rcases h with ⟨he, h⟩ | ⟨a, b, h⟩
        · apply TX2_leastOf_4 <;> (try (intros; omega))
          intro _ _ _
          refine ih (i + 1) i (by omega) (by omega) (by omega) (Or.inr ⟨hmi, by omega, fun v hv hm' => ?_⟩)
          by_cases z : v < i
          · exact absurd hm' (h v z)
          · have : v = i := by omega
            rw [this]
            exact Or.inr ⟨rfl, Or.inr ⟨rfl, Int.le_refl _⟩⟩
        · have ha : 0 ≤ e ∧ e < 24 := a.1
          have e67e := ht e ha.1 ha.2
          by_cases d : ((zDb D) e ≤ (zDb D) i ∧ ztal D X i = ztal D X e) ∨ ztal D X i < ztal D X e
          · apply TX2_leastOf_4 <;> (try rw [e67]) <;> (try rw [e67e]) <;> (try rw [e23]) <;> (try (intros; omega))
            intro _ _ _
            refine ih (i + 1) i (by omega) (by omega) (by omega) (Or.inr ⟨hmi, by omega, fun v hv hm' => ?_⟩)
            by_cases z : v < i
            · have := h v z hm'
              omega
            · have : v = i := by omega
              rw [this]
              exact Or.inr ⟨rfl, Or.inr ⟨rfl, Int.le_refl _⟩⟩
          · apply TX2_leastOf_4 <;> (try rw [e67]) <;> (try rw [e67e]) <;> (try rw [e23]) <;> (try (intros; omega))
            intro _ _
            refine ih (i + 1) e (by omega) (by omega) (by omega) (Or.inr ⟨a, by omega, fun v hv hm' => ?_⟩)
            by_cases z : v < i
            · exact h v z hm'
            · have : v = i := by omega
              rw [this]
              omega
      · have h1 := (zb_and1 (x := X) i0 (by omega)).2 c
        apply TX2_leastOf_4 <;> (try (intros; omega))
        intro _ _
        refine ih (i + 1) e (by omega) (by omega) (by omega) ?_
        rcases h with ⟨he, h⟩ | ⟨a, b, h⟩
        · refine Or.inl ⟨he, fun v hv z => ?_⟩
          by_cases y : v = i
          · rw [y] at z; exact c z.2
          · exact h v (by omega) z
        · refine Or.inr ⟨a, by omega, fun v hv z => ?_⟩
          by_cases y : v = i
          · rw [y] at z; exact absurd z.2 c
          · exact h v (by omega) z
  exact loop _ 0 (-1) rfl (by omega) (by omega) (Or.inl ⟨rfl, fun v hv z => by have : 0 ≤ v ∧ v < 24 := z.1; omega⟩)
/-- the first j rounds, of a set X0 -/
def zpre (D : zED) (p X0 : Int) (Xs : Int → Int) (j : Int) : Prop := Xs 0 = X0 ∧ (∀ i, 0 ≤ i → i < j → ∃ l, zRl D (Xs i) l ∧ Xs (i + 1) = zdrop (Xs i) l) ∧ ∀ i, 0 ≤ i → i ≤ j → zset p (Xs i) ∧ 1 ≤ zpop (Xs i) ∧ zpop (Xs i) + i ≤ 24
def zrnd (D : zED) (p X0 : Int) (Xs : Int → Int) (n w : Int) : Prop := (1 ≤ n ∧ n ≤ 24) ∧ zpre D p X0 Xs (n - 1) ∧ zRw D (Xs (n - 1)) w
theorem zpre_s {p X0 j l : Int} {Xs : Int → Int} (h : zpre D p X0 Xs j) (j0 : 0 ≤ j) (p0 : 0 ≤ p ∧ p ≤ 24) (hl : zRl D (Xs j) l) : zpre D p X0 (fun i => if i = j + 1 then zdrop (Xs j) l else Xs i) (j + 1) := by
  obtain ⟨h1, h2, h3⟩ := h
  have hm : zmem (Xs j) l := hl.2.2.1
  have hl24 : 0 ≤ l ∧ l < 24 := hm.1
  have h3j := h3 j j0 (Int.le_refl _)
  refine ⟨?_, fun i i0 i1 => ?_, fun i i0 i1 => ?_⟩
  · show (if (0 : Int) = j + 1 then _ else Xs 0) = X0
    rw [if_neg (by omega), h1]
  · show ∃ l', zRl D (if i = j + 1 then _ else Xs i) l' ∧ (if i + 1 = j + 1 then _ else Xs (i + 1)) = zdrop (if i = j + 1 then _ else Xs i) l'
    rw [if_neg (by omega)]
    by_cases e : i = j
    · rw [e, if_pos rfl]
      exact ⟨l, hl, rfl⟩
    · rw [if_neg (by omega)]
      exact h2 i i0 (by omega)
  · show zset p (if i = j + 1 then _ else Xs i) ∧ 1 ≤ zpop (if i = j + 1 then _ else Xs i) ∧ zpop (if i = j + 1 then _ else Xs i) + i ≤ 24
    by_cases e : i = j + 1
    · rw [if_pos e, zpop_drop hm]
      refine ⟨zdrop_set h3j.1 p0.1 (by omega), ?_, by omega⟩
      have hne : zpop (Xs j) ≠ 1 := fun z => hl.1 l ⟨hm, Or.inl z⟩
      omega
    · rw [if_neg e]
      exact h3 i i0 (by omega)
theorem okX2_runRounds {p X0 v2 : Int} (hD : zhD D σ) (hok : zokD D) (p0 : 0 ≤ p ∧ p ≤ 24) (hX : zset p X0) (hX1 : 1 ≤ zpop X0)
    (kq : ∀ (Xs : Int → Int) (n w : Int) (s : zS), zrnd D p X0 Xs n w → zfr [(67, none), (66, none), (65, some 10)] s σ → (v2 = 0 → s 66 = σ 66 ∧ s 65 10 = σ 65 10) → (v2 ≠ 0 → s 65 10 = n ∧ ∀ i w, 0 ≤ i → i < n → 0 ≤ w → w < 24 → s 66 (24 * i + w) = zif2 (zbit (Xs i) w) (ztal D (Xs i) w) (-1)) → Q w s) : zO G MX2_runRounds [zr 65, zi X0, zi v2] σ Q := by
  refine TX2_runRounds ?_
  have loop : ∀ (n : Nat) (j : Int) (Xs : Int → Int) (s : zS), (24 - j).toNat = n → 0 ≤ j → zpre D p X0 Xs j → zfr [(67, none), (66, none)] s σ → (v2 = 0 → s 66 = σ 66) → (v2 ≠ 0 → ∀ i w, 0 ≤ i → i < j → 0 ≤ w → w < 24 → s 66 (24 * i + w) = zif2 (zbit (Xs i) w) (ztal D (Xs i) w) (-1)) → zR G MX2_runRounds 8 [zr 65, zi X0, zi v2, zi (Xs j), zi (-1), zi j, zu] [] s Q := by
    intro n
    induction n with
    | zero =>
      intro j Xs s hm j0 hp hf _ _
      have := hp.2.2 j j0 (Int.le_refl _)
      omega
    | succ n ih =>
      intro j Xs s hm j0 hp hf hv0 hv1
      have h3 := hp.2.2 j j0 (Int.le_refl _)
      have hb := zset_b h3.1 p0.1 p0.2
      have hDs : zhD D s := zhD_fr hf rfl hD
      -- behind the count and the writing
      have nxt : ∀ s1 : zS, zfr [(67, none), (66, none)] s1 σ → (∀ w, 0 ≤ w → w < 24 → s1 67 w = ztal D (Xs j) w) → (v2 = 0 → s1 66 = σ 66) → (v2 ≠ 0 → ∀ i w, 0 ≤ i → i < j + 1 → 0 ≤ w → w < 24 → s1 66 (24 * i + w) = zif2 (zbit (Xs i) w) (ztal D (Xs i) w) (-1)) →
          zO G MX2_winnerOf [zr 65, zi (Xs j), zi (zgiv D (Xs j))] s1 (fun rr σ' => zR G MX2_runRounds 49 [zr 65, zi X0, zi v2, zi (Xs j), zi (-1), zi (j + 1), zi (zgiv D (Xs j))] [zi rr] σ' Q) := by
        intro s1 f1 h67 w0 w1
        have hD1 : zhD D s1 := zhD_fr f1 rfl hD
        refine okX2_winnerOf hD1 hok hb h67 (fun w hw => ?_)
        rcases hw with ⟨hne, hw⟩ | ⟨rfl, hno, h2⟩
        · apply TX2_runRounds_49 <;> (try (intros; omega))
          intro _
          have hr : zrnd D p X0 Xs (j + 1) w := ⟨by omega, by rw [show j + 1 - 1 = j from by omega]; exact hp, by rw [show j + 1 - 1 = j from by omega]; exact hw⟩
          apply TX2_runRounds_8 <;> (try (intros; omega))
          · intro _ hz
            exact kq Xs (j + 1) w s1 hr (zfr_mo rfl f1) (fun _ => ⟨w0 hz, zfr_at f1 rfl⟩) (fun z => absurd hz z)
          · intro _ hz
            refine kq Xs (j + 1) w _ hr (zfr_uF rfl (zfr_mo rfl f1)) (fun z => absurd z hz) (fun _ => ⟨zup_same, fun i w' i0 i1 a b => ?_⟩)
            (try simp (disch := decide) only [zup_of, zup_oi, zup_same])
            exact w1 hz i w' i0 i1 a b
        · apply TX2_runRounds_49 <;> (try (intros; omega))
          intro _
          refine okX2_leastOf hD1 (zpop_ex h3.2.1) h67 (fun l hl => TX2_runRounds_64 ?_)
          have hL : zRl D (Xs j) l := ⟨hno, h2, hl⟩
          have := ih (j + 1) (fun i => if i = j + 1 then zdrop (Xs j) l else Xs i) s1 (by omega) (by omega) (zpre_s hp j0 p0 hL) f1 w0 (fun hz i w' i0 i1 a b => by
            show _ = zif2 (zbit (if i = j + 1 then _ else Xs i) w') (ztal D (if i = j + 1 then _ else Xs i) w') (-1)
            rw [if_neg (by omega)]
            exact w1 hz i w' i0 i1 a b)
          simp only [if_pos] at this
          exact this
      apply TX2_runRounds_8 <;> (try (intros; omega))
      intro _ _
      refine okX2_countVotes (D := D) hDs hok (fun s1 f1 h67 => ?_)
      have f2 : zfr [(67, none), (66, none)] s1 σ := zfr_tr hf (zfr_mo rfl f1)
      have r66 : s1 66 = s 66 := zfr_row f1 rfl
      apply TX2_runRounds_26 <;> (try (intros; omega))
      · intro hz
        refine okX2_writeRound (by omega) (fun s2 g2 h66 => ?_)
        apply TX2_runRounds_39
        · omega
        refine nxt s2 (zfr_tr f2 (zfr_mo rfl g2)) (fun w w0 w1 => by rw [zfr_row (q := 67) g2 rfl]; exact h67 w w0 w1) (fun z => absurd z hz) (fun _ i w i0 i1 w0 w1 => ?_)
        rw [h66 i w i0 w0 w1]
        by_cases e : i = j
        · rw [zif2_y e, e, h67 w w0 w1]
        · rw [zif2_n e, r66]
          exact hv1 hz i w i0 (by omega) w0 w1
      · intro hz
        exact nxt s1 f2 h67 (fun z => by rw [r66]; exact hv0 z) (fun z => absurd hz z)
  have hb := zpop_b (x := X0)
  refine loop _ 0 (fun _ => X0) σ rfl (by omega) ⟨rfl, fun i a b => by omega, fun i a b => ⟨hX, hX1, ?_⟩⟩ zfr_0 (fun _ => rfl) (fun _ i w a b => by omega)
  show zpop X0 + i ≤ 24
  omega
end E3
