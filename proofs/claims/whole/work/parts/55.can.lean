/-! WHO MAY, on a day: both sides -/
theorem zleast {P : Nat → Prop} (h : ∃ n, P n) : ∃ n, P n ∧ ∀ m, P m → n ≤ m := by
  obtain ⟨n, hn⟩ := h
  induction n using Nat.strongRecOn with
  | ind n ih =>
    by_cases c : ∃ m, m < n ∧ P m
    · obtain ⟨m, h1, h2⟩ := c
      exact ih m h1 h2
    · refine ⟨n, hn, fun m hm => ?_⟩
      by_cases d : n ≤ m
      · exact d
      · exact absurd ⟨m, by omega, hm⟩ c
theorem zkin_ex {E : Int → Int → Prop} {who : Int} {Fd : Int → Prop} : ∃ K, zkin E who Fd K := by
  by_cases h : ∃ n : Nat, ∃ (f p : Int) (a b : Nat), Fd f ∧ zball E (fun q => q = who) a p ∧ zball E (fun q => q = f) b p ∧ n = a + b
  · obtain ⟨n, ⟨f, p, a, b, h1, h2, h3, h4⟩, hm⟩ := zleast h
    by_cases c : n < 99
    · refine ⟨n, by omega, fun f' p' a' b' x y z => ?_, Or.inr ⟨f, p, a, b, h1, h2, h3, by omega⟩⟩
      have := hm (a' + b') ⟨f', p', a', b', x, y, z, rfl⟩
      omega
    · refine ⟨99, by omega, fun f' p' a' b' x y z => ?_, Or.inl rfl⟩
      have := hm (a' + b') ⟨f', p', a', b', x, y, z, rfl⟩
      omega
  · refine ⟨99, by omega, fun f' p' a' b' x y z => ?_, Or.inl rfl⟩
    exact absurd ⟨a' + b', f', p', a', b', x, y, z, rfl⟩ h
theorem znear_ex {E : Int → Int → Prop} {who : Int} {un : Int → Prop} {K : Int} (hK : 0 ≤ K) : ∃ N, znear E who un K N := by
  by_cases h : ∃ n : Nat, ∃ (p : Int), zball E (fun q => q = who) n p ∧ un p
  · obtain ⟨n, ⟨p, h1, h2⟩, hm⟩ := zleast h
    by_cases c : (n : Int) + 1 < K
    · refine ⟨n + 1, by omega, by omega, fun p' a x y => ?_, Or.inr ⟨p, n, h1, h2, rfl⟩⟩
      have := hm a ⟨p', x, y⟩
      omega
    · refine ⟨K, by omega, hK, fun p' a x y => ?_, Or.inl rfl⟩
      have := hm a ⟨p', x, y⟩
      omega
  · refine ⟨K, by omega, hK, fun p' a x y => ?_, Or.inl rfl⟩
    exact absurd ⟨a, p', x, y⟩ h
theorem zone_ex {σ : zS} {w a k : Int} : ∃ u, zone σ w a k u := by
  obtain ⟨K, hK⟩ := zkin_ex (E := zlkM σ k) (who := w) (Fd := zfdM σ (σ 98 1))
  obtain ⟨N, hN⟩ := znear_ex (E := zlkM σ k) (who := w) (un := zunM σ k) (K := K) hK.1.2
  exact ⟨(max 0 (zldiv (a - σ 99 w) 365), zval σ w 0 a k, zval σ w 1 a k, zval σ w 2 a k, zval σ w 3 a k, K, N), rfl, rfl, rfl, rfl, rfl, hK, hN⟩
/-- one may on a day -/
def zcan (σ : zS) (l : List Int) (d w kd : Int) : Prop := zmy σ l w kd d d 1
theorem zcan_sm {s σ : zS} {l : List Int} {d w kd : Int} (h : zsm zDd s σ) : zcan s l d w kd ↔ zcan σ l d w kd := zmy_sm h
theorem zcan_v {σ : zS} {l : List Int} {d w kd v : Int} (h : zmy σ l w kd d d v) : v = 1 ↔ zcan σ l d w kd := by
  constructor
  · rintro rfl; exact h
  · intro z; exact zmy_one h z
/-- what the law reads, in class and model -/
def zlaws (s : zS) (l : List Int) : Prop := zamo s ∧ zamC s ∧ zturC s l ∧ zturM s l ∧ zppl s ∧ zlnk s ∧ zfnd s ∧ zfct s ∧ zdth s
abbrev Dzlaws : zPl := Dzamo ++ DzamC ++ Dztur ++ Dzppl ++ Dzlnk ++ Dzfnd ++ Dzfct ++ Dzdth
theorem zlaws_ke {s σ : zS} {l : List Int} (h : zsm Dzlaws s σ) (hc : zlaws σ l) : zlaws s l := by
  obtain ⟨h1, h2, h3, h4, h5, h6, h7, h8, h9⟩ := hc
  refine ⟨zamo_ke (zsm_mo rfl h) h1, zamC_ke (zsm_mo rfl h) h2, ?_, (zturM_sm (zsm_mo rfl h)).mpr h4, zppl_ke (zsm_mo rfl h) h5, zlnk_ke (zsm_mo rfl h) h6, zfnd_ke (zsm_mo rfl h) h7, zfct_ke (zsm_mo rfl h) h8, zdth_ke (zsm_mo rfl h) h9⟩
  unfold zturC at h3 ⊢
  rw [zsm_at h 98 3 rfl, zsm_row h 45 rfl]
  exact h3
theorem zlaws_of {σ : zS} {l : List Int} (hi : zinv σ) (hM : zturM σ l) (hC : zturC σ l) : zlaws σ l := ⟨g_zamo hi, g_zamC hi, hC, hM, g_zppl hi, g_zlnk hi, g_zfnd hi, g_zfct hi, g_zdth hi⟩
section CN
variable {G : zG} {σ : zS} {Q : Int → zS → Prop}
theorem okC_wg {l : List Int} {w kd d wt : Int} (hl : zlaws σ l) (hw : 0 ≤ w ∧ w < σ 98 1) (hkd : 0 ≤ kd ∧ kd < 4) (kq : ∀ (s : zS) (v : Int), zfr zWs s σ → (v = 1 ↔ zcan σ l d w kd) → Q v s) : zO G MX3_weigh [zr 47, zi w, zi kd, zi d, zi d, zi wt] σ Q := by
  obtain ⟨h1, h2, h3, h4, h5, h6, h7, h8, h9⟩ := hl
  exact okX3_weigh h1 h2 h3 hkd h5 h6 h7 h8 h9 hw (fun s u f z _ _ => kq s _ (zfr_mo rfl f) (zcan_v ⟨u, z, rfl⟩))
theorem okM_mh {l : List Int} {w kd : Int} (hl : zlaws σ l) (hw : 0 ≤ w ∧ w < σ 98 1) (hkd : 0 ≤ kd ∧ kd < 4) (kq : ∀ (s : zS) (r : Int), zfr zWs s σ → ((r = 1 ∧ zcan σ l (σ 98 0) w kd) ∨ (r = 0 ∧ ¬ zcan σ l (σ 98 0) w kd)) → Q r s) : zO G MX12_mayHold [zr 98, zi w, zi kd] σ Q := by
  obtain ⟨h1, h2, h3, h4, h5, h6, h7, h8, h9⟩ := hl
  obtain ⟨u, hu⟩ := zone_ex (σ := σ) (w := w) (a := σ 98 0) (k := σ 98 0)
  refine TX12_mayHold (okX12_mays h1 h4 hkd h5 h6 h8.1 hw hu (fun s f => ?_))
  have hv := zcan_v (σ := σ) (l := l) (d := σ 98 0) (w := w) (kd := kd) ⟨u, hu, rfl⟩
  apply TX12_mayHold_14 <;> (try (intros; omega))
  · intro h
    exact kq s 0 (zfr_mo rfl f) (Or.inr ⟨rfl, fun z => h (hv.mpr z)⟩)
  · intro h
    exact kq s 1 (zfr_mo rfl f) (Or.inl ⟨rfl, hv.mp h⟩)
/-- the class: one may, and holds none of the kind -/
theorem okC_take {l : List Int} {w kd d : Int} (hl : zlaws σ l) (hpl : zpla σ) (hpC : zplC σ) (hw : 0 ≤ w ∧ w < σ 98 1) (hkd : 0 ≤ kd ∧ kd < 4) (kq : ∀ (s : zS) (r : Int), zfr zWs s σ → ((r = 1 ∧ ¬ zhol σ kd w ∧ zcan σ l d w kd) ∨ (r = 0 ∧ ¬ (¬ zhol σ kd w ∧ zcan σ l d w kd))) → Q r s) : zO G MX6_canTake [zr 52, zi w, zi kd, zi d] σ Q := by
  have hn := hl.2.2.2.2.1.1
  refine TX6_canTake (okX6_holdersOf hpl hpC (fun b _ hb => ?_))
  have h1 := hb w hw.1 (by omega)
  have h2 := zb_and1 (x := b) (i := w) hw.1 (by omega)
  by_cases c : zbit b w
  · have := h2.1 c
    apply TX6_canTake_5 <;> (try (intros; omega))
    intro _
    exact kq σ 0 zfr_0 (Or.inr ⟨rfl, fun z => z.1 (h1.mp c)⟩)
  · have := h2.2 c
    apply TX6_canTake_5 <;> (try (intros; omega))
    intro _
    refine okC_wg hl hw hkd (fun s v f hv => ?_)
    apply TX6_canTake_24 <;> (try (intros; omega))
    · intro e
      exact kq s 1 f (Or.inl ⟨rfl, fun z => c (h1.mpr z), hv.mp e⟩)
    · intro e
      exact kq s 0 f (Or.inr ⟨rfl, fun z => e (hv.mpr z.2)⟩)
end CN
section PC
variable {G : zG} {σ : zS}
theorem st_place {a1 : Int} (hi : zinv σ) : zst2 G MX11_place [zr 0, zi a1] MX12_place [zr 98, zi a1] σ := by
  have hpl := g_zpla hi
  have hpC := g_zplC hi
  have hc := hpC.1
  have h0 := hpl.1
  have hps := g_zpas hi
  apply TX11_place <;> (try (intros; omega))
  · intro h1 h2
    apply TX12_place <;> (try simp (disch := decide) only [zup_of, zup_oi, zup_same]) <;> (try (intros; omega))
    intros
    refine ⟨by omega, ?_⟩
    rw [hc]
    apply zinv_fr (W := [(53, none), (54, none), (55, none), (56, none), (52, some 7), (129, none), (130, none), (131, none), (132, none), (98, some 4)]) (by repeat (first | exact zfr_0 | refine zfr_uF rfl ?_ | refine zfr_uA rfl ?_ | refine zfr_cp rfl ?_ | refine zfr_fl rfl ?_ | refine zfr_s0 rfl (by omega) ?_ | refine zfr_sl rfl (by omega) ?_ | refine zfr_sc rfl (by omega) ?_)) hi <;> (try (intro h; exact absurd h (by decide)))
    · intro _
      unfold zpla
      ((try simp (disch := decide) only [zup_of, zup_oi, zup_same]) <;> (try simp only [zup_at]) <;> (try simp (disch := decide) only [zup_of, zup_oi, zup_same]) <;> (try simp only [zup_at]) <;> (try simp (disch := decide) only [zup_of, zup_oi, zup_same]) <;> (try simp only [zup_at]) <;> (try simp (disch := decide) only [zup_of, zup_oi, zup_same]))
      refine ⟨by omega, fun p p0 p1 => ?_, fun p q p0 p1 p2 => ?_⟩
      · by_cases e : p = σ 98 4
        · simp only [if_pos e, true_or, and_true]
          omega
        · simp only [if_neg e]
          exact hpl.2.1 p p0 (by omega)
      · rw [if_neg (show ¬ p = σ 98 4 by omega), if_neg (show ¬ p = σ 98 4 by omega)]
        by_cases e : q = σ 98 4
        · rw [if_pos e, if_pos e]
          intros
          omega
        · rw [if_neg e, if_neg e]
          exact hpl.2.2 p q p0 p1 (by omega)
    · intro _
      unfold zplC
      ((try simp (disch := decide) only [zup_of, zup_oi, zup_same]) <;> (try simp only [zup_at]) <;> (try simp (disch := decide) only [zup_of, zup_oi, zup_same]) <;> (try simp only [zup_at]) <;> (try simp (disch := decide) only [zup_of, zup_oi, zup_same]) <;> (try simp only [zup_at]) <;> (try simp (disch := decide) only [zup_of, zup_oi, zup_same]))
      refine ⟨by trivial, fun p p0 p1 => ?_⟩
      by_cases e : p = σ 98 4
      · simp only [if_pos e, true_and]
        exact hps p p0 (by omega)
      · simp only [if_neg e]
        exact hpC.2 p p0 (by omega)
    · intro _
      have h := g_zplc hi
      unfold zplc at h ⊢
      ((try simp (disch := decide) only [zup_of, zup_oi, zup_same]) <;> (try simp only [zup_at]) <;> (try simp (disch := decide) only [zup_of, zup_oi, zup_same]) <;> (try simp only [zup_at]) <;> (try simp (disch := decide) only [zup_of, zup_oi, zup_same]) <;> (try simp only [zup_at]) <;> (try simp (disch := decide) only [zup_of, zup_oi, zup_same]))
      refine ⟨h.1, fun p p0 p1 => ?_⟩
      have hnow := g_zcnow hi
      by_cases e : p = σ 98 4
      · simp only [if_pos e, true_or, true_and]
        have := hnow.2
        omega
      · simp only [if_neg e]
        exact h.2 p p0 (by omega)
  all_goals (intros; apply TX12_place <;> (try simp (disch := decide) only [zup_of, zup_oi, zup_same]) <;> (try (intros; omega)) <;> (try (intros; exact ⟨by first | trivial | omega, zno hi (by first | decide | omega) rfl rfl (by first | decide | omega)⟩)))
theorem st_grace {a1 : Int} (hi : zinv σ) : zst2 G MX11_grace [zr 0, zi a1] MX12_grace [zr 98, zi a1] σ := by
  have h := g_zplc hi
  have hg := h.1
  apply TX11_grace <;> (try (intros; omega))
  · intro h1
    apply TX12_grace <;> (try simp (disch := decide) only [zup_of, zup_oi, zup_same]) <;> (try (intros; omega))
    intros
    refine ⟨by omega, ?_⟩
    apply zinv_fr (W := [(52, some 8), (98, some 11)]) (by repeat (first | exact zfr_0 | refine zfr_uF rfl ?_ | refine zfr_uA rfl ?_ | refine zfr_cp rfl ?_ | refine zfr_fl rfl ?_ | refine zfr_s0 rfl (by omega) ?_ | refine zfr_sl rfl (by omega) ?_ | refine zfr_sc rfl (by omega) ?_)) hi <;> (try (intro h; exact absurd h (by decide)))
    intro _
    unfold zplc at h ⊢
    ((try simp (disch := decide) only [zup_of, zup_oi, zup_same]) <;> (try simp only [zup_at]) <;> (try simp (disch := decide) only [zup_of, zup_oi, zup_same]) <;> (try simp only [zup_at]) <;> (try simp (disch := decide) only [zup_of, zup_oi, zup_same]) <;> (try simp only [zup_at]) <;> (try simp (disch := decide) only [zup_of, zup_oi, zup_same]))
    exact ⟨⟨by trivial, h1⟩, h.2⟩
  all_goals (intros; apply TX12_grace <;> (try simp (disch := decide) only [zup_of, zup_oi, zup_same]) <;> (try (intros; omega)) <;> (try (intros; exact ⟨by first | trivial | omega, zno hi (by first | decide | omega) rfl rfl (by first | decide | omega)⟩)))
theorem st_about {a1 a2 : Int} (hi : zinv σ) : zst2 G MX11_about [zr 0, zi a1, zi a2] MX12_about [zr 98, zi a1, zi a2] σ := by
  have hpl := g_zpla hi
  have hpC := g_zplC hi
  have hc := hpC.1
  have h0 := hpl.1
  by_cases hp : 0 ≤ a1 ∧ a1 < σ 98 4
  · have := hpC.2 a1 hp.1 hp.2
    apply TX11_about <;> (try (intros; omega))
    all_goals (intros; apply TX12_about <;> (try (intros; omega)) <;> (intros; exact ⟨by omega, hi⟩))
  · apply TX11_about <;> (try (intros; omega))
    all_goals (intros; apply TX12_about <;> (try (intros; omega)) <;> (intros; exact ⟨by omega, hi⟩))
end PC
