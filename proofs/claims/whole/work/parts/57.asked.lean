/-! CALLS: asked, answer -/
section CW
variable {G : zG} {σ : zS} {Q : Int → zS → Prop}
theorem okC_takeW {l : List Int} {w kd d : Int} (hl : zlaws σ l) (hpl : zpla σ) (hpC : zplC σ) (hw : 0 ≤ w ∧ w < σ 98 1) (hkd : 0 ≤ kd ∧ kd < 4) (kq : ∀ (s : zS) (r : Int), zfr zWw s σ → ((r = 1 ∧ ¬ zhol σ kd w ∧ zcan σ l d w kd) ∨ (r = 0 ∧ ¬ (¬ zhol σ kd w ∧ zcan σ l d w kd))) → Q r s) : zO G MX6_canTake [zr 52, zi w, zi kd, zi d] σ Q := by
  have hn := hl.2.2.2.2.1.1
  refine TX6_canTake (okX6_holdersOf hpl hpC (fun b _ hb => ?_))
  have h1 := hb w hw.1 (by omega)
  have h2 := zb_and1 (x := b) (i := w) hw.1 (by omega)
  by_cases c : zbit b w
  · have := h2.1 c
    apply TX6_canTake_5 <;> (try (intros; omega))
    intro _
    exact kq σ 0 zfr_0 (Or.inr ⟨rfl, fun z => z.1 (h1.mp c)⟩)
  · have := h2.2 c
    apply TX6_canTake_5 <;> (try (intros; omega))
    intro _
    obtain ⟨q1, q2, q3, q4, q5, q6, q7, q8, q9⟩ := hl
    refine okX3_weigh q1 q2 q3 hkd q5 q6 q7 q8 q9 hw (fun s u f z _ _ => ?_)
    have hv := zcan_v (σ := σ) (l := l) (d := d) (w := w) (kd := kd) ⟨u, z, rfl⟩
    apply TX6_canTake_24 <;> (try (intros; omega))
    · intro e
      exact kq s 1 f (Or.inl ⟨rfl, fun z => c (h1.mpr z), hv.mp e⟩)
    · intro e
      exact kq s 0 f (Or.inr ⟨rfl, fun z => e (hv.mpr z.2)⟩)
theorem okM_mhW {l : List Int} {w kd : Int} (hl : zlaws σ l) (hw : 0 ≤ w ∧ w < σ 98 1) (hkd : 0 ≤ kd ∧ kd < 4) (kq : ∀ (s : zS) (r : Int), zfr zWm s σ → ((r = 1 ∧ zcan σ l (σ 98 0) w kd) ∨ (r = 0 ∧ ¬ zcan σ l (σ 98 0) w kd)) → Q r s) : zO G MX12_mayHold [zr 98, zi w, zi kd] σ Q := by
  obtain ⟨h1, h2, h3, h4, h5, h6, h7, h8, h9⟩ := hl
  obtain ⟨u, hu⟩ := zone_ex (σ := σ) (w := w) (a := σ 98 0) (k := σ 98 0)
  refine TX12_mayHold (okX12_mays h1 h4 hkd h5 h6 h8.1 hw hu (fun s f => ?_))
  have hv := zcan_v (σ := σ) (l := l) (d := σ 98 0) (w := w) (kd := kd) ⟨u, hu, rfl⟩
  apply TX12_mayHold_14 <;> (try (intros; omega))
  · intro h
    exact kq s 0 f (Or.inr ⟨rfl, fun z => h (hv.mpr z)⟩)
  · intro h
    exact kq s 1 f (Or.inl ⟨rfl, hv.mp h⟩)
end CW
/-- the holder of place x may be asked for place p -/
def zac (σ : zS) (l : List Int) (d p x : Int) : Prop := ¬ zbit (σ 133 p) (σ 130 x) ∧ ¬ zhol σ 3 (σ 130 x) ∧ zcan σ l d (σ 130 x) 3
def zask (σ : zS) (l : List Int) (d p r : Int) : Prop := (¬ (σ 129 p = 3 ∧ σ 130 p = -1) ∧ r = -1) ∨
  ((σ 129 p = 3 ∧ σ 130 p = -1) ∧ ∃ a n, zsen σ a (σ 98 4) n ∧ ((r = -1 ∧ ∀ c, 0 ≤ c → c < n → ¬ zac σ l d p (a c)) ∨ ∃ c, (0 ≤ c ∧ c < n) ∧ zac σ l d p (a c) ∧ r = σ 130 (a c) ∧ ∀ c', 0 ≤ c' → c' < c → ¬ zac σ l d p (a c')))
theorem zask_one {σ : zS} {l : List Int} {d p r r' : Int} (h : zask σ l d p r) (h' : zask σ l d p r') : r = r' := by
  rcases h with ⟨a, b⟩ | ⟨a, s, n, hs, h⟩ <;> rcases h' with ⟨a', b'⟩ | ⟨a', s', n', hs', h'⟩
  · rw [b, b']
  · exact absurd a' a
  · exact absurd a a'
  · obtain ⟨en, es⟩ := zsen_one hs hs'
    subst en
    rcases h with ⟨e, h⟩ | ⟨c, hc, x, y, z⟩ <;> rcases h' with ⟨e', h'⟩ | ⟨c', hc', x', y', z'⟩
    · rw [e, e']
    · exact absurd (by rw [es c' hc'.1 hc'.2]; exact x') (h c' hc'.1 hc'.2)
    · exact absurd (by rw [← es c hc.1 hc.2]; exact x) (h' c hc.1 hc.2)
    · by_cases c1 : c < c'
      · exact absurd (by rw [← es c hc.1 hc.2]; exact x) (z' c hc.1 c1)
      · by_cases c2 : c' < c
        · exact absurd (by rw [es c' hc'.1 hc'.2]; exact x') (z c' hc'.1 c2)
        · have : c = c' := by omega
          subst this
          rw [y, y', es c hc.1 hc.2]
section AS
variable {G : zG} {σ : zS} {Q : Int → zS → Prop}
theorem okC_next {l : List Int} {p d : Int} (hi : zinv σ) (hM : zturM σ l) (hC : zturC σ l) (hp : 0 ≤ p ∧ p < σ 98 4) (kq : ∀ (s : zS) (r : Int), zfr zWs s σ → zask σ l d p r → (r = -1 ∨ (0 ≤ r ∧ r < σ 98 1)) → Q r s) : zO G MX6_nextFor [zr 52, zi p, zi d] σ Q := by
  have hpl := g_zpla hi
  have hpC := g_zplC hi
  have h0 := hpl.1
  have hz := (g_zplc hi).2
  have hn := (g_zppl hi).1
  have cp := hpC.2 p hp.1 hp.2
  apply TX6_nextFor <;> (try rw [cp.1]) <;> (try rw [cp.2.1]) <;> (try (intros; omega))
  · intro h1 h2
    refine okX6_lineUpFellows hpl hpC (fun s1 n f1 hs => TX6_nextFor_26 ?_)
    have hsn := hs.1
    have f1' : zfr (zWw ++ [(58, none)]) s1 σ := zfr_mo rfl (zfr_1 f1)
    have loop : ∀ (m : Nat) (c : Int) (s : zS), (n - c).toNat = m → 0 ≤ c → c ≤ n → zfr (zWw ++ [(58, none)]) s σ → s 58 = s1 58 → (∀ c', 0 ≤ c' → c' < c → ¬ zac σ l d p (s1 58 c')) → zR G MX6_nextFor 30 [zr 52, zi p, zi d, zi n, zi c, zu] [] s Q := by
      intro m
      induction m with
      | zero =>
        intro c s hm c0 c1 hf hse hno
        apply TX6_nextFor_30 <;> (try (intros; omega))
        intro _
        exact kq s (-1) (zfr_mo rfl hf) (Or.inr ⟨⟨h1, h2⟩, s1 58, n, hs, Or.inl ⟨rfl, fun c' x y => hno c' x (by omega)⟩⟩) (Or.inl rfl)
      | succ m ih =>
        intro c s hm c0 c1 hf hse hno
        have hx := hs.2.1 c c0 (by omega)
        generalize hxe : s1 58 c = x at hx
        have cx := hpC.2 x hx.1.1 hx.1.2
        have ex : s 58 c = x := by rw [hse]; exact hxe
        have e54 : s 54 x = σ 130 x := by rw [zfr_row (q := 54) hf rfl]; exact cx.2.1
        have e57 : s 57 p = σ 133 p := by rw [zfr_row (q := 57) hf rfl]; exact cp.2.2.2.2
        have hw : 0 ≤ σ 130 x ∧ σ 130 x < σ 98 1 := by
          rcases (hz x hx.1.1 hx.1.2).1 with h | h
          · exact absurd h hx.2.2
          · exact h
        have hb := zb_and1 (x := σ 133 p) (i := σ 130 x) hw.1 (by omega)
        have next : ∀ s', zfr zWw s' s → ¬ zac σ l d p x → zR G MX6_nextFor 30 [zr 52, zi p, zi d, zi n, zi (c + 1), zu] [] s' Q := by
          intro s' f' hnx
          refine ih (c + 1) s' (by omega) (by omega) (by omega) (zfr_tr hf (zfr_mo rfl f')) (by rw [zfr_row f' rfl]; exact hse) (fun c' x0 x1 => ?_)
          by_cases e : c' = c
          · rw [e, hxe]; exact hnx
          · exact hno c' x0 (by omega)
        by_cases hpz : zbit (σ 133 p) (σ 130 x)
        · have := hb.1 hpz
          apply TX6_nextFor_30 <;> (try rw [ex]) <;> (try rw [e54]) <;> (try rw [e57]) <;> (try (intros; omega))
          intro _ _
          exact next s zfr_0 (fun z => z.1 hpz)
        · have := hb.2 hpz
          apply TX6_nextFor_30 <;> (try rw [ex]) <;> (try rw [e54]) <;> (try rw [e57]) <;> (try (intros; omega))
          intro _ _
          have hs4 : s 98 4 = σ 98 4 := zfr_at hf rfl
          have hls : zlaws s l := zlaws_ke (zfr_sm hf rfl) (zlaws_of hi hM hC)
          refine okC_takeW hls (zpla_ke (zfr_sm hf rfl) hpl) (zplC_ke (zfr_sm hf rfl) hpC) (by rw [zfr_at (q := 98) (j := 1) hf rfl]; exact hw) (by omega) (fun s2 r2 f2 hr2 => ?_)
          have ehol : zhol s 3 (σ 130 x) ↔ zhol σ 3 (σ 130 x) := by
            unfold zhol
            rw [hs4, zfr_row (q := 129) hf rfl, zfr_row (q := 130) hf rfl]
          have ecan := zcan_sm (s := s) (σ := σ) (l := l) (d := d) (w := σ 130 x) (kd := 3) (zfr_sm hf rfl)
          rw [ehol, ecan] at hr2
          rcases hr2 with ⟨rfl, q1, q2⟩ | ⟨rfl, q1⟩
          · apply TX6_nextFor_72 <;> (try (intros; omega))
            intro _
            exact kq s2 _ (zfr_mo rfl (zfr_tr hf (zfr_mo rfl f2))) (Or.inr ⟨⟨h1, h2⟩, s1 58, n, hs, Or.inr ⟨c, ⟨c0, by omega⟩, by rw [hxe]; exact ⟨hpz, q1, q2⟩, by rw [hxe], hno⟩⟩) (Or.inr hw)
          · apply TX6_nextFor_72 <;> (try (intros; omega))
            intro _
            exact next s2 f2 (fun z => q1 ⟨z.2.1, z.2.2⟩)
    exact loop _ 0 s1 rfl (by omega) (by omega) f1' rfl (fun c' x y => by omega)
  · intro h
    exact kq σ (-1) zfr_0 (Or.inl ⟨by omega, rfl⟩) (Or.inl rfl)
theorem okM_asked {l : List Int} {p : Int} (hl : zlaws σ l) (hpl : zpla σ) (hz : ∀ p, 0 ≤ p → p < σ 98 4 → σ 130 p = -1 ∨ (0 ≤ σ 130 p ∧ σ 130 p < σ 98 1)) (hp : 0 ≤ p ∧ p < σ 98 4) (kq : ∀ (s : zS) (r : Int), zfr (zWm ++ [(173, none)]) s σ → zask σ l (σ 98 0) p r → Q r s) : zO G MX12_isAsked [zr 98, zi p] σ Q := by
  have h0 := hpl.1
  have hn := hl.2.2.2.2.1.1
  apply TX12_isAsked <;> (try (intros; omega))
  · intro h1 h2
    refine okX12_seniors hpl (fun s1 n f1 hs => TX12_isAsked_26 ?_)
    have hsn := hs.1
    have f1' : zfr (zWm ++ [(173, none)]) s1 σ := zfr_mo rfl (zfr_1 f1)
    have loop : ∀ (m : Nat) (c : Int) (s : zS), (n - c).toNat = m → 0 ≤ c → c ≤ n → zfr (zWm ++ [(173, none)]) s σ → s 173 = s1 173 → (∀ c', 0 ≤ c' → c' < c → ¬ zac σ l (σ 98 0) p (s1 173 c')) → zR G MX12_isAsked 29 [zr 98, zi p, zi n, zi c, zu] [] s Q := by
      intro m
      induction m with
      | zero =>
        intro c s hm c0 c1 hf hse hno
        apply TX12_isAsked_29 <;> (try (intros; omega))
        intro _
        exact kq s (-1) hf (Or.inr ⟨⟨h1, h2⟩, s1 173, n, hs, Or.inl ⟨rfl, fun c' x y => hno c' x (by omega)⟩⟩)
      | succ m ih =>
        intro c s hm c0 c1 hf hse hno
        have hx := hs.2.1 c c0 (by omega)
        generalize hxe : s1 173 c = x at hx
        have ex : s 173 c = x := by rw [hse]; exact hxe
        have e130 : s 130 = σ 130 := zfr_row hf rfl
        have e133 : s 133 = σ 133 := zfr_row hf rfl
        have hw : 0 ≤ σ 130 x ∧ σ 130 x < σ 98 1 := by
          rcases hz x hx.1.1 hx.1.2 with h | h
          · exact absurd h hx.2.2
          · exact h
        have hb := zb_shr1 (x := σ 133 p) (i := σ 130 x) hw.1 (by omega)
        have next : ∀ s', zfr zWm s' s → ¬ zac σ l (σ 98 0) p x → zR G MX12_isAsked 29 [zr 98, zi p, zi n, zi (c + 1), zu] [] s' Q := by
          intro s' f' hnx
          refine ih (c + 1) s' (by omega) (by omega) (by omega) (zfr_tr hf (zfr_mo rfl f')) (by rw [zfr_row f' rfl]; exact hse) (fun c' x0 x1 => ?_)
          by_cases e : c' = c
          · rw [e, hxe]; exact hnx
          · exact hno c' x0 (by omega)
        by_cases hpz : zbit (σ 133 p) (σ 130 x)
        · have := hb.1 hpz
          apply TX12_isAsked_29 <;> (try rw [ex]) <;> (try rw [e130]) <;> (try rw [e133]) <;> (try (intros; omega))
          intro _ _
          exact next s zfr_0 (fun z => z.1 hpz)
        · have := hb.2 hpz
          have hs4 : s 98 4 = σ 98 4 := zfr_at hf rfl
          have hls : zlaws s l := zlaws_ke (zfr_sm hf rfl) hl
          have hpls : zpla s := zpla_ke (zfr_sm hf rfl) hpl
          have ehol : zhol s 3 (σ 130 x) ↔ zhol σ 3 (σ 130 x) := by
            unfold zhol
            rw [hs4, zfr_row (q := 129) hf rfl, e130]
          apply TX12_isAsked_29 <;> (try rw [ex]) <;> (try rw [e130]) <;> (try rw [e133]) <;> (try (intros; omega))
          intro _ _
          refine okX12_placeHeld hpls (fun r5 hr5 => ?_)
          rcases hr5 with ⟨rfl, hnh⟩ | ⟨hr5, hk5, hh5, _⟩
          · apply TX12_isAsked_68 <;> (try (intros; omega))
            intro _
            refine okM_mhW hls (by rw [zfr_at (q := 98) (j := 1) hf rfl]; exact hw) (by omega) (fun s2 r2 f2 hr2 => ?_)
            have ecan := zcan_sm (s := s) (σ := σ) (l := l) (d := s 98 0) (w := σ 130 x) (kd := 3) (zfr_sm hf rfl)
            have e0 : s 98 0 = σ 98 0 := zfr_at hf rfl
            rw [ecan, e0] at hr2
            rcases hr2 with ⟨rfl, q2⟩ | ⟨rfl, q2⟩
            · apply TX12_isAsked_79 <;> (try (intros; omega))
              intro _
              exact kq s2 _ (zfr_tr hf (zfr_mo rfl f2)) (Or.inr ⟨⟨h1, h2⟩, s1 173, n, hs, Or.inr ⟨c, ⟨c0, by omega⟩, by rw [hxe]; exact ⟨hpz, fun z => hnh (ehol.mpr z), q2⟩, by rw [hxe], hno⟩⟩)
            · apply TX12_isAsked_79 <;> (try (intros; omega))
              intro _
              exact next s2 f2 (fun z => q2 z.2.2)
          · apply TX12_isAsked_68 <;> (try (intros; omega))
            intro _
            exact next s zfr_0 (fun z => z.2.1 (ehol.mp ⟨r5, hr5, hk5, hh5⟩))
    exact loop _ 0 s1 rfl (by omega) (by omega) f1' rfl (fun c' x y => by omega)
  · intro h
    exact kq σ (-1) zfr_0 (Or.inl ⟨by omega, rfl⟩)
theorem zask_sm {s σ : zS} {l : List Int} {d p r : Int} (h : zsm (zDd ++ [(98, some 4), (129, none), (130, none), (131, none), (133, none)]) s σ) : zask s l d p r ↔ zask σ l d p r := by
  have e4 := zsm_at h 98 4 rfl
  have e129 := zsm_row h 129 rfl
  have e130 := zsm_row h 130 rfl
  have e131 := zsm_row h 131 rfl
  have e133 := zsm_row h 133 rfl
  have ec : zcan s l d = zcan σ l d := by
    funext w kd
    exact propext (zcan_sm (zsm_mo rfl h))
  have eh : zhol s = zhol σ := by
    funext kd w
    unfold zhol
    rw [e4, e129, e130]
  have ea : zac s l d p = zac σ l d p := by
    funext x
    unfold zac
    rw [e133, e130, eh, ec]
  have es : zsen s = zsen σ := by
    funext a i n
    unfold zsen zfel zsr
    rw [e129, e130, e131]
  unfold zask
  rw [ea, es, e4, e129, e130]
theorem st_asked {a1 : Int} (hi : zinv σ) : zst2 G MX11_asked [zr 0, zi a1] MX12_asked [zr 98, zi a1] σ := by
  obtain ⟨l, hM, hC⟩ := g_ztur hi
  have hc := (g_zplC hi).1
  have hnow := (g_zcnow hi).1
  by_cases hp : 0 ≤ a1 ∧ a1 < σ 98 4
  · apply TX11_asked <;> (try (intros; omega))
    intro _
    rw [hnow]
    refine okC_next hi hM hC hp (fun s1 r f1 hr _ => TX11_asked_23 ?_)
    have hi1 := zinv_sc f1 hi
    have e4 : s1 98 4 = σ 98 4 := zfr_at f1 rfl
    have e0 : s1 98 0 = σ 98 0 := zfr_at f1 rfl
    apply TX12_asked <;> (try rw [e4]) <;> (try (intros; omega))
    intro _
    refine okM_asked (zlaws_ke (zfr_sm f1 rfl) (zlaws_of hi hM hC)) (g_zpla hi1) (fun p p0 p1 => ((g_zplc hi1).2 p p0 p1).1) (by rw [e4]; exact hp) (fun s2 r' f2 hr' => TX12_asked_13 ⟨?_, zinv_sc (zfr_mo rfl f2) hi1⟩)
    rw [e0] at hr'
    exact zask_one ((zask_sm (zfr_sm f1 rfl)).mp hr') hr
  · apply TX11_asked <;> (try (intros; omega))
    intro _
    apply TX12_asked <;> (try (intros; omega))
    exact fun _ => ⟨rfl, hi⟩
/-- who is asked may come -/
theorem zask_ok {l : List Int} {d p r : Int} (h : zask σ l d p r) (hr : r ≠ -1) : (σ 129 p = 3 ∧ σ 130 p = -1) ∧ ¬ zhol σ (σ 129 p) r := by
  rcases h with ⟨_, b⟩ | ⟨a, s, n, hs, h⟩
  · exact absurd b hr
  · refine ⟨a, ?_⟩
    rcases h with ⟨e, _⟩ | ⟨c, hc, x, y, z⟩
    · exact absurd e hr
    · rw [a.1, y]
      exact x.2.1
theorem st_answer {a1 a2 : Int} (hi : zinv σ) : zst2 G MX11_answer [zr 0, zi a1, zi a2] MX12_answer [zr 98, zi a1, zi a2] σ := by
  obtain ⟨l, hM, hC⟩ := g_ztur hi
  have hc := (g_zplC hi).1
  have hnow := (g_zcnow hi).1
  have h0 := (g_zpla hi).1
  have hn := (g_zppl hi).1
  by_cases hp : 0 ≤ a1 ∧ a1 < σ 98 4
  · apply TX11_answer <;> (try (intros; omega))
    intro _
    rw [hnow]
    refine okC_next hi hM hC hp (fun s1 r f1 hr hrb => ?_)
    have hi1 := zinv_sc f1 hi
    have s13 : s1 0 13 = σ 98 0 := by rw [zfr_at (q := 0) (j := 13) f1 rfl]; exact hnow
    -- the model behind the class's writes
    have model : ∀ (W : zPl) (s2 : zS) (Q : Int → zS → Prop), zfr W s2 s1 → zdj (Dzlaws ++ Dzpla ++ [(98, some 0), (131, none), (133, none)]) W = true → (∀ s3, zfr (zWm ++ [(173, none)]) s3 s2 → zR G MX12_answer 19 [zr 98, zi a1, zi a2, zu] [zi r] s3 Q) → zO G MX12_answer [zr 98, zi a1, zi a2] s2 Q := by
      intro W s2 Q f2 hd kq
      have sm2 := zfr_sm f2 hd
      have e4 : s2 98 4 = σ 98 4 := by rw [zsm_at sm2 98 4 rfl, zfr_at f1 rfl]
      have e0 : s2 98 0 = σ 98 0 := by rw [zsm_at sm2 98 0 rfl, zfr_at f1 rfl]
      have e1 : s2 98 1 = s1 98 1 := zsm_at sm2 98 1 rfl
      apply TX12_answer <;> (try rw [e4]) <;> (try (intros; omega))
      intro _
      refine okM_asked (l := l) (zlaws_ke (zsm_mo rfl sm2) (zlaws_ke (zfr_sm f1 rfl) (zlaws_of hi hM hC))) (zpla_ke (zsm_mo rfl sm2) (g_zpla hi1)) (fun p p0 p1 => ?_) (by rw [e4]; exact hp) (fun s3 r' f3 hr' => ?_)
      · rw [zsm_row sm2 130 rfl, e1]
        rw [zsm_at sm2 98 4 rfl] at p1
        exact ((g_zplc hi1).2 p p0 p1).1
      · rw [e0] at hr'
        have h1 := (zask_sm (zsm_mo rfl sm2)).mp hr'
        have h2 := (zask_sm (zfr_sm f1 rfl)).mp h1
        have := zask_one h2 hr
        rw [this]
        exact kq s3 f3
    by_cases hr1 : r = -1
    · apply TX11_answer_29 <;> (try (intros; omega))
      intro _
      refine model [(97, none)] _ _ (zfr_uA rfl zfr_0) (by decide) (fun s3 f3 => ?_)
      apply TX12_answer_19 <;> (try (intros; omega))
      intro _
      exact ⟨rfl, zno_sc (σ := σ) hi1 (by decide) (zfr_mo rfl f3)⟩
    · have hok := zask_ok hr hr1
      have hw : 0 ≤ r ∧ r < σ 98 1 := by
        rcases hrb with h | h
        · exact absurd h hr1
        · exact h
      by_cases h2 : a2 = 0
      · apply TX11_answer_29 <;> (try (intros; omega))
        intro _ _
        refine model [(57, none)] _ _ (zfr_uA rfl zfr_0) (by decide) (fun s3 f3 => ?_)
        apply TX12_answer_19 <;> (try (intros; omega))
        intro _ _
        refine ⟨rfl, ?_⟩
        have f4 : zfr (zWs ++ [(57, none), (133, none)]) (zup s3 133 a1 (zor (s3 133 a1) (zshl 1 r))) σ := zfr_uA rfl (zfr_tr (zfr_tr (zfr_mo rfl f1) (zfr_uA rfl zfr_0)) (zfr_mo rfl f3))
        have hps : ∀ p, 0 ≤ p → p < 12 → (zup s3 133 a1 (zor (s3 133 a1) (zshl 1 r))) 57 p = (zup s3 133 a1 (zor (s3 133 a1) (zshl 1 r))) 133 p := by
          intro p p0 p1
          have h := g_zpas hi1 p p0 p1
          have h' := g_zpas hi1 a1 hp.1 (by omega)
          rw [zup_of (by decide), zup_at, zfr_row (q := 57) f3 rfl, zfr_row (q := 133) f3 rfl, zup_at, zup_of (by decide), zup_of (by decide)]
          by_cases e : p = a1
          · rw [if_pos e, if_pos e, h']
          · rw [if_neg e, if_neg e, h]
        apply zinv_fr f4 hi <;> (try (intro h; exact absurd h (by decide)))
        · intro _
          have hpC := g_zplC hi
          unfold zplC
          rw [zfr_at (q := 52) (j := 7) f4 rfl, zfr_at (q := 98) (j := 4) f4 rfl, zfr_row (q := 53) f4 rfl, zfr_row (q := 54) f4 rfl, zfr_row (q := 55) f4 rfl, zfr_row (q := 56) f4 rfl, zfr_row (q := 129) f4 rfl, zfr_row (q := 130) f4 rfl, zfr_row (q := 131) f4 rfl, zfr_row (q := 132) f4 rfl]
          refine ⟨hpC.1, fun p p0 p1 => ?_⟩
          have := hpC.2 p p0 p1
          exact ⟨this.1, this.2.1, this.2.2.1, this.2.2.2.1, hps p p0 (by omega)⟩
        · intro _
          exact hps
      · apply TX11_answer_29 <;> (try (intros; omega))
        intro _ _
        rw [s13]
        refine model [(54, none), (55, none), (56, none), (57, none)] _ _ (zfr_uA rfl (zfr_uA rfl (zfr_uA rfl (zfr_uA rfl zfr_0)))) (by decide) (fun s3 f3 => ?_)
        have q0 : s3 98 0 = σ 98 0 := by rw [zfr_at f3 rfl, zup_of (by decide), zup_of (by decide), zup_of (by decide), zup_of (by decide), zfr_at f1 rfl]
        apply TX12_answer_19 <;> (try rw [q0]) <;> (try (intros; omega))
        intro _ _
        have f4 : zfr zWp s3 σ := zfr_tr (zfr_tr (zfr_mo rfl f1) (zfr_uA rfl (zfr_uA rfl (zfr_uA rfl (zfr_uA rfl zfr_0))))) (zfr_mo rfl f3)
        refine ⟨rfl, zinv_cm hi hp hw hok.2 (zfr_uA rfl (zfr_uA rfl (zfr_uA rfl (zfr_uA rfl f4)))) ?_ ?_ (fun j => ?_) (fun j => ?_) (fun j => ?_) (fun j => ?_) (fun j => ?_) (fun j => ?_) (fun j => ?_) (fun j => ?_)⟩
        · rw [zup_of (by decide), zup_of (by decide), zup_of (by decide), zup_of (by decide), zfr_at f3 rfl, zup_of (by decide), zup_of (by decide), zup_of (by decide), zup_of (by decide)]; exact s13
        · rw [zup_of (by decide), zup_of (by decide), zup_of (by decide), zup_of (by decide)]; exact q0
        · rw [zup_of (by decide), zup_of (by decide), zup_of (by decide), zup_of (by decide), zfr_row f3 rfl, zup_of (by decide), zup_of (by decide), zup_of (by decide), zup_at, zfr_row f1 rfl]
        · rw [zup_of (by decide), zup_of (by decide), zup_of (by decide), zup_of (by decide), zfr_row f3 rfl, zup_of (by decide), zup_of (by decide), zup_at, zup_of (by decide), zfr_row f1 rfl]
        · rw [zup_of (by decide), zup_of (by decide), zup_of (by decide), zup_of (by decide), zfr_row f3 rfl, zup_of (by decide), zup_at, zup_of (by decide), zup_of (by decide), zfr_row f1 rfl]
        · rw [zup_of (by decide), zup_of (by decide), zup_of (by decide), zup_of (by decide), zfr_row f3 rfl, zup_at, zup_of (by decide), zup_of (by decide), zup_of (by decide), zfr_row f1 rfl]
        · rw [zup_of (by decide), zup_of (by decide), zup_of (by decide), zup_at, zfr_row f3 rfl, zup_of (by decide), zup_of (by decide), zup_of (by decide), zup_of (by decide), zfr_row f1 rfl]
        · rw [zup_of (by decide), zup_of (by decide), zup_at, zup_of (by decide), zfr_row f3 rfl, zup_of (by decide), zup_of (by decide), zup_of (by decide), zup_of (by decide), zfr_row f1 rfl]
        · rw [zup_of (by decide), zup_at, zup_of (by decide), zup_of (by decide), zfr_row f3 rfl, zup_of (by decide), zup_of (by decide), zup_of (by decide), zup_of (by decide), zfr_row f1 rfl]
        · rw [zup_at, zup_of (by decide), zup_of (by decide), zup_of (by decide), zfr_row f3 rfl, zup_of (by decide), zup_of (by decide), zup_of (by decide), zup_of (by decide), zfr_row f1 rfl]
  · apply TX11_answer <;> (try (intros; omega))
    intros; apply TX12_answer <;> (try simp (disch := decide) only [zup_of, zup_oi, zup_same]) <;> (try (intros; omega)) <;> (try (intros; exact ⟨by first | trivial | omega, zno hi (by first | decide | omega) rfl rfl (by first | decide | omega)⟩))
end AS
