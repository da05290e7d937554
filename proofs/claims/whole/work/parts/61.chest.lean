/-! CALLS: the table, the chest -/
section CH
variable {G : zG} {σ : zS}
set_option maxHeartbeats 1000000 in
theorem st_table {a1 : Int} (hi : zinv σ) : zst2 G MX11_table [zr 0, zi a1] MX12_table [zr 98, zi a1] σ := by
  have hv := g_zshv hi
  refine TX11_table (okX11_rowTrouble hv (fun r hr => ?_))
  by_cases hz : r = 0
  · subst hz
    have h : (0 ≤ a1 ∧ a1 < 10) ∧ σ 111 a1 = 1 := by unfold zrt at hr; omega
    obtain ⟨b1, b2, b3, b4, b5, b6⟩ := zsh_row hv h.1 h.2
    have ho := zsh_o h.1.1 h.1.2
    have he := zsh_e h.1.1 h.1.2
    have wants : ∀ (s : zS) (Q : Int → zS → Prop), s 111 = σ 111 → zshv s → zR G MX12_table 18 [zr 98, zi a1, zi 0, zi 0, zu] [] s Q → zO G MX12_table [zr 98, zi a1] s Q := by
      intro s Q e1 e2 kq
      refine TX12_table (okX12_wants e2 (fun r' hr' => ?_))
      have : r' = 0 := by unfold zrt at hr'; rw [e1] at hr'; omega
      subst this
      refine TX12_table_5 (fun _ => kq) (fun z => absurd rfl z) (fun z => absurd rfl z) (fun z => absurd rfl z)
    apply TX11_table_5 <;> (try (intros; omega))
    intro _
    have loop : ∀ (m : Nat) (i : Int), (σ 113 a1 - i).toNat = m → 0 ≤ i → i ≤ σ 113 a1 → (∀ j, 0 ≤ j → j < i → 0 ≤ zW (σ 115 (80 * a1 + j)) ∧ zW (σ 115 (80 * a1 + j)) ≤ 10000) →
        zR G MX11_table 26 [zr 0, zi a1, zi 0, zr (2 + 2 * a1.toNat), zi i] [] σ (fun r s => zO G MX12_table [zr 98, zi a1] s (fun r' s' => r' = r ∧ zinv s')) := by
      intro m
      induction m with
      | zero =>
        intro i hm i0 i1 hall
        have hie : i = σ 113 a1 := by omega
        apply TX11_table_26 ho he <;> (try rw [b4]) <;> (try (intros; omega))
        intro _
        refine okX9_copyLetters ho he rfl (by omega) (by omega) b4 b5 (by omega) (fun s1 f1 r1 => ?_)
        have f1' : zfr [(78, none)] s1 σ := zfr_1 f1
        have es : (zup s1 68 13 (σ 113 a1)) (2 + 2 * a1.toNat) 2 = σ 113 a1 := by rw [zup_of (by omega), f1 _ (by omega)]; exact b4
        refine TX11_table_80 ho he ?_
        rw [es]
        have f2 : zfr [(78, none), (68, some 13)] (zup s1 68 13 (σ 113 a1)) σ := zfr_uF rfl (zfr_mo rfl f1')
        have q78 : ∀ j, 0 ≤ j → j < σ 113 a1 → (zup s1 68 13 (σ 113 a1)) 78 j = zW (σ 115 (80 * a1 + j)) := fun j j0 j1 => by
          rw [zup_of (by decide), r1 j, if_pos (by omega), b6 _ (by omega) (by omega), show j - 0 = j from by omega]
        have q13 : (zup s1 68 13 (σ 113 a1)) 68 13 = σ 113 a1 := zup_same
        generalize zup s1 68 13 (σ 113 a1) = s2 at f2 q78 q13
        have e113 : s2 113 = σ 113 := zfr_row f2 rfl
        have e115 : s2 115 = σ 115 := zfr_row f2 rfl
        refine wants s2 _ (zfr_row f2 rfl) (zshv_ke (zfr_sm f2 rfl) hv) ?_
        have copy : ∀ (n : Nat) (c : Int) (s : zS), (σ 113 a1 - c).toNat = n → 0 ≤ c → c ≤ σ 113 a1 → zfr [(147, none)] s (zup s2 98 63 (σ 113 a1)) → (∀ j, 0 ≤ j → j < c → s 147 j = zW (σ 115 (80 * a1 + j))) → zR G MX12_table 80 [zr 98, zi a1, zi 0, zi c, zu] [] s (fun r' s' => r' = σ 113 a1 ∧ zinv s') := by
          intro n
          induction n with
          | zero =>
            intro c s hn c0 c1 hf hc
            have e63 : s 98 63 = σ 113 a1 := by rw [zfr_at hf rfl, zup_same]
            have hce : c = σ 113 a1 := by omega
            apply TX12_table_80 <;> (try rw [e63]) <;> (try (intros; omega))
            intro _
            refine ⟨rfl, ?_⟩
            have f3 : zfr [(78, none), (68, some 13), (147, none), (98, some 63)] s σ := zfr_tr (zfr_uF rfl (zfr_mo rfl f2)) (zfr_mo rfl hf)
            apply zinv_fr f3 hi <;> (try (intro h; exact absurd h (by decide)))
            · intro _
              refine ⟨by rw [e63]; exact b5, fun j j0 j1 => ?_⟩
              rw [e63] at j1
              rw [hc j j0 (by omega)]
              exact hall j j0 (by omega)
            · intro _
              refine ⟨by rw [e63, zfr_at hf rfl, zup_of (by decide)]; exact q13, fun j j0 j1 => ?_⟩
              rw [e63] at j1
              rw [hc j j0 (by omega), zfr_row hf rfl, zup_of (by decide)]
              exact q78 j j0 j1
          | succ n ih =>
            intro c s hn c0 c1 hf hc
            have e63 : s 98 63 = σ 113 a1 := by rw [zfr_at hf rfl, zup_same]
            have ec : s 115 = σ 115 := by rw [zfr_row hf rfl, zup_ne (by decide), e115]
            apply TX12_table_80 <;> (try rw [e63]) <;> (try (intros; omega))
            intro _
            rw [ec]
            refine ih (c + 1) _ (by omega) (by omega) (by omega) (zfr_uA rfl hf) (fun j j0 j1 => ?_)
            by_cases e : j = c
            · rw [e, zup_same]
            · rw [zup_oi e]
              exact hc j j0 (by omega)
        have check : ∀ (n : Nat) (c : Int), (σ 113 a1 - c).toNat = n → 0 ≤ c → c ≤ σ 113 a1 → zR G MX12_table 18 [zr 98, zi a1, zi 0, zi c, zu] [] s2 (fun r' s' => r' = σ 113 a1 ∧ zinv s') := by
          intro n
          induction n with
          | zero =>
            intro c hn c0 c1
            apply TX12_table_18 <;> (try rw [e113]) <;> (try (intros; omega))
            intro _
            exact copy _ 0 _ rfl (by omega) (by omega) zfr_0 (fun j j0 j1 => by omega)
          | succ n ih =>
            intro c hn c0 c1
            have hb := hall c c0 (by omega)
            apply TX12_table_18 <;> (try rw [e113]) <;> (try rw [e115]) <;> (try (intros; omega))
            intros
            exact ih (c + 1) (by omega) (by omega) (by omega)
        exact check _ 0 rfl (by omega) (by omega)
      | succ m ih =>
        intro i hm i0 i1 hall
        have b6i := b6 i i0 (by omega)
        apply TX11_table_26 ho he <;> (try rw [b4]) <;> (try rw [b6i]) <;> (try (intros; omega))
        · intro _ hh
          refine ih (i + 1) (by omega) (by omega) (by omega) (fun j j0 j1 => ?_)
          by_cases e : j = i
          · rw [e]; exact hh
          · exact hall j j0 (by omega)
        · intro _ hh
          generalize hs1 : zup σ 97 (- -6) (zW (σ 97 (- -6) + 1)) = s1
          have f1 : zfr [(97, none)] s1 σ := by rw [← hs1]; exact zfr_uA rfl zfr_0
          have e113 : s1 113 = σ 113 := zfr_row f1 rfl
          have e115 : s1 115 = σ 115 := zfr_row f1 rfl
          refine wants s1 _ (zfr_row f1 rfl) (zshv_ke (zfr_sm f1 rfl) hv) ?_
          have check : ∀ (n : Nat) (c : Int), (i - c).toNat = n → 0 ≤ c → c ≤ i → zR G MX12_table 18 [zr 98, zi a1, zi 0, zi c, zu] [] s1 (fun r' s' => r' = -6 ∧ zinv s') := by
            intro n
            induction n with
            | zero =>
              intro c hn c0 c1
              have hce : c = i := by omega
              subst hce
              apply TX12_table_18 <;> (try rw [e113]) <;> (try rw [e115]) <;> (try (intros; omega))
              intros
              refine ⟨rfl, ?_⟩
              rw [← hs1]
              exact zno hi rfl rfl rfl (by decide)
            | succ n ihn =>
              intro c hn c0 c1
              have hb := hall c c0 (by omega)
              apply TX12_table_18 <;> (try rw [e113]) <;> (try rw [e115]) <;> (try (intros; omega))
              intros
              exact ihn (c + 1) (by omega) (by omega) (by omega)
          exact check _ 0 rfl (by omega) (by omega)
    exact loop _ 0 rfl (by omega) (by omega) (fun j j0 j1 => by omega)
  · have hrb : -3 ≤ r ∧ r < 0 := by unfold zrt at hr; omega
    apply TX11_table_5 <;> (try (intros; omega))
    intro _
    generalize hs1 : zup σ 97 (-r) (zW (σ 97 (-r) + 1)) = s1
    have f1 : zfr [(97, none)] s1 σ := by rw [← hs1]; exact zfr_uA rfl zfr_0
    refine TX12_table (okX12_wants (zshv_ke (zfr_sm f1 rfl) hv) (fun r' hr' => ?_))
    have hr0 : r' = r := by unfold zrt at hr' hr; rw [zfr_row (q := 111) f1 rfl] at hr'; omega
    subst hr0
    apply TX12_table_5 <;> (try (intros; omega))
    intro _
    refine ⟨rfl, ?_⟩
    rw [← hs1]
    exact zno hi rfl rfl rfl (by omega)
/-- sums of entries: how large -/
theorem zsum_b (hi : zinv σ) (h y : Int) : ∀ k : Nat, (k : Int) ≤ σ 98 7 → (-1000000 * k - zdv σ k ≤ zsum σ h y k ∧ zsum σ h y k ≤ 1000000 * k) ∧ 0 ≤ zdv σ k := by
  have hs := g_zsms hi
  intro k
  induction k with
  | zero => intro _; exact ⟨by unfold zsum zdv; omega, by unfold zdv; omega⟩
  | succ k ih =>
    intro hk
    have h1 := ih (by omega)
    have he := hs.1 (k : Int) (by omega) (by omega)
    have e1 : zsum σ h y (k + 1) = zsum σ h y k + if σ 149 (k : Int) = h ∧ σ 148 (k : Int) = y then σ 150 (k : Int) else 0 := rfl
    have e2 : zdv σ (k + 1) = zdv σ k + if σ 149 (k : Int) = 2 then - σ 150 (k : Int) else 0 := rfl
    refine ⟨?_, ?_⟩
    · rw [e1, e2]
      by_cases c : σ 149 (k : Int) = 2
      · have := he.2.2 c
        rw [if_pos c]
        split <;> omega
      · have := he.2.1 c
        rw [if_neg c]
        split <;> omega
    · rw [e2]
      by_cases c : σ 149 (k : Int) = 2
      · have := he.2.2 c
        rw [if_pos c]; omega
      · rw [if_neg c]; omega
theorem zsums_b (hi : zinv σ) {h y : Int} (hh : 0 ≤ h ∧ h < 4) (hy : 0 ≤ y ∧ y < 110) : -800000000 ≤ σ 80 (110 * h + y) ∧ σ 80 (110 * h + y) ≤ 400000000 := by
  have hs := g_zsms hi
  have hc := g_zche hi
  have hn := hc.2.2.1
  have hb := zsum_b hi h y (σ 98 7).toNat (by omega)
  rw [hs.2.1 h y hh.1 hh.2 hy.1 hy.2]
  have := hs.2.2
  have := hc.2.2.2
  omega
/-- an entry more -/
theorem zentry {t : zS} {h y v : Int} (hi : zinv σ) (hn : σ 98 7 < 400) (hh : 0 ≤ h ∧ h < 4) (hy : 0 ≤ y ∧ y < 110) (hv : h ≠ 2 → -1000000 ≤ v ∧ v ≤ 1000000) (hv2 : h = 2 → v ≤ 0) (hc : 0 ≤ σ 98 8 + v)
    (t3 : t 79 3 = σ 98 8 + v) (t4 : t 79 4 = σ 98 7 + 1) (t7 : t 98 7 = σ 98 7 + 1) (t8 : t 98 8 = σ 98 8 + v) (t148 : ∀ j, t 148 j = if j = σ 98 7 then y else σ 148 j) (t149 : ∀ j, t 149 j = if j = σ 98 7 then h else σ 149 j) (t150 : ∀ j, t 150 j = if j = σ 98 7 then v else σ 150 j)
    (t80 : ∀ j, t 80 j = if j = 110 * h + y then σ 80 j + v else σ 80 j) : zche t ∧ zsms t := by
  have hs := g_zsms hi
  have hk := g_zche hi
  have hn0 := hk.2.2.1
  have hb := (zsum_b hi h y (σ 98 7).toNat (by omega)).2
  have old : ∀ (h' y' : Int) (k : Nat), (k : Int) ≤ σ 98 7 → zsum t h' y' k = zsum σ h' y' k ∧ zdv t k = zdv σ k := by
    intro h' y' k
    induction k with
    | zero => intro _; exact ⟨rfl, rfl⟩
    | succ k ih =>
      intro hk
      have h1 := ih (by omega)
      have e1 : ∀ s : zS, zsum s h' y' (k + 1) = zsum s h' y' k + if s 149 (k : Int) = h' ∧ s 148 (k : Int) = y' then s 150 (k : Int) else 0 := fun _ => rfl
      have e2 : ∀ s : zS, zdv s (k + 1) = zdv s k + if s 149 (k : Int) = 2 then - s 150 (k : Int) else 0 := fun _ => rfl
      have q148 : t 148 (k : Int) = σ 148 (k : Int) := by rw [t148, if_neg (by omega)]
      have q149 : t 149 (k : Int) = σ 149 (k : Int) := by rw [t149, if_neg (by omega)]
      have q150 : t 150 (k : Int) = σ 150 (k : Int) := by rw [t150, if_neg (by omega)]
      rw [e1, e1, e2, e2, h1.1, h1.2, q148, q149, q150]
      exact ⟨rfl, rfl⟩
  have en : (σ 98 7 + 1).toNat = (σ 98 7).toNat + 1 := by omega
  have ec : ((σ 98 7).toNat : Int) = σ 98 7 := by omega
  have new1 : ∀ h' y', zsum t h' y' (σ 98 7 + 1).toNat = zsum σ h' y' (σ 98 7).toNat + if h = h' ∧ y = y' then v else 0 := by
    intro h' y'
    rw [en]
    show zsum t h' y' (σ 98 7).toNat + (if t 149 ((σ 98 7).toNat : Int) = h' ∧ t 148 ((σ 98 7).toNat : Int) = y' then t 150 ((σ 98 7).toNat : Int) else 0) = _
    rw [(old h' y' _ (by omega)).1, ec, t148, t149, t150, if_pos rfl, if_pos rfl, if_pos rfl]
  have new2 : zdv t (σ 98 7 + 1).toNat = zdv σ (σ 98 7).toNat + if h = 2 then -v else 0 := by
    rw [en]
    show zdv t (σ 98 7).toNat + (if t 149 ((σ 98 7).toNat : Int) = 2 then - t 150 ((σ 98 7).toNat : Int) else 0) = _
    rw [(old 0 0 _ (by omega)).2, ec, t149, t150, if_pos rfl, if_pos rfl]
  have hs2 := hs.2.2
  have third : σ 98 8 + v + (zdv σ (σ 98 7).toNat + if h = 2 then -v else 0) ≤ 1000000 * (σ 98 7 + 1) := by
    by_cases c : h = 2
    · rw [if_pos c]; omega
    · have := hv c
      rw [if_neg c]; omega
  refine ⟨⟨by rw [t3, t8], by rw [t4, t7], by rw [t7]; omega, by rw [t8]; exact hc, ?_⟩, fun e e0 e1 => ?_, fun h' y' h0 h1 y0 y1 => ?_, ?_⟩
  · rw [t7, t8]
    have : 0 ≤ zdv σ (σ 98 7).toNat + if h = 2 then -v else 0 := by
      by_cases c : h = 2
      · have := hv2 c
        rw [if_pos c]; omega
      · rw [if_neg c]; omega
    omega
  · rw [t7] at e1
    rw [t148, t149, t150]
    by_cases c : e = σ 98 7
    · simp only [if_pos c]
      exact ⟨hy, hv, hv2⟩
    · simp only [if_neg c]
      exact hs.1 e e0 (by omega)
  · rw [t7, new1, t80, hs.2.1 h' y' h0 h1 y0 y1]
    by_cases c : h = h' ∧ y = y'
    · rw [if_pos c, if_pos (by omega)]
    · rw [if_neg c, if_neg (by omega), Int.add_zero]
  · rw [t7, t8, new2]
    exact third
/-- this year -/
theorem zyear (hi : zinv σ) : zdiv (σ 98 0) 365 = σ 98 0 / 365 ∧ 0 ≤ σ 98 0 / 365 ∧ σ 98 0 / 365 < 110 := by
  have hn := (g_zcnow hi).2
  rw [zdiv365 hn.1 (by omega)]
  exact ⟨rfl, by omega, by omega⟩
theorem st_other {a1 : Int} (hi : zinv σ) : zst2 G MX11_other [zr 0, zi a1] MX12_other [zr 98, zi a1] σ := by
  have hc := g_zche hi
  have hn := g_zcnow hi
  have hy := zyear hi
  have e0 : σ 0 13 = σ 98 0 := hn.1
  have c1 := hc.1
  have c2 := hc.2.1
  have c3 := hc.2.2.1
  have c4 := hc.2.2.2
  have hsb := zsums_b hi (h := 3) (y := σ 98 0 / 365) (by omega) hy.2
  apply TX11_other <;> (try rw [e0]) <;> (try rw [hy.1]) <;> (try (intros; omega))
  · intro h1 h2 h3
    apply TX12_other <;> (try simp (disch := decide) only [zup_of, zup_oi, zup_same]) <;> (try rw [hy.1]) <;> (try (intros; omega))
    intros
    refine ⟨by omega, ?_⟩
    have f : zfr [(79, some 3), (79, some 4), (80, none), (148, none), (149, none), (98, some 7), (150, none), (98, some 8)] (zup (zup (zup (zup (zup (zup (zup (zup σ 79 3 (σ 79 3 + a1)) 79 4 (σ 79 4 + 1)) 80 (110 * 3 + σ 98 0 / 365) (σ 80 (110 * 3 + σ 98 0 / 365) + a1)) 148 (σ 98 7) (σ 98 0 / 365)) 149 (σ 98 7) 3) 98 7 (σ 98 7 + 1)) 150 (σ 98 7) a1) 98 8 (σ 98 8 + a1)) σ := (by repeat (first | exact zfr_0 | refine zfr_uF rfl ?_ | refine zfr_uA rfl ?_ | refine zfr_cp rfl ?_ | refine zfr_fl rfl ?_ | refine zfr_s0 rfl (by omega) ?_ | refine zfr_sl rfl (by omega) ?_ | refine zfr_sc rfl (by omega) ?_))
    have key := zentry (t := (zup (zup (zup (zup (zup (zup (zup (zup σ 79 3 (σ 79 3 + a1)) 79 4 (σ 79 4 + 1)) 80 (110 * 3 + σ 98 0 / 365) (σ 80 (110 * 3 + σ 98 0 / 365) + a1)) 148 (σ 98 7) (σ 98 0 / 365)) 149 (σ 98 7) 3) 98 7 (σ 98 7 + 1)) 150 (σ 98 7) a1) 98 8 (σ 98 8 + a1))) (h := 3) (y := σ 98 0 / 365) (v := a1) hi (by omega) (by omega) hy.2 (fun _ => by omega) (by omega) (by omega) (by (try simp (disch := decide) only [zup_of, zup_oi, zup_same]); omega) (by (try simp (disch := decide) only [zup_of, zup_oi, zup_same]); omega) (by (try simp (disch := decide) only [zup_of, zup_oi, zup_same])) (by (try simp (disch := decide) only [zup_of, zup_oi, zup_same])) (fun j => by ((try simp (disch := decide) only [zup_of, zup_oi, zup_same]) <;> (try simp only [zup_at]) <;> (try simp (disch := decide) only [zup_of, zup_oi, zup_same]) <;> (try simp only [zup_at]) <;> (try simp (disch := decide) only [zup_of, zup_oi, zup_same]) <;> (try simp only [zup_at]) <;> (try simp (disch := decide) only [zup_of, zup_oi, zup_same]))) (fun j => by ((try simp (disch := decide) only [zup_of, zup_oi, zup_same]) <;> (try simp only [zup_at]) <;> (try simp (disch := decide) only [zup_of, zup_oi, zup_same]) <;> (try simp only [zup_at]) <;> (try simp (disch := decide) only [zup_of, zup_oi, zup_same]) <;> (try simp only [zup_at]) <;> (try simp (disch := decide) only [zup_of, zup_oi, zup_same]))) (fun j => by ((try simp (disch := decide) only [zup_of, zup_oi, zup_same]) <;> (try simp only [zup_at]) <;> (try simp (disch := decide) only [zup_of, zup_oi, zup_same]) <;> (try simp only [zup_at]) <;> (try simp (disch := decide) only [zup_of, zup_oi, zup_same]) <;> (try simp only [zup_at]) <;> (try simp (disch := decide) only [zup_of, zup_oi, zup_same]))) (fun j => by
      ((try simp (disch := decide) only [zup_of, zup_oi, zup_same]) <;> (try simp only [zup_at]) <;> (try simp (disch := decide) only [zup_of, zup_oi, zup_same]) <;> (try simp only [zup_at]) <;> (try simp (disch := decide) only [zup_of, zup_oi, zup_same]) <;> (try simp only [zup_at]) <;> (try simp (disch := decide) only [zup_of, zup_oi, zup_same]))
      by_cases e : j = 110 * 3 + σ 98 0 / 365
      · rw [if_pos e, if_pos e, e]
      · rw [if_neg e, if_neg e])
    apply zinv_fr f hi <;> (try (intro h; exact absurd h (by decide)))
    · exact fun _ => key.1
    · exact fun _ => key.2
  all_goals (intros; apply TX12_other <;> (try simp (disch := decide) only [zup_of, zup_oi, zup_same]) <;> (try (intros; omega)) <;> (try (intros; exact ⟨by first | trivial | omega, zno hi (by first | decide | omega) rfl rfl (by first | decide | omega)⟩)))
end CH
