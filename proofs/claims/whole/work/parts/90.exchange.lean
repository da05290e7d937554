/-! CALLS: exchange -/
theorem zit_inj {f : Int → Int} {C : Int → Prop} (h : zring f C) {x y : Int} (hx : C x) (hy : C y) (e : f x = f y) : x = y := by
  obtain ⟨a, ha⟩ := h.2.2 (f x) x (h.2.1 x hx) hx
  obtain ⟨b, hb⟩ := h.2.2 (f y) y (h.2.1 y hy) hy
  rw [← e] at hb
  have pa : zit f (a + 1) (f x) = f x := by rw [zit_s, ha]
  have pb : zit f (b + 1) (f x) = f x := by rw [zit_s, hb, e]
  have ea : zit f ((a + 1) * b + a) (f x) = x := by rw [zit_add, zper_mul pa, ha]
  have eb : zit f ((b + 1) * a + b) (f x) = y := by rw [zit_add, zper_mul pb, hb]
  rw [← ea, ← eb, show (a + 1) * b + a = (b + 1) * a + b from by rw [Nat.succ_mul, Nat.succ_mul, Nat.mul_comm]; omega]
theorem zTtc_bi {F : (Int → Prop) → Int → Int} {m : Int → Int} : ∀ (n : Nat) (S : Int → Prop), zTtc F m n S → (∀ x, S x → S (m x)) ∧ ∀ x y, S x → S y → m x = m y → x = y := by
  intro n
  induction n with
  | zero => exact fun S h => ⟨fun x hx => absurd hx (h x), fun x _ hx _ _ => absurd hx (h x)⟩
  | succ n ih =>
    intro S h
    rcases h with h | ⟨C, hC, hCS, hCm, hT⟩
    · exact ⟨fun x hx => absurd hx (h x), fun x _ hx _ _ => absurd hx (h x)⟩
    · obtain ⟨h1, h2⟩ := ih _ hT
      have mC : ∀ x, C x → C (m x) := fun x hx => by rw [hCm x hx]; exact hC.2.1 x hx
      refine ⟨fun x hx => ?_, fun x y hx hy e => ?_⟩
      · by_cases c : C x
        · exact hCS _ (mC x c)
        · exact (h1 x ⟨hx, c⟩).1
      · by_cases c : C x <;> by_cases d : C y
        · rw [hCm x c, hCm y d] at e
          exact zit_inj hC c d e
        · have := mC x c
          rw [e] at this
          exact absurd this (h1 y ⟨hy, d⟩).2
        · have := mC y d
          rw [← e] at this
          exact absurd this (h1 x ⟨hx, c⟩).2
        · exact h2 x y ⟨hx, c⟩ ⟨hy, d⟩ e
section XC
variable {G : zG} {σ : zS}
theorem st_exchange (hi : zinv σ) : zst2 G MX11_exchange [zr 0] MX12_exchange [zr 98] σ := by
  have hr := g_zrms hi
  have hpp := g_zppl hi
  have hp : 0 ≤ σ 98 1 ∧ σ 98 1 ≤ 24 := by have := hpp.1; have := hpp.2.1; omega
  have hws := g_zwsh hi
  have hlim := (g_zlim hi).2.2
  refine TX11_exchange (okX8_exchangeAll hp hr hws hlim (fun s n m fs hT hm ho => TX11_exchange_7 ?_))
  have sp : s 98 1 = σ 98 1 := zfr_at fs rfl
  have s138 : s 138 = σ 138 := zfr_row fs rfl
  have hrs : zrdq s := fun w v a b c => by rw [s138]; exact hr.2.2 w v a b c
  refine okX12_exchange (by rw [sp]; exact hp) hrs (zwsh_ke (zfr_sm fs rfl) hws) (fun u n' m' fu hT' hm' ho' => ?_)
  obtain ⟨e0, eF⟩ := zF_cg (s := s) hp.2 hr.2.2 sp s138 (zfr_row fs rfl) (zfr_row fs rfl)
  rw [eF, e0] at hT'
  rw [e0, s138] at hm' ho'
  have one := zTtc_one (zF_hold hp.2 hr.2.2) n' n (zS0 σ) hT hT'
  have u95 : u 95 = s 95 := zfr_row fu rfl
  have same : ∀ w, 0 ≤ w → w < 24 → u 138 w = s 95 w := by
    intro w w0 w1
    by_cases c : zS0 σ w
    · rw [hm' w c, hm w c, one w c]
    · rw [ho' w c, ho w c, (hr.2.1 w w0 w1).1]
  refine ⟨?_, ?_⟩
  · rw [sp, s138]
    exact zps_cg (fun v v0 v1 => by rw [same v v0 (by omega)])
  · have f : zfr [(95, none), (96, none), (138, none), (176, none), (177, none), (178, none)] u σ := zfr_tr (zfr_mo rfl fs) (zfr_mo rfl fu)
    have none : ∀ w, 0 ≤ w → w < 24 → ¬ zS0 σ w → u 138 w = -1 := by
      intro w w0 w1 c
      rw [ho' w c]
      by_cases d : σ 98 1 ≤ w
      · exact (hr.2.1 w w0 w1).2.2 d
      · by_cases e : σ 138 w = -1
        · exact e
        · exact absurd ⟨⟨w0, by omega⟩, e⟩ c
    obtain ⟨b1, b2⟩ := zTtc_bi n (zS0 σ) hT
    apply zinv_fr f hi <;> (try (intro h; exact absurd h (by decide)))
    intro _
    unfold zrms
    rw [zfr_at (q := 94) (j := 4) f rfl, zfr_at (q := 98) (j := 9) f rfl, zfr_at (q := 98) (j := 1) f rfl]
    refine ⟨hr.1, fun w w0 w1 => ⟨by rw [u95, same w w0 w1], ?_, fun h => none w w0 w1 (fun z => by have := z.1; omega)⟩, fun w v w0 wv v1 hn => ?_⟩
    · by_cases c : zS0 σ w
      · rw [same w w0 w1, hm w c]
        have := (b1 w c).1
        exact (hr.2.1 (m w) this.1 (by omega)).2.1
      · rw [none w w0 w1 c]
        have := hr.1
        omega
    · have cw : zS0 σ w := by
        by_cases c : zS0 σ w
        · exact c
        · exact absurd (none w w0 (by omega) c) hn
      rw [same w w0 (by omega), hm w cw]
      by_cases cv : zS0 σ v
      · rw [same v (by omega) v1, hm v cv]
        intro e
        have h1 := zinj hp.2 hr.2.2 (b1 w cw) (b1 v cv) e
        have h2 := b2 w v cw cv h1
        omega
      · rw [none v (by omega) v1 cv]
        exact (b1 w cw).2
end XC
