/-! CALLS: lives -/
theorem zm_pow : ∀ k : Nat, k < 25 → zshl 1 (k : Int) = ((2 ^ k : Nat) : Int) ∧ 2 ^ k ≤ 16777216 := by decide +kernel
/-- the bits of x are all below p -/
theorem zm_rng {x p : Int} (hx : zIn x) (p0 : 0 ≤ p) (p1 : p ≤ 24) : zushr x p = 0 ↔ 0 ≤ x ∧ x < zshl 1 p := by
  obtain ⟨k, rfl⟩ : ∃ k : Nat, p = (k : Int) := ⟨p.toNat, by omega⟩
  have hp := zm_pow k (by omega)
  rw [hp.1]
  by_cases h : 0 ≤ x
  · obtain ⟨n, rfl⟩ : ∃ n : Nat, x = (n : Int) := ⟨x.toNat, by omega⟩
    have hn : n < 2147483648 := by unfold zIn at hx; omega
    rw [zNa_ushr hn (by omega)]
    have h2 : n / 2 ^ k = 0 ↔ n < 2 ^ k := Nat.div_eq_zero_iff_lt (Nat.two_pow_pos k)
    omega
  · refine ⟨fun z => ?_, fun z => absurd z.1 h⟩
    have hb : zIn x := hx
    unfold zushr at z
    rw [zb_nI (show (0 : Int) ≤ (k : Int) by omega)] at z
    have z2 : ((Int32.ofInt x).toUInt32 >>> ((nI k).toUInt32 &&& Int32.toUInt32 31)).toBitVec.toInt = 0 := z
    have e : ((Int32.ofInt x).toUInt32 >>> ((nI k).toUInt32 &&& Int32.toUInt32 31)).toBitVec.toNat = (Int32.ofInt x).toBitVec.toNat / 2 ^ k := by
      rw [UInt32.toBitVec_shiftRight]
      show ((Int32.ofInt x).toBitVec >>> (((nI k).toUInt32 &&& Int32.toUInt32 31).toBitVec % 32).toNat).toNat = _
      rw [s_u k (by omega), BitVec.toNat_ushiftRight, Nat.shiftRight_eq_div_pow]
    have t : (Int32.ofInt x).toBitVec.toNat = (x + 4294967296).toNat := by
      show (BitVec.ofInt 32 x).toNat = _
      rw [BitVec.toNat_ofInt]
      unfold zIn at hb
      omega
    rw [BitVec.toInt_eq_toNat_cond, e, t] at z2
    unfold zIn at hb
    have h3 : 0 < (x + 4294967296).toNat / 2 ^ k := Nat.div_pos (by omega) (Nat.two_pow_pos k)
    have h4 : (x + 4294967296).toNat / 2 ^ k ≤ (x + 4294967296).toNat := Nat.div_le_self _ _
    split at z2 <;> omega
/-- a number that is not 0 has a bit -/
theorem zb_ex {x : Int} (hx : zIn x) (h : x ≠ 0) : ∃ j, (0 ≤ j ∧ j < 32) ∧ zbit x j := by
  by_cases c : ∃ j, (0 ≤ j ∧ j < 32) ∧ zbit x j
  · exact c
  · exact absurd (zb_ext hx zIn_0 (fun j a b => ⟨fun z => absurd ⟨j, ⟨a, b⟩, z⟩ c, fun z => absurd z (zb_0 j)⟩)) h
theorem zpop_0 : zpop 0 = 0 := by decide +kernel
section LV
variable {G : zG} {σ : zS}
theorem st_lives {a1 a2 a3 a4 a5 : Int} (hi : zinv σ) : zst2 G MX11_lives [zr 0, zi a1, zi a2, zi a3, zi a4, zi a5] MX12_lives [zr 98, zi a1, zi a2, zi a3, zi a4, zi a5] σ := by
  refine zO_in (fun hargs _ => ?_)
  have hin : zIn a5 := hargs (zi a5) (by simp)
  have hl := g_zlse hi
  have ha := g_zlea hi
  have hc := hl.1
  have h8 := ha.2.1
  have hp := g_zppl hi
  have hn := hp.1
  have hpc : σ 22 12 = σ 98 1 := hp.2.1
  have hr := zm_rng (p := σ 98 1) hin (by omega) (by omega)
  have hmod : ∀ (s : zS) (Q : Int → zS → Prop), (∀ r, (r = 1 ∧ (1 ≤ a1 ∧ a1 ≤ 9999) ∧ (0 ≤ a2 ∧ a2 ≤ 999) ∧ (0 ≤ a3 ∧ a3 ≤ 999) ∧ (0 ≤ a4 ∧ a4 ≤ 51)) ∨ (r = 0 ∧ ¬ ((1 ≤ a1 ∧ a1 ≤ 9999) ∧ (0 ≤ a2 ∧ a2 ≤ 999) ∧ (0 ≤ a3 ∧ a3 ≤ 999) ∧ (0 ≤ a4 ∧ a4 ≤ 51))) → Q r s) → zO G MX12_isLease [zi a1, zi a2, zi a3, zi a4] s Q := by
    intro s Q kq
    apply TX12_isLease
    · intros
      exact kq 1 (Or.inl ⟨rfl, by omega⟩)
    · intro h
      exact kq 0 (Or.inr ⟨rfl, by omega⟩)
  by_cases hR : 0 ≤ a5 ∧ a5 < zshl 1 (σ 98 1)
  · have hz := hr.mpr hR
    have hp2 := zm_pow (σ 98 1).toNat (by omega)
    rw [show (((σ 98 1).toNat : Nat) : Int) = σ 98 1 from by omega] at hp2
    have h24 : a5 < 16777216 := by omega
    have hbel := (zb_sh0 (x := a5) hin (show 0 ≤ σ 98 1 by omega) (by omega)).mp hz
    apply TX11_lives <;> (try rw [hpc]) <;> (try simp (disch := decide) only [zup_of, zup_oi, zup_same]) <;> (try (intros; omega))
    · intro _ hL
      refine okJ6_bitCount ⟨hR.1, h24⟩ ?_
      by_cases hN : 1 ≤ zpop a5 ∧ zpop a5 ≤ 3
      · apply TX11_lives_34 <;> (try simp (disch := decide) only [zup_of, zup_oi, zup_same]) <;> (try (intros; omega))
        · intro _ _
          apply TX12_lives <;> (try simp (disch := decide) only [zup_of, zup_oi, zup_same]) <;> (try (intros; omega))
          intro _ _
          refine hmod _ _ (fun r hr' => ?_)
          apply TX12_lives_30 <;> (try simp (disch := decide) only [zup_of, zup_oi, zup_same]) <;> (try (intros; omega))
          intro _
          refine okX12_bits ?_
          apply TX12_lives_38 <;> (try simp (disch := decide) only [zup_of, zup_oi, zup_same]) <;> (try (intros; omega))
          intro _
          refine okX12_bits ?_
          apply TX12_lives_47 <;> (try simp (disch := decide) only [zup_of, zup_oi, zup_same]) <;> (try (intros; omega))
          intros
          refine ⟨by omega, ?_⟩
          rw [hc]
          have f : zfr [(75, none), (69, none), (70, none), (71, none), (72, none), (68, some 11), (139, none), (140, none), (141, none), (142, none), (143, none), (144, none), (145, none), (98, some 5)] (zup (zup (zup (zup (zup (zup (zup (zup (zup (zup (zup (zup (zup (zup σ 75 (σ 98 5) a5) 69 (σ 98 5) a1) 70 (σ 98 5) a2) 71 (σ 98 5) a3) 72 (σ 98 5) a4) 68 11 (σ 98 5 + 1)) 139 (σ 98 5) a1) 140 (σ 98 5) a2) 141 (σ 98 5) a3) 142 (σ 98 5) a4) 143 (σ 98 5) 0) 144 (σ 98 5) 0) 145 (σ 98 5) a5) 98 5 (σ 98 5 + 1)) σ := (by repeat (first | exact zfr_0 | refine zfr_uF rfl ?_ | refine zfr_uA rfl ?_ | refine zfr_cp rfl ?_ | refine zfr_fl rfl ?_ | refine zfr_s0 rfl (by omega) ?_ | refine zfr_sl rfl (by omega) ?_ | refine zfr_sc rfl (by omega) ?_))
          apply zinv_fr f hi <;> (try (intro h; exact absurd h (by decide)))
          · intro _
            unfold zlea
            ((try simp (disch := decide) only [zup_of, zup_oi, zup_same]) <;> (try simp only [zup_at]) <;> (try simp (disch := decide) only [zup_of, zup_oi, zup_same]) <;> (try simp only [zup_at]) <;> (try simp (disch := decide) only [zup_of, zup_oi, zup_same]) <;> (try simp only [zup_at]) <;> (try simp (disch := decide) only [zup_of, zup_oi, zup_same]))
            refine ⟨ha.1, by omega, fun l l0 l1 => ?_⟩
            by_cases e : l = σ 98 5
            · simp only [if_pos e]
              omega
            · simp only [if_neg e]
              exact ha.2.2 l l0 (by omega)
          · intro _
            unfold zlse zls1 zlsC zlif
            ((try simp (disch := decide) only [zup_of, zup_oi, zup_same]) <;> (try simp only [zup_at]) <;> (try simp (disch := decide) only [zup_of, zup_oi, zup_same]) <;> (try simp only [zup_at]) <;> (try simp (disch := decide) only [zup_of, zup_oi, zup_same]) <;> (try simp only [zup_at]) <;> (try simp (disch := decide) only [zup_of, zup_oi, zup_same]))
            refine ⟨by trivial, fun l l0 l1 => ?_, fun l l0 l1 l2 => ?_⟩
            · by_cases e : l = σ 98 5
              · simp only [if_pos e]
                have hne : a5 ≠ 0 := by
                  intro z
                  rw [z, zpop_0] at hN
                  omega
                have hne2 : a5 = 0 → False := hne
                refine ⟨⟨by trivial, fun z => absurd z hne2, by trivial, by trivial, by trivial, by trivial⟩, by omega, by omega, fun _ => ?_, fun w w0 w1 hb => ?_⟩
                · obtain ⟨j, j0, jb⟩ := zb_ex hin hne
                  refine ⟨j, ⟨j0.1, ?_⟩, jb⟩
                  by_cases z : j < σ 98 1
                  · exact z
                  · exact absurd jb (hbel j (by omega) j0.2)
                · by_cases z : w < σ 98 1
                  · exact z
                  · exact absurd hb (hbel w (by omega) w1)
              · simp only [if_neg e]
                exact hl.2.1 l l0 (by omega)
            · rw [if_neg (by omega)]
              exact hl.2.2 l l0 l1 (by omega)
        · intro _ _
          apply TX12_lives <;> (try simp (disch := decide) only [zup_of, zup_oi, zup_same]) <;> (try (intros; omega))
          intro _ _
          refine hmod _ _ (fun r hr' => ?_)
          apply TX12_lives_30 <;> (try simp (disch := decide) only [zup_of, zup_oi, zup_same]) <;> (try (intros; omega))
          intro _
          refine okX12_bits ?_
          apply TX12_lives_38 <;> (try simp (disch := decide) only [zup_of, zup_oi, zup_same]) <;> (try (intros; omega))
          intro _
          refine okX12_bits ?_
          apply TX12_lives_47 <;> (try simp (disch := decide) only [zup_of, zup_oi, zup_same]) <;> (try (intros; omega)) <;> (try (intros; exact ⟨by first | trivial | omega, zno hi (by decide) rfl rfl (by decide)⟩))
      · apply TX11_lives_34 <;> (try simp (disch := decide) only [zup_of, zup_oi, zup_same]) <;> (try (intros; omega))
        intro _
        apply TX12_lives <;> (try simp (disch := decide) only [zup_of, zup_oi, zup_same]) <;> (try (intros; omega))
        intro _ _
        refine hmod _ _ (fun r hr' => ?_)
        apply TX12_lives_30 <;> (try simp (disch := decide) only [zup_of, zup_oi, zup_same]) <;> (try (intros; omega))
        intro _
        refine okX12_bits ?_
        apply TX12_lives_38 <;> (try simp (disch := decide) only [zup_of, zup_oi, zup_same]) <;> (try (intros; omega)) <;> (try (intros; exact ⟨by first | trivial | omega, zno hi (by decide) rfl rfl (by decide)⟩))
        intro _
        refine okX12_bits ?_
        apply TX12_lives_47 <;> (try simp (disch := decide) only [zup_of, zup_oi, zup_same]) <;> (try (intros; omega)) <;> (try (intros; exact ⟨by first | trivial | omega, zno hi (by decide) rfl rfl (by decide)⟩))
    · intro _ hL
      apply TX12_lives <;> (try simp (disch := decide) only [zup_of, zup_oi, zup_same]) <;> (try (intros; omega))
      intro _ _
      refine hmod _ _ (fun r hr' => ?_)
      apply TX12_lives_30 <;> (try simp (disch := decide) only [zup_of, zup_oi, zup_same]) <;> (try (intros; omega)) <;> (try (intros; exact ⟨by first | trivial | omega, zno hi (by decide) rfl rfl (by decide)⟩))
  · have hz : ¬ zushr a5 (σ 98 1) = 0 := fun z => hR (hr.mp z)
    apply TX11_lives <;> (try rw [hpc]) <;> (try simp (disch := decide) only [zup_of, zup_oi, zup_same]) <;> (try (intros; omega))
    intro _
    apply TX12_lives <;> (try simp (disch := decide) only [zup_of, zup_oi, zup_same]) <;> (try (intros; omega)) <;> (try (intros; exact ⟨by first | trivial | omega, zno hi (by decide) rfl rfl (by decide)⟩))
end LV
