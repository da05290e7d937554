section ZJ
variable {G : zG} {M : zM} {pc : Nat} {ls st : List zV} {σ : zS} {Q : Int → zS → Prop}
theorem z_alenJ {q n : Nat} {rs : List (Option Nat)} (hsh : zsh q = (2, n, rs)) (hn : n < 2147483648) (d : decode (zMb M) pc = .ok (.arraylength, 1))
    (kk : zR G M (pc + 1) ls (zi n :: st) σ Q) : zR G M pc ls (zr q :: st) σ Q := by
  intro hl0 hs hw p e s m args below meth c C H locs lsr hP hS hL
  obtain ⟨hx, hb, hrt, hml, hown, hts, hlocks, hK, hinj⟩ := id C
  refine va_alen hx hb hK hP q 2 (by rw [zwd_get (zsh_lt hsh (by decide)), zcl_J hsh]) rfl (v := Int32.ofInt n) ?_ d
    (kk hl0 (zki (by unfold zIn; omega) (zkt hs)) hw p e s m args below meth c C H locs lsr hP hS hL)
  exact (Int32.ofInt_eq_ofNat ..).symm
end ZJ
set_option maxRecDepth 20000 in
theorem TJ7_fill_53178 {G : zG} {σ : zS} {Q : Int → zS → Prop} {a2 : Int} {a1 a1n : Nat} (ha1 : zsh a1 = (0, a1n, [])) (k1 : a1n < 2147483648) (k2 : zR G MJ7_fill_53178 5 [zr a1, zi a2, zi 0, zi (a1n : Int)] [] σ Q) : zO G MJ7_fill_53178 [zr a1, zi a2] σ Q := by
  refine zO_of (ls0 := [zr a1, zi a2, zu, zu]) (by decide) (Nat.le_of_ble_eq_true rfl) rfl ?_
  refine z_iconst dJ7_fill_53178_0 (by unfold zIn; decide) ?_
  refine z_istore_n (ls' := [zr a1, zi a2, zi 0, zu]) dJ7_fill_53178_1 rfl (by decide) rfl ?_
  refine z_aload_n dJ7_fill_53178_2 rfl rfl ?_
  have s1 : a1n < 2147483648 := k1
  refine z_alen ha1 s1 dJ7_fill_53178_3 ?_
  refine z_istore_n (ls' := [zr a1, zi a2, zi 0, zi (a1n : Int)]) dJ7_fill_53178_4 rfl (by decide) rfl ?_
  exact k2
set_option maxRecDepth 20000 in
theorem TJ7_fill_53178_5 {G : zG} {σ : zS} {Q : Int → zS → Prop} {v1 v2 v3 : Int} {a1 a1n : Nat} (ha1 : zsh a1 = (0, a1n, [])) (k1 : (v3 ≤ v2) → Q 0 σ) (k2 : (v2 < v3) → (0 : Int) ≤ v2 ∧ v2 < (a1n : Int)) (k3 : (v2 < v3) → -2147483648 ≤ v2 + 1 ∧ v2 + 1 < (2147483648 : Int)) (k4 : (v2 < v3) → zR G MJ7_fill_53178 5 [zr a1, zi v1, zi (v2 + 1), zi v3] [] (zup σ a1 v2 v1) Q) : zR G MJ7_fill_53178 5 [zr a1, zi v1, zi v2, zi v3] [] σ Q := by
  refine z_iload_n dJ7_fill_53178_5 rfl rfl ?_
  refine z_iload_n dJ7_fill_53178_6 rfl rfl ?_
  refine z_icmp_ge dJ7_fill_53178_7 (tgt := 20) (by decide) (fun h1 => ?_) (fun h1 => ?_)
  · skip
    exact z_vret rfl dJ7_fill_53178_20 (k1 h1)
  · skip
    refine z_aload_n dJ7_fill_53178_10 rfl rfl ?_
    refine z_iload_n dJ7_fill_53178_11 rfl rfl ?_
    refine z_iload_n dJ7_fill_53178_12 rfl rfl ?_
    have s2 : (0 : Int) ≤ v2 ∧ v2 < (a1n : Int) := k2 h1
    refine z_iast ha1 s2.1 s2.2 dJ7_fill_53178_13 ?_
    have s3 : -2147483648 ≤ v2 + 1 ∧ v2 + 1 < (2147483648 : Int) := k3 h1
    refine z_iincN (ls' := [zr a1, zi v1, zi (v2 + 1), zi v3]) dJ7_fill_53178_14 rfl (by decide) s3 rfl ?_
    refine z_goto dJ7_fill_53178_17 (tgt := 5) (by decide) ?_
    exact k4 h1
set_option maxRecDepth 20000 in
theorem TJ7_fill_d0a16 {G : zG} {σ : zS} {Q : Int → zS → Prop} {a2 : Int} {a1 a1n : Nat} (ha1 : zsh a1 = (2, a1n, [])) (k1 : a1n < 2147483648) (k2 : zR G MJ7_fill_d0a16 6 [zr a1, zl a2, zu, zi 0, zi (a1n : Int)] [] σ Q) : zO G MJ7_fill_d0a16 [zr a1, zl a2] σ Q := by
  refine zO_of (ls0 := [zr a1, zl a2, zu, zu, zu]) (by decide) (Nat.le_of_ble_eq_true rfl) rfl ?_
  refine z_iconst dJ7_fill_d0a16_0 (by unfold zIn; decide) ?_
  refine z_istore_n (ls' := [zr a1, zl a2, zu, zi 0, zu]) dJ7_fill_d0a16_1 rfl (by decide) rfl ?_
  refine z_aload_n dJ7_fill_d0a16_2 rfl rfl ?_
  have s1 : a1n < 2147483648 := k1
  refine z_alenJ ha1 s1 dJ7_fill_d0a16_3 ?_
  refine z_istore (ls' := [zr a1, zl a2, zu, zi 0, zi (a1n : Int)]) dJ7_fill_d0a16_4 (by decide) rfl ?_
  exact k2
set_option maxRecDepth 20000 in
theorem TJ7_fill_d0a16_6 {G : zG} {σ : zS} {Q : Int → zS → Prop} {v1 v3 v4 : Int} {a1 a1n : Nat} (ha1 : zsh a1 = (2, a1n, [])) (k1 : (v4 ≤ v3) → Q 0 σ) (k2 : (v3 < v4) → (0 : Int) ≤ v3 ∧ v3 < (a1n : Int)) (k3 : (v3 < v4) → -2147483648 ≤ v3 + 1 ∧ v3 + 1 < (2147483648 : Int)) (k4 : (v3 < v4) → zR G MJ7_fill_d0a16 6 [zr a1, zl v1, zu, zi (v3 + 1), zi v4] [] (zup σ a1 v3 v1) Q) : zR G MJ7_fill_d0a16 6 [zr a1, zl v1, zu, zi v3, zi v4] [] σ Q := by
  refine z_iload_n dJ7_fill_d0a16_6 rfl rfl ?_
  refine z_iload dJ7_fill_d0a16_7 rfl ?_
  refine z_icmp_ge dJ7_fill_d0a16_9 (tgt := 22) (by decide) (fun h1 => ?_) (fun h1 => ?_)
  · skip
    exact z_vret rfl dJ7_fill_d0a16_22 (k1 h1)
  · skip
    refine z_aload_n dJ7_fill_d0a16_12 rfl rfl ?_
    refine z_iload_n dJ7_fill_d0a16_13 rfl rfl ?_
    refine z_lload_n dJ7_fill_d0a16_14 rfl rfl ?_
    have s2 : (0 : Int) ≤ v3 ∧ v3 < (a1n : Int) := k2 h1
    refine z_last ha1 s2.1 s2.2 dJ7_fill_d0a16_15 ?_
    have s3 : -2147483648 ≤ v3 + 1 ∧ v3 + 1 < (2147483648 : Int) := k3 h1
    refine z_iincN (ls' := [zr a1, zl v1, zu, zi (v3 + 1), zi v4]) dJ7_fill_d0a16_16 rfl (by decide) s3 rfl ?_
    refine z_goto dJ7_fill_d0a16_19 (tgt := 6) (by decide) ?_
    exact k4 h1
set_option maxRecDepth 20000 in
theorem TJ6_bitCount_0f7a4 {G : zG} {σ : zS} {Q : Int → zS → Prop} {a1 : Int}  (k1 : Q (zand (zW ((zW ((zand (zW ((zW ((zand (zW (a1 - zand (zushr a1 1) 1431655765)) 858993459) + (zand (zushr (zW (a1 - zand (zushr a1 1) 1431655765)) 2) 858993459))) + (zushr (zW ((zand (zW (a1 - zand (zushr a1 1) 1431655765)) 858993459) + (zand (zushr (zW (a1 - zand (zushr a1 1) 1431655765)) 2) 858993459))) 4))) 252645135) + (zushr (zand (zW ((zW ((zand (zW (a1 - zand (zushr a1 1) 1431655765)) 858993459) + (zand (zushr (zW (a1 - zand (zushr a1 1) 1431655765)) 2) 858993459))) + (zushr (zW ((zand (zW (a1 - zand (zushr a1 1) 1431655765)) 858993459) + (zand (zushr (zW (a1 - zand (zushr a1 1) 1431655765)) 2) 858993459))) 4))) 252645135) 8))) + (zushr (zW ((zand (zW ((zW ((zand (zW (a1 - zand (zushr a1 1) 1431655765)) 858993459) + (zand (zushr (zW (a1 - zand (zushr a1 1) 1431655765)) 2) 858993459))) + (zushr (zW ((zand (zW (a1 - zand (zushr a1 1) 1431655765)) 858993459) + (zand (zushr (zW (a1 - zand (zushr a1 1) 1431655765)) 2) 858993459))) 4))) 252645135) + (zushr (zand (zW ((zW ((zand (zW (a1 - zand (zushr a1 1) 1431655765)) 858993459) + (zand (zushr (zW (a1 - zand (zushr a1 1) 1431655765)) 2) 858993459))) + (zushr (zW ((zand (zW (a1 - zand (zushr a1 1) 1431655765)) 858993459) + (zand (zushr (zW (a1 - zand (zushr a1 1) 1431655765)) 2) 858993459))) 4))) 252645135) 8))) 16))) 63) σ) : zO G MJ6_bitCount_0f7a4 [zi a1] σ Q := by
  refine zO_of (ls0 := [zi a1]) (by decide) (Nat.le_of_ble_eq_true rfl) rfl ?_
  refine z_iload_n dJ6_bitCount_0f7a4_0 rfl rfl ?_
  refine z_iload_n dJ6_bitCount_0f7a4_1 rfl rfl ?_
  refine z_iconst dJ6_bitCount_0f7a4_2 (by unfold zIn; decide) ?_
  refine z_iushr dJ6_bitCount_0f7a4_3 ?_
  refine z_ldcw (x := 1431655765) (zin_4 (List.mem_of_getElem? (i := 227) (by decide +kernel))) (by unfold zIn; decide) dJ6_bitCount_0f7a4_4 ?_
  refine z_iand dJ6_bitCount_0f7a4_7 ?_
  refine z_isub dJ6_bitCount_0f7a4_8 ?_
  refine z_istore_n (ls' := [zi (zW (a1 - zand (zushr a1 1) 1431655765))]) dJ6_bitCount_0f7a4_9 rfl (by decide) rfl ?_
  refine z_iload_n dJ6_bitCount_0f7a4_10 rfl rfl ?_
  refine z_ldcw (x := 858993459) (zin_4 (List.mem_of_getElem? (i := 228) (by decide +kernel))) (by unfold zIn; decide) dJ6_bitCount_0f7a4_11 ?_
  refine z_iand dJ6_bitCount_0f7a4_14 ?_
  refine z_iload_n dJ6_bitCount_0f7a4_15 rfl rfl ?_
  refine z_iconst dJ6_bitCount_0f7a4_16 (by unfold zIn; decide) ?_
  refine z_iushr dJ6_bitCount_0f7a4_17 ?_
  refine z_ldcw (x := 858993459) (zin_4 (List.mem_of_getElem? (i := 228) (by decide +kernel))) (by unfold zIn; decide) dJ6_bitCount_0f7a4_18 ?_
  refine z_iand dJ6_bitCount_0f7a4_21 ?_
  refine z_iadd dJ6_bitCount_0f7a4_22 ?_
  refine z_istore_n (ls' := [zi (zW ((zand (zW (a1 - zand (zushr a1 1) 1431655765)) 858993459) + (zand (zushr (zW (a1 - zand (zushr a1 1) 1431655765)) 2) 858993459)))]) dJ6_bitCount_0f7a4_23 rfl (by decide) rfl ?_
  refine z_iload_n dJ6_bitCount_0f7a4_24 rfl rfl ?_
  refine z_iload_n dJ6_bitCount_0f7a4_25 rfl rfl ?_
  refine z_iconst dJ6_bitCount_0f7a4_26 (by unfold zIn; decide) ?_
  refine z_iushr dJ6_bitCount_0f7a4_27 ?_
  refine z_iadd dJ6_bitCount_0f7a4_28 ?_
  refine z_ldcw (x := 252645135) (zin_4 (List.mem_of_getElem? (i := 229) (by decide +kernel))) (by unfold zIn; decide) dJ6_bitCount_0f7a4_29 ?_
  refine z_iand dJ6_bitCount_0f7a4_32 ?_
  refine z_istore_n (ls' := [zi (zand (zW ((zW ((zand (zW (a1 - zand (zushr a1 1) 1431655765)) 858993459) + (zand (zushr (zW (a1 - zand (zushr a1 1) 1431655765)) 2) 858993459))) + (zushr (zW ((zand (zW (a1 - zand (zushr a1 1) 1431655765)) 858993459) + (zand (zushr (zW (a1 - zand (zushr a1 1) 1431655765)) 2) 858993459))) 4))) 252645135)]) dJ6_bitCount_0f7a4_33 rfl (by decide) rfl ?_
  refine z_iload_n dJ6_bitCount_0f7a4_34 rfl rfl ?_
  refine z_iload_n dJ6_bitCount_0f7a4_35 rfl rfl ?_
  refine z_bipush (x := 8) dJ6_bitCount_0f7a4_36 (by decide +kernel) (by unfold zIn; decide) ?_
  refine z_iushr dJ6_bitCount_0f7a4_38 ?_
  refine z_iadd dJ6_bitCount_0f7a4_39 ?_
  refine z_istore_n (ls' := [zi (zW ((zand (zW ((zW ((zand (zW (a1 - zand (zushr a1 1) 1431655765)) 858993459) + (zand (zushr (zW (a1 - zand (zushr a1 1) 1431655765)) 2) 858993459))) + (zushr (zW ((zand (zW (a1 - zand (zushr a1 1) 1431655765)) 858993459) + (zand (zushr (zW (a1 - zand (zushr a1 1) 1431655765)) 2) 858993459))) 4))) 252645135) + (zushr (zand (zW ((zW ((zand (zW (a1 - zand (zushr a1 1) 1431655765)) 858993459) + (zand (zushr (zW (a1 - zand (zushr a1 1) 1431655765)) 2) 858993459))) + (zushr (zW ((zand (zW (a1 - zand (zushr a1 1) 1431655765)) 858993459) + (zand (zushr (zW (a1 - zand (zushr a1 1) 1431655765)) 2) 858993459))) 4))) 252645135) 8)))]) dJ6_bitCount_0f7a4_40 rfl (by decide) rfl ?_
  refine z_iload_n dJ6_bitCount_0f7a4_41 rfl rfl ?_
  refine z_iload_n dJ6_bitCount_0f7a4_42 rfl rfl ?_
  refine z_bipush (x := 16) dJ6_bitCount_0f7a4_43 (by decide +kernel) (by unfold zIn; decide) ?_
  refine z_iushr dJ6_bitCount_0f7a4_45 ?_
  refine z_iadd dJ6_bitCount_0f7a4_46 ?_
  refine z_istore_n (ls' := [zi (zW ((zW ((zand (zW ((zW ((zand (zW (a1 - zand (zushr a1 1) 1431655765)) 858993459) + (zand (zushr (zW (a1 - zand (zushr a1 1) 1431655765)) 2) 858993459))) + (zushr (zW ((zand (zW (a1 - zand (zushr a1 1) 1431655765)) 858993459) + (zand (zushr (zW (a1 - zand (zushr a1 1) 1431655765)) 2) 858993459))) 4))) 252645135) + (zushr (zand (zW ((zW ((zand (zW (a1 - zand (zushr a1 1) 1431655765)) 858993459) + (zand (zushr (zW (a1 - zand (zushr a1 1) 1431655765)) 2) 858993459))) + (zushr (zW ((zand (zW (a1 - zand (zushr a1 1) 1431655765)) 858993459) + (zand (zushr (zW (a1 - zand (zushr a1 1) 1431655765)) 2) 858993459))) 4))) 252645135) 8))) + (zushr (zW ((zand (zW ((zW ((zand (zW (a1 - zand (zushr a1 1) 1431655765)) 858993459) + (zand (zushr (zW (a1 - zand (zushr a1 1) 1431655765)) 2) 858993459))) + (zushr (zW ((zand (zW (a1 - zand (zushr a1 1) 1431655765)) 858993459) + (zand (zushr (zW (a1 - zand (zushr a1 1) 1431655765)) 2) 858993459))) 4))) 252645135) + (zushr (zand (zW ((zW ((zand (zW (a1 - zand (zushr a1 1) 1431655765)) 858993459) + (zand (zushr (zW (a1 - zand (zushr a1 1) 1431655765)) 2) 858993459))) + (zushr (zW ((zand (zW (a1 - zand (zushr a1 1) 1431655765)) 858993459) + (zand (zushr (zW (a1 - zand (zushr a1 1) 1431655765)) 2) 858993459))) 4))) 252645135) 8))) 16)))]) dJ6_bitCount_0f7a4_47 rfl (by decide) rfl ?_
  refine z_iload_n dJ6_bitCount_0f7a4_48 rfl rfl ?_
  refine z_bipush (x := 63) dJ6_bitCount_0f7a4_49 (by decide +kernel) (by unfold zIn; decide) ?_
  refine z_iand dJ6_bitCount_0f7a4_51 ?_
  exact z_ireti rfl dJ6_bitCount_0f7a4_52 (k1)
