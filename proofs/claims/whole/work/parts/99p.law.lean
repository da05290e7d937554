/-! THE LAW: its loop -/
section LO
variable {p : Program} {l : Launch} {e : Env} {s : State} {m : MethodId} {below : List Frame} {meth : Method} {c : Code} {b L : Nat} {xs : Nat → Int32} {G : zG} {σ : zS} {H : Heap} {locs : List Loc} {pc : Nat} {ls : Array Slot} {rest : List Value} {i : Nat}
theorem zn63 : ∀ j : Nat, j < 32 → 6 ≤ j → bt (Int32.ofInt 63) j = false := by decide +kernel
theorem zand63 (x : Int) : 0 ≤ zand x 63 ∧ zand x 63 < 64 := by
  have h := (zm_rng (x := zand x 63) (p := 6) (zIn_of _) (by decide) (by decide)).mp ((zb_sh0 (zIn_of _) (by decide) (by decide)).mpr (fun j j0 j1 hb => by
    have hb2 : zbit (zand x 63) j := hb
    rw [zb_and] at hb2
    have h2 := hb2.2
    unfold zbit at h2
    rw [zn63 j.toNat (by omega) (by omega)] at h2
    cases h2))
  have e : zshl 1 6 = 64 := by decide
  omega
set_option maxHeartbeats 4000000 in
theorem zl_loop (LC : zLC G l p s m meth c b L xs) : ∀ (n i : Nat) (σ : zS) (H : Heap) (locs : List Loc) (ls : Array Slot), L + 7 ≤ i + n → lv_has ls 4 (zll G b i) → zLw G s σ H locs → zinv σ → i ≤ L + 7 → zLW p l e s m b below meth c H locs (F0 m 18 ls []) := by
  intro n
  induction n using Nat.strongRecOn with
  | _ n ih =>
    intro i σ H locs ls hin hl w hz hiL
    have LC0 := LC
    obtain ⟨⟨hx, hb, hr, hml, hown, hts, hX, hbl, hlocks, hgv⟩, hGl, hK, hinj, hGA, hL⟩ := LC0
    have hS := w.2.2
    refine lv_iload_n hx hb dL_18 rfl (lv_at hl 3 rfl) ?_
    refine lv_aload_n hx hb dL_19 rfl (lv_at hl 0 rfl) ?_
    refine va_slen hx hb hX hbl (Nat.not_le.mpr hbl) hS dL_20 ?_
    refine lv_bipush (v := Int32.ofInt 7) hx hb dL_21 (by decide) ?_
    refine lv_isub hx hb dL_23 ?_
    have e7 : Int32.ofNat L - Int32.ofInt 7 = Int32.ofInt ((L : Int) - 7) := by
      rw [Int32.ofInt_sub, Int32.ofInt_eq_ofNat]
    rw [e7]
    have zi1 : zIn (i : Int) := by unfold zIn; omega
    have zi2 : zIn ((L : Int) - 7) := by unfold zIn; omega
    refine lv_icmp_gt (tgt := 2305) hx hb dL_24 (by decide) (fun _ => ?_) (fun hc => ?_)
    · refine lv_iconst (v := 1) hx hb dL_2305 (by decide) ?_
      refine va_forget (fun q hq => hS.2.2 q hq) ?_
      refine W.widen (k := 600000) (n := 7302249) (Nat.le_of_ble_eq_true rfl) (Nat.le_of_ble_eq_true rfl) ?_
      exact lw_ret hx hb hr hlocks dL_2306
    · have hle : i + 7 ≤ L := by
        by_cases z : i + 7 ≤ L
        · exact z
        · exact absurd ((zI_lt zi2 zi1).mpr (by omega)) hc
      -- behind a call
      have next : ∀ (σ2 : zS) (H2 : Heap) (locs2 : List Loc), zinv σ2 → zLw G s σ2 H2 locs2 → zLW p l e s m b below meth c H2 locs2 (F0 m 2299 ls []) := by
        intro σ2 H2 locs2 hz2 w2
        refine lv_iinc (v := Int32.ofInt ((i + 7 : Nat) : Int)) (lv' := [(3, .int (Int32.ofInt ((i + 7 : Nat) : Int))), (0, .ref b), (1, .ref (zGa G 0)), (2, .ref (zGa G 98))]) hx hb dL_2299 hl (k := 3) rfl (by rw [← Int32.ofInt_add]; rfl) (by decide) rfl (fun ls hl => ?_)
        refine lv_goto (tgt := 18) hx hb dL_2302 (by decide) ?_
        exact ih (n - 7) (by omega) (i + 7) σ2 H2 locs2 ls (by omega) (lv_sub hl [1, 2, 3, 0] rfl) w2 hz2 (by omega)
      refine lv_aload_n hx hb dL_27 rfl (lv_at hl 0 rfl) ?_
      refine lv_iload_n hx hb dL_28 rfl (lv_at hl 3 rfl) ?_
      refine zl_load (j := i) LC w (by omega) rfl dL_29 ?_
      refine lv_bipush (v := Int32.ofInt 63) hx hb dL_30 (by decide) ?_
      refine lv_iand hx hb dL_32 ?_
      have e63 : Int32.ofInt (zx xs i) &&& Int32.ofInt 63 = Int32.ofInt (zand (zx xs i) 63) := (zI_of _).symm
      rw [e63]
      have hv := zand63 (zx xs i)
      generalize zand (zx xs i) 63 = v at hv
      have zv : zIn v := by unfold zIn; omega
      by_cases big : 57 < v
      · exact lv_tableOut (tgt := 2299) hx hb dL_33 (Or.inr (by rw [zI_toInt zv]; exact big)) (by decide) (next σ H locs hz w)
      · have hcase : v = 0 ∨ v = 1 ∨ v = 2 ∨ v = 3 ∨ v = 4 ∨ v = 5 ∨ v = 6 ∨ v = 7 ∨ v = 8 ∨ v = 9 ∨ v = 10 ∨ v = 11 ∨ v = 12 ∨ v = 13 ∨ v = 14 ∨ v = 15 ∨ v = 16 ∨ v = 17 ∨ v = 18 ∨ v = 19 ∨ v = 20 ∨ v = 21 ∨ v = 22 ∨ v = 23 ∨ v = 24 ∨ v = 25 ∨ v = 26 ∨ v = 27 ∨ v = 28 ∨ v = 29 ∨ v = 30 ∨ v = 31 ∨ v = 32 ∨ v = 33 ∨ v = 34 ∨ v = 35 ∨ v = 36 ∨ v = 37 ∨ v = 38 ∨ v = 39 ∨ v = 40 ∨ v = 41 ∨ v = 42 ∨ v = 43 ∨ v = 44 ∨ v = 45 ∨ v = 46 ∨ v = 47 ∨ v = 48 ∨ v = 49 ∨ v = 50 ∨ v = 51 ∨ v = 52 ∨ v = 53 ∨ v = 54 ∨ v = 55 ∨ v = 56 ∨ v = 57 := by omega
        rcases hcase with rfl | rfl | rfl | rfl | rfl | rfl | rfl | rfl | rfl | rfl | rfl | rfl | rfl | rfl | rfl | rfl | rfl | rfl | rfl | rfl | rfl | rfl | rfl | rfl | rfl | rfl | rfl | rfl | rfl | rfl | rfl | rfl | rfl | rfl | rfl | rfl | rfl | rfl | rfl | rfl | rfl | rfl | rfl | rfl | rfl | rfl | rfl | rfl | rfl | rfl | rfl | rfl | rfl | rfl | rfl | rfl | rfl | rfl
        · exact lv_tableIn (off := 247) (tgt := 280) hx hb dL_33 (by decide) (by decide) (by decide) (by decide) (zl_case0 LC hl w hle hz next)
        · exact lv_tableIn (off := 270) (tgt := 303) hx hb dL_33 (by decide) (by decide) (by decide) (by decide) (zl_case1 LC hl w hle hz next)
        · exact lv_tableIn (off := 293) (tgt := 326) hx hb dL_33 (by decide) (by decide) (by decide) (by decide) (zl_case2 LC hl w hle hz next)
        · exact lv_tableIn (off := 316) (tgt := 349) hx hb dL_33 (by decide) (by decide) (by decide) (by decide) (zl_case3 LC hl w hle hz next)
        · exact lv_tableIn (off := 359) (tgt := 392) hx hb dL_33 (by decide) (by decide) (by decide) (by decide) (zl_case4 LC hl w hle hz next)
        · exact lv_tableIn (off := 412) (tgt := 445) hx hb dL_33 (by decide) (by decide) (by decide) (by decide) (zl_case5 LC hl w hle hz next)
        · exact lv_tableIn (off := 445) (tgt := 478) hx hb dL_33 (by decide) (by decide) (by decide) (by decide) (zl_case6 LC hl w hle hz next)
        · exact lv_tableIn (off := 498) (tgt := 531) hx hb dL_33 (by decide) (by decide) (by decide) (by decide) (zl_case7 LC hl w hle hz next)
        · exact lv_tableIn (off := 557) (tgt := 590) hx hb dL_33 (by decide) (by decide) (by decide) (by decide) (zl_case8 LC hl w hle hz next)
        · exact lv_tableIn (off := 580) (tgt := 613) hx hb dL_33 (by decide) (by decide) (by decide) (by decide) (zl_case9 LC hl w hle hz next)
        · exact lv_tableIn (off := 623) (tgt := 656) hx hb dL_33 (by decide) (by decide) (by decide) (by decide) (zl_case10 LC hl w hle hz next)
        · exact lv_tableIn (off := 696) (tgt := 729) hx hb dL_33 (by decide) (by decide) (by decide) (by decide) (zl_case11 LC hl w hle hz next)
        · exact lv_tableIn (off := 759) (tgt := 792) hx hb dL_33 (by decide) (by decide) (by decide) (by decide) (zl_case12 LC hl w hle hz next)
        · exact lv_tableIn (off := 793) (tgt := 826) hx hb dL_33 (by decide) (by decide) (by decide) (by decide) (zl_case13 LC hl w hle hz next)
        · exact lv_tableIn (off := 826) (tgt := 859) hx hb dL_33 (by decide) (by decide) (by decide) (by decide) (zl_case14 LC hl w hle hz next)
        · exact lv_tableIn (off := 849) (tgt := 882) hx hb dL_33 (by decide) (by decide) (by decide) (by decide) (zl_case15 LC hl w hle hz next)
        · exact lv_tableIn (off := 872) (tgt := 905) hx hb dL_33 (by decide) (by decide) (by decide) (by decide) (zl_case16 LC hl w hle hz next)
        · exact lv_tableIn (off := 905) (tgt := 938) hx hb dL_33 (by decide) (by decide) (by decide) (by decide) (zl_case17 LC hl w hle hz next)
        · exact lv_tableIn (off := 958) (tgt := 991) hx hb dL_33 (by decide) (by decide) (by decide) (by decide) (zl_case18 LC hl w hle hz next)
        · exact lv_tableIn (off := 1011) (tgt := 1044) hx hb dL_33 (by decide) (by decide) (by decide) (by decide) (zl_case19 LC hl w hle hz next)
        · exact lv_tableIn (off := 1054) (tgt := 1087) hx hb dL_33 (by decide) (by decide) (by decide) (by decide) (zl_case20 LC hl w hle hz next)
        · exact lv_tableIn (off := 1097) (tgt := 1130) hx hb dL_33 (by decide) (by decide) (by decide) (by decide) (zl_case21 LC hl w hle hz next)
        · exact lv_tableIn (off := 1150) (tgt := 1183) hx hb dL_33 (by decide) (by decide) (by decide) (by decide) (zl_case22 LC hl w hle hz next)
        · exact lv_tableIn (off := 1213) (tgt := 1246) hx hb dL_33 (by decide) (by decide) (by decide) (by decide) (zl_case23 LC hl w hle hz next)
        · exact lv_tableIn (off := 1236) (tgt := 1269) hx hb dL_33 (by decide) (by decide) (by decide) (by decide) (zl_case24 LC hl w hle hz next)
        · exact lv_tableIn (off := 1259) (tgt := 1292) hx hb dL_33 (by decide) (by decide) (by decide) (by decide) (zl_case25 LC hl w hle hz next)
        · exact lv_tableIn (off := 1292) (tgt := 1325) hx hb dL_33 (by decide) (by decide) (by decide) (by decide) (zl_case26 LC hl w hle hz next)
        · exact lv_tableIn (off := 1315) (tgt := 1348) hx hb dL_33 (by decide) (by decide) (by decide) (by decide) (zl_case27 LC hl w hle hz next)
        · exact lv_tableIn (off := 1348) (tgt := 1381) hx hb dL_33 (by decide) (by decide) (by decide) (by decide) (zl_case28 LC hl w hle hz next)
        · exact lv_tableIn (off := 1381) (tgt := 1414) hx hb dL_33 (by decide) (by decide) (by decide) (by decide) (zl_case29 LC hl w hle hz next)
        · exact lv_tableIn (off := 1414) (tgt := 1447) hx hb dL_33 (by decide) (by decide) (by decide) (by decide) (zl_case30 LC hl w hle hz next)
        · exact lv_tableIn (off := 1447) (tgt := 1480) hx hb dL_33 (by decide) (by decide) (by decide) (by decide) (zl_case31 LC hl w hle hz next)
        · exact lv_tableIn (off := 1470) (tgt := 1503) hx hb dL_33 (by decide) (by decide) (by decide) (by decide) (zl_case32 LC hl w hle hz next)
        · exact lv_tableIn (off := 1493) (tgt := 1526) hx hb dL_33 (by decide) (by decide) (by decide) (by decide) (zl_case33 LC hl w hle hz next)
        · exact lv_tableIn (off := 1542) (tgt := 1575) hx hb dL_33 (by decide) (by decide) (by decide) (by decide) (zl_case34 LC hl w hle hz next)
        · exact lv_tableIn (off := 1617) (tgt := 1650) hx hb dL_33 (by decide) (by decide) (by decide) (by decide) (zl_case35 LC hl w hle hz next)
        · exact lv_tableIn (off := 1680) (tgt := 1713) hx hb dL_33 (by decide) (by decide) (by decide) (by decide) (zl_case36 LC hl w hle hz next)
        · exact lv_tableIn (off := 1723) (tgt := 1756) hx hb dL_33 (by decide) (by decide) (by decide) (by decide) (zl_case37 LC hl w hle hz next)
        · exact lv_tableIn (off := 1746) (tgt := 1779) hx hb dL_33 (by decide) (by decide) (by decide) (by decide) (zl_case38 LC hl w hle hz next)
        · exact lv_tableIn (off := 1779) (tgt := 1812) hx hb dL_33 (by decide) (by decide) (by decide) (by decide) (zl_case39 LC hl w hle hz next)
        · exact lv_tableIn (off := 1802) (tgt := 1835) hx hb dL_33 (by decide) (by decide) (by decide) (by decide) (zl_case40 LC hl w hle hz next)
        · exact lv_tableIn (off := 1825) (tgt := 1858) hx hb dL_33 (by decide) (by decide) (by decide) (by decide) (zl_case41 LC hl w hle hz next)
        · exact lv_tableIn (off := 1838) (tgt := 1871) hx hb dL_33 (by decide) (by decide) (by decide) (by decide) (zl_case42 LC hl w hle hz next)
        · exact lv_tableIn (off := 1871) (tgt := 1904) hx hb dL_33 (by decide) (by decide) (by decide) (by decide) (zl_case43 LC hl w hle hz next)
        · exact lv_tableIn (off := 1894) (tgt := 1927) hx hb dL_33 (by decide) (by decide) (by decide) (by decide) (zl_case44 LC hl w hle hz next)
        · exact lv_tableIn (off := 1917) (tgt := 1950) hx hb dL_33 (by decide) (by decide) (by decide) (by decide) (zl_case45 LC hl w hle hz next)
        · exact lv_tableIn (off := 1940) (tgt := 1973) hx hb dL_33 (by decide) (by decide) (by decide) (by decide) (zl_case46 LC hl w hle hz next)
        · exact lv_tableIn (off := 1973) (tgt := 2006) hx hb dL_33 (by decide) (by decide) (by decide) (by decide) (zl_case47 LC hl w hle hz next)
        · exact lv_tableIn (off := 1996) (tgt := 2029) hx hb dL_33 (by decide) (by decide) (by decide) (by decide) (zl_case48 LC hl w hle hz next)
        · exact lv_tableIn (off := 2029) (tgt := 2062) hx hb dL_33 (by decide) (by decide) (by decide) (by decide) (zl_case49 LC hl w hle hz next)
        · exact lv_tableIn (off := 2072) (tgt := 2105) hx hb dL_33 (by decide) (by decide) (by decide) (by decide) (zl_case50 LC hl w hle hz next)
        · exact lv_tableIn (off := 2095) (tgt := 2128) hx hb dL_33 (by decide) (by decide) (by decide) (by decide) (zl_case51 LC hl w hle hz next)
        · exact lv_tableIn (off := 2148) (tgt := 2181) hx hb dL_33 (by decide) (by decide) (by decide) (by decide) (zl_case52 LC hl w hle hz next)
        · exact lv_tableIn (off := 2161) (tgt := 2194) hx hb dL_33 (by decide) (by decide) (by decide) (by decide) (zl_case53 LC hl w hle hz next)
        · exact lv_tableIn (off := 2194) (tgt := 2227) hx hb dL_33 (by decide) (by decide) (by decide) (by decide) (zl_case54 LC hl w hle hz next)
        · exact lv_tableIn (off := 2207) (tgt := 2240) hx hb dL_33 (by decide) (by decide) (by decide) (by decide) (zl_case55 LC hl w hle hz next)
        · exact lv_tableIn (off := 2220) (tgt := 2253) hx hb dL_33 (by decide) (by decide) (by decide) (by decide) (zl_case56 LC hl w hle hz next)
        · exact lv_tableIn (off := 2243) (tgt := 2276) hx hb dL_33 (by decide) (by decide) (by decide) (by decide) (zl_case57 LC hl w hle hz next)
end LO
