set_option maxRecDepth 20000 in
theorem SX11_refuse {G : zG} {σ : zS} {Q : Int → zS → Prop} {a1 : Int}  (k1 : -2147483648 ≤ -a1 ∧ -a1 < (2147483648 : Int)) (k2 : (0 : Int) ≤ -a1 ∧ -a1 < (8 : Int)) (kq : Q (a1) (zup σ 97 (-a1) (zW ((σ 97 (-a1)) + 1)))) : zO G MX11_refuse [zr 0, zi a1] σ Q := by
  have k3 : Q a1 (zup σ 97 (-a1) (zW ((σ 97 (-a1)) + 1))) := by
    exact kq
  refine zO_of (ls0 := [zr 0, zi a1]) (by decide) (Nat.le_of_ble_eq_true rfl) rfl ?_
  refine z_aload_n dX11_refuse_0 rfl rfl ?_
  refine z_getfR (k := 12) flRX11_102 rfl rfl dX11_refuse_1 ?_
  refine z_iload_n dX11_refuse_4 rfl rfl ?_
  have s1 : -2147483648 ≤ -a1 ∧ -a1 < (2147483648 : Int) := k1
  refine z_inegN dX11_refuse_5 s1 ?_
  refine z_dup2 dX11_refuse_6 rfl rfl ?_
  have s2 : (0 : Int) ≤ -a1 ∧ -a1 < (8 : Int) := k2
  refine z_iald rfl s2.1 s2.2 dX11_refuse_7 ?_
  refine z_iconst dX11_refuse_8 (by unfold zIn; decide) ?_
  refine z_iadd dX11_refuse_9 ?_
  refine z_iast rfl s2.1 s2.2 dX11_refuse_10 ?_
  refine z_iload_n dX11_refuse_11 rfl rfl ?_
  exact z_ireti rfl dX11_refuse_12 (k3)
set_option maxRecDepth 20000 in
theorem SX11_within {G : zG} {σ : zS} {Q : Int → zS → Prop} {a1 a2 a3 : Int}   (kq : Q (if (a2 ≤ a1 ∧ a1 ≤ a3) then (1 : Int) else 0) σ) : zO G MX11_within [zi a1, zi a2, zi a3] σ Q := by
  have k1 : (a1 < a2) → Q 0 σ := by
    intro h1
    have e : (if (a2 ≤ a1 ∧ a1 ≤ a3) then (1 : Int) else 0 : Int) = 0 := by first | exact if_pos (by omega) | exact if_neg (by omega) | (simp_all; done)
    rw [e] at kq; exact kq
  have k2 : (a2 ≤ a1) → (a3 < a1) → Q 0 σ := by
    intro h1 h2
    have e : (if (a2 ≤ a1 ∧ a1 ≤ a3) then (1 : Int) else 0 : Int) = 0 := by first | exact if_pos (by omega) | exact if_neg (by omega) | (simp_all; done)
    rw [e] at kq; exact kq
  have k3 : (a2 ≤ a1) → (a1 ≤ a3) → Q 1 σ := by
    intro h1 h2
    have e : (if (a2 ≤ a1 ∧ a1 ≤ a3) then (1 : Int) else 0 : Int) = 1 := by first | exact if_pos (by omega) | exact if_neg (by omega) | (simp_all; done)
    rw [e] at kq; exact kq
  refine zO_of (ls0 := [zi a1, zi a2, zi a3]) (by decide) (Nat.le_of_ble_eq_true rfl) rfl ?_
  refine z_iload_n dX11_within_0 rfl rfl ?_
  refine z_iload_n dX11_within_1 rfl rfl ?_
  refine z_icmp_lt dX11_within_2 (tgt := 14) (by decide) (fun h1 => ?_) (fun h1 => ?_)
  · skip
    refine z_iconst dX11_within_14 (by unfold zIn; decide) ?_
    exact z_iretz rfl (by decide) dX11_within_15 (k1 h1)
  · skip
    refine z_iload_n dX11_within_5 rfl rfl ?_
    refine z_iload_n dX11_within_6 rfl rfl ?_
    refine z_icmp_gt dX11_within_7 (tgt := 14) (by decide) (fun h2 => ?_) (fun h2 => ?_)
    · skip
      refine z_iconst dX11_within_14 (by unfold zIn; decide) ?_
      exact z_iretz rfl (by decide) dX11_within_15 (k2 h1 h2)
    · skip
      refine z_iconst dX11_within_10 (by unfold zIn; decide) ?_
      refine z_goto dX11_within_11 (tgt := 15) (by decide) ?_
      exact z_iretz rfl (by decide) dX11_within_15 (k3 h1 h2)
set_option maxRecDepth 20000 in
theorem SX11_isShelf {G : zG} {σ : zS} {Q : Int → zS → Prop} {a1 : Int}   (kq : Q (if (0 ≤ a1 ∧ a1 ≤ 9) then (1 : Int) else 0) σ) : zO G MX11_isShelf [zi a1] σ Q := by
  have k1 : Q (if (0 ≤ a1 ∧ a1 ≤ 9) then (1 : Int) else 0) σ := by
    exact kq
  refine zO_of (ls0 := [zi a1]) (by decide) (Nat.le_of_ble_eq_true rfl) rfl ?_
  refine z_iload_n dX11_isShelf_0 rfl rfl ?_
  refine z_iconst dX11_isShelf_1 (by unfold zIn; decide) ?_
  refine z_bipush (x := 9) dX11_isShelf_2 (by decide +kernel) (by unfold zIn; decide) ?_
  refine z_calls (as := [zi a1, zi 0, zi 9]) (st := []) mkX11_within lkRX11_111 rfl (by decide) (Nat.le_of_ble_eq_true rfl) rfl dX11_isShelf_4 ?_
  refine SX11_within ?_
  show zR G MX11_isShelf 7 [zi a1] [zi (if (0 ≤ a1 ∧ a1 ≤ 9) then (1 : Int) else 0)] σ Q
  exact z_iretz rfl (zb01 _) dX11_isShelf_7 (k1)
set_option maxRecDepth 20000 in
theorem SX11_isStatute {G : zG} {σ : zS} {Q : Int → zS → Prop} {a1 : Int}   (kq : Q (if (0 ≤ a1 ∧ a1 ≤ 3) then (1 : Int) else 0) σ) : zO G MX11_isStatute [zi a1] σ Q := by
  have k1 : Q (if (0 ≤ a1 ∧ a1 ≤ 3) then (1 : Int) else 0) σ := by
    exact kq
  refine zO_of (ls0 := [zi a1]) (by decide) (Nat.le_of_ble_eq_true rfl) rfl ?_
  refine z_iload_n dX11_isStatute_0 rfl rfl ?_
  refine z_iconst dX11_isStatute_1 (by unfold zIn; decide) ?_
  refine z_iconst dX11_isStatute_2 (by unfold zIn; decide) ?_
  refine z_calls (as := [zi a1, zi 0, zi 3]) (st := []) mkX11_within lkRX11_111 rfl (by decide) (Nat.le_of_ble_eq_true rfl) rfl dX11_isStatute_3 ?_
  refine SX11_within ?_
  show zR G MX11_isStatute 6 [zi a1] [zi (if (0 ≤ a1 ∧ a1 ≤ 3) then (1 : Int) else 0)] σ Q
  exact z_iretz rfl (zb01 _) dX11_isStatute_6 (k1)
set_option maxRecDepth 20000 in
theorem SX11_thisYear {G : zG} {σ : zS} {Q : Int → zS → Prop}   (kq : Q (zdiv (σ 0 13) 365) σ) : zO G MX11_thisYear [zr 0] σ Q := by
  have k1 : Q (zdiv (σ 0 13) 365) σ := by
    exact kq
  refine zO_of (ls0 := [zr 0]) (by decide) (Nat.le_of_ble_eq_true rfl) rfl ?_
  refine z_aload_n dX11_thisYear_0 rfl rfl ?_
  refine z_getfI (k := 13) flRX11_106 rfl rfl dX11_thisYear_1 ?_
  refine z_sipush (x := 365) dX11_thisYear_4 (by decide +kernel) (by unfold zIn; decide) ?_
  refine z_idiv dX11_thisYear_7 (by decide) ?_
  exact z_ireti rfl dX11_thisYear_8 (k1)
set_option maxRecDepth 20000 in
theorem SX10_inForce {G : zG} {σ : zS} {Q : Int → zS → Prop} {a1 a2 a3 : Int}  (k1 : (0 : Int) ≤ a1 ∧ a1 < (12 : Int)) (kq : Q (if (σ 40 a1 ≤ a3 ∧ σ 39 a1 ≤ a2) then (1 : Int) else 0) σ) : zO G MX10_inForce [zr 35, zi a1, zi a2, zi a3] σ Q := by
  have k2 : (a3 < σ 40 a1) → Q 0 σ := by
    intro h1
    have e : (if (σ 40 a1 ≤ a3 ∧ σ 39 a1 ≤ a2) then (1 : Int) else 0 : Int) = 0 := by first | exact if_pos (by omega) | exact if_neg (by omega) | (simp_all; done)
    rw [e] at kq; exact kq
  have k3 : (σ 40 a1 ≤ a3) → (a2 < σ 39 a1) → Q 0 σ := by
    intro h1 h2
    have e : (if (σ 40 a1 ≤ a3 ∧ σ 39 a1 ≤ a2) then (1 : Int) else 0 : Int) = 0 := by first | exact if_pos (by omega) | exact if_neg (by omega) | (simp_all; done)
    rw [e] at kq; exact kq
  have k4 : (σ 40 a1 ≤ a3) → (σ 39 a1 ≤ a2) → Q 1 σ := by
    intro h1 h2
    have e : (if (σ 40 a1 ≤ a3 ∧ σ 39 a1 ≤ a2) then (1 : Int) else 0 : Int) = 1 := by first | exact if_pos (by omega) | exact if_neg (by omega) | (simp_all; done)
    rw [e] at kq; exact kq
  refine zO_of (ls0 := [zr 35, zi a1, zi a2, zi a3]) (by decide) (Nat.le_of_ble_eq_true rfl) rfl ?_
  refine z_aload_n dX10_inForce_0 rfl rfl ?_
  refine z_getfR (k := 4) flRX10_24 rfl rfl dX10_inForce_1 ?_
  refine z_iload_n dX10_inForce_4 rfl rfl ?_
  have s1 : (0 : Int) ≤ a1 ∧ a1 < (12 : Int) := k1
  refine z_iald rfl s1.1 s1.2 dX10_inForce_5 ?_
  refine z_iload_n dX10_inForce_6 rfl rfl ?_
  refine z_icmp_gt dX10_inForce_7 (tgt := 24) (by decide) (fun h1 => ?_) (fun h1 => ?_)
  · skip
    refine z_iconst dX10_inForce_24 (by unfold zIn; decide) ?_
    exact z_iretz rfl (by decide) dX10_inForce_25 (k2 h1)
  · skip
    refine z_aload_n dX10_inForce_10 rfl rfl ?_
    refine z_getfR (k := 3) flRX10_21 rfl rfl dX10_inForce_11 ?_
    refine z_iload_n dX10_inForce_14 rfl rfl ?_
    refine z_iald rfl s1.1 s1.2 dX10_inForce_15 ?_
    refine z_iload_n dX10_inForce_16 rfl rfl ?_
    refine z_icmp_gt dX10_inForce_17 (tgt := 24) (by decide) (fun h2 => ?_) (fun h2 => ?_)
    · skip
      refine z_iconst dX10_inForce_24 (by unfold zIn; decide) ?_
      exact z_iretz rfl (by decide) dX10_inForce_25 (k3 h1 h2)
    · skip
      refine z_iconst dX10_inForce_20 (by unfold zIn; decide) ?_
      refine z_goto dX10_inForce_21 (tgt := 25) (by decide) ?_
      exact z_iretz rfl (by decide) dX10_inForce_25 (k4 h1 h2)
set_option maxRecDepth 20000 in
theorem SX5_isKnown {G : zG} {σ : zS} {Q : Int → zS → Prop} {a1 a2 : Int}  (k1 : (0 : Int) ≤ a1 ∧ a1 < (48 : Int)) (kq : Q (if (σ 25 a1 ≠ (-1) ∧ σ 25 a1 ≤ a2) then (1 : Int) else 0) σ) : zO G MX5_isKnown [zr 22, zi a1, zi a2] σ Q := by
  have k2 : (σ 25 a1 = (-1)) → Q 0 σ := by
    intro h1
    have e : (if (σ 25 a1 ≠ (-1) ∧ σ 25 a1 ≤ a2) then (1 : Int) else 0 : Int) = 0 := by first | exact if_pos (by omega) | exact if_neg (by omega) | (simp_all; done)
    rw [e] at kq; exact kq
  have k3 : (σ 25 a1 ≠ (-1)) → (a2 < σ 25 a1) → Q 0 σ := by
    intro h1 h2
    have e : (if (σ 25 a1 ≠ (-1) ∧ σ 25 a1 ≤ a2) then (1 : Int) else 0 : Int) = 0 := by first | exact if_pos (by omega) | exact if_neg (by omega) | (simp_all; done)
    rw [e] at kq; exact kq
  have k4 : (σ 25 a1 ≠ (-1)) → (σ 25 a1 ≤ a2) → Q 1 σ := by
    intro h1 h2
    have e : (if (σ 25 a1 ≠ (-1) ∧ σ 25 a1 ≤ a2) then (1 : Int) else 0 : Int) = 1 := by first | exact if_pos (by omega) | exact if_neg (by omega) | (simp_all; done)
    rw [e] at kq; exact kq
  refine zO_of (ls0 := [zr 22, zi a1, zi a2]) (by decide) (Nat.le_of_ble_eq_true rfl) rfl ?_
  refine z_aload_n dX5_isKnown_0 rfl rfl ?_
  refine z_getfR (k := 2) flRX5_18 rfl rfl dX5_isKnown_1 ?_
  refine z_iload_n dX5_isKnown_4 rfl rfl ?_
  have s1 : (0 : Int) ≤ a1 ∧ a1 < (48 : Int) := k1
  refine z_iald rfl s1.1 s1.2 dX5_isKnown_5 ?_
  refine z_iconst dX5_isKnown_6 (by unfold zIn; decide) ?_
  refine z_icmp_eq dX5_isKnown_7 (tgt := 24) (by decide) (fun h1 => ?_) (fun h1 => ?_)
  · skip
    refine z_iconst dX5_isKnown_24 (by unfold zIn; decide) ?_
    exact z_iretz rfl (by decide) dX5_isKnown_25 (k2 h1)
  · skip
    refine z_aload_n dX5_isKnown_10 rfl rfl ?_
    refine z_getfR (k := 2) flRX5_18 rfl rfl dX5_isKnown_11 ?_
    refine z_iload_n dX5_isKnown_14 rfl rfl ?_
    refine z_iald rfl s1.1 s1.2 dX5_isKnown_15 ?_
    refine z_iload_n dX5_isKnown_16 rfl rfl ?_
    refine z_icmp_gt dX5_isKnown_17 (tgt := 24) (by decide) (fun h2 => ?_) (fun h2 => ?_)
    · skip
      refine z_iconst dX5_isKnown_24 (by unfold zIn; decide) ?_
      exact z_iretz rfl (by decide) dX5_isKnown_25 (k3 h1 h2)
    · skip
      refine z_iconst dX5_isKnown_20 (by unfold zIn; decide) ?_
      refine z_goto dX5_isKnown_21 (tgt := 25) (by decide) ?_
      exact z_iretz rfl (by decide) dX5_isKnown_25 (k4 h1 h2)
set_option maxRecDepth 20000 in
theorem SX3_openLevel {G : zG} {σ : zS} {Q : Int → zS → Prop}  (k1 : (0 : Int) ≤ σ 47 7 ∧ σ 47 7 < (31 : Int)) (kq : Q (0) (zup (zup (zup (zup σ 48 (σ 47 7) 0) 49 (σ 47 7) 1) 50 (σ 47 7) 0) 47 9 1)) : zO G MX3_openLevel [zr 47] σ Q := by
  have k2 : Q 0 (zup (zup (zup (zup σ 48 (σ 47 7) 0) 49 (σ 47 7) 1) 50 (σ 47 7) 0) 47 9 1) := by
    exact kq
  refine zO_of (ls0 := [zr 47]) (by decide) (Nat.le_of_ble_eq_true rfl) rfl ?_
  refine z_aload_n dX3_openLevel_0 rfl rfl ?_
  refine z_getfR (k := 2) flRX3_11 rfl rfl dX3_openLevel_1 ?_
  refine z_aload_n dX3_openLevel_4 rfl rfl ?_
  refine z_getfI (k := 7) flRX3_75 rfl rfl dX3_openLevel_5 ?_
  refine z_iconst dX3_openLevel_8 (by unfold zIn; decide) ?_
  have s1 : (0 : Int) ≤ σ 47 7 ∧ σ 47 7 < (31 : Int) := k1
  refine z_iast rfl s1.1 s1.2 dX3_openLevel_9 ?_
  refine z_aload_n dX3_openLevel_10 rfl rfl ?_
  refine z_getfR (k := 3) flRX3_15 rfl rfl dX3_openLevel_11 ?_
  refine z_aload_n dX3_openLevel_14 rfl rfl ?_
  refine z_getfE (k := 7) (v := σ 47 7) flRX3_75 rfl rfl (zup_of (by decide)) dX3_openLevel_15 ?_
  refine z_iconst dX3_openLevel_18 (by unfold zIn; decide) ?_
  refine z_iast rfl s1.1 s1.2 dX3_openLevel_19 ?_
  refine z_aload_n dX3_openLevel_20 rfl rfl ?_
  refine z_getfR (k := 4) flRX3_18 rfl rfl dX3_openLevel_21 ?_
  refine z_aload_n dX3_openLevel_24 rfl rfl ?_
  refine z_getfE (k := 7) (v := σ 47 7) flRX3_75 rfl rfl ((zup_of (by decide)).trans (zup_of (by decide))) dX3_openLevel_25 ?_
  refine z_iconst dX3_openLevel_28 (by unfold zIn; decide) ?_
  refine z_iast rfl s1.1 s1.2 dX3_openLevel_29 ?_
  refine z_aload_n dX3_openLevel_30 rfl rfl ?_
  refine z_iconst dX3_openLevel_31 (by unfold zIn; decide) ?_
  refine z_putZ (k := 9) fpRX3_58 rfl rfl (by decide) dX3_openLevel_32 ?_
  exact z_vret rfl dX3_openLevel_35 (k2)
set_option maxRecDepth 20000 in
theorem SX3_begin {G : zG} {σ : zS} {Q : Int → zS → Prop} {a1 : Int}  (k1 : (0 : Int) ≤ (zup (zup (zup (zup (zup (zup σ 47 11 a1) 47 12 (-1)) 47 10 0) 47 13 (-1)) 47 8 0) 47 7 0) 47 7 ∧ (zup (zup (zup (zup (zup (zup σ 47 11 a1) 47 12 (-1)) 47 10 0) 47 13 (-1)) 47 8 0) 47 7 0) 47 7 < (31 : Int)) (kq : Q (0) (zup (zup (zup (zup (zup (zup (zup (zup (zup (zup σ 47 11 a1) 47 12 (-1)) 47 10 0) 47 13 (-1)) 47 8 0) 47 7 0) 48 ((zup (zup (zup (zup (zup (zup σ 47 11 a1) 47 12 (-1)) 47 10 0) 47 13 (-1)) 47 8 0) 47 7 0) 47 7) 0) 49 ((zup (zup (zup (zup (zup (zup σ 47 11 a1) 47 12 (-1)) 47 10 0) 47 13 (-1)) 47 8 0) 47 7 0) 47 7) 1) 50 ((zup (zup (zup (zup (zup (zup σ 47 11 a1) 47 12 (-1)) 47 10 0) 47 13 (-1)) 47 8 0) 47 7 0) 47 7) 0) 47 9 1)) : zO G MX3_begin [zr 47, zi a1] σ Q := by
  have k2 : Q 0 (zup (zup (zup (zup (zup (zup (zup (zup (zup (zup σ 47 11 a1) 47 12 (-1)) 47 10 0) 47 13 (-1)) 47 8 0) 47 7 0) 48 ((zup (zup (zup (zup (zup (zup σ 47 11 a1) 47 12 (-1)) 47 10 0) 47 13 (-1)) 47 8 0) 47 7 0) 47 7) 0) 49 ((zup (zup (zup (zup (zup (zup σ 47 11 a1) 47 12 (-1)) 47 10 0) 47 13 (-1)) 47 8 0) 47 7 0) 47 7) 1) 50 ((zup (zup (zup (zup (zup (zup σ 47 11 a1) 47 12 (-1)) 47 10 0) 47 13 (-1)) 47 8 0) 47 7 0) 47 7) 0) 47 9 1) := by
    exact kq
  refine zO_of (ls0 := [zr 47, zi a1]) (by decide) (Nat.le_of_ble_eq_true rfl) rfl ?_
  refine z_aload_n dX3_begin_0 rfl rfl ?_
  refine z_iload_n dX3_begin_1 rfl rfl ?_
  refine z_putI (k := 11) fpRX3_103 rfl rfl dX3_begin_2 ?_
  refine z_aload_n dX3_begin_5 rfl rfl ?_
  refine z_iconst dX3_begin_6 (by unfold zIn; decide) ?_
  refine z_putI (k := 12) fpRX3_106 rfl rfl dX3_begin_7 ?_
  refine z_aload_n dX3_begin_10 rfl rfl ?_
  refine z_iconst dX3_begin_11 (by unfold zIn; decide) ?_
  refine z_putI (k := 10) fpRX3_109 rfl rfl dX3_begin_12 ?_
  refine z_aload_n dX3_begin_15 rfl rfl ?_
  refine z_iconst dX3_begin_16 (by unfold zIn; decide) ?_
  refine z_putI (k := 13) fpRX3_55 rfl rfl dX3_begin_17 ?_
  refine z_aload_n dX3_begin_20 rfl rfl ?_
  refine z_iconst dX3_begin_21 (by unfold zIn; decide) ?_
  refine z_putI (k := 8) fpRX3_112 rfl rfl dX3_begin_22 ?_
  refine z_aload_n dX3_begin_25 rfl rfl ?_
  refine z_iconst dX3_begin_26 (by unfold zIn; decide) ?_
  refine z_putI (k := 7) fpRX3_75 rfl rfl dX3_begin_27 ?_
  refine z_aload_n dX3_begin_30 rfl rfl ?_
  have s1 : (0 : Int) ≤ (zup (zup (zup (zup (zup (zup σ 47 11 a1) 47 12 (-1)) 47 10 0) 47 13 (-1)) 47 8 0) 47 7 0) 47 7 ∧ (zup (zup (zup (zup (zup (zup σ 47 11 a1) 47 12 (-1)) 47 10 0) 47 13 (-1)) 47 8 0) 47 7 0) 47 7 < (31 : Int) := k1
  refine z_callv (as := []) (st := []) mkX3_openLevel lkRX3_115 rfl rfl rfl (by decide) (Nat.le_of_ble_eq_true rfl) rfl dX3_begin_31 ?_
  refine SX3_openLevel s1 ?_
  show zR G MX3_begin 34 [zr 47, zi a1] [] (zup (zup (zup (zup (zup (zup (zup (zup (zup (zup σ 47 11 a1) 47 12 (-1)) 47 10 0) 47 13 (-1)) 47 8 0) 47 7 0) 48 ((zup (zup (zup (zup (zup (zup σ 47 11 a1) 47 12 (-1)) 47 10 0) 47 13 (-1)) 47 8 0) 47 7 0) 47 7) 0) 49 ((zup (zup (zup (zup (zup (zup σ 47 11 a1) 47 12 (-1)) 47 10 0) 47 13 (-1)) 47 8 0) 47 7 0) 47 7) 1) 50 ((zup (zup (zup (zup (zup (zup σ 47 11 a1) 47 12 (-1)) 47 10 0) 47 13 (-1)) 47 8 0) 47 7 0) 47 7) 0) 47 9 1) Q
  exact z_vret rfl dX3_begin_34 (k2)
set_option maxRecDepth 20000 in
theorem SX6_empty {G : zG} {σ : zS} {Q : Int → zS → Prop} {a1 : Int}  (k1 : (0 : Int) ≤ a1 ∧ a1 < (12 : Int)) (kq : Q (0) (zup (zup (zup σ 54 a1 (-1)) 55 a1 (-1)) 56 a1 (-1))) : zO G MX6_empty [zr 52, zi a1] σ Q := by
  have k2 : Q 0 (zup (zup (zup σ 54 a1 (-1)) 55 a1 (-1)) 56 a1 (-1)) := by
    exact kq
  refine zO_of (ls0 := [zr 52, zi a1]) (by decide) (Nat.le_of_ble_eq_true rfl) rfl ?_
  refine z_aload_n dX6_empty_0 rfl rfl ?_
  refine z_getfR (k := 2) flRX6_15 rfl rfl dX6_empty_1 ?_
  refine z_iload_n dX6_empty_4 rfl rfl ?_
  refine z_iconst dX6_empty_5 (by unfold zIn; decide) ?_
  have s1 : (0 : Int) ≤ a1 ∧ a1 < (12 : Int) := k1
  refine z_iast rfl s1.1 s1.2 dX6_empty_6 ?_
  refine z_aload_n dX6_empty_7 rfl rfl ?_
  refine z_getfR (k := 3) flRX6_18 rfl rfl dX6_empty_8 ?_
  refine z_iload_n dX6_empty_11 rfl rfl ?_
  refine z_iconst dX6_empty_12 (by unfold zIn; decide) ?_
  refine z_iast rfl s1.1 s1.2 dX6_empty_13 ?_
  refine z_aload_n dX6_empty_14 rfl rfl ?_
  refine z_getfR (k := 4) flRX6_21 rfl rfl dX6_empty_15 ?_
  refine z_iload_n dX6_empty_18 rfl rfl ?_
  refine z_iconst dX6_empty_19 (by unfold zIn; decide) ?_
  refine z_iast rfl s1.1 s1.2 dX6_empty_20 ?_
  exact z_vret rfl dX6_empty_21 (k2)
set_option maxRecDepth 20000 in
theorem SX5_add {G : zG} {σ : zS} {Q : Int → zS → Prop} {a1 : Int}  (k1 : (0 : Int) ≤ σ 22 12 ∧ σ 22 12 < (24 : Int)) (k2 : -2147483648 ≤ σ 22 12 + 1 ∧ σ 22 12 + 1 < (2147483648 : Int)) (kq : Q (σ 22 12) (zup (zup σ 23 (σ 22 12) a1) 22 12 (σ 22 12 + 1))) : zO G MX5_add [zr 22, zi a1] σ Q := by
  have k3 : Q (σ 22 12) (zup (zup σ 23 (σ 22 12) a1) 22 12 (σ 22 12 + 1)) := by
    exact kq
  refine zO_of (ls0 := [zr 22, zi a1]) (by decide) (Nat.le_of_ble_eq_true rfl) rfl ?_
  refine z_aload_n dX5_add_0 rfl rfl ?_
  refine z_getfR (k := 0) flRX5_9 rfl rfl dX5_add_1 ?_
  refine z_aload_n dX5_add_4 rfl rfl ?_
  refine z_getfI (k := 12) flRX5_48 rfl rfl dX5_add_5 ?_
  refine z_iload_n dX5_add_8 rfl rfl ?_
  have s1 : (0 : Int) ≤ σ 22 12 ∧ σ 22 12 < (24 : Int) := k1
  refine z_iast rfl s1.1 s1.2 dX5_add_9 ?_
  refine z_aload_n dX5_add_10 rfl rfl ?_
  refine z_dup dX5_add_11 rfl ?_
  refine z_getfE (k := 12) (v := σ 22 12) flRX5_48 rfl rfl (zup_of (by decide)) dX5_add_12 ?_
  refine z_dup_x1 dX5_add_15 rfl rfl ?_
  refine z_iconst dX5_add_16 (by unfold zIn; decide) ?_
  have s2 : -2147483648 ≤ σ 22 12 + 1 ∧ σ 22 12 + 1 < (2147483648 : Int) := k2
  refine z_iaddN dX5_add_17 s2 ?_
  refine z_putI (k := 12) fpRX5_48 rfl rfl dX5_add_18 ?_
  exact z_ireti rfl dX5_add_21 (k3)
set_option maxRecDepth 20000 in
theorem SX5_has {G : zG} {σ : zS} {Q : Int → zS → Prop} {a1 : Int}   (kq : Q (if (0 ≤ a1 ∧ a1 < σ 22 12) then (1 : Int) else 0) σ) : zO G MX5_has [zr 22, zi a1] σ Q := by
  have k1 : (a1 < 0) → Q 0 σ := by
    intro h1
    have e : (if (0 ≤ a1 ∧ a1 < σ 22 12) then (1 : Int) else 0 : Int) = 0 := by first | exact if_pos (by omega) | exact if_neg (by omega) | (simp_all; done)
    rw [e] at kq; exact kq
  have k2 : (0 ≤ a1) → (σ 22 12 ≤ a1) → Q 0 σ := by
    intro h1 h2
    have e : (if (0 ≤ a1 ∧ a1 < σ 22 12) then (1 : Int) else 0 : Int) = 0 := by first | exact if_pos (by omega) | exact if_neg (by omega) | (simp_all; done)
    rw [e] at kq; exact kq
  have k3 : (0 ≤ a1) → (a1 < σ 22 12) → Q 1 σ := by
    intro h1 h2
    have e : (if (0 ≤ a1 ∧ a1 < σ 22 12) then (1 : Int) else 0 : Int) = 1 := by first | exact if_pos (by omega) | exact if_neg (by omega) | (simp_all; done)
    rw [e] at kq; exact kq
  refine zO_of (ls0 := [zr 22, zi a1]) (by decide) (Nat.le_of_ble_eq_true rfl) rfl ?_
  refine z_iload_n dX5_has_0 rfl rfl ?_
  refine z_if_lt dX5_has_1 (tgt := 16) (by decide) (fun h1 => ?_) (fun h1 => ?_)
  · skip
    refine z_iconst dX5_has_16 (by unfold zIn; decide) ?_
    exact z_iretz rfl (by decide) dX5_has_17 (k1 h1)
  · skip
    refine z_iload_n dX5_has_4 rfl rfl ?_
    refine z_aload_n dX5_has_5 rfl rfl ?_
    refine z_getfI (k := 12) flRX5_48 rfl rfl dX5_has_6 ?_
    refine z_icmp_ge dX5_has_9 (tgt := 16) (by decide) (fun h2 => ?_) (fun h2 => ?_)
    · skip
      refine z_iconst dX5_has_16 (by unfold zIn; decide) ?_
      exact z_iretz rfl (by decide) dX5_has_17 (k2 h1 h2)
    · skip
      refine z_iconst dX5_has_12 (by unfold zIn; decide) ?_
      refine z_goto dX5_has_13 (tgt := 17) (by decide) ?_
      exact z_iretz rfl (by decide) dX5_has_17 (k3 h1 h2)
set_option maxRecDepth 20000 in
theorem SX5_tellFact {G : zG} {σ : zS} {Q : Int → zS → Prop} {a1 a2 a3 a4 : Int}  (k1 : (0 : Int) ≤ σ 22 14 ∧ σ 22 14 < (400 : Int)) (k2 : -2147483648 ≤ σ 22 14 + 1 ∧ σ 22 14 + 1 < (2147483648 : Int)) (kq : Q (σ 22 14 + 1) (zup (zup (zup (zup (zup σ 28 (σ 22 14) a1) 29 (σ 22 14) a2) 30 (σ 22 14) a3) 31 (σ 22 14) a4) 22 14 (σ 22 14 + 1))) : zO G MX5_tellFact [zr 22, zi a1, zi a2, zi a3, zi a4] σ Q := by
  have k3 : Q (σ 22 14 + 1) (zup (zup (zup (zup (zup σ 28 (σ 22 14) a1) 29 (σ 22 14) a2) 30 (σ 22 14) a3) 31 (σ 22 14) a4) 22 14 (σ 22 14 + 1)) := by
    exact kq
  refine zO_of (ls0 := [zr 22, zi a1, zi a2, zi a3, zi a4]) (by decide) (Nat.le_of_ble_eq_true rfl) rfl ?_
  refine z_aload_n dX5_tellFact_0 rfl rfl ?_
  refine z_getfR (k := 5) flRX5_27 rfl rfl dX5_tellFact_1 ?_
  refine z_aload_n dX5_tellFact_4 rfl rfl ?_
  refine z_getfI (k := 14) flRX5_55 rfl rfl dX5_tellFact_5 ?_
  refine z_iload_n dX5_tellFact_8 rfl rfl ?_
  have s1 : (0 : Int) ≤ σ 22 14 ∧ σ 22 14 < (400 : Int) := k1
  refine z_iast rfl s1.1 s1.2 dX5_tellFact_9 ?_
  refine z_aload_n dX5_tellFact_10 rfl rfl ?_
  refine z_getfR (k := 6) flRX5_30 rfl rfl dX5_tellFact_11 ?_
  refine z_aload_n dX5_tellFact_14 rfl rfl ?_
  refine z_getfE (k := 14) (v := σ 22 14) flRX5_55 rfl rfl (zup_of (by decide)) dX5_tellFact_15 ?_
  refine z_iload_n dX5_tellFact_18 rfl rfl ?_
  refine z_iast rfl s1.1 s1.2 dX5_tellFact_19 ?_
  refine z_aload_n dX5_tellFact_20 rfl rfl ?_
  refine z_getfR (k := 7) flRX5_33 rfl rfl dX5_tellFact_21 ?_
  refine z_aload_n dX5_tellFact_24 rfl rfl ?_
  refine z_getfE (k := 14) (v := σ 22 14) flRX5_55 rfl rfl ((zup_of (by decide)).trans (zup_of (by decide))) dX5_tellFact_25 ?_
  refine z_iload_n dX5_tellFact_28 rfl rfl ?_
  refine z_iast rfl s1.1 s1.2 dX5_tellFact_29 ?_
  refine z_aload_n dX5_tellFact_30 rfl rfl ?_
  refine z_getfR (k := 8) flRX5_36 rfl rfl dX5_tellFact_31 ?_
  refine z_aload_n dX5_tellFact_34 rfl rfl ?_
  refine z_getfE (k := 14) (v := σ 22 14) flRX5_55 rfl rfl ((zup_of (by decide)).trans ((zup_of (by decide)).trans (zup_of (by decide)))) dX5_tellFact_35 ?_
  refine z_iload dX5_tellFact_38 rfl ?_
  refine z_iast rfl s1.1 s1.2 dX5_tellFact_40 ?_
  refine z_aload_n dX5_tellFact_41 rfl rfl ?_
  refine z_dup dX5_tellFact_42 rfl ?_
  refine z_getfE (k := 14) (v := σ 22 14) flRX5_55 rfl rfl ((zup_of (by decide)).trans ((zup_of (by decide)).trans ((zup_of (by decide)).trans (zup_of (by decide))))) dX5_tellFact_43 ?_
  refine z_iconst dX5_tellFact_46 (by unfold zIn; decide) ?_
  have s2 : -2147483648 ≤ σ 22 14 + 1 ∧ σ 22 14 + 1 < (2147483648 : Int) := k2
  refine z_iaddN dX5_tellFact_47 s2 ?_
  refine z_dup_x1 dX5_tellFact_48 rfl rfl ?_
  refine z_putI (k := 14) fpRX5_55 rfl rfl dX5_tellFact_49 ?_
  exact z_ireti rfl dX5_tellFact_52 (k3)
set_option maxRecDepth 20000 in
theorem SX9_hasElement {G : zG} {σ : zS} {Q : Int → zS → Prop} {a1 : Int} {t te : Nat} (ht : zsh t = (4, 9, [some te, none, none, none])) (hte : zsh te = (2, 80, []))  (kq : Q (if (0 ≤ a1 ∧ a1 < σ t 2) then (1 : Int) else 0) σ) : zO G MX9_hasElement [zr t, zi a1] σ Q := by
  have k1 : (a1 < 0) → Q 0 σ := by
    intro h1
    have e : (if (0 ≤ a1 ∧ a1 < σ t 2) then (1 : Int) else 0 : Int) = 0 := by first | exact if_pos (by omega) | exact if_neg (by omega) | (simp_all; done)
    rw [e] at kq; exact kq
  have k2 : (0 ≤ a1) → (σ t 2 ≤ a1) → Q 0 σ := by
    intro h1 h2
    have e : (if (0 ≤ a1 ∧ a1 < σ t 2) then (1 : Int) else 0 : Int) = 0 := by first | exact if_pos (by omega) | exact if_neg (by omega) | (simp_all; done)
    rw [e] at kq; exact kq
  have k3 : (0 ≤ a1) → (a1 < σ t 2) → Q 1 σ := by
    intro h1 h2
    have e : (if (0 ≤ a1 ∧ a1 < σ t 2) then (1 : Int) else 0 : Int) = 1 := by first | exact if_pos (by omega) | exact if_neg (by omega) | (simp_all; done)
    rw [e] at kq; exact kq
  refine zO_of (ls0 := [zr t, zi a1]) (by decide) (Nat.le_of_ble_eq_true rfl) rfl ?_
  refine z_iload_n dX9_hasElement_0 rfl rfl ?_
  refine z_if_lt dX9_hasElement_1 (tgt := 16) (by decide) (fun h1 => ?_) (fun h1 => ?_)
  · skip
    refine z_iconst dX9_hasElement_16 (by unfold zIn; decide) ?_
    exact z_iretz rfl (by decide) dX9_hasElement_17 (k1 h1)
  · skip
    refine z_iload_n dX9_hasElement_4 rfl rfl ?_
    refine z_aload_n dX9_hasElement_5 rfl rfl ?_
    refine z_getfI (k := 2) flRX9_19 ht rfl dX9_hasElement_6 ?_
    refine z_icmp_ge dX9_hasElement_9 (tgt := 16) (by decide) (fun h2 => ?_) (fun h2 => ?_)
    · skip
      refine z_iconst dX9_hasElement_16 (by unfold zIn; decide) ?_
      exact z_iretz rfl (by decide) dX9_hasElement_17 (k2 h1 h2)
    · skip
      refine z_iconst dX9_hasElement_12 (by unfold zIn; decide) ?_
      refine z_goto dX9_hasElement_13 (tgt := 17) (by decide) ?_
      exact z_iretz rfl (by decide) dX9_hasElement_17 (k3 h1 h2)
set_option maxRecDepth 20000 in
theorem SX9_takePerson {G : zG} {σ : zS} {Q : Int → zS → Prop} {a1 : Int} {t te : Nat} (ht : zsh t = (4, 9, [some te, none, none, none])) (hte : zsh te = (2, 80, []))  (kq : Q (0) (zup (zup (zup σ t 1 (-1)) t 2 0) t 3 a1)) : zO G MX9_takePerson [zr t, zi a1] σ Q := by
  have k1 : Q 0 (zup (zup (zup σ t 1 (-1)) t 2 0) t 3 a1) := by
    exact kq
  refine zO_of (ls0 := [zr t, zi a1]) (by decide) (Nat.le_of_ble_eq_true rfl) rfl ?_
  refine z_aload_n dX9_takePerson_0 rfl rfl ?_
  refine z_iconst dX9_takePerson_1 (by unfold zIn; decide) ?_
  refine z_putI (k := 1) fpRX9_15 ht rfl dX9_takePerson_2 ?_
  refine z_aload_n dX9_takePerson_5 rfl rfl ?_
  refine z_iconst dX9_takePerson_6 (by unfold zIn; decide) ?_
  refine z_putI (k := 2) fpRX9_19 ht rfl dX9_takePerson_7 ?_
  refine z_aload_n dX9_takePerson_10 rfl rfl ?_
  refine z_iload_n dX9_takePerson_11 rfl rfl ?_
  refine z_putI (k := 3) fpRX9_22 ht rfl dX9_takePerson_12 ?_
  exact z_vret rfl dX9_takePerson_15 (k1)
set_option maxRecDepth 20000 in
theorem SX9_letter {G : zG} {σ : zS} {Q : Int → zS → Prop} {a1 : Int} {t te : Nat} (ht : zsh t = (4, 9, [some te, none, none, none])) (hte : zsh te = (2, 80, [])) (k1 : (0 : Int) ≤ a1 ∧ a1 < (80 : Int)) (kq : Q (zW (σ te a1)) σ) : zO G MX9_letter [zr t, zi a1] σ Q := by
  have k2 : Q (zW (σ te a1)) σ := by
    exact kq
  refine zO_of (ls0 := [zr t, zi a1]) (by decide) (Nat.le_of_ble_eq_true rfl) rfl ?_
  refine z_aload_n dX9_letter_0 rfl rfl ?_
  refine z_getfR (k := 0) flRX9_9 ht rfl dX9_letter_1 ?_
  refine z_iload_n dX9_letter_4 rfl rfl ?_
  have s1 : (0 : Int) ≤ a1 ∧ a1 < (80 : Int) := k1
  refine z_lald hte s1.1 s1.2 dX9_letter_5 ?_
  refine z_l2i dX9_letter_6 ?_
  exact z_ireti rfl dX9_letter_7 (k2)
set_option maxRecDepth 20000 in
theorem SX6_add {G : zG} {σ : zS} {Q : Int → zS → Prop} {a1 : Int}  (k1 : (0 : Int) ≤ σ 52 7 ∧ σ 52 7 < (12 : Int)) (k2 : (0 : Int) ≤ (σ 52 7) ∧ (σ 52 7) < (12 : Int)) (k3 : -2147483648 ≤ σ 52 7 + 1 ∧ σ 52 7 + 1 < (2147483648 : Int)) (kq : Q (σ 52 7) (zup (zup (zup (zup (zup σ 53 (σ 52 7) a1) 54 (σ 52 7) (-1)) 55 (σ 52 7) (-1)) 56 (σ 52 7) (-1)) 52 7 (σ 52 7 + 1))) : zO G MX6_add [zr 52, zi a1] σ Q := by
  have k4 : Q (σ 52 7) (zup (zup (zup (zup (zup σ 53 (σ 52 7) a1) 54 (σ 52 7) (-1)) 55 (σ 52 7) (-1)) 56 (σ 52 7) (-1)) 52 7 (σ 52 7 + 1)) := by
    exact kq
  refine zO_of (ls0 := [zr 52, zi a1]) (by decide) (Nat.le_of_ble_eq_true rfl) rfl ?_
  refine z_aload_n dX6_add_0 rfl rfl ?_
  refine z_getfR (k := 1) flRX6_11 rfl rfl dX6_add_1 ?_
  refine z_aload_n dX6_add_4 rfl rfl ?_
  refine z_getfI (k := 7) flRX6_30 rfl rfl dX6_add_5 ?_
  refine z_iload_n dX6_add_8 rfl rfl ?_
  have s1 : (0 : Int) ≤ σ 52 7 ∧ σ 52 7 < (12 : Int) := k1
  refine z_iast rfl s1.1 s1.2 dX6_add_9 ?_
  refine z_aload_n dX6_add_10 rfl rfl ?_
  refine z_aload_n dX6_add_11 rfl rfl ?_
  refine z_getfE (k := 7) (v := σ 52 7) flRX6_30 rfl rfl (zup_of (by decide)) dX6_add_12 ?_
  have s2 : (0 : Int) ≤ (σ 52 7) ∧ (σ 52 7) < (12 : Int) := k2
  refine z_callv (as := [zi (σ 52 7)]) (st := []) mkX6_empty lkRX6_41 rfl rfl rfl (by decide) (Nat.le_of_ble_eq_true rfl) rfl dX6_add_15 ?_
  refine SX6_empty s2 ?_
  show zR G MX6_add 18 [zr 52, zi a1] [] (zup (zup (zup (zup σ 53 (σ 52 7) a1) 54 (σ 52 7) (-1)) 55 (σ 52 7) (-1)) 56 (σ 52 7) (-1)) Q
  refine z_aload_n dX6_add_18 rfl rfl ?_
  refine z_dup dX6_add_19 rfl ?_
  refine z_getfE (k := 7) (v := σ 52 7) flRX6_30 rfl rfl ((zup_of (by decide)).trans ((zup_of (by decide)).trans ((zup_of (by decide)).trans (zup_of (by decide))))) dX6_add_20 ?_
  refine z_dup_x1 dX6_add_23 rfl rfl ?_
  refine z_iconst dX6_add_24 (by unfold zIn; decide) ?_
  have s3 : -2147483648 ≤ σ 52 7 + 1 ∧ σ 52 7 + 1 < (2147483648 : Int) := k3
  refine z_iaddN dX6_add_25 s3 ?_
  refine z_putI (k := 7) fpRX6_30 rfl rfl dX6_add_26 ?_
  exact z_ireti rfl dX6_add_29 (k4)
set_option maxRecDepth 20000 in
theorem SX6_has {G : zG} {σ : zS} {Q : Int → zS → Prop} {a1 : Int}   (kq : Q (if (0 ≤ a1 ∧ a1 < σ 52 7) then (1 : Int) else 0) σ) : zO G MX6_has [zr 52, zi a1] σ Q := by
  have k1 : (a1 < 0) → Q 0 σ := by
    intro h1
    have e : (if (0 ≤ a1 ∧ a1 < σ 52 7) then (1 : Int) else 0 : Int) = 0 := by first | exact if_pos (by omega) | exact if_neg (by omega) | (simp_all; done)
    rw [e] at kq; exact kq
  have k2 : (0 ≤ a1) → (σ 52 7 ≤ a1) → Q 0 σ := by
    intro h1 h2
    have e : (if (0 ≤ a1 ∧ a1 < σ 52 7) then (1 : Int) else 0 : Int) = 0 := by first | exact if_pos (by omega) | exact if_neg (by omega) | (simp_all; done)
    rw [e] at kq; exact kq
  have k3 : (0 ≤ a1) → (a1 < σ 52 7) → Q 1 σ := by
    intro h1 h2
    have e : (if (0 ≤ a1 ∧ a1 < σ 52 7) then (1 : Int) else 0 : Int) = 1 := by first | exact if_pos (by omega) | exact if_neg (by omega) | (simp_all; done)
    rw [e] at kq; exact kq
  refine zO_of (ls0 := [zr 52, zi a1]) (by decide) (Nat.le_of_ble_eq_true rfl) rfl ?_
  refine z_iload_n dX6_has_0 rfl rfl ?_
  refine z_if_lt dX6_has_1 (tgt := 16) (by decide) (fun h1 => ?_) (fun h1 => ?_)
  · skip
    refine z_iconst dX6_has_16 (by unfold zIn; decide) ?_
    exact z_iretz rfl (by decide) dX6_has_17 (k1 h1)
  · skip
    refine z_iload_n dX6_has_4 rfl rfl ?_
    refine z_aload_n dX6_has_5 rfl rfl ?_
    refine z_getfI (k := 7) flRX6_30 rfl rfl dX6_has_6 ?_
    refine z_icmp_ge dX6_has_9 (tgt := 16) (by decide) (fun h2 => ?_) (fun h2 => ?_)
    · skip
      refine z_iconst dX6_has_16 (by unfold zIn; decide) ?_
      exact z_iretz rfl (by decide) dX6_has_17 (k2 h1 h2)
    · skip
      refine z_iconst dX6_has_12 (by unfold zIn; decide) ?_
      refine z_goto dX6_has_13 (tgt := 17) (by decide) ?_
      exact z_iretz rfl (by decide) dX6_has_17 (k3 h1 h2)
set_option maxRecDepth 20000 in
theorem SX6_come {G : zG} {σ : zS} {Q : Int → zS → Prop} {a1 a2 a3 : Int}  (k1 : (0 : Int) ≤ a2 ∧ a2 < (12 : Int)) (kq : Q (0) (zup (zup (zup (zup σ 54 a2 a1) 55 a2 a3) 56 a2 (-1)) 57 a2 0)) : zO G MX6_come [zr 52, zi a1, zi a2, zi a3] σ Q := by
  have k2 : Q 0 (zup (zup (zup (zup σ 54 a2 a1) 55 a2 a3) 56 a2 (-1)) 57 a2 0) := by
    exact kq
  refine zO_of (ls0 := [zr 52, zi a1, zi a2, zi a3]) (by decide) (Nat.le_of_ble_eq_true rfl) rfl ?_
  refine z_aload_n dX6_come_0 rfl rfl ?_
  refine z_getfR (k := 2) flRX6_15 rfl rfl dX6_come_1 ?_
  refine z_iload_n dX6_come_4 rfl rfl ?_
  refine z_iload_n dX6_come_5 rfl rfl ?_
  have s1 : (0 : Int) ≤ a2 ∧ a2 < (12 : Int) := k1
  refine z_iast rfl s1.1 s1.2 dX6_come_6 ?_
  refine z_aload_n dX6_come_7 rfl rfl ?_
  refine z_getfR (k := 3) flRX6_18 rfl rfl dX6_come_8 ?_
  refine z_iload_n dX6_come_11 rfl rfl ?_
  refine z_iload_n dX6_come_12 rfl rfl ?_
  refine z_iast rfl s1.1 s1.2 dX6_come_13 ?_
  refine z_aload_n dX6_come_14 rfl rfl ?_
  refine z_getfR (k := 4) flRX6_21 rfl rfl dX6_come_15 ?_
  refine z_iload_n dX6_come_18 rfl rfl ?_
  refine z_iconst dX6_come_19 (by unfold zIn; decide) ?_
  refine z_iast rfl s1.1 s1.2 dX6_come_20 ?_
  refine z_aload_n dX6_come_21 rfl rfl ?_
  refine z_getfR (k := 5) flRX6_24 rfl rfl dX6_come_22 ?_
  refine z_iload_n dX6_come_25 rfl rfl ?_
  refine z_iconst dX6_come_26 (by unfold zIn; decide) ?_
  refine z_iast rfl s1.1 s1.2 dX6_come_27 ?_
  exact z_vret rfl dX6_come_28 (k2)
set_option maxRecDepth 20000 in
theorem SX5_hasAll {G : zG} {σ : zS} {Q : Int → zS → Prop} {a1 : Int}   (kq : Q (if zushr a1 (σ 22 12) = 0 then (1 : Int) else 0) σ) : zO G MX5_hasAll [zr 22, zi a1] σ Q := by
  have k1 : (zushr a1 (σ 22 12) ≠ 0) → Q 0 σ := by
    intro h1
    have e : (if zushr a1 (σ 22 12) = 0 then (1 : Int) else 0 : Int) = 0 := by first | exact if_pos (by omega) | exact if_neg (by omega) | (simp_all; done)
    rw [e] at kq; exact kq
  have k2 : (zushr a1 (σ 22 12) = 0) → Q 1 σ := by
    intro h1
    have e : (if zushr a1 (σ 22 12) = 0 then (1 : Int) else 0 : Int) = 1 := by first | exact if_pos (by omega) | exact if_neg (by omega) | (simp_all; done)
    rw [e] at kq; exact kq
  refine zO_of (ls0 := [zr 22, zi a1]) (by decide) (Nat.le_of_ble_eq_true rfl) rfl ?_
  refine z_iload_n dX5_hasAll_0 rfl rfl ?_
  refine z_aload_n dX5_hasAll_1 rfl rfl ?_
  refine z_getfI (k := 12) flRX5_48 rfl rfl dX5_hasAll_2 ?_
  refine z_iushr dX5_hasAll_5 ?_
  refine z_if_ne dX5_hasAll_6 (tgt := 13) (by decide) (fun h1 => ?_) (fun h1 => ?_)
  · skip
    refine z_iconst dX5_hasAll_13 (by unfold zIn; decide) ?_
    exact z_iretz rfl (by decide) dX5_hasAll_14 (k1 h1)
  · skip
    refine z_iconst dX5_hasAll_9 (by unfold zIn; decide) ?_
    refine z_goto dX5_hasAll_10 (tgt := 14) (by decide) ?_
    exact z_iretz rfl (by decide) dX5_hasAll_14 (k2 h1)
set_option maxRecDepth 20000 in
theorem SX1_has {G : zG} {σ : zS} {Q : Int → zS → Prop} {a1 : Int} {t to tz tn : Nat} (ht : zsh t = (4, 1, [none, some to, some tz])) (hto : zsh to = (0, tn, [])) (htz : zsh tz = (0, 24, [])) (k1 : (0 : Int) ≤ a1 ∧ a1 < (24 : Int)) (kq : Q (if σ tz a1 ≠ (-1) then (1 : Int) else 0) σ) : zO G MX1_has [zr t, zi a1] σ Q := by
  have k2 : (σ tz a1 = (-1)) → Q 0 σ := by
    intro h1
    have e : (if σ tz a1 ≠ (-1) then (1 : Int) else 0 : Int) = 0 := by first | exact if_pos (by omega) | exact if_neg (by omega) | (simp_all; done)
    rw [e] at kq; exact kq
  have k3 : (σ tz a1 ≠ (-1)) → Q 1 σ := by
    intro h1
    have e : (if σ tz a1 ≠ (-1) then (1 : Int) else 0 : Int) = 1 := by first | exact if_pos (by omega) | exact if_neg (by omega) | (simp_all; done)
    rw [e] at kq; exact kq
  refine zO_of (ls0 := [zr t, zi a1]) (by decide) (Nat.le_of_ble_eq_true rfl) rfl ?_
  refine z_aload_n dX1_has_0 rfl rfl ?_
  refine z_getfR (k := 2) flRX1_9 ht rfl dX1_has_1 ?_
  refine z_iload_n dX1_has_4 rfl rfl ?_
  have s1 : (0 : Int) ≤ a1 ∧ a1 < (24 : Int) := k1
  refine z_iald htz s1.1 s1.2 dX1_has_5 ?_
  refine z_iconst dX1_has_6 (by unfold zIn; decide) ?_
  refine z_icmp_eq dX1_has_7 (tgt := 14) (by decide) (fun h1 => ?_) (fun h1 => ?_)
  · skip
    refine z_iconst dX1_has_14 (by unfold zIn; decide) ?_
    exact z_iretz rfl (by decide) dX1_has_15 (k2 h1)
  · skip
    refine z_iconst dX1_has_10 (by unfold zIn; decide) ?_
    refine z_goto dX1_has_11 (tgt := 15) (by decide) ?_
    exact z_iretz rfl (by decide) dX1_has_15 (k3 h1)
set_option maxRecDepth 20000 in
theorem SX2_goesAhead {G : zG} {σ : zS} {Q : Int → zS → Prop} {a1 a2 : Int}  (k1 : (0 : Int) ≤ a1 ∧ a1 < (24 : Int)) (k2 : (0 : Int) ≤ a2 ∧ a2 < (24 : Int)) (kq : Q (if (σ 67 a1 = σ 67 a2 ∧ σ 23 a2 ≤ σ 23 a1) ∨ (σ 67 a1 ≠ σ 67 a2 ∧ σ 67 a1 < σ 67 a2) then (1 : Int) else 0) σ) : zO G MX2_goesAhead [zr 65, zi a1, zi a2] σ Q := by
  have k3 : (σ 67 a1 = σ 67 a2) → (σ 23 a1 < σ 23 a2) → Q 0 σ := by
    intro h1 h2
    have e : (if (σ 67 a1 = σ 67 a2 ∧ σ 23 a2 ≤ σ 23 a1) ∨ (σ 67 a1 ≠ σ 67 a2 ∧ σ 67 a1 < σ 67 a2) then (1 : Int) else 0 : Int) = 0 := by first | exact if_pos (by omega) | exact if_neg (by omega) | (simp_all; done)
    rw [e] at kq; exact kq
  have k4 : (σ 67 a1 = σ 67 a2) → (σ 23 a2 ≤ σ 23 a1) → Q 1 σ := by
    intro h1 h2
    have e : (if (σ 67 a1 = σ 67 a2 ∧ σ 23 a2 ≤ σ 23 a1) ∨ (σ 67 a1 ≠ σ 67 a2 ∧ σ 67 a1 < σ 67 a2) then (1 : Int) else 0 : Int) = 1 := by first | exact if_pos (by omega) | exact if_neg (by omega) | (simp_all; done)
    rw [e] at kq; exact kq
  have k5 : (σ 67 a1 ≠ σ 67 a2) → (σ 67 a2 ≤ σ 67 a1) → Q 0 σ := by
    intro h1 h3
    have e : (if (σ 67 a1 = σ 67 a2 ∧ σ 23 a2 ≤ σ 23 a1) ∨ (σ 67 a1 ≠ σ 67 a2 ∧ σ 67 a1 < σ 67 a2) then (1 : Int) else 0 : Int) = 0 := by first | exact if_pos (by omega) | exact if_neg (by omega) | (simp_all; done)
    rw [e] at kq; exact kq
  have k6 : (σ 67 a1 ≠ σ 67 a2) → (σ 67 a1 < σ 67 a2) → Q 1 σ := by
    intro h1 h3
    have e : (if (σ 67 a1 = σ 67 a2 ∧ σ 23 a2 ≤ σ 23 a1) ∨ (σ 67 a1 ≠ σ 67 a2 ∧ σ 67 a1 < σ 67 a2) then (1 : Int) else 0 : Int) = 1 := by first | exact if_pos (by omega) | exact if_neg (by omega) | (simp_all; done)
    rw [e] at kq; exact kq
  refine zO_of (ls0 := [zr 65, zi a1, zi a2]) (by decide) (Nat.le_of_ble_eq_true rfl) rfl ?_
  refine z_aload_n dX2_goesAhead_0 rfl rfl ?_
  refine z_getfR (k := 6) flRX2_24 rfl rfl dX2_goesAhead_1 ?_
  refine z_iload_n dX2_goesAhead_4 rfl rfl ?_
  have s1 : (0 : Int) ≤ a1 ∧ a1 < (24 : Int) := k1
  refine z_iald rfl s1.1 s1.2 dX2_goesAhead_5 ?_
  refine z_aload_n dX2_goesAhead_6 rfl rfl ?_
  refine z_getfR (k := 6) flRX2_24 rfl rfl dX2_goesAhead_7 ?_
  refine z_iload_n dX2_goesAhead_10 rfl rfl ?_
  have s2 : (0 : Int) ≤ a2 ∧ a2 < (24 : Int) := k2
  refine z_iald rfl s2.1 s2.2 dX2_goesAhead_11 ?_
  refine z_icmp_eq dX2_goesAhead_12 (tgt := 36) (by decide) (fun h1 => ?_) (fun h1 => ?_)
  · skip
    refine z_aload_n dX2_goesAhead_36 rfl rfl ?_
    refine z_getfR (k := 0) flRX2_40 rfl rfl dX2_goesAhead_37 ?_
    refine z_getfR (k := 0) flRX2_127 rfl rfl dX2_goesAhead_40 ?_
    refine z_iload_n dX2_goesAhead_43 rfl rfl ?_
    refine z_iald rfl s1.1 s1.2 dX2_goesAhead_44 ?_
    refine z_aload_n dX2_goesAhead_45 rfl rfl ?_
    refine z_getfR (k := 0) flRX2_40 rfl rfl dX2_goesAhead_46 ?_
    refine z_getfR (k := 0) flRX2_127 rfl rfl dX2_goesAhead_49 ?_
    refine z_iload_n dX2_goesAhead_52 rfl rfl ?_
    refine z_iald rfl s2.1 s2.2 dX2_goesAhead_53 ?_
    refine z_icmp_lt dX2_goesAhead_54 (tgt := 61) (by decide) (fun h2 => ?_) (fun h2 => ?_)
    · skip
      refine z_iconst dX2_goesAhead_61 (by unfold zIn; decide) ?_
      exact z_iretz rfl (by decide) dX2_goesAhead_62 (k3 h1 h2)
    · skip
      refine z_iconst dX2_goesAhead_57 (by unfold zIn; decide) ?_
      refine z_goto dX2_goesAhead_58 (tgt := 62) (by decide) ?_
      exact z_iretz rfl (by decide) dX2_goesAhead_62 (k4 h1 h2)
  · skip
    refine z_aload_n dX2_goesAhead_15 rfl rfl ?_
    refine z_getfR (k := 6) flRX2_24 rfl rfl dX2_goesAhead_16 ?_
    refine z_iload_n dX2_goesAhead_19 rfl rfl ?_
    refine z_iald rfl s1.1 s1.2 dX2_goesAhead_20 ?_
    refine z_aload_n dX2_goesAhead_21 rfl rfl ?_
    refine z_getfR (k := 6) flRX2_24 rfl rfl dX2_goesAhead_22 ?_
    refine z_iload_n dX2_goesAhead_25 rfl rfl ?_
    refine z_iald rfl s2.1 s2.2 dX2_goesAhead_26 ?_
    refine z_icmp_ge dX2_goesAhead_27 (tgt := 34) (by decide) (fun h3 => ?_) (fun h3 => ?_)
    · skip
      refine z_iconst dX2_goesAhead_34 (by unfold zIn; decide) ?_
      exact z_iretz rfl (by decide) dX2_goesAhead_35 (k5 h1 h3)
    · skip
      refine z_iconst dX2_goesAhead_30 (by unfold zIn; decide) ?_
      refine z_goto dX2_goesAhead_31 (tgt := 35) (by decide) ?_
      exact z_iretz rfl (by decide) dX2_goesAhead_35 (k6 h1 h3)
set_option maxRecDepth 20000 in
theorem SX6_isSenior {G : zG} {σ : zS} {Q : Int → zS → Prop} {a1 a2 : Int}  (k1 : (0 : Int) ≤ a1 ∧ a1 < (12 : Int)) (k2 : (0 : Int) ≤ a2 ∧ a2 < (12 : Int)) (kq : Q (if (σ 55 a1 = σ 55 a2 ∧ σ 54 a1 < σ 54 a2) ∨ (σ 55 a1 ≠ σ 55 a2 ∧ σ 55 a1 < σ 55 a2) then (1 : Int) else 0) σ) : zO G MX6_isSenior [zr 52, zi a1, zi a2] σ Q := by
  have k3 : (σ 55 a1 = σ 55 a2) → (σ 54 a2 ≤ σ 54 a1) → Q 0 σ := by
    intro h1 h2
    have e : (if (σ 55 a1 = σ 55 a2 ∧ σ 54 a1 < σ 54 a2) ∨ (σ 55 a1 ≠ σ 55 a2 ∧ σ 55 a1 < σ 55 a2) then (1 : Int) else 0 : Int) = 0 := by first | exact if_pos (by omega) | exact if_neg (by omega) | (simp_all; done)
    rw [e] at kq; exact kq
  have k4 : (σ 55 a1 = σ 55 a2) → (σ 54 a1 < σ 54 a2) → Q 1 σ := by
    intro h1 h2
    have e : (if (σ 55 a1 = σ 55 a2 ∧ σ 54 a1 < σ 54 a2) ∨ (σ 55 a1 ≠ σ 55 a2 ∧ σ 55 a1 < σ 55 a2) then (1 : Int) else 0 : Int) = 1 := by first | exact if_pos (by omega) | exact if_neg (by omega) | (simp_all; done)
    rw [e] at kq; exact kq
  have k5 : (σ 55 a1 ≠ σ 55 a2) → (σ 55 a2 ≤ σ 55 a1) → Q 0 σ := by
    intro h1 h3
    have e : (if (σ 55 a1 = σ 55 a2 ∧ σ 54 a1 < σ 54 a2) ∨ (σ 55 a1 ≠ σ 55 a2 ∧ σ 55 a1 < σ 55 a2) then (1 : Int) else 0 : Int) = 0 := by first | exact if_pos (by omega) | exact if_neg (by omega) | (simp_all; done)
    rw [e] at kq; exact kq
  have k6 : (σ 55 a1 ≠ σ 55 a2) → (σ 55 a1 < σ 55 a2) → Q 1 σ := by
    intro h1 h3
    have e : (if (σ 55 a1 = σ 55 a2 ∧ σ 54 a1 < σ 54 a2) ∨ (σ 55 a1 ≠ σ 55 a2 ∧ σ 55 a1 < σ 55 a2) then (1 : Int) else 0 : Int) = 1 := by first | exact if_pos (by omega) | exact if_neg (by omega) | (simp_all; done)
    rw [e] at kq; exact kq
  refine zO_of (ls0 := [zr 52, zi a1, zi a2]) (by decide) (Nat.le_of_ble_eq_true rfl) rfl ?_
  refine z_aload_n dX6_isSenior_0 rfl rfl ?_
  refine z_getfR (k := 3) flRX6_18 rfl rfl dX6_isSenior_1 ?_
  refine z_iload_n dX6_isSenior_4 rfl rfl ?_
  have s1 : (0 : Int) ≤ a1 ∧ a1 < (12 : Int) := k1
  refine z_iald rfl s1.1 s1.2 dX6_isSenior_5 ?_
  refine z_aload_n dX6_isSenior_6 rfl rfl ?_
  refine z_getfR (k := 3) flRX6_18 rfl rfl dX6_isSenior_7 ?_
  refine z_iload_n dX6_isSenior_10 rfl rfl ?_
  have s2 : (0 : Int) ≤ a2 ∧ a2 < (12 : Int) := k2
  refine z_iald rfl s2.1 s2.2 dX6_isSenior_11 ?_
  refine z_icmp_eq dX6_isSenior_12 (tgt := 36) (by decide) (fun h1 => ?_) (fun h1 => ?_)
  · skip
    refine z_aload_n dX6_isSenior_36 rfl rfl ?_
    refine z_getfR (k := 2) flRX6_15 rfl rfl dX6_isSenior_37 ?_
    refine z_iload_n dX6_isSenior_40 rfl rfl ?_
    refine z_iald rfl s1.1 s1.2 dX6_isSenior_41 ?_
    refine z_aload_n dX6_isSenior_42 rfl rfl ?_
    refine z_getfR (k := 2) flRX6_15 rfl rfl dX6_isSenior_43 ?_
    refine z_iload_n dX6_isSenior_46 rfl rfl ?_
    refine z_iald rfl s2.1 s2.2 dX6_isSenior_47 ?_
    refine z_icmp_ge dX6_isSenior_48 (tgt := 55) (by decide) (fun h2 => ?_) (fun h2 => ?_)
    · skip
      refine z_iconst dX6_isSenior_55 (by unfold zIn; decide) ?_
      exact z_iretz rfl (by decide) dX6_isSenior_56 (k3 h1 h2)
    · skip
      refine z_iconst dX6_isSenior_51 (by unfold zIn; decide) ?_
      refine z_goto dX6_isSenior_52 (tgt := 56) (by decide) ?_
      exact z_iretz rfl (by decide) dX6_isSenior_56 (k4 h1 h2)
  · skip
    refine z_aload_n dX6_isSenior_15 rfl rfl ?_
    refine z_getfR (k := 3) flRX6_18 rfl rfl dX6_isSenior_16 ?_
    refine z_iload_n dX6_isSenior_19 rfl rfl ?_
    refine z_iald rfl s1.1 s1.2 dX6_isSenior_20 ?_
    refine z_aload_n dX6_isSenior_21 rfl rfl ?_
    refine z_getfR (k := 3) flRX6_18 rfl rfl dX6_isSenior_22 ?_
    refine z_iload_n dX6_isSenior_25 rfl rfl ?_
    refine z_iald rfl s2.1 s2.2 dX6_isSenior_26 ?_
    refine z_icmp_ge dX6_isSenior_27 (tgt := 34) (by decide) (fun h3 => ?_) (fun h3 => ?_)
    · skip
      refine z_iconst dX6_isSenior_34 (by unfold zIn; decide) ?_
      exact z_iretz rfl (by decide) dX6_isSenior_35 (k5 h1 h3)
    · skip
      refine z_iconst dX6_isSenior_30 (by unfold zIn; decide) ?_
      refine z_goto dX6_isSenior_31 (tgt := 35) (by decide) ?_
      exact z_iretz rfl (by decide) dX6_isSenior_35 (k6 h1 h3)
set_option maxRecDepth 20000 in
theorem SX11_areTerms {G : zG} {σ : zS} {Q : Int → zS → Prop} {a1 a2 a3 a4 : Int}   (kq : Q (if (((1 ≤ a1 ∧ a1 ≤ 9999)) ∧ ((0 ≤ a2 ∧ a2 ≤ 999)) ∧ ((0 ≤ a3 ∧ a3 ≤ 999)) ∧ ((0 ≤ a4 ∧ a4 ≤ 51))) then (1 : Int) else 0) σ) : zO G MX11_areTerms [zi a1, zi a2, zi a3, zi a4] σ Q := by
  have k1 : (¬ ((1 ≤ a1 ∧ a1 ≤ 9999))) → Q 0 σ := by
    intro h1
    have e : (if (((1 ≤ a1 ∧ a1 ≤ 9999)) ∧ ((0 ≤ a2 ∧ a2 ≤ 999)) ∧ ((0 ≤ a3 ∧ a3 ≤ 999)) ∧ ((0 ≤ a4 ∧ a4 ≤ 51))) then (1 : Int) else 0 : Int) = 0 := by first | exact if_pos (by omega) | exact if_neg (by omega) | (simp_all; done)
    rw [e] at kq; exact kq
  have k2 : ((1 ≤ a1 ∧ a1 ≤ 9999)) → (¬ ((0 ≤ a2 ∧ a2 ≤ 999))) → Q 0 σ := by
    intro h1 h2
    have e : (if (((1 ≤ a1 ∧ a1 ≤ 9999)) ∧ ((0 ≤ a2 ∧ a2 ≤ 999)) ∧ ((0 ≤ a3 ∧ a3 ≤ 999)) ∧ ((0 ≤ a4 ∧ a4 ≤ 51))) then (1 : Int) else 0 : Int) = 0 := by first | exact if_pos (by omega) | exact if_neg (by omega) | (simp_all; done)
    rw [e] at kq; exact kq
  have k3 : ((1 ≤ a1 ∧ a1 ≤ 9999)) → ((0 ≤ a2 ∧ a2 ≤ 999)) → (¬ ((0 ≤ a3 ∧ a3 ≤ 999))) → Q 0 σ := by
    intro h1 h2 h3
    have e : (if (((1 ≤ a1 ∧ a1 ≤ 9999)) ∧ ((0 ≤ a2 ∧ a2 ≤ 999)) ∧ ((0 ≤ a3 ∧ a3 ≤ 999)) ∧ ((0 ≤ a4 ∧ a4 ≤ 51))) then (1 : Int) else 0 : Int) = 0 := by first | exact if_pos (by omega) | exact if_neg (by omega) | (simp_all; done)
    rw [e] at kq; exact kq
  have k4 : ((1 ≤ a1 ∧ a1 ≤ 9999)) → ((0 ≤ a2 ∧ a2 ≤ 999)) → ((0 ≤ a3 ∧ a3 ≤ 999)) → (¬ ((0 ≤ a4 ∧ a4 ≤ 51))) → Q 0 σ := by
    intro h1 h2 h3 h4
    have e : (if (((1 ≤ a1 ∧ a1 ≤ 9999)) ∧ ((0 ≤ a2 ∧ a2 ≤ 999)) ∧ ((0 ≤ a3 ∧ a3 ≤ 999)) ∧ ((0 ≤ a4 ∧ a4 ≤ 51))) then (1 : Int) else 0 : Int) = 0 := by first | exact if_pos (by omega) | exact if_neg (by omega) | (simp_all; done)
    rw [e] at kq; exact kq
  have k5 : ((1 ≤ a1 ∧ a1 ≤ 9999)) → ((0 ≤ a2 ∧ a2 ≤ 999)) → ((0 ≤ a3 ∧ a3 ≤ 999)) → ((0 ≤ a4 ∧ a4 ≤ 51)) → Q 1 σ := by
    intro h1 h2 h3 h4
    have e : (if (((1 ≤ a1 ∧ a1 ≤ 9999)) ∧ ((0 ≤ a2 ∧ a2 ≤ 999)) ∧ ((0 ≤ a3 ∧ a3 ≤ 999)) ∧ ((0 ≤ a4 ∧ a4 ≤ 51))) then (1 : Int) else 0 : Int) = 1 := by first | exact if_pos (by omega) | exact if_neg (by omega) | (simp_all; done)
    rw [e] at kq; exact kq
  refine zO_of (ls0 := [zi a1, zi a2, zi a3, zi a4]) (by decide) (Nat.le_of_ble_eq_true rfl) rfl ?_
  refine z_iload_n dX11_areTerms_0 rfl rfl ?_
  refine z_iconst dX11_areTerms_1 (by unfold zIn; decide) ?_
  refine z_sipush (x := 9999) dX11_areTerms_2 (by decide +kernel) (by unfold zIn; decide) ?_
  refine z_calls (as := [zi a1, zi 1, zi 9999]) (st := []) mkX11_within lkRX11_111 rfl (by decide) (Nat.le_of_ble_eq_true rfl) rfl dX11_areTerms_5 ?_
  refine SX11_within ?_
  show zR G MX11_areTerms 8 [zi a1, zi a2, zi a3, zi a4] [zi (if (1 ≤ a1 ∧ a1 ≤ 9999) then (1 : Int) else 0)] σ Q
  refine z_if_eq dX11_areTerms_8 (tgt := 47) (by decide) (fun z => ?_) (fun z => ?_)
  · have h1 : ¬ ((1 ≤ a1 ∧ a1 ≤ 9999)) := zb0 z
    refine z_iconst dX11_areTerms_47 (by unfold zIn; decide) ?_
    exact z_iretz rfl (by decide) dX11_areTerms_48 (k1 h1)
  · have h1 : (1 ≤ a1 ∧ a1 ≤ 9999) := zb1 z
    refine z_iload_n dX11_areTerms_11 rfl rfl ?_
    refine z_iconst dX11_areTerms_12 (by unfold zIn; decide) ?_
    refine z_sipush (x := 999) dX11_areTerms_13 (by decide +kernel) (by unfold zIn; decide) ?_
    refine z_calls (as := [zi a2, zi 0, zi 999]) (st := []) mkX11_within lkRX11_111 rfl (by decide) (Nat.le_of_ble_eq_true rfl) rfl dX11_areTerms_16 ?_
    refine SX11_within ?_
    show zR G MX11_areTerms 19 [zi a1, zi a2, zi a3, zi a4] [zi (if (0 ≤ a2 ∧ a2 ≤ 999) then (1 : Int) else 0)] σ Q
    refine z_if_eq dX11_areTerms_19 (tgt := 47) (by decide) (fun z => ?_) (fun z => ?_)
    · have h2 : ¬ ((0 ≤ a2 ∧ a2 ≤ 999)) := zb0 z
      refine z_iconst dX11_areTerms_47 (by unfold zIn; decide) ?_
      exact z_iretz rfl (by decide) dX11_areTerms_48 (k2 h1 h2)
    · have h2 : (0 ≤ a2 ∧ a2 ≤ 999) := zb1 z
      refine z_iload_n dX11_areTerms_22 rfl rfl ?_
      refine z_iconst dX11_areTerms_23 (by unfold zIn; decide) ?_
      refine z_sipush (x := 999) dX11_areTerms_24 (by decide +kernel) (by unfold zIn; decide) ?_
      refine z_calls (as := [zi a3, zi 0, zi 999]) (st := []) mkX11_within lkRX11_111 rfl (by decide) (Nat.le_of_ble_eq_true rfl) rfl dX11_areTerms_27 ?_
      refine SX11_within ?_
      show zR G MX11_areTerms 30 [zi a1, zi a2, zi a3, zi a4] [zi (if (0 ≤ a3 ∧ a3 ≤ 999) then (1 : Int) else 0)] σ Q
      refine z_if_eq dX11_areTerms_30 (tgt := 47) (by decide) (fun z => ?_) (fun z => ?_)
      · have h3 : ¬ ((0 ≤ a3 ∧ a3 ≤ 999)) := zb0 z
        refine z_iconst dX11_areTerms_47 (by unfold zIn; decide) ?_
        exact z_iretz rfl (by decide) dX11_areTerms_48 (k3 h1 h2 h3)
      · have h3 : (0 ≤ a3 ∧ a3 ≤ 999) := zb1 z
        refine z_iload_n dX11_areTerms_33 rfl rfl ?_
        refine z_iconst dX11_areTerms_34 (by unfold zIn; decide) ?_
        refine z_bipush (x := 51) dX11_areTerms_35 (by decide +kernel) (by unfold zIn; decide) ?_
        refine z_calls (as := [zi a4, zi 0, zi 51]) (st := []) mkX11_within lkRX11_111 rfl (by decide) (Nat.le_of_ble_eq_true rfl) rfl dX11_areTerms_37 ?_
        refine SX11_within ?_
        show zR G MX11_areTerms 40 [zi a1, zi a2, zi a3, zi a4] [zi (if (0 ≤ a4 ∧ a4 ≤ 51) then (1 : Int) else 0)] σ Q
        refine z_if_eq dX11_areTerms_40 (tgt := 47) (by decide) (fun z => ?_) (fun z => ?_)
        · have h4 : ¬ ((0 ≤ a4 ∧ a4 ≤ 51)) := zb0 z
          refine z_iconst dX11_areTerms_47 (by unfold zIn; decide) ?_
          exact z_iretz rfl (by decide) dX11_areTerms_48 (k4 h1 h2 h3 h4)
        · have h4 : (0 ≤ a4 ∧ a4 ≤ 51) := zb1 z
          refine z_iconst dX11_areTerms_43 (by unfold zIn; decide) ?_
          refine z_goto dX11_areTerms_44 (tgt := 48) (by decide) ?_
          exact z_iretz rfl (by decide) dX11_areTerms_48 (k5 h1 h2 h3 h4)
set_option maxRecDepth 20000 in
theorem SX4_add {G : zG} {σ : zS} {Q : Int → zS → Prop} {a1 a2 a3 a4 : Int}  (k1 : (0 : Int) ≤ σ 68 11 ∧ σ 68 11 < (8 : Int)) (k2 : -2147483648 ≤ σ 68 11 + 1 ∧ σ 68 11 + 1 < (2147483648 : Int)) (kq : Q (σ 68 11) (zup (zup (zup (zup (zup σ 69 (σ 68 11) a1) 70 (σ 68 11) a2) 71 (σ 68 11) a3) 72 (σ 68 11) a4) 68 11 (σ 68 11 + 1))) : zO G MX4_add [zr 68, zi a1, zi a2, zi a3, zi a4] σ Q := by
  have k3 : Q (σ 68 11) (zup (zup (zup (zup (zup σ 69 (σ 68 11) a1) 70 (σ 68 11) a2) 71 (σ 68 11) a3) 72 (σ 68 11) a4) 68 11 (σ 68 11 + 1)) := by
    exact kq
  refine zO_of (ls0 := [zr 68, zi a1, zi a2, zi a3, zi a4]) (by decide) (Nat.le_of_ble_eq_true rfl) rfl ?_
  refine z_aload_n dX4_add_0 rfl rfl ?_
  refine z_getfR (k := 1) flRX4_11 rfl rfl dX4_add_1 ?_
  refine z_aload_n dX4_add_4 rfl rfl ?_
  refine z_getfI (k := 11) flRX4_42 rfl rfl dX4_add_5 ?_
  refine z_iload_n dX4_add_8 rfl rfl ?_
  have s1 : (0 : Int) ≤ σ 68 11 ∧ σ 68 11 < (8 : Int) := k1
  refine z_iast rfl s1.1 s1.2 dX4_add_9 ?_
  refine z_aload_n dX4_add_10 rfl rfl ?_
  refine z_getfR (k := 2) flRX4_15 rfl rfl dX4_add_11 ?_
  refine z_aload_n dX4_add_14 rfl rfl ?_
  refine z_getfE (k := 11) (v := σ 68 11) flRX4_42 rfl rfl (zup_of (by decide)) dX4_add_15 ?_
  refine z_iload_n dX4_add_18 rfl rfl ?_
  refine z_iast rfl s1.1 s1.2 dX4_add_19 ?_
  refine z_aload_n dX4_add_20 rfl rfl ?_
  refine z_getfR (k := 3) flRX4_18 rfl rfl dX4_add_21 ?_
  refine z_aload_n dX4_add_24 rfl rfl ?_
  refine z_getfE (k := 11) (v := σ 68 11) flRX4_42 rfl rfl ((zup_of (by decide)).trans (zup_of (by decide))) dX4_add_25 ?_
  refine z_iload_n dX4_add_28 rfl rfl ?_
  refine z_iast rfl s1.1 s1.2 dX4_add_29 ?_
  refine z_aload_n dX4_add_30 rfl rfl ?_
  refine z_getfR (k := 4) flRX4_21 rfl rfl dX4_add_31 ?_
  refine z_aload_n dX4_add_34 rfl rfl ?_
  refine z_getfE (k := 11) (v := σ 68 11) flRX4_42 rfl rfl ((zup_of (by decide)).trans ((zup_of (by decide)).trans (zup_of (by decide)))) dX4_add_35 ?_
  refine z_iload dX4_add_38 rfl ?_
  refine z_iast rfl s1.1 s1.2 dX4_add_40 ?_
  refine z_aload_n dX4_add_41 rfl rfl ?_
  refine z_dup dX4_add_42 rfl ?_
  refine z_getfE (k := 11) (v := σ 68 11) flRX4_42 rfl rfl ((zup_of (by decide)).trans ((zup_of (by decide)).trans ((zup_of (by decide)).trans (zup_of (by decide))))) dX4_add_43 ?_
  refine z_dup_x1 dX4_add_46 rfl rfl ?_
  refine z_iconst dX4_add_47 (by unfold zIn; decide) ?_
  have s2 : -2147483648 ≤ σ 68 11 + 1 ∧ σ 68 11 + 1 < (2147483648 : Int) := k2
  refine z_iaddN dX4_add_48 s2 ?_
  refine z_putI (k := 11) fpRX4_42 rfl rfl dX4_add_49 ?_
  exact z_ireti rfl dX4_add_52 (k3)
set_option maxRecDepth 20000 in
theorem SX4_tellPrice {G : zG} {σ : zS} {Q : Int → zS → Prop} {a1 a2 : Int}  (k1 : (0 : Int) ≤ σ 68 12 ∧ σ 68 12 < (200 : Int)) (k2 : -2147483648 ≤ σ 68 12 + 1 ∧ σ 68 12 + 1 < (2147483648 : Int)) (kq : Q (σ 68 12 + 1) (zup (zup (zup σ 76 (σ 68 12) a1) 77 (σ 68 12) a2) 68 12 (σ 68 12 + 1))) : zO G MX4_tellPrice [zr 68, zi a1, zi a2] σ Q := by
  have k3 : Q (σ 68 12 + 1) (zup (zup (zup σ 76 (σ 68 12) a1) 77 (σ 68 12) a2) 68 12 (σ 68 12 + 1)) := by
    exact kq
  refine zO_of (ls0 := [zr 68, zi a1, zi a2]) (by decide) (Nat.le_of_ble_eq_true rfl) rfl ?_
  refine z_aload_n dX4_tellPrice_0 rfl rfl ?_
  refine z_getfR (k := 8) flRX4_33 rfl rfl dX4_tellPrice_1 ?_
  refine z_aload_n dX4_tellPrice_4 rfl rfl ?_
  refine z_getfI (k := 12) flRX4_46 rfl rfl dX4_tellPrice_5 ?_
  refine z_iload_n dX4_tellPrice_8 rfl rfl ?_
  have s1 : (0 : Int) ≤ σ 68 12 ∧ σ 68 12 < (200 : Int) := k1
  refine z_iast rfl s1.1 s1.2 dX4_tellPrice_9 ?_
  refine z_aload_n dX4_tellPrice_10 rfl rfl ?_
  refine z_getfR (k := 9) flRX4_36 rfl rfl dX4_tellPrice_11 ?_
  refine z_aload_n dX4_tellPrice_14 rfl rfl ?_
  refine z_getfE (k := 12) (v := σ 68 12) flRX4_46 rfl rfl (zup_of (by decide)) dX4_tellPrice_15 ?_
  refine z_iload_n dX4_tellPrice_18 rfl rfl ?_
  refine z_iast rfl s1.1 s1.2 dX4_tellPrice_19 ?_
  refine z_aload_n dX4_tellPrice_20 rfl rfl ?_
  refine z_dup dX4_tellPrice_21 rfl ?_
  refine z_getfE (k := 12) (v := σ 68 12) flRX4_46 rfl rfl ((zup_of (by decide)).trans (zup_of (by decide))) dX4_tellPrice_22 ?_
  refine z_iconst dX4_tellPrice_25 (by unfold zIn; decide) ?_
  have s2 : -2147483648 ≤ σ 68 12 + 1 ∧ σ 68 12 + 1 < (2147483648 : Int) := k2
  refine z_iaddN dX4_tellPrice_26 s2 ?_
  refine z_dup_x1 dX4_tellPrice_27 rfl rfl ?_
  refine z_putI (k := 12) fpRX4_46 rfl rfl dX4_tellPrice_28 ?_
  exact z_ireti rfl dX4_tellPrice_31 (k3)
set_option maxRecDepth 20000 in
theorem SX4_has {G : zG} {σ : zS} {Q : Int → zS → Prop} {a1 : Int}   (kq : Q (if (0 ≤ a1 ∧ a1 < σ 68 11) then (1 : Int) else 0) σ) : zO G MX4_has [zr 68, zi a1] σ Q := by
  have k1 : (a1 < 0) → Q 0 σ := by
    intro h1
    have e : (if (0 ≤ a1 ∧ a1 < σ 68 11) then (1 : Int) else 0 : Int) = 0 := by first | exact if_pos (by omega) | exact if_neg (by omega) | (simp_all; done)
    rw [e] at kq; exact kq
  have k2 : (0 ≤ a1) → (σ 68 11 ≤ a1) → Q 0 σ := by
    intro h1 h2
    have e : (if (0 ≤ a1 ∧ a1 < σ 68 11) then (1 : Int) else 0 : Int) = 0 := by first | exact if_pos (by omega) | exact if_neg (by omega) | (simp_all; done)
    rw [e] at kq; exact kq
  have k3 : (0 ≤ a1) → (a1 < σ 68 11) → Q 1 σ := by
    intro h1 h2
    have e : (if (0 ≤ a1 ∧ a1 < σ 68 11) then (1 : Int) else 0 : Int) = 1 := by first | exact if_pos (by omega) | exact if_neg (by omega) | (simp_all; done)
    rw [e] at kq; exact kq
  refine zO_of (ls0 := [zr 68, zi a1]) (by decide) (Nat.le_of_ble_eq_true rfl) rfl ?_
  refine z_iload_n dX4_has_0 rfl rfl ?_
  refine z_if_lt dX4_has_1 (tgt := 16) (by decide) (fun h1 => ?_) (fun h1 => ?_)
  · skip
    refine z_iconst dX4_has_16 (by unfold zIn; decide) ?_
    exact z_iretz rfl (by decide) dX4_has_17 (k1 h1)
  · skip
    refine z_iload_n dX4_has_4 rfl rfl ?_
    refine z_aload_n dX4_has_5 rfl rfl ?_
    refine z_getfI (k := 11) flRX4_42 rfl rfl dX4_has_6 ?_
    refine z_icmp_ge dX4_has_9 (tgt := 16) (by decide) (fun h2 => ?_) (fun h2 => ?_)
    · skip
      refine z_iconst dX4_has_16 (by unfold zIn; decide) ?_
      exact z_iretz rfl (by decide) dX4_has_17 (k2 h1 h2)
    · skip
      refine z_iconst dX4_has_12 (by unfold zIn; decide) ?_
      refine z_goto dX4_has_13 (tgt := 17) (by decide) ?_
      exact z_iretz rfl (by decide) dX4_has_17 (k3 h1 h2)
set_option maxRecDepth 20000 in
theorem SX4_isForLives {G : zG} {σ : zS} {Q : Int → zS → Prop} {a1 : Int}  (k1 : (0 : Int) ≤ a1 ∧ a1 < (8 : Int)) (kq : Q (if σ 75 a1 ≠ 0 then (1 : Int) else 0) σ) : zO G MX4_isForLives [zr 68, zi a1] σ Q := by
  have k2 : (σ 75 a1 = 0) → Q 0 σ := by
    intro h1
    have e : (if σ 75 a1 ≠ 0 then (1 : Int) else 0 : Int) = 0 := by first | exact if_pos (by omega) | exact if_neg (by omega) | (simp_all; done)
    rw [e] at kq; exact kq
  have k3 : (σ 75 a1 ≠ 0) → Q 1 σ := by
    intro h1
    have e : (if σ 75 a1 ≠ 0 then (1 : Int) else 0 : Int) = 1 := by first | exact if_pos (by omega) | exact if_neg (by omega) | (simp_all; done)
    rw [e] at kq; exact kq
  refine zO_of (ls0 := [zr 68, zi a1]) (by decide) (Nat.le_of_ble_eq_true rfl) rfl ?_
  refine z_aload_n dX4_isForLives_0 rfl rfl ?_
  refine z_getfR (k := 7) flRX4_30 rfl rfl dX4_isForLives_1 ?_
  refine z_iload_n dX4_isForLives_4 rfl rfl ?_
  have s1 : (0 : Int) ≤ a1 ∧ a1 < (8 : Int) := k1
  refine z_iald rfl s1.1 s1.2 dX4_isForLives_5 ?_
  refine z_if_eq dX4_isForLives_6 (tgt := 13) (by decide) (fun h1 => ?_) (fun h1 => ?_)
  · skip
    refine z_iconst dX4_isForLives_13 (by unfold zIn; decide) ?_
    exact z_iretz rfl (by decide) dX4_isForLives_14 (k2 h1)
  · skip
    refine z_iconst dX4_isForLives_9 (by unfold zIn; decide) ?_
    refine z_goto dX4_isForLives_10 (tgt := 14) (by decide) ?_
    exact z_iretz rfl (by decide) dX4_isForLives_14 (k3 h1)
set_option maxRecDepth 20000 in
theorem SX0_isFull {G : zG} {σ : zS} {Q : Int → zS → Prop}   (kq : Q (if 400 ≤ σ 79 4 then (1 : Int) else 0) σ) : zO G MX0_isFull [zr 79] σ Q := by
  have k1 : (σ 79 4 < 400) → Q 0 σ := by
    intro h1
    have e : (if 400 ≤ σ 79 4 then (1 : Int) else 0 : Int) = 0 := by first | exact if_pos (by omega) | exact if_neg (by omega) | (simp_all; done)
    rw [e] at kq; exact kq
  have k2 : (400 ≤ σ 79 4) → Q 1 σ := by
    intro h1
    have e : (if 400 ≤ σ 79 4 then (1 : Int) else 0 : Int) = 1 := by first | exact if_pos (by omega) | exact if_neg (by omega) | (simp_all; done)
    rw [e] at kq; exact kq
  refine zO_of (ls0 := [zr 79]) (by decide) (Nat.le_of_ble_eq_true rfl) rfl ?_
  refine z_aload_n dX0_isFull_0 rfl rfl ?_
  refine z_getfI (k := 4) flRX0_25 rfl rfl dX0_isFull_1 ?_
  refine z_sipush (x := 400) dX0_isFull_4 (by decide +kernel) (by unfold zIn; decide) ?_
  refine z_icmp_lt dX0_isFull_7 (tgt := 14) (by decide) (fun h1 => ?_) (fun h1 => ?_)
  · skip
    refine z_iconst dX0_isFull_14 (by unfold zIn; decide) ?_
    exact z_iretz rfl (by decide) dX0_isFull_15 (k1 h1)
  · skip
    refine z_iconst dX0_isFull_10 (by unfold zIn; decide) ?_
    refine z_goto dX0_isFull_11 (tgt := 15) (by decide) ?_
    exact z_iretz rfl (by decide) dX0_isFull_15 (k2 h1)
set_option maxRecDepth 20000 in
theorem SX0_enter {G : zG} {σ : zS} {Q : Int → zS → Prop} {a1 a2 a3 : Int}  (k1 : -2147483648 ≤ σ 79 3 + a3 ∧ σ 79 3 + a3 < (2147483648 : Int)) (k2 : -2147483648 ≤ σ 79 4 + 1 ∧ σ 79 4 + 1 < (2147483648 : Int)) (k3 : -2147483648 ≤ 110 * a1 ∧ 110 * a1 < (2147483648 : Int)) (k4 : -2147483648 ≤ (110 * a1) + a2 ∧ (110 * a1) + a2 < (2147483648 : Int)) (k5 : (0 : Int) ≤ (110 * a1) + a2 ∧ (110 * a1) + a2 < (440 : Int)) (k6 : -2147483648 ≤ (σ 80 ((110 * a1) + a2)) + a3 ∧ (σ 80 ((110 * a1) + a2)) + a3 < (2147483648 : Int)) (kq : Q (0) (zup (zup (zup σ 79 3 (σ 79 3 + a3)) 79 4 (σ 79 4 + 1)) 80 ((110 * a1) + a2) ((σ 80 ((110 * a1) + a2)) + a3))) : zO G MX0_enter [zr 79, zi a1, zi a2, zi a3] σ Q := by
  have k7 : Q 0 (zup (zup (zup σ 79 3 (σ 79 3 + a3)) 79 4 (σ 79 4 + 1)) 80 ((110 * a1) + a2) ((σ 80 ((110 * a1) + a2)) + a3)) := by
    exact kq
  refine zO_of (ls0 := [zr 79, zi a1, zi a2, zi a3]) (by decide) (Nat.le_of_ble_eq_true rfl) rfl ?_
  refine z_aload_n dX0_enter_0 rfl rfl ?_
  refine z_dup dX0_enter_1 rfl ?_
  refine z_getfI (k := 3) flRX0_21 rfl rfl dX0_enter_2 ?_
  refine z_iload_n dX0_enter_5 rfl rfl ?_
  have s1 : -2147483648 ≤ σ 79 3 + a3 ∧ σ 79 3 + a3 < (2147483648 : Int) := k1
  refine z_iaddN dX0_enter_6 s1 ?_
  refine z_putI (k := 3) fpRX0_21 rfl rfl dX0_enter_7 ?_
  refine z_aload_n dX0_enter_10 rfl rfl ?_
  refine z_dup dX0_enter_11 rfl ?_
  refine z_getfE (k := 4) (v := σ 79 4) flRX0_25 rfl rfl (zup_oi (by decide)) dX0_enter_12 ?_
  refine z_iconst dX0_enter_15 (by unfold zIn; decide) ?_
  have s2 : -2147483648 ≤ σ 79 4 + 1 ∧ σ 79 4 + 1 < (2147483648 : Int) := k2
  refine z_iaddN dX0_enter_16 s2 ?_
  refine z_putI (k := 4) fpRX0_25 rfl rfl dX0_enter_17 ?_
  refine z_aload_n dX0_enter_20 rfl rfl ?_
  refine z_getfR (k := 0) flRX0_9 rfl rfl dX0_enter_21 ?_
  refine z_bipush (x := 110) dX0_enter_24 (by decide +kernel) (by unfold zIn; decide) ?_
  refine z_iload_n dX0_enter_26 rfl rfl ?_
  have s3 : -2147483648 ≤ 110 * a1 ∧ 110 * a1 < (2147483648 : Int) := k3
  refine z_imulN dX0_enter_27 s3 ?_
  refine z_iload_n dX0_enter_28 rfl rfl ?_
  have s4 : -2147483648 ≤ (110 * a1) + a2 ∧ (110 * a1) + a2 < (2147483648 : Int) := k4
  refine z_iaddN dX0_enter_29 s4 ?_
  refine z_dup2 dX0_enter_30 rfl rfl ?_
  have s5 : (0 : Int) ≤ (110 * a1) + a2 ∧ (110 * a1) + a2 < (440 : Int) := k5
  refine z_ialdE (v := σ 80 ((110 * a1) + a2)) rfl s5.1 s5.2 ((zup_of (by decide)).trans (zup_of (by decide))) dX0_enter_31 ?_
  refine z_iload_n dX0_enter_32 rfl rfl ?_
  have s6 : -2147483648 ≤ (σ 80 ((110 * a1) + a2)) + a3 ∧ (σ 80 ((110 * a1) + a2)) + a3 < (2147483648 : Int) := k6
  refine z_iaddN dX0_enter_33 s6 ?_
  refine z_iast rfl s5.1 s5.2 dX0_enter_34 ?_
  exact z_vret rfl dX0_enter_35 (k7)
set_option maxRecDepth 20000 in
theorem SX11_audit {G : zG} {σ : zS} {Q : Int → zS → Prop} {a1 : Int}   (kq : Q (zW (a1 - σ 79 3)) σ) : zO G MX11_audit [zr 0, zi a1] σ Q := by
  have k1 : Q (zW (a1 - σ 79 3)) σ := by
    exact kq
  refine zO_of (ls0 := [zr 0, zi a1]) (by decide) (Nat.le_of_ble_eq_true rfl) rfl ?_
  refine z_iload_n dX11_audit_0 rfl rfl ?_
  refine z_aload_n dX11_audit_1 rfl rfl ?_
  refine z_getfR (k := 8) flRX11_77 rfl rfl dX11_audit_2 ?_
  refine z_getfI (k := 3) flRX11_407 rfl rfl dX11_audit_5 ?_
  refine z_isub dX11_audit_8 ?_
  exact z_ireti rfl dX11_audit_9 (k1)
set_option maxRecDepth 20000 in
theorem SX7_addRoof {G : zG} {σ : zS} {Q : Int → zS → Prop} {a1 a2 : Int}  (k1 : (0 : Int) ≤ σ 83 9 ∧ σ 83 9 < (2 : Int)) (k2 : -2147483648 ≤ σ 83 9 + 1 ∧ σ 83 9 + 1 < (2147483648 : Int)) (kq : Q (σ 83 9) (zup (zup (zup σ 84 (σ 83 9) a1) 85 (σ 83 9) a2) 83 9 (σ 83 9 + 1))) : zO G MX7_addRoof [zr 83, zi a1, zi a2] σ Q := by
  have k3 : Q (σ 83 9) (zup (zup (zup σ 84 (σ 83 9) a1) 85 (σ 83 9) a2) 83 9 (σ 83 9 + 1)) := by
    exact kq
  refine zO_of (ls0 := [zr 83, zi a1, zi a2]) (by decide) (Nat.le_of_ble_eq_true rfl) rfl ?_
  refine z_aload_n dX7_addRoof_0 rfl rfl ?_
  refine z_getfR (k := 2) flRX7_11 rfl rfl dX7_addRoof_1 ?_
  refine z_aload_n dX7_addRoof_4 rfl rfl ?_
  refine z_getfI (k := 9) flRX7_35 rfl rfl dX7_addRoof_5 ?_
  refine z_iload_n dX7_addRoof_8 rfl rfl ?_
  have s1 : (0 : Int) ≤ σ 83 9 ∧ σ 83 9 < (2 : Int) := k1
  refine z_iast rfl s1.1 s1.2 dX7_addRoof_9 ?_
  refine z_aload_n dX7_addRoof_10 rfl rfl ?_
  refine z_getfR (k := 3) flRX7_15 rfl rfl dX7_addRoof_11 ?_
  refine z_aload_n dX7_addRoof_14 rfl rfl ?_
  refine z_getfE (k := 9) (v := σ 83 9) flRX7_35 rfl rfl (zup_of (by decide)) dX7_addRoof_15 ?_
  refine z_iload_n dX7_addRoof_18 rfl rfl ?_
  refine z_iast rfl s1.1 s1.2 dX7_addRoof_19 ?_
  refine z_aload_n dX7_addRoof_20 rfl rfl ?_
  refine z_dup dX7_addRoof_21 rfl ?_
  refine z_getfE (k := 9) (v := σ 83 9) flRX7_35 rfl rfl ((zup_of (by decide)).trans (zup_of (by decide))) dX7_addRoof_22 ?_
  refine z_dup_x1 dX7_addRoof_25 rfl rfl ?_
  refine z_iconst dX7_addRoof_26 (by unfold zIn; decide) ?_
  have s2 : -2147483648 ≤ σ 83 9 + 1 ∧ σ 83 9 + 1 < (2147483648 : Int) := k2
  refine z_iaddN dX7_addRoof_27 s2 ?_
  refine z_putI (k := 9) fpRX7_35 rfl rfl dX7_addRoof_28 ?_
  exact z_ireti rfl dX7_addRoof_31 (k3)
set_option maxRecDepth 20000 in
theorem SX11_canPlan {G : zG} {σ : zS} {Q : Int → zS → Prop} {a1 a2 a3 : Int}   (kq : Q (if (((1 ≤ a1 ∧ a1 ≤ 10)) ∧ ((0 ≤ a2 ∧ a2 ≤ 99999)) ∧ ((0 ≤ a3 ∧ a3 ≤ 99999))) then (1 : Int) else 0) σ) : zO G MX11_canPlan [zi a1, zi a2, zi a3] σ Q := by
  have k1 : (¬ ((1 ≤ a1 ∧ a1 ≤ 10))) → Q 0 σ := by
    intro h1
    have e : (if (((1 ≤ a1 ∧ a1 ≤ 10)) ∧ ((0 ≤ a2 ∧ a2 ≤ 99999)) ∧ ((0 ≤ a3 ∧ a3 ≤ 99999))) then (1 : Int) else 0 : Int) = 0 := by first | exact if_pos (by omega) | exact if_neg (by omega) | (simp_all; done)
    rw [e] at kq; exact kq
  have k2 : ((1 ≤ a1 ∧ a1 ≤ 10)) → (¬ ((0 ≤ a2 ∧ a2 ≤ 99999))) → Q 0 σ := by
    intro h1 h2
    have e : (if (((1 ≤ a1 ∧ a1 ≤ 10)) ∧ ((0 ≤ a2 ∧ a2 ≤ 99999)) ∧ ((0 ≤ a3 ∧ a3 ≤ 99999))) then (1 : Int) else 0 : Int) = 0 := by first | exact if_pos (by omega) | exact if_neg (by omega) | (simp_all; done)
    rw [e] at kq; exact kq
  have k3 : ((1 ≤ a1 ∧ a1 ≤ 10)) → ((0 ≤ a2 ∧ a2 ≤ 99999)) → (¬ ((0 ≤ a3 ∧ a3 ≤ 99999))) → Q 0 σ := by
    intro h1 h2 h3
    have e : (if (((1 ≤ a1 ∧ a1 ≤ 10)) ∧ ((0 ≤ a2 ∧ a2 ≤ 99999)) ∧ ((0 ≤ a3 ∧ a3 ≤ 99999))) then (1 : Int) else 0 : Int) = 0 := by first | exact if_pos (by omega) | exact if_neg (by omega) | (simp_all; done)
    rw [e] at kq; exact kq
  have k4 : ((1 ≤ a1 ∧ a1 ≤ 10)) → ((0 ≤ a2 ∧ a2 ≤ 99999)) → ((0 ≤ a3 ∧ a3 ≤ 99999)) → Q 1 σ := by
    intro h1 h2 h3
    have e : (if (((1 ≤ a1 ∧ a1 ≤ 10)) ∧ ((0 ≤ a2 ∧ a2 ≤ 99999)) ∧ ((0 ≤ a3 ∧ a3 ≤ 99999))) then (1 : Int) else 0 : Int) = 1 := by first | exact if_pos (by omega) | exact if_neg (by omega) | (simp_all; done)
    rw [e] at kq; exact kq
  refine zO_of (ls0 := [zi a1, zi a2, zi a3]) (by decide) (Nat.le_of_ble_eq_true rfl) rfl ?_
  refine z_iload_n dX11_canPlan_0 rfl rfl ?_
  refine z_iconst dX11_canPlan_1 (by unfold zIn; decide) ?_
  refine z_bipush (x := 10) dX11_canPlan_2 (by decide +kernel) (by unfold zIn; decide) ?_
  refine z_calls (as := [zi a1, zi 1, zi 10]) (st := []) mkX11_within lkRX11_111 rfl (by decide) (Nat.le_of_ble_eq_true rfl) rfl dX11_canPlan_4 ?_
  refine SX11_within ?_
  show zR G MX11_canPlan 7 [zi a1, zi a2, zi a3] [zi (if (1 ≤ a1 ∧ a1 ≤ 10) then (1 : Int) else 0)] σ Q
  refine z_if_eq dX11_canPlan_7 (tgt := 36) (by decide) (fun z => ?_) (fun z => ?_)
  · have h1 : ¬ ((1 ≤ a1 ∧ a1 ≤ 10)) := zb0 z
    refine z_iconst dX11_canPlan_36 (by unfold zIn; decide) ?_
    exact z_iretz rfl (by decide) dX11_canPlan_37 (k1 h1)
  · have h1 : (1 ≤ a1 ∧ a1 ≤ 10) := zb1 z
    refine z_iload_n dX11_canPlan_10 rfl rfl ?_
    refine z_iconst dX11_canPlan_11 (by unfold zIn; decide) ?_
    refine z_ldcw (x := 99999) (zin_5 (List.mem_of_getElem? (i := 205) (by decide +kernel))) (by unfold zIn; decide) dX11_canPlan_12 ?_
    refine z_calls (as := [zi a2, zi 0, zi 99999]) (st := []) mkX11_within lkRX11_111 rfl (by decide) (Nat.le_of_ble_eq_true rfl) rfl dX11_canPlan_15 ?_
    refine SX11_within ?_
    show zR G MX11_canPlan 18 [zi a1, zi a2, zi a3] [zi (if (0 ≤ a2 ∧ a2 ≤ 99999) then (1 : Int) else 0)] σ Q
    refine z_if_eq dX11_canPlan_18 (tgt := 36) (by decide) (fun z => ?_) (fun z => ?_)
    · have h2 : ¬ ((0 ≤ a2 ∧ a2 ≤ 99999)) := zb0 z
      refine z_iconst dX11_canPlan_36 (by unfold zIn; decide) ?_
      exact z_iretz rfl (by decide) dX11_canPlan_37 (k2 h1 h2)
    · have h2 : (0 ≤ a2 ∧ a2 ≤ 99999) := zb1 z
      refine z_iload_n dX11_canPlan_21 rfl rfl ?_
      refine z_iconst dX11_canPlan_22 (by unfold zIn; decide) ?_
      refine z_ldcw (x := 99999) (zin_5 (List.mem_of_getElem? (i := 205) (by decide +kernel))) (by unfold zIn; decide) dX11_canPlan_23 ?_
      refine z_calls (as := [zi a3, zi 0, zi 99999]) (st := []) mkX11_within lkRX11_111 rfl (by decide) (Nat.le_of_ble_eq_true rfl) rfl dX11_canPlan_26 ?_
      refine SX11_within ?_
      show zR G MX11_canPlan 29 [zi a1, zi a2, zi a3] [zi (if (0 ≤ a3 ∧ a3 ≤ 99999) then (1 : Int) else 0)] σ Q
      refine z_if_eq dX11_canPlan_29 (tgt := 36) (by decide) (fun z => ?_) (fun z => ?_)
      · have h3 : ¬ ((0 ≤ a3 ∧ a3 ≤ 99999)) := zb0 z
        refine z_iconst dX11_canPlan_36 (by unfold zIn; decide) ?_
        exact z_iretz rfl (by decide) dX11_canPlan_37 (k3 h1 h2 h3)
      · have h3 : (0 ≤ a3 ∧ a3 ≤ 99999) := zb1 z
        refine z_iconst dX11_canPlan_32 (by unfold zIn; decide) ?_
        refine z_goto dX11_canPlan_33 (tgt := 37) (by decide) ?_
        exact z_iretz rfl (by decide) dX11_canPlan_37 (k4 h1 h2 h3)
set_option maxRecDepth 20000 in
theorem SX12_no {G : zG} {σ : zS} {Q : Int → zS → Prop} {a1 : Int}  (k1 : -2147483648 ≤ -a1 ∧ -a1 < (2147483648 : Int)) (k2 : (0 : Int) ≤ -a1 ∧ -a1 < (8 : Int)) (kq : Q (a1) (zup σ 157 (-a1) (zW ((σ 157 (-a1)) + 1)))) : zO G MX12_no [zr 98, zi a1] σ Q := by
  have k3 : Q a1 (zup σ 157 (-a1) (zW ((σ 157 (-a1)) + 1))) := by
    exact kq
  refine zO_of (ls0 := [zr 98, zi a1]) (by decide) (Nat.le_of_ble_eq_true rfl) rfl ?_
  refine z_aload_n dX12_no_0 rfl rfl ?_
  refine z_getfR (k := 73) flRX12_190 rfl rfl dX12_no_1 ?_
  refine z_iload_n dX12_no_4 rfl rfl ?_
  have s1 : -2147483648 ≤ -a1 ∧ -a1 < (2147483648 : Int) := k1
  refine z_inegN dX12_no_5 s1 ?_
  refine z_dup2 dX12_no_6 rfl rfl ?_
  have s2 : (0 : Int) ≤ -a1 ∧ -a1 < (8 : Int) := k2
  refine z_iald rfl s2.1 s2.2 dX12_no_7 ?_
  refine z_iconst dX12_no_8 (by unfold zIn; decide) ?_
  refine z_iadd dX12_no_9 ?_
  refine z_iast rfl s2.1 s2.2 dX12_no_10 ?_
  refine z_iload_n dX12_no_11 rfl rfl ?_
  exact z_ireti rfl dX12_no_12 (k3)
set_option maxRecDepth 20000 in
theorem SX12_isOne {G : zG} {σ : zS} {Q : Int → zS → Prop} {a1 : Int}   (kq : Q (if (0 ≤ a1 ∧ a1 < σ 98 1) then (1 : Int) else 0) σ) : zO G MX12_isOne [zr 98, zi a1] σ Q := by
  have k1 : (a1 < 0) → Q 0 σ := by
    intro h1
    have e : (if (0 ≤ a1 ∧ a1 < σ 98 1) then (1 : Int) else 0 : Int) = 0 := by first | exact if_pos (by omega) | exact if_neg (by omega) | (simp_all; done)
    rw [e] at kq; exact kq
  have k2 : (0 ≤ a1) → (σ 98 1 ≤ a1) → Q 0 σ := by
    intro h1 h2
    have e : (if (0 ≤ a1 ∧ a1 < σ 98 1) then (1 : Int) else 0 : Int) = 0 := by first | exact if_pos (by omega) | exact if_neg (by omega) | (simp_all; done)
    rw [e] at kq; exact kq
  have k3 : (0 ≤ a1) → (a1 < σ 98 1) → Q 1 σ := by
    intro h1 h2
    have e : (if (0 ≤ a1 ∧ a1 < σ 98 1) then (1 : Int) else 0 : Int) = 1 := by first | exact if_pos (by omega) | exact if_neg (by omega) | (simp_all; done)
    rw [e] at kq; exact kq
  refine zO_of (ls0 := [zr 98, zi a1]) (by decide) (Nat.le_of_ble_eq_true rfl) rfl ?_
  refine z_iload_n dX12_isOne_0 rfl rfl ?_
  refine z_if_lt dX12_isOne_1 (tgt := 16) (by decide) (fun h1 => ?_) (fun h1 => ?_)
  · skip
    refine z_iconst dX12_isOne_16 (by unfold zIn; decide) ?_
    exact z_iretz rfl (by decide) dX12_isOne_17 (k1 h1)
  · skip
    refine z_iload_n dX12_isOne_4 rfl rfl ?_
    refine z_aload_n dX12_isOne_5 rfl rfl ?_
    refine z_getfI (k := 1) flRX12_256 rfl rfl dX12_isOne_6 ?_
    refine z_icmp_ge dX12_isOne_9 (tgt := 16) (by decide) (fun h2 => ?_) (fun h2 => ?_)
    · skip
      refine z_iconst dX12_isOne_16 (by unfold zIn; decide) ?_
      exact z_iretz rfl (by decide) dX12_isOne_17 (k2 h1 h2)
    · skip
      refine z_iconst dX12_isOne_12 (by unfold zIn; decide) ?_
      refine z_goto dX12_isOne_13 (tgt := 17) (by decide) ?_
      exact z_iretz rfl (by decide) dX12_isOne_17 (k3 h1 h2)
set_option maxRecDepth 20000 in
theorem SX12_isStatute {G : zG} {σ : zS} {Q : Int → zS → Prop} {a1 : Int}   (kq : Q (if (0 ≤ a1 ∧ a1 < 4) then (1 : Int) else 0) σ) : zO G MX12_isStatute [zi a1] σ Q := by
  have k1 : (a1 < 0) → Q 0 σ := by
    intro h1
    have e : (if (0 ≤ a1 ∧ a1 < 4) then (1 : Int) else 0 : Int) = 0 := by first | exact if_pos (by omega) | exact if_neg (by omega) | (simp_all; done)
    rw [e] at kq; exact kq
  have k2 : (0 ≤ a1) → (4 ≤ a1) → Q 0 σ := by
    intro h1 h2
    have e : (if (0 ≤ a1 ∧ a1 < 4) then (1 : Int) else 0 : Int) = 0 := by first | exact if_pos (by omega) | exact if_neg (by omega) | (simp_all; done)
    rw [e] at kq; exact kq
  have k3 : (0 ≤ a1) → (a1 < 4) → Q 1 σ := by
    intro h1 h2
    have e : (if (0 ≤ a1 ∧ a1 < 4) then (1 : Int) else 0 : Int) = 1 := by first | exact if_pos (by omega) | exact if_neg (by omega) | (simp_all; done)
    rw [e] at kq; exact kq
  refine zO_of (ls0 := [zi a1]) (by decide) (Nat.le_of_ble_eq_true rfl) rfl ?_
  refine z_iload_n dX12_isStatute_0 rfl rfl ?_
  refine z_if_lt dX12_isStatute_1 (tgt := 13) (by decide) (fun h1 => ?_) (fun h1 => ?_)
  · skip
    refine z_iconst dX12_isStatute_13 (by unfold zIn; decide) ?_
    exact z_iretz rfl (by decide) dX12_isStatute_14 (k1 h1)
  · skip
    refine z_iload_n dX12_isStatute_4 rfl rfl ?_
    refine z_iconst dX12_isStatute_5 (by unfold zIn; decide) ?_
    refine z_icmp_ge dX12_isStatute_6 (tgt := 13) (by decide) (fun h2 => ?_) (fun h2 => ?_)
    · skip
      refine z_iconst dX12_isStatute_13 (by unfold zIn; decide) ?_
      exact z_iretz rfl (by decide) dX12_isStatute_14 (k2 h1 h2)
    · skip
      refine z_iconst dX12_isStatute_9 (by unfold zIn; decide) ?_
      refine z_goto dX12_isStatute_10 (tgt := 14) (by decide) ?_
      exact z_iretz rfl (by decide) dX12_isStatute_14 (k3 h1 h2)
set_option maxRecDepth 20000 in
theorem SX12_isShelf {G : zG} {σ : zS} {Q : Int → zS → Prop} {a1 : Int}   (kq : Q (if (0 ≤ a1 ∧ a1 < 10) then (1 : Int) else 0) σ) : zO G MX12_isShelf [zi a1] σ Q := by
  have k1 : (a1 < 0) → Q 0 σ := by
    intro h1
    have e : (if (0 ≤ a1 ∧ a1 < 10) then (1 : Int) else 0 : Int) = 0 := by first | exact if_pos (by omega) | exact if_neg (by omega) | (simp_all; done)
    rw [e] at kq; exact kq
  have k2 : (0 ≤ a1) → (10 ≤ a1) → Q 0 σ := by
    intro h1 h2
    have e : (if (0 ≤ a1 ∧ a1 < 10) then (1 : Int) else 0 : Int) = 0 := by first | exact if_pos (by omega) | exact if_neg (by omega) | (simp_all; done)
    rw [e] at kq; exact kq
  have k3 : (0 ≤ a1) → (a1 < 10) → Q 1 σ := by
    intro h1 h2
    have e : (if (0 ≤ a1 ∧ a1 < 10) then (1 : Int) else 0 : Int) = 1 := by first | exact if_pos (by omega) | exact if_neg (by omega) | (simp_all; done)
    rw [e] at kq; exact kq
  refine zO_of (ls0 := [zi a1]) (by decide) (Nat.le_of_ble_eq_true rfl) rfl ?_
  refine z_iload_n dX12_isShelf_0 rfl rfl ?_
  refine z_if_lt dX12_isShelf_1 (tgt := 14) (by decide) (fun h1 => ?_) (fun h1 => ?_)
  · skip
    refine z_iconst dX12_isShelf_14 (by unfold zIn; decide) ?_
    exact z_iretz rfl (by decide) dX12_isShelf_15 (k1 h1)
  · skip
    refine z_iload_n dX12_isShelf_4 rfl rfl ?_
    refine z_bipush (x := 10) dX12_isShelf_5 (by decide +kernel) (by unfold zIn; decide) ?_
    refine z_icmp_ge dX12_isShelf_7 (tgt := 14) (by decide) (fun h2 => ?_) (fun h2 => ?_)
    · skip
      refine z_iconst dX12_isShelf_14 (by unfold zIn; decide) ?_
      exact z_iretz rfl (by decide) dX12_isShelf_15 (k2 h1 h2)
    · skip
      refine z_iconst dX12_isShelf_10 (by unfold zIn; decide) ?_
      refine z_goto dX12_isShelf_11 (tgt := 15) (by decide) ?_
      exact z_iretz rfl (by decide) dX12_isShelf_15 (k3 h1 h2)
set_option maxRecDepth 20000 in
theorem SX12_isPlace {G : zG} {σ : zS} {Q : Int → zS → Prop} {a1 : Int}   (kq : Q (if (0 ≤ a1 ∧ a1 < σ 98 4) then (1 : Int) else 0) σ) : zO G MX12_isPlace [zr 98, zi a1] σ Q := by
  have k1 : (a1 < 0) → Q 0 σ := by
    intro h1
    have e : (if (0 ≤ a1 ∧ a1 < σ 98 4) then (1 : Int) else 0 : Int) = 0 := by first | exact if_pos (by omega) | exact if_neg (by omega) | (simp_all; done)
    rw [e] at kq; exact kq
  have k2 : (0 ≤ a1) → (σ 98 4 ≤ a1) → Q 0 σ := by
    intro h1 h2
    have e : (if (0 ≤ a1 ∧ a1 < σ 98 4) then (1 : Int) else 0 : Int) = 0 := by first | exact if_pos (by omega) | exact if_neg (by omega) | (simp_all; done)
    rw [e] at kq; exact kq
  have k3 : (0 ≤ a1) → (a1 < σ 98 4) → Q 1 σ := by
    intro h1 h2
    have e : (if (0 ≤ a1 ∧ a1 < σ 98 4) then (1 : Int) else 0 : Int) = 1 := by first | exact if_pos (by omega) | exact if_neg (by omega) | (simp_all; done)
    rw [e] at kq; exact kq
  refine zO_of (ls0 := [zr 98, zi a1]) (by decide) (Nat.le_of_ble_eq_true rfl) rfl ?_
  refine z_iload_n dX12_isPlace_0 rfl rfl ?_
  refine z_if_lt dX12_isPlace_1 (tgt := 16) (by decide) (fun h1 => ?_) (fun h1 => ?_)
  · skip
    refine z_iconst dX12_isPlace_16 (by unfold zIn; decide) ?_
    exact z_iretz rfl (by decide) dX12_isPlace_17 (k1 h1)
  · skip
    refine z_iload_n dX12_isPlace_4 rfl rfl ?_
    refine z_aload_n dX12_isPlace_5 rfl rfl ?_
    refine z_getfI (k := 4) flRX12_259 rfl rfl dX12_isPlace_6 ?_
    refine z_icmp_ge dX12_isPlace_9 (tgt := 16) (by decide) (fun h2 => ?_) (fun h2 => ?_)
    · skip
      refine z_iconst dX12_isPlace_16 (by unfold zIn; decide) ?_
      exact z_iretz rfl (by decide) dX12_isPlace_17 (k2 h1 h2)
    · skip
      refine z_iconst dX12_isPlace_12 (by unfold zIn; decide) ?_
      refine z_goto dX12_isPlace_13 (tgt := 17) (by decide) ?_
      exact z_iretz rfl (by decide) dX12_isPlace_17 (k3 h1 h2)
set_option maxRecDepth 20000 in
theorem SX12_year {G : zG} {σ : zS} {Q : Int → zS → Prop}   (kq : Q (zdiv (σ 98 0) 365) σ) : zO G MX12_year [zr 98] σ Q := by
  have k1 : Q (zdiv (σ 98 0) 365) σ := by
    exact kq
  refine zO_of (ls0 := [zr 98]) (by decide) (Nat.le_of_ble_eq_true rfl) rfl ?_
  refine z_aload_n dX12_year_0 rfl rfl ?_
  refine z_getfI (k := 0) flRX12_262 rfl rfl dX12_year_1 ?_
  refine z_sipush (x := 365) dX12_year_4 (by decide +kernel) (by unfold zIn; decide) ?_
  refine z_idiv dX12_year_7 (by decide) ?_
  exact z_ireti rfl dX12_year_8 (k1)
set_option maxRecDepth 20000 in
theorem SX12_isInForce {G : zG} {σ : zS} {Q : Int → zS → Prop} {a1 a2 a3 a4 : Int}  (k1 : (0 : Int) ≤ a1 ∧ a1 < (12 : Int)) (kq : Q (if (σ 119 a1 = a2 ∧ σ 120 a1 ≤ a3 ∧ σ 121 a1 ≤ a4) then (1 : Int) else 0) σ) : zO G MX12_isInForce [zr 98, zi a1, zi a2, zi a3, zi a4] σ Q := by
  have k2 : (σ 119 a1 ≠ a2) → Q 0 σ := by
    intro h1
    have e : (if (σ 119 a1 = a2 ∧ σ 120 a1 ≤ a3 ∧ σ 121 a1 ≤ a4) then (1 : Int) else 0 : Int) = 0 := by first | exact if_pos (by omega) | exact if_neg (by omega) | (simp_all; done)
    rw [e] at kq; exact kq
  have k3 : (σ 119 a1 = a2) → (a3 < σ 120 a1) → Q 0 σ := by
    intro h1 h2
    have e : (if (σ 119 a1 = a2 ∧ σ 120 a1 ≤ a3 ∧ σ 121 a1 ≤ a4) then (1 : Int) else 0 : Int) = 0 := by first | exact if_pos (by omega) | exact if_neg (by omega) | (simp_all; done)
    rw [e] at kq; exact kq
  have k4 : (σ 119 a1 = a2) → (σ 120 a1 ≤ a3) → (a4 < σ 121 a1) → Q 0 σ := by
    intro h1 h2 h3
    have e : (if (σ 119 a1 = a2 ∧ σ 120 a1 ≤ a3 ∧ σ 121 a1 ≤ a4) then (1 : Int) else 0 : Int) = 0 := by first | exact if_pos (by omega) | exact if_neg (by omega) | (simp_all; done)
    rw [e] at kq; exact kq
  have k5 : (σ 119 a1 = a2) → (σ 120 a1 ≤ a3) → (σ 121 a1 ≤ a4) → Q 1 σ := by
    intro h1 h2 h3
    have e : (if (σ 119 a1 = a2 ∧ σ 120 a1 ≤ a3 ∧ σ 121 a1 ≤ a4) then (1 : Int) else 0 : Int) = 1 := by first | exact if_pos (by omega) | exact if_neg (by omega) | (simp_all; done)
    rw [e] at kq; exact kq
  refine zO_of (ls0 := [zr 98, zi a1, zi a2, zi a3, zi a4]) (by decide) (Nat.le_of_ble_eq_true rfl) rfl ?_
  refine z_aload_n dX12_isInForce_0 rfl rfl ?_
  refine z_getfR (k := 33) flRX12_76 rfl rfl dX12_isInForce_1 ?_
  refine z_iload_n dX12_isInForce_4 rfl rfl ?_
  have s1 : (0 : Int) ≤ a1 ∧ a1 < (12 : Int) := k1
  refine z_iald rfl s1.1 s1.2 dX12_isInForce_5 ?_
  refine z_iload_n dX12_isInForce_6 rfl rfl ?_
  refine z_icmp_ne dX12_isInForce_7 (tgt := 35) (by decide) (fun h1 => ?_) (fun h1 => ?_)
  · skip
    refine z_iconst dX12_isInForce_35 (by unfold zIn; decide) ?_
    exact z_iretz rfl (by decide) dX12_isInForce_36 (k2 h1)
  · skip
    refine z_aload_n dX12_isInForce_10 rfl rfl ?_
    refine z_getfR (k := 34) flRX12_79 rfl rfl dX12_isInForce_11 ?_
    refine z_iload_n dX12_isInForce_14 rfl rfl ?_
    refine z_iald rfl s1.1 s1.2 dX12_isInForce_15 ?_
    refine z_iload_n dX12_isInForce_16 rfl rfl ?_
    refine z_icmp_gt dX12_isInForce_17 (tgt := 35) (by decide) (fun h2 => ?_) (fun h2 => ?_)
    · skip
      refine z_iconst dX12_isInForce_35 (by unfold zIn; decide) ?_
      exact z_iretz rfl (by decide) dX12_isInForce_36 (k3 h1 h2)
    · skip
      refine z_aload_n dX12_isInForce_20 rfl rfl ?_
      refine z_getfR (k := 35) flRX12_82 rfl rfl dX12_isInForce_21 ?_
      refine z_iload_n dX12_isInForce_24 rfl rfl ?_
      refine z_iald rfl s1.1 s1.2 dX12_isInForce_25 ?_
      refine z_iload dX12_isInForce_26 rfl ?_
      refine z_icmp_gt dX12_isInForce_28 (tgt := 35) (by decide) (fun h3 => ?_) (fun h3 => ?_)
      · skip
        refine z_iconst dX12_isInForce_35 (by unfold zIn; decide) ?_
        exact z_iretz rfl (by decide) dX12_isInForce_36 (k4 h1 h2 h3)
      · skip
        refine z_iconst dX12_isInForce_31 (by unfold zIn; decide) ?_
        refine z_goto dX12_isInForce_32 (tgt := 36) (by decide) ?_
        exact z_iretz rfl (by decide) dX12_isInForce_36 (k5 h1 h2 h3)
set_option maxRecDepth 20000 in
theorem SX12_comes {G : zG} {σ : zS} {Q : Int → zS → Prop} {a1 a2 : Int}  (k1 : (0 : Int) ≤ a2 ∧ a2 < (12 : Int)) (kq : Q (0) (zup (zup (zup (zup σ 130 a2 a1) 131 a2 (σ 98 0)) 132 a2 (-1)) 133 a2 0)) : zO G MX12_comes [zr 98, zi a1, zi a2] σ Q := by
  have k2 : Q 0 (zup (zup (zup (zup σ 130 a2 a1) 131 a2 (σ 98 0)) 132 a2 (-1)) 133 a2 0) := by
    exact kq
  refine zO_of (ls0 := [zr 98, zi a1, zi a2]) (by decide) (Nat.le_of_ble_eq_true rfl) rfl ?_
  refine z_aload_n dX12_comes_0 rfl rfl ?_
  refine z_getfR (k := 45) flRX12_109 rfl rfl dX12_comes_1 ?_
  refine z_iload_n dX12_comes_4 rfl rfl ?_
  refine z_iload_n dX12_comes_5 rfl rfl ?_
  have s1 : (0 : Int) ≤ a2 ∧ a2 < (12 : Int) := k1
  refine z_iast rfl s1.1 s1.2 dX12_comes_6 ?_
  refine z_aload_n dX12_comes_7 rfl rfl ?_
  refine z_getfR (k := 46) flRX12_112 rfl rfl dX12_comes_8 ?_
  refine z_iload_n dX12_comes_11 rfl rfl ?_
  refine z_aload_n dX12_comes_12 rfl rfl ?_
  refine z_getfE (k := 0) (v := σ 98 0) flRX12_262 rfl rfl (zup_of (by decide)) dX12_comes_13 ?_
  refine z_iast rfl s1.1 s1.2 dX12_comes_16 ?_
  refine z_aload_n dX12_comes_17 rfl rfl ?_
  refine z_getfR (k := 47) flRX12_115 rfl rfl dX12_comes_18 ?_
  refine z_iload_n dX12_comes_21 rfl rfl ?_
  refine z_iconst dX12_comes_22 (by unfold zIn; decide) ?_
  refine z_iast rfl s1.1 s1.2 dX12_comes_23 ?_
  refine z_aload_n dX12_comes_24 rfl rfl ?_
  refine z_getfR (k := 48) flRX12_118 rfl rfl dX12_comes_25 ?_
  refine z_iload_n dX12_comes_28 rfl rfl ?_
  refine z_iconst dX12_comes_29 (by unfold zIn; decide) ?_
  refine z_iast rfl s1.1 s1.2 dX12_comes_30 ?_
  exact z_vret rfl dX12_comes_31 (k2)
set_option maxRecDepth 20000 in
theorem SX12_lets {G : zG} {σ : zS} {Q : Int → zS → Prop} {a1 a2 a3 a4 a5 a6 a7 : Int}  (k1 : (0 : Int) ≤ σ 98 5 ∧ σ 98 5 < (8 : Int)) (k2 : -2147483648 ≤ σ 98 5 + 1 ∧ σ 98 5 + 1 < (2147483648 : Int)) (kq : Q (σ 98 5) (zup (zup (zup (zup (zup (zup (zup (zup σ 139 (σ 98 5) a1) 140 (σ 98 5) a2) 141 (σ 98 5) a3) 142 (σ 98 5) a4) 143 (σ 98 5) a5) 144 (σ 98 5) a6) 145 (σ 98 5) a7) 98 5 (σ 98 5 + 1))) : zO G MX12_lets [zr 98, zi a1, zi a2, zi a3, zi a4, zi a5, zi a6, zi a7] σ Q := by
  have k3 : Q (σ 98 5) (zup (zup (zup (zup (zup (zup (zup (zup σ 139 (σ 98 5) a1) 140 (σ 98 5) a2) 141 (σ 98 5) a3) 142 (σ 98 5) a4) 143 (σ 98 5) a5) 144 (σ 98 5) a6) 145 (σ 98 5) a7) 98 5 (σ 98 5 + 1)) := by
    exact kq
  refine zO_of (ls0 := [zr 98, zi a1, zi a2, zi a3, zi a4, zi a5, zi a6, zi a7]) (by decide) (Nat.le_of_ble_eq_true rfl) rfl ?_
  refine z_aload_n dX12_lets_0 rfl rfl ?_
  refine z_getfR (k := 54) flRX12_136 rfl rfl dX12_lets_1 ?_
  refine z_aload_n dX12_lets_4 rfl rfl ?_
  refine z_getfI (k := 5) flRX12_415 rfl rfl dX12_lets_5 ?_
  refine z_iload_n dX12_lets_8 rfl rfl ?_
  have s1 : (0 : Int) ≤ σ 98 5 ∧ σ 98 5 < (8 : Int) := k1
  refine z_iast rfl s1.1 s1.2 dX12_lets_9 ?_
  refine z_aload_n dX12_lets_10 rfl rfl ?_
  refine z_getfR (k := 55) flRX12_139 rfl rfl dX12_lets_11 ?_
  refine z_aload_n dX12_lets_14 rfl rfl ?_
  refine z_getfE (k := 5) (v := σ 98 5) flRX12_415 rfl rfl (zup_of (by decide)) dX12_lets_15 ?_
  refine z_iload_n dX12_lets_18 rfl rfl ?_
  refine z_iast rfl s1.1 s1.2 dX12_lets_19 ?_
  refine z_aload_n dX12_lets_20 rfl rfl ?_
  refine z_getfR (k := 56) flRX12_142 rfl rfl dX12_lets_21 ?_
  refine z_aload_n dX12_lets_24 rfl rfl ?_
  refine z_getfE (k := 5) (v := σ 98 5) flRX12_415 rfl rfl ((zup_of (by decide)).trans (zup_of (by decide))) dX12_lets_25 ?_
  refine z_iload_n dX12_lets_28 rfl rfl ?_
  refine z_iast rfl s1.1 s1.2 dX12_lets_29 ?_
  refine z_aload_n dX12_lets_30 rfl rfl ?_
  refine z_getfR (k := 57) flRX12_145 rfl rfl dX12_lets_31 ?_
  refine z_aload_n dX12_lets_34 rfl rfl ?_
  refine z_getfE (k := 5) (v := σ 98 5) flRX12_415 rfl rfl ((zup_of (by decide)).trans ((zup_of (by decide)).trans (zup_of (by decide)))) dX12_lets_35 ?_
  refine z_iload dX12_lets_38 rfl ?_
  refine z_iast rfl s1.1 s1.2 dX12_lets_40 ?_
  refine z_aload_n dX12_lets_41 rfl rfl ?_
  refine z_getfR (k := 58) flRX12_148 rfl rfl dX12_lets_42 ?_
  refine z_aload_n dX12_lets_45 rfl rfl ?_
  refine z_getfE (k := 5) (v := σ 98 5) flRX12_415 rfl rfl ((zup_of (by decide)).trans ((zup_of (by decide)).trans ((zup_of (by decide)).trans (zup_of (by decide))))) dX12_lets_46 ?_
  refine z_iload dX12_lets_49 rfl ?_
  refine z_iast rfl s1.1 s1.2 dX12_lets_51 ?_
  refine z_aload_n dX12_lets_52 rfl rfl ?_
  refine z_getfR (k := 59) flRX12_151 rfl rfl dX12_lets_53 ?_
  refine z_aload_n dX12_lets_56 rfl rfl ?_
  refine z_getfE (k := 5) (v := σ 98 5) flRX12_415 rfl rfl ((zup_of (by decide)).trans ((zup_of (by decide)).trans ((zup_of (by decide)).trans ((zup_of (by decide)).trans (zup_of (by decide)))))) dX12_lets_57 ?_
  refine z_iload dX12_lets_60 rfl ?_
  refine z_iast rfl s1.1 s1.2 dX12_lets_62 ?_
  refine z_aload_n dX12_lets_63 rfl rfl ?_
  refine z_getfR (k := 60) flRX12_154 rfl rfl dX12_lets_64 ?_
  refine z_aload_n dX12_lets_67 rfl rfl ?_
  refine z_getfE (k := 5) (v := σ 98 5) flRX12_415 rfl rfl ((zup_of (by decide)).trans ((zup_of (by decide)).trans ((zup_of (by decide)).trans ((zup_of (by decide)).trans ((zup_of (by decide)).trans (zup_of (by decide))))))) dX12_lets_68 ?_
  refine z_iload dX12_lets_71 rfl ?_
  refine z_iast rfl s1.1 s1.2 dX12_lets_73 ?_
  refine z_aload_n dX12_lets_74 rfl rfl ?_
  refine z_dup dX12_lets_75 rfl ?_
  refine z_getfE (k := 5) (v := σ 98 5) flRX12_415 rfl rfl ((zup_of (by decide)).trans ((zup_of (by decide)).trans ((zup_of (by decide)).trans ((zup_of (by decide)).trans ((zup_of (by decide)).trans ((zup_of (by decide)).trans (zup_of (by decide)))))))) dX12_lets_76 ?_
  refine z_dup_x1 dX12_lets_79 rfl rfl ?_
  refine z_iconst dX12_lets_80 (by unfold zIn; decide) ?_
  have s2 : -2147483648 ≤ σ 98 5 + 1 ∧ σ 98 5 + 1 < (2147483648 : Int) := k2
  refine z_iaddN dX12_lets_81 s2 ?_
  refine z_putI (k := 5) fpRX12_415 rfl rfl dX12_lets_82 ?_
  exact z_ireti rfl dX12_lets_85 (k3)
set_option maxRecDepth 20000 in
theorem SX12_enters {G : zG} {σ : zS} {Q : Int → zS → Prop} {a1 a2 : Int}  (k1 : (0 : Int) ≤ σ 98 7 ∧ σ 98 7 < (400 : Int)) (k2 : -2147483648 ≤ σ 98 7 + 1 ∧ σ 98 7 + 1 < (2147483648 : Int)) (k3 : -2147483648 ≤ σ 98 8 + a2 ∧ σ 98 8 + a2 < (2147483648 : Int)) (kq : Q (0) (zup (zup (zup (zup (zup σ 148 (σ 98 7) (zdiv (σ 98 0) 365)) 149 (σ 98 7) a1) 98 7 (σ 98 7 + 1)) 150 (σ 98 7) a2) 98 8 (σ 98 8 + a2))) : zO G MX12_enters [zr 98, zi a1, zi a2] σ Q := by
  have k4 : Q 0 (zup (zup (zup (zup (zup σ 148 (σ 98 7) (zdiv (σ 98 0) 365)) 149 (σ 98 7) a1) 98 7 (σ 98 7 + 1)) 150 (σ 98 7) a2) 98 8 (σ 98 8 + a2)) := by
    exact kq
  refine zO_of (ls0 := [zr 98, zi a1, zi a2]) (by decide) (Nat.le_of_ble_eq_true rfl) rfl ?_
  refine z_aload_n dX12_enters_0 rfl rfl ?_
  refine z_getfR (k := 64) flRX12_163 rfl rfl dX12_enters_1 ?_
  refine z_aload_n dX12_enters_4 rfl rfl ?_
  refine z_getfI (k := 7) flRX12_447 rfl rfl dX12_enters_5 ?_
  refine z_aload_n dX12_enters_8 rfl rfl ?_
  refine z_callv (as := []) (st := [zi (σ 98 7), zr 148]) mkX12_year lkRX12_450 rfl rfl rfl (by decide) (Nat.le_of_ble_eq_true rfl) rfl dX12_enters_9 ?_
  refine SX12_year ?_
  show zR G MX12_enters 12 [zr 98, zi a1, zi a2] [zi (zdiv (σ 98 0) 365), zi (σ 98 7), zr 148] σ Q
  have s1 : (0 : Int) ≤ σ 98 7 ∧ σ 98 7 < (400 : Int) := k1
  refine z_iast rfl s1.1 s1.2 dX12_enters_12 ?_
  refine z_aload_n dX12_enters_13 rfl rfl ?_
  refine z_getfR (k := 65) flRX12_166 rfl rfl dX12_enters_14 ?_
  refine z_aload_n dX12_enters_17 rfl rfl ?_
  refine z_getfE (k := 7) (v := σ 98 7) flRX12_447 rfl rfl (zup_of (by decide)) dX12_enters_18 ?_
  refine z_iload_n dX12_enters_21 rfl rfl ?_
  refine z_iast rfl s1.1 s1.2 dX12_enters_22 ?_
  refine z_aload_n dX12_enters_23 rfl rfl ?_
  refine z_getfR (k := 66) flRX12_169 rfl rfl dX12_enters_24 ?_
  refine z_aload_n dX12_enters_27 rfl rfl ?_
  refine z_dup dX12_enters_28 rfl ?_
  refine z_getfE (k := 7) (v := σ 98 7) flRX12_447 rfl rfl ((zup_of (by decide)).trans (zup_of (by decide))) dX12_enters_29 ?_
  refine z_dup_x1 dX12_enters_32 rfl rfl ?_
  refine z_iconst dX12_enters_33 (by unfold zIn; decide) ?_
  have s2 : -2147483648 ≤ σ 98 7 + 1 ∧ σ 98 7 + 1 < (2147483648 : Int) := k2
  refine z_iaddN dX12_enters_34 s2 ?_
  refine z_putI (k := 7) fpRX12_447 rfl rfl dX12_enters_35 ?_
  refine z_iload_n dX12_enters_38 rfl rfl ?_
  refine z_iast rfl s1.1 s1.2 dX12_enters_39 ?_
  refine z_aload_n dX12_enters_40 rfl rfl ?_
  refine z_dup dX12_enters_41 rfl ?_
  refine z_getfE (k := 8) (v := σ 98 8) flRX12_453 rfl rfl ((zup_of (by decide)).trans ((zup_oi (by decide)).trans ((zup_of (by decide)).trans (zup_of (by decide))))) dX12_enters_42 ?_
  refine z_iload_n dX12_enters_45 rfl rfl ?_
  have s3 : -2147483648 ≤ σ 98 8 + a2 ∧ σ 98 8 + a2 < (2147483648 : Int) := k3
  refine z_iaddN dX12_enters_46 s3 ?_
  refine z_putI (k := 8) fpRX12_453 rfl rfl dX12_enters_47 ?_
  exact z_vret rfl dX12_enters_50 (k4)
set_option maxRecDepth 20000 in
theorem SX12_audit {G : zG} {σ : zS} {Q : Int → zS → Prop} {a1 : Int}   (kq : Q (zW (a1 - σ 98 8)) σ) : zO G MX12_audit [zr 98, zi a1] σ Q := by
  have k1 : Q (zW (a1 - σ 98 8)) σ := by
    exact kq
  refine zO_of (ls0 := [zr 98, zi a1]) (by decide) (Nat.le_of_ble_eq_true rfl) rfl ?_
  refine z_iload_n dX12_audit_0 rfl rfl ?_
  refine z_aload_n dX12_audit_1 rfl rfl ?_
  refine z_getfI (k := 8) flRX12_453 rfl rfl dX12_audit_2 ?_
  refine z_isub dX12_audit_5 ?_
  exact z_ireti rfl dX12_audit_6 (k1)
