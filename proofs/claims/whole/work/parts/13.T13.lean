set_option maxRecDepth 20000 in
set_option maxHeartbeats 1000000 in
theorem TX12_may {G : zG} {σ : zS} {Q : Int → zS → Prop} {a1 a2 a3 a4 : Int}  (k1 : ((0 ≤ a1 ∧ a1 < σ 98 1)) → ((0 ≤ a2 ∧ a2 < 4)) → zO G MX12_mays [zr 98, zi a1, zi a2, zi a3, zi a4] σ (fun rr σ' => zR G MX12_may 24 [zr 98, zi a1, zi a2, zi a3, zi a4] [zi rr] σ' Q)) (k2 : ((¬ ((0 ≤ a1 ∧ a1 < σ 98 1))) ∨ (((0 ≤ a1 ∧ a1 < σ 98 1)) ∧ (¬ ((0 ≤ a2 ∧ a2 < 4))))) → Q (-1) σ) : zO G MX12_may [zr 98, zi a1, zi a2, zi a3, zi a4] σ Q := by
  refine zO_of (ls0 := [zr 98, zi a1, zi a2, zi a3, zi a4]) (by decide) (Nat.le_of_ble_eq_true rfl) rfl ?_
  have J27 : ((¬ ((0 ≤ a1 ∧ a1 < σ 98 1))) ∨ (((0 ≤ a1 ∧ a1 < σ 98 1)) ∧ (¬ ((0 ≤ a2 ∧ a2 < 4))))) → zR G MX12_may 27 [zr 98, zi a1, zi a2, zi a3, zi a4] [] σ Q := by
    intro h3
    refine z_iconst dX12_may_27 (by unfold zIn; decide) ?_
    exact z_ireti rfl dX12_may_28 (k2 h3)
  refine z_aload_n dX12_may_0 rfl rfl ?_
  refine z_iload_n dX12_may_1 rfl rfl ?_
  refine z_callv (as := [zi a1]) (st := []) mkX12_isOne lkRX12_271 rfl rfl rfl (by decide) (Nat.le_of_ble_eq_true rfl) rfl dX12_may_2 ?_
  refine SX12_isOne ?_
  show zR G MX12_may 5 [zr 98, zi a1, zi a2, zi a3, zi a4] [zi (if (0 ≤ a1 ∧ a1 < σ 98 1) then (1 : Int) else 0)] σ Q
  refine z_if_eq dX12_may_5 (tgt := 27) (by decide) (fun z => ?_) (fun z => ?_)
  · have h1 : ¬ ((0 ≤ a1 ∧ a1 < σ 98 1)) := zb0 z
    exact J27 (Or.inl h1)
  · have h1 : (0 ≤ a1 ∧ a1 < σ 98 1) := zb1 z
    refine z_iload_n dX12_may_8 rfl rfl ?_
    refine z_calls (as := [zi a2]) (st := []) mkX12_isStatute lkRX12_297 rfl (by decide) (Nat.le_of_ble_eq_true rfl) rfl dX12_may_9 ?_
    refine SX12_isStatute ?_
    show zR G MX12_may 12 [zr 98, zi a1, zi a2, zi a3, zi a4] [zi (if (0 ≤ a2 ∧ a2 < 4) then (1 : Int) else 0)] σ Q
    refine z_if_eq dX12_may_12 (tgt := 27) (by decide) (fun z => ?_) (fun z => ?_)
    · have h2 : ¬ ((0 ≤ a2 ∧ a2 < 4)) := zb0 z
      exact J27 (Or.inr ⟨h1, h2⟩)
    · have h2 : (0 ≤ a2 ∧ a2 < 4) := zb1 z
      refine z_aload_n dX12_may_15 rfl rfl ?_
      refine z_iload_n dX12_may_16 rfl rfl ?_
      refine z_iload_n dX12_may_17 rfl rfl ?_
      refine z_iload_n dX12_may_18 rfl rfl ?_
      refine z_iload dX12_may_19 rfl ?_
      refine z_callv (as := [zi a1, zi a2, zi a3, zi a4]) (st := []) mkX12_mays lkRX12_365 rfl rfl rfl (by decide) (Nat.le_of_ble_eq_true rfl) rfl dX12_may_21 (k1 h1 h2)
set_option maxRecDepth 20000 in
set_option maxHeartbeats 1000000 in
theorem TX12_may_24 {G : zG} {σ : zS} {Q : Int → zS → Prop} {v1 v2 v3 v4 r : Int}  (k1 : Q r σ) : zR G MX12_may 24 [zr 98, zi v1, zi v2, zi v3, zi v4] [zi r] σ Q := by
  refine z_goto dX12_may_24 (tgt := 28) (by decide) ?_
  exact z_ireti rfl dX12_may_28 (k1)
set_option maxRecDepth 20000 in
set_option maxHeartbeats 1000000 in
theorem TX12_test {G : zG} {σ : zS} {Q : Int → zS → Prop} {a1 a2 a3 a4 a5 : Int}  (k1 : ((0 ≤ a1 ∧ a1 < σ 98 1)) → ((0 ≤ a2 ∧ a2 < 4)) → zO G MX12_words [zr 98, zi a2, zi a3, zi a4] σ (fun rr σ' => zR G MX12_test 25 [zr 98, zi a1, zi a2, zi a3, zi a4, zi a5] [] σ' Q)) (k2 : ((¬ ((0 ≤ a1 ∧ a1 < σ 98 1))) ∨ (((0 ≤ a1 ∧ a1 < σ 98 1)) ∧ (¬ ((0 ≤ a2 ∧ a2 < 4))))) → Q (-1) σ) : zO G MX12_test [zr 98, zi a1, zi a2, zi a3, zi a4, zi a5] σ Q := by
  refine zO_of (ls0 := [zr 98, zi a1, zi a2, zi a3, zi a4, zi a5]) (by decide) (Nat.le_of_ble_eq_true rfl) rfl ?_
  have J15 : ((¬ ((0 ≤ a1 ∧ a1 < σ 98 1))) ∨ (((0 ≤ a1 ∧ a1 < σ 98 1)) ∧ (¬ ((0 ≤ a2 ∧ a2 < 4))))) → zR G MX12_test 15 [zr 98, zi a1, zi a2, zi a3, zi a4, zi a5] [] σ Q := by
    intro h3
    refine z_iconst dX12_test_15 (by unfold zIn; decide) ?_
    exact z_ireti rfl dX12_test_16 (k2 h3)
  refine z_aload_n dX12_test_0 rfl rfl ?_
  refine z_iload_n dX12_test_1 rfl rfl ?_
  refine z_callv (as := [zi a1]) (st := []) mkX12_isOne lkRX12_271 rfl rfl rfl (by decide) (Nat.le_of_ble_eq_true rfl) rfl dX12_test_2 ?_
  refine SX12_isOne ?_
  show zR G MX12_test 5 [zr 98, zi a1, zi a2, zi a3, zi a4, zi a5] [zi (if (0 ≤ a1 ∧ a1 < σ 98 1) then (1 : Int) else 0)] σ Q
  refine z_if_eq dX12_test_5 (tgt := 15) (by decide) (fun z => ?_) (fun z => ?_)
  · have h1 : ¬ ((0 ≤ a1 ∧ a1 < σ 98 1)) := zb0 z
    exact J15 (Or.inl h1)
  · have h1 : (0 ≤ a1 ∧ a1 < σ 98 1) := zb1 z
    refine z_iload_n dX12_test_8 rfl rfl ?_
    refine z_calls (as := [zi a2]) (st := []) mkX12_isStatute lkRX12_297 rfl (by decide) (Nat.le_of_ble_eq_true rfl) rfl dX12_test_9 ?_
    refine SX12_isStatute ?_
    show zR G MX12_test 12 [zr 98, zi a1, zi a2, zi a3, zi a4, zi a5] [zi (if (0 ≤ a2 ∧ a2 < 4) then (1 : Int) else 0)] σ Q
    refine z_if_ne dX12_test_12 (tgt := 17) (by decide) (fun z => ?_) (fun z => ?_)
    · have h2 : (0 ≤ a2 ∧ a2 < 4) := zb1 z
      refine z_aload_n dX12_test_17 rfl rfl ?_
      refine z_iload_n dX12_test_18 rfl rfl ?_
      refine z_iload_n dX12_test_19 rfl rfl ?_
      refine z_iload dX12_test_20 rfl ?_
      refine z_callv (as := [zi a2, zi a3, zi a4]) (st := []) mkX12_words lkRX12_316 rfl rfl rfl (by decide) (Nat.le_of_ble_eq_true rfl) rfl dX12_test_22 (k1 h1 h2)
    · have h2 : ¬ ((0 ≤ a2 ∧ a2 < 4)) := zb0 z
      exact J15 (Or.inr ⟨h1, h2⟩)
set_option maxRecDepth 20000 in
set_option maxHeartbeats 1000000 in
theorem TX12_test_25 {G : zG} {σ : zS} {Q : Int → zS → Prop} {v1 v2 v3 v4 v5 : Int}  (k1 : zO G MX12_compiles [zr 98] σ (fun rr σ' => zR G MX12_test 29 [zr 98, zi v1, zi v2, zi v3, zi v4, zi v5] [zi rr] σ' Q)) : zR G MX12_test 25 [zr 98, zi v1, zi v2, zi v3, zi v4, zi v5] [] σ Q := by
  refine z_aload_n dX12_test_25 rfl rfl ?_
  refine z_callv (as := []) (st := []) mkX12_compiles lkRX12_350 rfl rfl rfl (by decide) (Nat.le_of_ble_eq_true rfl) rfl dX12_test_26 (k1)
set_option maxRecDepth 20000 in
set_option maxHeartbeats 1000000 in
theorem TX12_test_29 {G : zG} {σ : zS} {Q : Int → zS → Prop} {v1 v2 v3 v4 v5 r : Int}  (k1 : (r = (-1)) → (0 ≤ v5) → (v5 < σ 98 84) → zO G MX12_tested [zr 98, zi v5, zi v1, zi v3, zi v4] σ (fun rr σ' => zR G MX12_test 59 [zr 98, zi v1, zi v2, zi v3, zi v4, zi v5] [zi rr] σ' Q)) (k2 : (r ≠ (-1) ∨ (r = (-1) ∧ v5 < 0) ∨ (r = (-1) ∧ 0 ≤ v5 ∧ σ 98 84 ≤ v5)) → Q (-1) σ) : zR G MX12_test 29 [zr 98, zi v1, zi v2, zi v3, zi v4, zi v5] [zi r] σ Q := by
  have J47 : (r ≠ (-1) ∨ (r = (-1) ∧ v5 < 0) ∨ (r = (-1) ∧ 0 ≤ v5 ∧ σ 98 84 ≤ v5)) → zR G MX12_test 47 [zr 98, zi v1, zi v2, zi v3, zi v4, zi v5] [] σ Q := by
    intro h4
    refine z_iconst dX12_test_47 (by unfold zIn; decide) ?_
    exact z_ireti rfl dX12_test_48 (k2 h4)
  refine z_iconst dX12_test_29 (by unfold zIn; decide) ?_
  refine z_icmp_ne dX12_test_30 (tgt := 47) (by decide) (fun h1 => ?_) (fun h1 => ?_)
  · skip
    exact J47 (Or.inl h1)
  · skip
    refine z_iload dX12_test_33 rfl ?_
    refine z_if_lt dX12_test_35 (tgt := 47) (by decide) (fun h2 => ?_) (fun h2 => ?_)
    · skip
      exact J47 (Or.inr (Or.inl ⟨h1, h2⟩))
    · skip
      refine z_iload dX12_test_38 rfl ?_
      refine z_aload_n dX12_test_40 rfl rfl ?_
      refine z_getfI (k := 84) flRX12_327 rfl rfl dX12_test_41 ?_
      refine z_icmp_lt dX12_test_44 (tgt := 49) (by decide) (fun h3 => ?_) (fun h3 => ?_)
      · skip
        refine z_aload_n dX12_test_49 rfl rfl ?_
        refine z_iload dX12_test_50 rfl ?_
        refine z_iload_n dX12_test_52 rfl rfl ?_
        refine z_iload_n dX12_test_53 rfl rfl ?_
        refine z_iload dX12_test_54 rfl ?_
        refine z_callv (as := [zi v5, zi v1, zi v3, zi v4]) (st := []) mkX12_tested lkRX12_359 rfl rfl rfl (by decide) (Nat.le_of_ble_eq_true rfl) rfl dX12_test_56 (k1 h1 h2 h3)
      · skip
        exact J47 (Or.inr (Or.inr ⟨h1, h2, h3⟩))
set_option maxRecDepth 20000 in
set_option maxHeartbeats 1000000 in
theorem TX12_test_59 {G : zG} {σ : zS} {Q : Int → zS → Prop} {v1 v2 v3 v4 v5 r : Int}  (k1 : Q r σ) : zR G MX12_test 59 [zr 98, zi v1, zi v2, zi v3, zi v4, zi v5] [zi r] σ Q := by
  exact z_ireti rfl dX12_test_59 (k1)
set_option maxRecDepth 20000 in
set_option maxHeartbeats 1000000 in
theorem TX12_place {G : zG} {σ : zS} {Q : Int → zS → Prop} {a1 : Int}  (k1 : ((0 ≤ a1 ∧ a1 < 4)) → (σ 98 4 ≠ 12) → (0 : Int) ≤ σ 98 4 ∧ σ 98 4 < (12 : Int)) (k2 : ((0 ≤ a1 ∧ a1 < 4)) → (σ 98 4 ≠ 12) → -2147483648 ≤ σ 98 4 + 1 ∧ σ 98 4 + 1 < (2147483648 : Int)) (k3 : ((0 ≤ a1 ∧ a1 < 4)) → (σ 98 4 ≠ 12) → Q (σ 98 4) (zup (zup (zup (zup (zup σ 129 (σ 98 4) a1) 130 (σ 98 4) (-1)) 131 (σ 98 4) (-1)) 132 (σ 98 4) (-1)) 98 4 (σ 98 4 + 1))) (k4 : ((0 ≤ a1 ∧ a1 < 4)) → (σ 98 4 = 12) → -2147483648 ≤ -(-7) ∧ -(-7) < (2147483648 : Int)) (k5 : ((0 ≤ a1 ∧ a1 < 4)) → (σ 98 4 = 12) → (0 : Int) ≤ -(-7) ∧ -(-7) < (8 : Int)) (k6 : ((0 ≤ a1 ∧ a1 < 4)) → (σ 98 4 = 12) → Q (-7) (zup σ 157 (-(-7)) (zW ((σ 157 (-(-7))) + 1)))) (k7 : (¬ ((0 ≤ a1 ∧ a1 < 4))) → -2147483648 ≤ -(-1) ∧ -(-1) < (2147483648 : Int)) (k8 : (¬ ((0 ≤ a1 ∧ a1 < 4))) → (0 : Int) ≤ -(-1) ∧ -(-1) < (8 : Int)) (k9 : (¬ ((0 ≤ a1 ∧ a1 < 4))) → Q (-1) (zup σ 157 (-(-1)) (zW ((σ 157 (-(-1))) + 1)))) : zO G MX12_place [zr 98, zi a1] σ Q := by
  refine zO_of (ls0 := [zr 98, zi a1]) (by decide) (Nat.le_of_ble_eq_true rfl) rfl ?_
  refine z_iload_n dX12_place_0 rfl rfl ?_
  refine z_calls (as := [zi a1]) (st := []) mkX12_isStatute lkRX12_297 rfl (by decide) (Nat.le_of_ble_eq_true rfl) rfl dX12_place_1 ?_
  refine SX12_isStatute ?_
  show zR G MX12_place 4 [zr 98, zi a1] [zi (if (0 ≤ a1 ∧ a1 < 4) then (1 : Int) else 0)] σ Q
  refine z_if_ne dX12_place_4 (tgt := 13) (by decide) (fun z => ?_) (fun z => ?_)
  · have h1 : (0 ≤ a1 ∧ a1 < 4) := zb1 z
    refine z_aload_n dX12_place_13 rfl rfl ?_
    refine z_getfI (k := 4) flRX12_259 rfl rfl dX12_place_14 ?_
    refine z_bipush (x := 12) dX12_place_17 (by decide +kernel) (by unfold zIn; decide) ?_
    refine z_icmp_ne dX12_place_19 (tgt := 29) (by decide) (fun h2 => ?_) (fun h2 => ?_)
    · skip
      refine z_aload_n dX12_place_29 rfl rfl ?_
      refine z_getfR (k := 44) flRX12_106 rfl rfl dX12_place_30 ?_
      refine z_aload_n dX12_place_33 rfl rfl ?_
      refine z_getfI (k := 4) flRX12_259 rfl rfl dX12_place_34 ?_
      refine z_iload_n dX12_place_37 rfl rfl ?_
      have s1 : (0 : Int) ≤ σ 98 4 ∧ σ 98 4 < (12 : Int) := k1 h1 h2
      refine z_iast rfl s1.1 s1.2 dX12_place_38 ?_
      refine z_aload_n dX12_place_39 rfl rfl ?_
      refine z_getfR (k := 45) flRX12_109 rfl rfl dX12_place_40 ?_
      refine z_aload_n dX12_place_43 rfl rfl ?_
      refine z_getfE (k := 4) (v := σ 98 4) flRX12_259 rfl rfl (zup_of (by decide)) dX12_place_44 ?_
      refine z_iconst dX12_place_47 (by unfold zIn; decide) ?_
      refine z_iast rfl s1.1 s1.2 dX12_place_48 ?_
      refine z_aload_n dX12_place_49 rfl rfl ?_
      refine z_getfR (k := 46) flRX12_112 rfl rfl dX12_place_50 ?_
      refine z_aload_n dX12_place_53 rfl rfl ?_
      refine z_getfE (k := 4) (v := σ 98 4) flRX12_259 rfl rfl ((zup_of (by decide)).trans (zup_of (by decide))) dX12_place_54 ?_
      refine z_iconst dX12_place_57 (by unfold zIn; decide) ?_
      refine z_iast rfl s1.1 s1.2 dX12_place_58 ?_
      refine z_aload_n dX12_place_59 rfl rfl ?_
      refine z_getfR (k := 47) flRX12_115 rfl rfl dX12_place_60 ?_
      refine z_aload_n dX12_place_63 rfl rfl ?_
      refine z_getfE (k := 4) (v := σ 98 4) flRX12_259 rfl rfl ((zup_of (by decide)).trans ((zup_of (by decide)).trans (zup_of (by decide)))) dX12_place_64 ?_
      refine z_iconst dX12_place_67 (by unfold zIn; decide) ?_
      refine z_iast rfl s1.1 s1.2 dX12_place_68 ?_
      refine z_aload_n dX12_place_69 rfl rfl ?_
      refine z_dup dX12_place_70 rfl ?_
      refine z_getfE (k := 4) (v := σ 98 4) flRX12_259 rfl rfl ((zup_of (by decide)).trans ((zup_of (by decide)).trans ((zup_of (by decide)).trans (zup_of (by decide))))) dX12_place_71 ?_
      refine z_dup_x1 dX12_place_74 rfl rfl ?_
      refine z_iconst dX12_place_75 (by unfold zIn; decide) ?_
      have s2 : -2147483648 ≤ σ 98 4 + 1 ∧ σ 98 4 + 1 < (2147483648 : Int) := k2 h1 h2
      refine z_iaddN dX12_place_76 s2 ?_
      refine z_putI (k := 4) fpRX12_259 rfl rfl dX12_place_77 ?_
      exact z_ireti rfl dX12_place_80 (k3 h1 h2)
    · skip
      refine z_aload_n dX12_place_22 rfl rfl ?_
      refine z_bipush (x := (-7)) dX12_place_23 (by decide +kernel) (by unfold zIn; decide) ?_
      have s4 : -2147483648 ≤ -(-7) ∧ -(-7) < (2147483648 : Int) := k4 h1 h2
      have s5 : (0 : Int) ≤ -(-7) ∧ -(-7) < (8 : Int) := k5 h1 h2
      refine z_callv (as := [zi (-7)]) (st := []) mkX12_no lkRX12_267 rfl rfl rfl (by decide) (Nat.le_of_ble_eq_true rfl) rfl dX12_place_25 ?_
      refine SX12_no s4 s5 ?_
      show zR G MX12_place 28 [zr 98, zi a1] [zi (-7)] (zup σ 157 (-(-7)) (zW ((σ 157 (-(-7))) + 1))) Q
      exact z_ireti rfl dX12_place_28 (k6 h1 h2)
  · have h1 : ¬ ((0 ≤ a1 ∧ a1 < 4)) := zb0 z
    refine z_aload_n dX12_place_7 rfl rfl ?_
    refine z_iconst dX12_place_8 (by unfold zIn; decide) ?_
    have s7 : -2147483648 ≤ -(-1) ∧ -(-1) < (2147483648 : Int) := k7 h1
    have s8 : (0 : Int) ≤ -(-1) ∧ -(-1) < (8 : Int) := k8 h1
    refine z_callv (as := [zi (-1)]) (st := []) mkX12_no lkRX12_267 rfl rfl rfl (by decide) (Nat.le_of_ble_eq_true rfl) rfl dX12_place_9 ?_
    refine SX12_no s7 s8 ?_
    show zR G MX12_place 12 [zr 98, zi a1] [zi (-1)] (zup σ 157 (-(-1)) (zW ((σ 157 (-(-1))) + 1))) Q
    exact z_ireti rfl dX12_place_12 (k9 h1)
set_option maxRecDepth 20000 in
set_option maxHeartbeats 1000000 in
theorem TX12_grace {G : zG} {σ : zS} {Q : Int → zS → Prop} {a1 : Int}  (k1 : (0 ≤ a1) → (a1 ≤ 4000) → Q (σ 98 11) (zup σ 98 11 a1)) (k2 : (a1 < 0 ∨ (0 ≤ a1 ∧ 4000 < a1)) → -2147483648 ≤ -(-6) ∧ -(-6) < (2147483648 : Int)) (k3 : (a1 < 0 ∨ (0 ≤ a1 ∧ 4000 < a1)) → (0 : Int) ≤ -(-6) ∧ -(-6) < (8 : Int)) (k4 : (a1 < 0 ∨ (0 ≤ a1 ∧ 4000 < a1)) → Q (-6) (zup σ 157 (-(-6)) (zW ((σ 157 (-(-6))) + 1)))) : zO G MX12_grace [zr 98, zi a1] σ Q := by
  refine zO_of (ls0 := [zr 98, zi a1, zu]) (by decide) (Nat.le_of_ble_eq_true rfl) rfl ?_
  have J11 : (a1 < 0 ∨ (0 ≤ a1 ∧ 4000 < a1)) → zR G MX12_grace 11 [zr 98, zi a1, zu] [] σ Q := by
    intro h3
    refine z_aload_n dX12_grace_11 rfl rfl ?_
    refine z_bipush (x := (-6)) dX12_grace_12 (by decide +kernel) (by unfold zIn; decide) ?_
    have s2 : -2147483648 ≤ -(-6) ∧ -(-6) < (2147483648 : Int) := k2 h3
    have s3 : (0 : Int) ≤ -(-6) ∧ -(-6) < (8 : Int) := k3 h3
    refine z_callv (as := [zi (-6)]) (st := []) mkX12_no lkRX12_267 rfl rfl rfl (by decide) (Nat.le_of_ble_eq_true rfl) rfl dX12_grace_14 ?_
    refine SX12_no s2 s3 ?_
    show zR G MX12_grace 17 [zr 98, zi a1, zu] [zi (-6)] (zup σ 157 (-(-6)) (zW ((σ 157 (-(-6))) + 1))) Q
    exact z_ireti rfl dX12_grace_17 (k4 h3)
  refine z_iload_n dX12_grace_0 rfl rfl ?_
  refine z_if_lt dX12_grace_1 (tgt := 11) (by decide) (fun h1 => ?_) (fun h1 => ?_)
  · skip
    exact J11 (Or.inl h1)
  · skip
    refine z_iload_n dX12_grace_4 rfl rfl ?_
    refine z_sipush (x := 4000) dX12_grace_5 (by decide +kernel) (by unfold zIn; decide) ?_
    refine z_icmp_le dX12_grace_8 (tgt := 18) (by decide) (fun h2 => ?_) (fun h2 => ?_)
    · skip
      refine z_aload_n dX12_grace_18 rfl rfl ?_
      refine z_getfI (k := 11) flRX12_7 rfl rfl dX12_grace_19 ?_
      refine z_istore_n (ls' := [zr 98, zi a1, zi (σ 98 11)]) dX12_grace_22 rfl (by decide) rfl ?_
      refine z_aload_n dX12_grace_23 rfl rfl ?_
      refine z_iload_n dX12_grace_24 rfl rfl ?_
      refine z_putI (k := 11) fpRX12_7 rfl rfl dX12_grace_25 ?_
      refine z_iload_n dX12_grace_28 rfl rfl ?_
      exact z_ireti rfl dX12_grace_29 (k1 h1 h2)
    · skip
      exact J11 (Or.inr ⟨h1, h2⟩)
set_option maxRecDepth 20000 in
set_option maxHeartbeats 1000000 in
theorem TX12_placeHeld {G : zG} {σ : zS} {Q : Int → zS → Prop} {a1 a2 : Int}  (k1 : zR G MX12_placeHeld 2 [zr 98, zi a1, zi a2, zi 0] [] σ Q) : zO G MX12_placeHeld [zr 98, zi a1, zi a2] σ Q := by
  refine zO_of (ls0 := [zr 98, zi a1, zi a2, zu]) (by decide) (Nat.le_of_ble_eq_true rfl) rfl ?_
  refine z_iconst dX12_placeHeld_0 (by unfold zIn; decide) ?_
  refine z_istore_n (ls' := [zr 98, zi a1, zi a2, zi 0]) dX12_placeHeld_1 rfl (by decide) rfl ?_
  exact k1
set_option maxRecDepth 20000 in
set_option maxHeartbeats 1000000 in
theorem TX12_placeHeld_2 {G : zG} {σ : zS} {Q : Int → zS → Prop} {v1 v2 v3 : Int}  (k1 : (σ 98 4 ≤ v3) → Q (-1) σ) (k2 : (v3 < σ 98 4) → (0 : Int) ≤ v3 ∧ v3 < (12 : Int)) (k3 : (v3 < σ 98 4) → (σ 129 v3 = v2) → (σ 130 v3 = v1) → Q v3 σ) (k4 : (v3 < σ 98 4) → (σ 129 v3 ≠ v2 ∨ (σ 129 v3 = v2 ∧ σ 130 v3 ≠ v1)) → -2147483648 ≤ v3 + 1 ∧ v3 + 1 < (2147483648 : Int)) (k5 : (v3 < σ 98 4) → (σ 129 v3 ≠ v2 ∨ (σ 129 v3 = v2 ∧ σ 130 v3 ≠ v1)) → zR G MX12_placeHeld 2 [zr 98, zi v1, zi v2, zi (v3 + 1)] [] σ Q) : zR G MX12_placeHeld 2 [zr 98, zi v1, zi v2, zi v3] [] σ Q := by
  have J32 : (v3 < σ 98 4) → (σ 129 v3 ≠ v2 ∨ (σ 129 v3 = v2 ∧ σ 130 v3 ≠ v1)) → zR G MX12_placeHeld 32 [zr 98, zi v1, zi v2, zi v3] [] σ Q := by
    intro h1 h4
    have s4 : -2147483648 ≤ v3 + 1 ∧ v3 + 1 < (2147483648 : Int) := k4 h1 h4
    refine z_iincN (ls' := [zr 98, zi v1, zi v2, zi (v3 + 1)]) dX12_placeHeld_32 rfl (by decide) s4 rfl ?_
    refine z_goto dX12_placeHeld_35 (tgt := 2) (by decide) ?_
    exact k5 h1 h4
  refine z_iload_n dX12_placeHeld_2 rfl rfl ?_
  refine z_aload_n dX12_placeHeld_3 rfl rfl ?_
  refine z_getfI (k := 4) flRX12_259 rfl rfl dX12_placeHeld_4 ?_
  refine z_icmp_ge dX12_placeHeld_7 (tgt := 38) (by decide) (fun h1 => ?_) (fun h1 => ?_)
  · skip
    refine z_iconst dX12_placeHeld_38 (by unfold zIn; decide) ?_
    exact z_ireti rfl dX12_placeHeld_39 (k1 h1)
  · skip
    refine z_aload_n dX12_placeHeld_10 rfl rfl ?_
    refine z_getfR (k := 44) flRX12_106 rfl rfl dX12_placeHeld_11 ?_
    refine z_iload_n dX12_placeHeld_14 rfl rfl ?_
    have s2 : (0 : Int) ≤ v3 ∧ v3 < (12 : Int) := k2 h1
    refine z_iald rfl s2.1 s2.2 dX12_placeHeld_15 ?_
    refine z_iload_n dX12_placeHeld_16 rfl rfl ?_
    refine z_icmp_ne dX12_placeHeld_17 (tgt := 32) (by decide) (fun h2 => ?_) (fun h2 => ?_)
    · skip
      exact J32 h1 (Or.inl h2)
    · skip
      refine z_aload_n dX12_placeHeld_20 rfl rfl ?_
      refine z_getfR (k := 45) flRX12_109 rfl rfl dX12_placeHeld_21 ?_
      refine z_iload_n dX12_placeHeld_24 rfl rfl ?_
      refine z_iald rfl s2.1 s2.2 dX12_placeHeld_25 ?_
      refine z_iload_n dX12_placeHeld_26 rfl rfl ?_
      refine z_icmp_ne dX12_placeHeld_27 (tgt := 32) (by decide) (fun h3 => ?_) (fun h3 => ?_)
      · skip
        exact J32 h1 (Or.inr ⟨h2, h3⟩)
      · skip
        refine z_iload_n dX12_placeHeld_30 rfl rfl ?_
        exact z_ireti rfl dX12_placeHeld_31 (k3 h1 h2 h3)
set_option maxRecDepth 20000 in
set_option maxHeartbeats 1000000 in
theorem TX12_mayHold {G : zG} {σ : zS} {Q : Int → zS → Prop} {a1 a2 : Int}  (k1 : zO G MX12_mays [zr 98, zi a1, zi a2, zi (σ 98 0), zi (σ 98 0)] σ (fun rr σ' => zR G MX12_mayHold 14 [zr 98, zi a1, zi a2] [zi rr] σ' Q)) : zO G MX12_mayHold [zr 98, zi a1, zi a2] σ Q := by
  refine zO_of (ls0 := [zr 98, zi a1, zi a2]) (by decide) (Nat.le_of_ble_eq_true rfl) rfl ?_
  refine z_aload_n dX12_mayHold_0 rfl rfl ?_
  refine z_iload_n dX12_mayHold_1 rfl rfl ?_
  refine z_iload_n dX12_mayHold_2 rfl rfl ?_
  refine z_aload_n dX12_mayHold_3 rfl rfl ?_
  refine z_getfI (k := 0) flRX12_262 rfl rfl dX12_mayHold_4 ?_
  refine z_aload_n dX12_mayHold_7 rfl rfl ?_
  refine z_getfI (k := 0) flRX12_262 rfl rfl dX12_mayHold_8 ?_
  refine z_callv (as := [zi a1, zi a2, zi (σ 98 0), zi (σ 98 0)]) (st := []) mkX12_mays lkRX12_365 rfl rfl rfl (by decide) (Nat.le_of_ble_eq_true rfl) rfl dX12_mayHold_11 (k1)
set_option maxRecDepth 20000 in
set_option maxHeartbeats 1000000 in
theorem TX12_mayHold_14 {G : zG} {σ : zS} {Q : Int → zS → Prop} {v1 v2 r : Int}  (k1 : (r ≠ 1) → Q 0 σ) (k2 : (r = 1) → Q 1 σ) : zR G MX12_mayHold 14 [zr 98, zi v1, zi v2] [zi r] σ Q := by
  refine z_iconst dX12_mayHold_14 (by unfold zIn; decide) ?_
  refine z_icmp_ne dX12_mayHold_15 (tgt := 22) (by decide) (fun h1 => ?_) (fun h1 => ?_)
  · skip
    refine z_iconst dX12_mayHold_22 (by unfold zIn; decide) ?_
    exact z_iretz rfl (by decide) dX12_mayHold_23 (k1 h1)
  · skip
    refine z_iconst dX12_mayHold_18 (by unfold zIn; decide) ?_
    refine z_goto dX12_mayHold_19 (tgt := 23) (by decide) ?_
    exact z_iretz rfl (by decide) dX12_mayHold_23 (k2 h1)
set_option maxRecDepth 20000 in
set_option maxHeartbeats 1000000 in
theorem TX12_ends {G : zG} {σ : zS} {Q : Int → zS → Prop} {a1 a2 : Int}  (k1 : (a2 ≠ 0) → (0 : Int) ≤ a1 ∧ a1 < (12 : Int)) (k2 : (a2 ≠ 0) → Q 0 (zup (zup (zup σ 130 a1 (-1)) 131 a1 (-1)) 132 a1 (-1))) (k3 : (a2 = 0) → Q 0 σ) : zO G MX12_ends [zr 98, zi a1, zi a2] σ Q := by
  refine zO_of (ls0 := [zr 98, zi a1, zi a2]) (by decide) (Nat.le_of_ble_eq_true rfl) rfl ?_
  refine z_iload_n dX12_ends_0 rfl rfl ?_
  refine z_if_ne dX12_ends_1 (tgt := 5) (by decide) (fun h1 => ?_) (fun h1 => ?_)
  · skip
    refine z_aload_n dX12_ends_5 rfl rfl ?_
    refine z_getfR (k := 45) flRX12_109 rfl rfl dX12_ends_6 ?_
    refine z_iload_n dX12_ends_9 rfl rfl ?_
    refine z_iconst dX12_ends_10 (by unfold zIn; decide) ?_
    have s1 : (0 : Int) ≤ a1 ∧ a1 < (12 : Int) := k1 h1
    refine z_iast rfl s1.1 s1.2 dX12_ends_11 ?_
    refine z_aload_n dX12_ends_12 rfl rfl ?_
    refine z_getfR (k := 46) flRX12_112 rfl rfl dX12_ends_13 ?_
    refine z_iload_n dX12_ends_16 rfl rfl ?_
    refine z_iconst dX12_ends_17 (by unfold zIn; decide) ?_
    refine z_iast rfl s1.1 s1.2 dX12_ends_18 ?_
    refine z_aload_n dX12_ends_19 rfl rfl ?_
    refine z_getfR (k := 47) flRX12_115 rfl rfl dX12_ends_20 ?_
    refine z_iload_n dX12_ends_23 rfl rfl ?_
    refine z_iconst dX12_ends_24 (by unfold zIn; decide) ?_
    refine z_iast rfl s1.1 s1.2 dX12_ends_25 ?_
    exact z_vret rfl dX12_ends_26 (k2 h1)
  · skip
    exact z_vret rfl dX12_ends_4 (k3 h1)
set_option maxRecDepth 20000 in
set_option maxHeartbeats 1000000 in
theorem TX12_hold {G : zG} {σ : zS} {Q : Int → zS → Prop} {a1 a2 : Int}  (k1 : ((0 ≤ a1 ∧ a1 < σ 98 1)) → ((0 ≤ a2 ∧ a2 < σ 98 4)) → (0 : Int) ≤ a2 ∧ a2 < (12 : Int)) (k2 : ((0 ≤ a1 ∧ a1 < σ 98 1)) → ((0 ≤ a2 ∧ a2 < σ 98 4)) → (σ 130 a2 = (-1)) → zO G MX12_mayHold [zr 98, zi a1, zi (σ 129 a2)] σ (fun rr σ' => zR G MX12_hold 43 [zr 98, zi a1, zi a2] [zi rr] σ' Q)) (k3 : ((¬ ((0 ≤ a1 ∧ a1 < σ 98 1))) ∨ (((0 ≤ a1 ∧ a1 < σ 98 1)) ∧ (¬ ((0 ≤ a2 ∧ a2 < σ 98 4))))) → -2147483648 ≤ -(-1) ∧ -(-1) < (2147483648 : Int)) (k4 : ((¬ ((0 ≤ a1 ∧ a1 < σ 98 1))) ∨ (((0 ≤ a1 ∧ a1 < σ 98 1)) ∧ (¬ ((0 ≤ a2 ∧ a2 < σ 98 4))))) → (0 : Int) ≤ -(-1) ∧ -(-1) < (8 : Int)) (k5 : ((¬ ((0 ≤ a1 ∧ a1 < σ 98 1))) ∨ (((0 ≤ a1 ∧ a1 < σ 98 1)) ∧ (¬ ((0 ≤ a2 ∧ a2 < σ 98 4))))) → Q (-1) (zup σ 157 (-(-1)) (zW ((σ 157 (-(-1))) + 1)))) (k6 : ((0 ≤ a1 ∧ a1 < σ 98 1)) → ((0 ≤ a2 ∧ a2 < σ 98 4)) → (σ 130 a2 ≠ (-1)) → -2147483648 ≤ -(-6) ∧ -(-6) < (2147483648 : Int)) (k7 : ((0 ≤ a1 ∧ a1 < σ 98 1)) → ((0 ≤ a2 ∧ a2 < σ 98 4)) → (σ 130 a2 ≠ (-1)) → (0 : Int) ≤ -(-6) ∧ -(-6) < (8 : Int)) (k8 : ((0 ≤ a1 ∧ a1 < σ 98 1)) → ((0 ≤ a2 ∧ a2 < σ 98 4)) → (σ 130 a2 ≠ (-1)) → Q (-6) (zup σ 157 (-(-6)) (zW ((σ 157 (-(-6))) + 1)))) : zO G MX12_hold [zr 98, zi a1, zi a2] σ Q := by
  refine zO_of (ls0 := [zr 98, zi a1, zi a2]) (by decide) (Nat.le_of_ble_eq_true rfl) rfl ?_
  have J61 : ((0 ≤ a1 ∧ a1 < σ 98 1)) → ((0 ≤ a2 ∧ a2 < σ 98 4)) → (σ 130 a2 ≠ (-1)) → zR G MX12_hold 61 [zr 98, zi a1, zi a2] [] σ Q := by
    intro h1 h2 h3
    refine z_aload_n dX12_hold_61 rfl rfl ?_
    refine z_bipush (x := (-6)) dX12_hold_62 (by decide +kernel) (by unfold zIn; decide) ?_
    have s6 : -2147483648 ≤ -(-6) ∧ -(-6) < (2147483648 : Int) := k6 h1 h2 h3
    have s7 : (0 : Int) ≤ -(-6) ∧ -(-6) < (8 : Int) := k7 h1 h2 h3
    refine z_callv (as := [zi (-6)]) (st := []) mkX12_no lkRX12_267 rfl rfl rfl (by decide) (Nat.le_of_ble_eq_true rfl) rfl dX12_hold_64 ?_
    refine SX12_no s6 s7 ?_
    show zR G MX12_hold 67 [zr 98, zi a1, zi a2] [zi (-6)] (zup σ 157 (-(-6)) (zW ((σ 157 (-(-6))) + 1))) Q
    exact z_ireti rfl dX12_hold_67 (k8 h1 h2 h3)
  have J16 : ((¬ ((0 ≤ a1 ∧ a1 < σ 98 1))) ∨ (((0 ≤ a1 ∧ a1 < σ 98 1)) ∧ (¬ ((0 ≤ a2 ∧ a2 < σ 98 4))))) → zR G MX12_hold 16 [zr 98, zi a1, zi a2] [] σ Q := by
    intro h4
    refine z_aload_n dX12_hold_16 rfl rfl ?_
    refine z_iconst dX12_hold_17 (by unfold zIn; decide) ?_
    have s3 : -2147483648 ≤ -(-1) ∧ -(-1) < (2147483648 : Int) := k3 h4
    have s4 : (0 : Int) ≤ -(-1) ∧ -(-1) < (8 : Int) := k4 h4
    refine z_callv (as := [zi (-1)]) (st := []) mkX12_no lkRX12_267 rfl rfl rfl (by decide) (Nat.le_of_ble_eq_true rfl) rfl dX12_hold_18 ?_
    refine SX12_no s3 s4 ?_
    show zR G MX12_hold 21 [zr 98, zi a1, zi a2] [zi (-1)] (zup σ 157 (-(-1)) (zW ((σ 157 (-(-1))) + 1))) Q
    exact z_ireti rfl dX12_hold_21 (k5 h4)
  refine z_aload_n dX12_hold_0 rfl rfl ?_
  refine z_iload_n dX12_hold_1 rfl rfl ?_
  refine z_callv (as := [zi a1]) (st := []) mkX12_isOne lkRX12_271 rfl rfl rfl (by decide) (Nat.le_of_ble_eq_true rfl) rfl dX12_hold_2 ?_
  refine SX12_isOne ?_
  show zR G MX12_hold 5 [zr 98, zi a1, zi a2] [zi (if (0 ≤ a1 ∧ a1 < σ 98 1) then (1 : Int) else 0)] σ Q
  refine z_if_eq dX12_hold_5 (tgt := 16) (by decide) (fun z => ?_) (fun z => ?_)
  · have h1 : ¬ ((0 ≤ a1 ∧ a1 < σ 98 1)) := zb0 z
    exact J16 (Or.inl h1)
  · have h1 : (0 ≤ a1 ∧ a1 < σ 98 1) := zb1 z
    refine z_aload_n dX12_hold_8 rfl rfl ?_
    refine z_iload_n dX12_hold_9 rfl rfl ?_
    refine z_callv (as := [zi a2]) (st := []) mkX12_isPlace lkRX12_368 rfl rfl rfl (by decide) (Nat.le_of_ble_eq_true rfl) rfl dX12_hold_10 ?_
    refine SX12_isPlace ?_
    show zR G MX12_hold 13 [zr 98, zi a1, zi a2] [zi (if (0 ≤ a2 ∧ a2 < σ 98 4) then (1 : Int) else 0)] σ Q
    refine z_if_ne dX12_hold_13 (tgt := 22) (by decide) (fun z => ?_) (fun z => ?_)
    · have h2 : (0 ≤ a2 ∧ a2 < σ 98 4) := zb1 z
      refine z_aload_n dX12_hold_22 rfl rfl ?_
      refine z_getfR (k := 45) flRX12_109 rfl rfl dX12_hold_23 ?_
      refine z_iload_n dX12_hold_26 rfl rfl ?_
      have s1 : (0 : Int) ≤ a2 ∧ a2 < (12 : Int) := k1 h1 h2
      refine z_iald rfl s1.1 s1.2 dX12_hold_27 ?_
      refine z_iconst dX12_hold_28 (by unfold zIn; decide) ?_
      refine z_icmp_ne dX12_hold_29 (tgt := 61) (by decide) (fun h3 => ?_) (fun h3 => ?_)
      · skip
        exact J61 h1 h2 h3
      · skip
        refine z_aload_n dX12_hold_32 rfl rfl ?_
        refine z_iload_n dX12_hold_33 rfl rfl ?_
        refine z_aload_n dX12_hold_34 rfl rfl ?_
        refine z_getfR (k := 44) flRX12_106 rfl rfl dX12_hold_35 ?_
        refine z_iload_n dX12_hold_38 rfl rfl ?_
        refine z_iald rfl s1.1 s1.2 dX12_hold_39 ?_
        refine z_callv (as := [zi a1, zi (σ 129 a2)]) (st := []) mkX12_mayHold lkRX12_371 rfl rfl rfl (by decide) (Nat.le_of_ble_eq_true rfl) rfl dX12_hold_40 (k2 h1 h2 h3)
    · have h2 : ¬ ((0 ≤ a2 ∧ a2 < σ 98 4)) := zb0 z
      exact J16 (Or.inr ⟨h1, h2⟩)
set_option maxRecDepth 20000 in
set_option maxHeartbeats 1000000 in
theorem TX12_hold_43 {G : zG} {σ : zS} {Q : Int → zS → Prop} {v1 v2 r : Int}  (k1 : (r ≠ 0) → (0 : Int) ≤ v2 ∧ v2 < (12 : Int)) (k2 : (r ≠ 0) → zO G MX12_placeHeld [zr 98, zi v1, zi (σ 129 v2)] σ (fun rr σ' => zR G MX12_hold 57 [zr 98, zi v1, zi v2] [zi rr] σ' Q)) (k3 : (r = 0) → -2147483648 ≤ -(-6) ∧ -(-6) < (2147483648 : Int)) (k4 : (r = 0) → (0 : Int) ≤ -(-6) ∧ -(-6) < (8 : Int)) (k5 : (r = 0) → Q (-6) (zup σ 157 (-(-6)) (zW ((σ 157 (-(-6))) + 1)))) : zR G MX12_hold 43 [zr 98, zi v1, zi v2] [zi r] σ Q := by
  have J61 : (r = 0) → zR G MX12_hold 61 [zr 98, zi v1, zi v2] [] σ Q := by
    intro h1
    refine z_aload_n dX12_hold_61 rfl rfl ?_
    refine z_bipush (x := (-6)) dX12_hold_62 (by decide +kernel) (by unfold zIn; decide) ?_
    have s3 : -2147483648 ≤ -(-6) ∧ -(-6) < (2147483648 : Int) := k3 h1
    have s4 : (0 : Int) ≤ -(-6) ∧ -(-6) < (8 : Int) := k4 h1
    refine z_callv (as := [zi (-6)]) (st := []) mkX12_no lkRX12_267 rfl rfl rfl (by decide) (Nat.le_of_ble_eq_true rfl) rfl dX12_hold_64 ?_
    refine SX12_no s3 s4 ?_
    show zR G MX12_hold 67 [zr 98, zi v1, zi v2] [zi (-6)] (zup σ 157 (-(-6)) (zW ((σ 157 (-(-6))) + 1))) Q
    exact z_ireti rfl dX12_hold_67 (k5 h1)
  refine z_if_eq dX12_hold_43 (tgt := 61) (by decide) (fun h1 => ?_) (fun h1 => ?_)
  · skip
    exact J61 h1
  · skip
    refine z_aload_n dX12_hold_46 rfl rfl ?_
    refine z_iload_n dX12_hold_47 rfl rfl ?_
    refine z_aload_n dX12_hold_48 rfl rfl ?_
    refine z_getfR (k := 44) flRX12_106 rfl rfl dX12_hold_49 ?_
    refine z_iload_n dX12_hold_52 rfl rfl ?_
    have s1 : (0 : Int) ≤ v2 ∧ v2 < (12 : Int) := k1 h1
    refine z_iald rfl s1.1 s1.2 dX12_hold_53 ?_
    refine z_callv (as := [zi v1, zi (σ 129 v2)]) (st := []) mkX12_placeHeld lkRX12_375 rfl rfl rfl (by decide) (Nat.le_of_ble_eq_true rfl) rfl dX12_hold_54 (k2 h1)
set_option maxRecDepth 20000 in
set_option maxHeartbeats 1000000 in
theorem TX12_hold_57 {G : zG} {σ : zS} {Q : Int → zS → Prop} {v1 v2 r : Int}  (k1 : (r = (-1)) → (0 : Int) ≤ v2 ∧ v2 < (12 : Int)) (k2 : (r = (-1)) → Q 1 (zup (zup (zup (zup σ 130 v2 v1) 131 v2 (σ 98 0)) 132 v2 (-1)) 133 v2 0)) (k3 : (r ≠ (-1)) → -2147483648 ≤ -(-6) ∧ -(-6) < (2147483648 : Int)) (k4 : (r ≠ (-1)) → (0 : Int) ≤ -(-6) ∧ -(-6) < (8 : Int)) (k5 : (r ≠ (-1)) → Q (-6) (zup σ 157 (-(-6)) (zW ((σ 157 (-(-6))) + 1)))) : zR G MX12_hold 57 [zr 98, zi v1, zi v2] [zi r] σ Q := by
  have J61 : (r ≠ (-1)) → zR G MX12_hold 61 [zr 98, zi v1, zi v2] [] σ Q := by
    intro h1
    refine z_aload_n dX12_hold_61 rfl rfl ?_
    refine z_bipush (x := (-6)) dX12_hold_62 (by decide +kernel) (by unfold zIn; decide) ?_
    have s3 : -2147483648 ≤ -(-6) ∧ -(-6) < (2147483648 : Int) := k3 h1
    have s4 : (0 : Int) ≤ -(-6) ∧ -(-6) < (8 : Int) := k4 h1
    refine z_callv (as := [zi (-6)]) (st := []) mkX12_no lkRX12_267 rfl rfl rfl (by decide) (Nat.le_of_ble_eq_true rfl) rfl dX12_hold_64 ?_
    refine SX12_no s3 s4 ?_
    show zR G MX12_hold 67 [zr 98, zi v1, zi v2] [zi (-6)] (zup σ 157 (-(-6)) (zW ((σ 157 (-(-6))) + 1))) Q
    exact z_ireti rfl dX12_hold_67 (k5 h1)
  refine z_iconst dX12_hold_57 (by unfold zIn; decide) ?_
  refine z_icmp_eq dX12_hold_58 (tgt := 68) (by decide) (fun h1 => ?_) (fun h1 => ?_)
  · skip
    refine z_aload_n dX12_hold_68 rfl rfl ?_
    refine z_iload_n dX12_hold_69 rfl rfl ?_
    refine z_iload_n dX12_hold_70 rfl rfl ?_
    have s1 : (0 : Int) ≤ v2 ∧ v2 < (12 : Int) := k1 h1
    refine z_callv (as := [zi v1, zi v2]) (st := []) mkX12_comes lkRX12_378 rfl rfl rfl (by decide) (Nat.le_of_ble_eq_true rfl) rfl dX12_hold_71 ?_
    refine SX12_comes s1 ?_
    show zR G MX12_hold 74 [zr 98, zi v1, zi v2] [] (zup (zup (zup (zup σ 130 v2 v1) 131 v2 (σ 98 0)) 132 v2 (-1)) 133 v2 0) Q
    refine z_iconst dX12_hold_74 (by unfold zIn; decide) ?_
    exact z_ireti rfl dX12_hold_75 (k2 h1)
  · skip
    exact J61 h1
set_option maxRecDepth 20000 in
set_option maxHeartbeats 1000000 in
theorem TX12_leave {G : zG} {σ : zS} {Q : Int → zS → Prop} {a1 : Int}  (k1 : ((0 ≤ a1 ∧ a1 < σ 98 4)) → (0 : Int) ≤ a1 ∧ a1 < (12 : Int)) (k2 : ((0 ≤ a1 ∧ a1 < σ 98 4)) → (σ 130 a1 ≠ (-1)) → zO G MX12_ends [zr 98, zi a1, zi 1] σ (fun rr σ' => zR G MX12_leave 44 [zr 98, zi a1, zi (σ 130 a1)] [] σ' Q)) (k3 : ((0 ≤ a1 ∧ a1 < σ 98 4)) → (σ 130 a1 = (-1)) → -2147483648 ≤ -(-6) ∧ -(-6) < (2147483648 : Int)) (k4 : ((0 ≤ a1 ∧ a1 < σ 98 4)) → (σ 130 a1 = (-1)) → (0 : Int) ≤ -(-6) ∧ -(-6) < (8 : Int)) (k5 : ((0 ≤ a1 ∧ a1 < σ 98 4)) → (σ 130 a1 = (-1)) → Q (-6) (zup σ 157 (-(-6)) (zW ((σ 157 (-(-6))) + 1)))) (k6 : (¬ ((0 ≤ a1 ∧ a1 < σ 98 4))) → -2147483648 ≤ -(-1) ∧ -(-1) < (2147483648 : Int)) (k7 : (¬ ((0 ≤ a1 ∧ a1 < σ 98 4))) → (0 : Int) ≤ -(-1) ∧ -(-1) < (8 : Int)) (k8 : (¬ ((0 ≤ a1 ∧ a1 < σ 98 4))) → Q (-1) (zup σ 157 (-(-1)) (zW ((σ 157 (-(-1))) + 1)))) : zO G MX12_leave [zr 98, zi a1] σ Q := by
  refine zO_of (ls0 := [zr 98, zi a1, zu]) (by decide) (Nat.le_of_ble_eq_true rfl) rfl ?_
  refine z_aload_n dX12_leave_0 rfl rfl ?_
  refine z_iload_n dX12_leave_1 rfl rfl ?_
  refine z_callv (as := [zi a1]) (st := []) mkX12_isPlace lkRX12_368 rfl rfl rfl (by decide) (Nat.le_of_ble_eq_true rfl) rfl dX12_leave_2 ?_
  refine SX12_isPlace ?_
  show zR G MX12_leave 5 [zr 98, zi a1, zu] [zi (if (0 ≤ a1 ∧ a1 < σ 98 4) then (1 : Int) else 0)] σ Q
  refine z_if_ne dX12_leave_5 (tgt := 14) (by decide) (fun z => ?_) (fun z => ?_)
  · have h1 : (0 ≤ a1 ∧ a1 < σ 98 4) := zb1 z
    refine z_aload_n dX12_leave_14 rfl rfl ?_
    refine z_getfR (k := 45) flRX12_109 rfl rfl dX12_leave_15 ?_
    refine z_iload_n dX12_leave_18 rfl rfl ?_
    have s1 : (0 : Int) ≤ a1 ∧ a1 < (12 : Int) := k1 h1
    refine z_iald rfl s1.1 s1.2 dX12_leave_19 ?_
    refine z_iconst dX12_leave_20 (by unfold zIn; decide) ?_
    refine z_icmp_ne dX12_leave_21 (tgt := 31) (by decide) (fun h2 => ?_) (fun h2 => ?_)
    · skip
      refine z_aload_n dX12_leave_31 rfl rfl ?_
      refine z_getfR (k := 45) flRX12_109 rfl rfl dX12_leave_32 ?_
      refine z_iload_n dX12_leave_35 rfl rfl ?_
      refine z_iald rfl s1.1 s1.2 dX12_leave_36 ?_
      refine z_istore_n (ls' := [zr 98, zi a1, zi (σ 130 a1)]) dX12_leave_37 rfl (by decide) rfl ?_
      refine z_aload_n dX12_leave_38 rfl rfl ?_
      refine z_iload_n dX12_leave_39 rfl rfl ?_
      refine z_iconst dX12_leave_40 (by unfold zIn; decide) ?_
      refine z_callv (as := [zi a1, zi 1]) (st := []) mkX12_ends lkRX12_382 rfl rfl rfl (by decide) (Nat.le_of_ble_eq_true rfl) rfl dX12_leave_41 (k2 h1 h2)
    · skip
      refine z_aload_n dX12_leave_24 rfl rfl ?_
      refine z_bipush (x := (-6)) dX12_leave_25 (by decide +kernel) (by unfold zIn; decide) ?_
      have s3 : -2147483648 ≤ -(-6) ∧ -(-6) < (2147483648 : Int) := k3 h1 h2
      have s4 : (0 : Int) ≤ -(-6) ∧ -(-6) < (8 : Int) := k4 h1 h2
      refine z_callv (as := [zi (-6)]) (st := []) mkX12_no lkRX12_267 rfl rfl rfl (by decide) (Nat.le_of_ble_eq_true rfl) rfl dX12_leave_27 ?_
      refine SX12_no s3 s4 ?_
      show zR G MX12_leave 30 [zr 98, zi a1, zu] [zi (-6)] (zup σ 157 (-(-6)) (zW ((σ 157 (-(-6))) + 1))) Q
      exact z_ireti rfl dX12_leave_30 (k5 h1 h2)
  · have h1 : ¬ ((0 ≤ a1 ∧ a1 < σ 98 4)) := zb0 z
    refine z_aload_n dX12_leave_8 rfl rfl ?_
    refine z_iconst dX12_leave_9 (by unfold zIn; decide) ?_
    have s6 : -2147483648 ≤ -(-1) ∧ -(-1) < (2147483648 : Int) := k6 h1
    have s7 : (0 : Int) ≤ -(-1) ∧ -(-1) < (8 : Int) := k7 h1
    refine z_callv (as := [zi (-1)]) (st := []) mkX12_no lkRX12_267 rfl rfl rfl (by decide) (Nat.le_of_ble_eq_true rfl) rfl dX12_leave_10 ?_
    refine SX12_no s6 s7 ?_
    show zR G MX12_leave 13 [zr 98, zi a1, zu] [zi (-1)] (zup σ 157 (-(-1)) (zW ((σ 157 (-(-1))) + 1))) Q
    exact z_ireti rfl dX12_leave_13 (k8 h1)
set_option maxRecDepth 20000 in
set_option maxHeartbeats 1000000 in
theorem TX12_leave_44 {G : zG} {σ : zS} {Q : Int → zS → Prop} {v1 v2 : Int}  (k1 : Q v2 σ) : zR G MX12_leave 44 [zr 98, zi v1, zi v2] [] σ Q := by
  refine z_iload_n dX12_leave_44 rfl rfl ?_
  exact z_ireti rfl dX12_leave_45 (k1)
set_option maxRecDepth 20000 in
set_option maxHeartbeats 1000000 in
theorem TX12_about {G : zG} {σ : zS} {Q : Int → zS → Prop} {a1 a2 : Int}  (k1 : ((0 ≤ a1 ∧ a1 < σ 98 4)) → (0 ≤ a2) → (a2 ≤ 3) → (a2 ≠ 0) → (a2 ≠ 1) → (a2 ≠ 2) → (0 : Int) ≤ a1 ∧ a1 < (12 : Int)) (k2 : ((0 ≤ a1 ∧ a1 < σ 98 4)) → (0 ≤ a2) → (a2 ≤ 3) → (a2 ≠ 0) → (a2 ≠ 1) → (a2 ≠ 2) → Q (σ 132 a1) σ) (k3 : ((0 ≤ a1 ∧ a1 < σ 98 4)) → (0 ≤ a2) → (a2 ≤ 3) → (a2 ≠ 0) → (a2 ≠ 1) → (a2 = 2) → (0 : Int) ≤ a1 ∧ a1 < (12 : Int)) (k4 : ((0 ≤ a1 ∧ a1 < σ 98 4)) → (0 ≤ a2) → (a2 ≤ 3) → (a2 ≠ 0) → (a2 ≠ 1) → (a2 = 2) → Q (σ 131 a1) σ) (k5 : ((0 ≤ a1 ∧ a1 < σ 98 4)) → (0 ≤ a2) → (a2 ≤ 3) → (a2 ≠ 0) → (a2 = 1) → (0 : Int) ≤ a1 ∧ a1 < (12 : Int)) (k6 : ((0 ≤ a1 ∧ a1 < σ 98 4)) → (0 ≤ a2) → (a2 ≤ 3) → (a2 ≠ 0) → (a2 = 1) → Q (σ 130 a1) σ) (k7 : ((0 ≤ a1 ∧ a1 < σ 98 4)) → (0 ≤ a2) → (a2 ≤ 3) → (a2 = 0) → (0 : Int) ≤ a1 ∧ a1 < (12 : Int)) (k8 : ((0 ≤ a1 ∧ a1 < σ 98 4)) → (0 ≤ a2) → (a2 ≤ 3) → (a2 = 0) → Q (σ 129 a1) σ) (k9 : ((¬ ((0 ≤ a1 ∧ a1 < σ 98 4))) ∨ (((0 ≤ a1 ∧ a1 < σ 98 4)) ∧ a2 < 0) ∨ (((0 ≤ a1 ∧ a1 < σ 98 4)) ∧ 0 ≤ a2 ∧ 3 < a2)) → Q (-1) σ) : zO G MX12_about [zr 98, zi a1, zi a2] σ Q := by
  refine zO_of (ls0 := [zr 98, zi a1, zi a2]) (by decide) (Nat.le_of_ble_eq_true rfl) rfl ?_
  have J17 : ((¬ ((0 ≤ a1 ∧ a1 < σ 98 4))) ∨ (((0 ≤ a1 ∧ a1 < σ 98 4)) ∧ a2 < 0) ∨ (((0 ≤ a1 ∧ a1 < σ 98 4)) ∧ 0 ≤ a2 ∧ 3 < a2)) → zR G MX12_about 17 [zr 98, zi a1, zi a2] [] σ Q := by
    intro h7
    refine z_iconst dX12_about_17 (by unfold zIn; decide) ?_
    exact z_ireti rfl dX12_about_18 (k9 h7)
  refine z_aload_n dX12_about_0 rfl rfl ?_
  refine z_iload_n dX12_about_1 rfl rfl ?_
  refine z_callv (as := [zi a1]) (st := []) mkX12_isPlace lkRX12_368 rfl rfl rfl (by decide) (Nat.le_of_ble_eq_true rfl) rfl dX12_about_2 ?_
  refine SX12_isPlace ?_
  show zR G MX12_about 5 [zr 98, zi a1, zi a2] [zi (if (0 ≤ a1 ∧ a1 < σ 98 4) then (1 : Int) else 0)] σ Q
  refine z_if_eq dX12_about_5 (tgt := 17) (by decide) (fun z => ?_) (fun z => ?_)
  · have h1 : ¬ ((0 ≤ a1 ∧ a1 < σ 98 4)) := zb0 z
    exact J17 (Or.inl h1)
  · have h1 : (0 ≤ a1 ∧ a1 < σ 98 4) := zb1 z
    refine z_iload_n dX12_about_8 rfl rfl ?_
    refine z_if_lt dX12_about_9 (tgt := 17) (by decide) (fun h2 => ?_) (fun h2 => ?_)
    · skip
      exact J17 (Or.inr (Or.inl ⟨h1, h2⟩))
    · skip
      refine z_iload_n dX12_about_12 rfl rfl ?_
      refine z_iconst dX12_about_13 (by unfold zIn; decide) ?_
      refine z_icmp_le dX12_about_14 (tgt := 19) (by decide) (fun h3 => ?_) (fun h3 => ?_)
      · skip
        refine z_iload_n dX12_about_19 rfl rfl ?_
        refine z_if_ne dX12_about_20 (tgt := 32) (by decide) (fun h4 => ?_) (fun h4 => ?_)
        · skip
          refine z_iload_n dX12_about_32 rfl rfl ?_
          refine z_iconst dX12_about_33 (by unfold zIn; decide) ?_
          refine z_icmp_ne dX12_about_34 (tgt := 46) (by decide) (fun h5 => ?_) (fun h5 => ?_)
          · skip
            refine z_iload_n dX12_about_46 rfl rfl ?_
            refine z_iconst dX12_about_47 (by unfold zIn; decide) ?_
            refine z_icmp_ne dX12_about_48 (tgt := 60) (by decide) (fun h6 => ?_) (fun h6 => ?_)
            · skip
              refine z_aload_n dX12_about_60 rfl rfl ?_
              refine z_getfR (k := 47) flRX12_115 rfl rfl dX12_about_61 ?_
              refine z_iload_n dX12_about_64 rfl rfl ?_
              have s1 : (0 : Int) ≤ a1 ∧ a1 < (12 : Int) := k1 h1 h2 h3 h4 h5 h6
              refine z_iald rfl s1.1 s1.2 dX12_about_65 ?_
              exact z_ireti rfl dX12_about_66 (k2 h1 h2 h3 h4 h5 h6)
            · skip
              refine z_aload_n dX12_about_51 rfl rfl ?_
              refine z_getfR (k := 46) flRX12_112 rfl rfl dX12_about_52 ?_
              refine z_iload_n dX12_about_55 rfl rfl ?_
              have s3 : (0 : Int) ≤ a1 ∧ a1 < (12 : Int) := k3 h1 h2 h3 h4 h5 h6
              refine z_iald rfl s3.1 s3.2 dX12_about_56 ?_
              refine z_goto dX12_about_57 (tgt := 66) (by decide) ?_
              exact z_ireti rfl dX12_about_66 (k4 h1 h2 h3 h4 h5 h6)
          · skip
            refine z_aload_n dX12_about_37 rfl rfl ?_
            refine z_getfR (k := 45) flRX12_109 rfl rfl dX12_about_38 ?_
            refine z_iload_n dX12_about_41 rfl rfl ?_
            have s5 : (0 : Int) ≤ a1 ∧ a1 < (12 : Int) := k5 h1 h2 h3 h4 h5
            refine z_iald rfl s5.1 s5.2 dX12_about_42 ?_
            refine z_goto dX12_about_43 (tgt := 66) (by decide) ?_
            exact z_ireti rfl dX12_about_66 (k6 h1 h2 h3 h4 h5)
        · skip
          refine z_aload_n dX12_about_23 rfl rfl ?_
          refine z_getfR (k := 44) flRX12_106 rfl rfl dX12_about_24 ?_
          refine z_iload_n dX12_about_27 rfl rfl ?_
          have s7 : (0 : Int) ≤ a1 ∧ a1 < (12 : Int) := k7 h1 h2 h3 h4
          refine z_iald rfl s7.1 s7.2 dX12_about_28 ?_
          refine z_goto dX12_about_29 (tgt := 66) (by decide) ?_
          exact z_ireti rfl dX12_about_66 (k8 h1 h2 h3 h4)
      · skip
        exact J17 (Or.inr (Or.inr ⟨h1, h2, h3⟩))
set_option maxRecDepth 20000 in
set_option maxHeartbeats 1000000 in
theorem TX12_days {G : zG} {σ : zS} {Q : Int → zS → Prop} {a1 : Int}  (k1 : (1 ≤ a1) → (a1 ≤ 4000) → -2147483648 ≤ σ 98 0 + a1 ∧ σ 98 0 + a1 < (2147483648 : Int)) (k2 : (1 ≤ a1) → (a1 ≤ 4000) → (σ 98 0 + a1 ≤ 40000) → zR G MX12_days 45 [zr 98, zi a1, zi 0, zi 0, zu] [] (zup σ 98 0 (σ 98 0 + a1)) Q) (k3 : (a1 < 1 ∨ (1 ≤ a1 ∧ 4000 < a1) ∨ (1 ≤ a1 ∧ a1 ≤ 4000 ∧ 40000 < σ 98 0 + a1)) → -2147483648 ≤ -(-6) ∧ -(-6) < (2147483648 : Int)) (k4 : (a1 < 1 ∨ (1 ≤ a1 ∧ 4000 < a1) ∨ (1 ≤ a1 ∧ a1 ≤ 4000 ∧ 40000 < σ 98 0 + a1)) → (0 : Int) ≤ -(-6) ∧ -(-6) < (8 : Int)) (k5 : (a1 < 1 ∨ (1 ≤ a1 ∧ 4000 < a1) ∨ (1 ≤ a1 ∧ a1 ≤ 4000 ∧ 40000 < σ 98 0 + a1)) → Q (-6) (zup σ 157 (-(-6)) (zW ((σ 157 (-(-6))) + 1)))) : zO G MX12_days [zr 98, zi a1] σ Q := by
  refine zO_of (ls0 := [zr 98, zi a1, zu, zu, zu]) (by decide) (Nat.le_of_ble_eq_true rfl) rfl ?_
  have J24 : (a1 < 1 ∨ (1 ≤ a1 ∧ 4000 < a1) ∨ (1 ≤ a1 ∧ a1 ≤ 4000 ∧ 40000 < σ 98 0 + a1)) → zR G MX12_days 24 [zr 98, zi a1, zu, zu, zu] [] σ Q := by
    intro h4
    refine z_aload_n dX12_days_24 rfl rfl ?_
    refine z_bipush (x := (-6)) dX12_days_25 (by decide +kernel) (by unfold zIn; decide) ?_
    have s3 : -2147483648 ≤ -(-6) ∧ -(-6) < (2147483648 : Int) := k3 h4
    have s4 : (0 : Int) ≤ -(-6) ∧ -(-6) < (8 : Int) := k4 h4
    refine z_callv (as := [zi (-6)]) (st := []) mkX12_no lkRX12_267 rfl rfl rfl (by decide) (Nat.le_of_ble_eq_true rfl) rfl dX12_days_27 ?_
    refine SX12_no s3 s4 ?_
    show zR G MX12_days 30 [zr 98, zi a1, zu, zu, zu] [zi (-6)] (zup σ 157 (-(-6)) (zW ((σ 157 (-(-6))) + 1))) Q
    exact z_ireti rfl dX12_days_30 (k5 h4)
  refine z_iload_n dX12_days_0 rfl rfl ?_
  refine z_iconst dX12_days_1 (by unfold zIn; decide) ?_
  refine z_icmp_lt dX12_days_2 (tgt := 24) (by decide) (fun h1 => ?_) (fun h1 => ?_)
  · skip
    exact J24 (Or.inl h1)
  · skip
    refine z_iload_n dX12_days_5 rfl rfl ?_
    refine z_sipush (x := 4000) dX12_days_6 (by decide +kernel) (by unfold zIn; decide) ?_
    refine z_icmp_gt dX12_days_9 (tgt := 24) (by decide) (fun h2 => ?_) (fun h2 => ?_)
    · skip
      exact J24 (Or.inr (Or.inl ⟨h1, h2⟩))
    · skip
      refine z_aload_n dX12_days_12 rfl rfl ?_
      refine z_getfI (k := 0) flRX12_262 rfl rfl dX12_days_13 ?_
      refine z_iload_n dX12_days_16 rfl rfl ?_
      have s1 : -2147483648 ≤ σ 98 0 + a1 ∧ σ 98 0 + a1 < (2147483648 : Int) := k1 h1 h2
      refine z_iaddN dX12_days_17 s1 ?_
      refine z_ldcw (x := 40000) (zin_7 (List.mem_of_getElem? (i := 198) (by decide +kernel))) (by unfold zIn; decide) dX12_days_18 ?_
      refine z_icmp_le dX12_days_21 (tgt := 31) (by decide) (fun h3 => ?_) (fun h3 => ?_)
      · skip
        refine z_aload_n dX12_days_31 rfl rfl ?_
        refine z_dup dX12_days_32 rfl ?_
        refine z_getfI (k := 0) flRX12_262 rfl rfl dX12_days_33 ?_
        refine z_iload_n dX12_days_36 rfl rfl ?_
        refine z_iaddN dX12_days_37 s1 ?_
        refine z_putI (k := 0) fpRX12_262 rfl rfl dX12_days_38 ?_
        refine z_iconst dX12_days_41 (by unfold zIn; decide) ?_
        refine z_istore_n (ls' := [zr 98, zi a1, zi 0, zu, zu]) dX12_days_42 rfl (by decide) rfl ?_
        refine z_iconst dX12_days_43 (by unfold zIn; decide) ?_
        refine z_istore_n (ls' := [zr 98, zi a1, zi 0, zi 0, zu]) dX12_days_44 rfl (by decide) rfl ?_
        exact k2 h1 h2 h3
      · skip
        exact J24 (Or.inr (Or.inr ⟨h1, h2, h3⟩))
set_option maxRecDepth 20000 in
set_option maxHeartbeats 1000000 in
theorem TX12_days_45 {G : zG} {σ : zS} {Q : Int → zS → Prop} {v1 v2 v3 : Int}  (k1 : (σ 98 4 ≤ v3) → zR G MX12_days 160 [zr 98, zi v1, zi v2, zi 0, zu] [] σ Q) (k2 : (v3 < σ 98 4) → (0 : Int) ≤ v3 ∧ v3 < (12 : Int)) (k3 : (v3 < σ 98 4) → (σ 130 v3 ≠ (-1)) → zO G MX12_mayHold [zr 98, zi (σ 130 v3), zi (σ 129 v3)] σ (fun rr σ' => zR G MX12_days 82 [zr 98, zi v1, zi v2, zi v3, zu] [zi rr] σ' Q)) (k4 : (v3 < σ 98 4) → (σ 130 v3 = (-1)) → -2147483648 ≤ v3 + 1 ∧ v3 + 1 < (2147483648 : Int)) (k5 : (v3 < σ 98 4) → (σ 130 v3 = (-1)) → zR G MX12_days 45 [zr 98, zi v1, zi v2, zi (v3 + 1), zu] [] σ Q) : zR G MX12_days 45 [zr 98, zi v1, zi v2, zi v3, zu] [] σ Q := by
  have J152 : (v3 < σ 98 4) → (σ 130 v3 = (-1)) → zR G MX12_days 152 [zr 98, zi v1, zi v2, zi v3, zu] [] σ Q := by
    intro h1 h2
    have s4 : -2147483648 ≤ v3 + 1 ∧ v3 + 1 < (2147483648 : Int) := k4 h1 h2
    refine z_iincN (ls' := [zr 98, zi v1, zi v2, zi (v3 + 1), zu]) dX12_days_152 rfl (by decide) s4 rfl ?_
    refine z_goto dX12_days_155 (tgt := 45) (by decide) ?_
    exact k5 h1 h2
  refine z_iload_n dX12_days_45 rfl rfl ?_
  refine z_aload_n dX12_days_46 rfl rfl ?_
  refine z_getfI (k := 4) flRX12_259 rfl rfl dX12_days_47 ?_
  refine z_icmp_ge dX12_days_50 (tgt := 158) (by decide) (fun h1 => ?_) (fun h1 => ?_)
  · skip
    refine z_iconst dX12_days_158 (by unfold zIn; decide) ?_
    refine z_istore_n (ls' := [zr 98, zi v1, zi v2, zi 0, zu]) dX12_days_159 rfl (by decide) rfl ?_
    exact k1 h1
  · skip
    refine z_aload_n dX12_days_53 rfl rfl ?_
    refine z_getfR (k := 45) flRX12_109 rfl rfl dX12_days_54 ?_
    refine z_iload_n dX12_days_57 rfl rfl ?_
    have s2 : (0 : Int) ≤ v3 ∧ v3 < (12 : Int) := k2 h1
    refine z_iald rfl s2.1 s2.2 dX12_days_58 ?_
    refine z_iconst dX12_days_59 (by unfold zIn; decide) ?_
    refine z_icmp_ne dX12_days_60 (tgt := 66) (by decide) (fun h2 => ?_) (fun h2 => ?_)
    · skip
      refine z_aload_n dX12_days_66 rfl rfl ?_
      refine z_aload_n dX12_days_67 rfl rfl ?_
      refine z_getfR (k := 45) flRX12_109 rfl rfl dX12_days_68 ?_
      refine z_iload_n dX12_days_71 rfl rfl ?_
      refine z_iald rfl s2.1 s2.2 dX12_days_72 ?_
      refine z_aload_n dX12_days_73 rfl rfl ?_
      refine z_getfR (k := 44) flRX12_106 rfl rfl dX12_days_74 ?_
      refine z_iload_n dX12_days_77 rfl rfl ?_
      refine z_iald rfl s2.1 s2.2 dX12_days_78 ?_
      refine z_callv (as := [zi (σ 130 v3), zi (σ 129 v3)]) (st := []) mkX12_mayHold lkRX12_371 rfl rfl rfl (by decide) (Nat.le_of_ble_eq_true rfl) rfl dX12_days_79 (k3 h1 h2)
    · skip
      refine z_goto dX12_days_63 (tgt := 152) (by decide) ?_
      exact J152 h1 h2
set_option maxRecDepth 20000 in
set_option maxHeartbeats 1000000 in
theorem TX12_days_82 {G : zG} {σ : zS} {Q : Int → zS → Prop} {v1 v2 v3 r : Int}  (k1 : (r = 0) → (0 : Int) ≤ v3 ∧ v3 < (12 : Int)) (k2 : (r ≠ 0) → (0 : Int) ≤ v3 ∧ v3 < (12 : Int)) (k3 : (r = 0) → (σ 132 v3 ≠ (-1)) → (0 : Int) ≤ v3 ∧ v3 < (12 : Int)) (k4 : (r = 0) → (σ 132 v3 ≠ (-1)) → (σ 132 v3 ≠ (-1)) → -2147483648 ≤ σ 98 0 - σ 132 v3 ∧ σ 98 0 - σ 132 v3 < (2147483648 : Int)) (k5 : (r = 0) → (σ 132 v3 ≠ (-1)) → (σ 132 v3 ≠ (-1)) → (σ 98 11 ≤ σ 98 0 - σ 132 v3) → zO G MX12_ends [zr 98, zi v3, zi 1] σ (fun rr σ' => zR G MX12_days 149 [zr 98, zi v1, zi v2, zi v3, zu] [] σ' Q)) (k6 : (r = 0) → (σ 132 v3 = (-1)) → (0 : Int) ≤ v3 ∧ v3 < (12 : Int)) (k7 : (r = 0) → (σ 132 v3 = (-1)) → (σ 98 0 ≠ (-1)) → -2147483648 ≤ σ 98 0 - σ 98 0 ∧ σ 98 0 - σ 98 0 < (2147483648 : Int)) (k8 : (r = 0) → (σ 132 v3 = (-1)) → (σ 98 0 ≠ (-1)) → (σ 98 11 ≤ σ 98 0 - σ 98 0) → zO G MX12_ends [zr 98, zi v3, zi 1] (zup σ 132 v3 (σ 98 0)) (fun rr σ' => zR G MX12_days 149 [zr 98, zi v1, zi v2, zi v3, zu] [] σ' Q)) (k9 : (r ≠ 0) → (0 : Int) ≤ v3 ∧ v3 < (12 : Int)) (k10 : (r = 0) → (σ 132 v3 ≠ (-1)) → (σ 132 v3 = (-1) ∨ (σ 132 v3 ≠ (-1) ∧ σ 98 0 - σ 132 v3 < σ 98 11)) → -2147483648 ≤ v3 + 1 ∧ v3 + 1 < (2147483648 : Int)) (k11 : (r = 0) → (σ 132 v3 ≠ (-1)) → (σ 132 v3 = (-1) ∨ (σ 132 v3 ≠ (-1) ∧ σ 98 0 - σ 132 v3 < σ 98 11)) → zR G MX12_days 45 [zr 98, zi v1, zi v2, zi (v3 + 1), zu] [] σ Q) (k12 : (r = 0) → (σ 132 v3 = (-1)) → (σ 98 0 = (-1) ∨ (σ 98 0 ≠ (-1) ∧ σ 98 0 - σ 98 0 < σ 98 11)) → -2147483648 ≤ v3 + 1 ∧ v3 + 1 < (2147483648 : Int)) (k13 : (r = 0) → (σ 132 v3 = (-1)) → (σ 98 0 = (-1) ∨ (σ 98 0 ≠ (-1) ∧ σ 98 0 - σ 98 0 < σ 98 11)) → zR G MX12_days 45 [zr 98, zi v1, zi v2, zi (v3 + 1), zu] [] (zup σ 132 v3 (σ 98 0)) Q) (k14 : (r ≠ 0) → -2147483648 ≤ v3 + 1 ∧ v3 + 1 < (2147483648 : Int)) (k15 : (r ≠ 0) → zR G MX12_days 45 [zr 98, zi v1, zi v2, zi (v3 + 1), zu] [] (zup σ 132 v3 (-1)) Q) : zR G MX12_days 82 [zr 98, zi v1, zi v2, zi v3, zu] [zi r] σ Q := by
  have J152_2 : (r ≠ 0) → zR G MX12_days 152 [zr 98, zi v1, zi v2, zi v3, zu] [] (zup σ 132 v3 (-1)) Q := by
    intro h1
    have s14 : -2147483648 ≤ v3 + 1 ∧ v3 + 1 < (2147483648 : Int) := k14 h1
    refine z_iincN (ls' := [zr 98, zi v1, zi v2, zi (v3 + 1), zu]) dX12_days_152 rfl (by decide) s14 rfl ?_
    refine z_goto dX12_days_155 (tgt := 45) (by decide) ?_
    exact k15 h1
  have J152_1 : (r = 0) → (σ 132 v3 = (-1)) → (σ 98 0 = (-1) ∨ (σ 98 0 ≠ (-1) ∧ σ 98 0 - σ 98 0 < σ 98 11)) → zR G MX12_days 152 [zr 98, zi v1, zi v2, zi v3, zu] [] (zup σ 132 v3 (σ 98 0)) Q := by
    intro h1 h2 h9
    have s12 : -2147483648 ≤ v3 + 1 ∧ v3 + 1 < (2147483648 : Int) := k12 h1 h2 h9
    refine z_iincN (ls' := [zr 98, zi v1, zi v2, zi (v3 + 1), zu]) dX12_days_152 rfl (by decide) s12 rfl ?_
    refine z_goto dX12_days_155 (tgt := 45) (by decide) ?_
    exact k13 h1 h2 h9
  have J152 : (r = 0) → (σ 132 v3 ≠ (-1)) → (σ 132 v3 = (-1) ∨ (σ 132 v3 ≠ (-1) ∧ σ 98 0 - σ 132 v3 < σ 98 11)) → zR G MX12_days 152 [zr 98, zi v1, zi v2, zi v3, zu] [] σ Q := by
    intro h1 h2 h8
    have s10 : -2147483648 ≤ v3 + 1 ∧ v3 + 1 < (2147483648 : Int) := k10 h1 h2 h8
    refine z_iincN (ls' := [zr 98, zi v1, zi v2, zi (v3 + 1), zu]) dX12_days_152 rfl (by decide) s10 rfl ?_
    refine z_goto dX12_days_155 (tgt := 45) (by decide) ?_
    exact k11 h1 h2 h8
  have J115_2 : (r ≠ 0) → zR G MX12_days 115 [zr 98, zi v1, zi v2, zi v3, zu] [] (zup σ 132 v3 (-1)) Q := by
    intro h1
    refine z_aload_n dX12_days_115 rfl rfl ?_
    refine z_getfR (k := 47) flRX12_115 rfl rfl dX12_days_116 ?_
    refine z_iload_n dX12_days_119 rfl rfl ?_
    have s9 : (0 : Int) ≤ v3 ∧ v3 < (12 : Int) := k9 h1
    refine z_ialdE (v := -1) rfl s9.1 s9.2 (zup_same) dX12_days_120 ?_
    refine z_iconst dX12_days_121 (by unfold zIn; decide) ?_
    refine z_icmp_eq dX12_days_122 (tgt := 152) (by decide) (fun z => ?_) (fun z => absurd z (by decide))
    exact J152_2 h1
  have J115_1 : (r = 0) → (σ 132 v3 = (-1)) → zR G MX12_days 115 [zr 98, zi v1, zi v2, zi v3, zu] [] (zup σ 132 v3 (σ 98 0)) Q := by
    intro h1 h2
    refine z_aload_n dX12_days_115 rfl rfl ?_
    refine z_getfR (k := 47) flRX12_115 rfl rfl dX12_days_116 ?_
    refine z_iload_n dX12_days_119 rfl rfl ?_
    have s6 : (0 : Int) ≤ v3 ∧ v3 < (12 : Int) := k6 h1 h2
    refine z_ialdE (v := σ 98 0) rfl s6.1 s6.2 (zup_same) dX12_days_120 ?_
    refine z_iconst dX12_days_121 (by unfold zIn; decide) ?_
    refine z_icmp_eq dX12_days_122 (tgt := 152) (by decide) (fun h5 => ?_) (fun h5 => ?_)
    · skip
      exact J152_1 h1 h2 (Or.inl h5)
    · skip
      refine z_aload_n dX12_days_125 rfl rfl ?_
      refine z_getfE (k := 0) (v := σ 98 0) flRX12_262 rfl rfl (zup_of (by decide)) dX12_days_126 ?_
      refine z_aload_n dX12_days_129 rfl rfl ?_
      refine z_getfR (k := 47) flRX12_115 rfl rfl dX12_days_130 ?_
      refine z_iload_n dX12_days_133 rfl rfl ?_
      refine z_ialdE (v := σ 98 0) rfl s6.1 s6.2 (zup_same) dX12_days_134 ?_
      have s7 : -2147483648 ≤ σ 98 0 - σ 98 0 ∧ σ 98 0 - σ 98 0 < (2147483648 : Int) := k7 h1 h2 h5
      refine z_isubN dX12_days_135 s7 ?_
      refine z_aload_n dX12_days_136 rfl rfl ?_
      refine z_getfE (k := 11) (v := σ 98 11) flRX12_7 rfl rfl (zup_of (by decide)) dX12_days_137 ?_
      refine z_icmp_lt dX12_days_140 (tgt := 152) (by decide) (fun h6 => ?_) (fun h6 => ?_)
      · skip
        exact J152_1 h1 h2 (Or.inr ⟨h5, h6⟩)
      · skip
        refine z_aload_n dX12_days_143 rfl rfl ?_
        refine z_iload_n dX12_days_144 rfl rfl ?_
        refine z_iconst dX12_days_145 (by unfold zIn; decide) ?_
        refine z_callv (as := [zi v3, zi 1]) (st := []) mkX12_ends lkRX12_382 rfl rfl rfl (by decide) (Nat.le_of_ble_eq_true rfl) rfl dX12_days_146 (k8 h1 h2 h5 h6)
  have J115 : (r = 0) → (σ 132 v3 ≠ (-1)) → zR G MX12_days 115 [zr 98, zi v1, zi v2, zi v3, zu] [] σ Q := by
    intro h1 h2
    refine z_aload_n dX12_days_115 rfl rfl ?_
    refine z_getfR (k := 47) flRX12_115 rfl rfl dX12_days_116 ?_
    refine z_iload_n dX12_days_119 rfl rfl ?_
    have s3 : (0 : Int) ≤ v3 ∧ v3 < (12 : Int) := k3 h1 h2
    refine z_iald rfl s3.1 s3.2 dX12_days_120 ?_
    refine z_iconst dX12_days_121 (by unfold zIn; decide) ?_
    refine z_icmp_eq dX12_days_122 (tgt := 152) (by decide) (fun h3 => ?_) (fun h3 => ?_)
    · skip
      exact J152 h1 h2 (Or.inl h3)
    · skip
      refine z_aload_n dX12_days_125 rfl rfl ?_
      refine z_getfI (k := 0) flRX12_262 rfl rfl dX12_days_126 ?_
      refine z_aload_n dX12_days_129 rfl rfl ?_
      refine z_getfR (k := 47) flRX12_115 rfl rfl dX12_days_130 ?_
      refine z_iload_n dX12_days_133 rfl rfl ?_
      refine z_iald rfl s3.1 s3.2 dX12_days_134 ?_
      have s4 : -2147483648 ≤ σ 98 0 - σ 132 v3 ∧ σ 98 0 - σ 132 v3 < (2147483648 : Int) := k4 h1 h2 h3
      refine z_isubN dX12_days_135 s4 ?_
      refine z_aload_n dX12_days_136 rfl rfl ?_
      refine z_getfI (k := 11) flRX12_7 rfl rfl dX12_days_137 ?_
      refine z_icmp_lt dX12_days_140 (tgt := 152) (by decide) (fun h4 => ?_) (fun h4 => ?_)
      · skip
        exact J152 h1 h2 (Or.inr ⟨h3, h4⟩)
      · skip
        refine z_aload_n dX12_days_143 rfl rfl ?_
        refine z_iload_n dX12_days_144 rfl rfl ?_
        refine z_iconst dX12_days_145 (by unfold zIn; decide) ?_
        refine z_callv (as := [zi v3, zi 1]) (st := []) mkX12_ends lkRX12_382 rfl rfl rfl (by decide) (Nat.le_of_ble_eq_true rfl) rfl dX12_days_146 (k5 h1 h2 h3 h4)
  refine z_if_eq dX12_days_82 (tgt := 95) (by decide) (fun h1 => ?_) (fun h1 => ?_)
  · skip
    refine z_aload_n dX12_days_95 rfl rfl ?_
    refine z_getfR (k := 47) flRX12_115 rfl rfl dX12_days_96 ?_
    refine z_iload_n dX12_days_99 rfl rfl ?_
    have s1 : (0 : Int) ≤ v3 ∧ v3 < (12 : Int) := k1 h1
    refine z_iald rfl s1.1 s1.2 dX12_days_100 ?_
    refine z_iconst dX12_days_101 (by unfold zIn; decide) ?_
    refine z_icmp_ne dX12_days_102 (tgt := 115) (by decide) (fun h2 => ?_) (fun h2 => ?_)
    · skip
      exact J115 h1 h2
    · skip
      refine z_aload_n dX12_days_105 rfl rfl ?_
      refine z_getfR (k := 47) flRX12_115 rfl rfl dX12_days_106 ?_
      refine z_iload_n dX12_days_109 rfl rfl ?_
      refine z_aload_n dX12_days_110 rfl rfl ?_
      refine z_getfI (k := 0) flRX12_262 rfl rfl dX12_days_111 ?_
      refine z_iast rfl s1.1 s1.2 dX12_days_114 ?_
      exact J115_1 h1 h2
  · skip
    refine z_aload_n dX12_days_85 rfl rfl ?_
    refine z_getfR (k := 47) flRX12_115 rfl rfl dX12_days_86 ?_
    refine z_iload_n dX12_days_89 rfl rfl ?_
    refine z_iconst dX12_days_90 (by unfold zIn; decide) ?_
    have s2 : (0 : Int) ≤ v3 ∧ v3 < (12 : Int) := k2 h1
    refine z_iast rfl s2.1 s2.2 dX12_days_91 ?_
    refine z_goto dX12_days_92 (tgt := 115) (by decide) ?_
    exact J115_2 h1
set_option maxRecDepth 20000 in
set_option maxHeartbeats 1000000 in
theorem TX12_days_149 {G : zG} {σ : zS} {Q : Int → zS → Prop} {v1 v2 v3 : Int}  (k1 : -2147483648 ≤ v2 + 1 ∧ v2 + 1 < (2147483648 : Int)) (k2 : -2147483648 ≤ v3 + 1 ∧ v3 + 1 < (2147483648 : Int)) (k3 : zR G MX12_days 45 [zr 98, zi v1, zi (v2 + 1), zi (v3 + 1), zu] [] σ Q) : zR G MX12_days 149 [zr 98, zi v1, zi v2, zi v3, zu] [] σ Q := by
  have J152 : zR G MX12_days 152 [zr 98, zi v1, zi (v2 + 1), zi v3, zu] [] σ Q := by
    have s2 : -2147483648 ≤ v3 + 1 ∧ v3 + 1 < (2147483648 : Int) := k2
    refine z_iincN (ls' := [zr 98, zi v1, zi (v2 + 1), zi (v3 + 1), zu]) dX12_days_152 rfl (by decide) s2 rfl ?_
    refine z_goto dX12_days_155 (tgt := 45) (by decide) ?_
    exact k3
  have s1 : -2147483648 ≤ v2 + 1 ∧ v2 + 1 < (2147483648 : Int) := k1
  refine z_iincN (ls' := [zr 98, zi v1, zi (v2 + 1), zi v3, zu]) dX12_days_149 rfl (by decide) s1 rfl ?_
  exact J152
set_option maxRecDepth 20000 in
set_option maxHeartbeats 1000000 in
theorem TX12_days_160 {G : zG} {σ : zS} {Q : Int → zS → Prop} {v1 v2 v3 : Int}  (k1 : (σ 98 4 ≤ v3) → Q v2 σ) (k2 : (v3 < σ 98 4) → (0 : Int) ≤ v3 ∧ v3 < (12 : Int)) (k3 : (v3 < σ 98 4) → (σ 129 v3 = 1) → (σ 130 v3 ≠ (-1)) → zO G MX12_placeHeld [zr 98, zi (σ 130 v3), zi 3] σ (fun rr σ' => zR G MX12_days 202 [zr 98, zi v1, zi v2, zi v3, zu] [zi rr] σ' Q)) (k4 : (v3 < σ 98 4) → (σ 129 v3 ≠ 1 ∨ (σ 129 v3 = 1 ∧ σ 130 v3 = (-1))) → -2147483648 ≤ v3 + 1 ∧ v3 + 1 < (2147483648 : Int)) (k5 : (v3 < σ 98 4) → (σ 129 v3 ≠ 1 ∨ (σ 129 v3 = 1 ∧ σ 130 v3 = (-1))) → zR G MX12_days 160 [zr 98, zi v1, zi v2, zi (v3 + 1), zu] [] σ Q) : zR G MX12_days 160 [zr 98, zi v1, zi v2, zi v3, zu] [] σ Q := by
  have J238 : (v3 < σ 98 4) → (σ 129 v3 ≠ 1 ∨ (σ 129 v3 = 1 ∧ σ 130 v3 = (-1))) → zR G MX12_days 238 [zr 98, zi v1, zi v2, zi v3, zu] [] σ Q := by
    intro h1 h4
    have s4 : -2147483648 ≤ v3 + 1 ∧ v3 + 1 < (2147483648 : Int) := k4 h1 h4
    refine z_iincN (ls' := [zr 98, zi v1, zi v2, zi (v3 + 1), zu]) dX12_days_238 rfl (by decide) s4 rfl ?_
    refine z_goto dX12_days_241 (tgt := 160) (by decide) ?_
    exact k5 h1 h4
  refine z_iload_n dX12_days_160 rfl rfl ?_
  refine z_aload_n dX12_days_161 rfl rfl ?_
  refine z_getfI (k := 4) flRX12_259 rfl rfl dX12_days_162 ?_
  refine z_icmp_ge dX12_days_165 (tgt := 244) (by decide) (fun h1 => ?_) (fun h1 => ?_)
  · skip
    refine z_iload_n dX12_days_244 rfl rfl ?_
    exact z_ireti rfl dX12_days_245 (k1 h1)
  · skip
    refine z_aload_n dX12_days_168 rfl rfl ?_
    refine z_getfR (k := 44) flRX12_106 rfl rfl dX12_days_169 ?_
    refine z_iload_n dX12_days_172 rfl rfl ?_
    have s2 : (0 : Int) ≤ v3 ∧ v3 < (12 : Int) := k2 h1
    refine z_iald rfl s2.1 s2.2 dX12_days_173 ?_
    refine z_iconst dX12_days_174 (by unfold zIn; decide) ?_
    refine z_icmp_ne dX12_days_175 (tgt := 238) (by decide) (fun h2 => ?_) (fun h2 => ?_)
    · skip
      exact J238 h1 (Or.inl h2)
    · skip
      refine z_aload_n dX12_days_178 rfl rfl ?_
      refine z_getfR (k := 45) flRX12_109 rfl rfl dX12_days_179 ?_
      refine z_iload_n dX12_days_182 rfl rfl ?_
      refine z_iald rfl s2.1 s2.2 dX12_days_183 ?_
      refine z_iconst dX12_days_184 (by unfold zIn; decide) ?_
      refine z_icmp_ne dX12_days_185 (tgt := 191) (by decide) (fun h3 => ?_) (fun h3 => ?_)
      · skip
        refine z_aload_n dX12_days_191 rfl rfl ?_
        refine z_aload_n dX12_days_192 rfl rfl ?_
        refine z_getfR (k := 45) flRX12_109 rfl rfl dX12_days_193 ?_
        refine z_iload_n dX12_days_196 rfl rfl ?_
        refine z_iald rfl s2.1 s2.2 dX12_days_197 ?_
        refine z_iconst dX12_days_198 (by unfold zIn; decide) ?_
        refine z_callv (as := [zi (σ 130 v3), zi 3]) (st := []) mkX12_placeHeld lkRX12_375 rfl rfl rfl (by decide) (Nat.le_of_ble_eq_true rfl) rfl dX12_days_199 (k3 h1 h2 h3)
      · skip
        refine z_goto dX12_days_188 (tgt := 238) (by decide) ?_
        exact J238 h1 (Or.inr ⟨h2, h3⟩)
set_option maxRecDepth 20000 in
set_option maxHeartbeats 1000000 in
theorem TX12_days_202 {G : zG} {σ : zS} {Q : Int → zS → Prop} {v1 v2 v3 r : Int}  (k1 : (r ≠ (-1)) → (0 : Int) ≤ r ∧ r < (12 : Int)) (k2 : (r ≠ (-1)) → -2147483648 ≤ σ 98 0 - σ 131 r ∧ σ 98 0 - σ 131 r < (2147483648 : Int)) (k3 : (r ≠ (-1)) → (σ 98 11 ≤ σ 98 0 - σ 131 r) → zO G MX12_ends [zr 98, zi v3, zi 1] σ (fun rr σ' => zR G MX12_days 235 [zr 98, zi v1, zi v2, zi v3, zi r] [] σ' Q)) (k4 : (r = (-1) ∨ (r ≠ (-1) ∧ σ 98 0 - σ 131 r < σ 98 11)) → -2147483648 ≤ v3 + 1 ∧ v3 + 1 < (2147483648 : Int)) (k5 : (r = (-1) ∨ (r ≠ (-1) ∧ σ 98 0 - σ 131 r < σ 98 11)) → zR G MX12_days 160 [zr 98, zi v1, zi v2, zi (v3 + 1), zu] [] σ Q) : zR G MX12_days 202 [zr 98, zi v1, zi v2, zi v3, zu] [zi r] σ Q := by
  have J238 : (r = (-1) ∨ (r ≠ (-1) ∧ σ 98 0 - σ 131 r < σ 98 11)) → zR G MX12_days 238 [zr 98, zi v1, zi v2, zi v3, zi r] [] σ Q := by
    intro h3
    have s4 : -2147483648 ≤ v3 + 1 ∧ v3 + 1 < (2147483648 : Int) := k4 h3
    refine z_iincN (ls' := [zr 98, zi v1, zi v2, zi (v3 + 1), zi r]) dX12_days_238 rfl (by decide) s4 rfl ?_
    refine z_goto dX12_days_241 (tgt := 160) (by decide) ?_
    exact zR_fg [false, false, false, false, true] (k5 h3)
  refine z_istore (ls' := [zr 98, zi v1, zi v2, zi v3, zi r]) dX12_days_202 (by decide) rfl ?_
  refine z_iload dX12_days_204 rfl ?_
  refine z_iconst dX12_days_206 (by unfold zIn; decide) ?_
  refine z_icmp_eq dX12_days_207 (tgt := 238) (by decide) (fun h1 => ?_) (fun h1 => ?_)
  · skip
    exact J238 (Or.inl h1)
  · skip
    refine z_aload_n dX12_days_210 rfl rfl ?_
    refine z_getfI (k := 0) flRX12_262 rfl rfl dX12_days_211 ?_
    refine z_aload_n dX12_days_214 rfl rfl ?_
    refine z_getfR (k := 46) flRX12_112 rfl rfl dX12_days_215 ?_
    refine z_iload dX12_days_218 rfl ?_
    have s1 : (0 : Int) ≤ r ∧ r < (12 : Int) := k1 h1
    refine z_iald rfl s1.1 s1.2 dX12_days_220 ?_
    have s2 : -2147483648 ≤ σ 98 0 - σ 131 r ∧ σ 98 0 - σ 131 r < (2147483648 : Int) := k2 h1
    refine z_isubN dX12_days_221 s2 ?_
    refine z_aload_n dX12_days_222 rfl rfl ?_
    refine z_getfI (k := 11) flRX12_7 rfl rfl dX12_days_223 ?_
    refine z_icmp_lt dX12_days_226 (tgt := 238) (by decide) (fun h2 => ?_) (fun h2 => ?_)
    · skip
      exact J238 (Or.inr ⟨h1, h2⟩)
    · skip
      refine z_aload_n dX12_days_229 rfl rfl ?_
      refine z_iload_n dX12_days_230 rfl rfl ?_
      refine z_iconst dX12_days_231 (by unfold zIn; decide) ?_
      refine z_callv (as := [zi v3, zi 1]) (st := []) mkX12_ends lkRX12_382 rfl rfl rfl (by decide) (Nat.le_of_ble_eq_true rfl) rfl dX12_days_232 (k3 h1 h2)
set_option maxRecDepth 20000 in
set_option maxHeartbeats 1000000 in
theorem TX12_days_235 {G : zG} {σ : zS} {Q : Int → zS → Prop} {v1 v2 v3 v4 : Int}  (k1 : -2147483648 ≤ v2 + 1 ∧ v2 + 1 < (2147483648 : Int)) (k2 : -2147483648 ≤ v3 + 1 ∧ v3 + 1 < (2147483648 : Int)) (k3 : zR G MX12_days 160 [zr 98, zi v1, zi (v2 + 1), zi (v3 + 1), zu] [] σ Q) : zR G MX12_days 235 [zr 98, zi v1, zi v2, zi v3, zi v4] [] σ Q := by
  have J238 : zR G MX12_days 238 [zr 98, zi v1, zi (v2 + 1), zi v3, zi v4] [] σ Q := by
    have s2 : -2147483648 ≤ v3 + 1 ∧ v3 + 1 < (2147483648 : Int) := k2
    refine z_iincN (ls' := [zr 98, zi v1, zi (v2 + 1), zi (v3 + 1), zi v4]) dX12_days_238 rfl (by decide) s2 rfl ?_
    refine z_goto dX12_days_241 (tgt := 160) (by decide) ?_
    exact zR_fg [false, false, false, false, true] (k3)
  have s1 : -2147483648 ≤ v2 + 1 ∧ v2 + 1 < (2147483648 : Int) := k1
  refine z_iincN (ls' := [zr 98, zi v1, zi (v2 + 1), zi v3, zi v4]) dX12_days_235 rfl (by decide) s1 rfl ?_
  exact J238
set_option maxRecDepth 20000 in
set_option maxHeartbeats 1000000 in
theorem TX12_ballot {G : zG} {σ : zS} {Q : Int → zS → Prop} {a1 a2 : Int}  (k1 : ((0 ≤ a1 ∧ a1 < σ 98 1)) → zO G MX12_wants [zr 98, zi a2] σ (fun rr σ' => zR G MX12_ballot 19 [zr 98, zi a1, zi a2, zu, zu] [zi rr] σ' Q)) (k2 : (¬ ((0 ≤ a1 ∧ a1 < σ 98 1))) → -2147483648 ≤ -(-1) ∧ -(-1) < (2147483648 : Int)) (k3 : (¬ ((0 ≤ a1 ∧ a1 < σ 98 1))) → (0 : Int) ≤ -(-1) ∧ -(-1) < (8 : Int)) (k4 : (¬ ((0 ≤ a1 ∧ a1 < σ 98 1))) → Q (-1) (zup σ 157 (-(-1)) (zW ((σ 157 (-(-1))) + 1)))) : zO G MX12_ballot [zr 98, zi a1, zi a2] σ Q := by
  refine zO_of (ls0 := [zr 98, zi a1, zi a2, zu, zu]) (by decide) (Nat.le_of_ble_eq_true rfl) rfl ?_
  refine z_aload_n dX12_ballot_0 rfl rfl ?_
  refine z_iload_n dX12_ballot_1 rfl rfl ?_
  refine z_callv (as := [zi a1]) (st := []) mkX12_isOne lkRX12_271 rfl rfl rfl (by decide) (Nat.le_of_ble_eq_true rfl) rfl dX12_ballot_2 ?_
  refine SX12_isOne ?_
  show zR G MX12_ballot 5 [zr 98, zi a1, zi a2, zu, zu] [zi (if (0 ≤ a1 ∧ a1 < σ 98 1) then (1 : Int) else 0)] σ Q
  refine z_if_ne dX12_ballot_5 (tgt := 14) (by decide) (fun z => ?_) (fun z => ?_)
  · have h1 : (0 ≤ a1 ∧ a1 < σ 98 1) := zb1 z
    refine z_aload_n dX12_ballot_14 rfl rfl ?_
    refine z_iload_n dX12_ballot_15 rfl rfl ?_
    refine z_callv (as := [zi a2]) (st := []) mkX12_wants lkRX12_300 rfl rfl rfl (by decide) (Nat.le_of_ble_eq_true rfl) rfl dX12_ballot_16 (k1 h1)
  · have h1 : ¬ ((0 ≤ a1 ∧ a1 < σ 98 1)) := zb0 z
    refine z_aload_n dX12_ballot_8 rfl rfl ?_
    refine z_iconst dX12_ballot_9 (by unfold zIn; decide) ?_
    have s2 : -2147483648 ≤ -(-1) ∧ -(-1) < (2147483648 : Int) := k2 h1
    have s3 : (0 : Int) ≤ -(-1) ∧ -(-1) < (8 : Int) := k3 h1
    refine z_callv (as := [zi (-1)]) (st := []) mkX12_no lkRX12_267 rfl rfl rfl (by decide) (Nat.le_of_ble_eq_true rfl) rfl dX12_ballot_10 ?_
    refine SX12_no s2 s3 ?_
    show zR G MX12_ballot 13 [zr 98, zi a1, zi a2, zu, zu] [zi (-1)] (zup σ 157 (-(-1)) (zW ((σ 157 (-(-1))) + 1))) Q
    exact z_ireti rfl dX12_ballot_13 (k4 h1)
set_option maxRecDepth 20000 in
set_option maxHeartbeats 1000000 in
theorem TX12_ballot_19 {G : zG} {σ : zS} {Q : Int → zS → Prop} {v1 v2 r : Int}  (k1 : (r = 0) → (0 : Int) ≤ v2 ∧ v2 < (10 : Int)) (k2 : (r = 0) → (0 : Int) ≤ v1 ∧ v1 < (24 : Int)) (k3 : (r = 0) → zR G MX12_ballot 45 [zr 98, zi v1, zi v2, zi r, zi 0] [] (zup σ 135 v1 (σ 113 v2)) Q) (k4 : (r ≠ 0) → -2147483648 ≤ -r ∧ -r < (2147483648 : Int)) (k5 : (r ≠ 0) → (0 : Int) ≤ -r ∧ -r < (8 : Int)) (k6 : (r ≠ 0) → Q r (zup σ 157 (-r) (zW ((σ 157 (-r)) + 1)))) : zR G MX12_ballot 19 [zr 98, zi v1, zi v2, zu, zu] [zi r] σ Q := by
  refine z_istore_n (ls' := [zr 98, zi v1, zi v2, zi r, zu]) dX12_ballot_19 rfl (by decide) rfl ?_
  refine z_iload_n dX12_ballot_20 rfl rfl ?_
  refine z_if_eq dX12_ballot_21 (tgt := 30) (by decide) (fun h1 => ?_) (fun h1 => ?_)
  · skip
    refine z_aload_n dX12_ballot_30 rfl rfl ?_
    refine z_getfR (k := 50) flRX12_124 rfl rfl dX12_ballot_31 ?_
    refine z_iload_n dX12_ballot_34 rfl rfl ?_
    refine z_aload_n dX12_ballot_35 rfl rfl ?_
    refine z_getfR (k := 27) flRX12_57 rfl rfl dX12_ballot_36 ?_
    refine z_iload_n dX12_ballot_39 rfl rfl ?_
    have s1 : (0 : Int) ≤ v2 ∧ v2 < (10 : Int) := k1 h1
    refine z_iald rfl s1.1 s1.2 dX12_ballot_40 ?_
    have s2 : (0 : Int) ≤ v1 ∧ v1 < (24 : Int) := k2 h1
    refine z_iast rfl s2.1 s2.2 dX12_ballot_41 ?_
    refine z_iconst dX12_ballot_42 (by unfold zIn; decide) ?_
    refine z_istore (ls' := [zr 98, zi v1, zi v2, zi r, zi 0]) dX12_ballot_43 (by decide) rfl ?_
    exact k3 h1
  · skip
    refine z_aload_n dX12_ballot_24 rfl rfl ?_
    refine z_iload_n dX12_ballot_25 rfl rfl ?_
    have s4 : -2147483648 ≤ -r ∧ -r < (2147483648 : Int) := k4 h1
    have s5 : (0 : Int) ≤ -r ∧ -r < (8 : Int) := k5 h1
    refine z_callv (as := [zi r]) (st := []) mkX12_no lkRX12_267 rfl rfl rfl (by decide) (Nat.le_of_ble_eq_true rfl) rfl dX12_ballot_26 ?_
    refine SX12_no s4 s5 ?_
    show zR G MX12_ballot 29 [zr 98, zi v1, zi v2, zi r, zu] [zi r] (zup σ 157 (-r) (zW ((σ 157 (-r)) + 1))) Q
    exact z_ireti rfl dX12_ballot_29 (k6 h1)
set_option maxRecDepth 20000 in
set_option maxHeartbeats 1000000 in
theorem TX12_ballot_45 {G : zG} {σ : zS} {Q : Int → zS → Prop} {v1 v2 v3 v4 : Int}  (k1 : (0 : Int) ≤ v2 ∧ v2 < (10 : Int)) (k2 : (σ 113 v2 ≤ v4) → Q (σ 113 v2) σ) (k3 : (v4 < σ 113 v2) → -2147483648 ≤ 80 * v1 ∧ 80 * v1 < (2147483648 : Int)) (k4 : (v4 < σ 113 v2) → -2147483648 ≤ (80 * v1) + v4 ∧ (80 * v1) + v4 < (2147483648 : Int)) (k5 : (v4 < σ 113 v2) → -2147483648 ≤ 80 * v2 ∧ 80 * v2 < (2147483648 : Int)) (k6 : (v4 < σ 113 v2) → -2147483648 ≤ (80 * v2) + v4 ∧ (80 * v2) + v4 < (2147483648 : Int)) (k7 : (v4 < σ 113 v2) → (0 : Int) ≤ (80 * v2) + v4 ∧ (80 * v2) + v4 < (800 : Int)) (k8 : (v4 < σ 113 v2) → (0 : Int) ≤ (80 * v1) + v4 ∧ (80 * v1) + v4 < (1920 : Int)) (k9 : (v4 < σ 113 v2) → -2147483648 ≤ v4 + 1 ∧ v4 + 1 < (2147483648 : Int)) (k10 : (v4 < σ 113 v2) → zR G MX12_ballot 45 [zr 98, zi v1, zi v2, zi v3, zi (v4 + 1)] [] (zup σ 134 ((80 * v1) + v4) (zW (σ 115 ((80 * v2) + v4)))) Q) : zR G MX12_ballot 45 [zr 98, zi v1, zi v2, zi v3, zi v4] [] σ Q := by
  refine z_iload dX12_ballot_45 rfl ?_
  refine z_aload_n dX12_ballot_47 rfl rfl ?_
  refine z_getfR (k := 27) flRX12_57 rfl rfl dX12_ballot_48 ?_
  refine z_iload_n dX12_ballot_51 rfl rfl ?_
  have s1 : (0 : Int) ≤ v2 ∧ v2 < (10 : Int) := k1
  refine z_iald rfl s1.1 s1.2 dX12_ballot_52 ?_
  refine z_icmp_ge dX12_ballot_53 (tgt := 87) (by decide) (fun h1 => ?_) (fun h1 => ?_)
  · skip
    refine z_aload_n dX12_ballot_87 rfl rfl ?_
    refine z_getfR (k := 27) flRX12_57 rfl rfl dX12_ballot_88 ?_
    refine z_iload_n dX12_ballot_91 rfl rfl ?_
    refine z_iald rfl s1.1 s1.2 dX12_ballot_92 ?_
    exact z_ireti rfl dX12_ballot_93 (k2 h1)
  · skip
    refine z_aload_n dX12_ballot_56 rfl rfl ?_
    refine z_getfR (k := 49) flRX12_121 rfl rfl dX12_ballot_57 ?_
    refine z_bipush (x := 80) dX12_ballot_60 (by decide +kernel) (by unfold zIn; decide) ?_
    refine z_iload_n dX12_ballot_62 rfl rfl ?_
    have s3 : -2147483648 ≤ 80 * v1 ∧ 80 * v1 < (2147483648 : Int) := k3 h1
    refine z_imulN dX12_ballot_63 s3 ?_
    refine z_iload dX12_ballot_64 rfl ?_
    have s4 : -2147483648 ≤ (80 * v1) + v4 ∧ (80 * v1) + v4 < (2147483648 : Int) := k4 h1
    refine z_iaddN dX12_ballot_66 s4 ?_
    refine z_aload_n dX12_ballot_67 rfl rfl ?_
    refine z_getfR (k := 29) flRX12_63 rfl rfl dX12_ballot_68 ?_
    refine z_bipush (x := 80) dX12_ballot_71 (by decide +kernel) (by unfold zIn; decide) ?_
    refine z_iload_n dX12_ballot_73 rfl rfl ?_
    have s5 : -2147483648 ≤ 80 * v2 ∧ 80 * v2 < (2147483648 : Int) := k5 h1
    refine z_imulN dX12_ballot_74 s5 ?_
    refine z_iload dX12_ballot_75 rfl ?_
    have s6 : -2147483648 ≤ (80 * v2) + v4 ∧ (80 * v2) + v4 < (2147483648 : Int) := k6 h1
    refine z_iaddN dX12_ballot_77 s6 ?_
    have s7 : (0 : Int) ≤ (80 * v2) + v4 ∧ (80 * v2) + v4 < (800 : Int) := k7 h1
    refine z_lald rfl s7.1 s7.2 dX12_ballot_78 ?_
    refine z_l2i dX12_ballot_79 ?_
    have s8 : (0 : Int) ≤ (80 * v1) + v4 ∧ (80 * v1) + v4 < (1920 : Int) := k8 h1
    refine z_iast rfl s8.1 s8.2 dX12_ballot_80 ?_
    have s9 : -2147483648 ≤ v4 + 1 ∧ v4 + 1 < (2147483648 : Int) := k9 h1
    refine z_iincN (ls' := [zr 98, zi v1, zi v2, zi v3, zi (v4 + 1)]) dX12_ballot_81 rfl (by decide) s9 rfl ?_
    refine z_goto dX12_ballot_84 (tgt := 45) (by decide) ?_
    exact k10 h1
set_option maxRecDepth 20000 in
set_option maxHeartbeats 1000000 in
theorem TX12_keeps {G : zG} {σ : zS} {Q : Int → zS → Prop} {a1 a2 : Int}  (k1 : (a2 = (-1)) → (0 : Int) ≤ a1 ∧ a1 < (13 : Int)) (k2 : (a2 = (-1)) → zR G MX12_keeps 32 [zr 98, zi a1, zi a2, zi 0] [] (zup σ 169 a1 0) Q) (k3 : (a2 ≠ (-1)) → (0 : Int) ≤ a2 ∧ a2 < (24 : Int)) (k4 : (a2 ≠ (-1)) → (0 ≤ σ 135 a2) → (0 : Int) ≤ a1 ∧ a1 < (13 : Int)) (k5 : (a2 ≠ (-1)) → (0 ≤ σ 135 a2) → zR G MX12_keeps 32 [zr 98, zi a1, zi a2, zi 0] [] (zup σ 169 a1 (σ 135 a2)) Q) (k6 : (a2 ≠ (-1)) → (σ 135 a2 < 0) → (0 : Int) ≤ a1 ∧ a1 < (13 : Int)) (k7 : (a2 ≠ (-1)) → (σ 135 a2 < 0) → zR G MX12_keeps 32 [zr 98, zi a1, zi a2, zi 0] [] (zup σ 169 a1 0) Q) : zO G MX12_keeps [zr 98, zi a1, zi a2] σ Q := by
  refine zO_of (ls0 := [zr 98, zi a1, zi a2, zu]) (by decide) (Nat.le_of_ble_eq_true rfl) rfl ?_
  refine z_aload_n dX12_keeps_0 rfl rfl ?_
  refine z_getfR (k := 94) flRX12_226 rfl rfl dX12_keeps_1 ?_
  refine z_iload_n dX12_keeps_4 rfl rfl ?_
  refine z_iload_n dX12_keeps_5 rfl rfl ?_
  refine z_iconst dX12_keeps_6 (by unfold zIn; decide) ?_
  refine z_icmp_eq dX12_keeps_7 (tgt := 19) (by decide) (fun h1 => ?_) (fun h1 => ?_)
  · skip
    refine z_iconst dX12_keeps_19 (by unfold zIn; decide) ?_
    refine z_goto dX12_keeps_20 (tgt := 29) (by decide) ?_
    have s1 : (0 : Int) ≤ a1 ∧ a1 < (13 : Int) := k1 h1
    refine z_iast rfl s1.1 s1.2 dX12_keeps_29 ?_
    refine z_iconst dX12_keeps_30 (by unfold zIn; decide) ?_
    refine z_istore_n (ls' := [zr 98, zi a1, zi a2, zi 0]) dX12_keeps_31 rfl (by decide) rfl ?_
    exact k2 h1
  · skip
    refine z_aload_n dX12_keeps_10 rfl rfl ?_
    refine z_getfR (k := 50) flRX12_124 rfl rfl dX12_keeps_11 ?_
    refine z_iload_n dX12_keeps_14 rfl rfl ?_
    have s3 : (0 : Int) ≤ a2 ∧ a2 < (24 : Int) := k3 h1
    refine z_iald rfl s3.1 s3.2 dX12_keeps_15 ?_
    refine z_if_ge dX12_keeps_16 (tgt := 23) (by decide) (fun h2 => ?_) (fun h2 => ?_)
    · skip
      refine z_aload_n dX12_keeps_23 rfl rfl ?_
      refine z_getfR (k := 50) flRX12_124 rfl rfl dX12_keeps_24 ?_
      refine z_iload_n dX12_keeps_27 rfl rfl ?_
      refine z_iald rfl s3.1 s3.2 dX12_keeps_28 ?_
      have s4 : (0 : Int) ≤ a1 ∧ a1 < (13 : Int) := k4 h1 h2
      refine z_iast rfl s4.1 s4.2 dX12_keeps_29 ?_
      refine z_iconst dX12_keeps_30 (by unfold zIn; decide) ?_
      refine z_istore_n (ls' := [zr 98, zi a1, zi a2, zi 0]) dX12_keeps_31 rfl (by decide) rfl ?_
      exact k5 h1 h2
    · skip
      refine z_iconst dX12_keeps_19 (by unfold zIn; decide) ?_
      refine z_goto dX12_keeps_20 (tgt := 29) (by decide) ?_
      have s6 : (0 : Int) ≤ a1 ∧ a1 < (13 : Int) := k6 h1 h2
      refine z_iast rfl s6.1 s6.2 dX12_keeps_29 ?_
      refine z_iconst dX12_keeps_30 (by unfold zIn; decide) ?_
      refine z_istore_n (ls' := [zr 98, zi a1, zi a2, zi 0]) dX12_keeps_31 rfl (by decide) rfl ?_
      exact k7 h1 h2
set_option maxRecDepth 20000 in
set_option maxHeartbeats 1000000 in
theorem TX12_keeps_32 {G : zG} {σ : zS} {Q : Int → zS → Prop} {v1 v2 v3 : Int}  (k1 : (0 : Int) ≤ v1 ∧ v1 < (13 : Int)) (k2 : (σ 169 v1 ≤ v3) → Q 0 σ) (k3 : (v3 < σ 169 v1) → -2147483648 ≤ 80 * v1 ∧ 80 * v1 < (2147483648 : Int)) (k4 : (v3 < σ 169 v1) → -2147483648 ≤ (80 * v1) + v3 ∧ (80 * v1) + v3 < (2147483648 : Int)) (k5 : (v3 < σ 169 v1) → -2147483648 ≤ 80 * v2 ∧ 80 * v2 < (2147483648 : Int)) (k6 : (v3 < σ 169 v1) → -2147483648 ≤ (80 * v2) + v3 ∧ (80 * v2) + v3 < (2147483648 : Int)) (k7 : (v3 < σ 169 v1) → (0 : Int) ≤ (80 * v2) + v3 ∧ (80 * v2) + v3 < (1920 : Int)) (k8 : (v3 < σ 169 v1) → (0 : Int) ≤ (80 * v1) + v3 ∧ (80 * v1) + v3 < (1040 : Int)) (k9 : (v3 < σ 169 v1) → -2147483648 ≤ v3 + 1 ∧ v3 + 1 < (2147483648 : Int)) (k10 : (v3 < σ 169 v1) → zR G MX12_keeps 32 [zr 98, zi v1, zi v2, zi (v3 + 1)] [] (zup σ 168 ((80 * v1) + v3) (σ 134 ((80 * v2) + v3))) Q) : zR G MX12_keeps 32 [zr 98, zi v1, zi v2, zi v3] [] σ Q := by
  refine z_iload_n dX12_keeps_32 rfl rfl ?_
  refine z_aload_n dX12_keeps_33 rfl rfl ?_
  refine z_getfR (k := 94) flRX12_226 rfl rfl dX12_keeps_34 ?_
  refine z_iload_n dX12_keeps_37 rfl rfl ?_
  have s1 : (0 : Int) ≤ v1 ∧ v1 < (13 : Int) := k1
  refine z_iald rfl s1.1 s1.2 dX12_keeps_38 ?_
  refine z_icmp_ge dX12_keeps_39 (tgt := 70) (by decide) (fun h1 => ?_) (fun h1 => ?_)
  · skip
    exact z_vret rfl dX12_keeps_70 (k2 h1)
  · skip
    refine z_aload_n dX12_keeps_42 rfl rfl ?_
    refine z_getfR (k := 93) flRX12_223 rfl rfl dX12_keeps_43 ?_
    refine z_bipush (x := 80) dX12_keeps_46 (by decide +kernel) (by unfold zIn; decide) ?_
    refine z_iload_n dX12_keeps_48 rfl rfl ?_
    have s3 : -2147483648 ≤ 80 * v1 ∧ 80 * v1 < (2147483648 : Int) := k3 h1
    refine z_imulN dX12_keeps_49 s3 ?_
    refine z_iload_n dX12_keeps_50 rfl rfl ?_
    have s4 : -2147483648 ≤ (80 * v1) + v3 ∧ (80 * v1) + v3 < (2147483648 : Int) := k4 h1
    refine z_iaddN dX12_keeps_51 s4 ?_
    refine z_aload_n dX12_keeps_52 rfl rfl ?_
    refine z_getfR (k := 49) flRX12_121 rfl rfl dX12_keeps_53 ?_
    refine z_bipush (x := 80) dX12_keeps_56 (by decide +kernel) (by unfold zIn; decide) ?_
    refine z_iload_n dX12_keeps_58 rfl rfl ?_
    have s5 : -2147483648 ≤ 80 * v2 ∧ 80 * v2 < (2147483648 : Int) := k5 h1
    refine z_imulN dX12_keeps_59 s5 ?_
    refine z_iload_n dX12_keeps_60 rfl rfl ?_
    have s6 : -2147483648 ≤ (80 * v2) + v3 ∧ (80 * v2) + v3 < (2147483648 : Int) := k6 h1
    refine z_iaddN dX12_keeps_61 s6 ?_
    have s7 : (0 : Int) ≤ (80 * v2) + v3 ∧ (80 * v2) + v3 < (1920 : Int) := k7 h1
    refine z_iald rfl s7.1 s7.2 dX12_keeps_62 ?_
    have s8 : (0 : Int) ≤ (80 * v1) + v3 ∧ (80 * v1) + v3 < (1040 : Int) := k8 h1
    refine z_iast rfl s8.1 s8.2 dX12_keeps_63 ?_
    have s9 : -2147483648 ≤ v3 + 1 ∧ v3 + 1 < (2147483648 : Int) := k9 h1
    refine z_iincN (ls' := [zr 98, zi v1, zi v2, zi (v3 + 1)]) dX12_keeps_64 rfl (by decide) s9 rfl ?_
    refine z_goto dX12_keeps_67 (tgt := 32) (by decide) ?_
    exact k10 h1
set_option maxRecDepth 20000 in
set_option maxHeartbeats 1000000 in
theorem TX12_choice {G : zG} {σ : zS} {Q : Int → zS → Prop} {a1 a2 : Int}  (k1 : zR G MX12_choice 2 [zr 98, zi a1, zi a2, zi 0, zu] [] σ Q) : zO G MX12_choice [zr 98, zi a1, zi a2] σ Q := by
  refine zO_of (ls0 := [zr 98, zi a1, zi a2, zu, zu]) (by decide) (Nat.le_of_ble_eq_true rfl) rfl ?_
  refine z_iconst dX12_choice_0 (by unfold zIn; decide) ?_
  refine z_istore_n (ls' := [zr 98, zi a1, zi a2, zi 0, zu]) dX12_choice_1 rfl (by decide) rfl ?_
  exact k1
set_option maxRecDepth 20000 in
set_option maxHeartbeats 1000000 in
theorem TX12_choice_2 {G : zG} {σ : zS} {Q : Int → zS → Prop} {v1 v2 v3 : Int}  (k1 : (0 : Int) ≤ v1 ∧ v1 < (13 : Int)) (k2 : (σ 169 v1 ≤ v3) → Q (-1) σ) (k3 : (v3 < σ 169 v1) → -2147483648 ≤ 80 * v1 ∧ 80 * v1 < (2147483648 : Int)) (k4 : (v3 < σ 169 v1) → -2147483648 ≤ (80 * v1) + v3 ∧ (80 * v1) + v3 < (2147483648 : Int)) (k5 : (v3 < σ 169 v1) → (0 : Int) ≤ (80 * v1) + v3 ∧ (80 * v1) + v3 < (1040 : Int)) (k6 : (v3 < σ 169 v1) → ((0 ≤ (σ 168 ((80 * v1) + v3)) ∧ (σ 168 ((80 * v1) + v3)) < σ 98 1)) → (zand (zshr v2 (σ 168 ((80 * v1) + v3))) 1 = 1) → Q (σ 168 ((80 * v1) + v3)) σ) (k7 : (v3 < σ 169 v1) → ((¬ ((0 ≤ (σ 168 ((80 * v1) + v3)) ∧ (σ 168 ((80 * v1) + v3)) < σ 98 1))) ∨ (((0 ≤ (σ 168 ((80 * v1) + v3)) ∧ (σ 168 ((80 * v1) + v3)) < σ 98 1)) ∧ zand (zshr v2 (σ 168 ((80 * v1) + v3))) 1 ≠ 1)) → -2147483648 ≤ v3 + 1 ∧ v3 + 1 < (2147483648 : Int)) (k8 : (v3 < σ 169 v1) → ((¬ ((0 ≤ (σ 168 ((80 * v1) + v3)) ∧ (σ 168 ((80 * v1) + v3)) < σ 98 1))) ∨ (((0 ≤ (σ 168 ((80 * v1) + v3)) ∧ (σ 168 ((80 * v1) + v3)) < σ 98 1)) ∧ zand (zshr v2 (σ 168 ((80 * v1) + v3))) 1 ≠ 1)) → zR G MX12_choice 2 [zr 98, zi v1, zi v2, zi (v3 + 1), zu] [] σ Q) : zR G MX12_choice 2 [zr 98, zi v1, zi v2, zi v3, zu] [] σ Q := by
  have J47 : (v3 < σ 169 v1) → ((¬ ((0 ≤ (σ 168 ((80 * v1) + v3)) ∧ (σ 168 ((80 * v1) + v3)) < σ 98 1))) ∨ (((0 ≤ (σ 168 ((80 * v1) + v3)) ∧ (σ 168 ((80 * v1) + v3)) < σ 98 1)) ∧ zand (zshr v2 (σ 168 ((80 * v1) + v3))) 1 ≠ 1)) → zR G MX12_choice 47 [zr 98, zi v1, zi v2, zi v3, zi (σ 168 ((80 * v1) + v3))] [] σ Q := by
    intro h1 h4
    have s7 : -2147483648 ≤ v3 + 1 ∧ v3 + 1 < (2147483648 : Int) := k7 h1 h4
    refine z_iincN (ls' := [zr 98, zi v1, zi v2, zi (v3 + 1), zi (σ 168 ((80 * v1) + v3))]) dX12_choice_47 rfl (by decide) s7 rfl ?_
    refine z_goto dX12_choice_50 (tgt := 2) (by decide) ?_
    exact zR_fg [false, false, false, false, true] (k8 h1 h4)
  refine z_iload_n dX12_choice_2 rfl rfl ?_
  refine z_aload_n dX12_choice_3 rfl rfl ?_
  refine z_getfR (k := 94) flRX12_226 rfl rfl dX12_choice_4 ?_
  refine z_iload_n dX12_choice_7 rfl rfl ?_
  have s1 : (0 : Int) ≤ v1 ∧ v1 < (13 : Int) := k1
  refine z_iald rfl s1.1 s1.2 dX12_choice_8 ?_
  refine z_icmp_ge dX12_choice_9 (tgt := 53) (by decide) (fun h1 => ?_) (fun h1 => ?_)
  · skip
    refine z_iconst dX12_choice_53 (by unfold zIn; decide) ?_
    exact z_ireti rfl dX12_choice_54 (k2 h1)
  · skip
    refine z_aload_n dX12_choice_12 rfl rfl ?_
    refine z_getfR (k := 93) flRX12_223 rfl rfl dX12_choice_13 ?_
    refine z_bipush (x := 80) dX12_choice_16 (by decide +kernel) (by unfold zIn; decide) ?_
    refine z_iload_n dX12_choice_18 rfl rfl ?_
    have s3 : -2147483648 ≤ 80 * v1 ∧ 80 * v1 < (2147483648 : Int) := k3 h1
    refine z_imulN dX12_choice_19 s3 ?_
    refine z_iload_n dX12_choice_20 rfl rfl ?_
    have s4 : -2147483648 ≤ (80 * v1) + v3 ∧ (80 * v1) + v3 < (2147483648 : Int) := k4 h1
    refine z_iaddN dX12_choice_21 s4 ?_
    have s5 : (0 : Int) ≤ (80 * v1) + v3 ∧ (80 * v1) + v3 < (1040 : Int) := k5 h1
    refine z_iald rfl s5.1 s5.2 dX12_choice_22 ?_
    refine z_istore (ls' := [zr 98, zi v1, zi v2, zi v3, zi (σ 168 ((80 * v1) + v3))]) dX12_choice_23 (by decide) rfl ?_
    refine z_aload_n dX12_choice_25 rfl rfl ?_
    refine z_iload dX12_choice_26 rfl ?_
    refine z_callv (as := [zi (σ 168 ((80 * v1) + v3))]) (st := []) mkX12_isOne lkRX12_271 rfl rfl rfl (by decide) (Nat.le_of_ble_eq_true rfl) rfl dX12_choice_28 ?_
    refine SX12_isOne ?_
    show zR G MX12_choice 31 [zr 98, zi v1, zi v2, zi v3, zi (σ 168 ((80 * v1) + v3))] [zi (if (0 ≤ (σ 168 ((80 * v1) + v3)) ∧ (σ 168 ((80 * v1) + v3)) < σ 98 1) then (1 : Int) else 0)] σ Q
    refine z_if_eq dX12_choice_31 (tgt := 47) (by decide) (fun z => ?_) (fun z => ?_)
    · have h2 : ¬ ((0 ≤ (σ 168 ((80 * v1) + v3)) ∧ (σ 168 ((80 * v1) + v3)) < σ 98 1)) := zb0 z
      exact J47 h1 (Or.inl h2)
    · have h2 : (0 ≤ (σ 168 ((80 * v1) + v3)) ∧ (σ 168 ((80 * v1) + v3)) < σ 98 1) := zb1 z
      refine z_iload_n dX12_choice_34 rfl rfl ?_
      refine z_iload dX12_choice_35 rfl ?_
      refine z_ishr dX12_choice_37 ?_
      refine z_iconst dX12_choice_38 (by unfold zIn; decide) ?_
      refine z_iand dX12_choice_39 ?_
      refine z_iconst dX12_choice_40 (by unfold zIn; decide) ?_
      refine z_icmp_ne dX12_choice_41 (tgt := 47) (by decide) (fun h3 => ?_) (fun h3 => ?_)
      · skip
        exact J47 h1 (Or.inr ⟨h2, h3⟩)
      · skip
        refine z_iload dX12_choice_44 rfl ?_
        exact z_ireti rfl dX12_choice_46 (k6 h1 h2 h3)
set_option maxRecDepth 20000 in
set_option maxHeartbeats 1000000 in
theorem TX12_elects {G : zG} {σ : zS} {Q : Int → zS → Prop} {a1 a2 : Int}  (k1 : zR G MX12_elects 5 [zr 98, zi a1, zi a2, zi a1, zi 0, zu, zu, zu, zu, zu] [] σ Q) : zO G MX12_elects [zr 98, zi a1, zi a2] σ Q := by
  refine zO_of (ls0 := [zr 98, zi a1, zi a2, zu, zu, zu, zu, zu, zu, zu]) (by decide) (Nat.le_of_ble_eq_true rfl) rfl ?_
  refine z_iload_n dX12_elects_0 rfl rfl ?_
  refine z_istore_n (ls' := [zr 98, zi a1, zi a2, zi a1, zu, zu, zu, zu, zu, zu]) dX12_elects_1 rfl (by decide) rfl ?_
  refine z_iconst dX12_elects_2 (by unfold zIn; decide) ?_
  refine z_istore (ls' := [zr 98, zi a1, zi a2, zi a1, zi 0, zu, zu, zu, zu, zu]) dX12_elects_3 (by decide) rfl ?_
  exact k1
set_option maxRecDepth 20000 in
set_option maxHeartbeats 1000000 in
theorem TX12_elects_5 {G : zG} {σ : zS} {Q : Int → zS → Prop} {v1 v2 v3 v4 : Int}  (k1 : zR G MX12_elects 14 [zr 98, zi v1, zi v2, zi v3, zi v4, zi 0, zi 0, zi 0, zu, zu] [] σ Q) : zR G MX12_elects 5 [zr 98, zi v1, zi v2, zi v3, zi v4, zu, zu, zu, zu, zu] [] σ Q := by
  refine z_iconst dX12_elects_5 (by unfold zIn; decide) ?_
  refine z_istore (ls' := [zr 98, zi v1, zi v2, zi v3, zi v4, zi 0, zu, zu, zu, zu]) dX12_elects_6 (by decide) rfl ?_
  refine z_iconst dX12_elects_8 (by unfold zIn; decide) ?_
  refine z_istore (ls' := [zr 98, zi v1, zi v2, zi v3, zi v4, zi 0, zi 0, zu, zu, zu]) dX12_elects_9 (by decide) rfl ?_
  refine z_iconst dX12_elects_11 (by unfold zIn; decide) ?_
  refine z_istore (ls' := [zr 98, zi v1, zi v2, zi v3, zi v4, zi 0, zi 0, zi 0, zu, zu]) dX12_elects_12 (by decide) rfl ?_
  exact k1
set_option maxRecDepth 20000 in
set_option maxHeartbeats 1000000 in
theorem TX12_elects_14 {G : zG} {σ : zS} {Q : Int → zS → Prop} {v1 v2 v3 v4 v5 v6 v7 : Int}  (k1 : (σ 98 1 ≤ v7) → zR G MX12_elects 51 [zr 98, zi v1, zi v2, zi v3, zi v4, zi v5, zi v6, zi 0, zu, zu] [] σ Q) (k2 : (v7 < σ 98 1) → (0 : Int) ≤ v7 ∧ v7 < (24 : Int)) (k3 : (v7 < σ 98 1) → -2147483648 ≤ v5 + zand (zshr v3 v7) 1 ∧ v5 + zand (zshr v3 v7) 1 < (2147483648 : Int)) (k4 : (v7 < σ 98 1) → -2147483648 ≤ v7 + 1 ∧ v7 + 1 < (2147483648 : Int)) (k5 : (v7 < σ 98 1) → zR G MX12_elects 14 [zr 98, zi v1, zi v2, zi v3, zi v4, zi (v5 + zand (zshr v3 v7) 1), zi v6, zi (v7 + 1), zu, zu] [] (zup σ 172 v7 0) Q) : zR G MX12_elects 14 [zr 98, zi v1, zi v2, zi v3, zi v4, zi v5, zi v6, zi v7, zu, zu] [] σ Q := by
  refine z_iload dX12_elects_14 rfl ?_
  refine z_aload_n dX12_elects_16 rfl rfl ?_
  refine z_getfI (k := 1) flRX12_256 rfl rfl dX12_elects_17 ?_
  refine z_icmp_ge dX12_elects_20 (tgt := 48) (by decide) (fun h1 => ?_) (fun h1 => ?_)
  · skip
    refine z_iconst dX12_elects_48 (by unfold zIn; decide) ?_
    refine z_istore (ls' := [zr 98, zi v1, zi v2, zi v3, zi v4, zi v5, zi v6, zi 0, zu, zu]) dX12_elects_49 (by decide) rfl ?_
    exact k1 h1
  · skip
    refine z_aload_n dX12_elects_23 rfl rfl ?_
    refine z_getfR (k := 97) flRX12_235 rfl rfl dX12_elects_24 ?_
    refine z_iload dX12_elects_27 rfl ?_
    refine z_iconst dX12_elects_29 (by unfold zIn; decide) ?_
    have s2 : (0 : Int) ≤ v7 ∧ v7 < (24 : Int) := k2 h1
    refine z_iast rfl s2.1 s2.2 dX12_elects_30 ?_
    refine z_iload dX12_elects_31 rfl ?_
    refine z_iload_n dX12_elects_33 rfl rfl ?_
    refine z_iload dX12_elects_34 rfl ?_
    refine z_ishr dX12_elects_36 ?_
    refine z_iconst dX12_elects_37 (by unfold zIn; decide) ?_
    refine z_iand dX12_elects_38 ?_
    have s3 : -2147483648 ≤ v5 + zand (zshr v3 v7) 1 ∧ v5 + zand (zshr v3 v7) 1 < (2147483648 : Int) := k3 h1
    refine z_iaddN dX12_elects_39 s3 ?_
    refine z_istore (ls' := [zr 98, zi v1, zi v2, zi v3, zi v4, zi (v5 + zand (zshr v3 v7) 1), zi v6, zi v7, zu, zu]) dX12_elects_40 (by decide) rfl ?_
    have s4 : -2147483648 ≤ v7 + 1 ∧ v7 + 1 < (2147483648 : Int) := k4 h1
    refine z_iincN (ls' := [zr 98, zi v1, zi v2, zi v3, zi v4, zi (v5 + zand (zshr v3 v7) 1), zi v6, zi (v7 + 1), zu, zu]) dX12_elects_42 rfl (by decide) s4 rfl ?_
    refine z_goto dX12_elects_45 (tgt := 14) (by decide) ?_
    exact k5 h1
set_option maxRecDepth 20000 in
set_option maxHeartbeats 1000000 in
theorem TX12_elects_51 {G : zG} {σ : zS} {Q : Int → zS → Prop} {v1 v2 v3 v4 v5 v6 v7 : Int}  (k1 : (σ 98 91 ≤ v7) → (v2 ≠ 0) → (0 : Int) ≤ v4 ∧ v4 < (24 : Int)) (k2 : (σ 98 91 ≤ v7) → (v2 ≠ 0) → zR G MX12_elects 113 [zr 98, zi v1, zi v2, zi v3, zi v4, zi v5, zi v6, zi 0, zu, zu] [] (zup σ 171 v4 v3) Q) (k3 : (v7 < σ 98 91) → zO G MX12_choice [zr 98, zi v7, zi v3] σ (fun rr σ' => zR G MX12_elects 67 [zr 98, zi v1, zi v2, zi v3, zi v4, zi v5, zi v6, zi v7, zu, zu] [zi rr] σ' Q)) (k4 : (σ 98 91 ≤ v7) → (v2 = 0) → zR G MX12_elects 165 [zr 98, zi v1, zi v2, zi v3, zi v4, zi v5, zi v6, zi (-1), zi (-1), zi 0] [] σ Q) : zR G MX12_elects 51 [zr 98, zi v1, zi v2, zi v3, zi v4, zi v5, zi v6, zi v7, zu, zu] [] σ Q := by
  have J156 : (σ 98 91 ≤ v7) → (v2 = 0) → zR G MX12_elects 156 [zr 98, zi v1, zi v2, zi v3, zi v4, zi v5, zi v6, zi v7, zu, zu] [] σ Q := by
    intro h1 h2
    refine z_iconst dX12_elects_156 (by unfold zIn; decide) ?_
    refine z_istore (ls' := [zr 98, zi v1, zi v2, zi v3, zi v4, zi v5, zi v6, zi (-1), zu, zu]) dX12_elects_157 (by decide) rfl ?_
    refine z_iconst dX12_elects_159 (by unfold zIn; decide) ?_
    refine z_istore (ls' := [zr 98, zi v1, zi v2, zi v3, zi v4, zi v5, zi v6, zi (-1), zi (-1), zu]) dX12_elects_160 (by decide) rfl ?_
    refine z_iconst dX12_elects_162 (by unfold zIn; decide) ?_
    refine z_istore (ls' := [zr 98, zi v1, zi v2, zi v3, zi v4, zi v5, zi v6, zi (-1), zi (-1), zi 0]) dX12_elects_163 (by decide) rfl ?_
    exact k4 h1 h2
  refine z_iload dX12_elects_51 rfl ?_
  refine z_aload_n dX12_elects_53 rfl rfl ?_
  refine z_getfI (k := 91) flRX12_386 rfl rfl dX12_elects_54 ?_
  refine z_icmp_ge dX12_elects_57 (tgt := 98) (by decide) (fun h1 => ?_) (fun h1 => ?_)
  · skip
    refine z_iload_n dX12_elects_98 rfl rfl ?_
    refine z_if_eq dX12_elects_99 (tgt := 156) (by decide) (fun h2 => ?_) (fun h2 => ?_)
    · skip
      exact J156 h1 h2
    · skip
      refine z_aload_n dX12_elects_102 rfl rfl ?_
      refine z_getfR (k := 96) flRX12_232 rfl rfl dX12_elects_103 ?_
      refine z_iload dX12_elects_106 rfl ?_
      refine z_iload_n dX12_elects_108 rfl rfl ?_
      have s1 : (0 : Int) ≤ v4 ∧ v4 < (24 : Int) := k1 h1 h2
      refine z_iast rfl s1.1 s1.2 dX12_elects_109 ?_
      refine z_iconst dX12_elects_110 (by unfold zIn; decide) ?_
      refine z_istore (ls' := [zr 98, zi v1, zi v2, zi v3, zi v4, zi v5, zi v6, zi 0, zu, zu]) dX12_elects_111 (by decide) rfl ?_
      exact k2 h1 h2
  · skip
    refine z_aload_n dX12_elects_60 rfl rfl ?_
    refine z_iload dX12_elects_61 rfl ?_
    refine z_iload_n dX12_elects_63 rfl rfl ?_
    refine z_callv (as := [zi v7, zi v3]) (st := []) mkX12_choice lkRX12_389 rfl rfl rfl (by decide) (Nat.le_of_ble_eq_true rfl) rfl dX12_elects_64 (k3 h1)
set_option maxRecDepth 20000 in
set_option maxHeartbeats 1000000 in
theorem TX12_elects_67 {G : zG} {σ : zS} {Q : Int → zS → Prop} {v1 v2 v3 v4 v5 v6 v7 r : Int}  (k1 : (r ≠ (-1)) → (0 : Int) ≤ r ∧ r < (24 : Int)) (k2 : (r ≠ (-1)) → -2147483648 ≤ σ 172 r + 1 ∧ σ 172 r + 1 < (2147483648 : Int)) (k3 : (r ≠ (-1)) → -2147483648 ≤ v6 + 1 ∧ v6 + 1 < (2147483648 : Int)) (k4 : (r ≠ (-1)) → -2147483648 ≤ v7 + 1 ∧ v7 + 1 < (2147483648 : Int)) (k5 : (r ≠ (-1)) → zR G MX12_elects 51 [zr 98, zi v1, zi v2, zi v3, zi v4, zi v5, zi (v6 + 1), zi (v7 + 1), zu, zu] [] (zup σ 172 r (σ 172 r + 1)) Q) (k6 : (r = (-1)) → -2147483648 ≤ v7 + 1 ∧ v7 + 1 < (2147483648 : Int)) (k7 : (r = (-1)) → zR G MX12_elects 51 [zr 98, zi v1, zi v2, zi v3, zi v4, zi v5, zi v6, zi (v7 + 1), zu, zu] [] σ Q) : zR G MX12_elects 67 [zr 98, zi v1, zi v2, zi v3, zi v4, zi v5, zi v6, zi v7, zu, zu] [zi r] σ Q := by
  have J92_1 : (r = (-1)) → zR G MX12_elects 92 [zr 98, zi v1, zi v2, zi v3, zi v4, zi v5, zi v6, zi v7, zi r, zu] [] σ Q := by
    intro h1
    have s6 : -2147483648 ≤ v7 + 1 ∧ v7 + 1 < (2147483648 : Int) := k6 h1
    refine z_iincN (ls' := [zr 98, zi v1, zi v2, zi v3, zi v4, zi v5, zi v6, zi (v7 + 1), zi r, zu]) dX12_elects_92 rfl (by decide) s6 rfl ?_
    refine z_goto dX12_elects_95 (tgt := 51) (by decide) ?_
    exact zR_fg [false, false, false, false, false, false, false, false, true, false] (k7 h1)
  have J92 : (r ≠ (-1)) → zR G MX12_elects 92 [zr 98, zi v1, zi v2, zi v3, zi v4, zi v5, zi (v6 + 1), zi v7, zi r, zu] [] (zup σ 172 r (σ 172 r + 1)) Q := by
    intro h1
    have s4 : -2147483648 ≤ v7 + 1 ∧ v7 + 1 < (2147483648 : Int) := k4 h1
    refine z_iincN (ls' := [zr 98, zi v1, zi v2, zi v3, zi v4, zi v5, zi (v6 + 1), zi (v7 + 1), zi r, zu]) dX12_elects_92 rfl (by decide) s4 rfl ?_
    refine z_goto dX12_elects_95 (tgt := 51) (by decide) ?_
    exact zR_fg [false, false, false, false, false, false, false, false, true, false] (k5 h1)
  refine z_istore (ls' := [zr 98, zi v1, zi v2, zi v3, zi v4, zi v5, zi v6, zi v7, zi r, zu]) dX12_elects_67 (by decide) rfl ?_
  refine z_iload dX12_elects_69 rfl ?_
  refine z_iconst dX12_elects_71 (by unfold zIn; decide) ?_
  refine z_icmp_ne dX12_elects_72 (tgt := 78) (by decide) (fun h1 => ?_) (fun h1 => ?_)
  · skip
    refine z_aload_n dX12_elects_78 rfl rfl ?_
    refine z_getfR (k := 97) flRX12_235 rfl rfl dX12_elects_79 ?_
    refine z_iload dX12_elects_82 rfl ?_
    refine z_dup2 dX12_elects_84 rfl rfl ?_
    have s1 : (0 : Int) ≤ r ∧ r < (24 : Int) := k1 h1
    refine z_iald rfl s1.1 s1.2 dX12_elects_85 ?_
    refine z_iconst dX12_elects_86 (by unfold zIn; decide) ?_
    have s2 : -2147483648 ≤ σ 172 r + 1 ∧ σ 172 r + 1 < (2147483648 : Int) := k2 h1
    refine z_iaddN dX12_elects_87 s2 ?_
    refine z_iast rfl s1.1 s1.2 dX12_elects_88 ?_
    have s3 : -2147483648 ≤ v6 + 1 ∧ v6 + 1 < (2147483648 : Int) := k3 h1
    refine z_iincN (ls' := [zr 98, zi v1, zi v2, zi v3, zi v4, zi v5, zi (v6 + 1), zi v7, zi r, zu]) dX12_elects_89 rfl (by decide) s3 rfl ?_
    exact J92 h1
  · skip
    refine z_goto dX12_elects_75 (tgt := 92) (by decide) ?_
    exact J92_1 h1
set_option maxRecDepth 20000 in
set_option maxHeartbeats 1000000 in
theorem TX12_elects_113 {G : zG} {σ : zS} {Q : Int → zS → Prop} {v1 v2 v3 v4 v5 v6 v7 : Int}  (k1 : (σ 98 1 ≤ v7) → -2147483648 ≤ v4 + 1 ∧ v4 + 1 < (2147483648 : Int)) (k2 : (v7 < σ 98 1) → -2147483648 ≤ 24 * v4 ∧ 24 * v4 < (2147483648 : Int)) (k3 : (v7 < σ 98 1) → -2147483648 ≤ (24 * v4) + v7 ∧ (24 * v4) + v7 < (2147483648 : Int)) (k4 : (v7 < σ 98 1) → (0 : Int) ≤ v7 ∧ v7 < (24 : Int)) (k5 : (v7 < σ 98 1) → (0 : Int) ≤ (24 * v4) + v7 ∧ (24 * v4) + v7 < (576 : Int)) (k6 : (v7 < σ 98 1) → -2147483648 ≤ v7 + 1 ∧ v7 + 1 < (2147483648 : Int)) (k7 : (v7 < σ 98 1) → zR G MX12_elects 113 [zr 98, zi v1, zi v2, zi v3, zi v4, zi v5, zi v6, zi (v7 + 1), zu, zu] [] (zup σ 170 ((24 * v4) + v7) (σ 172 v7)) Q) (k8 : (σ 98 1 ≤ v7) → zR G MX12_elects 165 [zr 98, zi v1, zi v2, zi v3, zi v4, zi v5, zi v6, zi (-1), zi (-1), zi 0] [] (zup σ 98 92 (v4 + 1)) Q) : zR G MX12_elects 113 [zr 98, zi v1, zi v2, zi v3, zi v4, zi v5, zi v6, zi v7, zu, zu] [] σ Q := by
  have J156 : (σ 98 1 ≤ v7) → zR G MX12_elects 156 [zr 98, zi v1, zi v2, zi v3, zi v4, zi v5, zi v6, zi v7, zu, zu] [] (zup σ 98 92 (v4 + 1)) Q := by
    intro h1
    refine z_iconst dX12_elects_156 (by unfold zIn; decide) ?_
    refine z_istore (ls' := [zr 98, zi v1, zi v2, zi v3, zi v4, zi v5, zi v6, zi (-1), zu, zu]) dX12_elects_157 (by decide) rfl ?_
    refine z_iconst dX12_elects_159 (by unfold zIn; decide) ?_
    refine z_istore (ls' := [zr 98, zi v1, zi v2, zi v3, zi v4, zi v5, zi v6, zi (-1), zi (-1), zu]) dX12_elects_160 (by decide) rfl ?_
    refine z_iconst dX12_elects_162 (by unfold zIn; decide) ?_
    refine z_istore (ls' := [zr 98, zi v1, zi v2, zi v3, zi v4, zi v5, zi v6, zi (-1), zi (-1), zi 0]) dX12_elects_163 (by decide) rfl ?_
    exact k8 h1
  refine z_iload dX12_elects_113 rfl ?_
  refine z_aload_n dX12_elects_115 rfl rfl ?_
  refine z_getfI (k := 1) flRX12_256 rfl rfl dX12_elects_116 ?_
  refine z_icmp_ge dX12_elects_119 (tgt := 148) (by decide) (fun h1 => ?_) (fun h1 => ?_)
  · skip
    refine z_aload_n dX12_elects_148 rfl rfl ?_
    refine z_iload dX12_elects_149 rfl ?_
    refine z_iconst dX12_elects_151 (by unfold zIn; decide) ?_
    have s1 : -2147483648 ≤ v4 + 1 ∧ v4 + 1 < (2147483648 : Int) := k1 h1
    refine z_iaddN dX12_elects_152 s1 ?_
    refine z_putI (k := 92) fpRX12_392 rfl rfl dX12_elects_153 ?_
    exact J156 h1
  · skip
    refine z_aload_n dX12_elects_122 rfl rfl ?_
    refine z_getfR (k := 95) flRX12_229 rfl rfl dX12_elects_123 ?_
    refine z_bipush (x := 24) dX12_elects_126 (by decide +kernel) (by unfold zIn; decide) ?_
    refine z_iload dX12_elects_128 rfl ?_
    have s2 : -2147483648 ≤ 24 * v4 ∧ 24 * v4 < (2147483648 : Int) := k2 h1
    refine z_imulN dX12_elects_130 s2 ?_
    refine z_iload dX12_elects_131 rfl ?_
    have s3 : -2147483648 ≤ (24 * v4) + v7 ∧ (24 * v4) + v7 < (2147483648 : Int) := k3 h1
    refine z_iaddN dX12_elects_133 s3 ?_
    refine z_aload_n dX12_elects_134 rfl rfl ?_
    refine z_getfR (k := 97) flRX12_235 rfl rfl dX12_elects_135 ?_
    refine z_iload dX12_elects_138 rfl ?_
    have s4 : (0 : Int) ≤ v7 ∧ v7 < (24 : Int) := k4 h1
    refine z_iald rfl s4.1 s4.2 dX12_elects_140 ?_
    have s5 : (0 : Int) ≤ (24 * v4) + v7 ∧ (24 * v4) + v7 < (576 : Int) := k5 h1
    refine z_iast rfl s5.1 s5.2 dX12_elects_141 ?_
    have s6 : -2147483648 ≤ v7 + 1 ∧ v7 + 1 < (2147483648 : Int) := k6 h1
    refine z_iincN (ls' := [zr 98, zi v1, zi v2, zi v3, zi v4, zi v5, zi v6, zi (v7 + 1), zu, zu]) dX12_elects_142 rfl (by decide) s6 rfl ?_
    refine z_goto dX12_elects_145 (tgt := 113) (by decide) ?_
    exact k7 h1
set_option maxRecDepth 20000 in
set_option maxHeartbeats 1000000 in
theorem TX12_elects_165 {G : zG} {σ : zS} {Q : Int → zS → Prop} {v1 v2 v3 v4 v5 v6 v7 v8 v9 : Int}  (k1 : (σ 98 1 ≤ v9) → (v5 ≠ 2) → -2147483648 ≤ v4 + 1 ∧ v4 + 1 < (2147483648 : Int)) (k2 : (σ 98 1 ≤ v9) → (v5 ≠ 2) → zR G MX12_elects 5 [zr 98, zi v1, zi v2, zi (zand v3 (zxor (zshl 1 v7) (-1))), zi (v4 + 1), zu, zu, zu, zu, zu] [] σ Q) (k3 : (σ 98 1 ≤ v9) → (v5 = 2) → zO G MX12_choice [zr 98, zi 12, zi v3] σ (fun rr σ' => zR G MX12_elects 316 [zr 98, zi v1, zi v2, zi v3, zi v4, zi v5, zi v6, zi v7, zi v8, zi v9] [zi rr] σ' Q)) (k4 : (v9 < σ 98 1) → (zand (zshr v3 v9) 1 ≠ 0) → (v5 ≠ 1) → (0 : Int) ≤ v9 ∧ v9 < (24 : Int)) (k5 : (v9 < σ 98 1) → (zand (zshr v3 v9) 1 ≠ 0) → (v5 ≠ 1) → -2147483648 ≤ 2 * σ 172 v9 ∧ 2 * σ 172 v9 < (2147483648 : Int)) (k6 : (v9 < σ 98 1) → (zand (zshr v3 v9) 1 ≠ 0) → (v5 ≠ 1) → (2 * σ 172 v9 ≤ v6) → (v7 ≠ (-1)) → (0 : Int) ≤ v7 ∧ v7 < (24 : Int)) (k7 : (v9 < σ 98 1) → (zand (zshr v3 v9) 1 ≠ 0) → (v5 = 1 ∨ (v5 ≠ 1 ∧ v6 < 2 * σ 172 v9)) → Q v9 σ) (k8 : (v9 < σ 98 1) → (zand (zshr v3 v9) 1 ≠ 0) → (v5 ≠ 1) → (2 * σ 172 v9 ≤ v6) → (v7 ≠ (-1)) → (σ 172 v7 ≤ σ 172 v9) → (σ 172 v9 ≠ σ 172 v7 ∨ (σ 172 v9 = σ 172 v7 ∧ σ 99 v9 < σ 99 v7)) → (v8 ≠ (-1)) → (0 : Int) ≤ v9 ∧ v9 < (24 : Int)) (k9 : (v9 < σ 98 1) → (zand (zshr v3 v9) 1 ≠ 0) → (v5 ≠ 1) → (2 * σ 172 v9 ≤ v6) → (v7 ≠ (-1)) → (σ 172 v7 ≤ σ 172 v9) → (σ 172 v9 ≠ σ 172 v7 ∨ (σ 172 v9 = σ 172 v7 ∧ σ 99 v9 < σ 99 v7)) → (v8 ≠ (-1)) → (0 : Int) ≤ v8 ∧ v8 < (24 : Int)) (k10 : (v9 < σ 98 1) → (zand (zshr v3 v9) 1 ≠ 0) → (v5 ≠ 1) → (2 * σ 172 v9 ≤ v6) → (v7 = (-1) ∨ (v7 ≠ (-1) ∧ σ 172 v9 < σ 172 v7) ∨ (v7 ≠ (-1) ∧ σ 172 v7 ≤ σ 172 v9 ∧ σ 172 v9 = σ 172 v7 ∧ σ 99 v7 ≤ σ 99 v9)) → (v8 ≠ (-1)) → (0 : Int) ≤ v9 ∧ v9 < (24 : Int)) (k11 : (v9 < σ 98 1) → (zand (zshr v3 v9) 1 ≠ 0) → (v5 ≠ 1) → (2 * σ 172 v9 ≤ v6) → (v7 = (-1) ∨ (v7 ≠ (-1) ∧ σ 172 v9 < σ 172 v7) ∨ (v7 ≠ (-1) ∧ σ 172 v7 ≤ σ 172 v9 ∧ σ 172 v9 = σ 172 v7 ∧ σ 99 v7 ≤ σ 99 v9)) → (v8 ≠ (-1)) → (0 : Int) ≤ v8 ∧ v8 < (24 : Int)) (k12 : (v9 < σ 98 1) → (zand (zshr v3 v9) 1 = 0 ∨ (zand (zshr v3 v9) 1 ≠ 0 ∧ v5 ≠ 1 ∧ 2 * σ 172 v9 ≤ v6 ∧ v7 ≠ (-1) ∧ σ 172 v7 ≤ σ 172 v9 ∧ (σ 172 v9 ≠ σ 172 v7 ∨ (σ 172 v9 = σ 172 v7 ∧ σ 99 v9 < σ 99 v7)) ∧ v8 ≠ (-1) ∧ σ 99 v8 ≤ σ 99 v9)) → -2147483648 ≤ v9 + 1 ∧ v9 + 1 < (2147483648 : Int)) (k13 : (v9 < σ 98 1) → (zand (zshr v3 v9) 1 = 0 ∨ (zand (zshr v3 v9) 1 ≠ 0 ∧ v5 ≠ 1 ∧ 2 * σ 172 v9 ≤ v6 ∧ v7 ≠ (-1) ∧ σ 172 v7 ≤ σ 172 v9 ∧ (σ 172 v9 ≠ σ 172 v7 ∨ (σ 172 v9 = σ 172 v7 ∧ σ 99 v9 < σ 99 v7)) ∧ v8 ≠ (-1) ∧ σ 99 v8 ≤ σ 99 v9)) → zR G MX12_elects 165 [zr 98, zi v1, zi v2, zi v3, zi v4, zi v5, zi v6, zi v7, zi v8, zi (v9 + 1)] [] σ Q) (k14 : (v9 < σ 98 1) → (zand (zshr v3 v9) 1 ≠ 0) → (v5 ≠ 1) → (2 * σ 172 v9 ≤ v6) → (v7 = (-1) ∨ (v7 ≠ (-1) ∧ σ 172 v9 < σ 172 v7) ∨ (v7 ≠ (-1) ∧ σ 172 v7 ≤ σ 172 v9 ∧ σ 172 v9 = σ 172 v7 ∧ σ 99 v7 ≤ σ 99 v9)) → (v8 ≠ (-1)) → (σ 99 v8 ≤ σ 99 v9) → -2147483648 ≤ v9 + 1 ∧ v9 + 1 < (2147483648 : Int)) (k15 : (v9 < σ 98 1) → (zand (zshr v3 v9) 1 ≠ 0) → (v5 ≠ 1) → (2 * σ 172 v9 ≤ v6) → (v7 = (-1) ∨ (v7 ≠ (-1) ∧ σ 172 v9 < σ 172 v7) ∨ (v7 ≠ (-1) ∧ σ 172 v7 ≤ σ 172 v9 ∧ σ 172 v9 = σ 172 v7 ∧ σ 99 v7 ≤ σ 99 v9)) → (v8 ≠ (-1)) → (σ 99 v8 ≤ σ 99 v9) → zR G MX12_elects 165 [zr 98, zi v1, zi v2, zi v3, zi v4, zi v5, zi v6, zi v9, zi v8, zi (v9 + 1)] [] σ Q) (k16 : (v9 < σ 98 1) → (zand (zshr v3 v9) 1 ≠ 0) → (v5 ≠ 1) → (2 * σ 172 v9 ≤ v6) → (v7 ≠ (-1)) → (σ 172 v7 ≤ σ 172 v9) → (σ 172 v9 ≠ σ 172 v7 ∨ (σ 172 v9 = σ 172 v7 ∧ σ 99 v9 < σ 99 v7)) → (v8 = (-1) ∨ (v8 ≠ (-1) ∧ σ 99 v9 < σ 99 v8)) → -2147483648 ≤ v9 + 1 ∧ v9 + 1 < (2147483648 : Int)) (k17 : (v9 < σ 98 1) → (zand (zshr v3 v9) 1 ≠ 0) → (v5 ≠ 1) → (2 * σ 172 v9 ≤ v6) → (v7 ≠ (-1)) → (σ 172 v7 ≤ σ 172 v9) → (σ 172 v9 ≠ σ 172 v7 ∨ (σ 172 v9 = σ 172 v7 ∧ σ 99 v9 < σ 99 v7)) → (v8 = (-1) ∨ (v8 ≠ (-1) ∧ σ 99 v9 < σ 99 v8)) → zR G MX12_elects 165 [zr 98, zi v1, zi v2, zi v3, zi v4, zi v5, zi v6, zi v7, zi v9, zi (v9 + 1)] [] σ Q) (k18 : (v9 < σ 98 1) → (zand (zshr v3 v9) 1 ≠ 0) → (v5 ≠ 1) → (2 * σ 172 v9 ≤ v6) → (v7 = (-1) ∨ (v7 ≠ (-1) ∧ σ 172 v9 < σ 172 v7) ∨ (v7 ≠ (-1) ∧ σ 172 v7 ≤ σ 172 v9 ∧ σ 172 v9 = σ 172 v7 ∧ σ 99 v7 ≤ σ 99 v9)) → (v8 = (-1) ∨ (v8 ≠ (-1) ∧ σ 99 v9 < σ 99 v8)) → -2147483648 ≤ v9 + 1 ∧ v9 + 1 < (2147483648 : Int)) (k19 : (v9 < σ 98 1) → (zand (zshr v3 v9) 1 ≠ 0) → (v5 ≠ 1) → (2 * σ 172 v9 ≤ v6) → (v7 = (-1) ∨ (v7 ≠ (-1) ∧ σ 172 v9 < σ 172 v7) ∨ (v7 ≠ (-1) ∧ σ 172 v7 ≤ σ 172 v9 ∧ σ 172 v9 = σ 172 v7 ∧ σ 99 v7 ≤ σ 99 v9)) → (v8 = (-1) ∨ (v8 ≠ (-1) ∧ σ 99 v9 < σ 99 v8)) → zR G MX12_elects 165 [zr 98, zi v1, zi v2, zi v3, zi v4, zi v5, zi v6, zi v9, zi v9, zi (v9 + 1)] [] σ Q) : zR G MX12_elects 165 [zr 98, zi v1, zi v2, zi v3, zi v4, zi v5, zi v6, zi v7, zi v8, zi v9] [] σ Q := by
  have J297_3 : (v9 < σ 98 1) → (zand (zshr v3 v9) 1 ≠ 0) → (v5 ≠ 1) → (2 * σ 172 v9 ≤ v6) → (v7 = (-1) ∨ (v7 ≠ (-1) ∧ σ 172 v9 < σ 172 v7) ∨ (v7 ≠ (-1) ∧ σ 172 v7 ≤ σ 172 v9 ∧ σ 172 v9 = σ 172 v7 ∧ σ 99 v7 ≤ σ 99 v9)) → (v8 = (-1) ∨ (v8 ≠ (-1) ∧ σ 99 v9 < σ 99 v8)) → zR G MX12_elects 297 [zr 98, zi v1, zi v2, zi v3, zi v4, zi v5, zi v6, zi v9, zi v9, zi v9] [] σ Q := by
    intro h1 h3 h4 h5 h11 h18
    have s18 : -2147483648 ≤ v9 + 1 ∧ v9 + 1 < (2147483648 : Int) := k18 h1 h3 h4 h5 h11 h18
    refine z_iincN (ls' := [zr 98, zi v1, zi v2, zi v3, zi v4, zi v5, zi v6, zi v9, zi v9, zi (v9 + 1)]) dX12_elects_297 rfl (by decide) s18 rfl ?_
    refine z_goto dX12_elects_300 (tgt := 165) (by decide) ?_
    exact k19 h1 h3 h4 h5 h11 h18
  have J297_2 : (v9 < σ 98 1) → (zand (zshr v3 v9) 1 ≠ 0) → (v5 ≠ 1) → (2 * σ 172 v9 ≤ v6) → (v7 ≠ (-1)) → (σ 172 v7 ≤ σ 172 v9) → (σ 172 v9 ≠ σ 172 v7 ∨ (σ 172 v9 = σ 172 v7 ∧ σ 99 v9 < σ 99 v7)) → (v8 = (-1) ∨ (v8 ≠ (-1) ∧ σ 99 v9 < σ 99 v8)) → zR G MX12_elects 297 [zr 98, zi v1, zi v2, zi v3, zi v4, zi v5, zi v6, zi v7, zi v9, zi v9] [] σ Q := by
    intro h1 h3 h4 h5 h6 h7 h12 h17
    have s16 : -2147483648 ≤ v9 + 1 ∧ v9 + 1 < (2147483648 : Int) := k16 h1 h3 h4 h5 h6 h7 h12 h17
    refine z_iincN (ls' := [zr 98, zi v1, zi v2, zi v3, zi v4, zi v5, zi v6, zi v7, zi v9, zi (v9 + 1)]) dX12_elects_297 rfl (by decide) s16 rfl ?_
    refine z_goto dX12_elects_300 (tgt := 165) (by decide) ?_
    exact k17 h1 h3 h4 h5 h6 h7 h12 h17
  have J297_1 : (v9 < σ 98 1) → (zand (zshr v3 v9) 1 ≠ 0) → (v5 ≠ 1) → (2 * σ 172 v9 ≤ v6) → (v7 = (-1) ∨ (v7 ≠ (-1) ∧ σ 172 v9 < σ 172 v7) ∨ (v7 ≠ (-1) ∧ σ 172 v7 ≤ σ 172 v9 ∧ σ 172 v9 = σ 172 v7 ∧ σ 99 v7 ≤ σ 99 v9)) → (v8 ≠ (-1)) → (σ 99 v8 ≤ σ 99 v9) → zR G MX12_elects 297 [zr 98, zi v1, zi v2, zi v3, zi v4, zi v5, zi v6, zi v9, zi v8, zi v9] [] σ Q := by
    intro h1 h3 h4 h5 h11 h15 h16
    have s14 : -2147483648 ≤ v9 + 1 ∧ v9 + 1 < (2147483648 : Int) := k14 h1 h3 h4 h5 h11 h15 h16
    refine z_iincN (ls' := [zr 98, zi v1, zi v2, zi v3, zi v4, zi v5, zi v6, zi v9, zi v8, zi (v9 + 1)]) dX12_elects_297 rfl (by decide) s14 rfl ?_
    refine z_goto dX12_elects_300 (tgt := 165) (by decide) ?_
    exact k15 h1 h3 h4 h5 h11 h15 h16
  have J297 : (v9 < σ 98 1) → (zand (zshr v3 v9) 1 = 0 ∨ (zand (zshr v3 v9) 1 ≠ 0 ∧ v5 ≠ 1 ∧ 2 * σ 172 v9 ≤ v6 ∧ v7 ≠ (-1) ∧ σ 172 v7 ≤ σ 172 v9 ∧ (σ 172 v9 ≠ σ 172 v7 ∨ (σ 172 v9 = σ 172 v7 ∧ σ 99 v9 < σ 99 v7)) ∧ v8 ≠ (-1) ∧ σ 99 v8 ≤ σ 99 v9)) → zR G MX12_elects 297 [zr 98, zi v1, zi v2, zi v3, zi v4, zi v5, zi v6, zi v7, zi v8, zi v9] [] σ Q := by
    intro h1 h19
    have s12 : -2147483648 ≤ v9 + 1 ∧ v9 + 1 < (2147483648 : Int) := k12 h1 h19
    refine z_iincN (ls' := [zr 98, zi v1, zi v2, zi v3, zi v4, zi v5, zi v6, zi v7, zi v8, zi (v9 + 1)]) dX12_elects_297 rfl (by decide) s12 rfl ?_
    refine z_goto dX12_elects_300 (tgt := 165) (by decide) ?_
    exact k13 h1 h19
  have J293_1 : (v9 < σ 98 1) → (zand (zshr v3 v9) 1 ≠ 0) → (v5 ≠ 1) → (2 * σ 172 v9 ≤ v6) → (v7 = (-1) ∨ (v7 ≠ (-1) ∧ σ 172 v9 < σ 172 v7) ∨ (v7 ≠ (-1) ∧ σ 172 v7 ≤ σ 172 v9 ∧ σ 172 v9 = σ 172 v7 ∧ σ 99 v7 ≤ σ 99 v9)) → (v8 = (-1) ∨ (v8 ≠ (-1) ∧ σ 99 v9 < σ 99 v8)) → zR G MX12_elects 293 [zr 98, zi v1, zi v2, zi v3, zi v4, zi v5, zi v6, zi v9, zi v8, zi v9] [] σ Q := by
    intro h1 h3 h4 h5 h11 h18
    refine z_iload dX12_elects_293 rfl ?_
    refine z_istore (ls' := [zr 98, zi v1, zi v2, zi v3, zi v4, zi v5, zi v6, zi v9, zi v9, zi v9]) dX12_elects_295 (by decide) rfl ?_
    exact J297_3 h1 h3 h4 h5 h11 h18
  have J293 : (v9 < σ 98 1) → (zand (zshr v3 v9) 1 ≠ 0) → (v5 ≠ 1) → (2 * σ 172 v9 ≤ v6) → (v7 ≠ (-1)) → (σ 172 v7 ≤ σ 172 v9) → (σ 172 v9 ≠ σ 172 v7 ∨ (σ 172 v9 = σ 172 v7 ∧ σ 99 v9 < σ 99 v7)) → (v8 = (-1) ∨ (v8 ≠ (-1) ∧ σ 99 v9 < σ 99 v8)) → zR G MX12_elects 293 [zr 98, zi v1, zi v2, zi v3, zi v4, zi v5, zi v6, zi v7, zi v8, zi v9] [] σ Q := by
    intro h1 h3 h4 h5 h6 h7 h12 h17
    refine z_iload dX12_elects_293 rfl ?_
    refine z_istore (ls' := [zr 98, zi v1, zi v2, zi v3, zi v4, zi v5, zi v6, zi v7, zi v9, zi v9]) dX12_elects_295 (by decide) rfl ?_
    exact J297_2 h1 h3 h4 h5 h6 h7 h12 h17
  have J270_1 : (v9 < σ 98 1) → (zand (zshr v3 v9) 1 ≠ 0) → (v5 ≠ 1) → (2 * σ 172 v9 ≤ v6) → (v7 = (-1) ∨ (v7 ≠ (-1) ∧ σ 172 v9 < σ 172 v7) ∨ (v7 ≠ (-1) ∧ σ 172 v7 ≤ σ 172 v9 ∧ σ 172 v9 = σ 172 v7 ∧ σ 99 v7 ≤ σ 99 v9)) → zR G MX12_elects 270 [zr 98, zi v1, zi v2, zi v3, zi v4, zi v5, zi v6, zi v9, zi v8, zi v9] [] σ Q := by
    intro h1 h3 h4 h5 h11
    refine z_iload dX12_elects_270 rfl ?_
    refine z_iconst dX12_elects_272 (by unfold zIn; decide) ?_
    refine z_icmp_eq dX12_elects_273 (tgt := 293) (by decide) (fun h15 => ?_) (fun h15 => ?_)
    · skip
      exact J293_1 h1 h3 h4 h5 h11 (Or.inl h15)
    · skip
      refine z_aload_n dX12_elects_276 rfl rfl ?_
      refine z_getfR (k := 13) flRX12_13 rfl rfl dX12_elects_277 ?_
      refine z_iload dX12_elects_280 rfl ?_
      have s10 : (0 : Int) ≤ v9 ∧ v9 < (24 : Int) := k10 h1 h3 h4 h5 h11 h15
      refine z_iald rfl s10.1 s10.2 dX12_elects_282 ?_
      refine z_aload_n dX12_elects_283 rfl rfl ?_
      refine z_getfR (k := 13) flRX12_13 rfl rfl dX12_elects_284 ?_
      refine z_iload dX12_elects_287 rfl ?_
      have s11 : (0 : Int) ≤ v8 ∧ v8 < (24 : Int) := k11 h1 h3 h4 h5 h11 h15
      refine z_iald rfl s11.1 s11.2 dX12_elects_289 ?_
      refine z_icmp_ge dX12_elects_290 (tgt := 297) (by decide) (fun h16 => ?_) (fun h16 => ?_)
      · skip
        exact J297_1 h1 h3 h4 h5 h11 h15 h16
      · skip
        exact J293_1 h1 h3 h4 h5 h11 (Or.inr ⟨h15, h16⟩)
  have J270 : (v9 < σ 98 1) → (zand (zshr v3 v9) 1 ≠ 0) → (v5 ≠ 1) → (2 * σ 172 v9 ≤ v6) → (v7 ≠ (-1)) → (σ 172 v7 ≤ σ 172 v9) → (σ 172 v9 ≠ σ 172 v7 ∨ (σ 172 v9 = σ 172 v7 ∧ σ 99 v9 < σ 99 v7)) → zR G MX12_elects 270 [zr 98, zi v1, zi v2, zi v3, zi v4, zi v5, zi v6, zi v7, zi v8, zi v9] [] σ Q := by
    intro h1 h3 h4 h5 h6 h7 h12
    refine z_iload dX12_elects_270 rfl ?_
    refine z_iconst dX12_elects_272 (by unfold zIn; decide) ?_
    refine z_icmp_eq dX12_elects_273 (tgt := 293) (by decide) (fun h13 => ?_) (fun h13 => ?_)
    · skip
      exact J293 h1 h3 h4 h5 h6 h7 h12 (Or.inl h13)
    · skip
      refine z_aload_n dX12_elects_276 rfl rfl ?_
      refine z_getfR (k := 13) flRX12_13 rfl rfl dX12_elects_277 ?_
      refine z_iload dX12_elects_280 rfl ?_
      have s8 : (0 : Int) ≤ v9 ∧ v9 < (24 : Int) := k8 h1 h3 h4 h5 h6 h7 h12 h13
      refine z_iald rfl s8.1 s8.2 dX12_elects_282 ?_
      refine z_aload_n dX12_elects_283 rfl rfl ?_
      refine z_getfR (k := 13) flRX12_13 rfl rfl dX12_elects_284 ?_
      refine z_iload dX12_elects_287 rfl ?_
      have s9 : (0 : Int) ≤ v8 ∧ v8 < (24 : Int) := k9 h1 h3 h4 h5 h6 h7 h12 h13
      refine z_iald rfl s9.1 s9.2 dX12_elects_289 ?_
      refine z_icmp_ge dX12_elects_290 (tgt := 297) (by decide) (fun h14 => ?_) (fun h14 => ?_)
      · skip
        exact J297 h1 (Or.inr ⟨h3, h4, h5, h6, h7, h12, h13, h14⟩)
      · skip
        exact J293 h1 h3 h4 h5 h6 h7 h12 (Or.inr ⟨h13, h14⟩)
  have J266 : (v9 < σ 98 1) → (zand (zshr v3 v9) 1 ≠ 0) → (v5 ≠ 1) → (2 * σ 172 v9 ≤ v6) → (v7 = (-1) ∨ (v7 ≠ (-1) ∧ σ 172 v9 < σ 172 v7) ∨ (v7 ≠ (-1) ∧ σ 172 v7 ≤ σ 172 v9 ∧ σ 172 v9 = σ 172 v7 ∧ σ 99 v7 ≤ σ 99 v9)) → zR G MX12_elects 266 [zr 98, zi v1, zi v2, zi v3, zi v4, zi v5, zi v6, zi v7, zi v8, zi v9] [] σ Q := by
    intro h1 h3 h4 h5 h11
    refine z_iload dX12_elects_266 rfl ?_
    refine z_istore (ls' := [zr 98, zi v1, zi v2, zi v3, zi v4, zi v5, zi v6, zi v9, zi v8, zi v9]) dX12_elects_268 (by decide) rfl ?_
    exact J270_1 h1 h3 h4 h5 h11
  have J206 : (v9 < σ 98 1) → (zand (zshr v3 v9) 1 ≠ 0) → (v5 = 1 ∨ (v5 ≠ 1 ∧ v6 < 2 * σ 172 v9)) → zR G MX12_elects 206 [zr 98, zi v1, zi v2, zi v3, zi v4, zi v5, zi v6, zi v7, zi v8, zi v9] [] σ Q := by
    intro h1 h3 h10
    refine z_iload dX12_elects_206 rfl ?_
    exact z_ireti rfl dX12_elects_208 (k7 h1 h3 h10)
  refine z_iload dX12_elects_165 rfl ?_
  refine z_aload_n dX12_elects_167 rfl rfl ?_
  refine z_getfI (k := 1) flRX12_256 rfl rfl dX12_elects_168 ?_
  refine z_icmp_ge dX12_elects_171 (tgt := 303) (by decide) (fun h1 => ?_) (fun h1 => ?_)
  · skip
    refine z_iload dX12_elects_303 rfl ?_
    refine z_iconst dX12_elects_305 (by unfold zIn; decide) ?_
    refine z_icmp_ne dX12_elects_306 (tgt := 332) (by decide) (fun h2 => ?_) (fun h2 => ?_)
    · skip
      refine z_iload_n dX12_elects_332 rfl rfl ?_
      refine z_iconst dX12_elects_333 (by unfold zIn; decide) ?_
      refine z_iload dX12_elects_334 rfl ?_
      refine z_ishl dX12_elects_336 ?_
      refine z_iconst dX12_elects_337 (by unfold zIn; decide) ?_
      refine z_ixor dX12_elects_338 ?_
      refine z_iand dX12_elects_339 ?_
      refine z_istore_n (ls' := [zr 98, zi v1, zi v2, zi (zand v3 (zxor (zshl 1 v7) (-1))), zi v4, zi v5, zi v6, zi v7, zi v8, zi v9]) dX12_elects_340 rfl (by decide) rfl ?_
      have s1 : -2147483648 ≤ v4 + 1 ∧ v4 + 1 < (2147483648 : Int) := k1 h1 h2
      refine z_iincN (ls' := [zr 98, zi v1, zi v2, zi (zand v3 (zxor (zshl 1 v7) (-1))), zi (v4 + 1), zi v5, zi v6, zi v7, zi v8, zi v9]) dX12_elects_341 rfl (by decide) s1 rfl ?_
      refine z_goto dX12_elects_344 (tgt := 5) (by decide) ?_
      exact zR_fg [false, false, false, false, false, true, true, true, true, true] (k2 h1 h2)
    · skip
      refine z_aload_n dX12_elects_309 rfl rfl ?_
      refine z_bipush (x := 12) dX12_elects_310 (by decide +kernel) (by unfold zIn; decide) ?_
      refine z_iload_n dX12_elects_312 rfl rfl ?_
      refine z_callv (as := [zi 12, zi v3]) (st := []) mkX12_choice lkRX12_389 rfl rfl rfl (by decide) (Nat.le_of_ble_eq_true rfl) rfl dX12_elects_313 (k3 h1 h2)
  · skip
    refine z_iload_n dX12_elects_174 rfl rfl ?_
    refine z_iload dX12_elects_175 rfl ?_
    refine z_ishr dX12_elects_177 ?_
    refine z_iconst dX12_elects_178 (by unfold zIn; decide) ?_
    refine z_iand dX12_elects_179 ?_
    refine z_if_ne dX12_elects_180 (tgt := 186) (by decide) (fun h3 => ?_) (fun h3 => ?_)
    · skip
      refine z_iload dX12_elects_186 rfl ?_
      refine z_iconst dX12_elects_188 (by unfold zIn; decide) ?_
      refine z_icmp_eq dX12_elects_189 (tgt := 206) (by decide) (fun h4 => ?_) (fun h4 => ?_)
      · skip
        exact J206 h1 h3 (Or.inl h4)
      · skip
        refine z_iconst dX12_elects_192 (by unfold zIn; decide) ?_
        refine z_aload_n dX12_elects_193 rfl rfl ?_
        refine z_getfR (k := 97) flRX12_235 rfl rfl dX12_elects_194 ?_
        refine z_iload dX12_elects_197 rfl ?_
        have s4 : (0 : Int) ≤ v9 ∧ v9 < (24 : Int) := k4 h1 h3 h4
        refine z_iald rfl s4.1 s4.2 dX12_elects_199 ?_
        have s5 : -2147483648 ≤ 2 * σ 172 v9 ∧ 2 * σ 172 v9 < (2147483648 : Int) := k5 h1 h3 h4
        refine z_imulN dX12_elects_200 s5 ?_
        refine z_iload dX12_elects_201 rfl ?_
        refine z_icmp_le dX12_elects_203 (tgt := 209) (by decide) (fun h5 => ?_) (fun h5 => ?_)
        · skip
          refine z_iload dX12_elects_209 rfl ?_
          refine z_iconst dX12_elects_211 (by unfold zIn; decide) ?_
          refine z_icmp_eq dX12_elects_212 (tgt := 266) (by decide) (fun h6 => ?_) (fun h6 => ?_)
          · skip
            exact J266 h1 h3 h4 h5 (Or.inl h6)
          · skip
            refine z_aload_n dX12_elects_215 rfl rfl ?_
            refine z_getfR (k := 97) flRX12_235 rfl rfl dX12_elects_216 ?_
            refine z_iload dX12_elects_219 rfl ?_
            refine z_iald rfl s4.1 s4.2 dX12_elects_221 ?_
            refine z_aload_n dX12_elects_222 rfl rfl ?_
            refine z_getfR (k := 97) flRX12_235 rfl rfl dX12_elects_223 ?_
            refine z_iload dX12_elects_226 rfl ?_
            have s6 : (0 : Int) ≤ v7 ∧ v7 < (24 : Int) := k6 h1 h3 h4 h5 h6
            refine z_iald rfl s6.1 s6.2 dX12_elects_228 ?_
            refine z_icmp_lt dX12_elects_229 (tgt := 266) (by decide) (fun h7 => ?_) (fun h7 => ?_)
            · skip
              exact J266 h1 h3 h4 h5 (Or.inr (Or.inl ⟨h6, h7⟩))
            · skip
              refine z_aload_n dX12_elects_232 rfl rfl ?_
              refine z_getfR (k := 97) flRX12_235 rfl rfl dX12_elects_233 ?_
              refine z_iload dX12_elects_236 rfl ?_
              refine z_iald rfl s4.1 s4.2 dX12_elects_238 ?_
              refine z_aload_n dX12_elects_239 rfl rfl ?_
              refine z_getfR (k := 97) flRX12_235 rfl rfl dX12_elects_240 ?_
              refine z_iload dX12_elects_243 rfl ?_
              refine z_iald rfl s6.1 s6.2 dX12_elects_245 ?_
              refine z_icmp_ne dX12_elects_246 (tgt := 270) (by decide) (fun h8 => ?_) (fun h8 => ?_)
              · skip
                exact J270 h1 h3 h4 h5 h6 h7 (Or.inl h8)
              · skip
                refine z_aload_n dX12_elects_249 rfl rfl ?_
                refine z_getfR (k := 13) flRX12_13 rfl rfl dX12_elects_250 ?_
                refine z_iload dX12_elects_253 rfl ?_
                refine z_iald rfl s4.1 s4.2 dX12_elects_255 ?_
                refine z_aload_n dX12_elects_256 rfl rfl ?_
                refine z_getfR (k := 13) flRX12_13 rfl rfl dX12_elects_257 ?_
                refine z_iload dX12_elects_260 rfl ?_
                refine z_iald rfl s6.1 s6.2 dX12_elects_262 ?_
                refine z_icmp_lt dX12_elects_263 (tgt := 270) (by decide) (fun h9 => ?_) (fun h9 => ?_)
                · skip
                  exact J270 h1 h3 h4 h5 h6 h7 (Or.inr ⟨h8, h9⟩)
                · skip
                  exact J266 h1 h3 h4 h5 (Or.inr (Or.inr ⟨h6, h7, h8, h9⟩))
        · skip
          exact J206 h1 h3 (Or.inr ⟨h4, h5⟩)
    · skip
      refine z_goto dX12_elects_183 (tgt := 297) (by decide) ?_
      exact J297 h1 (Or.inl h3)
set_option maxRecDepth 20000 in
set_option maxHeartbeats 1000000 in
theorem TX12_elects_316 {G : zG} {σ : zS} {Q : Int → zS → Prop} {v1 v2 v3 v4 v5 v6 v7 v8 v9 r : Int}  (k1 : (r ≠ (-1)) → Q r σ) (k2 : (r = (-1)) → Q v8 σ) : zR G MX12_elects 316 [zr 98, zi v1, zi v2, zi v3, zi v4, zi v5, zi v6, zi v7, zi v8, zi v9] [zi r] σ Q := by
  refine z_istore (ls' := [zr 98, zi v1, zi v2, zi v3, zi v4, zi v5, zi v6, zi v7, zi v8, zi r]) dX12_elects_316 (by decide) rfl ?_
  refine z_iload dX12_elects_318 rfl ?_
  refine z_iconst dX12_elects_320 (by unfold zIn; decide) ?_
  refine z_icmp_ne dX12_elects_321 (tgt := 329) (by decide) (fun h1 => ?_) (fun h1 => ?_)
  · skip
    refine z_iload dX12_elects_329 rfl ?_
    exact z_ireti rfl dX12_elects_331 (k1 h1)
  · skip
    refine z_iload dX12_elects_324 rfl ?_
    refine z_goto dX12_elects_326 (tgt := 331) (by decide) ?_
    exact z_ireti rfl dX12_elects_331 (k2 h1)
