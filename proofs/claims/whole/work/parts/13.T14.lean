set_option maxRecDepth 20000 in
set_option maxHeartbeats 1000000 in
theorem TX12_elect {G : zG} {σ : zS} {Q : Int → zS → Prop} {a1 a2 : Int}  (k1 : ((0 ≤ a1 ∧ a1 < σ 98 4)) → (0 ≤ a2) → (a2 < zshl 1 (σ 98 1)) → (0 : Int) ≤ a1 ∧ a1 < (12 : Int)) (k2 : ((0 ≤ a1 ∧ a1 < σ 98 4)) → (0 ≤ a2) → (a2 < zshl 1 (σ 98 1)) → (σ 130 a1 = (-1)) → (a2 ≠ 0) → zR G MX12_elect 57 [zr 98, zi a1, zi a2, zi 0, zu, zu, zu] [] σ Q) (k3 : (¬ ((0 ≤ a1 ∧ a1 < σ 98 4))) → -2147483648 ≤ -(-1) ∧ -(-1) < (2147483648 : Int)) (k4 : (¬ ((0 ≤ a1 ∧ a1 < σ 98 4))) → (0 : Int) ≤ -(-1) ∧ -(-1) < (8 : Int)) (k5 : (¬ ((0 ≤ a1 ∧ a1 < σ 98 4))) → Q (-1) (zup σ 157 (-(-1)) (zW ((σ 157 (-(-1))) + 1)))) (k6 : ((0 ≤ a1 ∧ a1 < σ 98 4)) → (a2 < 0 ∨ (0 ≤ a2 ∧ zshl 1 (σ 98 1) ≤ a2)) → -2147483648 ≤ -(-1) ∧ -(-1) < (2147483648 : Int)) (k7 : ((0 ≤ a1 ∧ a1 < σ 98 4)) → (a2 < 0 ∨ (0 ≤ a2 ∧ zshl 1 (σ 98 1) ≤ a2)) → (0 : Int) ≤ -(-1) ∧ -(-1) < (8 : Int)) (k8 : ((0 ≤ a1 ∧ a1 < σ 98 4)) → (a2 < 0 ∨ (0 ≤ a2 ∧ zshl 1 (σ 98 1) ≤ a2)) → Q (-1) (zup σ 157 (-(-1)) (zW ((σ 157 (-(-1))) + 1)))) (k9 : ((0 ≤ a1 ∧ a1 < σ 98 4)) → (0 ≤ a2) → (a2 < zshl 1 (σ 98 1)) → (σ 130 a1 ≠ (-1) ∨ (σ 130 a1 = (-1) ∧ a2 = 0)) → -2147483648 ≤ -(-6) ∧ -(-6) < (2147483648 : Int)) (k10 : ((0 ≤ a1 ∧ a1 < σ 98 4)) → (0 ≤ a2) → (a2 < zshl 1 (σ 98 1)) → (σ 130 a1 ≠ (-1) ∨ (σ 130 a1 = (-1) ∧ a2 = 0)) → (0 : Int) ≤ -(-6) ∧ -(-6) < (8 : Int)) (k11 : ((0 ≤ a1 ∧ a1 < σ 98 4)) → (0 ≤ a2) → (a2 < zshl 1 (σ 98 1)) → (σ 130 a1 ≠ (-1) ∨ (σ 130 a1 = (-1) ∧ a2 = 0)) → Q (-6) (zup σ 157 (-(-6)) (zW ((σ 157 (-(-6))) + 1)))) : zO G MX12_elect [zr 98, zi a1, zi a2] σ Q := by
  refine zO_of (ls0 := [zr 98, zi a1, zi a2, zu, zu, zu, zu]) (by decide) (Nat.le_of_ble_eq_true rfl) rfl ?_
  have J48 : ((0 ≤ a1 ∧ a1 < σ 98 4)) → (0 ≤ a2) → (a2 < zshl 1 (σ 98 1)) → (σ 130 a1 ≠ (-1) ∨ (σ 130 a1 = (-1) ∧ a2 = 0)) → zR G MX12_elect 48 [zr 98, zi a1, zi a2, zu, zu, zu, zu] [] σ Q := by
    intro h1 h2 h3 h7
    refine z_aload_n dX12_elect_48 rfl rfl ?_
    refine z_bipush (x := (-6)) dX12_elect_49 (by decide +kernel) (by unfold zIn; decide) ?_
    have s9 : -2147483648 ≤ -(-6) ∧ -(-6) < (2147483648 : Int) := k9 h1 h2 h3 h7
    have s10 : (0 : Int) ≤ -(-6) ∧ -(-6) < (8 : Int) := k10 h1 h2 h3 h7
    refine z_callv (as := [zi (-6)]) (st := []) mkX12_no lkRX12_267 rfl rfl rfl (by decide) (Nat.le_of_ble_eq_true rfl) rfl dX12_elect_51 ?_
    refine SX12_no s9 s10 ?_
    show zR G MX12_elect 54 [zr 98, zi a1, zi a2, zu, zu, zu, zu] [zi (-6)] (zup σ 157 (-(-6)) (zW ((σ 157 (-(-6))) + 1))) Q
    exact z_ireti rfl dX12_elect_54 (k11 h1 h2 h3 h7)
  have J28 : ((0 ≤ a1 ∧ a1 < σ 98 4)) → (a2 < 0 ∨ (0 ≤ a2 ∧ zshl 1 (σ 98 1) ≤ a2)) → zR G MX12_elect 28 [zr 98, zi a1, zi a2, zu, zu, zu, zu] [] σ Q := by
    intro h1 h6
    refine z_aload_n dX12_elect_28 rfl rfl ?_
    refine z_iconst dX12_elect_29 (by unfold zIn; decide) ?_
    have s6 : -2147483648 ≤ -(-1) ∧ -(-1) < (2147483648 : Int) := k6 h1 h6
    have s7 : (0 : Int) ≤ -(-1) ∧ -(-1) < (8 : Int) := k7 h1 h6
    refine z_callv (as := [zi (-1)]) (st := []) mkX12_no lkRX12_267 rfl rfl rfl (by decide) (Nat.le_of_ble_eq_true rfl) rfl dX12_elect_30 ?_
    refine SX12_no s6 s7 ?_
    show zR G MX12_elect 33 [zr 98, zi a1, zi a2, zu, zu, zu, zu] [zi (-1)] (zup σ 157 (-(-1)) (zW ((σ 157 (-(-1))) + 1))) Q
    exact z_ireti rfl dX12_elect_33 (k8 h1 h6)
  refine z_aload_n dX12_elect_0 rfl rfl ?_
  refine z_iload_n dX12_elect_1 rfl rfl ?_
  refine z_callv (as := [zi a1]) (st := []) mkX12_isPlace lkRX12_368 rfl rfl rfl (by decide) (Nat.le_of_ble_eq_true rfl) rfl dX12_elect_2 ?_
  refine SX12_isPlace ?_
  show zR G MX12_elect 5 [zr 98, zi a1, zi a2, zu, zu, zu, zu] [zi (if (0 ≤ a1 ∧ a1 < σ 98 4) then (1 : Int) else 0)] σ Q
  refine z_if_ne dX12_elect_5 (tgt := 14) (by decide) (fun z => ?_) (fun z => ?_)
  · have h1 : (0 ≤ a1 ∧ a1 < σ 98 4) := zb1 z
    refine z_iload_n dX12_elect_14 rfl rfl ?_
    refine z_if_lt dX12_elect_15 (tgt := 28) (by decide) (fun h2 => ?_) (fun h2 => ?_)
    · skip
      exact J28 h1 (Or.inl h2)
    · skip
      refine z_iload_n dX12_elect_18 rfl rfl ?_
      refine z_iconst dX12_elect_19 (by unfold zIn; decide) ?_
      refine z_aload_n dX12_elect_20 rfl rfl ?_
      refine z_getfI (k := 1) flRX12_256 rfl rfl dX12_elect_21 ?_
      refine z_ishl dX12_elect_24 ?_
      refine z_icmp_lt dX12_elect_25 (tgt := 34) (by decide) (fun h3 => ?_) (fun h3 => ?_)
      · skip
        refine z_aload_n dX12_elect_34 rfl rfl ?_
        refine z_getfR (k := 45) flRX12_109 rfl rfl dX12_elect_35 ?_
        refine z_iload_n dX12_elect_38 rfl rfl ?_
        have s1 : (0 : Int) ≤ a1 ∧ a1 < (12 : Int) := k1 h1 h2 h3
        refine z_iald rfl s1.1 s1.2 dX12_elect_39 ?_
        refine z_iconst dX12_elect_40 (by unfold zIn; decide) ?_
        refine z_icmp_ne dX12_elect_41 (tgt := 48) (by decide) (fun h4 => ?_) (fun h4 => ?_)
        · skip
          exact J48 h1 h2 h3 (Or.inl h4)
        · skip
          refine z_iload_n dX12_elect_44 rfl rfl ?_
          refine z_if_ne dX12_elect_45 (tgt := 55) (by decide) (fun h5 => ?_) (fun h5 => ?_)
          · skip
            refine z_iconst dX12_elect_55 (by unfold zIn; decide) ?_
            refine z_istore_n (ls' := [zr 98, zi a1, zi a2, zi 0, zu, zu, zu]) dX12_elect_56 rfl (by decide) rfl ?_
            exact k2 h1 h2 h3 h4 h5
          · skip
            exact J48 h1 h2 h3 (Or.inr ⟨h4, h5⟩)
      · skip
        exact J28 h1 (Or.inr ⟨h2, h3⟩)
  · have h1 : ¬ ((0 ≤ a1 ∧ a1 < σ 98 4)) := zb0 z
    refine z_aload_n dX12_elect_8 rfl rfl ?_
    refine z_iconst dX12_elect_9 (by unfold zIn; decide) ?_
    have s3 : -2147483648 ≤ -(-1) ∧ -(-1) < (2147483648 : Int) := k3 h1
    have s4 : (0 : Int) ≤ -(-1) ∧ -(-1) < (8 : Int) := k4 h1
    refine z_callv (as := [zi (-1)]) (st := []) mkX12_no lkRX12_267 rfl rfl rfl (by decide) (Nat.le_of_ble_eq_true rfl) rfl dX12_elect_10 ?_
    refine SX12_no s3 s4 ?_
    show zR G MX12_elect 13 [zr 98, zi a1, zi a2, zu, zu, zu, zu] [zi (-1)] (zup σ 157 (-(-1)) (zW ((σ 157 (-(-1))) + 1))) Q
    exact z_ireti rfl dX12_elect_13 (k5 h1)
set_option maxRecDepth 20000 in
set_option maxHeartbeats 1000000 in
theorem TX12_elect_57 {G : zG} {σ : zS} {Q : Int → zS → Prop} {v1 v2 v3 : Int}  (k1 : (σ 98 1 ≤ v3) → zR G MX12_elect 127 [zr 98, zi v1, zi v2, zi 0, zi 0, zi (-1), zi 0] [] σ Q) (k2 : (v3 < σ 98 1) → (zand (zshr v2 v3) 1 = 1) → (0 : Int) ≤ v1 ∧ v1 < (12 : Int)) (k3 : (v3 < σ 98 1) → (zand (zshr v2 v3) 1 = 1) → zO G MX12_mayHold [zr 98, zi v3, zi (σ 129 v1)] σ (fun rr σ' => zR G MX12_elect 85 [zr 98, zi v1, zi v2, zi v3, zu, zu, zu] [zi rr] σ' Q)) (k4 : (v3 < σ 98 1) → (zand (zshr v2 v3) 1 ≠ 1) → -2147483648 ≤ v3 + 1 ∧ v3 + 1 < (2147483648 : Int)) (k5 : (v3 < σ 98 1) → (zand (zshr v2 v3) 1 ≠ 1) → zR G MX12_elect 57 [zr 98, zi v1, zi v2, zi (v3 + 1), zu, zu, zu] [] σ Q) : zR G MX12_elect 57 [zr 98, zi v1, zi v2, zi v3, zu, zu, zu] [] σ Q := by
  have J110 : (v3 < σ 98 1) → (zand (zshr v2 v3) 1 ≠ 1) → zR G MX12_elect 110 [zr 98, zi v1, zi v2, zi v3, zu, zu, zu] [] σ Q := by
    intro h1 h2
    have s4 : -2147483648 ≤ v3 + 1 ∧ v3 + 1 < (2147483648 : Int) := k4 h1 h2
    refine z_iincN (ls' := [zr 98, zi v1, zi v2, zi (v3 + 1), zu, zu, zu]) dX12_elect_110 rfl (by decide) s4 rfl ?_
    refine z_goto dX12_elect_113 (tgt := 57) (by decide) ?_
    exact k5 h1 h2
  refine z_iload_n dX12_elect_57 rfl rfl ?_
  refine z_aload_n dX12_elect_58 rfl rfl ?_
  refine z_getfI (k := 1) flRX12_256 rfl rfl dX12_elect_59 ?_
  refine z_icmp_ge dX12_elect_62 (tgt := 116) (by decide) (fun h1 => ?_) (fun h1 => ?_)
  · skip
    refine z_iconst dX12_elect_116 (by unfold zIn; decide) ?_
    refine z_istore_n (ls' := [zr 98, zi v1, zi v2, zi 0, zu, zu, zu]) dX12_elect_117 rfl (by decide) rfl ?_
    refine z_iconst dX12_elect_118 (by unfold zIn; decide) ?_
    refine z_istore (ls' := [zr 98, zi v1, zi v2, zi 0, zi 0, zu, zu]) dX12_elect_119 (by decide) rfl ?_
    refine z_iconst dX12_elect_121 (by unfold zIn; decide) ?_
    refine z_istore (ls' := [zr 98, zi v1, zi v2, zi 0, zi 0, zi (-1), zu]) dX12_elect_122 (by decide) rfl ?_
    refine z_iconst dX12_elect_124 (by unfold zIn; decide) ?_
    refine z_istore (ls' := [zr 98, zi v1, zi v2, zi 0, zi 0, zi (-1), zi 0]) dX12_elect_125 (by decide) rfl ?_
    exact k1 h1
  · skip
    refine z_iload_n dX12_elect_65 rfl rfl ?_
    refine z_iload_n dX12_elect_66 rfl rfl ?_
    refine z_ishr dX12_elect_67 ?_
    refine z_iconst dX12_elect_68 (by unfold zIn; decide) ?_
    refine z_iand dX12_elect_69 ?_
    refine z_iconst dX12_elect_70 (by unfold zIn; decide) ?_
    refine z_icmp_ne dX12_elect_71 (tgt := 110) (by decide) (fun h2 => ?_) (fun h2 => ?_)
    · skip
      exact J110 h1 h2
    · skip
      refine z_aload_n dX12_elect_74 rfl rfl ?_
      refine z_iload_n dX12_elect_75 rfl rfl ?_
      refine z_aload_n dX12_elect_76 rfl rfl ?_
      refine z_getfR (k := 44) flRX12_106 rfl rfl dX12_elect_77 ?_
      refine z_iload_n dX12_elect_80 rfl rfl ?_
      have s2 : (0 : Int) ≤ v1 ∧ v1 < (12 : Int) := k2 h1 h2
      refine z_iald rfl s2.1 s2.2 dX12_elect_81 ?_
      refine z_callv (as := [zi v3, zi (σ 129 v1)]) (st := []) mkX12_mayHold lkRX12_371 rfl rfl rfl (by decide) (Nat.le_of_ble_eq_true rfl) rfl dX12_elect_82 (k3 h1 h2)
set_option maxRecDepth 20000 in
set_option maxHeartbeats 1000000 in
theorem TX12_elect_85 {G : zG} {σ : zS} {Q : Int → zS → Prop} {v1 v2 v3 r : Int}  (k1 : (r ≠ 0) → (0 : Int) ≤ v1 ∧ v1 < (12 : Int)) (k2 : (r ≠ 0) → zO G MX12_placeHeld [zr 98, zi v3, zi (σ 129 v1)] σ (fun rr σ' => zR G MX12_elect 99 [zr 98, zi v1, zi v2, zi v3, zu, zu, zu] [zi rr] σ' Q)) (k3 : (r = 0) → -2147483648 ≤ -(-6) ∧ -(-6) < (2147483648 : Int)) (k4 : (r = 0) → (0 : Int) ≤ -(-6) ∧ -(-6) < (8 : Int)) (k5 : (r = 0) → Q (-6) (zup σ 157 (-(-6)) (zW ((σ 157 (-(-6))) + 1)))) : zR G MX12_elect 85 [zr 98, zi v1, zi v2, zi v3, zu, zu, zu] [zi r] σ Q := by
  have J103 : (r = 0) → zR G MX12_elect 103 [zr 98, zi v1, zi v2, zi v3, zu, zu, zu] [] σ Q := by
    intro h1
    refine z_aload_n dX12_elect_103 rfl rfl ?_
    refine z_bipush (x := (-6)) dX12_elect_104 (by decide +kernel) (by unfold zIn; decide) ?_
    have s3 : -2147483648 ≤ -(-6) ∧ -(-6) < (2147483648 : Int) := k3 h1
    have s4 : (0 : Int) ≤ -(-6) ∧ -(-6) < (8 : Int) := k4 h1
    refine z_callv (as := [zi (-6)]) (st := []) mkX12_no lkRX12_267 rfl rfl rfl (by decide) (Nat.le_of_ble_eq_true rfl) rfl dX12_elect_106 ?_
    refine SX12_no s3 s4 ?_
    show zR G MX12_elect 109 [zr 98, zi v1, zi v2, zi v3, zu, zu, zu] [zi (-6)] (zup σ 157 (-(-6)) (zW ((σ 157 (-(-6))) + 1))) Q
    exact z_ireti rfl dX12_elect_109 (k5 h1)
  refine z_if_eq dX12_elect_85 (tgt := 103) (by decide) (fun h1 => ?_) (fun h1 => ?_)
  · skip
    exact J103 h1
  · skip
    refine z_aload_n dX12_elect_88 rfl rfl ?_
    refine z_iload_n dX12_elect_89 rfl rfl ?_
    refine z_aload_n dX12_elect_90 rfl rfl ?_
    refine z_getfR (k := 44) flRX12_106 rfl rfl dX12_elect_91 ?_
    refine z_iload_n dX12_elect_94 rfl rfl ?_
    have s1 : (0 : Int) ≤ v1 ∧ v1 < (12 : Int) := k1 h1
    refine z_iald rfl s1.1 s1.2 dX12_elect_95 ?_
    refine z_callv (as := [zi v3, zi (σ 129 v1)]) (st := []) mkX12_placeHeld lkRX12_375 rfl rfl rfl (by decide) (Nat.le_of_ble_eq_true rfl) rfl dX12_elect_96 (k2 h1)
set_option maxRecDepth 20000 in
set_option maxHeartbeats 1000000 in
theorem TX12_elect_99 {G : zG} {σ : zS} {Q : Int → zS → Prop} {v1 v2 v3 r : Int}  (k1 : (r ≠ (-1)) → -2147483648 ≤ -(-6) ∧ -(-6) < (2147483648 : Int)) (k2 : (r ≠ (-1)) → (0 : Int) ≤ -(-6) ∧ -(-6) < (8 : Int)) (k3 : (r ≠ (-1)) → Q (-6) (zup σ 157 (-(-6)) (zW ((σ 157 (-(-6))) + 1)))) (k4 : (r = (-1)) → -2147483648 ≤ v3 + 1 ∧ v3 + 1 < (2147483648 : Int)) (k5 : (r = (-1)) → zR G MX12_elect 57 [zr 98, zi v1, zi v2, zi (v3 + 1), zu, zu, zu] [] σ Q) : zR G MX12_elect 99 [zr 98, zi v1, zi v2, zi v3, zu, zu, zu] [zi r] σ Q := by
  have J110 : (r = (-1)) → zR G MX12_elect 110 [zr 98, zi v1, zi v2, zi v3, zu, zu, zu] [] σ Q := by
    intro h1
    have s4 : -2147483648 ≤ v3 + 1 ∧ v3 + 1 < (2147483648 : Int) := k4 h1
    refine z_iincN (ls' := [zr 98, zi v1, zi v2, zi (v3 + 1), zu, zu, zu]) dX12_elect_110 rfl (by decide) s4 rfl ?_
    refine z_goto dX12_elect_113 (tgt := 57) (by decide) ?_
    exact k5 h1
  have J103 : (r ≠ (-1)) → zR G MX12_elect 103 [zr 98, zi v1, zi v2, zi v3, zu, zu, zu] [] σ Q := by
    intro h1
    refine z_aload_n dX12_elect_103 rfl rfl ?_
    refine z_bipush (x := (-6)) dX12_elect_104 (by decide +kernel) (by unfold zIn; decide) ?_
    have s1 : -2147483648 ≤ -(-6) ∧ -(-6) < (2147483648 : Int) := k1 h1
    have s2 : (0 : Int) ≤ -(-6) ∧ -(-6) < (8 : Int) := k2 h1
    refine z_callv (as := [zi (-6)]) (st := []) mkX12_no lkRX12_267 rfl rfl rfl (by decide) (Nat.le_of_ble_eq_true rfl) rfl dX12_elect_106 ?_
    refine SX12_no s1 s2 ?_
    show zR G MX12_elect 109 [zr 98, zi v1, zi v2, zi v3, zu, zu, zu] [zi (-6)] (zup σ 157 (-(-6)) (zW ((σ 157 (-(-6))) + 1))) Q
    exact z_ireti rfl dX12_elect_109 (k3 h1)
  refine z_iconst dX12_elect_99 (by unfold zIn; decide) ?_
  refine z_icmp_eq dX12_elect_100 (tgt := 110) (by decide) (fun h1 => ?_) (fun h1 => ?_)
  · skip
    exact J110 h1
  · skip
    exact J103 h1
set_option maxRecDepth 20000 in
set_option maxHeartbeats 1000000 in
theorem TX12_elect_127 {G : zG} {σ : zS} {Q : Int → zS → Prop} {v1 v2 v3 v4 v5 v6 : Int}  (k1 : (σ 98 4 ≤ v6) → (v4 ≠ 0) → -2147483648 ≤ 2 * v4 ∧ 2 * v4 < (2147483648 : Int)) (k2 : (σ 98 4 ≤ v6) → (v4 ≠ 0) → (v3 ≤ 2 * v4) → zR G MX12_elect 245 [zr 98, zi v1, zi v2, zi v3, zi v4, zi v5, zi 0] [] (zup σ 98 91 0) Q) (k3 : (v6 < σ 98 4) → (0 : Int) ≤ v6 ∧ v6 < (12 : Int)) (k4 : (v6 < σ 98 4) → (σ 130 v6 ≠ (-1)) → (σ 129 v6 ≠ 2 ∨ (σ 129 v6 = 2 ∧ v5 ≠ (-1))) → (0 : Int) ≤ v6 ∧ v6 < (12 : Int)) (k5 : (v6 < σ 98 4) → (σ 130 v6 ≠ (-1)) → (σ 129 v6 ≠ 2 ∨ (σ 129 v6 = 2 ∧ v5 ≠ (-1))) → (σ 129 v6 = 1) → -2147483648 ≤ v3 + 1 ∧ v3 + 1 < (2147483648 : Int)) (k6 : (v6 < σ 98 4) → (σ 130 v6 ≠ (-1)) → (σ 129 v6 ≠ 2 ∨ (σ 129 v6 = 2 ∧ v5 ≠ (-1))) → (σ 129 v6 = 1) → (0 : Int) ≤ σ 130 v6 ∧ σ 130 v6 < (24 : Int)) (k7 : (v6 < σ 98 4) → (σ 130 v6 ≠ (-1)) → (σ 129 v6 ≠ 2 ∨ (σ 129 v6 = 2 ∧ v5 ≠ (-1))) → (σ 129 v6 = 1) → (0 ≤ σ 135 (σ 130 v6)) → -2147483648 ≤ v4 + 1 ∧ v4 + 1 < (2147483648 : Int)) (k8 : (v6 < σ 98 4) → (σ 130 v6 ≠ (-1)) → (σ 129 v6 = 2) → (v5 = (-1)) → (0 : Int) ≤ v6 ∧ v6 < (12 : Int)) (k9 : (v6 < σ 98 4) → (σ 130 v6 ≠ (-1)) → (σ 129 v6 = 2) → (v5 = (-1)) → (σ 129 v6 = 1) → -2147483648 ≤ v3 + 1 ∧ v3 + 1 < (2147483648 : Int)) (k10 : (v6 < σ 98 4) → (σ 130 v6 ≠ (-1)) → (σ 129 v6 = 2) → (v5 = (-1)) → (σ 129 v6 = 1) → (0 : Int) ≤ σ 130 v6 ∧ σ 130 v6 < (24 : Int)) (k11 : (v6 < σ 98 4) → (σ 130 v6 ≠ (-1)) → (σ 129 v6 = 2) → (v5 = (-1)) → (σ 129 v6 = 1) → (0 ≤ σ 135 (σ 130 v6)) → -2147483648 ≤ v4 + 1 ∧ v4 + 1 < (2147483648 : Int)) (k12 : (v6 < σ 98 4) → (σ 130 v6 = (-1) ∨ (σ 130 v6 ≠ (-1) ∧ (σ 129 v6 ≠ 2 ∨ (σ 129 v6 = 2 ∧ v5 ≠ (-1))) ∧ σ 129 v6 ≠ 1)) → -2147483648 ≤ v6 + 1 ∧ v6 + 1 < (2147483648 : Int)) (k13 : (v6 < σ 98 4) → (σ 130 v6 = (-1) ∨ (σ 130 v6 ≠ (-1) ∧ (σ 129 v6 ≠ 2 ∨ (σ 129 v6 = 2 ∧ v5 ≠ (-1))) ∧ σ 129 v6 ≠ 1)) → zR G MX12_elect 127 [zr 98, zi v1, zi v2, zi v3, zi v4, zi v5, zi (v6 + 1)] [] σ Q) (k14 : (v6 < σ 98 4) → (σ 130 v6 ≠ (-1)) → (σ 129 v6 ≠ 2 ∨ (σ 129 v6 = 2 ∧ v5 ≠ (-1))) → (σ 129 v6 = 1) → (σ 135 (σ 130 v6) < 0) → -2147483648 ≤ v6 + 1 ∧ v6 + 1 < (2147483648 : Int)) (k15 : (v6 < σ 98 4) → (σ 130 v6 ≠ (-1)) → (σ 129 v6 ≠ 2 ∨ (σ 129 v6 = 2 ∧ v5 ≠ (-1))) → (σ 129 v6 = 1) → (σ 135 (σ 130 v6) < 0) → zR G MX12_elect 127 [zr 98, zi v1, zi v2, zi (v3 + 1), zi v4, zi v5, zi (v6 + 1)] [] σ Q) (k16 : (v6 < σ 98 4) → (σ 130 v6 ≠ (-1)) → (σ 129 v6 ≠ 2 ∨ (σ 129 v6 = 2 ∧ v5 ≠ (-1))) → (σ 129 v6 = 1) → (0 ≤ σ 135 (σ 130 v6)) → -2147483648 ≤ v6 + 1 ∧ v6 + 1 < (2147483648 : Int)) (k17 : (v6 < σ 98 4) → (σ 130 v6 ≠ (-1)) → (σ 129 v6 ≠ 2 ∨ (σ 129 v6 = 2 ∧ v5 ≠ (-1))) → (σ 129 v6 = 1) → (0 ≤ σ 135 (σ 130 v6)) → zR G MX12_elect 127 [zr 98, zi v1, zi v2, zi (v3 + 1), zi (v4 + 1), zi v5, zi (v6 + 1)] [] σ Q) (k18 : (v6 < σ 98 4) → (σ 130 v6 ≠ (-1)) → (σ 129 v6 = 2) → (v5 = (-1)) → (σ 129 v6 = 1) → (σ 135 (σ 130 v6) < 0) → -2147483648 ≤ v6 + 1 ∧ v6 + 1 < (2147483648 : Int)) (k19 : (v6 < σ 98 4) → (σ 130 v6 ≠ (-1)) → (σ 129 v6 = 2) → (v5 = (-1)) → (σ 129 v6 = 1) → (σ 135 (σ 130 v6) < 0) → zR G MX12_elect 127 [zr 98, zi v1, zi v2, zi (v3 + 1), zi v4, zi (σ 130 v6), zi (v6 + 1)] [] σ Q) (k20 : (v6 < σ 98 4) → (σ 130 v6 ≠ (-1)) → (σ 129 v6 = 2) → (v5 = (-1)) → (σ 129 v6 = 1) → (0 ≤ σ 135 (σ 130 v6)) → -2147483648 ≤ v6 + 1 ∧ v6 + 1 < (2147483648 : Int)) (k21 : (v6 < σ 98 4) → (σ 130 v6 ≠ (-1)) → (σ 129 v6 = 2) → (v5 = (-1)) → (σ 129 v6 = 1) → (0 ≤ σ 135 (σ 130 v6)) → zR G MX12_elect 127 [zr 98, zi v1, zi v2, zi (v3 + 1), zi (v4 + 1), zi (σ 130 v6), zi (v6 + 1)] [] σ Q) (k22 : (v6 < σ 98 4) → (σ 130 v6 ≠ (-1)) → (σ 129 v6 = 2) → (v5 = (-1)) → (σ 129 v6 ≠ 1) → -2147483648 ≤ v6 + 1 ∧ v6 + 1 < (2147483648 : Int)) (k23 : (v6 < σ 98 4) → (σ 130 v6 ≠ (-1)) → (σ 129 v6 = 2) → (v5 = (-1)) → (σ 129 v6 ≠ 1) → zR G MX12_elect 127 [zr 98, zi v1, zi v2, zi v3, zi v4, zi (σ 130 v6), zi (v6 + 1)] [] σ Q) (k24 : (σ 98 4 ≤ v6) → (v4 = 0 ∨ (v4 ≠ 0 ∧ 2 * v4 < v3)) → -2147483648 ≤ -(-6) ∧ -(-6) < (2147483648 : Int)) (k25 : (σ 98 4 ≤ v6) → (v4 = 0 ∨ (v4 ≠ 0 ∧ 2 * v4 < v3)) → (0 : Int) ≤ -(-6) ∧ -(-6) < (8 : Int)) (k26 : (σ 98 4 ≤ v6) → (v4 = 0 ∨ (v4 ≠ 0 ∧ 2 * v4 < v3)) → Q (-6) (zup σ 157 (-(-6)) (zW ((σ 157 (-(-6))) + 1)))) : zR G MX12_elect 127 [zr 98, zi v1, zi v2, zi v3, zi v4, zi v5, zi v6] [] σ Q := by
  have J230 : (σ 98 4 ≤ v6) → (v4 = 0 ∨ (v4 ≠ 0 ∧ 2 * v4 < v3)) → zR G MX12_elect 230 [zr 98, zi v1, zi v2, zi v3, zi v4, zi v5, zi v6] [] σ Q := by
    intro h1 h13
    refine z_aload_n dX12_elect_230 rfl rfl ?_
    refine z_bipush (x := (-6)) dX12_elect_231 (by decide +kernel) (by unfold zIn; decide) ?_
    have s24 : -2147483648 ≤ -(-6) ∧ -(-6) < (2147483648 : Int) := k24 h1 h13
    have s25 : (0 : Int) ≤ -(-6) ∧ -(-6) < (8 : Int) := k25 h1 h13
    refine z_callv (as := [zi (-6)]) (st := []) mkX12_no lkRX12_267 rfl rfl rfl (by decide) (Nat.le_of_ble_eq_true rfl) rfl dX12_elect_233 ?_
    refine SX12_no s24 s25 ?_
    show zR G MX12_elect 236 [zr 98, zi v1, zi v2, zi v3, zi v4, zi v5, zi v6] [zi (-6)] (zup σ 157 (-(-6)) (zW ((σ 157 (-(-6))) + 1))) Q
    exact z_ireti rfl dX12_elect_236 (k26 h1 h13)
  have J211_5 : (v6 < σ 98 4) → (σ 130 v6 ≠ (-1)) → (σ 129 v6 = 2) → (v5 = (-1)) → (σ 129 v6 ≠ 1) → zR G MX12_elect 211 [zr 98, zi v1, zi v2, zi v3, zi v4, zi (σ 130 v6), zi v6] [] σ Q := by
    intro h1 h4 h5 h6 h10
    have s22 : -2147483648 ≤ v6 + 1 ∧ v6 + 1 < (2147483648 : Int) := k22 h1 h4 h5 h6 h10
    refine z_iincN (ls' := [zr 98, zi v1, zi v2, zi v3, zi v4, zi (σ 130 v6), zi (v6 + 1)]) dX12_elect_211 rfl (by decide) s22 rfl ?_
    refine z_goto dX12_elect_214 (tgt := 127) (by decide) ?_
    exact k23 h1 h4 h5 h6 h10
  have J211_4 : (v6 < σ 98 4) → (σ 130 v6 ≠ (-1)) → (σ 129 v6 = 2) → (v5 = (-1)) → (σ 129 v6 = 1) → (0 ≤ σ 135 (σ 130 v6)) → zR G MX12_elect 211 [zr 98, zi v1, zi v2, zi (v3 + 1), zi (v4 + 1), zi (σ 130 v6), zi v6] [] σ Q := by
    intro h1 h4 h5 h6 h10 h11
    have s20 : -2147483648 ≤ v6 + 1 ∧ v6 + 1 < (2147483648 : Int) := k20 h1 h4 h5 h6 h10 h11
    refine z_iincN (ls' := [zr 98, zi v1, zi v2, zi (v3 + 1), zi (v4 + 1), zi (σ 130 v6), zi (v6 + 1)]) dX12_elect_211 rfl (by decide) s20 rfl ?_
    refine z_goto dX12_elect_214 (tgt := 127) (by decide) ?_
    exact k21 h1 h4 h5 h6 h10 h11
  have J211_3 : (v6 < σ 98 4) → (σ 130 v6 ≠ (-1)) → (σ 129 v6 = 2) → (v5 = (-1)) → (σ 129 v6 = 1) → (σ 135 (σ 130 v6) < 0) → zR G MX12_elect 211 [zr 98, zi v1, zi v2, zi (v3 + 1), zi v4, zi (σ 130 v6), zi v6] [] σ Q := by
    intro h1 h4 h5 h6 h10 h11
    have s18 : -2147483648 ≤ v6 + 1 ∧ v6 + 1 < (2147483648 : Int) := k18 h1 h4 h5 h6 h10 h11
    refine z_iincN (ls' := [zr 98, zi v1, zi v2, zi (v3 + 1), zi v4, zi (σ 130 v6), zi (v6 + 1)]) dX12_elect_211 rfl (by decide) s18 rfl ?_
    refine z_goto dX12_elect_214 (tgt := 127) (by decide) ?_
    exact k19 h1 h4 h5 h6 h10 h11
  have J211_2 : (v6 < σ 98 4) → (σ 130 v6 ≠ (-1)) → (σ 129 v6 ≠ 2 ∨ (σ 129 v6 = 2 ∧ v5 ≠ (-1))) → (σ 129 v6 = 1) → (0 ≤ σ 135 (σ 130 v6)) → zR G MX12_elect 211 [zr 98, zi v1, zi v2, zi (v3 + 1), zi (v4 + 1), zi v5, zi v6] [] σ Q := by
    intro h1 h4 h7 h8 h9
    have s16 : -2147483648 ≤ v6 + 1 ∧ v6 + 1 < (2147483648 : Int) := k16 h1 h4 h7 h8 h9
    refine z_iincN (ls' := [zr 98, zi v1, zi v2, zi (v3 + 1), zi (v4 + 1), zi v5, zi (v6 + 1)]) dX12_elect_211 rfl (by decide) s16 rfl ?_
    refine z_goto dX12_elect_214 (tgt := 127) (by decide) ?_
    exact k17 h1 h4 h7 h8 h9
  have J211_1 : (v6 < σ 98 4) → (σ 130 v6 ≠ (-1)) → (σ 129 v6 ≠ 2 ∨ (σ 129 v6 = 2 ∧ v5 ≠ (-1))) → (σ 129 v6 = 1) → (σ 135 (σ 130 v6) < 0) → zR G MX12_elect 211 [zr 98, zi v1, zi v2, zi (v3 + 1), zi v4, zi v5, zi v6] [] σ Q := by
    intro h1 h4 h7 h8 h9
    have s14 : -2147483648 ≤ v6 + 1 ∧ v6 + 1 < (2147483648 : Int) := k14 h1 h4 h7 h8 h9
    refine z_iincN (ls' := [zr 98, zi v1, zi v2, zi (v3 + 1), zi v4, zi v5, zi (v6 + 1)]) dX12_elect_211 rfl (by decide) s14 rfl ?_
    refine z_goto dX12_elect_214 (tgt := 127) (by decide) ?_
    exact k15 h1 h4 h7 h8 h9
  have J211 : (v6 < σ 98 4) → (σ 130 v6 = (-1) ∨ (σ 130 v6 ≠ (-1) ∧ (σ 129 v6 ≠ 2 ∨ (σ 129 v6 = 2 ∧ v5 ≠ (-1))) ∧ σ 129 v6 ≠ 1)) → zR G MX12_elect 211 [zr 98, zi v1, zi v2, zi v3, zi v4, zi v5, zi v6] [] σ Q := by
    intro h1 h12
    have s12 : -2147483648 ≤ v6 + 1 ∧ v6 + 1 < (2147483648 : Int) := k12 h1 h12
    refine z_iincN (ls' := [zr 98, zi v1, zi v2, zi v3, zi v4, zi v5, zi (v6 + 1)]) dX12_elect_211 rfl (by decide) s12 rfl ?_
    refine z_goto dX12_elect_214 (tgt := 127) (by decide) ?_
    exact k13 h1 h12
  have J176_1 : (v6 < σ 98 4) → (σ 130 v6 ≠ (-1)) → (σ 129 v6 = 2) → (v5 = (-1)) → zR G MX12_elect 176 [zr 98, zi v1, zi v2, zi v3, zi v4, zi (σ 130 v6), zi v6] [] σ Q := by
    intro h1 h4 h5 h6
    refine z_aload_n dX12_elect_176 rfl rfl ?_
    refine z_getfR (k := 44) flRX12_106 rfl rfl dX12_elect_177 ?_
    refine z_iload dX12_elect_180 rfl ?_
    have s8 : (0 : Int) ≤ v6 ∧ v6 < (12 : Int) := k8 h1 h4 h5 h6
    refine z_iald rfl s8.1 s8.2 dX12_elect_182 ?_
    refine z_iconst dX12_elect_183 (by unfold zIn; decide) ?_
    refine z_icmp_eq dX12_elect_184 (tgt := 190) (by decide) (fun h10 => ?_) (fun h10 => ?_)
    · skip
      have s9 : -2147483648 ≤ v3 + 1 ∧ v3 + 1 < (2147483648 : Int) := k9 h1 h4 h5 h6 h10
      refine z_iincN (ls' := [zr 98, zi v1, zi v2, zi (v3 + 1), zi v4, zi (σ 130 v6), zi v6]) dX12_elect_190 rfl (by decide) s9 rfl ?_
      refine z_aload_n dX12_elect_193 rfl rfl ?_
      refine z_getfR (k := 50) flRX12_124 rfl rfl dX12_elect_194 ?_
      refine z_aload_n dX12_elect_197 rfl rfl ?_
      refine z_getfR (k := 45) flRX12_109 rfl rfl dX12_elect_198 ?_
      refine z_iload dX12_elect_201 rfl ?_
      refine z_iald rfl s8.1 s8.2 dX12_elect_203 ?_
      have s10 : (0 : Int) ≤ σ 130 v6 ∧ σ 130 v6 < (24 : Int) := k10 h1 h4 h5 h6 h10
      refine z_iald rfl s10.1 s10.2 dX12_elect_204 ?_
      refine z_if_lt dX12_elect_205 (tgt := 211) (by decide) (fun h11 => ?_) (fun h11 => ?_)
      · skip
        exact J211_3 h1 h4 h5 h6 h10 h11
      · skip
        have s11 : -2147483648 ≤ v4 + 1 ∧ v4 + 1 < (2147483648 : Int) := k11 h1 h4 h5 h6 h10 h11
        refine z_iincN (ls' := [zr 98, zi v1, zi v2, zi (v3 + 1), zi (v4 + 1), zi (σ 130 v6), zi v6]) dX12_elect_208 rfl (by decide) s11 rfl ?_
        exact J211_4 h1 h4 h5 h6 h10 h11
    · skip
      refine z_goto dX12_elect_187 (tgt := 211) (by decide) ?_
      exact J211_5 h1 h4 h5 h6 h10
  have J176 : (v6 < σ 98 4) → (σ 130 v6 ≠ (-1)) → (σ 129 v6 ≠ 2 ∨ (σ 129 v6 = 2 ∧ v5 ≠ (-1))) → zR G MX12_elect 176 [zr 98, zi v1, zi v2, zi v3, zi v4, zi v5, zi v6] [] σ Q := by
    intro h1 h4 h7
    refine z_aload_n dX12_elect_176 rfl rfl ?_
    refine z_getfR (k := 44) flRX12_106 rfl rfl dX12_elect_177 ?_
    refine z_iload dX12_elect_180 rfl ?_
    have s4 : (0 : Int) ≤ v6 ∧ v6 < (12 : Int) := k4 h1 h4 h7
    refine z_iald rfl s4.1 s4.2 dX12_elect_182 ?_
    refine z_iconst dX12_elect_183 (by unfold zIn; decide) ?_
    refine z_icmp_eq dX12_elect_184 (tgt := 190) (by decide) (fun h8 => ?_) (fun h8 => ?_)
    · skip
      have s5 : -2147483648 ≤ v3 + 1 ∧ v3 + 1 < (2147483648 : Int) := k5 h1 h4 h7 h8
      refine z_iincN (ls' := [zr 98, zi v1, zi v2, zi (v3 + 1), zi v4, zi v5, zi v6]) dX12_elect_190 rfl (by decide) s5 rfl ?_
      refine z_aload_n dX12_elect_193 rfl rfl ?_
      refine z_getfR (k := 50) flRX12_124 rfl rfl dX12_elect_194 ?_
      refine z_aload_n dX12_elect_197 rfl rfl ?_
      refine z_getfR (k := 45) flRX12_109 rfl rfl dX12_elect_198 ?_
      refine z_iload dX12_elect_201 rfl ?_
      refine z_iald rfl s4.1 s4.2 dX12_elect_203 ?_
      have s6 : (0 : Int) ≤ σ 130 v6 ∧ σ 130 v6 < (24 : Int) := k6 h1 h4 h7 h8
      refine z_iald rfl s6.1 s6.2 dX12_elect_204 ?_
      refine z_if_lt dX12_elect_205 (tgt := 211) (by decide) (fun h9 => ?_) (fun h9 => ?_)
      · skip
        exact J211_1 h1 h4 h7 h8 h9
      · skip
        have s7 : -2147483648 ≤ v4 + 1 ∧ v4 + 1 < (2147483648 : Int) := k7 h1 h4 h7 h8 h9
        refine z_iincN (ls' := [zr 98, zi v1, zi v2, zi (v3 + 1), zi (v4 + 1), zi v5, zi v6]) dX12_elect_208 rfl (by decide) s7 rfl ?_
        exact J211_2 h1 h4 h7 h8 h9
    · skip
      refine z_goto dX12_elect_187 (tgt := 211) (by decide) ?_
      exact J211 h1 (Or.inr ⟨h4, h7, h8⟩)
  refine z_iload dX12_elect_127 rfl ?_
  refine z_aload_n dX12_elect_129 rfl rfl ?_
  refine z_getfI (k := 4) flRX12_259 rfl rfl dX12_elect_130 ?_
  refine z_icmp_ge dX12_elect_133 (tgt := 217) (by decide) (fun h1 => ?_) (fun h1 => ?_)
  · skip
    refine z_iload dX12_elect_217 rfl ?_
    refine z_if_eq dX12_elect_219 (tgt := 230) (by decide) (fun h2 => ?_) (fun h2 => ?_)
    · skip
      exact J230 h1 (Or.inl h2)
    · skip
      refine z_iconst dX12_elect_222 (by unfold zIn; decide) ?_
      refine z_iload dX12_elect_223 rfl ?_
      have s1 : -2147483648 ≤ 2 * v4 ∧ 2 * v4 < (2147483648 : Int) := k1 h1 h2
      refine z_imulN dX12_elect_225 s1 ?_
      refine z_iload_n dX12_elect_226 rfl rfl ?_
      refine z_icmp_ge dX12_elect_227 (tgt := 237) (by decide) (fun h3 => ?_) (fun h3 => ?_)
      · skip
        refine z_aload_n dX12_elect_237 rfl rfl ?_
        refine z_iconst dX12_elect_238 (by unfold zIn; decide) ?_
        refine z_putI (k := 91) fpRX12_386 rfl rfl dX12_elect_239 ?_
        refine z_iconst dX12_elect_242 (by unfold zIn; decide) ?_
        refine z_istore (ls' := [zr 98, zi v1, zi v2, zi v3, zi v4, zi v5, zi 0]) dX12_elect_243 (by decide) rfl ?_
        exact k2 h1 h2 h3
      · skip
        exact J230 h1 (Or.inr ⟨h2, h3⟩)
  · skip
    refine z_aload_n dX12_elect_136 rfl rfl ?_
    refine z_getfR (k := 45) flRX12_109 rfl rfl dX12_elect_137 ?_
    refine z_iload dX12_elect_140 rfl ?_
    have s3 : (0 : Int) ≤ v6 ∧ v6 < (12 : Int) := k3 h1
    refine z_iald rfl s3.1 s3.2 dX12_elect_142 ?_
    refine z_iconst dX12_elect_143 (by unfold zIn; decide) ?_
    refine z_icmp_ne dX12_elect_144 (tgt := 150) (by decide) (fun h4 => ?_) (fun h4 => ?_)
    · skip
      refine z_aload_n dX12_elect_150 rfl rfl ?_
      refine z_getfR (k := 44) flRX12_106 rfl rfl dX12_elect_151 ?_
      refine z_iload dX12_elect_154 rfl ?_
      refine z_iald rfl s3.1 s3.2 dX12_elect_156 ?_
      refine z_iconst dX12_elect_157 (by unfold zIn; decide) ?_
      refine z_icmp_ne dX12_elect_158 (tgt := 176) (by decide) (fun h5 => ?_) (fun h5 => ?_)
      · skip
        exact J176 h1 h4 (Or.inl h5)
      · skip
        refine z_iload dX12_elect_161 rfl ?_
        refine z_iconst dX12_elect_163 (by unfold zIn; decide) ?_
        refine z_icmp_ne dX12_elect_164 (tgt := 176) (by decide) (fun h6 => ?_) (fun h6 => ?_)
        · skip
          exact J176 h1 h4 (Or.inr ⟨h5, h6⟩)
        · skip
          refine z_aload_n dX12_elect_167 rfl rfl ?_
          refine z_getfR (k := 45) flRX12_109 rfl rfl dX12_elect_168 ?_
          refine z_iload dX12_elect_171 rfl ?_
          refine z_iald rfl s3.1 s3.2 dX12_elect_173 ?_
          refine z_istore (ls' := [zr 98, zi v1, zi v2, zi v3, zi v4, zi (σ 130 v6), zi v6]) dX12_elect_174 (by decide) rfl ?_
          exact J176_1 h1 h4 h5 h6
    · skip
      refine z_goto dX12_elect_147 (tgt := 211) (by decide) ?_
      exact J211 h1 (Or.inl h4)
set_option maxRecDepth 20000 in
set_option maxHeartbeats 1000000 in
theorem TX12_elect_245 {G : zG} {σ : zS} {Q : Int → zS → Prop} {v1 v2 v3 v4 v5 v6 : Int}  (k1 : (σ 98 4 ≤ v6) → zO G MX12_keeps [zr 98, zi 12, zi v5] σ (fun rr σ' => zR G MX12_elect 327 [zr 98, zi v1, zi v2, zi v3, zi v4, zi v5, zi v6] [] σ' Q)) (k2 : (v6 < σ 98 4) → (0 : Int) ≤ v6 ∧ v6 < (12 : Int)) (k3 : (v6 < σ 98 4) → (σ 129 v6 = 1) → (σ 130 v6 ≠ (-1)) → (0 : Int) ≤ σ 130 v6 ∧ σ 130 v6 < (24 : Int)) (k4 : (v6 < σ 98 4) → (σ 129 v6 = 1) → (σ 130 v6 ≠ (-1)) → (0 ≤ σ 135 (σ 130 v6)) → -2147483648 ≤ σ 98 91 + 1 ∧ σ 98 91 + 1 < (2147483648 : Int)) (k5 : (v6 < σ 98 4) → (σ 129 v6 = 1) → (σ 130 v6 ≠ (-1)) → (0 ≤ σ 135 (σ 130 v6)) → zO G MX12_keeps [zr 98, zi (σ 98 91), zi (σ 130 v6)] (zup σ 98 91 (σ 98 91 + 1)) (fun rr σ' => zR G MX12_elect 313 [zr 98, zi v1, zi v2, zi v3, zi v4, zi v5, zi v6] [] σ' Q)) (k6 : (v6 < σ 98 4) → (σ 129 v6 ≠ 1 ∨ (σ 129 v6 = 1 ∧ σ 130 v6 = (-1)) ∨ (σ 129 v6 = 1 ∧ σ 130 v6 ≠ (-1) ∧ σ 135 (σ 130 v6) < 0)) → -2147483648 ≤ v6 + 1 ∧ v6 + 1 < (2147483648 : Int)) (k7 : (v6 < σ 98 4) → (σ 129 v6 ≠ 1 ∨ (σ 129 v6 = 1 ∧ σ 130 v6 = (-1)) ∨ (σ 129 v6 = 1 ∧ σ 130 v6 ≠ (-1) ∧ σ 135 (σ 130 v6) < 0)) → zR G MX12_elect 245 [zr 98, zi v1, zi v2, zi v3, zi v4, zi v5, zi (v6 + 1)] [] σ Q) : zR G MX12_elect 245 [zr 98, zi v1, zi v2, zi v3, zi v4, zi v5, zi v6] [] σ Q := by
  have J313 : (v6 < σ 98 4) → (σ 129 v6 ≠ 1 ∨ (σ 129 v6 = 1 ∧ σ 130 v6 = (-1)) ∨ (σ 129 v6 = 1 ∧ σ 130 v6 ≠ (-1) ∧ σ 135 (σ 130 v6) < 0)) → zR G MX12_elect 313 [zr 98, zi v1, zi v2, zi v3, zi v4, zi v5, zi v6] [] σ Q := by
    intro h1 h5
    have s6 : -2147483648 ≤ v6 + 1 ∧ v6 + 1 < (2147483648 : Int) := k6 h1 h5
    refine z_iincN (ls' := [zr 98, zi v1, zi v2, zi v3, zi v4, zi v5, zi (v6 + 1)]) dX12_elect_313 rfl (by decide) s6 rfl ?_
    refine z_goto dX12_elect_316 (tgt := 245) (by decide) ?_
    exact k7 h1 h5
  refine z_iload dX12_elect_245 rfl ?_
  refine z_aload_n dX12_elect_247 rfl rfl ?_
  refine z_getfI (k := 4) flRX12_259 rfl rfl dX12_elect_248 ?_
  refine z_icmp_ge dX12_elect_251 (tgt := 319) (by decide) (fun h1 => ?_) (fun h1 => ?_)
  · skip
    refine z_aload_n dX12_elect_319 rfl rfl ?_
    refine z_bipush (x := 12) dX12_elect_320 (by decide +kernel) (by unfold zIn; decide) ?_
    refine z_iload dX12_elect_322 rfl ?_
    refine z_callv (as := [zi 12, zi v5]) (st := []) mkX12_keeps lkRX12_395 rfl rfl rfl (by decide) (Nat.le_of_ble_eq_true rfl) rfl dX12_elect_324 (k1 h1)
  · skip
    refine z_aload_n dX12_elect_254 rfl rfl ?_
    refine z_getfR (k := 44) flRX12_106 rfl rfl dX12_elect_255 ?_
    refine z_iload dX12_elect_258 rfl ?_
    have s2 : (0 : Int) ≤ v6 ∧ v6 < (12 : Int) := k2 h1
    refine z_iald rfl s2.1 s2.2 dX12_elect_260 ?_
    refine z_iconst dX12_elect_261 (by unfold zIn; decide) ?_
    refine z_icmp_ne dX12_elect_262 (tgt := 313) (by decide) (fun h2 => ?_) (fun h2 => ?_)
    · skip
      exact J313 h1 (Or.inl h2)
    · skip
      refine z_aload_n dX12_elect_265 rfl rfl ?_
      refine z_getfR (k := 45) flRX12_109 rfl rfl dX12_elect_266 ?_
      refine z_iload dX12_elect_269 rfl ?_
      refine z_iald rfl s2.1 s2.2 dX12_elect_271 ?_
      refine z_iconst dX12_elect_272 (by unfold zIn; decide) ?_
      refine z_icmp_eq dX12_elect_273 (tgt := 313) (by decide) (fun h3 => ?_) (fun h3 => ?_)
      · skip
        exact J313 h1 (Or.inr (Or.inl ⟨h2, h3⟩))
      · skip
        refine z_aload_n dX12_elect_276 rfl rfl ?_
        refine z_getfR (k := 50) flRX12_124 rfl rfl dX12_elect_277 ?_
        refine z_aload_n dX12_elect_280 rfl rfl ?_
        refine z_getfR (k := 45) flRX12_109 rfl rfl dX12_elect_281 ?_
        refine z_iload dX12_elect_284 rfl ?_
        refine z_iald rfl s2.1 s2.2 dX12_elect_286 ?_
        have s3 : (0 : Int) ≤ σ 130 v6 ∧ σ 130 v6 < (24 : Int) := k3 h1 h2 h3
        refine z_iald rfl s3.1 s3.2 dX12_elect_287 ?_
        refine z_if_lt dX12_elect_288 (tgt := 313) (by decide) (fun h4 => ?_) (fun h4 => ?_)
        · skip
          exact J313 h1 (Or.inr (Or.inr ⟨h2, h3, h4⟩))
        · skip
          refine z_aload_n dX12_elect_291 rfl rfl ?_
          refine z_aload_n dX12_elect_292 rfl rfl ?_
          refine z_dup dX12_elect_293 rfl ?_
          refine z_getfI (k := 91) flRX12_386 rfl rfl dX12_elect_294 ?_
          refine z_dup_x1 dX12_elect_297 rfl rfl ?_
          refine z_iconst dX12_elect_298 (by unfold zIn; decide) ?_
          have s4 : -2147483648 ≤ σ 98 91 + 1 ∧ σ 98 91 + 1 < (2147483648 : Int) := k4 h1 h2 h3 h4
          refine z_iaddN dX12_elect_299 s4 ?_
          refine z_putI (k := 91) fpRX12_386 rfl rfl dX12_elect_300 ?_
          refine z_aload_n dX12_elect_303 rfl rfl ?_
          refine z_getfR (k := 45) flRX12_109 rfl rfl dX12_elect_304 ?_
          refine z_iload dX12_elect_307 rfl ?_
          refine z_ialdE (v := σ 130 v6) rfl s2.1 s2.2 (zup_of (by decide)) dX12_elect_309 ?_
          refine z_callv (as := [zi (σ 98 91), zi (σ 130 v6)]) (st := []) mkX12_keeps lkRX12_395 rfl rfl rfl (by decide) (Nat.le_of_ble_eq_true rfl) rfl dX12_elect_310 (k5 h1 h2 h3 h4)
set_option maxRecDepth 20000 in
set_option maxHeartbeats 1000000 in
theorem TX12_elect_313 {G : zG} {σ : zS} {Q : Int → zS → Prop} {v1 v2 v3 v4 v5 v6 : Int}  (k1 : -2147483648 ≤ v6 + 1 ∧ v6 + 1 < (2147483648 : Int)) (k2 : zR G MX12_elect 245 [zr 98, zi v1, zi v2, zi v3, zi v4, zi v5, zi (v6 + 1)] [] σ Q) : zR G MX12_elect 313 [zr 98, zi v1, zi v2, zi v3, zi v4, zi v5, zi v6] [] σ Q := by
  have s1 : -2147483648 ≤ v6 + 1 ∧ v6 + 1 < (2147483648 : Int) := k1
  refine z_iincN (ls' := [zr 98, zi v1, zi v2, zi v3, zi v4, zi v5, zi (v6 + 1)]) dX12_elect_313 rfl (by decide) s1 rfl ?_
  refine z_goto dX12_elect_316 (tgt := 245) (by decide) ?_
  exact k2
set_option maxRecDepth 20000 in
set_option maxHeartbeats 1000000 in
theorem TX12_elect_327 {G : zG} {σ : zS} {Q : Int → zS → Prop} {v1 v2 v3 v4 v5 v6 : Int}  (k1 : zO G MX12_elects [zr 98, zi v2, zi 1] (zup (zup σ 98 89 1) 98 90 v2) (fun rr σ' => zR G MX12_elect 343 [zr 98, zi v1, zi v2, zi v3, zi v4, zi v5, zi v6] [zi rr] σ' Q)) : zR G MX12_elect 327 [zr 98, zi v1, zi v2, zi v3, zi v4, zi v5, zi v6] [] σ Q := by
  refine z_aload_n dX12_elect_327 rfl rfl ?_
  refine z_iconst dX12_elect_328 (by unfold zIn; decide) ?_
  refine z_putZ (k := 89) fpRX12_398 rfl rfl (by decide) dX12_elect_329 ?_
  refine z_aload_n dX12_elect_332 rfl rfl ?_
  refine z_iload_n dX12_elect_333 rfl rfl ?_
  refine z_putI (k := 90) fpRX12_402 rfl rfl dX12_elect_334 ?_
  refine z_aload_n dX12_elect_337 rfl rfl ?_
  refine z_iload_n dX12_elect_338 rfl rfl ?_
  refine z_iconst dX12_elect_339 (by unfold zIn; decide) ?_
  refine z_callv (as := [zi v2, zi 1]) (st := []) mkX12_elects lkRX12_405 rfl rfl rfl (by decide) (Nat.le_of_ble_eq_true rfl) rfl dX12_elect_340 (k1)
set_option maxRecDepth 20000 in
set_option maxHeartbeats 1000000 in
theorem TX12_elect_343 {G : zG} {σ : zS} {Q : Int → zS → Prop} {v1 v2 v3 v4 v5 v6 r : Int}  (k1 : (0 : Int) ≤ v1 ∧ v1 < (12 : Int)) (k2 : Q r (zup (zup (zup (zup σ 130 v1 r) 131 v1 (σ 98 0)) 132 v1 (-1)) 133 v1 0)) : zR G MX12_elect 343 [zr 98, zi v1, zi v2, zi v3, zi v4, zi v5, zi v6] [zi r] σ Q := by
  refine z_istore (ls' := [zr 98, zi v1, zi v2, zi v3, zi v4, zi v5, zi r]) dX12_elect_343 (by decide) rfl ?_
  refine z_aload_n dX12_elect_345 rfl rfl ?_
  refine z_iload dX12_elect_346 rfl ?_
  refine z_iload_n dX12_elect_348 rfl rfl ?_
  have s1 : (0 : Int) ≤ v1 ∧ v1 < (12 : Int) := k1
  refine z_callv (as := [zi r, zi v1]) (st := []) mkX12_comes lkRX12_378 rfl rfl rfl (by decide) (Nat.le_of_ble_eq_true rfl) rfl dX12_elect_349 ?_
  refine SX12_comes s1 ?_
  show zR G MX12_elect 352 [zr 98, zi v1, zi v2, zi v3, zi v4, zi v5, zi r] [] (zup (zup (zup (zup σ 130 v1 r) 131 v1 (σ 98 0)) 132 v1 (-1)) 133 v1 0) Q
  refine z_iload dX12_elect_352 rfl ?_
  exact z_ireti rfl dX12_elect_354 (k2)
set_option maxRecDepth 20000 in
set_option maxHeartbeats 1000000 in
theorem TX12_votes {G : zG} {σ : zS} {Q : Int → zS → Prop} {a1 a2 : Int}  (k1 : (σ 98 89 ≠ 0) → (0 ≤ a1) → (a1 < σ 98 92) → ((0 ≤ a2 ∧ a2 < σ 98 1)) → (0 : Int) ≤ a1 ∧ a1 < (24 : Int)) (k2 : (σ 98 89 ≠ 0) → (0 ≤ a1) → (a1 < σ 98 92) → ((0 ≤ a2 ∧ a2 < σ 98 1)) → (zand (zshr (σ 171 a1) a2) 1 ≠ 0) → -2147483648 ≤ 24 * a1 ∧ 24 * a1 < (2147483648 : Int)) (k3 : (σ 98 89 ≠ 0) → (0 ≤ a1) → (a1 < σ 98 92) → ((0 ≤ a2 ∧ a2 < σ 98 1)) → (zand (zshr (σ 171 a1) a2) 1 ≠ 0) → -2147483648 ≤ (24 * a1) + a2 ∧ (24 * a1) + a2 < (2147483648 : Int)) (k4 : (σ 98 89 ≠ 0) → (0 ≤ a1) → (a1 < σ 98 92) → ((0 ≤ a2 ∧ a2 < σ 98 1)) → (zand (zshr (σ 171 a1) a2) 1 ≠ 0) → (0 : Int) ≤ (24 * a1) + a2 ∧ (24 * a1) + a2 < (576 : Int)) (k5 : (σ 98 89 ≠ 0) → (0 ≤ a1) → (a1 < σ 98 92) → ((0 ≤ a2 ∧ a2 < σ 98 1)) → (zand (zshr (σ 171 a1) a2) 1 ≠ 0) → Q (σ 170 ((24 * a1) + a2)) σ) (k6 : (σ 98 89 = 0 ∨ (σ 98 89 ≠ 0 ∧ a1 < 0) ∨ (σ 98 89 ≠ 0 ∧ 0 ≤ a1 ∧ σ 98 92 ≤ a1) ∨ (σ 98 89 ≠ 0 ∧ 0 ≤ a1 ∧ a1 < σ 98 92 ∧ (¬ ((0 ≤ a2 ∧ a2 < σ 98 1)))) ∨ (σ 98 89 ≠ 0 ∧ 0 ≤ a1 ∧ a1 < σ 98 92 ∧ ((0 ≤ a2 ∧ a2 < σ 98 1)) ∧ zand (zshr (σ 171 a1) a2) 1 = 0)) → Q (-1) σ) : zO G MX12_votes [zr 98, zi a1, zi a2] σ Q := by
  refine zO_of (ls0 := [zr 98, zi a1, zi a2]) (by decide) (Nat.le_of_ble_eq_true rfl) rfl ?_
  have J40 : (σ 98 89 = 0 ∨ (σ 98 89 ≠ 0 ∧ a1 < 0) ∨ (σ 98 89 ≠ 0 ∧ 0 ≤ a1 ∧ σ 98 92 ≤ a1) ∨ (σ 98 89 ≠ 0 ∧ 0 ≤ a1 ∧ a1 < σ 98 92 ∧ (¬ ((0 ≤ a2 ∧ a2 < σ 98 1)))) ∨ (σ 98 89 ≠ 0 ∧ 0 ≤ a1 ∧ a1 < σ 98 92 ∧ ((0 ≤ a2 ∧ a2 < σ 98 1)) ∧ zand (zshr (σ 171 a1) a2) 1 = 0)) → zR G MX12_votes 40 [zr 98, zi a1, zi a2] [] σ Q := by
    intro h6
    refine z_iconst dX12_votes_40 (by unfold zIn; decide) ?_
    exact z_ireti rfl dX12_votes_41 (k6 h6)
  refine z_aload_n dX12_votes_0 rfl rfl ?_
  refine z_getfI (k := 89) flRX12_398 rfl rfl dX12_votes_1 ?_
  refine z_if_eq dX12_votes_4 (tgt := 40) (by decide) (fun h1 => ?_) (fun h1 => ?_)
  · skip
    exact J40 (Or.inl h1)
  · skip
    refine z_iload_n dX12_votes_7 rfl rfl ?_
    refine z_if_lt dX12_votes_8 (tgt := 40) (by decide) (fun h2 => ?_) (fun h2 => ?_)
    · skip
      exact J40 (Or.inr (Or.inl ⟨h1, h2⟩))
    · skip
      refine z_iload_n dX12_votes_11 rfl rfl ?_
      refine z_aload_n dX12_votes_12 rfl rfl ?_
      refine z_getfI (k := 92) flRX12_392 rfl rfl dX12_votes_13 ?_
      refine z_icmp_ge dX12_votes_16 (tgt := 40) (by decide) (fun h3 => ?_) (fun h3 => ?_)
      · skip
        exact J40 (Or.inr (Or.inr (Or.inl ⟨h1, h2, h3⟩)))
      · skip
        refine z_aload_n dX12_votes_19 rfl rfl ?_
        refine z_iload_n dX12_votes_20 rfl rfl ?_
        refine z_callv (as := [zi a2]) (st := []) mkX12_isOne lkRX12_271 rfl rfl rfl (by decide) (Nat.le_of_ble_eq_true rfl) rfl dX12_votes_21 ?_
        refine SX12_isOne ?_
        show zR G MX12_votes 24 [zr 98, zi a1, zi a2] [zi (if (0 ≤ a2 ∧ a2 < σ 98 1) then (1 : Int) else 0)] σ Q
        refine z_if_eq dX12_votes_24 (tgt := 40) (by decide) (fun z => ?_) (fun z => ?_)
        · have h4 : ¬ ((0 ≤ a2 ∧ a2 < σ 98 1)) := zb0 z
          exact J40 (Or.inr (Or.inr (Or.inr (Or.inl ⟨h1, h2, h3, h4⟩))))
        · have h4 : (0 ≤ a2 ∧ a2 < σ 98 1) := zb1 z
          refine z_aload_n dX12_votes_27 rfl rfl ?_
          refine z_getfR (k := 96) flRX12_232 rfl rfl dX12_votes_28 ?_
          refine z_iload_n dX12_votes_31 rfl rfl ?_
          have s1 : (0 : Int) ≤ a1 ∧ a1 < (24 : Int) := k1 h1 h2 h3 h4
          refine z_iald rfl s1.1 s1.2 dX12_votes_32 ?_
          refine z_iload_n dX12_votes_33 rfl rfl ?_
          refine z_ishr dX12_votes_34 ?_
          refine z_iconst dX12_votes_35 (by unfold zIn; decide) ?_
          refine z_iand dX12_votes_36 ?_
          refine z_if_ne dX12_votes_37 (tgt := 42) (by decide) (fun h5 => ?_) (fun h5 => ?_)
          · skip
            refine z_aload_n dX12_votes_42 rfl rfl ?_
            refine z_getfR (k := 95) flRX12_229 rfl rfl dX12_votes_43 ?_
            refine z_bipush (x := 24) dX12_votes_46 (by decide +kernel) (by unfold zIn; decide) ?_
            refine z_iload_n dX12_votes_48 rfl rfl ?_
            have s2 : -2147483648 ≤ 24 * a1 ∧ 24 * a1 < (2147483648 : Int) := k2 h1 h2 h3 h4 h5
            refine z_imulN dX12_votes_49 s2 ?_
            refine z_iload_n dX12_votes_50 rfl rfl ?_
            have s3 : -2147483648 ≤ (24 * a1) + a2 ∧ (24 * a1) + a2 < (2147483648 : Int) := k3 h1 h2 h3 h4 h5
            refine z_iaddN dX12_votes_51 s3 ?_
            have s4 : (0 : Int) ≤ (24 * a1) + a2 ∧ (24 * a1) + a2 < (576 : Int) := k4 h1 h2 h3 h4 h5
            refine z_iald rfl s4.1 s4.2 dX12_votes_52 ?_
            exact z_ireti rfl dX12_votes_53 (k5 h1 h2 h3 h4 h5)
          · skip
            exact J40 (Or.inr (Or.inr (Or.inr (Or.inr ⟨h1, h2, h3, h4, h5⟩))))
set_option maxRecDepth 20000 in
set_option maxHeartbeats 1000000 in
theorem TX12_without {G : zG} {σ : zS} {Q : Int → zS → Prop} {a1 : Int}  (k1 : (σ 98 89 ≠ 0) → ((0 ≤ a1 ∧ a1 < σ 98 1)) → (zand (zshr (σ 98 90) a1) 1 ≠ 0) → (σ 98 90 ≠ zshl 1 a1) → zO G MX12_elects [zr 98, zi (zand (σ 98 90) (zxor (zshl 1 a1) (-1))), zi 0] σ (fun rr σ' => zR G MX12_without 53 [zr 98, zi a1] [zi rr] σ' Q)) (k2 : (σ 98 89 = 0 ∨ (σ 98 89 ≠ 0 ∧ (¬ ((0 ≤ a1 ∧ a1 < σ 98 1)))) ∨ (σ 98 89 ≠ 0 ∧ ((0 ≤ a1 ∧ a1 < σ 98 1)) ∧ zand (zshr (σ 98 90) a1) 1 = 0) ∨ (σ 98 89 ≠ 0 ∧ ((0 ≤ a1 ∧ a1 < σ 98 1)) ∧ zand (zshr (σ 98 90) a1) 1 ≠ 0 ∧ σ 98 90 = zshl 1 a1)) → Q (-1) σ) : zO G MX12_without [zr 98, zi a1] σ Q := by
  refine zO_of (ls0 := [zr 98, zi a1]) (by decide) (Nat.le_of_ble_eq_true rfl) rfl ?_
  have J36 : (σ 98 89 = 0 ∨ (σ 98 89 ≠ 0 ∧ (¬ ((0 ≤ a1 ∧ a1 < σ 98 1)))) ∨ (σ 98 89 ≠ 0 ∧ ((0 ≤ a1 ∧ a1 < σ 98 1)) ∧ zand (zshr (σ 98 90) a1) 1 = 0) ∨ (σ 98 89 ≠ 0 ∧ ((0 ≤ a1 ∧ a1 < σ 98 1)) ∧ zand (zshr (σ 98 90) a1) 1 ≠ 0 ∧ σ 98 90 = zshl 1 a1)) → zR G MX12_without 36 [zr 98, zi a1] [] σ Q := by
    intro h5
    refine z_iconst dX12_without_36 (by unfold zIn; decide) ?_
    exact z_ireti rfl dX12_without_37 (k2 h5)
  refine z_aload_n dX12_without_0 rfl rfl ?_
  refine z_getfI (k := 89) flRX12_398 rfl rfl dX12_without_1 ?_
  refine z_if_eq dX12_without_4 (tgt := 36) (by decide) (fun h1 => ?_) (fun h1 => ?_)
  · skip
    exact J36 (Or.inl h1)
  · skip
    refine z_aload_n dX12_without_7 rfl rfl ?_
    refine z_iload_n dX12_without_8 rfl rfl ?_
    refine z_callv (as := [zi a1]) (st := []) mkX12_isOne lkRX12_271 rfl rfl rfl (by decide) (Nat.le_of_ble_eq_true rfl) rfl dX12_without_9 ?_
    refine SX12_isOne ?_
    show zR G MX12_without 12 [zr 98, zi a1] [zi (if (0 ≤ a1 ∧ a1 < σ 98 1) then (1 : Int) else 0)] σ Q
    refine z_if_eq dX12_without_12 (tgt := 36) (by decide) (fun z => ?_) (fun z => ?_)
    · have h2 : ¬ ((0 ≤ a1 ∧ a1 < σ 98 1)) := zb0 z
      exact J36 (Or.inr (Or.inl ⟨h1, h2⟩))
    · have h2 : (0 ≤ a1 ∧ a1 < σ 98 1) := zb1 z
      refine z_aload_n dX12_without_15 rfl rfl ?_
      refine z_getfI (k := 90) flRX12_402 rfl rfl dX12_without_16 ?_
      refine z_iload_n dX12_without_19 rfl rfl ?_
      refine z_ishr dX12_without_20 ?_
      refine z_iconst dX12_without_21 (by unfold zIn; decide) ?_
      refine z_iand dX12_without_22 ?_
      refine z_if_eq dX12_without_23 (tgt := 36) (by decide) (fun h3 => ?_) (fun h3 => ?_)
      · skip
        exact J36 (Or.inr (Or.inr (Or.inl ⟨h1, h2, h3⟩)))
      · skip
        refine z_aload_n dX12_without_26 rfl rfl ?_
        refine z_getfI (k := 90) flRX12_402 rfl rfl dX12_without_27 ?_
        refine z_iconst dX12_without_30 (by unfold zIn; decide) ?_
        refine z_iload_n dX12_without_31 rfl rfl ?_
        refine z_ishl dX12_without_32 ?_
        refine z_icmp_ne dX12_without_33 (tgt := 38) (by decide) (fun h4 => ?_) (fun h4 => ?_)
        · skip
          refine z_aload_n dX12_without_38 rfl rfl ?_
          refine z_aload_n dX12_without_39 rfl rfl ?_
          refine z_getfI (k := 90) flRX12_402 rfl rfl dX12_without_40 ?_
          refine z_iconst dX12_without_43 (by unfold zIn; decide) ?_
          refine z_iload_n dX12_without_44 rfl rfl ?_
          refine z_ishl dX12_without_45 ?_
          refine z_iconst dX12_without_46 (by unfold zIn; decide) ?_
          refine z_ixor dX12_without_47 ?_
          refine z_iand dX12_without_48 ?_
          refine z_iconst dX12_without_49 (by unfold zIn; decide) ?_
          refine z_callv (as := [zi (zand (σ 98 90) (zxor (zshl 1 a1) (-1))), zi 0]) (st := []) mkX12_elects lkRX12_405 rfl rfl rfl (by decide) (Nat.le_of_ble_eq_true rfl) rfl dX12_without_50 (k1 h1 h2 h3 h4)
        · skip
          exact J36 (Or.inr (Or.inr (Or.inr ⟨h1, h2, h3, h4⟩)))
set_option maxRecDepth 20000 in
set_option maxHeartbeats 1000000 in
theorem TX12_without_53 {G : zG} {σ : zS} {Q : Int → zS → Prop} {v1 r : Int}  (k1 : Q r σ) : zR G MX12_without 53 [zr 98, zi v1] [zi r] σ Q := by
  exact z_ireti rfl dX12_without_53 (k1)
set_option maxRecDepth 20000 in
set_option maxHeartbeats 1000000 in
theorem TX12_seniors {G : zG} {σ : zS} {Q : Int → zS → Prop}  (k1 : zR G MX12_seniors 4 [zr 98, zi 0, zi 0, zu] [] σ Q) : zO G MX12_seniors [zr 98] σ Q := by
  refine zO_of (ls0 := [zr 98, zu, zu, zu]) (by decide) (Nat.le_of_ble_eq_true rfl) rfl ?_
  refine z_iconst dX12_seniors_0 (by unfold zIn; decide) ?_
  refine z_istore_n (ls' := [zr 98, zi 0, zu, zu]) dX12_seniors_1 rfl (by decide) rfl ?_
  refine z_iconst dX12_seniors_2 (by unfold zIn; decide) ?_
  refine z_istore_n (ls' := [zr 98, zi 0, zi 0, zu]) dX12_seniors_3 rfl (by decide) rfl ?_
  exact k1
set_option maxRecDepth 20000 in
set_option maxHeartbeats 1000000 in
theorem TX12_seniors_4 {G : zG} {σ : zS} {Q : Int → zS → Prop} {v1 v2 : Int}  (k1 : (σ 98 4 ≤ v2) → Q v1 σ) (k2 : (v2 < σ 98 4) → (0 : Int) ≤ v2 ∧ v2 < (12 : Int)) (k3 : (v2 < σ 98 4) → (σ 129 v2 = 1) → (σ 130 v2 ≠ (-1)) → -2147483648 ≤ v1 + 1 ∧ v1 + 1 < (2147483648 : Int)) (k4 : (v2 < σ 98 4) → (σ 129 v2 = 1) → (σ 130 v2 ≠ (-1)) → zR G MX12_seniors 40 [zr 98, zi (v1 + 1), zi v2, zi v1] [] σ Q) (k5 : (v2 < σ 98 4) → (σ 129 v2 ≠ 1 ∨ (σ 129 v2 = 1 ∧ σ 130 v2 = (-1))) → -2147483648 ≤ v2 + 1 ∧ v2 + 1 < (2147483648 : Int)) (k6 : (v2 < σ 98 4) → (σ 129 v2 ≠ 1 ∨ (σ 129 v2 = 1 ∧ σ 130 v2 = (-1))) → zR G MX12_seniors 4 [zr 98, zi v1, zi (v2 + 1), zu] [] σ Q) : zR G MX12_seniors 4 [zr 98, zi v1, zi v2, zu] [] σ Q := by
  have J137 : (v2 < σ 98 4) → (σ 129 v2 ≠ 1 ∨ (σ 129 v2 = 1 ∧ σ 130 v2 = (-1))) → zR G MX12_seniors 137 [zr 98, zi v1, zi v2, zu] [] σ Q := by
    intro h1 h4
    have s5 : -2147483648 ≤ v2 + 1 ∧ v2 + 1 < (2147483648 : Int) := k5 h1 h4
    refine z_iincN (ls' := [zr 98, zi v1, zi (v2 + 1), zu]) dX12_seniors_137 rfl (by decide) s5 rfl ?_
    refine z_goto dX12_seniors_140 (tgt := 4) (by decide) ?_
    exact k6 h1 h4
  refine z_iload_n dX12_seniors_4 rfl rfl ?_
  refine z_aload_n dX12_seniors_5 rfl rfl ?_
  refine z_getfI (k := 4) flRX12_259 rfl rfl dX12_seniors_6 ?_
  refine z_icmp_ge dX12_seniors_9 (tgt := 143) (by decide) (fun h1 => ?_) (fun h1 => ?_)
  · skip
    refine z_iload_n dX12_seniors_143 rfl rfl ?_
    exact z_ireti rfl dX12_seniors_144 (k1 h1)
  · skip
    refine z_aload_n dX12_seniors_12 rfl rfl ?_
    refine z_getfR (k := 44) flRX12_106 rfl rfl dX12_seniors_13 ?_
    refine z_iload_n dX12_seniors_16 rfl rfl ?_
    have s2 : (0 : Int) ≤ v2 ∧ v2 < (12 : Int) := k2 h1
    refine z_iald rfl s2.1 s2.2 dX12_seniors_17 ?_
    refine z_iconst dX12_seniors_18 (by unfold zIn; decide) ?_
    refine z_icmp_ne dX12_seniors_19 (tgt := 137) (by decide) (fun h2 => ?_) (fun h2 => ?_)
    · skip
      exact J137 h1 (Or.inl h2)
    · skip
      refine z_aload_n dX12_seniors_22 rfl rfl ?_
      refine z_getfR (k := 45) flRX12_109 rfl rfl dX12_seniors_23 ?_
      refine z_iload_n dX12_seniors_26 rfl rfl ?_
      refine z_iald rfl s2.1 s2.2 dX12_seniors_27 ?_
      refine z_iconst dX12_seniors_28 (by unfold zIn; decide) ?_
      refine z_icmp_ne dX12_seniors_29 (tgt := 35) (by decide) (fun h3 => ?_) (fun h3 => ?_)
      · skip
        refine z_iload_n dX12_seniors_35 rfl rfl ?_
        have s3 : -2147483648 ≤ v1 + 1 ∧ v1 + 1 < (2147483648 : Int) := k3 h1 h2 h3
        refine z_iincN (ls' := [zr 98, zi (v1 + 1), zi v2, zu]) dX12_seniors_36 rfl (by decide) s3 rfl ?_
        refine z_istore_n (ls' := [zr 98, zi (v1 + 1), zi v2, zi v1]) dX12_seniors_39 rfl (by decide) rfl ?_
        exact k4 h1 h2 h3
      · skip
        refine z_goto dX12_seniors_32 (tgt := 137) (by decide) ?_
        exact J137 h1 (Or.inr ⟨h2, h3⟩)
set_option maxRecDepth 20000 in
set_option maxHeartbeats 1000000 in
theorem TX12_seniors_40 {G : zG} {σ : zS} {Q : Int → zS → Prop} {v1 v2 v3 : Int}  (k1 : (0 < v3) → -2147483648 ≤ v3 - 1 ∧ v3 - 1 < (2147483648 : Int)) (k2 : (0 < v3) → (0 : Int) ≤ v3 - 1 ∧ v3 - 1 < (12 : Int)) (k3 : (0 < v3) → (0 : Int) ≤ σ 173 (v3 - 1) ∧ σ 173 (v3 - 1) < (12 : Int)) (k4 : (0 < v3) → (0 : Int) ≤ v2 ∧ v2 < (12 : Int)) (k5 : (0 < v3) → (σ 131 v2 < σ 131 (σ 173 (v3 - 1)) ∨ (σ 131 (σ 173 (v3 - 1)) ≤ σ 131 v2 ∧ σ 131 (σ 173 (v3 - 1)) = σ 131 v2 ∧ σ 130 v2 < σ 130 (σ 173 (v3 - 1)))) → -2147483648 ≤ v3 - 1 ∧ v3 - 1 < (2147483648 : Int)) (k6 : (0 < v3) → (σ 131 v2 < σ 131 (σ 173 (v3 - 1)) ∨ (σ 131 (σ 173 (v3 - 1)) ≤ σ 131 v2 ∧ σ 131 (σ 173 (v3 - 1)) = σ 131 v2 ∧ σ 130 v2 < σ 130 (σ 173 (v3 - 1)))) → (0 : Int) ≤ v3 - 1 ∧ v3 - 1 < (12 : Int)) (k7 : (0 < v3) → (σ 131 v2 < σ 131 (σ 173 (v3 - 1)) ∨ (σ 131 (σ 173 (v3 - 1)) ≤ σ 131 v2 ∧ σ 131 (σ 173 (v3 - 1)) = σ 131 v2 ∧ σ 130 v2 < σ 130 (σ 173 (v3 - 1)))) → (0 : Int) ≤ v3 ∧ v3 < (12 : Int)) (k8 : (0 < v3) → (σ 131 v2 < σ 131 (σ 173 (v3 - 1)) ∨ (σ 131 (σ 173 (v3 - 1)) ≤ σ 131 v2 ∧ σ 131 (σ 173 (v3 - 1)) = σ 131 v2 ∧ σ 130 v2 < σ 130 (σ 173 (v3 - 1)))) → -2147483648 ≤ v3 + (-1) ∧ v3 + (-1) < (2147483648 : Int)) (k9 : (0 < v3) → (σ 131 v2 < σ 131 (σ 173 (v3 - 1)) ∨ (σ 131 (σ 173 (v3 - 1)) ≤ σ 131 v2 ∧ σ 131 (σ 173 (v3 - 1)) = σ 131 v2 ∧ σ 130 v2 < σ 130 (σ 173 (v3 - 1)))) → zR G MX12_seniors 40 [zr 98, zi v1, zi v2, zi (v3 + (-1))] [] (zup σ 173 v3 (σ 173 (v3 - 1))) Q) (k10 : (v3 ≤ 0 ∨ (0 < v3 ∧ σ 131 (σ 173 (v3 - 1)) ≤ σ 131 v2 ∧ σ 131 (σ 173 (v3 - 1)) ≠ σ 131 v2) ∨ (0 < v3 ∧ σ 131 (σ 173 (v3 - 1)) ≤ σ 131 v2 ∧ σ 131 (σ 173 (v3 - 1)) = σ 131 v2 ∧ σ 130 (σ 173 (v3 - 1)) ≤ σ 130 v2)) → (0 : Int) ≤ v3 ∧ v3 < (12 : Int)) (k11 : (v3 ≤ 0 ∨ (0 < v3 ∧ σ 131 (σ 173 (v3 - 1)) ≤ σ 131 v2 ∧ σ 131 (σ 173 (v3 - 1)) ≠ σ 131 v2) ∨ (0 < v3 ∧ σ 131 (σ 173 (v3 - 1)) ≤ σ 131 v2 ∧ σ 131 (σ 173 (v3 - 1)) = σ 131 v2 ∧ σ 130 (σ 173 (v3 - 1)) ≤ σ 130 v2)) → -2147483648 ≤ v2 + 1 ∧ v2 + 1 < (2147483648 : Int)) (k12 : (v3 ≤ 0 ∨ (0 < v3 ∧ σ 131 (σ 173 (v3 - 1)) ≤ σ 131 v2 ∧ σ 131 (σ 173 (v3 - 1)) ≠ σ 131 v2) ∨ (0 < v3 ∧ σ 131 (σ 173 (v3 - 1)) ≤ σ 131 v2 ∧ σ 131 (σ 173 (v3 - 1)) = σ 131 v2 ∧ σ 130 (σ 173 (v3 - 1)) ≤ σ 130 v2)) → zR G MX12_seniors 4 [zr 98, zi v1, zi (v2 + 1), zu] [] (zup σ 173 v3 v2) Q) : zR G MX12_seniors 40 [zr 98, zi v1, zi v2, zi v3] [] σ Q := by
  have J137 : (v3 ≤ 0 ∨ (0 < v3 ∧ σ 131 (σ 173 (v3 - 1)) ≤ σ 131 v2 ∧ σ 131 (σ 173 (v3 - 1)) ≠ σ 131 v2) ∨ (0 < v3 ∧ σ 131 (σ 173 (v3 - 1)) ≤ σ 131 v2 ∧ σ 131 (σ 173 (v3 - 1)) = σ 131 v2 ∧ σ 130 (σ 173 (v3 - 1)) ≤ σ 130 v2)) → zR G MX12_seniors 137 [zr 98, zi v1, zi v2, zi v3] [] (zup σ 173 v3 v2) Q := by
    intro h6
    have s11 : -2147483648 ≤ v2 + 1 ∧ v2 + 1 < (2147483648 : Int) := k11 h6
    refine z_iincN (ls' := [zr 98, zi v1, zi (v2 + 1), zi v3]) dX12_seniors_137 rfl (by decide) s11 rfl ?_
    refine z_goto dX12_seniors_140 (tgt := 4) (by decide) ?_
    exact zR_fg [false, false, false, true] (k12 h6)
  have J130 : (v3 ≤ 0 ∨ (0 < v3 ∧ σ 131 (σ 173 (v3 - 1)) ≤ σ 131 v2 ∧ σ 131 (σ 173 (v3 - 1)) ≠ σ 131 v2) ∨ (0 < v3 ∧ σ 131 (σ 173 (v3 - 1)) ≤ σ 131 v2 ∧ σ 131 (σ 173 (v3 - 1)) = σ 131 v2 ∧ σ 130 (σ 173 (v3 - 1)) ≤ σ 130 v2)) → zR G MX12_seniors 130 [zr 98, zi v1, zi v2, zi v3] [] σ Q := by
    intro h6
    refine z_aload_n dX12_seniors_130 rfl rfl ?_
    refine z_getfR (k := 98) flRX12_238 rfl rfl dX12_seniors_131 ?_
    refine z_iload_n dX12_seniors_134 rfl rfl ?_
    refine z_iload_n dX12_seniors_135 rfl rfl ?_
    have s10 : (0 : Int) ≤ v3 ∧ v3 < (12 : Int) := k10 h6
    refine z_iast rfl s10.1 s10.2 dX12_seniors_136 ?_
    exact J137 h6
  have J110 : (0 < v3) → (σ 131 v2 < σ 131 (σ 173 (v3 - 1)) ∨ (σ 131 (σ 173 (v3 - 1)) ≤ σ 131 v2 ∧ σ 131 (σ 173 (v3 - 1)) = σ 131 v2 ∧ σ 130 v2 < σ 130 (σ 173 (v3 - 1)))) → zR G MX12_seniors 110 [zr 98, zi v1, zi v2, zi v3] [] σ Q := by
    intro h1 h5
    refine z_aload_n dX12_seniors_110 rfl rfl ?_
    refine z_getfR (k := 98) flRX12_238 rfl rfl dX12_seniors_111 ?_
    refine z_iload_n dX12_seniors_114 rfl rfl ?_
    refine z_aload_n dX12_seniors_115 rfl rfl ?_
    refine z_getfR (k := 98) flRX12_238 rfl rfl dX12_seniors_116 ?_
    refine z_iload_n dX12_seniors_119 rfl rfl ?_
    refine z_iconst dX12_seniors_120 (by unfold zIn; decide) ?_
    have s5 : -2147483648 ≤ v3 - 1 ∧ v3 - 1 < (2147483648 : Int) := k5 h1 h5
    refine z_isubN dX12_seniors_121 s5 ?_
    have s6 : (0 : Int) ≤ v3 - 1 ∧ v3 - 1 < (12 : Int) := k6 h1 h5
    refine z_iald rfl s6.1 s6.2 dX12_seniors_122 ?_
    have s7 : (0 : Int) ≤ v3 ∧ v3 < (12 : Int) := k7 h1 h5
    refine z_iast rfl s7.1 s7.2 dX12_seniors_123 ?_
    have s8 : -2147483648 ≤ v3 + (-1) ∧ v3 + (-1) < (2147483648 : Int) := k8 h1 h5
    refine z_iincN (ls' := [zr 98, zi v1, zi v2, zi (v3 + (-1))]) dX12_seniors_124 rfl (by decide) s8 rfl ?_
    refine z_goto dX12_seniors_127 (tgt := 40) (by decide) ?_
    exact k9 h1 h5
  refine z_iload_n dX12_seniors_40 rfl rfl ?_
  refine z_if_le dX12_seniors_41 (tgt := 130) (by decide) (fun h1 => ?_) (fun h1 => ?_)
  · skip
    exact J130 (Or.inl h1)
  · skip
    refine z_aload_n dX12_seniors_44 rfl rfl ?_
    refine z_getfR (k := 46) flRX12_112 rfl rfl dX12_seniors_45 ?_
    refine z_aload_n dX12_seniors_48 rfl rfl ?_
    refine z_getfR (k := 98) flRX12_238 rfl rfl dX12_seniors_49 ?_
    refine z_iload_n dX12_seniors_52 rfl rfl ?_
    refine z_iconst dX12_seniors_53 (by unfold zIn; decide) ?_
    have s1 : -2147483648 ≤ v3 - 1 ∧ v3 - 1 < (2147483648 : Int) := k1 h1
    refine z_isubN dX12_seniors_54 s1 ?_
    have s2 : (0 : Int) ≤ v3 - 1 ∧ v3 - 1 < (12 : Int) := k2 h1
    refine z_iald rfl s2.1 s2.2 dX12_seniors_55 ?_
    have s3 : (0 : Int) ≤ σ 173 (v3 - 1) ∧ σ 173 (v3 - 1) < (12 : Int) := k3 h1
    refine z_iald rfl s3.1 s3.2 dX12_seniors_56 ?_
    refine z_aload_n dX12_seniors_57 rfl rfl ?_
    refine z_getfR (k := 46) flRX12_112 rfl rfl dX12_seniors_58 ?_
    refine z_iload_n dX12_seniors_61 rfl rfl ?_
    have s4 : (0 : Int) ≤ v2 ∧ v2 < (12 : Int) := k4 h1
    refine z_iald rfl s4.1 s4.2 dX12_seniors_62 ?_
    refine z_icmp_gt dX12_seniors_63 (tgt := 110) (by decide) (fun h2 => ?_) (fun h2 => ?_)
    · skip
      exact J110 h1 (Or.inl h2)
    · skip
      refine z_aload_n dX12_seniors_66 rfl rfl ?_
      refine z_getfR (k := 46) flRX12_112 rfl rfl dX12_seniors_67 ?_
      refine z_aload_n dX12_seniors_70 rfl rfl ?_
      refine z_getfR (k := 98) flRX12_238 rfl rfl dX12_seniors_71 ?_
      refine z_iload_n dX12_seniors_74 rfl rfl ?_
      refine z_iconst dX12_seniors_75 (by unfold zIn; decide) ?_
      refine z_isubN dX12_seniors_76 s1 ?_
      refine z_iald rfl s2.1 s2.2 dX12_seniors_77 ?_
      refine z_iald rfl s3.1 s3.2 dX12_seniors_78 ?_
      refine z_aload_n dX12_seniors_79 rfl rfl ?_
      refine z_getfR (k := 46) flRX12_112 rfl rfl dX12_seniors_80 ?_
      refine z_iload_n dX12_seniors_83 rfl rfl ?_
      refine z_iald rfl s4.1 s4.2 dX12_seniors_84 ?_
      refine z_icmp_ne dX12_seniors_85 (tgt := 130) (by decide) (fun h3 => ?_) (fun h3 => ?_)
      · skip
        exact J130 (Or.inr (Or.inl ⟨h1, h2, h3⟩))
      · skip
        refine z_aload_n dX12_seniors_88 rfl rfl ?_
        refine z_getfR (k := 45) flRX12_109 rfl rfl dX12_seniors_89 ?_
        refine z_aload_n dX12_seniors_92 rfl rfl ?_
        refine z_getfR (k := 98) flRX12_238 rfl rfl dX12_seniors_93 ?_
        refine z_iload_n dX12_seniors_96 rfl rfl ?_
        refine z_iconst dX12_seniors_97 (by unfold zIn; decide) ?_
        refine z_isubN dX12_seniors_98 s1 ?_
        refine z_iald rfl s2.1 s2.2 dX12_seniors_99 ?_
        refine z_iald rfl s3.1 s3.2 dX12_seniors_100 ?_
        refine z_aload_n dX12_seniors_101 rfl rfl ?_
        refine z_getfR (k := 45) flRX12_109 rfl rfl dX12_seniors_102 ?_
        refine z_iload_n dX12_seniors_105 rfl rfl ?_
        refine z_iald rfl s4.1 s4.2 dX12_seniors_106 ?_
        refine z_icmp_le dX12_seniors_107 (tgt := 130) (by decide) (fun h4 => ?_) (fun h4 => ?_)
        · skip
          exact J130 (Or.inr (Or.inr ⟨h1, h2, h3, h4⟩))
        · skip
          exact J110 h1 (Or.inr ⟨h2, h3, h4⟩)
set_option maxRecDepth 20000 in
set_option maxHeartbeats 1000000 in
theorem TX12_isAsked {G : zG} {σ : zS} {Q : Int → zS → Prop} {a1 : Int}  (k1 : (0 : Int) ≤ a1 ∧ a1 < (12 : Int)) (k2 : (σ 129 a1 = 3) → (σ 130 a1 = (-1)) → zO G MX12_seniors [zr 98] σ (fun rr σ' => zR G MX12_isAsked 26 [zr 98, zi a1, zu, zu, zu] [zi rr] σ' Q)) (k3 : (σ 129 a1 ≠ 3 ∨ (σ 129 a1 = 3 ∧ σ 130 a1 ≠ (-1))) → Q (-1) σ) : zO G MX12_isAsked [zr 98, zi a1] σ Q := by
  refine zO_of (ls0 := [zr 98, zi a1, zu, zu, zu]) (by decide) (Nat.le_of_ble_eq_true rfl) rfl ?_
  have J20 : (σ 129 a1 ≠ 3 ∨ (σ 129 a1 = 3 ∧ σ 130 a1 ≠ (-1))) → zR G MX12_isAsked 20 [zr 98, zi a1, zu, zu, zu] [] σ Q := by
    intro h3
    refine z_iconst dX12_isAsked_20 (by unfold zIn; decide) ?_
    exact z_ireti rfl dX12_isAsked_21 (k3 h3)
  refine z_aload_n dX12_isAsked_0 rfl rfl ?_
  refine z_getfR (k := 44) flRX12_106 rfl rfl dX12_isAsked_1 ?_
  refine z_iload_n dX12_isAsked_4 rfl rfl ?_
  have s1 : (0 : Int) ≤ a1 ∧ a1 < (12 : Int) := k1
  refine z_iald rfl s1.1 s1.2 dX12_isAsked_5 ?_
  refine z_iconst dX12_isAsked_6 (by unfold zIn; decide) ?_
  refine z_icmp_ne dX12_isAsked_7 (tgt := 20) (by decide) (fun h1 => ?_) (fun h1 => ?_)
  · skip
    exact J20 (Or.inl h1)
  · skip
    refine z_aload_n dX12_isAsked_10 rfl rfl ?_
    refine z_getfR (k := 45) flRX12_109 rfl rfl dX12_isAsked_11 ?_
    refine z_iload_n dX12_isAsked_14 rfl rfl ?_
    refine z_iald rfl s1.1 s1.2 dX12_isAsked_15 ?_
    refine z_iconst dX12_isAsked_16 (by unfold zIn; decide) ?_
    refine z_icmp_eq dX12_isAsked_17 (tgt := 22) (by decide) (fun h2 => ?_) (fun h2 => ?_)
    · skip
      refine z_aload_n dX12_isAsked_22 rfl rfl ?_
      refine z_callv (as := []) (st := []) mkX12_seniors lkRX12_409 rfl rfl rfl (by decide) (Nat.le_of_ble_eq_true rfl) rfl dX12_isAsked_23 (k2 h1 h2)
    · skip
      exact J20 (Or.inr ⟨h1, h2⟩)
set_option maxRecDepth 20000 in
set_option maxHeartbeats 1000000 in
theorem TX12_isAsked_26 {G : zG} {σ : zS} {Q : Int → zS → Prop} {v1 r : Int}  (k1 : zR G MX12_isAsked 29 [zr 98, zi v1, zi r, zi 0, zu] [] σ Q) : zR G MX12_isAsked 26 [zr 98, zi v1, zu, zu, zu] [zi r] σ Q := by
  refine z_istore_n (ls' := [zr 98, zi v1, zi r, zu, zu]) dX12_isAsked_26 rfl (by decide) rfl ?_
  refine z_iconst dX12_isAsked_27 (by unfold zIn; decide) ?_
  refine z_istore_n (ls' := [zr 98, zi v1, zi r, zi 0, zu]) dX12_isAsked_28 rfl (by decide) rfl ?_
  exact k1
set_option maxRecDepth 20000 in
set_option maxHeartbeats 1000000 in
theorem TX12_isAsked_29 {G : zG} {σ : zS} {Q : Int → zS → Prop} {v1 v2 v3 : Int}  (k1 : (v2 ≤ v3) → Q (-1) σ) (k2 : (v3 < v2) → (0 : Int) ≤ v3 ∧ v3 < (12 : Int)) (k3 : (v3 < v2) → (0 : Int) ≤ σ 173 v3 ∧ σ 173 v3 < (12 : Int)) (k4 : (v3 < v2) → (0 : Int) ≤ v1 ∧ v1 < (12 : Int)) (k5 : (v3 < v2) → (zand (zshr (σ 133 v1) (σ 130 (σ 173 v3))) 1 = 0) → zO G MX12_placeHeld [zr 98, zi (σ 130 (σ 173 v3)), zi 3] σ (fun rr σ' => zR G MX12_isAsked 68 [zr 98, zi v1, zi v2, zi v3, zi (σ 130 (σ 173 v3))] [zi rr] σ' Q)) (k6 : (v3 < v2) → (zand (zshr (σ 133 v1) (σ 130 (σ 173 v3))) 1 ≠ 0) → -2147483648 ≤ v3 + 1 ∧ v3 + 1 < (2147483648 : Int)) (k7 : (v3 < v2) → (zand (zshr (σ 133 v1) (σ 130 (σ 173 v3))) 1 ≠ 0) → zR G MX12_isAsked 29 [zr 98, zi v1, zi v2, zi (v3 + 1), zu] [] σ Q) : zR G MX12_isAsked 29 [zr 98, zi v1, zi v2, zi v3, zu] [] σ Q := by
  have J85 : (v3 < v2) → (zand (zshr (σ 133 v1) (σ 130 (σ 173 v3))) 1 ≠ 0) → zR G MX12_isAsked 85 [zr 98, zi v1, zi v2, zi v3, zi (σ 130 (σ 173 v3))] [] σ Q := by
    intro h1 h2
    have s6 : -2147483648 ≤ v3 + 1 ∧ v3 + 1 < (2147483648 : Int) := k6 h1 h2
    refine z_iincN (ls' := [zr 98, zi v1, zi v2, zi (v3 + 1), zi (σ 130 (σ 173 v3))]) dX12_isAsked_85 rfl (by decide) s6 rfl ?_
    refine z_goto dX12_isAsked_88 (tgt := 29) (by decide) ?_
    exact zR_fg [false, false, false, false, true] (k7 h1 h2)
  refine z_iload_n dX12_isAsked_29 rfl rfl ?_
  refine z_iload_n dX12_isAsked_30 rfl rfl ?_
  refine z_icmp_ge dX12_isAsked_31 (tgt := 91) (by decide) (fun h1 => ?_) (fun h1 => ?_)
  · skip
    refine z_iconst dX12_isAsked_91 (by unfold zIn; decide) ?_
    exact z_ireti rfl dX12_isAsked_92 (k1 h1)
  · skip
    refine z_aload_n dX12_isAsked_34 rfl rfl ?_
    refine z_getfR (k := 45) flRX12_109 rfl rfl dX12_isAsked_35 ?_
    refine z_aload_n dX12_isAsked_38 rfl rfl ?_
    refine z_getfR (k := 98) flRX12_238 rfl rfl dX12_isAsked_39 ?_
    refine z_iload_n dX12_isAsked_42 rfl rfl ?_
    have s2 : (0 : Int) ≤ v3 ∧ v3 < (12 : Int) := k2 h1
    refine z_iald rfl s2.1 s2.2 dX12_isAsked_43 ?_
    have s3 : (0 : Int) ≤ σ 173 v3 ∧ σ 173 v3 < (12 : Int) := k3 h1
    refine z_iald rfl s3.1 s3.2 dX12_isAsked_44 ?_
    refine z_istore (ls' := [zr 98, zi v1, zi v2, zi v3, zi (σ 130 (σ 173 v3))]) dX12_isAsked_45 (by decide) rfl ?_
    refine z_aload_n dX12_isAsked_47 rfl rfl ?_
    refine z_getfR (k := 48) flRX12_118 rfl rfl dX12_isAsked_48 ?_
    refine z_iload_n dX12_isAsked_51 rfl rfl ?_
    have s4 : (0 : Int) ≤ v1 ∧ v1 < (12 : Int) := k4 h1
    refine z_iald rfl s4.1 s4.2 dX12_isAsked_52 ?_
    refine z_iload dX12_isAsked_53 rfl ?_
    refine z_ishr dX12_isAsked_55 ?_
    refine z_iconst dX12_isAsked_56 (by unfold zIn; decide) ?_
    refine z_iand dX12_isAsked_57 ?_
    refine z_if_ne dX12_isAsked_58 (tgt := 85) (by decide) (fun h2 => ?_) (fun h2 => ?_)
    · skip
      exact J85 h1 h2
    · skip
      refine z_aload_n dX12_isAsked_61 rfl rfl ?_
      refine z_iload dX12_isAsked_62 rfl ?_
      refine z_iconst dX12_isAsked_64 (by unfold zIn; decide) ?_
      refine z_callv (as := [zi (σ 130 (σ 173 v3)), zi 3]) (st := []) mkX12_placeHeld lkRX12_375 rfl rfl rfl (by decide) (Nat.le_of_ble_eq_true rfl) rfl dX12_isAsked_65 (k5 h1 h2)
set_option maxRecDepth 20000 in
set_option maxHeartbeats 1000000 in
theorem TX12_isAsked_68 {G : zG} {σ : zS} {Q : Int → zS → Prop} {v1 v2 v3 v4 r : Int}  (k1 : (r = (-1)) → zO G MX12_mayHold [zr 98, zi v4, zi 3] σ (fun rr σ' => zR G MX12_isAsked 79 [zr 98, zi v1, zi v2, zi v3, zi v4] [zi rr] σ' Q)) (k2 : (r ≠ (-1)) → -2147483648 ≤ v3 + 1 ∧ v3 + 1 < (2147483648 : Int)) (k3 : (r ≠ (-1)) → zR G MX12_isAsked 29 [zr 98, zi v1, zi v2, zi (v3 + 1), zu] [] σ Q) : zR G MX12_isAsked 68 [zr 98, zi v1, zi v2, zi v3, zi v4] [zi r] σ Q := by
  have J85 : (r ≠ (-1)) → zR G MX12_isAsked 85 [zr 98, zi v1, zi v2, zi v3, zi v4] [] σ Q := by
    intro h1
    have s2 : -2147483648 ≤ v3 + 1 ∧ v3 + 1 < (2147483648 : Int) := k2 h1
    refine z_iincN (ls' := [zr 98, zi v1, zi v2, zi (v3 + 1), zi v4]) dX12_isAsked_85 rfl (by decide) s2 rfl ?_
    refine z_goto dX12_isAsked_88 (tgt := 29) (by decide) ?_
    exact zR_fg [false, false, false, false, true] (k3 h1)
  refine z_iconst dX12_isAsked_68 (by unfold zIn; decide) ?_
  refine z_icmp_ne dX12_isAsked_69 (tgt := 85) (by decide) (fun h1 => ?_) (fun h1 => ?_)
  · skip
    exact J85 h1
  · skip
    refine z_aload_n dX12_isAsked_72 rfl rfl ?_
    refine z_iload dX12_isAsked_73 rfl ?_
    refine z_iconst dX12_isAsked_75 (by unfold zIn; decide) ?_
    refine z_callv (as := [zi v4, zi 3]) (st := []) mkX12_mayHold lkRX12_371 rfl rfl rfl (by decide) (Nat.le_of_ble_eq_true rfl) rfl dX12_isAsked_76 (k1 h1)
set_option maxRecDepth 20000 in
set_option maxHeartbeats 1000000 in
theorem TX12_isAsked_79 {G : zG} {σ : zS} {Q : Int → zS → Prop} {v1 v2 v3 v4 r : Int}  (k1 : (r ≠ 0) → Q v4 σ) (k2 : (r = 0) → -2147483648 ≤ v3 + 1 ∧ v3 + 1 < (2147483648 : Int)) (k3 : (r = 0) → zR G MX12_isAsked 29 [zr 98, zi v1, zi v2, zi (v3 + 1), zu] [] σ Q) : zR G MX12_isAsked 79 [zr 98, zi v1, zi v2, zi v3, zi v4] [zi r] σ Q := by
  have J85 : (r = 0) → zR G MX12_isAsked 85 [zr 98, zi v1, zi v2, zi v3, zi v4] [] σ Q := by
    intro h1
    have s2 : -2147483648 ≤ v3 + 1 ∧ v3 + 1 < (2147483648 : Int) := k2 h1
    refine z_iincN (ls' := [zr 98, zi v1, zi v2, zi (v3 + 1), zi v4]) dX12_isAsked_85 rfl (by decide) s2 rfl ?_
    refine z_goto dX12_isAsked_88 (tgt := 29) (by decide) ?_
    exact zR_fg [false, false, false, false, true] (k3 h1)
  refine z_if_eq dX12_isAsked_79 (tgt := 85) (by decide) (fun h1 => ?_) (fun h1 => ?_)
  · skip
    exact J85 h1
  · skip
    refine z_iload dX12_isAsked_82 rfl ?_
    exact z_ireti rfl dX12_isAsked_84 (k1 h1)
set_option maxRecDepth 20000 in
set_option maxHeartbeats 1000000 in
theorem TX12_asked {G : zG} {σ : zS} {Q : Int → zS → Prop} {a1 : Int}  (k1 : (¬ ((0 ≤ a1 ∧ a1 < σ 98 4))) → Q (-1) σ) (k2 : ((0 ≤ a1 ∧ a1 < σ 98 4)) → zO G MX12_isAsked [zr 98, zi a1] σ (fun rr σ' => zR G MX12_asked 13 [zr 98, zi a1] [zi rr] σ' Q)) : zO G MX12_asked [zr 98, zi a1] σ Q := by
  refine zO_of (ls0 := [zr 98, zi a1]) (by decide) (Nat.le_of_ble_eq_true rfl) rfl ?_
  refine z_aload_n dX12_asked_0 rfl rfl ?_
  refine z_iload_n dX12_asked_1 rfl rfl ?_
  refine z_callv (as := [zi a1]) (st := []) mkX12_isPlace lkRX12_368 rfl rfl rfl (by decide) (Nat.le_of_ble_eq_true rfl) rfl dX12_asked_2 ?_
  refine SX12_isPlace ?_
  show zR G MX12_asked 5 [zr 98, zi a1] [zi (if (0 ≤ a1 ∧ a1 < σ 98 4) then (1 : Int) else 0)] σ Q
  refine z_if_eq dX12_asked_5 (tgt := 16) (by decide) (fun z => ?_) (fun z => ?_)
  · have h1 : ¬ ((0 ≤ a1 ∧ a1 < σ 98 4)) := zb0 z
    refine z_iconst dX12_asked_16 (by unfold zIn; decide) ?_
    exact z_ireti rfl dX12_asked_17 (k1 h1)
  · have h1 : (0 ≤ a1 ∧ a1 < σ 98 4) := zb1 z
    refine z_aload_n dX12_asked_8 rfl rfl ?_
    refine z_iload_n dX12_asked_9 rfl rfl ?_
    refine z_callv (as := [zi a1]) (st := []) mkX12_isAsked lkRX12_412 rfl rfl rfl (by decide) (Nat.le_of_ble_eq_true rfl) rfl dX12_asked_10 (k2 h1)
set_option maxRecDepth 20000 in
set_option maxHeartbeats 1000000 in
theorem TX12_asked_13 {G : zG} {σ : zS} {Q : Int → zS → Prop} {v1 r : Int}  (k1 : Q r σ) : zR G MX12_asked 13 [zr 98, zi v1] [zi r] σ Q := by
  refine z_goto dX12_asked_13 (tgt := 17) (by decide) ?_
  exact z_ireti rfl dX12_asked_17 (k1)
set_option maxRecDepth 20000 in
set_option maxHeartbeats 1000000 in
theorem TX12_answer {G : zG} {σ : zS} {Q : Int → zS → Prop} {a1 a2 : Int}  (k1 : ((0 ≤ a1 ∧ a1 < σ 98 4)) → zO G MX12_isAsked [zr 98, zi a1] σ (fun rr σ' => zR G MX12_answer 19 [zr 98, zi a1, zi a2, zu] [zi rr] σ' Q)) (k2 : (¬ ((0 ≤ a1 ∧ a1 < σ 98 4))) → -2147483648 ≤ -(-1) ∧ -(-1) < (2147483648 : Int)) (k3 : (¬ ((0 ≤ a1 ∧ a1 < σ 98 4))) → (0 : Int) ≤ -(-1) ∧ -(-1) < (8 : Int)) (k4 : (¬ ((0 ≤ a1 ∧ a1 < σ 98 4))) → Q (-1) (zup σ 157 (-(-1)) (zW ((σ 157 (-(-1))) + 1)))) : zO G MX12_answer [zr 98, zi a1, zi a2] σ Q := by
  refine zO_of (ls0 := [zr 98, zi a1, zi a2, zu]) (by decide) (Nat.le_of_ble_eq_true rfl) rfl ?_
  refine z_aload_n dX12_answer_0 rfl rfl ?_
  refine z_iload_n dX12_answer_1 rfl rfl ?_
  refine z_callv (as := [zi a1]) (st := []) mkX12_isPlace lkRX12_368 rfl rfl rfl (by decide) (Nat.le_of_ble_eq_true rfl) rfl dX12_answer_2 ?_
  refine SX12_isPlace ?_
  show zR G MX12_answer 5 [zr 98, zi a1, zi a2, zu] [zi (if (0 ≤ a1 ∧ a1 < σ 98 4) then (1 : Int) else 0)] σ Q
  refine z_if_ne dX12_answer_5 (tgt := 14) (by decide) (fun z => ?_) (fun z => ?_)
  · have h1 : (0 ≤ a1 ∧ a1 < σ 98 4) := zb1 z
    refine z_aload_n dX12_answer_14 rfl rfl ?_
    refine z_iload_n dX12_answer_15 rfl rfl ?_
    refine z_callv (as := [zi a1]) (st := []) mkX12_isAsked lkRX12_412 rfl rfl rfl (by decide) (Nat.le_of_ble_eq_true rfl) rfl dX12_answer_16 (k1 h1)
  · have h1 : ¬ ((0 ≤ a1 ∧ a1 < σ 98 4)) := zb0 z
    refine z_aload_n dX12_answer_8 rfl rfl ?_
    refine z_iconst dX12_answer_9 (by unfold zIn; decide) ?_
    have s2 : -2147483648 ≤ -(-1) ∧ -(-1) < (2147483648 : Int) := k2 h1
    have s3 : (0 : Int) ≤ -(-1) ∧ -(-1) < (8 : Int) := k3 h1
    refine z_callv (as := [zi (-1)]) (st := []) mkX12_no lkRX12_267 rfl rfl rfl (by decide) (Nat.le_of_ble_eq_true rfl) rfl dX12_answer_10 ?_
    refine SX12_no s2 s3 ?_
    show zR G MX12_answer 13 [zr 98, zi a1, zi a2, zu] [zi (-1)] (zup σ 157 (-(-1)) (zW ((σ 157 (-(-1))) + 1))) Q
    exact z_ireti rfl dX12_answer_13 (k4 h1)
set_option maxRecDepth 20000 in
set_option maxHeartbeats 1000000 in
theorem TX12_answer_19 {G : zG} {σ : zS} {Q : Int → zS → Prop} {v1 v2 r : Int}  (k1 : (r ≠ (-1)) → (v2 = 0) → (0 : Int) ≤ v1 ∧ v1 < (12 : Int)) (k2 : (r ≠ (-1)) → (v2 ≠ 0) → (0 : Int) ≤ v1 ∧ v1 < (12 : Int)) (k3 : (r = (-1)) → -2147483648 ≤ -(-6) ∧ -(-6) < (2147483648 : Int)) (k4 : (r = (-1)) → (0 : Int) ≤ -(-6) ∧ -(-6) < (8 : Int)) (k5 : (r = (-1)) → Q (-6) (zup σ 157 (-(-6)) (zW ((σ 157 (-(-6))) + 1)))) (k6 : (r ≠ (-1)) → (v2 = 0) → Q r (zup σ 133 v1 (zor (σ 133 v1) (zshl 1 r)))) (k7 : (r ≠ (-1)) → (v2 ≠ 0) → Q r (zup (zup (zup (zup σ 130 v1 r) 131 v1 (σ 98 0)) 132 v1 (-1)) 133 v1 0)) : zR G MX12_answer 19 [zr 98, zi v1, zi v2, zu] [zi r] σ Q := by
  have J57_1 : (r ≠ (-1)) → (v2 ≠ 0) → zR G MX12_answer 57 [zr 98, zi v1, zi v2, zi r] [] (zup (zup (zup (zup σ 130 v1 r) 131 v1 (σ 98 0)) 132 v1 (-1)) 133 v1 0) Q := by
    intro h1 h2
    refine z_iload_n dX12_answer_57 rfl rfl ?_
    exact z_ireti rfl dX12_answer_58 (k7 h1 h2)
  have J57 : (r ≠ (-1)) → (v2 = 0) → zR G MX12_answer 57 [zr 98, zi v1, zi v2, zi r] [] (zup σ 133 v1 (zor (σ 133 v1) (zshl 1 r))) Q := by
    intro h1 h2
    refine z_iload_n dX12_answer_57 rfl rfl ?_
    exact z_ireti rfl dX12_answer_58 (k6 h1 h2)
  refine z_istore_n (ls' := [zr 98, zi v1, zi v2, zi r]) dX12_answer_19 rfl (by decide) rfl ?_
  refine z_iload_n dX12_answer_20 rfl rfl ?_
  refine z_iconst dX12_answer_21 (by unfold zIn; decide) ?_
  refine z_icmp_ne dX12_answer_22 (tgt := 32) (by decide) (fun h1 => ?_) (fun h1 => ?_)
  · skip
    refine z_iload_n dX12_answer_32 rfl rfl ?_
    refine z_if_eq dX12_answer_33 (tgt := 45) (by decide) (fun h2 => ?_) (fun h2 => ?_)
    · skip
      refine z_aload_n dX12_answer_45 rfl rfl ?_
      refine z_getfR (k := 48) flRX12_118 rfl rfl dX12_answer_46 ?_
      refine z_iload_n dX12_answer_49 rfl rfl ?_
      refine z_dup2 dX12_answer_50 rfl rfl ?_
      have s1 : (0 : Int) ≤ v1 ∧ v1 < (12 : Int) := k1 h1 h2
      refine z_iald rfl s1.1 s1.2 dX12_answer_51 ?_
      refine z_iconst dX12_answer_52 (by unfold zIn; decide) ?_
      refine z_iload_n dX12_answer_53 rfl rfl ?_
      refine z_ishl dX12_answer_54 ?_
      refine z_ior dX12_answer_55 ?_
      refine z_iast rfl s1.1 s1.2 dX12_answer_56 ?_
      exact J57 h1 h2
    · skip
      refine z_aload_n dX12_answer_36 rfl rfl ?_
      refine z_iload_n dX12_answer_37 rfl rfl ?_
      refine z_iload_n dX12_answer_38 rfl rfl ?_
      have s2 : (0 : Int) ≤ v1 ∧ v1 < (12 : Int) := k2 h1 h2
      refine z_callv (as := [zi r, zi v1]) (st := []) mkX12_comes lkRX12_378 rfl rfl rfl (by decide) (Nat.le_of_ble_eq_true rfl) rfl dX12_answer_39 ?_
      refine SX12_comes s2 ?_
      show zR G MX12_answer 42 [zr 98, zi v1, zi v2, zi r] [] (zup (zup (zup (zup σ 130 v1 r) 131 v1 (σ 98 0)) 132 v1 (-1)) 133 v1 0) Q
      refine z_goto dX12_answer_42 (tgt := 57) (by decide) ?_
      exact J57_1 h1 h2
  · skip
    refine z_aload_n dX12_answer_25 rfl rfl ?_
    refine z_bipush (x := (-6)) dX12_answer_26 (by decide +kernel) (by unfold zIn; decide) ?_
    have s3 : -2147483648 ≤ -(-6) ∧ -(-6) < (2147483648 : Int) := k3 h1
    have s4 : (0 : Int) ≤ -(-6) ∧ -(-6) < (8 : Int) := k4 h1
    refine z_callv (as := [zi (-6)]) (st := []) mkX12_no lkRX12_267 rfl rfl rfl (by decide) (Nat.le_of_ble_eq_true rfl) rfl dX12_answer_28 ?_
    refine SX12_no s3 s4 ?_
    show zR G MX12_answer 31 [zr 98, zi v1, zi v2, zi r] [zi (-6)] (zup σ 157 (-(-6)) (zW ((σ 157 (-(-6))) + 1))) Q
    exact z_ireti rfl dX12_answer_31 (k5 h1)
set_option maxRecDepth 20000 in
set_option maxHeartbeats 1000000 in
theorem TX12_isLease {G : zG} {σ : zS} {Q : Int → zS → Prop} {a1 a2 a3 a4 : Int}  (k1 : (1 ≤ a1) → (a1 ≤ 9999) → (0 ≤ a2) → (a2 ≤ 999) → (0 ≤ a3) → (a3 ≤ 999) → (0 ≤ a4) → (a4 ≤ 51) → Q 1 σ) (k2 : (a1 < 1 ∨ (1 ≤ a1 ∧ 9999 < a1) ∨ (1 ≤ a1 ∧ a1 ≤ 9999 ∧ a2 < 0) ∨ (1 ≤ a1 ∧ a1 ≤ 9999 ∧ 0 ≤ a2 ∧ 999 < a2) ∨ (1 ≤ a1 ∧ a1 ≤ 9999 ∧ 0 ≤ a2 ∧ a2 ≤ 999 ∧ a3 < 0) ∨ (1 ≤ a1 ∧ a1 ≤ 9999 ∧ 0 ≤ a2 ∧ a2 ≤ 999 ∧ 0 ≤ a3 ∧ 999 < a3) ∨ (1 ≤ a1 ∧ a1 ≤ 9999 ∧ 0 ≤ a2 ∧ a2 ≤ 999 ∧ 0 ≤ a3 ∧ a3 ≤ 999 ∧ a4 < 0) ∨ (1 ≤ a1 ∧ a1 ≤ 9999 ∧ 0 ≤ a2 ∧ a2 ≤ 999 ∧ 0 ≤ a3 ∧ a3 ≤ 999 ∧ 0 ≤ a4 ∧ 51 < a4)) → Q 0 σ) : zO G MX12_isLease [zi a1, zi a2, zi a3, zi a4] σ Q := by
  refine zO_of (ls0 := [zi a1, zi a2, zi a3, zi a4]) (by decide) (Nat.le_of_ble_eq_true rfl) rfl ?_
  have J48 : (a1 < 1 ∨ (1 ≤ a1 ∧ 9999 < a1) ∨ (1 ≤ a1 ∧ a1 ≤ 9999 ∧ a2 < 0) ∨ (1 ≤ a1 ∧ a1 ≤ 9999 ∧ 0 ≤ a2 ∧ 999 < a2) ∨ (1 ≤ a1 ∧ a1 ≤ 9999 ∧ 0 ≤ a2 ∧ a2 ≤ 999 ∧ a3 < 0) ∨ (1 ≤ a1 ∧ a1 ≤ 9999 ∧ 0 ≤ a2 ∧ a2 ≤ 999 ∧ 0 ≤ a3 ∧ 999 < a3) ∨ (1 ≤ a1 ∧ a1 ≤ 9999 ∧ 0 ≤ a2 ∧ a2 ≤ 999 ∧ 0 ≤ a3 ∧ a3 ≤ 999 ∧ a4 < 0) ∨ (1 ≤ a1 ∧ a1 ≤ 9999 ∧ 0 ≤ a2 ∧ a2 ≤ 999 ∧ 0 ≤ a3 ∧ a3 ≤ 999 ∧ 0 ≤ a4 ∧ 51 < a4)) → zR G MX12_isLease 48 [zi a1, zi a2, zi a3, zi a4] [] σ Q := by
    intro h9
    refine z_iconst dX12_isLease_48 (by unfold zIn; decide) ?_
    exact z_iretz rfl (by decide) dX12_isLease_49 (k2 h9)
  refine z_iload_n dX12_isLease_0 rfl rfl ?_
  refine z_iconst dX12_isLease_1 (by unfold zIn; decide) ?_
  refine z_icmp_lt dX12_isLease_2 (tgt := 48) (by decide) (fun h1 => ?_) (fun h1 => ?_)
  · skip
    exact J48 (Or.inl h1)
  · skip
    refine z_iload_n dX12_isLease_5 rfl rfl ?_
    refine z_sipush (x := 9999) dX12_isLease_6 (by decide +kernel) (by unfold zIn; decide) ?_
    refine z_icmp_gt dX12_isLease_9 (tgt := 48) (by decide) (fun h2 => ?_) (fun h2 => ?_)
    · skip
      exact J48 (Or.inr (Or.inl ⟨h1, h2⟩))
    · skip
      refine z_iload_n dX12_isLease_12 rfl rfl ?_
      refine z_if_lt dX12_isLease_13 (tgt := 48) (by decide) (fun h3 => ?_) (fun h3 => ?_)
      · skip
        exact J48 (Or.inr (Or.inr (Or.inl ⟨h1, h2, h3⟩)))
      · skip
        refine z_iload_n dX12_isLease_16 rfl rfl ?_
        refine z_sipush (x := 999) dX12_isLease_17 (by decide +kernel) (by unfold zIn; decide) ?_
        refine z_icmp_gt dX12_isLease_20 (tgt := 48) (by decide) (fun h4 => ?_) (fun h4 => ?_)
        · skip
          exact J48 (Or.inr (Or.inr (Or.inr (Or.inl ⟨h1, h2, h3, h4⟩))))
        · skip
          refine z_iload_n dX12_isLease_23 rfl rfl ?_
          refine z_if_lt dX12_isLease_24 (tgt := 48) (by decide) (fun h5 => ?_) (fun h5 => ?_)
          · skip
            exact J48 (Or.inr (Or.inr (Or.inr (Or.inr (Or.inl ⟨h1, h2, h3, h4, h5⟩)))))
          · skip
            refine z_iload_n dX12_isLease_27 rfl rfl ?_
            refine z_sipush (x := 999) dX12_isLease_28 (by decide +kernel) (by unfold zIn; decide) ?_
            refine z_icmp_gt dX12_isLease_31 (tgt := 48) (by decide) (fun h6 => ?_) (fun h6 => ?_)
            · skip
              exact J48 (Or.inr (Or.inr (Or.inr (Or.inr (Or.inr (Or.inl ⟨h1, h2, h3, h4, h5, h6⟩))))))
            · skip
              refine z_iload_n dX12_isLease_34 rfl rfl ?_
              refine z_if_lt dX12_isLease_35 (tgt := 48) (by decide) (fun h7 => ?_) (fun h7 => ?_)
              · skip
                exact J48 (Or.inr (Or.inr (Or.inr (Or.inr (Or.inr (Or.inr (Or.inl ⟨h1, h2, h3, h4, h5, h6, h7⟩)))))))
              · skip
                refine z_iload_n dX12_isLease_38 rfl rfl ?_
                refine z_bipush (x := 51) dX12_isLease_39 (by decide +kernel) (by unfold zIn; decide) ?_
                refine z_icmp_gt dX12_isLease_41 (tgt := 48) (by decide) (fun h8 => ?_) (fun h8 => ?_)
                · skip
                  exact J48 (Or.inr (Or.inr (Or.inr (Or.inr (Or.inr (Or.inr (Or.inr ⟨h1, h2, h3, h4, h5, h6, h7, h8⟩)))))))
                · skip
                  refine z_iconst dX12_isLease_44 (by unfold zIn; decide) ?_
                  refine z_goto dX12_isLease_45 (tgt := 49) (by decide) ?_
                  exact z_iretz rfl (by decide) dX12_isLease_49 (k1 h1 h2 h3 h4 h5 h6 h7 h8)
set_option maxRecDepth 20000 in
set_option maxHeartbeats 1000000 in
theorem TX12_lease {G : zG} {σ : zS} {Q : Int → zS → Prop} {a1 a2 a3 a4 a5 a6 : Int}  (k1 : zO G MX12_isLease [zi a1, zi a2, zi a3, zi a4] σ (fun rr σ' => zR G MX12_lease 8 [zr 98, zi a1, zi a2, zi a3, zi a4, zi a5, zi a6] [zi rr] σ' Q)) : zO G MX12_lease [zr 98, zi a1, zi a2, zi a3, zi a4, zi a5, zi a6] σ Q := by
  refine zO_of (ls0 := [zr 98, zi a1, zi a2, zi a3, zi a4, zi a5, zi a6]) (by decide) (Nat.le_of_ble_eq_true rfl) rfl ?_
  refine z_iload_n dX12_lease_0 rfl rfl ?_
  refine z_iload_n dX12_lease_1 rfl rfl ?_
  refine z_iload_n dX12_lease_2 rfl rfl ?_
  refine z_iload dX12_lease_3 rfl ?_
  refine z_calls (as := [zi a1, zi a2, zi a3, zi a4]) (st := []) mkX12_isLease lkRX12_418 rfl (by decide) (Nat.le_of_ble_eq_true rfl) rfl dX12_lease_5 (k1)
set_option maxRecDepth 20000 in
set_option maxHeartbeats 1000000 in
theorem TX12_lease_8 {G : zG} {σ : zS} {Q : Int → zS → Prop} {v1 v2 v3 v4 v5 v6 r : Int}  (k1 : (r ≠ 0) → (1 ≤ v5) → (v5 ≤ 40) → (0 ≤ v6) → (v6 ≤ 200) → (σ 98 5 ≠ 8) → (0 : Int) ≤ σ 98 5 ∧ σ 98 5 < (8 : Int)) (k2 : (r ≠ 0) → (1 ≤ v5) → (v5 ≤ 40) → (0 ≤ v6) → (v6 ≤ 200) → (σ 98 5 ≠ 8) → -2147483648 ≤ σ 98 5 + 1 ∧ σ 98 5 + 1 < (2147483648 : Int)) (k3 : (r ≠ 0) → (1 ≤ v5) → (v5 ≤ 40) → (0 ≤ v6) → (v6 ≤ 200) → (σ 98 5 ≠ 8) → Q (σ 98 5) (zup (zup (zup (zup (zup (zup (zup (zup σ 139 (σ 98 5) v1) 140 (σ 98 5) v2) 141 (σ 98 5) v3) 142 (σ 98 5) v4) 143 (σ 98 5) v5) 144 (σ 98 5) v6) 145 (σ 98 5) 0) 98 5 (σ 98 5 + 1))) (k4 : (r ≠ 0) → (1 ≤ v5) → (v5 ≤ 40) → (0 ≤ v6) → (v6 ≤ 200) → (σ 98 5 = 8) → -2147483648 ≤ -(-7) ∧ -(-7) < (2147483648 : Int)) (k5 : (r ≠ 0) → (1 ≤ v5) → (v5 ≤ 40) → (0 ≤ v6) → (v6 ≤ 200) → (σ 98 5 = 8) → (0 : Int) ≤ -(-7) ∧ -(-7) < (8 : Int)) (k6 : (r ≠ 0) → (1 ≤ v5) → (v5 ≤ 40) → (0 ≤ v6) → (v6 ≤ 200) → (σ 98 5 = 8) → Q (-7) (zup σ 157 (-(-7)) (zW ((σ 157 (-(-7))) + 1)))) (k7 : (r = 0 ∨ (r ≠ 0 ∧ v5 < 1) ∨ (r ≠ 0 ∧ 1 ≤ v5 ∧ 40 < v5) ∨ (r ≠ 0 ∧ 1 ≤ v5 ∧ v5 ≤ 40 ∧ v6 < 0) ∨ (r ≠ 0 ∧ 1 ≤ v5 ∧ v5 ≤ 40 ∧ 0 ≤ v6 ∧ 200 < v6)) → -2147483648 ≤ -(-6) ∧ -(-6) < (2147483648 : Int)) (k8 : (r = 0 ∨ (r ≠ 0 ∧ v5 < 1) ∨ (r ≠ 0 ∧ 1 ≤ v5 ∧ 40 < v5) ∨ (r ≠ 0 ∧ 1 ≤ v5 ∧ v5 ≤ 40 ∧ v6 < 0) ∨ (r ≠ 0 ∧ 1 ≤ v5 ∧ v5 ≤ 40 ∧ 0 ≤ v6 ∧ 200 < v6)) → (0 : Int) ≤ -(-6) ∧ -(-6) < (8 : Int)) (k9 : (r = 0 ∨ (r ≠ 0 ∧ v5 < 1) ∨ (r ≠ 0 ∧ 1 ≤ v5 ∧ 40 < v5) ∨ (r ≠ 0 ∧ 1 ≤ v5 ∧ v5 ≤ 40 ∧ v6 < 0) ∨ (r ≠ 0 ∧ 1 ≤ v5 ∧ v5 ≤ 40 ∧ 0 ≤ v6 ∧ 200 < v6)) → Q (-6) (zup σ 157 (-(-6)) (zW ((σ 157 (-(-6))) + 1)))) : zR G MX12_lease 8 [zr 98, zi v1, zi v2, zi v3, zi v4, zi v5, zi v6] [zi r] σ Q := by
  have J37 : (r = 0 ∨ (r ≠ 0 ∧ v5 < 1) ∨ (r ≠ 0 ∧ 1 ≤ v5 ∧ 40 < v5) ∨ (r ≠ 0 ∧ 1 ≤ v5 ∧ v5 ≤ 40 ∧ v6 < 0) ∨ (r ≠ 0 ∧ 1 ≤ v5 ∧ v5 ≤ 40 ∧ 0 ≤ v6 ∧ 200 < v6)) → zR G MX12_lease 37 [zr 98, zi v1, zi v2, zi v3, zi v4, zi v5, zi v6] [] σ Q := by
    intro h7
    refine z_aload_n dX12_lease_37 rfl rfl ?_
    refine z_bipush (x := (-6)) dX12_lease_38 (by decide +kernel) (by unfold zIn; decide) ?_
    have s7 : -2147483648 ≤ -(-6) ∧ -(-6) < (2147483648 : Int) := k7 h7
    have s8 : (0 : Int) ≤ -(-6) ∧ -(-6) < (8 : Int) := k8 h7
    refine z_callv (as := [zi (-6)]) (st := []) mkX12_no lkRX12_267 rfl rfl rfl (by decide) (Nat.le_of_ble_eq_true rfl) rfl dX12_lease_40 ?_
    refine SX12_no s7 s8 ?_
    show zR G MX12_lease 43 [zr 98, zi v1, zi v2, zi v3, zi v4, zi v5, zi v6] [zi (-6)] (zup σ 157 (-(-6)) (zW ((σ 157 (-(-6))) + 1))) Q
    exact z_ireti rfl dX12_lease_43 (k9 h7)
  refine z_if_eq dX12_lease_8 (tgt := 37) (by decide) (fun h1 => ?_) (fun h1 => ?_)
  · skip
    exact J37 (Or.inl h1)
  · skip
    refine z_iload dX12_lease_11 rfl ?_
    refine z_iconst dX12_lease_13 (by unfold zIn; decide) ?_
    refine z_icmp_lt dX12_lease_14 (tgt := 37) (by decide) (fun h2 => ?_) (fun h2 => ?_)
    · skip
      exact J37 (Or.inr (Or.inl ⟨h1, h2⟩))
    · skip
      refine z_iload dX12_lease_17 rfl ?_
      refine z_bipush (x := 40) dX12_lease_19 (by decide +kernel) (by unfold zIn; decide) ?_
      refine z_icmp_gt dX12_lease_21 (tgt := 37) (by decide) (fun h3 => ?_) (fun h3 => ?_)
      · skip
        exact J37 (Or.inr (Or.inr (Or.inl ⟨h1, h2, h3⟩)))
      · skip
        refine z_iload dX12_lease_24 rfl ?_
        refine z_if_lt dX12_lease_26 (tgt := 37) (by decide) (fun h4 => ?_) (fun h4 => ?_)
        · skip
          exact J37 (Or.inr (Or.inr (Or.inr (Or.inl ⟨h1, h2, h3, h4⟩))))
        · skip
          refine z_iload dX12_lease_29 rfl ?_
          refine z_sipush (x := 200) dX12_lease_31 (by decide +kernel) (by unfold zIn; decide) ?_
          refine z_icmp_le dX12_lease_34 (tgt := 44) (by decide) (fun h5 => ?_) (fun h5 => ?_)
          · skip
            refine z_aload_n dX12_lease_44 rfl rfl ?_
            refine z_getfI (k := 5) flRX12_415 rfl rfl dX12_lease_45 ?_
            refine z_bipush (x := 8) dX12_lease_48 (by decide +kernel) (by unfold zIn; decide) ?_
            refine z_icmp_ne dX12_lease_50 (tgt := 60) (by decide) (fun h6 => ?_) (fun h6 => ?_)
            · skip
              refine z_aload_n dX12_lease_60 rfl rfl ?_
              refine z_iload_n dX12_lease_61 rfl rfl ?_
              refine z_iload_n dX12_lease_62 rfl rfl ?_
              refine z_iload_n dX12_lease_63 rfl rfl ?_
              refine z_iload dX12_lease_64 rfl ?_
              refine z_iload dX12_lease_66 rfl ?_
              refine z_iload dX12_lease_68 rfl ?_
              refine z_iconst dX12_lease_70 (by unfold zIn; decide) ?_
              have s1 : (0 : Int) ≤ σ 98 5 ∧ σ 98 5 < (8 : Int) := k1 h1 h2 h3 h4 h5 h6
              have s2 : -2147483648 ≤ σ 98 5 + 1 ∧ σ 98 5 + 1 < (2147483648 : Int) := k2 h1 h2 h3 h4 h5 h6
              refine z_callv (as := [zi v1, zi v2, zi v3, zi v4, zi v5, zi v6, zi 0]) (st := []) mkX12_lets lkRX12_421 rfl rfl rfl (by decide) (Nat.le_of_ble_eq_true rfl) rfl dX12_lease_71 ?_
              refine SX12_lets s1 s2 ?_
              show zR G MX12_lease 74 [zr 98, zi v1, zi v2, zi v3, zi v4, zi v5, zi v6] [zi (σ 98 5)] (zup (zup (zup (zup (zup (zup (zup (zup σ 139 (σ 98 5) v1) 140 (σ 98 5) v2) 141 (σ 98 5) v3) 142 (σ 98 5) v4) 143 (σ 98 5) v5) 144 (σ 98 5) v6) 145 (σ 98 5) 0) 98 5 (σ 98 5 + 1)) Q
              exact z_ireti rfl dX12_lease_74 (k3 h1 h2 h3 h4 h5 h6)
            · skip
              refine z_aload_n dX12_lease_53 rfl rfl ?_
              refine z_bipush (x := (-7)) dX12_lease_54 (by decide +kernel) (by unfold zIn; decide) ?_
              have s4 : -2147483648 ≤ -(-7) ∧ -(-7) < (2147483648 : Int) := k4 h1 h2 h3 h4 h5 h6
              have s5 : (0 : Int) ≤ -(-7) ∧ -(-7) < (8 : Int) := k5 h1 h2 h3 h4 h5 h6
              refine z_callv (as := [zi (-7)]) (st := []) mkX12_no lkRX12_267 rfl rfl rfl (by decide) (Nat.le_of_ble_eq_true rfl) rfl dX12_lease_56 ?_
              refine SX12_no s4 s5 ?_
              show zR G MX12_lease 59 [zr 98, zi v1, zi v2, zi v3, zi v4, zi v5, zi v6] [zi (-7)] (zup σ 157 (-(-7)) (zW ((σ 157 (-(-7))) + 1))) Q
              exact z_ireti rfl dX12_lease_59 (k6 h1 h2 h3 h4 h5 h6)
          · skip
            exact J37 (Or.inr (Or.inr (Or.inr (Or.inr ⟨h1, h2, h3, h4, h5⟩))))
set_option maxRecDepth 20000 in
set_option maxHeartbeats 1000000 in
theorem TX12_bits {G : zG} {σ : zS} {Q : Int → zS → Prop} {a1 : Int}  (k1 : zR G MX12_bits 4 [zi a1, zi 0, zi 0] [] σ Q) : zO G MX12_bits [zi a1] σ Q := by
  refine zO_of (ls0 := [zi a1, zu, zu]) (by decide) (Nat.le_of_ble_eq_true rfl) rfl ?_
  refine z_iconst dX12_bits_0 (by unfold zIn; decide) ?_
  refine z_istore_n (ls' := [zi a1, zi 0, zu]) dX12_bits_1 rfl (by decide) rfl ?_
  refine z_iconst dX12_bits_2 (by unfold zIn; decide) ?_
  refine z_istore_n (ls' := [zi a1, zi 0, zi 0]) dX12_bits_3 rfl (by decide) rfl ?_
  exact k1
set_option maxRecDepth 20000 in
set_option maxHeartbeats 1000000 in
theorem TX12_bits_4 {G : zG} {σ : zS} {Q : Int → zS → Prop} {v0 v1 v2 : Int}  (k1 : (24 ≤ v2) → Q v1 σ) (k2 : (v2 < 24) → -2147483648 ≤ v1 + zand (zshr v0 v2) 1 ∧ v1 + zand (zshr v0 v2) 1 < (2147483648 : Int)) (k3 : (v2 < 24) → -2147483648 ≤ v2 + 1 ∧ v2 + 1 < (2147483648 : Int)) (k4 : (v2 < 24) → zR G MX12_bits 4 [zi v0, zi (v1 + zand (zshr v0 v2) 1), zi (v2 + 1)] [] σ Q) : zR G MX12_bits 4 [zi v0, zi v1, zi v2] [] σ Q := by
  refine z_iload_n dX12_bits_4 rfl rfl ?_
  refine z_bipush (x := 24) dX12_bits_5 (by decide +kernel) (by unfold zIn; decide) ?_
  refine z_icmp_ge dX12_bits_7 (tgt := 24) (by decide) (fun h1 => ?_) (fun h1 => ?_)
  · skip
    refine z_iload_n dX12_bits_24 rfl rfl ?_
    exact z_ireti rfl dX12_bits_25 (k1 h1)
  · skip
    refine z_iload_n dX12_bits_10 rfl rfl ?_
    refine z_iload_n dX12_bits_11 rfl rfl ?_
    refine z_iload_n dX12_bits_12 rfl rfl ?_
    refine z_ishr dX12_bits_13 ?_
    refine z_iconst dX12_bits_14 (by unfold zIn; decide) ?_
    refine z_iand dX12_bits_15 ?_
    have s2 : -2147483648 ≤ v1 + zand (zshr v0 v2) 1 ∧ v1 + zand (zshr v0 v2) 1 < (2147483648 : Int) := k2 h1
    refine z_iaddN dX12_bits_16 s2 ?_
    refine z_istore_n (ls' := [zi v0, zi (v1 + zand (zshr v0 v2) 1), zi v2]) dX12_bits_17 rfl (by decide) rfl ?_
    have s3 : -2147483648 ≤ v2 + 1 ∧ v2 + 1 < (2147483648 : Int) := k3 h1
    refine z_iincN (ls' := [zi v0, zi (v1 + zand (zshr v0 v2) 1), zi (v2 + 1)]) dX12_bits_18 rfl (by decide) s3 rfl ?_
    refine z_goto dX12_bits_21 (tgt := 4) (by decide) ?_
    exact k4 h1
set_option maxRecDepth 20000 in
set_option maxHeartbeats 1000000 in
theorem TX12_lives {G : zG} {σ : zS} {Q : Int → zS → Prop} {a1 a2 a3 a4 a5 : Int}  (k1 : (0 ≤ a5) → (a5 < zshl 1 (σ 98 1)) → zO G MX12_isLease [zi a1, zi a2, zi a3, zi a4] σ (fun rr σ' => zR G MX12_lives 30 [zr 98, zi a1, zi a2, zi a3, zi a4, zi a5] [zi rr] σ' Q)) (k2 : (a5 < 0 ∨ (0 ≤ a5 ∧ zshl 1 (σ 98 1) ≤ a5)) → -2147483648 ≤ -(-1) ∧ -(-1) < (2147483648 : Int)) (k3 : (a5 < 0 ∨ (0 ≤ a5 ∧ zshl 1 (σ 98 1) ≤ a5)) → (0 : Int) ≤ -(-1) ∧ -(-1) < (8 : Int)) (k4 : (a5 < 0 ∨ (0 ≤ a5 ∧ zshl 1 (σ 98 1) ≤ a5)) → Q (-1) (zup σ 157 (-(-1)) (zW ((σ 157 (-(-1))) + 1)))) : zO G MX12_lives [zr 98, zi a1, zi a2, zi a3, zi a4, zi a5] σ Q := by
  refine zO_of (ls0 := [zr 98, zi a1, zi a2, zi a3, zi a4, zi a5]) (by decide) (Nat.le_of_ble_eq_true rfl) rfl ?_
  have J16 : (a5 < 0 ∨ (0 ≤ a5 ∧ zshl 1 (σ 98 1) ≤ a5)) → zR G MX12_lives 16 [zr 98, zi a1, zi a2, zi a3, zi a4, zi a5] [] σ Q := by
    intro h3
    refine z_aload_n dX12_lives_16 rfl rfl ?_
    refine z_iconst dX12_lives_17 (by unfold zIn; decide) ?_
    have s2 : -2147483648 ≤ -(-1) ∧ -(-1) < (2147483648 : Int) := k2 h3
    have s3 : (0 : Int) ≤ -(-1) ∧ -(-1) < (8 : Int) := k3 h3
    refine z_callv (as := [zi (-1)]) (st := []) mkX12_no lkRX12_267 rfl rfl rfl (by decide) (Nat.le_of_ble_eq_true rfl) rfl dX12_lives_18 ?_
    refine SX12_no s2 s3 ?_
    show zR G MX12_lives 21 [zr 98, zi a1, zi a2, zi a3, zi a4, zi a5] [zi (-1)] (zup σ 157 (-(-1)) (zW ((σ 157 (-(-1))) + 1))) Q
    exact z_ireti rfl dX12_lives_21 (k4 h3)
  refine z_iload dX12_lives_0 rfl ?_
  refine z_if_lt dX12_lives_2 (tgt := 16) (by decide) (fun h1 => ?_) (fun h1 => ?_)
  · skip
    exact J16 (Or.inl h1)
  · skip
    refine z_iload dX12_lives_5 rfl ?_
    refine z_iconst dX12_lives_7 (by unfold zIn; decide) ?_
    refine z_aload_n dX12_lives_8 rfl rfl ?_
    refine z_getfI (k := 1) flRX12_256 rfl rfl dX12_lives_9 ?_
    refine z_ishl dX12_lives_12 ?_
    refine z_icmp_lt dX12_lives_13 (tgt := 22) (by decide) (fun h2 => ?_) (fun h2 => ?_)
    · skip
      refine z_iload_n dX12_lives_22 rfl rfl ?_
      refine z_iload_n dX12_lives_23 rfl rfl ?_
      refine z_iload_n dX12_lives_24 rfl rfl ?_
      refine z_iload dX12_lives_25 rfl ?_
      refine z_calls (as := [zi a1, zi a2, zi a3, zi a4]) (st := []) mkX12_isLease lkRX12_418 rfl (by decide) (Nat.le_of_ble_eq_true rfl) rfl dX12_lives_27 (k1 h1 h2)
    · skip
      exact J16 (Or.inr ⟨h1, h2⟩)
set_option maxRecDepth 20000 in
set_option maxHeartbeats 1000000 in
theorem TX12_lives_30 {G : zG} {σ : zS} {Q : Int → zS → Prop} {v1 v2 v3 v4 v5 r : Int}  (k1 : (r ≠ 0) → zO G MX12_bits [zi v5] σ (fun rr σ' => zR G MX12_lives 38 [zr 98, zi v1, zi v2, zi v3, zi v4, zi v5] [zi rr] σ' Q)) (k2 : (r = 0) → -2147483648 ≤ -(-6) ∧ -(-6) < (2147483648 : Int)) (k3 : (r = 0) → (0 : Int) ≤ -(-6) ∧ -(-6) < (8 : Int)) (k4 : (r = 0) → Q (-6) (zup σ 157 (-(-6)) (zW ((σ 157 (-(-6))) + 1)))) : zR G MX12_lives 30 [zr 98, zi v1, zi v2, zi v3, zi v4, zi v5] [zi r] σ Q := by
  have J51 : (r = 0) → zR G MX12_lives 51 [zr 98, zi v1, zi v2, zi v3, zi v4, zi v5] [] σ Q := by
    intro h1
    refine z_aload_n dX12_lives_51 rfl rfl ?_
    refine z_bipush (x := (-6)) dX12_lives_52 (by decide +kernel) (by unfold zIn; decide) ?_
    have s2 : -2147483648 ≤ -(-6) ∧ -(-6) < (2147483648 : Int) := k2 h1
    have s3 : (0 : Int) ≤ -(-6) ∧ -(-6) < (8 : Int) := k3 h1
    refine z_callv (as := [zi (-6)]) (st := []) mkX12_no lkRX12_267 rfl rfl rfl (by decide) (Nat.le_of_ble_eq_true rfl) rfl dX12_lives_54 ?_
    refine SX12_no s2 s3 ?_
    show zR G MX12_lives 57 [zr 98, zi v1, zi v2, zi v3, zi v4, zi v5] [zi (-6)] (zup σ 157 (-(-6)) (zW ((σ 157 (-(-6))) + 1))) Q
    exact z_ireti rfl dX12_lives_57 (k4 h1)
  refine z_if_eq dX12_lives_30 (tgt := 51) (by decide) (fun h1 => ?_) (fun h1 => ?_)
  · skip
    exact J51 h1
  · skip
    refine z_iload dX12_lives_33 rfl ?_
    refine z_calls (as := [zi v5]) (st := []) mkX12_bits lkRX12_425 rfl (by decide) (Nat.le_of_ble_eq_true rfl) rfl dX12_lives_35 (k1 h1)
set_option maxRecDepth 20000 in
set_option maxHeartbeats 1000000 in
theorem TX12_lives_38 {G : zG} {σ : zS} {Q : Int → zS → Prop} {v1 v2 v3 v4 v5 r : Int}  (k1 : (1 ≤ r) → zO G MX12_bits [zi v5] σ (fun rr σ' => zR G MX12_lives 47 [zr 98, zi v1, zi v2, zi v3, zi v4, zi v5] [zi rr] σ' Q)) (k2 : (r < 1) → -2147483648 ≤ -(-6) ∧ -(-6) < (2147483648 : Int)) (k3 : (r < 1) → (0 : Int) ≤ -(-6) ∧ -(-6) < (8 : Int)) (k4 : (r < 1) → Q (-6) (zup σ 157 (-(-6)) (zW ((σ 157 (-(-6))) + 1)))) : zR G MX12_lives 38 [zr 98, zi v1, zi v2, zi v3, zi v4, zi v5] [zi r] σ Q := by
  have J51 : (r < 1) → zR G MX12_lives 51 [zr 98, zi v1, zi v2, zi v3, zi v4, zi v5] [] σ Q := by
    intro h1
    refine z_aload_n dX12_lives_51 rfl rfl ?_
    refine z_bipush (x := (-6)) dX12_lives_52 (by decide +kernel) (by unfold zIn; decide) ?_
    have s2 : -2147483648 ≤ -(-6) ∧ -(-6) < (2147483648 : Int) := k2 h1
    have s3 : (0 : Int) ≤ -(-6) ∧ -(-6) < (8 : Int) := k3 h1
    refine z_callv (as := [zi (-6)]) (st := []) mkX12_no lkRX12_267 rfl rfl rfl (by decide) (Nat.le_of_ble_eq_true rfl) rfl dX12_lives_54 ?_
    refine SX12_no s2 s3 ?_
    show zR G MX12_lives 57 [zr 98, zi v1, zi v2, zi v3, zi v4, zi v5] [zi (-6)] (zup σ 157 (-(-6)) (zW ((σ 157 (-(-6))) + 1))) Q
    exact z_ireti rfl dX12_lives_57 (k4 h1)
  refine z_iconst dX12_lives_38 (by unfold zIn; decide) ?_
  refine z_icmp_lt dX12_lives_39 (tgt := 51) (by decide) (fun h1 => ?_) (fun h1 => ?_)
  · skip
    exact J51 h1
  · skip
    refine z_iload dX12_lives_42 rfl ?_
    refine z_calls (as := [zi v5]) (st := []) mkX12_bits lkRX12_425 rfl (by decide) (Nat.le_of_ble_eq_true rfl) rfl dX12_lives_44 (k1 h1)
set_option maxRecDepth 20000 in
set_option maxHeartbeats 1000000 in
theorem TX12_lives_47 {G : zG} {σ : zS} {Q : Int → zS → Prop} {v1 v2 v3 v4 v5 r : Int}  (k1 : (r ≤ 3) → (σ 98 5 ≠ 8) → (0 : Int) ≤ σ 98 5 ∧ σ 98 5 < (8 : Int)) (k2 : (r ≤ 3) → (σ 98 5 ≠ 8) → -2147483648 ≤ σ 98 5 + 1 ∧ σ 98 5 + 1 < (2147483648 : Int)) (k3 : (r ≤ 3) → (σ 98 5 ≠ 8) → Q (σ 98 5) (zup (zup (zup (zup (zup (zup (zup (zup σ 139 (σ 98 5) v1) 140 (σ 98 5) v2) 141 (σ 98 5) v3) 142 (σ 98 5) v4) 143 (σ 98 5) 0) 144 (σ 98 5) 0) 145 (σ 98 5) v5) 98 5 (σ 98 5 + 1))) (k4 : (r ≤ 3) → (σ 98 5 = 8) → -2147483648 ≤ -(-7) ∧ -(-7) < (2147483648 : Int)) (k5 : (r ≤ 3) → (σ 98 5 = 8) → (0 : Int) ≤ -(-7) ∧ -(-7) < (8 : Int)) (k6 : (r ≤ 3) → (σ 98 5 = 8) → Q (-7) (zup σ 157 (-(-7)) (zW ((σ 157 (-(-7))) + 1)))) (k7 : (3 < r) → -2147483648 ≤ -(-6) ∧ -(-6) < (2147483648 : Int)) (k8 : (3 < r) → (0 : Int) ≤ -(-6) ∧ -(-6) < (8 : Int)) (k9 : (3 < r) → Q (-6) (zup σ 157 (-(-6)) (zW ((σ 157 (-(-6))) + 1)))) : zR G MX12_lives 47 [zr 98, zi v1, zi v2, zi v3, zi v4, zi v5] [zi r] σ Q := by
  have J51 : (3 < r) → zR G MX12_lives 51 [zr 98, zi v1, zi v2, zi v3, zi v4, zi v5] [] σ Q := by
    intro h1
    refine z_aload_n dX12_lives_51 rfl rfl ?_
    refine z_bipush (x := (-6)) dX12_lives_52 (by decide +kernel) (by unfold zIn; decide) ?_
    have s7 : -2147483648 ≤ -(-6) ∧ -(-6) < (2147483648 : Int) := k7 h1
    have s8 : (0 : Int) ≤ -(-6) ∧ -(-6) < (8 : Int) := k8 h1
    refine z_callv (as := [zi (-6)]) (st := []) mkX12_no lkRX12_267 rfl rfl rfl (by decide) (Nat.le_of_ble_eq_true rfl) rfl dX12_lives_54 ?_
    refine SX12_no s7 s8 ?_
    show zR G MX12_lives 57 [zr 98, zi v1, zi v2, zi v3, zi v4, zi v5] [zi (-6)] (zup σ 157 (-(-6)) (zW ((σ 157 (-(-6))) + 1))) Q
    exact z_ireti rfl dX12_lives_57 (k9 h1)
  refine z_iconst dX12_lives_47 (by unfold zIn; decide) ?_
  refine z_icmp_le dX12_lives_48 (tgt := 58) (by decide) (fun h1 => ?_) (fun h1 => ?_)
  · skip
    refine z_aload_n dX12_lives_58 rfl rfl ?_
    refine z_getfI (k := 5) flRX12_415 rfl rfl dX12_lives_59 ?_
    refine z_bipush (x := 8) dX12_lives_62 (by decide +kernel) (by unfold zIn; decide) ?_
    refine z_icmp_ne dX12_lives_64 (tgt := 74) (by decide) (fun h2 => ?_) (fun h2 => ?_)
    · skip
      refine z_aload_n dX12_lives_74 rfl rfl ?_
      refine z_iload_n dX12_lives_75 rfl rfl ?_
      refine z_iload_n dX12_lives_76 rfl rfl ?_
      refine z_iload_n dX12_lives_77 rfl rfl ?_
      refine z_iload dX12_lives_78 rfl ?_
      refine z_iconst dX12_lives_80 (by unfold zIn; decide) ?_
      refine z_iconst dX12_lives_81 (by unfold zIn; decide) ?_
      refine z_iload dX12_lives_82 rfl ?_
      have s1 : (0 : Int) ≤ σ 98 5 ∧ σ 98 5 < (8 : Int) := k1 h1 h2
      have s2 : -2147483648 ≤ σ 98 5 + 1 ∧ σ 98 5 + 1 < (2147483648 : Int) := k2 h1 h2
      refine z_callv (as := [zi v1, zi v2, zi v3, zi v4, zi 0, zi 0, zi v5]) (st := []) mkX12_lets lkRX12_421 rfl rfl rfl (by decide) (Nat.le_of_ble_eq_true rfl) rfl dX12_lives_84 ?_
      refine SX12_lets s1 s2 ?_
      show zR G MX12_lives 87 [zr 98, zi v1, zi v2, zi v3, zi v4, zi v5] [zi (σ 98 5)] (zup (zup (zup (zup (zup (zup (zup (zup σ 139 (σ 98 5) v1) 140 (σ 98 5) v2) 141 (σ 98 5) v3) 142 (σ 98 5) v4) 143 (σ 98 5) 0) 144 (σ 98 5) 0) 145 (σ 98 5) v5) 98 5 (σ 98 5 + 1)) Q
      exact z_ireti rfl dX12_lives_87 (k3 h1 h2)
    · skip
      refine z_aload_n dX12_lives_67 rfl rfl ?_
      refine z_bipush (x := (-7)) dX12_lives_68 (by decide +kernel) (by unfold zIn; decide) ?_
      have s4 : -2147483648 ≤ -(-7) ∧ -(-7) < (2147483648 : Int) := k4 h1 h2
      have s5 : (0 : Int) ≤ -(-7) ∧ -(-7) < (8 : Int) := k5 h1 h2
      refine z_callv (as := [zi (-7)]) (st := []) mkX12_no lkRX12_267 rfl rfl rfl (by decide) (Nat.le_of_ble_eq_true rfl) rfl dX12_lives_70 ?_
      refine SX12_no s4 s5 ?_
      show zR G MX12_lives 73 [zr 98, zi v1, zi v2, zi v3, zi v4, zi v5] [zi (-7)] (zup σ 157 (-(-7)) (zW ((σ 157 (-(-7))) + 1))) Q
      exact z_ireti rfl dX12_lives_73 (k6 h1 h2)
  · skip
    exact J51 h1
