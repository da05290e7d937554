set_option maxRecDepth 20000 in
set_option maxHeartbeats 1000000 in
theorem TX12_planned {G : zG} {σ : zS} {Q : Int → zS → Prop} {a1 : Int}  (k1 : (σ 98 99 ≠ 0) → (0 ≤ a1) → (a1 ≤ σ 98 101) → (a1 ≠ 0) → -2147483648 ≤ a1 - 1 ∧ a1 - 1 < (2147483648 : Int)) (k2 : (σ 98 99 ≠ 0) → (0 ≤ a1) → (a1 ≤ σ 98 101) → (a1 ≠ 0) → (0 : Int) ≤ a1 - 1 ∧ a1 - 1 < (2 : Int)) (k3 : (σ 98 99 ≠ 0) → (0 ≤ a1) → (a1 ≤ σ 98 101) → (a1 ≠ 0) → Q (σ 174 (a1 - 1)) σ) (k4 : (σ 98 99 ≠ 0) → (0 ≤ a1) → (a1 ≤ σ 98 101) → (a1 = 0) → Q (σ 98 100) σ) (k5 : (σ 98 99 = 0 ∨ (σ 98 99 ≠ 0 ∧ a1 < 0) ∨ (σ 98 99 ≠ 0 ∧ 0 ≤ a1 ∧ σ 98 101 < a1)) → Q (-1) σ) : zO G MX12_planned [zr 98, zi a1] σ Q := by
  refine zO_of (ls0 := [zr 98, zi a1]) (by decide) (Nat.le_of_ble_eq_true rfl) rfl ?_
  have J19 : (σ 98 99 = 0 ∨ (σ 98 99 ≠ 0 ∧ a1 < 0) ∨ (σ 98 99 ≠ 0 ∧ 0 ≤ a1 ∧ σ 98 101 < a1)) → zR G MX12_planned 19 [zr 98, zi a1] [] σ Q := by
    intro h5
    refine z_iconst dX12_planned_19 (by unfold zIn; decide) ?_
    exact z_ireti rfl dX12_planned_20 (k5 h5)
  refine z_aload_n dX12_planned_0 rfl rfl ?_
  refine z_getfI (k := 99) flRX12_490 rfl rfl dX12_planned_1 ?_
  refine z_if_eq dX12_planned_4 (tgt := 19) (by decide) (fun h1 => ?_) (fun h1 => ?_)
  · skip
    exact J19 (Or.inl h1)
  · skip
    refine z_iload_n dX12_planned_7 rfl rfl ?_
    refine z_if_lt dX12_planned_8 (tgt := 19) (by decide) (fun h2 => ?_) (fun h2 => ?_)
    · skip
      exact J19 (Or.inr (Or.inl ⟨h1, h2⟩))
    · skip
      refine z_iload_n dX12_planned_11 rfl rfl ?_
      refine z_aload_n dX12_planned_12 rfl rfl ?_
      refine z_getfI (k := 101) flRX12_496 rfl rfl dX12_planned_13 ?_
      refine z_icmp_le dX12_planned_16 (tgt := 21) (by decide) (fun h3 => ?_) (fun h3 => ?_)
      · skip
        refine z_iload_n dX12_planned_21 rfl rfl ?_
        refine z_if_ne dX12_planned_22 (tgt := 32) (by decide) (fun h4 => ?_) (fun h4 => ?_)
        · skip
          refine z_aload_n dX12_planned_32 rfl rfl ?_
          refine z_getfR (k := 102) flRX12_241 rfl rfl dX12_planned_33 ?_
          refine z_iload_n dX12_planned_36 rfl rfl ?_
          refine z_iconst dX12_planned_37 (by unfold zIn; decide) ?_
          have s1 : -2147483648 ≤ a1 - 1 ∧ a1 - 1 < (2147483648 : Int) := k1 h1 h2 h3 h4
          refine z_isubN dX12_planned_38 s1 ?_
          have s2 : (0 : Int) ≤ a1 - 1 ∧ a1 - 1 < (2 : Int) := k2 h1 h2 h3 h4
          refine z_iald rfl s2.1 s2.2 dX12_planned_39 ?_
          exact z_ireti rfl dX12_planned_40 (k3 h1 h2 h3 h4)
        · skip
          refine z_aload_n dX12_planned_25 rfl rfl ?_
          refine z_getfI (k := 100) flRX12_493 rfl rfl dX12_planned_26 ?_
          refine z_goto dX12_planned_29 (tgt := 40) (by decide) ?_
          exact z_ireti rfl dX12_planned_40 (k4 h1 h2 h3 h4)
      · skip
        exact J19 (Or.inr (Or.inr ⟨h1, h2, h3⟩))
set_option maxRecDepth 20000 in
set_option maxHeartbeats 1000000 in
theorem TX12_judge {G : zG} {σ : zS} {Q : Int → zS → Prop} {a1 a2 a3 a4 : Int}  (k1 : zO G MX12_wants [zr 98, zi a1] σ (fun rr σ' => zR G MX12_judge 5 [zr 98, zi a1, zi a2, zi a3, zi a4, zu, zu, zu] [zi rr] σ' Q)) : zO G MX12_judge [zr 98, zi a1, zi a2, zi a3, zi a4] σ Q := by
  refine zO_of (ls0 := [zr 98, zi a1, zi a2, zi a3, zi a4, zu, zu, zu]) (by decide) (Nat.le_of_ble_eq_true rfl) rfl ?_
  refine z_aload_n dX12_judge_0 rfl rfl ?_
  refine z_iload_n dX12_judge_1 rfl rfl ?_
  refine z_callv (as := [zi a1]) (st := []) mkX12_wants lkRX12_300 rfl rfl rfl (by decide) (Nat.le_of_ble_eq_true rfl) rfl dX12_judge_2 (k1)
set_option maxRecDepth 20000 in
set_option maxHeartbeats 1000000 in
theorem TX12_judge_5 {G : zG} {σ : zS} {Q : Int → zS → Prop} {v1 v2 v3 v4 r : Int}  (k1 : (r = 0) → (0 : Int) ≤ v1 ∧ v1 < (10 : Int)) (k2 : (r = 0) → -2147483648 ≤ 1 + σ 98 10 ∧ 1 + σ 98 10 < (2147483648 : Int)) (k3 : (r = 0) → (1 + σ 98 10 ≤ σ 113 v1) → zO G MX12_isPlan [zi v2, zi v3, zi v4] σ (fun rr σ' => zR G MX12_judge 48 [zr 98, zi v1, zi v2, zi v3, zi v4, zi r, zu, zu] [zi rr] σ' Q)) (k4 : (r = 0) → (σ 113 v1 < 1 + σ 98 10) → -2147483648 ≤ -(-5) ∧ -(-5) < (2147483648 : Int)) (k5 : (r = 0) → (σ 113 v1 < 1 + σ 98 10) → (0 : Int) ≤ -(-5) ∧ -(-5) < (8 : Int)) (k6 : (r = 0) → (σ 113 v1 < 1 + σ 98 10) → Q (-5) (zup σ 157 (-(-5)) (zW ((σ 157 (-(-5))) + 1)))) (k7 : (r ≠ 0) → -2147483648 ≤ -r ∧ -r < (2147483648 : Int)) (k8 : (r ≠ 0) → (0 : Int) ≤ -r ∧ -r < (8 : Int)) (k9 : (r ≠ 0) → Q r (zup σ 157 (-r) (zW ((σ 157 (-r)) + 1)))) : zR G MX12_judge 5 [zr 98, zi v1, zi v2, zi v3, zi v4, zu, zu, zu] [zi r] σ Q := by
  refine z_istore (ls' := [zr 98, zi v1, zi v2, zi v3, zi v4, zi r, zu, zu]) dX12_judge_5 (by decide) rfl ?_
  refine z_iload dX12_judge_7 rfl ?_
  refine z_if_eq dX12_judge_9 (tgt := 19) (by decide) (fun h1 => ?_) (fun h1 => ?_)
  · skip
    refine z_aload_n dX12_judge_19 rfl rfl ?_
    refine z_getfR (k := 27) flRX12_57 rfl rfl dX12_judge_20 ?_
    refine z_iload_n dX12_judge_23 rfl rfl ?_
    have s1 : (0 : Int) ≤ v1 ∧ v1 < (10 : Int) := k1 h1
    refine z_iald rfl s1.1 s1.2 dX12_judge_24 ?_
    refine z_iconst dX12_judge_25 (by unfold zIn; decide) ?_
    refine z_aload_n dX12_judge_26 rfl rfl ?_
    refine z_getfI (k := 10) flRX12_471 rfl rfl dX12_judge_27 ?_
    have s2 : -2147483648 ≤ 1 + σ 98 10 ∧ 1 + σ 98 10 < (2147483648 : Int) := k2 h1
    refine z_iaddN dX12_judge_30 s2 ?_
    refine z_icmp_ge dX12_judge_31 (tgt := 41) (by decide) (fun h2 => ?_) (fun h2 => ?_)
    · skip
      refine z_iload_n dX12_judge_41 rfl rfl ?_
      refine z_iload_n dX12_judge_42 rfl rfl ?_
      refine z_iload dX12_judge_43 rfl ?_
      refine z_calls (as := [zi v2, zi v3, zi v4]) (st := []) mkX12_isPlan lkRX12_480 rfl (by decide) (Nat.le_of_ble_eq_true rfl) rfl dX12_judge_45 (k3 h1 h2)
    · skip
      refine z_aload_n dX12_judge_34 rfl rfl ?_
      refine z_bipush (x := (-5)) dX12_judge_35 (by decide +kernel) (by unfold zIn; decide) ?_
      have s4 : -2147483648 ≤ -(-5) ∧ -(-5) < (2147483648 : Int) := k4 h1 h2
      have s5 : (0 : Int) ≤ -(-5) ∧ -(-5) < (8 : Int) := k5 h1 h2
      refine z_callv (as := [zi (-5)]) (st := []) mkX12_no lkRX12_267 rfl rfl rfl (by decide) (Nat.le_of_ble_eq_true rfl) rfl dX12_judge_37 ?_
      refine SX12_no s4 s5 ?_
      show zR G MX12_judge 40 [zr 98, zi v1, zi v2, zi v3, zi v4, zi r, zu, zu] [zi (-5)] (zup σ 157 (-(-5)) (zW ((σ 157 (-(-5))) + 1))) Q
      exact z_ireti rfl dX12_judge_40 (k6 h1 h2)
  · skip
    refine z_aload_n dX12_judge_12 rfl rfl ?_
    refine z_iload dX12_judge_13 rfl ?_
    have s7 : -2147483648 ≤ -r ∧ -r < (2147483648 : Int) := k7 h1
    have s8 : (0 : Int) ≤ -r ∧ -r < (8 : Int) := k8 h1
    refine z_callv (as := [zi r]) (st := []) mkX12_no lkRX12_267 rfl rfl rfl (by decide) (Nat.le_of_ble_eq_true rfl) rfl dX12_judge_15 ?_
    refine SX12_no s7 s8 ?_
    show zR G MX12_judge 18 [zr 98, zi v1, zi v2, zi v3, zi v4, zi r, zu, zu] [zi r] (zup σ 157 (-r) (zW ((σ 157 (-r)) + 1))) Q
    exact z_ireti rfl dX12_judge_18 (k9 h1)
set_option maxRecDepth 20000 in
set_option maxHeartbeats 1000000 in
theorem TX12_judge_48 {G : zG} {σ : zS} {Q : Int → zS → Prop} {v1 v2 v3 v4 v5 r : Int}  (k1 : (r ≠ 0) → -2147483648 ≤ 80 * v1 ∧ 80 * v1 < (2147483648 : Int)) (k2 : (r ≠ 0) → (0 : Int) ≤ 80 * v1 ∧ 80 * v1 < (800 : Int)) (k3 : (r ≠ 0) → (0 ≤ zW (σ 115 (80 * v1))) → (zW (σ 115 (80 * v1)) < zshl 1 (σ 98 5)) → zR G MX12_judge 96 [zr 98, zi v1, zi v2, zi v3, zi v4, zi v5, zi (zW (σ 115 (80 * v1))), zi 0] [] σ Q) (k4 : (r = 0) → -2147483648 ≤ -(-6) ∧ -(-6) < (2147483648 : Int)) (k5 : (r = 0) → (0 : Int) ≤ -(-6) ∧ -(-6) < (8 : Int)) (k6 : (r = 0) → Q (-6) (zup σ 157 (-(-6)) (zW ((σ 157 (-(-6))) + 1)))) (k7 : (r ≠ 0) → (zW (σ 115 (80 * v1)) < 0 ∨ (0 ≤ zW (σ 115 (80 * v1)) ∧ zshl 1 (σ 98 5) ≤ zW (σ 115 (80 * v1)))) → -2147483648 ≤ -(-6) ∧ -(-6) < (2147483648 : Int)) (k8 : (r ≠ 0) → (zW (σ 115 (80 * v1)) < 0 ∨ (0 ≤ zW (σ 115 (80 * v1)) ∧ zshl 1 (σ 98 5) ≤ zW (σ 115 (80 * v1)))) → (0 : Int) ≤ -(-6) ∧ -(-6) < (8 : Int)) (k9 : (r ≠ 0) → (zW (σ 115 (80 * v1)) < 0 ∨ (0 ≤ zW (σ 115 (80 * v1)) ∧ zshl 1 (σ 98 5) ≤ zW (σ 115 (80 * v1)))) → Q (-6) (zup σ 157 (-(-6)) (zW ((σ 157 (-(-6))) + 1)))) : zR G MX12_judge 48 [zr 98, zi v1, zi v2, zi v3, zi v4, zi v5, zu, zu] [zi r] σ Q := by
  have J86 : (r ≠ 0) → (zW (σ 115 (80 * v1)) < 0 ∨ (0 ≤ zW (σ 115 (80 * v1)) ∧ zshl 1 (σ 98 5) ≤ zW (σ 115 (80 * v1)))) → zR G MX12_judge 86 [zr 98, zi v1, zi v2, zi v3, zi v4, zi v5, zi (zW (σ 115 (80 * v1))), zu] [] σ Q := by
    intro h1 h4
    refine z_aload_n dX12_judge_86 rfl rfl ?_
    refine z_bipush (x := (-6)) dX12_judge_87 (by decide +kernel) (by unfold zIn; decide) ?_
    have s7 : -2147483648 ≤ -(-6) ∧ -(-6) < (2147483648 : Int) := k7 h1 h4
    have s8 : (0 : Int) ≤ -(-6) ∧ -(-6) < (8 : Int) := k8 h1 h4
    refine z_callv (as := [zi (-6)]) (st := []) mkX12_no lkRX12_267 rfl rfl rfl (by decide) (Nat.le_of_ble_eq_true rfl) rfl dX12_judge_89 ?_
    refine SX12_no s7 s8 ?_
    show zR G MX12_judge 92 [zr 98, zi v1, zi v2, zi v3, zi v4, zi v5, zi (zW (σ 115 (80 * v1))), zu] [zi (-6)] (zup σ 157 (-(-6)) (zW ((σ 157 (-(-6))) + 1))) Q
    exact z_ireti rfl dX12_judge_92 (k9 h1 h4)
  refine z_if_ne dX12_judge_48 (tgt := 58) (by decide) (fun h1 => ?_) (fun h1 => ?_)
  · skip
    refine z_aload_n dX12_judge_58 rfl rfl ?_
    refine z_getfR (k := 29) flRX12_63 rfl rfl dX12_judge_59 ?_
    refine z_bipush (x := 80) dX12_judge_62 (by decide +kernel) (by unfold zIn; decide) ?_
    refine z_iload_n dX12_judge_64 rfl rfl ?_
    have s1 : -2147483648 ≤ 80 * v1 ∧ 80 * v1 < (2147483648 : Int) := k1 h1
    refine z_imulN dX12_judge_65 s1 ?_
    have s2 : (0 : Int) ≤ 80 * v1 ∧ 80 * v1 < (800 : Int) := k2 h1
    refine z_lald rfl s2.1 s2.2 dX12_judge_66 ?_
    refine z_l2i dX12_judge_67 ?_
    refine z_istore (ls' := [zr 98, zi v1, zi v2, zi v3, zi v4, zi v5, zi (zW (σ 115 (80 * v1))), zu]) dX12_judge_68 (by decide) rfl ?_
    refine z_iload dX12_judge_70 rfl ?_
    refine z_if_lt dX12_judge_72 (tgt := 86) (by decide) (fun h2 => ?_) (fun h2 => ?_)
    · skip
      exact J86 h1 (Or.inl h2)
    · skip
      refine z_iload dX12_judge_75 rfl ?_
      refine z_iconst dX12_judge_77 (by unfold zIn; decide) ?_
      refine z_aload_n dX12_judge_78 rfl rfl ?_
      refine z_getfI (k := 5) flRX12_415 rfl rfl dX12_judge_79 ?_
      refine z_ishl dX12_judge_82 ?_
      refine z_icmp_lt dX12_judge_83 (tgt := 93) (by decide) (fun h3 => ?_) (fun h3 => ?_)
      · skip
        refine z_iconst dX12_judge_93 (by unfold zIn; decide) ?_
        refine z_istore (ls' := [zr 98, zi v1, zi v2, zi v3, zi v4, zi v5, zi (zW (σ 115 (80 * v1))), zi 0]) dX12_judge_94 (by decide) rfl ?_
        exact k3 h1 h2 h3
      · skip
        exact J86 h1 (Or.inr ⟨h2, h3⟩)
  · skip
    refine z_aload_n dX12_judge_51 rfl rfl ?_
    refine z_bipush (x := (-6)) dX12_judge_52 (by decide +kernel) (by unfold zIn; decide) ?_
    have s4 : -2147483648 ≤ -(-6) ∧ -(-6) < (2147483648 : Int) := k4 h1
    have s5 : (0 : Int) ≤ -(-6) ∧ -(-6) < (8 : Int) := k5 h1
    refine z_callv (as := [zi (-6)]) (st := []) mkX12_no lkRX12_267 rfl rfl rfl (by decide) (Nat.le_of_ble_eq_true rfl) rfl dX12_judge_54 ?_
    refine SX12_no s4 s5 ?_
    show zR G MX12_judge 57 [zr 98, zi v1, zi v2, zi v3, zi v4, zi v5, zu, zu] [zi (-6)] (zup σ 157 (-(-6)) (zW ((σ 157 (-(-6))) + 1))) Q
    exact z_ireti rfl dX12_judge_57 (k6 h1)
set_option maxRecDepth 20000 in
set_option maxHeartbeats 1000000 in
theorem TX12_judge_96 {G : zG} {σ : zS} {Q : Int → zS → Prop} {v1 v2 v3 v4 v5 v6 v7 : Int}  (k1 : (σ 98 5 ≤ v7) → zR G MX12_judge 142 [zr 98, zi v1, zi v2, zi v3, zi v4, zi v5, zi v6, zi 0] [] σ Q) (k2 : (v7 < σ 98 5) → (zand (zshr v6 v7) 1 = 1) → zO G MX12_endsIn [zr 98, zi v7, zi v2] σ (fun rr σ' => zR G MX12_judge 123 [zr 98, zi v1, zi v2, zi v3, zi v4, zi v5, zi v6, zi v7] [zi rr] σ' Q)) (k3 : (v7 < σ 98 5) → (zand (zshr v6 v7) 1 ≠ 1) → -2147483648 ≤ v7 + 1 ∧ v7 + 1 < (2147483648 : Int)) (k4 : (v7 < σ 98 5) → (zand (zshr v6 v7) 1 ≠ 1) → zR G MX12_judge 96 [zr 98, zi v1, zi v2, zi v3, zi v4, zi v5, zi v6, zi (v7 + 1)] [] σ Q) : zR G MX12_judge 96 [zr 98, zi v1, zi v2, zi v3, zi v4, zi v5, zi v6, zi v7] [] σ Q := by
  have J133 : (v7 < σ 98 5) → (zand (zshr v6 v7) 1 ≠ 1) → zR G MX12_judge 133 [zr 98, zi v1, zi v2, zi v3, zi v4, zi v5, zi v6, zi v7] [] σ Q := by
    intro h1 h2
    have s3 : -2147483648 ≤ v7 + 1 ∧ v7 + 1 < (2147483648 : Int) := k3 h1 h2
    refine z_iincN (ls' := [zr 98, zi v1, zi v2, zi v3, zi v4, zi v5, zi v6, zi (v7 + 1)]) dX12_judge_133 rfl (by decide) s3 rfl ?_
    refine z_goto dX12_judge_136 (tgt := 96) (by decide) ?_
    exact k4 h1 h2
  refine z_iload dX12_judge_96 rfl ?_
  refine z_aload_n dX12_judge_98 rfl rfl ?_
  refine z_getfI (k := 5) flRX12_415 rfl rfl dX12_judge_99 ?_
  refine z_icmp_ge dX12_judge_102 (tgt := 139) (by decide) (fun h1 => ?_) (fun h1 => ?_)
  · skip
    refine z_iconst dX12_judge_139 (by unfold zIn; decide) ?_
    refine z_istore (ls' := [zr 98, zi v1, zi v2, zi v3, zi v4, zi v5, zi v6, zi 0]) dX12_judge_140 (by decide) rfl ?_
    exact k1 h1
  · skip
    refine z_iload dX12_judge_105 rfl ?_
    refine z_iload dX12_judge_107 rfl ?_
    refine z_ishr dX12_judge_109 ?_
    refine z_iconst dX12_judge_110 (by unfold zIn; decide) ?_
    refine z_iand dX12_judge_111 ?_
    refine z_iconst dX12_judge_112 (by unfold zIn; decide) ?_
    refine z_icmp_ne dX12_judge_113 (tgt := 133) (by decide) (fun h2 => ?_) (fun h2 => ?_)
    · skip
      exact J133 h1 h2
    · skip
      refine z_aload_n dX12_judge_116 rfl rfl ?_
      refine z_iload dX12_judge_117 rfl ?_
      refine z_iload_n dX12_judge_119 rfl rfl ?_
      refine z_callv (as := [zi v7, zi v2]) (st := []) mkX12_endsIn lkRX12_484 rfl rfl rfl (by decide) (Nat.le_of_ble_eq_true rfl) rfl dX12_judge_120 (k2 h1 h2)
set_option maxRecDepth 20000 in
set_option maxHeartbeats 1000000 in
theorem TX12_judge_123 {G : zG} {σ : zS} {Q : Int → zS → Prop} {v1 v2 v3 v4 v5 v6 v7 r : Int}  (k1 : (r = 0) → -2147483648 ≤ -(-6) ∧ -(-6) < (2147483648 : Int)) (k2 : (r = 0) → (0 : Int) ≤ -(-6) ∧ -(-6) < (8 : Int)) (k3 : (r = 0) → Q (-6) (zup σ 157 (-(-6)) (zW ((σ 157 (-(-6))) + 1)))) (k4 : (r ≠ 0) → -2147483648 ≤ v7 + 1 ∧ v7 + 1 < (2147483648 : Int)) (k5 : (r ≠ 0) → zR G MX12_judge 96 [zr 98, zi v1, zi v2, zi v3, zi v4, zi v5, zi v6, zi (v7 + 1)] [] σ Q) : zR G MX12_judge 123 [zr 98, zi v1, zi v2, zi v3, zi v4, zi v5, zi v6, zi v7] [zi r] σ Q := by
  have J133 : (r ≠ 0) → zR G MX12_judge 133 [zr 98, zi v1, zi v2, zi v3, zi v4, zi v5, zi v6, zi v7] [] σ Q := by
    intro h1
    have s4 : -2147483648 ≤ v7 + 1 ∧ v7 + 1 < (2147483648 : Int) := k4 h1
    refine z_iincN (ls' := [zr 98, zi v1, zi v2, zi v3, zi v4, zi v5, zi v6, zi (v7 + 1)]) dX12_judge_133 rfl (by decide) s4 rfl ?_
    refine z_goto dX12_judge_136 (tgt := 96) (by decide) ?_
    exact k5 h1
  refine z_if_ne dX12_judge_123 (tgt := 133) (by decide) (fun h1 => ?_) (fun h1 => ?_)
  · skip
    exact J133 h1
  · skip
    refine z_aload_n dX12_judge_126 rfl rfl ?_
    refine z_bipush (x := (-6)) dX12_judge_127 (by decide +kernel) (by unfold zIn; decide) ?_
    have s1 : -2147483648 ≤ -(-6) ∧ -(-6) < (2147483648 : Int) := k1 h1
    have s2 : (0 : Int) ≤ -(-6) ∧ -(-6) < (8 : Int) := k2 h1
    refine z_callv (as := [zi (-6)]) (st := []) mkX12_no lkRX12_267 rfl rfl rfl (by decide) (Nat.le_of_ble_eq_true rfl) rfl dX12_judge_129 ?_
    refine SX12_no s1 s2 ?_
    show zR G MX12_judge 132 [zr 98, zi v1, zi v2, zi v3, zi v4, zi v5, zi v6, zi v7] [zi (-6)] (zup σ 157 (-(-6)) (zW ((σ 157 (-(-6))) + 1))) Q
    exact z_ireti rfl dX12_judge_132 (k3 h1)
set_option maxRecDepth 20000 in
set_option maxHeartbeats 1000000 in
theorem TX12_judge_142 {G : zG} {σ : zS} {Q : Int → zS → Prop} {v1 v2 v3 v4 v5 v6 v7 : Int}  (k1 : (σ 98 10 ≤ v7) → zO G MX12_holds_ [zr 98, zi v6, zi v2, zi v3, zi v4] σ (fun rr σ' => zR G MX12_judge 218 [zr 98, zi v1, zi v2, zi v3, zi v4, zi v5, zi v6, zi v7] [zi rr] σ' Q)) (k2 : (v7 < σ 98 10) → -2147483648 ≤ 80 * v1 ∧ 80 * v1 < (2147483648 : Int)) (k3 : (v7 < σ 98 10) → -2147483648 ≤ (80 * v1) + 1 ∧ (80 * v1) + 1 < (2147483648 : Int)) (k4 : (v7 < σ 98 10) → -2147483648 ≤ ((80 * v1) + 1) + v7 ∧ ((80 * v1) + 1) + v7 < (2147483648 : Int)) (k5 : (v7 < σ 98 10) → (0 : Int) ≤ ((80 * v1) + 1) + v7 ∧ ((80 * v1) + 1) + v7 < (800 : Int)) (k6 : (v7 < σ 98 10) → (0 : Int) ≤ v7 ∧ v7 < (2 : Int)) (k7 : (v7 < σ 98 10) → ((-1) ≤ zW (σ 115 (((80 * v1) + 1) + v7))) → (zW (σ 115 (((80 * v1) + 1) + v7)) < v2) → -2147483648 ≤ v7 + 1 ∧ v7 + 1 < (2147483648 : Int)) (k8 : (v7 < σ 98 10) → ((-1) ≤ zW (σ 115 (((80 * v1) + 1) + v7))) → (zW (σ 115 (((80 * v1) + 1) + v7)) < v2) → zR G MX12_judge 142 [zr 98, zi v1, zi v2, zi v3, zi v4, zi v5, zi v6, zi (v7 + 1)] [] (zup σ 175 v7 (zW (σ 115 (((80 * v1) + 1) + v7)))) Q) (k9 : (v7 < σ 98 10) → (zW (σ 115 (((80 * v1) + 1) + v7)) < (-1) ∨ ((-1) ≤ zW (σ 115 (((80 * v1) + 1) + v7)) ∧ v2 ≤ zW (σ 115 (((80 * v1) + 1) + v7)))) → -2147483648 ≤ -(-6) ∧ -(-6) < (2147483648 : Int)) (k10 : (v7 < σ 98 10) → (zW (σ 115 (((80 * v1) + 1) + v7)) < (-1) ∨ ((-1) ≤ zW (σ 115 (((80 * v1) + 1) + v7)) ∧ v2 ≤ zW (σ 115 (((80 * v1) + 1) + v7)))) → (0 : Int) ≤ -(-6) ∧ -(-6) < (8 : Int)) (k11 : (v7 < σ 98 10) → (zW (σ 115 (((80 * v1) + 1) + v7)) < (-1) ∨ ((-1) ≤ zW (σ 115 (((80 * v1) + 1) + v7)) ∧ v2 ≤ zW (σ 115 (((80 * v1) + 1) + v7)))) → Q (-6) (zup (zup σ 175 v7 (zW (σ 115 (((80 * v1) + 1) + v7)))) 157 (-(-6)) (zW (((zup σ 175 v7 (zW (σ 115 (((80 * v1) + 1) + v7)))) 157 (-(-6))) + 1)))) : zR G MX12_judge 142 [zr 98, zi v1, zi v2, zi v3, zi v4, zi v5, zi v6, zi v7] [] σ Q := by
  have J195 : (v7 < σ 98 10) → (zW (σ 115 (((80 * v1) + 1) + v7)) < (-1) ∨ ((-1) ≤ zW (σ 115 (((80 * v1) + 1) + v7)) ∧ v2 ≤ zW (σ 115 (((80 * v1) + 1) + v7)))) → zR G MX12_judge 195 [zr 98, zi v1, zi v2, zi v3, zi v4, zi v5, zi v6, zi v7] [] (zup σ 175 v7 (zW (σ 115 (((80 * v1) + 1) + v7)))) Q := by
    intro h1 h4
    refine z_aload_n dX12_judge_195 rfl rfl ?_
    refine z_bipush (x := (-6)) dX12_judge_196 (by decide +kernel) (by unfold zIn; decide) ?_
    have s9 : -2147483648 ≤ -(-6) ∧ -(-6) < (2147483648 : Int) := k9 h1 h4
    have s10 : (0 : Int) ≤ -(-6) ∧ -(-6) < (8 : Int) := k10 h1 h4
    refine z_callv (as := [zi (-6)]) (st := []) mkX12_no lkRX12_267 rfl rfl rfl (by decide) (Nat.le_of_ble_eq_true rfl) rfl dX12_judge_198 ?_
    refine SX12_no s9 s10 ?_
    show zR G MX12_judge 201 [zr 98, zi v1, zi v2, zi v3, zi v4, zi v5, zi v6, zi v7] [zi (-6)] (zup (zup σ 175 v7 (zW (σ 115 (((80 * v1) + 1) + v7)))) 157 (-(-6)) (zW (((zup σ 175 v7 (zW (σ 115 (((80 * v1) + 1) + v7)))) 157 (-(-6))) + 1))) Q
    exact z_ireti rfl dX12_judge_201 (k11 h1 h4)
  refine z_iload dX12_judge_142 rfl ?_
  refine z_aload_n dX12_judge_144 rfl rfl ?_
  refine z_getfI (k := 10) flRX12_471 rfl rfl dX12_judge_145 ?_
  refine z_icmp_ge dX12_judge_148 (tgt := 208) (by decide) (fun h1 => ?_) (fun h1 => ?_)
  · skip
    refine z_aload_n dX12_judge_208 rfl rfl ?_
    refine z_iload dX12_judge_209 rfl ?_
    refine z_iload_n dX12_judge_211 rfl rfl ?_
    refine z_iload_n dX12_judge_212 rfl rfl ?_
    refine z_iload dX12_judge_213 rfl ?_
    refine z_callv (as := [zi v6, zi v2, zi v3, zi v4]) (st := []) mkX12_holds_ lkRX12_487 rfl rfl rfl (by decide) (Nat.le_of_ble_eq_true rfl) rfl dX12_judge_215 (k1 h1)
  · skip
    refine z_aload_n dX12_judge_151 rfl rfl ?_
    refine z_getfR (k := 103) flRX12_244 rfl rfl dX12_judge_152 ?_
    refine z_iload dX12_judge_155 rfl ?_
    refine z_aload_n dX12_judge_157 rfl rfl ?_
    refine z_getfR (k := 29) flRX12_63 rfl rfl dX12_judge_158 ?_
    refine z_bipush (x := 80) dX12_judge_161 (by decide +kernel) (by unfold zIn; decide) ?_
    refine z_iload_n dX12_judge_163 rfl rfl ?_
    have s2 : -2147483648 ≤ 80 * v1 ∧ 80 * v1 < (2147483648 : Int) := k2 h1
    refine z_imulN dX12_judge_164 s2 ?_
    refine z_iconst dX12_judge_165 (by unfold zIn; decide) ?_
    have s3 : -2147483648 ≤ (80 * v1) + 1 ∧ (80 * v1) + 1 < (2147483648 : Int) := k3 h1
    refine z_iaddN dX12_judge_166 s3 ?_
    refine z_iload dX12_judge_167 rfl ?_
    have s4 : -2147483648 ≤ ((80 * v1) + 1) + v7 ∧ ((80 * v1) + 1) + v7 < (2147483648 : Int) := k4 h1
    refine z_iaddN dX12_judge_169 s4 ?_
    have s5 : (0 : Int) ≤ ((80 * v1) + 1) + v7 ∧ ((80 * v1) + 1) + v7 < (800 : Int) := k5 h1
    refine z_lald rfl s5.1 s5.2 dX12_judge_170 ?_
    refine z_l2i dX12_judge_171 ?_
    have s6 : (0 : Int) ≤ v7 ∧ v7 < (2 : Int) := k6 h1
    refine z_iast rfl s6.1 s6.2 dX12_judge_172 ?_
    refine z_aload_n dX12_judge_173 rfl rfl ?_
    refine z_getfR (k := 103) flRX12_244 rfl rfl dX12_judge_174 ?_
    refine z_iload dX12_judge_177 rfl ?_
    refine z_ialdE (v := zW (σ 115 (((80 * v1) + 1) + v7))) rfl s6.1 s6.2 (zup_same) dX12_judge_179 ?_
    refine z_iconst dX12_judge_180 (by unfold zIn; decide) ?_
    refine z_icmp_lt dX12_judge_181 (tgt := 195) (by decide) (fun h2 => ?_) (fun h2 => ?_)
    · skip
      exact J195 h1 (Or.inl h2)
    · skip
      refine z_aload_n dX12_judge_184 rfl rfl ?_
      refine z_getfR (k := 103) flRX12_244 rfl rfl dX12_judge_185 ?_
      refine z_iload dX12_judge_188 rfl ?_
      refine z_ialdE (v := zW (σ 115 (((80 * v1) + 1) + v7))) rfl s6.1 s6.2 (zup_same) dX12_judge_190 ?_
      refine z_iload_n dX12_judge_191 rfl rfl ?_
      refine z_icmp_lt dX12_judge_192 (tgt := 202) (by decide) (fun h3 => ?_) (fun h3 => ?_)
      · skip
        have s7 : -2147483648 ≤ v7 + 1 ∧ v7 + 1 < (2147483648 : Int) := k7 h1 h2 h3
        refine z_iincN (ls' := [zr 98, zi v1, zi v2, zi v3, zi v4, zi v5, zi v6, zi (v7 + 1)]) dX12_judge_202 rfl (by decide) s7 rfl ?_
        refine z_goto dX12_judge_205 (tgt := 142) (by decide) ?_
        exact k8 h1 h2 h3
      · skip
        exact J195 h1 (Or.inr ⟨h2, h3⟩)
set_option maxRecDepth 20000 in
set_option maxHeartbeats 1000000 in
theorem TX12_judge_218 {G : zG} {σ : zS} {Q : Int → zS → Prop} {v1 v2 v3 v4 v5 v6 v7 r : Int}  (k1 : (r = 0) → -2147483648 ≤ (-10) - σ 98 104 ∧ (-10) - σ 98 104 < (2147483648 : Int)) (k2 : (r = 0) → Q ((-10) - σ 98 104) σ) (k3 : (r ≠ 0) → Q (σ 98 105) σ) : zR G MX12_judge 218 [zr 98, zi v1, zi v2, zi v3, zi v4, zi v5, zi v6, zi v7] [zi r] σ Q := by
  refine z_if_eq dX12_judge_218 (tgt := 228) (by decide) (fun h1 => ?_) (fun h1 => ?_)
  · skip
    refine z_bipush (x := (-10)) dX12_judge_228 (by decide +kernel) (by unfold zIn; decide) ?_
    refine z_aload_n dX12_judge_230 rfl rfl ?_
    refine z_getfI (k := 104) flRX12_474 rfl rfl dX12_judge_231 ?_
    have s1 : -2147483648 ≤ (-10) - σ 98 104 ∧ (-10) - σ 98 104 < (2147483648 : Int) := k1 h1
    refine z_isubN dX12_judge_234 s1 ?_
    exact z_ireti rfl dX12_judge_235 (k2 h1)
  · skip
    refine z_aload_n dX12_judge_221 rfl rfl ?_
    refine z_getfI (k := 105) flRX12_477 rfl rfl dX12_judge_222 ?_
    refine z_goto dX12_judge_225 (tgt := 235) (by decide) ?_
    exact z_ireti rfl dX12_judge_235 (k3 h1)
set_option maxRecDepth 20000 in
set_option maxHeartbeats 1000000 in
theorem TX12_room {G : zG} {σ : zS} {Q : Int → zS → Prop}  (k1 : (σ 98 9 ≠ 9) → -2147483648 ≤ σ 98 9 + 1 ∧ σ 98 9 + 1 < (2147483648 : Int)) (k2 : (σ 98 9 ≠ 9) → Q (σ 98 9) (zup σ 98 9 (σ 98 9 + 1))) (k3 : (σ 98 9 = 9) → -2147483648 ≤ -(-7) ∧ -(-7) < (2147483648 : Int)) (k4 : (σ 98 9 = 9) → (0 : Int) ≤ -(-7) ∧ -(-7) < (8 : Int)) (k5 : (σ 98 9 = 9) → Q (-7) (zup σ 157 (-(-7)) (zW ((σ 157 (-(-7))) + 1)))) : zO G MX12_room [zr 98] σ Q := by
  refine zO_of (ls0 := [zr 98]) (by decide) (Nat.le_of_ble_eq_true rfl) rfl ?_
  refine z_aload_n dX12_room_0 rfl rfl ?_
  refine z_getfI (k := 9) flRX12_499 rfl rfl dX12_room_1 ?_
  refine z_bipush (x := 9) dX12_room_4 (by decide +kernel) (by unfold zIn; decide) ?_
  refine z_icmp_ne dX12_room_6 (tgt := 18) (by decide) (fun h1 => ?_) (fun h1 => ?_)
  · skip
    refine z_aload_n dX12_room_18 rfl rfl ?_
    refine z_dup dX12_room_19 rfl ?_
    refine z_getfI (k := 9) flRX12_499 rfl rfl dX12_room_20 ?_
    refine z_dup_x1 dX12_room_23 rfl rfl ?_
    refine z_iconst dX12_room_24 (by unfold zIn; decide) ?_
    have s1 : -2147483648 ≤ σ 98 9 + 1 ∧ σ 98 9 + 1 < (2147483648 : Int) := k1 h1
    refine z_iaddN dX12_room_25 s1 ?_
    refine z_putI (k := 9) fpRX12_499 rfl rfl dX12_room_26 ?_
    exact z_ireti rfl dX12_room_29 (k2 h1)
  · skip
    refine z_aload_n dX12_room_9 rfl rfl ?_
    refine z_bipush (x := (-7)) dX12_room_10 (by decide +kernel) (by unfold zIn; decide) ?_
    have s3 : -2147483648 ≤ -(-7) ∧ -(-7) < (2147483648 : Int) := k3 h1
    have s4 : (0 : Int) ≤ -(-7) ∧ -(-7) < (8 : Int) := k4 h1
    refine z_callv (as := [zi (-7)]) (st := []) mkX12_no lkRX12_267 rfl rfl rfl (by decide) (Nat.le_of_ble_eq_true rfl) rfl dX12_room_12 ?_
    refine SX12_no s3 s4 ?_
    show zR G MX12_room 15 [zr 98] [zi (-7)] (zup σ 157 (-(-7)) (zW ((σ 157 (-(-7))) + 1))) Q
    refine z_goto dX12_room_15 (tgt := 29) (by decide) ?_
    exact z_ireti rfl dX12_room_29 (k5 h1)
set_option maxRecDepth 20000 in
set_option maxHeartbeats 1000000 in
theorem TX12_wish {G : zG} {σ : zS} {Q : Int → zS → Prop} {a1 a2 : Int}  (k1 : ((0 ≤ a1 ∧ a1 < σ 98 1)) → zO G MX12_wants [zr 98, zi a2] σ (fun rr σ' => zR G MX12_wish 19 [zr 98, zi a1, zi a2, zu, zu] [zi rr] σ' Q)) (k2 : (¬ ((0 ≤ a1 ∧ a1 < σ 98 1))) → -2147483648 ≤ -(-1) ∧ -(-1) < (2147483648 : Int)) (k3 : (¬ ((0 ≤ a1 ∧ a1 < σ 98 1))) → (0 : Int) ≤ -(-1) ∧ -(-1) < (8 : Int)) (k4 : (¬ ((0 ≤ a1 ∧ a1 < σ 98 1))) → Q (-1) (zup σ 157 (-(-1)) (zW ((σ 157 (-(-1))) + 1)))) : zO G MX12_wish [zr 98, zi a1, zi a2] σ Q := by
  refine zO_of (ls0 := [zr 98, zi a1, zi a2, zu, zu]) (by decide) (Nat.le_of_ble_eq_true rfl) rfl ?_
  refine z_aload_n dX12_wish_0 rfl rfl ?_
  refine z_iload_n dX12_wish_1 rfl rfl ?_
  refine z_callv (as := [zi a1]) (st := []) mkX12_isOne lkRX12_271 rfl rfl rfl (by decide) (Nat.le_of_ble_eq_true rfl) rfl dX12_wish_2 ?_
  refine SX12_isOne ?_
  show zR G MX12_wish 5 [zr 98, zi a1, zi a2, zu, zu] [zi (if (0 ≤ a1 ∧ a1 < σ 98 1) then (1 : Int) else 0)] σ Q
  refine z_if_ne dX12_wish_5 (tgt := 14) (by decide) (fun z => ?_) (fun z => ?_)
  · have h1 : (0 ≤ a1 ∧ a1 < σ 98 1) := zb1 z
    refine z_aload_n dX12_wish_14 rfl rfl ?_
    refine z_iload_n dX12_wish_15 rfl rfl ?_
    refine z_callv (as := [zi a2]) (st := []) mkX12_wants lkRX12_300 rfl rfl rfl (by decide) (Nat.le_of_ble_eq_true rfl) rfl dX12_wish_16 (k1 h1)
  · have h1 : ¬ ((0 ≤ a1 ∧ a1 < σ 98 1)) := zb0 z
    refine z_aload_n dX12_wish_8 rfl rfl ?_
    refine z_iconst dX12_wish_9 (by unfold zIn; decide) ?_
    have s2 : -2147483648 ≤ -(-1) ∧ -(-1) < (2147483648 : Int) := k2 h1
    have s3 : (0 : Int) ≤ -(-1) ∧ -(-1) < (8 : Int) := k3 h1
    refine z_callv (as := [zi (-1)]) (st := []) mkX12_no lkRX12_267 rfl rfl rfl (by decide) (Nat.le_of_ble_eq_true rfl) rfl dX12_wish_10 ?_
    refine SX12_no s2 s3 ?_
    show zR G MX12_wish 13 [zr 98, zi a1, zi a2, zu, zu] [zi (-1)] (zup σ 157 (-(-1)) (zW ((σ 157 (-(-1))) + 1))) Q
    exact z_ireti rfl dX12_wish_13 (k4 h1)
set_option maxRecDepth 20000 in
set_option maxHeartbeats 1000000 in
theorem TX12_wish_19 {G : zG} {σ : zS} {Q : Int → zS → Prop} {v1 v2 r : Int}  (k1 : (r = 0) → (0 : Int) ≤ v2 ∧ v2 < (10 : Int)) (k2 : (r = 0) → (0 : Int) ≤ v1 ∧ v1 < (24 : Int)) (k3 : (r = 0) → zR G MX12_wish 45 [zr 98, zi v1, zi v2, zi r, zi 0] [] (zup σ 137 v1 (σ 113 v2)) Q) (k4 : (r ≠ 0) → -2147483648 ≤ -r ∧ -r < (2147483648 : Int)) (k5 : (r ≠ 0) → (0 : Int) ≤ -r ∧ -r < (8 : Int)) (k6 : (r ≠ 0) → Q r (zup σ 157 (-r) (zW ((σ 157 (-r)) + 1)))) : zR G MX12_wish 19 [zr 98, zi v1, zi v2, zu, zu] [zi r] σ Q := by
  refine z_istore_n (ls' := [zr 98, zi v1, zi v2, zi r, zu]) dX12_wish_19 rfl (by decide) rfl ?_
  refine z_iload_n dX12_wish_20 rfl rfl ?_
  refine z_if_eq dX12_wish_21 (tgt := 30) (by decide) (fun h1 => ?_) (fun h1 => ?_)
  · skip
    refine z_aload_n dX12_wish_30 rfl rfl ?_
    refine z_getfR (k := 52) flRX12_130 rfl rfl dX12_wish_31 ?_
    refine z_iload_n dX12_wish_34 rfl rfl ?_
    refine z_aload_n dX12_wish_35 rfl rfl ?_
    refine z_getfR (k := 27) flRX12_57 rfl rfl dX12_wish_36 ?_
    refine z_iload_n dX12_wish_39 rfl rfl ?_
    have s1 : (0 : Int) ≤ v2 ∧ v2 < (10 : Int) := k1 h1
    refine z_iald rfl s1.1 s1.2 dX12_wish_40 ?_
    have s2 : (0 : Int) ≤ v1 ∧ v1 < (24 : Int) := k2 h1
    refine z_iast rfl s2.1 s2.2 dX12_wish_41 ?_
    refine z_iconst dX12_wish_42 (by unfold zIn; decide) ?_
    refine z_istore (ls' := [zr 98, zi v1, zi v2, zi r, zi 0]) dX12_wish_43 (by decide) rfl ?_
    exact k3 h1
  · skip
    refine z_aload_n dX12_wish_24 rfl rfl ?_
    refine z_iload_n dX12_wish_25 rfl rfl ?_
    have s4 : -2147483648 ≤ -r ∧ -r < (2147483648 : Int) := k4 h1
    have s5 : (0 : Int) ≤ -r ∧ -r < (8 : Int) := k5 h1
    refine z_callv (as := [zi r]) (st := []) mkX12_no lkRX12_267 rfl rfl rfl (by decide) (Nat.le_of_ble_eq_true rfl) rfl dX12_wish_26 ?_
    refine SX12_no s4 s5 ?_
    show zR G MX12_wish 29 [zr 98, zi v1, zi v2, zi r, zu] [zi r] (zup σ 157 (-r) (zW ((σ 157 (-r)) + 1))) Q
    exact z_ireti rfl dX12_wish_29 (k6 h1)
set_option maxRecDepth 20000 in
set_option maxHeartbeats 1000000 in
theorem TX12_wish_45 {G : zG} {σ : zS} {Q : Int → zS → Prop} {v1 v2 v3 v4 : Int}  (k1 : (0 : Int) ≤ v2 ∧ v2 < (10 : Int)) (k2 : (σ 113 v2 ≤ v4) → Q (σ 113 v2) σ) (k3 : (v4 < σ 113 v2) → -2147483648 ≤ 80 * v1 ∧ 80 * v1 < (2147483648 : Int)) (k4 : (v4 < σ 113 v2) → -2147483648 ≤ (80 * v1) + v4 ∧ (80 * v1) + v4 < (2147483648 : Int)) (k5 : (v4 < σ 113 v2) → -2147483648 ≤ 80 * v2 ∧ 80 * v2 < (2147483648 : Int)) (k6 : (v4 < σ 113 v2) → -2147483648 ≤ (80 * v2) + v4 ∧ (80 * v2) + v4 < (2147483648 : Int)) (k7 : (v4 < σ 113 v2) → (0 : Int) ≤ (80 * v2) + v4 ∧ (80 * v2) + v4 < (800 : Int)) (k8 : (v4 < σ 113 v2) → (0 : Int) ≤ (80 * v1) + v4 ∧ (80 * v1) + v4 < (1920 : Int)) (k9 : (v4 < σ 113 v2) → -2147483648 ≤ v4 + 1 ∧ v4 + 1 < (2147483648 : Int)) (k10 : (v4 < σ 113 v2) → zR G MX12_wish 45 [zr 98, zi v1, zi v2, zi v3, zi (v4 + 1)] [] (zup σ 136 ((80 * v1) + v4) (zW (σ 115 ((80 * v2) + v4)))) Q) : zR G MX12_wish 45 [zr 98, zi v1, zi v2, zi v3, zi v4] [] σ Q := by
  refine z_iload dX12_wish_45 rfl ?_
  refine z_aload_n dX12_wish_47 rfl rfl ?_
  refine z_getfR (k := 27) flRX12_57 rfl rfl dX12_wish_48 ?_
  refine z_iload_n dX12_wish_51 rfl rfl ?_
  have s1 : (0 : Int) ≤ v2 ∧ v2 < (10 : Int) := k1
  refine z_iald rfl s1.1 s1.2 dX12_wish_52 ?_
  refine z_icmp_ge dX12_wish_53 (tgt := 87) (by decide) (fun h1 => ?_) (fun h1 => ?_)
  · skip
    refine z_aload_n dX12_wish_87 rfl rfl ?_
    refine z_getfR (k := 27) flRX12_57 rfl rfl dX12_wish_88 ?_
    refine z_iload_n dX12_wish_91 rfl rfl ?_
    refine z_iald rfl s1.1 s1.2 dX12_wish_92 ?_
    exact z_ireti rfl dX12_wish_93 (k2 h1)
  · skip
    refine z_aload_n dX12_wish_56 rfl rfl ?_
    refine z_getfR (k := 51) flRX12_127 rfl rfl dX12_wish_57 ?_
    refine z_bipush (x := 80) dX12_wish_60 (by decide +kernel) (by unfold zIn; decide) ?_
    refine z_iload_n dX12_wish_62 rfl rfl ?_
    have s3 : -2147483648 ≤ 80 * v1 ∧ 80 * v1 < (2147483648 : Int) := k3 h1
    refine z_imulN dX12_wish_63 s3 ?_
    refine z_iload dX12_wish_64 rfl ?_
    have s4 : -2147483648 ≤ (80 * v1) + v4 ∧ (80 * v1) + v4 < (2147483648 : Int) := k4 h1
    refine z_iaddN dX12_wish_66 s4 ?_
    refine z_aload_n dX12_wish_67 rfl rfl ?_
    refine z_getfR (k := 29) flRX12_63 rfl rfl dX12_wish_68 ?_
    refine z_bipush (x := 80) dX12_wish_71 (by decide +kernel) (by unfold zIn; decide) ?_
    refine z_iload_n dX12_wish_73 rfl rfl ?_
    have s5 : -2147483648 ≤ 80 * v2 ∧ 80 * v2 < (2147483648 : Int) := k5 h1
    refine z_imulN dX12_wish_74 s5 ?_
    refine z_iload dX12_wish_75 rfl ?_
    have s6 : -2147483648 ≤ (80 * v2) + v4 ∧ (80 * v2) + v4 < (2147483648 : Int) := k6 h1
    refine z_iaddN dX12_wish_77 s6 ?_
    have s7 : (0 : Int) ≤ (80 * v2) + v4 ∧ (80 * v2) + v4 < (800 : Int) := k7 h1
    refine z_lald rfl s7.1 s7.2 dX12_wish_78 ?_
    refine z_l2i dX12_wish_79 ?_
    have s8 : (0 : Int) ≤ (80 * v1) + v4 ∧ (80 * v1) + v4 < (1920 : Int) := k8 h1
    refine z_iast rfl s8.1 s8.2 dX12_wish_80 ?_
    have s9 : -2147483648 ≤ v4 + 1 ∧ v4 + 1 < (2147483648 : Int) := k9 h1
    refine z_iincN (ls' := [zr 98, zi v1, zi v2, zi v3, zi (v4 + 1)]) dX12_wish_81 rfl (by decide) s9 rfl ?_
    refine z_goto dX12_wish_84 (tgt := 45) (by decide) ?_
    exact k10 h1
set_option maxRecDepth 20000 in
set_option maxHeartbeats 1000000 in
theorem TX12_whoHas {G : zG} {σ : zS} {Q : Int → zS → Prop} {a1 : Int}  (k1 : zR G MX12_whoHas 2 [zr 98, zi a1, zi 0] [] σ Q) : zO G MX12_whoHas [zr 98, zi a1] σ Q := by
  refine zO_of (ls0 := [zr 98, zi a1, zu]) (by decide) (Nat.le_of_ble_eq_true rfl) rfl ?_
  refine z_iconst dX12_whoHas_0 (by unfold zIn; decide) ?_
  refine z_istore_n (ls' := [zr 98, zi a1, zi 0]) dX12_whoHas_1 rfl (by decide) rfl ?_
  exact k1
set_option maxRecDepth 20000 in
set_option maxHeartbeats 1000000 in
theorem TX12_whoHas_2 {G : zG} {σ : zS} {Q : Int → zS → Prop} {v1 v2 : Int}  (k1 : (σ 98 1 ≤ v2) → Q (-1) σ) (k2 : (v2 < σ 98 1) → (0 : Int) ≤ v2 ∧ v2 < (24 : Int)) (k3 : (v2 < σ 98 1) → (σ 138 v2 ≠ v1) → -2147483648 ≤ v2 + 1 ∧ v2 + 1 < (2147483648 : Int)) (k4 : (v2 < σ 98 1) → (σ 138 v2 ≠ v1) → zR G MX12_whoHas 2 [zr 98, zi v1, zi (v2 + 1)] [] σ Q) (k5 : (v2 < σ 98 1) → (σ 138 v2 = v1) → Q v2 σ) : zR G MX12_whoHas 2 [zr 98, zi v1, zi v2] [] σ Q := by
  refine z_iload_n dX12_whoHas_2 rfl rfl ?_
  refine z_aload_n dX12_whoHas_3 rfl rfl ?_
  refine z_getfI (k := 1) flRX12_256 rfl rfl dX12_whoHas_4 ?_
  refine z_icmp_ge dX12_whoHas_7 (tgt := 28) (by decide) (fun h1 => ?_) (fun h1 => ?_)
  · skip
    refine z_iconst dX12_whoHas_28 (by unfold zIn; decide) ?_
    exact z_ireti rfl dX12_whoHas_29 (k1 h1)
  · skip
    refine z_aload_n dX12_whoHas_10 rfl rfl ?_
    refine z_getfR (k := 53) flRX12_133 rfl rfl dX12_whoHas_11 ?_
    refine z_iload_n dX12_whoHas_14 rfl rfl ?_
    have s2 : (0 : Int) ≤ v2 ∧ v2 < (24 : Int) := k2 h1
    refine z_iald rfl s2.1 s2.2 dX12_whoHas_15 ?_
    refine z_iload_n dX12_whoHas_16 rfl rfl ?_
    refine z_icmp_ne dX12_whoHas_17 (tgt := 22) (by decide) (fun h2 => ?_) (fun h2 => ?_)
    · skip
      have s3 : -2147483648 ≤ v2 + 1 ∧ v2 + 1 < (2147483648 : Int) := k3 h1 h2
      refine z_iincN (ls' := [zr 98, zi v1, zi (v2 + 1)]) dX12_whoHas_22 rfl (by decide) s3 rfl ?_
      refine z_goto dX12_whoHas_25 (tgt := 2) (by decide) ?_
      exact k4 h1 h2
    · skip
      refine z_iload_n dX12_whoHas_20 rfl rfl ?_
      exact z_ireti rfl dX12_whoHas_21 (k5 h1 h2)
set_option maxRecDepth 20000 in
set_option maxHeartbeats 1000000 in
theorem TX12_choose {G : zG} {σ : zS} {Q : Int → zS → Prop}  (k1 : zO G MX12_seniors [zr 98] σ (fun rr σ' => zR G MX12_choose 4 [zr 98, zu, zu, zu, zu, zu, zu] [zi rr] σ' Q)) : zO G MX12_choose [zr 98] σ Q := by
  refine zO_of (ls0 := [zr 98, zu, zu, zu, zu, zu, zu]) (by decide) (Nat.le_of_ble_eq_true rfl) rfl ?_
  refine z_aload_n dX12_choose_0 rfl rfl ?_
  refine z_callv (as := []) (st := []) mkX12_seniors lkRX12_409 rfl rfl rfl (by decide) (Nat.le_of_ble_eq_true rfl) rfl dX12_choose_1 (k1)
set_option maxRecDepth 20000 in
set_option maxHeartbeats 1000000 in
theorem TX12_choose_4 {G : zG} {σ : zS} {Q : Int → zS → Prop} {r : Int}  (k1 : zR G MX12_choose 7 [zr 98, zi r, zi 0, zu, zu, zu, zu] [] σ Q) : zR G MX12_choose 4 [zr 98, zu, zu, zu, zu, zu, zu] [zi r] σ Q := by
  refine z_istore_n (ls' := [zr 98, zi r, zu, zu, zu, zu, zu]) dX12_choose_4 rfl (by decide) rfl ?_
  refine z_iconst dX12_choose_5 (by unfold zIn; decide) ?_
  refine z_istore_n (ls' := [zr 98, zi r, zi 0, zu, zu, zu, zu]) dX12_choose_6 rfl (by decide) rfl ?_
  exact k1
set_option maxRecDepth 20000 in
set_option maxHeartbeats 1000000 in
theorem TX12_choose_7 {G : zG} {σ : zS} {Q : Int → zS → Prop} {v1 v2 : Int}  (k1 : (v1 ≤ v2) → zR G MX12_choose 39 [zr 98, zi v1, zi 0, zi 0, zu, zu, zu] [] σ Q) (k2 : (v2 < v1) → (0 : Int) ≤ v2 ∧ v2 < (12 : Int)) (k3 : (v2 < v1) → (0 : Int) ≤ σ 173 v2 ∧ σ 173 v2 < (12 : Int)) (k4 : (v2 < v1) → (0 : Int) ≤ σ 130 (σ 173 v2) ∧ σ 130 (σ 173 v2) < (24 : Int)) (k5 : (v2 < v1) → -2147483648 ≤ v2 + 1 ∧ v2 + 1 < (2147483648 : Int)) (k6 : (v2 < v1) → zR G MX12_choose 7 [zr 98, zi v1, zi (v2 + 1), zu, zu, zu, zu] [] (zup σ 138 (σ 130 (σ 173 v2)) (-1)) Q) : zR G MX12_choose 7 [zr 98, zi v1, zi v2, zu, zu, zu, zu] [] σ Q := by
  refine z_iload_n dX12_choose_7 rfl rfl ?_
  refine z_iload_n dX12_choose_8 rfl rfl ?_
  refine z_icmp_ge dX12_choose_9 (tgt := 35) (by decide) (fun h1 => ?_) (fun h1 => ?_)
  · skip
    refine z_iconst dX12_choose_35 (by unfold zIn; decide) ?_
    refine z_istore_n (ls' := [zr 98, zi v1, zi 0, zu, zu, zu, zu]) dX12_choose_36 rfl (by decide) rfl ?_
    refine z_iconst dX12_choose_37 (by unfold zIn; decide) ?_
    refine z_istore_n (ls' := [zr 98, zi v1, zi 0, zi 0, zu, zu, zu]) dX12_choose_38 rfl (by decide) rfl ?_
    exact k1 h1
  · skip
    refine z_aload_n dX12_choose_12 rfl rfl ?_
    refine z_getfR (k := 53) flRX12_133 rfl rfl dX12_choose_13 ?_
    refine z_aload_n dX12_choose_16 rfl rfl ?_
    refine z_getfR (k := 45) flRX12_109 rfl rfl dX12_choose_17 ?_
    refine z_aload_n dX12_choose_20 rfl rfl ?_
    refine z_getfR (k := 98) flRX12_238 rfl rfl dX12_choose_21 ?_
    refine z_iload_n dX12_choose_24 rfl rfl ?_
    have s2 : (0 : Int) ≤ v2 ∧ v2 < (12 : Int) := k2 h1
    refine z_iald rfl s2.1 s2.2 dX12_choose_25 ?_
    have s3 : (0 : Int) ≤ σ 173 v2 ∧ σ 173 v2 < (12 : Int) := k3 h1
    refine z_iald rfl s3.1 s3.2 dX12_choose_26 ?_
    refine z_iconst dX12_choose_27 (by unfold zIn; decide) ?_
    have s4 : (0 : Int) ≤ σ 130 (σ 173 v2) ∧ σ 130 (σ 173 v2) < (24 : Int) := k4 h1
    refine z_iast rfl s4.1 s4.2 dX12_choose_28 ?_
    have s5 : -2147483648 ≤ v2 + 1 ∧ v2 + 1 < (2147483648 : Int) := k5 h1
    refine z_iincN (ls' := [zr 98, zi v1, zi (v2 + 1), zu, zu, zu, zu]) dX12_choose_29 rfl (by decide) s5 rfl ?_
    refine z_goto dX12_choose_32 (tgt := 7) (by decide) ?_
    exact k6 h1
set_option maxRecDepth 20000 in
set_option maxHeartbeats 1000000 in
theorem TX12_choose_39 {G : zG} {σ : zS} {Q : Int → zS → Prop} {v1 v2 v3 : Int}  (k1 : (v1 ≤ v3) → Q v2 σ) (k2 : (v3 < v1) → (0 : Int) ≤ v3 ∧ v3 < (12 : Int)) (k3 : (v3 < v1) → (0 : Int) ≤ σ 173 v3 ∧ σ 173 v3 < (12 : Int)) (k4 : (v3 < v1) → zR G MX12_choose 60 [zr 98, zi v1, zi v2, zi v3, zi (σ 130 (σ 173 v3)), zi 0, zu] [] σ Q) : zR G MX12_choose 39 [zr 98, zi v1, zi v2, zi v3, zu, zu, zu] [] σ Q := by
  refine z_iload_n dX12_choose_39 rfl rfl ?_
  refine z_iload_n dX12_choose_40 rfl rfl ?_
  refine z_icmp_ge dX12_choose_41 (tgt := 157) (by decide) (fun h1 => ?_) (fun h1 => ?_)
  · skip
    refine z_iload_n dX12_choose_157 rfl rfl ?_
    exact z_ireti rfl dX12_choose_158 (k1 h1)
  · skip
    refine z_aload_n dX12_choose_44 rfl rfl ?_
    refine z_getfR (k := 45) flRX12_109 rfl rfl dX12_choose_45 ?_
    refine z_aload_n dX12_choose_48 rfl rfl ?_
    refine z_getfR (k := 98) flRX12_238 rfl rfl dX12_choose_49 ?_
    refine z_iload_n dX12_choose_52 rfl rfl ?_
    have s2 : (0 : Int) ≤ v3 ∧ v3 < (12 : Int) := k2 h1
    refine z_iald rfl s2.1 s2.2 dX12_choose_53 ?_
    have s3 : (0 : Int) ≤ σ 173 v3 ∧ σ 173 v3 < (12 : Int) := k3 h1
    refine z_iald rfl s3.1 s3.2 dX12_choose_54 ?_
    refine z_istore (ls' := [zr 98, zi v1, zi v2, zi v3, zi (σ 130 (σ 173 v3)), zu, zu]) dX12_choose_55 (by decide) rfl ?_
    refine z_iconst dX12_choose_57 (by unfold zIn; decide) ?_
    refine z_istore (ls' := [zr 98, zi v1, zi v2, zi v3, zi (σ 130 (σ 173 v3)), zi 0, zu]) dX12_choose_58 (by decide) rfl ?_
    exact k4 h1
set_option maxRecDepth 20000 in
set_option maxHeartbeats 1000000 in
theorem TX12_choose_60 {G : zG} {σ : zS} {Q : Int → zS → Prop} {v1 v2 v3 v4 v5 : Int}  (k1 : (0 : Int) ≤ v4 ∧ v4 < (24 : Int)) (k2 : (v5 < σ 137 v4) → (σ 138 v4 = (-1)) → -2147483648 ≤ 80 * v4 ∧ 80 * v4 < (2147483648 : Int)) (k3 : (v5 < σ 137 v4) → (σ 138 v4 = (-1)) → -2147483648 ≤ (80 * v4) + v5 ∧ (80 * v4) + v5 < (2147483648 : Int)) (k4 : (v5 < σ 137 v4) → (σ 138 v4 = (-1)) → (0 : Int) ≤ (80 * v4) + v5 ∧ (80 * v4) + v5 < (1920 : Int)) (k5 : (v5 < σ 137 v4) → (σ 138 v4 = (-1)) → (0 ≤ σ 136 ((80 * v4) + v5)) → (σ 136 ((80 * v4) + v5) < σ 98 9) → zO G MX12_whoHas [zr 98, zi (σ 136 ((80 * v4) + v5))] σ (fun rr σ' => zR G MX12_choose 118 [zr 98, zi v1, zi v2, zi v3, zi v4, zi v5, zi (σ 136 ((80 * v4) + v5))] [zi rr] σ' Q)) (k6 : (v5 < σ 137 v4) → (σ 138 v4 = (-1)) → (σ 136 ((80 * v4) + v5) < 0 ∨ (0 ≤ σ 136 ((80 * v4) + v5) ∧ σ 98 9 ≤ σ 136 ((80 * v4) + v5))) → -2147483648 ≤ v5 + 1 ∧ v5 + 1 < (2147483648 : Int)) (k7 : (v5 < σ 137 v4) → (σ 138 v4 = (-1)) → (σ 136 ((80 * v4) + v5) < 0 ∨ (0 ≤ σ 136 ((80 * v4) + v5) ∧ σ 98 9 ≤ σ 136 ((80 * v4) + v5))) → zR G MX12_choose 60 [zr 98, zi v1, zi v2, zi v3, zi v4, zi (v5 + 1), zu] [] σ Q) (k8 : (σ 137 v4 ≤ v5 ∨ (v5 < σ 137 v4 ∧ σ 138 v4 ≠ (-1))) → (0 : Int) ≤ v4 ∧ v4 < (24 : Int)) (k9 : (σ 137 v4 ≤ v5 ∨ (v5 < σ 137 v4 ∧ σ 138 v4 ≠ (-1))) → (σ 138 v4 ≠ (-1)) → -2147483648 ≤ v2 + 1 ∧ v2 + 1 < (2147483648 : Int)) (k10 : (σ 137 v4 ≤ v5 ∨ (v5 < σ 137 v4 ∧ σ 138 v4 ≠ (-1))) → (σ 138 v4 = (-1)) → -2147483648 ≤ v3 + 1 ∧ v3 + 1 < (2147483648 : Int)) (k11 : (σ 137 v4 ≤ v5 ∨ (v5 < σ 137 v4 ∧ σ 138 v4 ≠ (-1))) → (σ 138 v4 = (-1)) → zR G MX12_choose 39 [zr 98, zi v1, zi v2, zi (v3 + 1), zu, zu, zu] [] σ Q) (k12 : (σ 137 v4 ≤ v5 ∨ (v5 < σ 137 v4 ∧ σ 138 v4 ≠ (-1))) → (σ 138 v4 ≠ (-1)) → -2147483648 ≤ v3 + 1 ∧ v3 + 1 < (2147483648 : Int)) (k13 : (σ 137 v4 ≤ v5 ∨ (v5 < σ 137 v4 ∧ σ 138 v4 ≠ (-1))) → (σ 138 v4 ≠ (-1)) → zR G MX12_choose 39 [zr 98, zi v1, zi (v2 + 1), zi (v3 + 1), zu, zu, zu] [] σ Q) : zR G MX12_choose 60 [zr 98, zi v1, zi v2, zi v3, zi v4, zi v5, zu] [] σ Q := by
  have J151_1 : (σ 137 v4 ≤ v5 ∨ (v5 < σ 137 v4 ∧ σ 138 v4 ≠ (-1))) → (σ 138 v4 ≠ (-1)) → zR G MX12_choose 151 [zr 98, zi v1, zi (v2 + 1), zi v3, zi v4, zi v5, zu] [] σ Q := by
    intro h6 h7
    have s12 : -2147483648 ≤ v3 + 1 ∧ v3 + 1 < (2147483648 : Int) := k12 h6 h7
    refine z_iincN (ls' := [zr 98, zi v1, zi (v2 + 1), zi (v3 + 1), zi v4, zi v5, zu]) dX12_choose_151 rfl (by decide) s12 rfl ?_
    refine z_goto dX12_choose_154 (tgt := 39) (by decide) ?_
    exact zR_fg [false, false, false, false, true, true, false] (k13 h6 h7)
  have J151 : (σ 137 v4 ≤ v5 ∨ (v5 < σ 137 v4 ∧ σ 138 v4 ≠ (-1))) → (σ 138 v4 = (-1)) → zR G MX12_choose 151 [zr 98, zi v1, zi v2, zi v3, zi v4, zi v5, zu] [] σ Q := by
    intro h6 h7
    have s10 : -2147483648 ≤ v3 + 1 ∧ v3 + 1 < (2147483648 : Int) := k10 h6 h7
    refine z_iincN (ls' := [zr 98, zi v1, zi v2, zi (v3 + 1), zi v4, zi v5, zu]) dX12_choose_151 rfl (by decide) s10 rfl ?_
    refine z_goto dX12_choose_154 (tgt := 39) (by decide) ?_
    exact zR_fg [false, false, false, false, true, true, false] (k11 h6 h7)
  have J137 : (σ 137 v4 ≤ v5 ∨ (v5 < σ 137 v4 ∧ σ 138 v4 ≠ (-1))) → zR G MX12_choose 137 [zr 98, zi v1, zi v2, zi v3, zi v4, zi v5, zu] [] σ Q := by
    intro h6
    refine z_aload_n dX12_choose_137 rfl rfl ?_
    refine z_getfR (k := 53) flRX12_133 rfl rfl dX12_choose_138 ?_
    refine z_iload dX12_choose_141 rfl ?_
    have s8 : (0 : Int) ≤ v4 ∧ v4 < (24 : Int) := k8 h6
    refine z_iald rfl s8.1 s8.2 dX12_choose_143 ?_
    refine z_iconst dX12_choose_144 (by unfold zIn; decide) ?_
    refine z_icmp_eq dX12_choose_145 (tgt := 151) (by decide) (fun h7 => ?_) (fun h7 => ?_)
    · skip
      exact J151 h6 h7
    · skip
      have s9 : -2147483648 ≤ v2 + 1 ∧ v2 + 1 < (2147483648 : Int) := k9 h6 h7
      refine z_iincN (ls' := [zr 98, zi v1, zi (v2 + 1), zi v3, zi v4, zi v5, zu]) dX12_choose_148 rfl (by decide) s9 rfl ?_
      exact J151_1 h6 h7
  have J131 : (v5 < σ 137 v4) → (σ 138 v4 = (-1)) → (σ 136 ((80 * v4) + v5) < 0 ∨ (0 ≤ σ 136 ((80 * v4) + v5) ∧ σ 98 9 ≤ σ 136 ((80 * v4) + v5))) → zR G MX12_choose 131 [zr 98, zi v1, zi v2, zi v3, zi v4, zi v5, zi (σ 136 ((80 * v4) + v5))] [] σ Q := by
    intro h1 h2 h5
    have s6 : -2147483648 ≤ v5 + 1 ∧ v5 + 1 < (2147483648 : Int) := k6 h1 h2 h5
    refine z_iincN (ls' := [zr 98, zi v1, zi v2, zi v3, zi v4, zi (v5 + 1), zi (σ 136 ((80 * v4) + v5))]) dX12_choose_131 rfl (by decide) s6 rfl ?_
    refine z_goto dX12_choose_134 (tgt := 60) (by decide) ?_
    exact zR_fg [false, false, false, false, false, false, true] (k7 h1 h2 h5)
  refine z_iload dX12_choose_60 rfl ?_
  refine z_aload_n dX12_choose_62 rfl rfl ?_
  refine z_getfR (k := 52) flRX12_130 rfl rfl dX12_choose_63 ?_
  refine z_iload dX12_choose_66 rfl ?_
  have s1 : (0 : Int) ≤ v4 ∧ v4 < (24 : Int) := k1
  refine z_iald rfl s1.1 s1.2 dX12_choose_68 ?_
  refine z_icmp_ge dX12_choose_69 (tgt := 137) (by decide) (fun h1 => ?_) (fun h1 => ?_)
  · skip
    exact J137 (Or.inl h1)
  · skip
    refine z_aload_n dX12_choose_72 rfl rfl ?_
    refine z_getfR (k := 53) flRX12_133 rfl rfl dX12_choose_73 ?_
    refine z_iload dX12_choose_76 rfl ?_
    refine z_iald rfl s1.1 s1.2 dX12_choose_78 ?_
    refine z_iconst dX12_choose_79 (by unfold zIn; decide) ?_
    refine z_icmp_ne dX12_choose_80 (tgt := 137) (by decide) (fun h2 => ?_) (fun h2 => ?_)
    · skip
      exact J137 (Or.inr ⟨h1, h2⟩)
    · skip
      refine z_aload_n dX12_choose_83 rfl rfl ?_
      refine z_getfR (k := 51) flRX12_127 rfl rfl dX12_choose_84 ?_
      refine z_bipush (x := 80) dX12_choose_87 (by decide +kernel) (by unfold zIn; decide) ?_
      refine z_iload dX12_choose_89 rfl ?_
      have s2 : -2147483648 ≤ 80 * v4 ∧ 80 * v4 < (2147483648 : Int) := k2 h1 h2
      refine z_imulN dX12_choose_91 s2 ?_
      refine z_iload dX12_choose_92 rfl ?_
      have s3 : -2147483648 ≤ (80 * v4) + v5 ∧ (80 * v4) + v5 < (2147483648 : Int) := k3 h1 h2
      refine z_iaddN dX12_choose_94 s3 ?_
      have s4 : (0 : Int) ≤ (80 * v4) + v5 ∧ (80 * v4) + v5 < (1920 : Int) := k4 h1 h2
      refine z_iald rfl s4.1 s4.2 dX12_choose_95 ?_
      refine z_istore (ls' := [zr 98, zi v1, zi v2, zi v3, zi v4, zi v5, zi (σ 136 ((80 * v4) + v5))]) dX12_choose_96 (by decide) rfl ?_
      refine z_iload dX12_choose_98 rfl ?_
      refine z_if_lt dX12_choose_100 (tgt := 131) (by decide) (fun h3 => ?_) (fun h3 => ?_)
      · skip
        exact J131 h1 h2 (Or.inl h3)
      · skip
        refine z_iload dX12_choose_103 rfl ?_
        refine z_aload_n dX12_choose_105 rfl rfl ?_
        refine z_getfI (k := 9) flRX12_499 rfl rfl dX12_choose_106 ?_
        refine z_icmp_ge dX12_choose_109 (tgt := 131) (by decide) (fun h4 => ?_) (fun h4 => ?_)
        · skip
          exact J131 h1 h2 (Or.inr ⟨h3, h4⟩)
        · skip
          refine z_aload_n dX12_choose_112 rfl rfl ?_
          refine z_iload dX12_choose_113 rfl ?_
          refine z_callv (as := [zi (σ 136 ((80 * v4) + v5))]) (st := []) mkX12_whoHas lkRX12_502 rfl rfl rfl (by decide) (Nat.le_of_ble_eq_true rfl) rfl dX12_choose_115 (k5 h1 h2 h3 h4)
set_option maxRecDepth 20000 in
set_option maxHeartbeats 1000000 in
theorem TX12_choose_118 {G : zG} {σ : zS} {Q : Int → zS → Prop} {v1 v2 v3 v4 v5 v6 r : Int}  (k1 : (r = (-1)) → (0 : Int) ≤ v4 ∧ v4 < (24 : Int)) (k2 : (r ≠ (-1)) → -2147483648 ≤ v5 + 1 ∧ v5 + 1 < (2147483648 : Int)) (k3 : (r ≠ (-1)) → zR G MX12_choose 60 [zr 98, zi v1, zi v2, zi v3, zi v4, zi (v5 + 1), zu] [] σ Q) (k4 : (r = (-1)) → -2147483648 ≤ v5 + 1 ∧ v5 + 1 < (2147483648 : Int)) (k5 : (r = (-1)) → zR G MX12_choose 60 [zr 98, zi v1, zi v2, zi v3, zi v4, zi (v5 + 1), zu] [] (zup σ 138 v4 v6) Q) : zR G MX12_choose 118 [zr 98, zi v1, zi v2, zi v3, zi v4, zi v5, zi v6] [zi r] σ Q := by
  have J131_1 : (r = (-1)) → zR G MX12_choose 131 [zr 98, zi v1, zi v2, zi v3, zi v4, zi v5, zi v6] [] (zup σ 138 v4 v6) Q := by
    intro h1
    have s4 : -2147483648 ≤ v5 + 1 ∧ v5 + 1 < (2147483648 : Int) := k4 h1
    refine z_iincN (ls' := [zr 98, zi v1, zi v2, zi v3, zi v4, zi (v5 + 1), zi v6]) dX12_choose_131 rfl (by decide) s4 rfl ?_
    refine z_goto dX12_choose_134 (tgt := 60) (by decide) ?_
    exact zR_fg [false, false, false, false, false, false, true] (k5 h1)
  have J131 : (r ≠ (-1)) → zR G MX12_choose 131 [zr 98, zi v1, zi v2, zi v3, zi v4, zi v5, zi v6] [] σ Q := by
    intro h1
    have s2 : -2147483648 ≤ v5 + 1 ∧ v5 + 1 < (2147483648 : Int) := k2 h1
    refine z_iincN (ls' := [zr 98, zi v1, zi v2, zi v3, zi v4, zi (v5 + 1), zi v6]) dX12_choose_131 rfl (by decide) s2 rfl ?_
    refine z_goto dX12_choose_134 (tgt := 60) (by decide) ?_
    exact zR_fg [false, false, false, false, false, false, true] (k3 h1)
  refine z_iconst dX12_choose_118 (by unfold zIn; decide) ?_
  refine z_icmp_ne dX12_choose_119 (tgt := 131) (by decide) (fun h1 => ?_) (fun h1 => ?_)
  · skip
    exact J131 h1
  · skip
    refine z_aload_n dX12_choose_122 rfl rfl ?_
    refine z_getfR (k := 53) flRX12_133 rfl rfl dX12_choose_123 ?_
    refine z_iload dX12_choose_126 rfl ?_
    refine z_iload dX12_choose_128 rfl ?_
    have s1 : (0 : Int) ≤ v4 ∧ v4 < (24 : Int) := k1 h1
    refine z_iast rfl s1.1 s1.2 dX12_choose_130 ?_
    exact J131_1 h1
set_option maxRecDepth 20000 in
set_option maxHeartbeats 1000000 in
theorem TX12_pointed {G : zG} {σ : zS} {Q : Int → zS → Prop} {a1 : Int}  (k1 : zR G MX12_pointed 2 [zr 98, zi a1, zi 0, zu, zu] [] σ Q) : zO G MX12_pointed [zr 98, zi a1] σ Q := by
  refine zO_of (ls0 := [zr 98, zi a1, zu, zu, zu]) (by decide) (Nat.le_of_ble_eq_true rfl) rfl ?_
  refine z_iconst dX12_pointed_0 (by unfold zIn; decide) ?_
  refine z_istore_n (ls' := [zr 98, zi a1, zi 0, zu, zu]) dX12_pointed_1 rfl (by decide) rfl ?_
  exact k1
set_option maxRecDepth 20000 in
set_option maxHeartbeats 1000000 in
theorem TX12_pointed_2 {G : zG} {σ : zS} {Q : Int → zS → Prop} {v1 v2 : Int}  (k1 : (0 : Int) ≤ v1 ∧ v1 < (24 : Int)) (k2 : (σ 137 v1 ≤ v2) → Q v1 σ) (k3 : (v2 < σ 137 v1) → -2147483648 ≤ 80 * v1 ∧ 80 * v1 < (2147483648 : Int)) (k4 : (v2 < σ 137 v1) → -2147483648 ≤ (80 * v1) + v2 ∧ (80 * v1) + v2 < (2147483648 : Int)) (k5 : (v2 < σ 137 v1) → (0 : Int) ≤ (80 * v1) + v2 ∧ (80 * v1) + v2 < (1920 : Int)) (k6 : (v2 < σ 137 v1) → zR G MX12_pointed 27 [zr 98, zi v1, zi v2, zi (σ 136 ((80 * v1) + v2)), zi 0] [] σ Q) : zR G MX12_pointed 2 [zr 98, zi v1, zi v2, zu, zu] [] σ Q := by
  refine z_iload_n dX12_pointed_2 rfl rfl ?_
  refine z_aload_n dX12_pointed_3 rfl rfl ?_
  refine z_getfR (k := 52) flRX12_130 rfl rfl dX12_pointed_4 ?_
  refine z_iload_n dX12_pointed_7 rfl rfl ?_
  have s1 : (0 : Int) ≤ v1 ∧ v1 < (24 : Int) := k1
  refine z_iald rfl s1.1 s1.2 dX12_pointed_8 ?_
  refine z_icmp_ge dX12_pointed_9 (tgt := 72) (by decide) (fun h1 => ?_) (fun h1 => ?_)
  · skip
    refine z_iload_n dX12_pointed_72 rfl rfl ?_
    exact z_ireti rfl dX12_pointed_73 (k2 h1)
  · skip
    refine z_aload_n dX12_pointed_12 rfl rfl ?_
    refine z_getfR (k := 51) flRX12_127 rfl rfl dX12_pointed_13 ?_
    refine z_bipush (x := 80) dX12_pointed_16 (by decide +kernel) (by unfold zIn; decide) ?_
    refine z_iload_n dX12_pointed_18 rfl rfl ?_
    have s3 : -2147483648 ≤ 80 * v1 ∧ 80 * v1 < (2147483648 : Int) := k3 h1
    refine z_imulN dX12_pointed_19 s3 ?_
    refine z_iload_n dX12_pointed_20 rfl rfl ?_
    have s4 : -2147483648 ≤ (80 * v1) + v2 ∧ (80 * v1) + v2 < (2147483648 : Int) := k4 h1
    refine z_iaddN dX12_pointed_21 s4 ?_
    have s5 : (0 : Int) ≤ (80 * v1) + v2 ∧ (80 * v1) + v2 < (1920 : Int) := k5 h1
    refine z_iald rfl s5.1 s5.2 dX12_pointed_22 ?_
    refine z_istore_n (ls' := [zr 98, zi v1, zi v2, zi (σ 136 ((80 * v1) + v2)), zu]) dX12_pointed_23 rfl (by decide) rfl ?_
    refine z_iconst dX12_pointed_24 (by unfold zIn; decide) ?_
    refine z_istore (ls' := [zr 98, zi v1, zi v2, zi (σ 136 ((80 * v1) + v2)), zi 0]) dX12_pointed_25 (by decide) rfl ?_
    exact k6 h1
set_option maxRecDepth 20000 in
set_option maxHeartbeats 1000000 in
theorem TX12_pointed_27 {G : zG} {σ : zS} {Q : Int → zS → Prop} {v1 v2 v3 v4 : Int}  (k1 : (σ 98 1 ≤ v4) → -2147483648 ≤ v2 + 1 ∧ v2 + 1 < (2147483648 : Int)) (k2 : (σ 98 1 ≤ v4) → zR G MX12_pointed 2 [zr 98, zi v1, zi (v2 + 1), zu, zu] [] σ Q) (k3 : (v4 < σ 98 1) → (0 : Int) ≤ v4 ∧ v4 < (24 : Int)) (k4 : (v4 < σ 98 1) → (σ 178 v4 ≠ 0) → (σ 176 v4 = v3) → Q v4 σ) (k5 : (v4 < σ 98 1) → (σ 178 v4 = 0 ∨ (σ 178 v4 ≠ 0 ∧ σ 176 v4 ≠ v3)) → -2147483648 ≤ v4 + 1 ∧ v4 + 1 < (2147483648 : Int)) (k6 : (v4 < σ 98 1) → (σ 178 v4 = 0 ∨ (σ 178 v4 ≠ 0 ∧ σ 176 v4 ≠ v3)) → zR G MX12_pointed 27 [zr 98, zi v1, zi v2, zi v3, zi (v4 + 1)] [] σ Q) : zR G MX12_pointed 27 [zr 98, zi v1, zi v2, zi v3, zi v4] [] σ Q := by
  have J60 : (v4 < σ 98 1) → (σ 178 v4 = 0 ∨ (σ 178 v4 ≠ 0 ∧ σ 176 v4 ≠ v3)) → zR G MX12_pointed 60 [zr 98, zi v1, zi v2, zi v3, zi v4] [] σ Q := by
    intro h1 h4
    have s5 : -2147483648 ≤ v4 + 1 ∧ v4 + 1 < (2147483648 : Int) := k5 h1 h4
    refine z_iincN (ls' := [zr 98, zi v1, zi v2, zi v3, zi (v4 + 1)]) dX12_pointed_60 rfl (by decide) s5 rfl ?_
    refine z_goto dX12_pointed_63 (tgt := 27) (by decide) ?_
    exact k6 h1 h4
  refine z_iload dX12_pointed_27 rfl ?_
  refine z_aload_n dX12_pointed_29 rfl rfl ?_
  refine z_getfI (k := 1) flRX12_256 rfl rfl dX12_pointed_30 ?_
  refine z_icmp_ge dX12_pointed_33 (tgt := 66) (by decide) (fun h1 => ?_) (fun h1 => ?_)
  · skip
    have s1 : -2147483648 ≤ v2 + 1 ∧ v2 + 1 < (2147483648 : Int) := k1 h1
    refine z_iincN (ls' := [zr 98, zi v1, zi (v2 + 1), zi v3, zi v4]) dX12_pointed_66 rfl (by decide) s1 rfl ?_
    refine z_goto dX12_pointed_69 (tgt := 2) (by decide) ?_
    exact zR_fg [false, false, false, true, true] (k2 h1)
  · skip
    refine z_aload_n dX12_pointed_36 rfl rfl ?_
    refine z_getfR (k := 108) flRX12_253 rfl rfl dX12_pointed_37 ?_
    refine z_iload dX12_pointed_40 rfl ?_
    have s3 : (0 : Int) ≤ v4 ∧ v4 < (24 : Int) := k3 h1
    refine z_bald rfl s3.1 s3.2 dX12_pointed_42 ?_
    refine z_if_eq dX12_pointed_43 (tgt := 60) (by decide) (fun h2 => ?_) (fun h2 => ?_)
    · skip
      exact J60 h1 (Or.inl h2)
    · skip
      refine z_aload_n dX12_pointed_46 rfl rfl ?_
      refine z_getfR (k := 106) flRX12_247 rfl rfl dX12_pointed_47 ?_
      refine z_iload dX12_pointed_50 rfl ?_
      refine z_iald rfl s3.1 s3.2 dX12_pointed_52 ?_
      refine z_iload_n dX12_pointed_53 rfl rfl ?_
      refine z_icmp_ne dX12_pointed_54 (tgt := 60) (by decide) (fun h3 => ?_) (fun h3 => ?_)
      · skip
        exact J60 h1 (Or.inr ⟨h2, h3⟩)
      · skip
        refine z_iload dX12_pointed_57 rfl ?_
        exact z_ireti rfl dX12_pointed_59 (k4 h1 h2 h3)
set_option maxRecDepth 20000 in
set_option maxHeartbeats 1000000 in
theorem TX12_exchange {G : zG} {σ : zS} {Q : Int → zS → Prop}  (k1 : zR G MX12_exchange 4 [zr 98, zi 0, zi 0, zu, zu] [] σ Q) : zO G MX12_exchange [zr 98] σ Q := by
  refine zO_of (ls0 := [zr 98, zu, zu, zu, zu]) (by decide) (Nat.le_of_ble_eq_true rfl) rfl ?_
  refine z_iconst dX12_exchange_0 (by unfold zIn; decide) ?_
  refine z_istore_n (ls' := [zr 98, zi 0, zu, zu, zu]) dX12_exchange_1 rfl (by decide) rfl ?_
  refine z_iconst dX12_exchange_2 (by unfold zIn; decide) ?_
  refine z_istore_n (ls' := [zr 98, zi 0, zi 0, zu, zu]) dX12_exchange_3 rfl (by decide) rfl ?_
  exact k1
set_option maxRecDepth 20000 in
set_option maxHeartbeats 1000000 in
theorem TX12_exchange_4 {G : zG} {σ : zS} {Q : Int → zS → Prop} {v1 v2 : Int}  (k1 : (σ 98 1 ≤ v2) → zR G MX12_exchange 63 [zr 98, zi v1, zi v2, zu, zu] [] σ Q) (k2 : (v2 < σ 98 1) → (0 : Int) ≤ v2 ∧ v2 < (24 : Int)) (k3 : (v2 < σ 98 1) → (σ 138 v2 ≠ (-1)) → -2147483648 ≤ v1 + 1 ∧ v1 + 1 < (2147483648 : Int)) (k4 : (v2 < σ 98 1) → (σ 138 v2 = (-1)) → -2147483648 ≤ v2 + 1 ∧ v2 + 1 < (2147483648 : Int)) (k5 : (v2 < σ 98 1) → (σ 138 v2 = (-1)) → zR G MX12_exchange 4 [zr 98, zi v1, zi (v2 + 1), zu, zu] [] (zup (zup σ 176 v2 (σ 138 v2)) 178 v2 0) Q) (k6 : (v2 < σ 98 1) → (σ 138 v2 ≠ (-1)) → -2147483648 ≤ v2 + 1 ∧ v2 + 1 < (2147483648 : Int)) (k7 : (v2 < σ 98 1) → (σ 138 v2 ≠ (-1)) → zR G MX12_exchange 4 [zr 98, zi (v1 + 1), zi (v2 + 1), zu, zu] [] (zup (zup σ 176 v2 (σ 138 v2)) 178 v2 1) Q) : zR G MX12_exchange 4 [zr 98, zi v1, zi v2, zu, zu] [] σ Q := by
  have J57_1 : (v2 < σ 98 1) → (σ 138 v2 ≠ (-1)) → zR G MX12_exchange 57 [zr 98, zi (v1 + 1), zi v2, zu, zu] [] (zup (zup σ 176 v2 (σ 138 v2)) 178 v2 1) Q := by
    intro h1 h2
    have s6 : -2147483648 ≤ v2 + 1 ∧ v2 + 1 < (2147483648 : Int) := k6 h1 h2
    refine z_iincN (ls' := [zr 98, zi (v1 + 1), zi (v2 + 1), zu, zu]) dX12_exchange_57 rfl (by decide) s6 rfl ?_
    refine z_goto dX12_exchange_60 (tgt := 4) (by decide) ?_
    exact k7 h1 h2
  have J57 : (v2 < σ 98 1) → (σ 138 v2 = (-1)) → zR G MX12_exchange 57 [zr 98, zi v1, zi v2, zu, zu] [] (zup (zup σ 176 v2 (σ 138 v2)) 178 v2 0) Q := by
    intro h1 h2
    have s4 : -2147483648 ≤ v2 + 1 ∧ v2 + 1 < (2147483648 : Int) := k4 h1 h2
    refine z_iincN (ls' := [zr 98, zi v1, zi (v2 + 1), zu, zu]) dX12_exchange_57 rfl (by decide) s4 rfl ?_
    refine z_goto dX12_exchange_60 (tgt := 4) (by decide) ?_
    exact k5 h1 h2
  refine z_iload_n dX12_exchange_4 rfl rfl ?_
  refine z_aload_n dX12_exchange_5 rfl rfl ?_
  refine z_getfI (k := 1) flRX12_256 rfl rfl dX12_exchange_6 ?_
  refine z_icmp_ge dX12_exchange_9 (tgt := 63) (by decide) (fun h1 => ?_) (fun h1 => ?_)
  · skip
    exact k1 h1
  · skip
    refine z_aload_n dX12_exchange_12 rfl rfl ?_
    refine z_getfR (k := 106) flRX12_247 rfl rfl dX12_exchange_13 ?_
    refine z_iload_n dX12_exchange_16 rfl rfl ?_
    refine z_aload_n dX12_exchange_17 rfl rfl ?_
    refine z_getfR (k := 53) flRX12_133 rfl rfl dX12_exchange_18 ?_
    refine z_iload_n dX12_exchange_21 rfl rfl ?_
    have s2 : (0 : Int) ≤ v2 ∧ v2 < (24 : Int) := k2 h1
    refine z_iald rfl s2.1 s2.2 dX12_exchange_22 ?_
    refine z_iast rfl s2.1 s2.2 dX12_exchange_23 ?_
    refine z_aload_n dX12_exchange_24 rfl rfl ?_
    refine z_getfR (k := 108) flRX12_253 rfl rfl dX12_exchange_25 ?_
    refine z_iload_n dX12_exchange_28 rfl rfl ?_
    refine z_aload_n dX12_exchange_29 rfl rfl ?_
    refine z_getfR (k := 53) flRX12_133 rfl rfl dX12_exchange_30 ?_
    refine z_iload_n dX12_exchange_33 rfl rfl ?_
    refine z_ialdE (v := σ 138 v2) rfl s2.1 s2.2 (zup_of (by decide)) dX12_exchange_34 ?_
    refine z_iconst dX12_exchange_35 (by unfold zIn; decide) ?_
    refine z_icmp_eq dX12_exchange_36 (tgt := 43) (by decide) (fun h2 => ?_) (fun h2 => ?_)
    · skip
      refine z_iconst dX12_exchange_43 (by unfold zIn; decide) ?_
      refine z_bast rfl s2.1 s2.2 (by decide) dX12_exchange_44 ?_
      refine z_aload_n dX12_exchange_45 rfl rfl ?_
      refine z_getfR (k := 108) flRX12_253 rfl rfl dX12_exchange_46 ?_
      refine z_iload_n dX12_exchange_49 rfl rfl ?_
      refine z_baldE (v := 0) rfl s2.1 s2.2 (zup_same) dX12_exchange_50 ?_
      refine z_if_eq dX12_exchange_51 (tgt := 57) (by decide) (fun z => ?_) (fun z => absurd z (by decide))
      exact J57 h1 h2
    · skip
      refine z_iconst dX12_exchange_39 (by unfold zIn; decide) ?_
      refine z_goto dX12_exchange_40 (tgt := 44) (by decide) ?_
      refine z_bast rfl s2.1 s2.2 (by decide) dX12_exchange_44 ?_
      refine z_aload_n dX12_exchange_45 rfl rfl ?_
      refine z_getfR (k := 108) flRX12_253 rfl rfl dX12_exchange_46 ?_
      refine z_iload_n dX12_exchange_49 rfl rfl ?_
      refine z_baldE (v := 1) rfl s2.1 s2.2 (zup_same) dX12_exchange_50 ?_
      refine z_if_eq dX12_exchange_51 (tgt := 57) (by decide) (fun z => absurd z (by decide)) (fun z => ?_)
      have s3 : -2147483648 ≤ v1 + 1 ∧ v1 + 1 < (2147483648 : Int) := k3 h1 h2
      refine z_iincN (ls' := [zr 98, zi (v1 + 1), zi v2, zu, zu]) dX12_exchange_54 rfl (by decide) s3 rfl ?_
      exact J57_1 h1 h2
set_option maxRecDepth 20000 in
set_option maxHeartbeats 1000000 in
theorem TX12_exchange_63 {G : zG} {σ : zS} {Q : Int → zS → Prop} {v1 v2 : Int}  (k1 : (v1 ≤ 0) → zR G MX12_exchange 209 [zr 98, zi v1, zi 0, zi 0, zu] [] σ Q) (k2 : (0 < v1) → zR G MX12_exchange 69 [zr 98, zi v1, zi 0, zu, zu] [] σ Q) : zR G MX12_exchange 63 [zr 98, zi v1, zi v2, zu, zu] [] σ Q := by
  refine z_iload_n dX12_exchange_63 rfl rfl ?_
  refine z_if_le dX12_exchange_64 (tgt := 205) (by decide) (fun h1 => ?_) (fun h1 => ?_)
  · skip
    refine z_iconst dX12_exchange_205 (by unfold zIn; decide) ?_
    refine z_istore_n (ls' := [zr 98, zi v1, zi 0, zu, zu]) dX12_exchange_206 rfl (by decide) rfl ?_
    refine z_iconst dX12_exchange_207 (by unfold zIn; decide) ?_
    refine z_istore_n (ls' := [zr 98, zi v1, zi 0, zi 0, zu]) dX12_exchange_208 rfl (by decide) rfl ?_
    exact k1 h1
  · skip
    refine z_iconst dX12_exchange_67 (by unfold zIn; decide) ?_
    refine z_istore_n (ls' := [zr 98, zi v1, zi 0, zu, zu]) dX12_exchange_68 rfl (by decide) rfl ?_
    exact k2 h1
set_option maxRecDepth 20000 in
set_option maxHeartbeats 1000000 in
theorem TX12_exchange_69 {G : zG} {σ : zS} {Q : Int → zS → Prop} {v1 v2 : Int}  (k1 : (σ 98 1 ≤ v2) → zR G MX12_exchange 105 [zr 98, zi v1, zi 0, zu, zu] [] σ Q) (k2 : (v2 < σ 98 1) → (0 : Int) ≤ v2 ∧ v2 < (24 : Int)) (k3 : (v2 < σ 98 1) → (σ 178 v2 ≠ 0) → zO G MX12_pointed [zr 98, zi v2] σ (fun rr σ' => zR G MX12_exchange 96 [zr 98, zi v1, zi v2, zu, zu] [zi rr, zi v2, zr 177] σ' Q)) (k4 : (v2 < σ 98 1) → (σ 178 v2 = 0) → -2147483648 ≤ v2 + 1 ∧ v2 + 1 < (2147483648 : Int)) (k5 : (v2 < σ 98 1) → (σ 178 v2 = 0) → zR G MX12_exchange 69 [zr 98, zi v1, zi (v2 + 1), zu, zu] [] σ Q) : zR G MX12_exchange 69 [zr 98, zi v1, zi v2, zu, zu] [] σ Q := by
  have J97 : (v2 < σ 98 1) → (σ 178 v2 = 0) → zR G MX12_exchange 97 [zr 98, zi v1, zi v2, zu, zu] [] σ Q := by
    intro h1 h2
    have s4 : -2147483648 ≤ v2 + 1 ∧ v2 + 1 < (2147483648 : Int) := k4 h1 h2
    refine z_iincN (ls' := [zr 98, zi v1, zi (v2 + 1), zu, zu]) dX12_exchange_97 rfl (by decide) s4 rfl ?_
    refine z_goto dX12_exchange_100 (tgt := 69) (by decide) ?_
    exact k5 h1 h2
  refine z_iload_n dX12_exchange_69 rfl rfl ?_
  refine z_aload_n dX12_exchange_70 rfl rfl ?_
  refine z_getfI (k := 1) flRX12_256 rfl rfl dX12_exchange_71 ?_
  refine z_icmp_ge dX12_exchange_74 (tgt := 103) (by decide) (fun h1 => ?_) (fun h1 => ?_)
  · skip
    refine z_iconst dX12_exchange_103 (by unfold zIn; decide) ?_
    refine z_istore_n (ls' := [zr 98, zi v1, zi 0, zu, zu]) dX12_exchange_104 rfl (by decide) rfl ?_
    exact k1 h1
  · skip
    refine z_aload_n dX12_exchange_77 rfl rfl ?_
    refine z_getfR (k := 108) flRX12_253 rfl rfl dX12_exchange_78 ?_
    refine z_iload_n dX12_exchange_81 rfl rfl ?_
    have s2 : (0 : Int) ≤ v2 ∧ v2 < (24 : Int) := k2 h1
    refine z_bald rfl s2.1 s2.2 dX12_exchange_82 ?_
    refine z_if_eq dX12_exchange_83 (tgt := 97) (by decide) (fun h2 => ?_) (fun h2 => ?_)
    · skip
      exact J97 h1 h2
    · skip
      refine z_aload_n dX12_exchange_86 rfl rfl ?_
      refine z_getfR (k := 107) flRX12_250 rfl rfl dX12_exchange_87 ?_
      refine z_iload_n dX12_exchange_90 rfl rfl ?_
      refine z_aload_n dX12_exchange_91 rfl rfl ?_
      refine z_iload_n dX12_exchange_92 rfl rfl ?_
      refine z_callv (as := [zi v2]) (st := [zi v2, zr 177]) mkX12_pointed lkRX12_505 rfl rfl rfl (by decide) (Nat.le_of_ble_eq_true rfl) rfl dX12_exchange_93 (k3 h1 h2)
set_option maxRecDepth 20000 in
set_option maxHeartbeats 1000000 in
theorem TX12_exchange_96 {G : zG} {σ : zS} {Q : Int → zS → Prop} {v1 v2 r t1 : Int}  (k1 : (0 : Int) ≤ t1 ∧ t1 < (24 : Int)) (k2 : -2147483648 ≤ v2 + 1 ∧ v2 + 1 < (2147483648 : Int)) (k3 : zR G MX12_exchange 69 [zr 98, zi v1, zi (v2 + 1), zu, zu] [] (zup σ 177 t1 r) Q) : zR G MX12_exchange 96 [zr 98, zi v1, zi v2, zu, zu] [zi r, zi t1, zr 177] σ Q := by
  have J97 : zR G MX12_exchange 97 [zr 98, zi v1, zi v2, zu, zu] [] (zup σ 177 t1 r) Q := by
    have s2 : -2147483648 ≤ v2 + 1 ∧ v2 + 1 < (2147483648 : Int) := k2
    refine z_iincN (ls' := [zr 98, zi v1, zi (v2 + 1), zu, zu]) dX12_exchange_97 rfl (by decide) s2 rfl ?_
    refine z_goto dX12_exchange_100 (tgt := 69) (by decide) ?_
    exact k3
  have s1 : (0 : Int) ≤ t1 ∧ t1 < (24 : Int) := k1
  refine z_iast rfl s1.1 s1.2 dX12_exchange_96 ?_
  exact J97
set_option maxRecDepth 20000 in
set_option maxHeartbeats 1000000 in
theorem TX12_exchange_105 {G : zG} {σ : zS} {Q : Int → zS → Prop} {v1 v2 : Int}  (k1 : (0 : Int) ≤ v2 ∧ v2 < (24 : Int)) (k2 : (σ 178 v2 ≠ 0) → zR G MX12_exchange 122 [zr 98, zi v1, zi v2, zi 0, zu] [] σ Q) (k3 : (σ 178 v2 = 0) → -2147483648 ≤ v2 + 1 ∧ v2 + 1 < (2147483648 : Int)) (k4 : (σ 178 v2 = 0) → zR G MX12_exchange 105 [zr 98, zi v1, zi (v2 + 1), zu, zu] [] σ Q) : zR G MX12_exchange 105 [zr 98, zi v1, zi v2, zu, zu] [] σ Q := by
  refine z_aload_n dX12_exchange_105 rfl rfl ?_
  refine z_getfR (k := 108) flRX12_253 rfl rfl dX12_exchange_106 ?_
  refine z_iload_n dX12_exchange_109 rfl rfl ?_
  have s1 : (0 : Int) ≤ v2 ∧ v2 < (24 : Int) := k1
  refine z_bald rfl s1.1 s1.2 dX12_exchange_110 ?_
  refine z_if_ne dX12_exchange_111 (tgt := 120) (by decide) (fun h1 => ?_) (fun h1 => ?_)
  · skip
    refine z_iconst dX12_exchange_120 (by unfold zIn; decide) ?_
    refine z_istore_n (ls' := [zr 98, zi v1, zi v2, zi 0, zu]) dX12_exchange_121 rfl (by decide) rfl ?_
    exact k2 h1
  · skip
    have s3 : -2147483648 ≤ v2 + 1 ∧ v2 + 1 < (2147483648 : Int) := k3 h1
    refine z_iincN (ls' := [zr 98, zi v1, zi (v2 + 1), zu, zu]) dX12_exchange_114 rfl (by decide) s3 rfl ?_
    refine z_goto dX12_exchange_117 (tgt := 105) (by decide) ?_
    exact k4 h1
set_option maxRecDepth 20000 in
set_option maxHeartbeats 1000000 in
theorem TX12_exchange_122 {G : zG} {σ : zS} {Q : Int → zS → Prop} {v1 v2 v3 : Int}  (k1 : (σ 98 1 ≤ v3) → zR G MX12_exchange 148 [zr 98, zi v1, zi v2, zi v2, zi 1] [] σ Q) (k2 : (v3 < σ 98 1) → (0 : Int) ≤ v2 ∧ v2 < (24 : Int)) (k3 : (v3 < σ 98 1) → -2147483648 ≤ v3 + 1 ∧ v3 + 1 < (2147483648 : Int)) (k4 : (v3 < σ 98 1) → zR G MX12_exchange 122 [zr 98, zi v1, zi (σ 177 v2), zi (v3 + 1), zu] [] σ Q) : zR G MX12_exchange 122 [zr 98, zi v1, zi v2, zi v3, zu] [] σ Q := by
  refine z_iload_n dX12_exchange_122 rfl rfl ?_
  refine z_aload_n dX12_exchange_123 rfl rfl ?_
  refine z_getfI (k := 1) flRX12_256 rfl rfl dX12_exchange_124 ?_
  refine z_icmp_ge dX12_exchange_127 (tgt := 143) (by decide) (fun h1 => ?_) (fun h1 => ?_)
  · skip
    refine z_iload_n dX12_exchange_143 rfl rfl ?_
    refine z_istore_n (ls' := [zr 98, zi v1, zi v2, zi v2, zu]) dX12_exchange_144 rfl (by decide) rfl ?_
    refine z_iconst dX12_exchange_145 (by unfold zIn; decide) ?_
    refine z_istore (ls' := [zr 98, zi v1, zi v2, zi v2, zi 1]) dX12_exchange_146 (by decide) rfl ?_
    exact k1 h1
  · skip
    refine z_aload_n dX12_exchange_130 rfl rfl ?_
    refine z_getfR (k := 107) flRX12_250 rfl rfl dX12_exchange_131 ?_
    refine z_iload_n dX12_exchange_134 rfl rfl ?_
    have s2 : (0 : Int) ≤ v2 ∧ v2 < (24 : Int) := k2 h1
    refine z_iald rfl s2.1 s2.2 dX12_exchange_135 ?_
    refine z_istore_n (ls' := [zr 98, zi v1, zi (σ 177 v2), zi v3, zu]) dX12_exchange_136 rfl (by decide) rfl ?_
    have s3 : -2147483648 ≤ v3 + 1 ∧ v3 + 1 < (2147483648 : Int) := k3 h1
    refine z_iincN (ls' := [zr 98, zi v1, zi (σ 177 v2), zi (v3 + 1), zu]) dX12_exchange_137 rfl (by decide) s3 rfl ?_
    refine z_goto dX12_exchange_140 (tgt := 122) (by decide) ?_
    exact k4 h1
set_option maxRecDepth 20000 in
set_option maxHeartbeats 1000000 in
theorem TX12_exchange_148 {G : zG} {σ : zS} {Q : Int → zS → Prop} {v1 v2 v3 v4 : Int}  (k1 : (v4 = 0) → zR G MX12_exchange 63 [zr 98, zi v1, zi v2, zu, zu] [] σ Q) (k2 : (v4 ≠ 0) → (0 : Int) ≤ v3 ∧ v3 < (24 : Int)) (k3 : (v4 ≠ 0) → (0 : Int) ≤ σ 177 v3 ∧ σ 177 v3 < (24 : Int)) (k4 : (v4 ≠ 0) → -2147483648 ≤ v1 + (-1) ∧ v1 + (-1) < (2147483648 : Int)) (k5 : (v4 ≠ 0) → (σ 177 v3 = v2) → zR G MX12_exchange 148 [zr 98, zi (v1 + (-1)), zi v2, zi (σ 177 v3), zi 0] [] (zup (zup σ 138 v3 (σ 176 (σ 177 v3))) 178 v3 0) Q) (k6 : (v4 ≠ 0) → (σ 177 v3 ≠ v2) → zR G MX12_exchange 148 [zr 98, zi (v1 + (-1)), zi v2, zi (σ 177 v3), zi 1] [] (zup (zup σ 138 v3 (σ 176 (σ 177 v3))) 178 v3 0) Q) : zR G MX12_exchange 148 [zr 98, zi v1, zi v2, zi v3, zi v4] [] σ Q := by
  refine z_iload dX12_exchange_148 rfl ?_
  refine z_if_eq dX12_exchange_150 (tgt := 202) (by decide) (fun h1 => ?_) (fun h1 => ?_)
  · skip
    refine z_goto dX12_exchange_202 (tgt := 63) (by decide) ?_
    exact zR_fg [false, false, false, true, true] (k1 h1)
  · skip
    refine z_aload_n dX12_exchange_153 rfl rfl ?_
    refine z_getfR (k := 53) flRX12_133 rfl rfl dX12_exchange_154 ?_
    refine z_iload_n dX12_exchange_157 rfl rfl ?_
    refine z_aload_n dX12_exchange_158 rfl rfl ?_
    refine z_getfR (k := 106) flRX12_247 rfl rfl dX12_exchange_159 ?_
    refine z_aload_n dX12_exchange_162 rfl rfl ?_
    refine z_getfR (k := 107) flRX12_250 rfl rfl dX12_exchange_163 ?_
    refine z_iload_n dX12_exchange_166 rfl rfl ?_
    have s2 : (0 : Int) ≤ v3 ∧ v3 < (24 : Int) := k2 h1
    refine z_iald rfl s2.1 s2.2 dX12_exchange_167 ?_
    have s3 : (0 : Int) ≤ σ 177 v3 ∧ σ 177 v3 < (24 : Int) := k3 h1
    refine z_iald rfl s3.1 s3.2 dX12_exchange_168 ?_
    refine z_iast rfl s2.1 s2.2 dX12_exchange_169 ?_
    refine z_aload_n dX12_exchange_170 rfl rfl ?_
    refine z_getfR (k := 108) flRX12_253 rfl rfl dX12_exchange_171 ?_
    refine z_iload_n dX12_exchange_174 rfl rfl ?_
    refine z_iconst dX12_exchange_175 (by unfold zIn; decide) ?_
    refine z_bast rfl s2.1 s2.2 (by decide) dX12_exchange_176 ?_
    have s4 : -2147483648 ≤ v1 + (-1) ∧ v1 + (-1) < (2147483648 : Int) := k4 h1
    refine z_iincN (ls' := [zr 98, zi (v1 + (-1)), zi v2, zi v3, zi v4]) dX12_exchange_177 rfl (by decide) s4 rfl ?_
    refine z_aload_n dX12_exchange_180 rfl rfl ?_
    refine z_getfR (k := 107) flRX12_250 rfl rfl dX12_exchange_181 ?_
    refine z_iload_n dX12_exchange_184 rfl rfl ?_
    refine z_ialdE (v := σ 177 v3) rfl s2.1 s2.2 ((zup_of (by decide)).trans (zup_of (by decide))) dX12_exchange_185 ?_
    refine z_istore_n (ls' := [zr 98, zi (v1 + (-1)), zi v2, zi (σ 177 v3), zi v4]) dX12_exchange_186 rfl (by decide) rfl ?_
    refine z_iload_n dX12_exchange_187 rfl rfl ?_
    refine z_iload_n dX12_exchange_188 rfl rfl ?_
    refine z_icmp_eq dX12_exchange_189 (tgt := 196) (by decide) (fun h2 => ?_) (fun h2 => ?_)
    · skip
      refine z_iconst dX12_exchange_196 (by unfold zIn; decide) ?_
      refine z_istore (ls' := [zr 98, zi (v1 + (-1)), zi v2, zi (σ 177 v3), zi 0]) dX12_exchange_197 (by decide) rfl ?_
      refine z_goto dX12_exchange_199 (tgt := 148) (by decide) ?_
      exact k5 h1 h2
    · skip
      refine z_iconst dX12_exchange_192 (by unfold zIn; decide) ?_
      refine z_goto dX12_exchange_193 (tgt := 197) (by decide) ?_
      refine z_istore (ls' := [zr 98, zi (v1 + (-1)), zi v2, zi (σ 177 v3), zi 1]) dX12_exchange_197 (by decide) rfl ?_
      refine z_goto dX12_exchange_199 (tgt := 148) (by decide) ?_
      exact k6 h1 h2
set_option maxRecDepth 20000 in
set_option maxHeartbeats 1000000 in
theorem TX12_exchange_209 {G : zG} {σ : zS} {Q : Int → zS → Prop} {v1 v2 v3 : Int}  (k1 : (σ 98 1 ≤ v3) → Q v2 σ) (k2 : (v3 < σ 98 1) → (0 : Int) ≤ v3 ∧ v3 < (24 : Int)) (k3 : (v3 < σ 98 1) → (σ 138 v3 ≠ σ 176 v3) → -2147483648 ≤ v2 + 1 ∧ v2 + 1 < (2147483648 : Int)) (k4 : (v3 < σ 98 1) → (σ 138 v3 = σ 176 v3) → -2147483648 ≤ v3 + 1 ∧ v3 + 1 < (2147483648 : Int)) (k5 : (v3 < σ 98 1) → (σ 138 v3 = σ 176 v3) → zR G MX12_exchange 209 [zr 98, zi v1, zi v2, zi (v3 + 1), zu] [] σ Q) (k6 : (v3 < σ 98 1) → (σ 138 v3 ≠ σ 176 v3) → -2147483648 ≤ v3 + 1 ∧ v3 + 1 < (2147483648 : Int)) (k7 : (v3 < σ 98 1) → (σ 138 v3 ≠ σ 176 v3) → zR G MX12_exchange 209 [zr 98, zi v1, zi (v2 + 1), zi (v3 + 1), zu] [] σ Q) : zR G MX12_exchange 209 [zr 98, zi v1, zi v2, zi v3, zu] [] σ Q := by
  have J235_1 : (v3 < σ 98 1) → (σ 138 v3 ≠ σ 176 v3) → zR G MX12_exchange 235 [zr 98, zi v1, zi (v2 + 1), zi v3, zu] [] σ Q := by
    intro h1 h2
    have s6 : -2147483648 ≤ v3 + 1 ∧ v3 + 1 < (2147483648 : Int) := k6 h1 h2
    refine z_iincN (ls' := [zr 98, zi v1, zi (v2 + 1), zi (v3 + 1), zu]) dX12_exchange_235 rfl (by decide) s6 rfl ?_
    refine z_goto dX12_exchange_238 (tgt := 209) (by decide) ?_
    exact k7 h1 h2
  have J235 : (v3 < σ 98 1) → (σ 138 v3 = σ 176 v3) → zR G MX12_exchange 235 [zr 98, zi v1, zi v2, zi v3, zu] [] σ Q := by
    intro h1 h2
    have s4 : -2147483648 ≤ v3 + 1 ∧ v3 + 1 < (2147483648 : Int) := k4 h1 h2
    refine z_iincN (ls' := [zr 98, zi v1, zi v2, zi (v3 + 1), zu]) dX12_exchange_235 rfl (by decide) s4 rfl ?_
    refine z_goto dX12_exchange_238 (tgt := 209) (by decide) ?_
    exact k5 h1 h2
  refine z_iload_n dX12_exchange_209 rfl rfl ?_
  refine z_aload_n dX12_exchange_210 rfl rfl ?_
  refine z_getfI (k := 1) flRX12_256 rfl rfl dX12_exchange_211 ?_
  refine z_icmp_ge dX12_exchange_214 (tgt := 241) (by decide) (fun h1 => ?_) (fun h1 => ?_)
  · skip
    refine z_iload_n dX12_exchange_241 rfl rfl ?_
    exact z_ireti rfl dX12_exchange_242 (k1 h1)
  · skip
    refine z_aload_n dX12_exchange_217 rfl rfl ?_
    refine z_getfR (k := 53) flRX12_133 rfl rfl dX12_exchange_218 ?_
    refine z_iload_n dX12_exchange_221 rfl rfl ?_
    have s2 : (0 : Int) ≤ v3 ∧ v3 < (24 : Int) := k2 h1
    refine z_iald rfl s2.1 s2.2 dX12_exchange_222 ?_
    refine z_aload_n dX12_exchange_223 rfl rfl ?_
    refine z_getfR (k := 106) flRX12_247 rfl rfl dX12_exchange_224 ?_
    refine z_iload_n dX12_exchange_227 rfl rfl ?_
    refine z_iald rfl s2.1 s2.2 dX12_exchange_228 ?_
    refine z_icmp_eq dX12_exchange_229 (tgt := 235) (by decide) (fun h2 => ?_) (fun h2 => ?_)
    · skip
      exact J235 h1 h2
    · skip
      have s3 : -2147483648 ≤ v2 + 1 ∧ v2 + 1 < (2147483648 : Int) := k3 h1 h2
      refine z_iincN (ls' := [zr 98, zi v1, zi (v2 + 1), zi v3, zu]) dX12_exchange_232 rfl (by decide) s3 rfl ?_
      exact J235_1 h1 h2
set_option maxRecDepth 20000 in
set_option maxHeartbeats 1000000 in
theorem TX12_roomOf {G : zG} {σ : zS} {Q : Int → zS → Prop} {a1 : Int}  (k1 : (¬ ((0 ≤ a1 ∧ a1 < σ 98 1))) → Q (-1) σ) (k2 : ((0 ≤ a1 ∧ a1 < σ 98 1)) → (0 : Int) ≤ a1 ∧ a1 < (24 : Int)) (k3 : ((0 ≤ a1 ∧ a1 < σ 98 1)) → Q (σ 138 a1) σ) : zO G MX12_roomOf [zr 98, zi a1] σ Q := by
  refine zO_of (ls0 := [zr 98, zi a1]) (by decide) (Nat.le_of_ble_eq_true rfl) rfl ?_
  refine z_aload_n dX12_roomOf_0 rfl rfl ?_
  refine z_iload_n dX12_roomOf_1 rfl rfl ?_
  refine z_callv (as := [zi a1]) (st := []) mkX12_isOne lkRX12_271 rfl rfl rfl (by decide) (Nat.le_of_ble_eq_true rfl) rfl dX12_roomOf_2 ?_
  refine SX12_isOne ?_
  show zR G MX12_roomOf 5 [zr 98, zi a1] [zi (if (0 ≤ a1 ∧ a1 < σ 98 1) then (1 : Int) else 0)] σ Q
  refine z_if_eq dX12_roomOf_5 (tgt := 17) (by decide) (fun z => ?_) (fun z => ?_)
  · have h1 : ¬ ((0 ≤ a1 ∧ a1 < σ 98 1)) := zb0 z
    refine z_iconst dX12_roomOf_17 (by unfold zIn; decide) ?_
    exact z_ireti rfl dX12_roomOf_18 (k1 h1)
  · have h1 : (0 ≤ a1 ∧ a1 < σ 98 1) := zb1 z
    refine z_aload_n dX12_roomOf_8 rfl rfl ?_
    refine z_getfR (k := 53) flRX12_133 rfl rfl dX12_roomOf_9 ?_
    refine z_iload_n dX12_roomOf_12 rfl rfl ?_
    have s2 : (0 : Int) ≤ a1 ∧ a1 < (24 : Int) := k2 h1
    refine z_iald rfl s2.1 s2.2 dX12_roomOf_13 ?_
    refine z_goto dX12_roomOf_14 (tgt := 18) (by decide) ?_
    exact z_ireti rfl dX12_roomOf_18 (k3 h1)
set_option maxRecDepth 20000 in
set_option maxHeartbeats 1000000 in
theorem TX12_status {G : zG} {σ : zS} {Q : Int → zS → Prop} {a1 : Int}  (k1 : (10 < a1) → (a1 < 18) → -2147483648 ≤ a1 - 10 ∧ a1 - 10 < (2147483648 : Int)) (k2 : (10 < a1) → (a1 < 18) → (0 : Int) ≤ a1 - 10 ∧ a1 - 10 < (8 : Int)) (k3 : (10 < a1) → (a1 < 18) → Q (σ 157 (a1 - 10)) σ) (k4 : (a1 ≤ 10 ∨ (10 < a1 ∧ 18 ≤ a1)) → (a1 = 0) → Q (σ 98 1) σ) (k5 : (a1 ≤ 10 ∨ (10 < a1 ∧ 18 ≤ a1)) → (a1 = 1) → Q (σ 98 2) σ) (k6 : (a1 ≤ 10 ∨ (10 < a1 ∧ 18 ≤ a1)) → (a1 = 2) → Q (σ 98 3) σ) (k7 : (a1 ≤ 10 ∨ (10 < a1 ∧ 18 ≤ a1)) → (a1 = 3) → Q (σ 98 4) σ) (k8 : (a1 ≤ 10 ∨ (10 < a1 ∧ 18 ≤ a1)) → (a1 = 4) → zR G MX12_status 138 [zr 98, zi a1, zi 0, zi 0] [] σ Q) (k9 : (a1 ≤ 10 ∨ (10 < a1 ∧ 18 ≤ a1)) → (a1 = 5) → Q (σ 98 5) σ) (k10 : (a1 ≤ 10 ∨ (10 < a1 ∧ 18 ≤ a1)) → (a1 = 6) → Q (σ 98 6) σ) (k11 : (a1 ≤ 10 ∨ (10 < a1 ∧ 18 ≤ a1)) → (a1 = 7) → Q (σ 98 7) σ) (k12 : (a1 ≤ 10 ∨ (10 < a1 ∧ 18 ≤ a1)) → (a1 = 8) → Q (σ 98 0) σ) (k13 : (a1 ≤ 10 ∨ (10 < a1 ∧ 18 ≤ a1)) → (a1 = 9) → Q (σ 98 8) σ) (k14 : (a1 ≤ 10 ∨ (10 < a1 ∧ 18 ≤ a1)) → (a1 = 10) → Q (σ 98 9) σ) (k15 : (a1 ≤ 10 ∨ (10 < a1 ∧ 18 ≤ a1)) → (a1 = 18) → Q (σ 98 92) σ) (k16 : (a1 ≤ 10 ∨ (10 < a1 ∧ 18 ≤ a1)) → ((a1 < 0 ∨ 18 < a1) ∨ a1 = 11 ∨ a1 = 12 ∨ a1 = 13 ∨ a1 = 14 ∨ a1 = 15 ∨ a1 = 16 ∨ a1 = 17) → Q (-1) σ) : zO G MX12_status [zr 98, zi a1] σ Q := by
  refine zO_of (ls0 := [zr 98, zi a1, zu, zu]) (by decide) (Nat.le_of_ble_eq_true rfl) rfl ?_
  have J202 : (a1 ≤ 10 ∨ (10 < a1 ∧ 18 ≤ a1)) → ((a1 < 0 ∨ 18 < a1) ∨ a1 = 11 ∨ a1 = 12 ∨ a1 = 13 ∨ a1 = 14 ∨ a1 = 15 ∨ a1 = 16 ∨ a1 = 17) → zR G MX12_status 202 [zr 98, zi a1, zi 0, zu] [] σ Q := by
    intro h3 h5
    refine z_iconst dX12_status_202 (by unfold zIn; decide) ?_
    exact z_ireti rfl dX12_status_203 (k16 h3 h5)
  have J22 : (a1 ≤ 10 ∨ (10 < a1 ∧ 18 ≤ a1)) → zR G MX12_status 22 [zr 98, zi a1, zu, zu] [] σ Q := by
    intro h3
    refine z_iconst dX12_status_22 (by unfold zIn; decide) ?_
    refine z_istore_n (ls' := [zr 98, zi a1, zi 0, zu]) dX12_status_23 rfl (by decide) rfl ?_
    refine z_iload_n dX12_status_24 rfl rfl ?_
    show zR G MX12_status 25 [zr 98, zi a1, zi 0, zu] [zi a1] σ Q
    by_cases h4 : a1 < 0 ∨ 18 < a1
    · refine z_tabOut dX12_status_25 h4 (tgt := 202) (by decide) ?_
      exact J202 h3 (Or.inl h4)
    have h4 : a1 = 0 ∨ a1 = 1 ∨ a1 = 2 ∨ a1 = 3 ∨ a1 = 4 ∨ a1 = 5 ∨ a1 = 6 ∨ a1 = 7 ∨ a1 = 8 ∨ a1 = 9 ∨ a1 = 10 ∨ a1 = 11 ∨ a1 = 12 ∨ a1 = 13 ∨ a1 = 14 ∨ a1 = 15 ∨ a1 = 16 ∨ a1 = 17 ∨ a1 = 18 := by omega
    rcases h4 with h4 | h4 | h4 | h4 | h4 | h4 | h4 | h4 | h4 | h4 | h4 | h4 | h4 | h4 | h4 | h4 | h4 | h4 | h4
    · refine z_tabIn dX12_status_25 (by omega) (by omega) (by rw [h4]; rfl) (tgt := 116) (by decide) ?_
      refine z_aload_n dX12_status_116 rfl rfl ?_
      refine z_getfI (k := 1) flRX12_256 rfl rfl dX12_status_117 ?_
      exact z_ireti rfl dX12_status_120 (k4 h3 h4)
    · refine z_tabIn dX12_status_25 (by omega) (by omega) (by rw [h4]; rfl) (tgt := 121) (by decide) ?_
      refine z_aload_n dX12_status_121 rfl rfl ?_
      refine z_getfI (k := 2) flRX12_279 rfl rfl dX12_status_122 ?_
      exact z_ireti rfl dX12_status_125 (k5 h3 h4)
    · refine z_tabIn dX12_status_25 (by omega) (by omega) (by rw [h4]; rfl) (tgt := 126) (by decide) ?_
      refine z_aload_n dX12_status_126 rfl rfl ?_
      refine z_getfI (k := 3) flRX12_303 rfl rfl dX12_status_127 ?_
      exact z_ireti rfl dX12_status_130 (k6 h3 h4)
    · refine z_tabIn dX12_status_25 (by omega) (by omega) (by rw [h4]; rfl) (tgt := 131) (by decide) ?_
      refine z_aload_n dX12_status_131 rfl rfl ?_
      refine z_getfI (k := 4) flRX12_259 rfl rfl dX12_status_132 ?_
      exact z_ireti rfl dX12_status_135 (k7 h3 h4)
    · refine z_tabIn dX12_status_25 (by omega) (by omega) (by rw [h4]; rfl) (tgt := 136) (by decide) ?_
      refine z_iconst dX12_status_136 (by unfold zIn; decide) ?_
      refine z_istore_n (ls' := [zr 98, zi a1, zi 0, zi 0]) dX12_status_137 rfl (by decide) rfl ?_
      exact k8 h3 h4
    · refine z_tabIn dX12_status_25 (by omega) (by omega) (by rw [h4]; rfl) (tgt := 167) (by decide) ?_
      refine z_aload_n dX12_status_167 rfl rfl ?_
      refine z_getfI (k := 5) flRX12_415 rfl rfl dX12_status_168 ?_
      exact z_ireti rfl dX12_status_171 (k9 h3 h4)
    · refine z_tabIn dX12_status_25 (by omega) (by omega) (by rw [h4]; rfl) (tgt := 172) (by decide) ?_
      refine z_aload_n dX12_status_172 rfl rfl ?_
      refine z_getfI (k := 6) flRX12_428 rfl rfl dX12_status_173 ?_
      exact z_ireti rfl dX12_status_176 (k10 h3 h4)
    · refine z_tabIn dX12_status_25 (by omega) (by omega) (by rw [h4]; rfl) (tgt := 177) (by decide) ?_
      refine z_aload_n dX12_status_177 rfl rfl ?_
      refine z_getfI (k := 7) flRX12_447 rfl rfl dX12_status_178 ?_
      exact z_ireti rfl dX12_status_181 (k11 h3 h4)
    · refine z_tabIn dX12_status_25 (by omega) (by omega) (by rw [h4]; rfl) (tgt := 182) (by decide) ?_
      refine z_aload_n dX12_status_182 rfl rfl ?_
      refine z_getfI (k := 0) flRX12_262 rfl rfl dX12_status_183 ?_
      exact z_ireti rfl dX12_status_186 (k12 h3 h4)
    · refine z_tabIn dX12_status_25 (by omega) (by omega) (by rw [h4]; rfl) (tgt := 187) (by decide) ?_
      refine z_aload_n dX12_status_187 rfl rfl ?_
      refine z_getfI (k := 8) flRX12_453 rfl rfl dX12_status_188 ?_
      exact z_ireti rfl dX12_status_191 (k13 h3 h4)
    · refine z_tabIn dX12_status_25 (by omega) (by omega) (by rw [h4]; rfl) (tgt := 192) (by decide) ?_
      refine z_aload_n dX12_status_192 rfl rfl ?_
      refine z_getfI (k := 9) flRX12_499 rfl rfl dX12_status_193 ?_
      exact z_ireti rfl dX12_status_196 (k14 h3 h4)
    · refine z_tabIn dX12_status_25 (by omega) (by omega) (by rw [h4]; rfl) (tgt := 202) (by decide) ?_
      exact J202 h3 (Or.inr (Or.inl h4))
    · refine z_tabIn dX12_status_25 (by omega) (by omega) (by rw [h4]; rfl) (tgt := 202) (by decide) ?_
      exact J202 h3 (Or.inr (Or.inr (Or.inl h4)))
    · refine z_tabIn dX12_status_25 (by omega) (by omega) (by rw [h4]; rfl) (tgt := 202) (by decide) ?_
      exact J202 h3 (Or.inr (Or.inr (Or.inr (Or.inl h4))))
    · refine z_tabIn dX12_status_25 (by omega) (by omega) (by rw [h4]; rfl) (tgt := 202) (by decide) ?_
      exact J202 h3 (Or.inr (Or.inr (Or.inr (Or.inr (Or.inl h4)))))
    · refine z_tabIn dX12_status_25 (by omega) (by omega) (by rw [h4]; rfl) (tgt := 202) (by decide) ?_
      exact J202 h3 (Or.inr (Or.inr (Or.inr (Or.inr (Or.inr (Or.inl h4))))))
    · refine z_tabIn dX12_status_25 (by omega) (by omega) (by rw [h4]; rfl) (tgt := 202) (by decide) ?_
      exact J202 h3 (Or.inr (Or.inr (Or.inr (Or.inr (Or.inr (Or.inr (Or.inl h4)))))))
    · refine z_tabIn dX12_status_25 (by omega) (by omega) (by rw [h4]; rfl) (tgt := 202) (by decide) ?_
      exact J202 h3 (Or.inr (Or.inr (Or.inr (Or.inr (Or.inr (Or.inr (Or.inr h4)))))))
    · refine z_tabIn dX12_status_25 (by omega) (by omega) (by rw [h4]; rfl) (tgt := 197) (by decide) ?_
      refine z_aload_n dX12_status_197 rfl rfl ?_
      refine z_getfI (k := 92) flRX12_392 rfl rfl dX12_status_198 ?_
      exact z_ireti rfl dX12_status_201 (k15 h3 h4)
  refine z_iload_n dX12_status_0 rfl rfl ?_
  refine z_bipush (x := 10) dX12_status_1 (by decide +kernel) (by unfold zIn; decide) ?_
  refine z_icmp_le dX12_status_3 (tgt := 22) (by decide) (fun h1 => ?_) (fun h1 => ?_)
  · skip
    exact J22 (Or.inl h1)
  · skip
    refine z_iload_n dX12_status_6 rfl rfl ?_
    refine z_bipush (x := 18) dX12_status_7 (by decide +kernel) (by unfold zIn; decide) ?_
    refine z_icmp_ge dX12_status_9 (tgt := 22) (by decide) (fun h2 => ?_) (fun h2 => ?_)
    · skip
      exact J22 (Or.inr ⟨h1, h2⟩)
    · skip
      refine z_aload_n dX12_status_12 rfl rfl ?_
      refine z_getfR (k := 73) flRX12_190 rfl rfl dX12_status_13 ?_
      refine z_iload_n dX12_status_16 rfl rfl ?_
      refine z_bipush (x := 10) dX12_status_17 (by decide +kernel) (by unfold zIn; decide) ?_
      have s1 : -2147483648 ≤ a1 - 10 ∧ a1 - 10 < (2147483648 : Int) := k1 h1 h2
      refine z_isubN dX12_status_19 s1 ?_
      have s2 : (0 : Int) ≤ a1 - 10 ∧ a1 - 10 < (8 : Int) := k2 h1 h2
      refine z_iald rfl s2.1 s2.2 dX12_status_20 ?_
      exact z_ireti rfl dX12_status_21 (k3 h1 h2)
set_option maxRecDepth 20000 in
set_option maxHeartbeats 1000000 in
theorem TX12_status_138 {G : zG} {σ : zS} {Q : Int → zS → Prop} {v1 v2 v3 : Int}  (k1 : (σ 98 4 ≤ v3) → Q v2 σ) (k2 : (v3 < σ 98 4) → (0 : Int) ≤ v3 ∧ v3 < (12 : Int)) (k3 : (v3 < σ 98 4) → (σ 130 v3 ≠ (-1)) → -2147483648 ≤ v2 + 1 ∧ v2 + 1 < (2147483648 : Int)) (k4 : (v3 < σ 98 4) → (σ 130 v3 = (-1)) → -2147483648 ≤ v3 + 1 ∧ v3 + 1 < (2147483648 : Int)) (k5 : (v3 < σ 98 4) → (σ 130 v3 = (-1)) → zR G MX12_status 138 [zr 98, zi v1, zi v2, zi (v3 + 1)] [] σ Q) (k6 : (v3 < σ 98 4) → (σ 130 v3 ≠ (-1)) → -2147483648 ≤ v3 + 1 ∧ v3 + 1 < (2147483648 : Int)) (k7 : (v3 < σ 98 4) → (σ 130 v3 ≠ (-1)) → zR G MX12_status 138 [zr 98, zi v1, zi (v2 + 1), zi (v3 + 1)] [] σ Q) : zR G MX12_status 138 [zr 98, zi v1, zi v2, zi v3] [] σ Q := by
  have J159_1 : (v3 < σ 98 4) → (σ 130 v3 ≠ (-1)) → zR G MX12_status 159 [zr 98, zi v1, zi (v2 + 1), zi v3] [] σ Q := by
    intro h1 h2
    have s6 : -2147483648 ≤ v3 + 1 ∧ v3 + 1 < (2147483648 : Int) := k6 h1 h2
    refine z_iincN (ls' := [zr 98, zi v1, zi (v2 + 1), zi (v3 + 1)]) dX12_status_159 rfl (by decide) s6 rfl ?_
    refine z_goto dX12_status_162 (tgt := 138) (by decide) ?_
    exact k7 h1 h2
  have J159 : (v3 < σ 98 4) → (σ 130 v3 = (-1)) → zR G MX12_status 159 [zr 98, zi v1, zi v2, zi v3] [] σ Q := by
    intro h1 h2
    have s4 : -2147483648 ≤ v3 + 1 ∧ v3 + 1 < (2147483648 : Int) := k4 h1 h2
    refine z_iincN (ls' := [zr 98, zi v1, zi v2, zi (v3 + 1)]) dX12_status_159 rfl (by decide) s4 rfl ?_
    refine z_goto dX12_status_162 (tgt := 138) (by decide) ?_
    exact k5 h1 h2
  refine z_iload_n dX12_status_138 rfl rfl ?_
  refine z_aload_n dX12_status_139 rfl rfl ?_
  refine z_getfI (k := 4) flRX12_259 rfl rfl dX12_status_140 ?_
  refine z_icmp_ge dX12_status_143 (tgt := 165) (by decide) (fun h1 => ?_) (fun h1 => ?_)
  · skip
    refine z_iload_n dX12_status_165 rfl rfl ?_
    exact z_ireti rfl dX12_status_166 (k1 h1)
  · skip
    refine z_aload_n dX12_status_146 rfl rfl ?_
    refine z_getfR (k := 45) flRX12_109 rfl rfl dX12_status_147 ?_
    refine z_iload_n dX12_status_150 rfl rfl ?_
    have s2 : (0 : Int) ≤ v3 ∧ v3 < (12 : Int) := k2 h1
    refine z_iald rfl s2.1 s2.2 dX12_status_151 ?_
    refine z_iconst dX12_status_152 (by unfold zIn; decide) ?_
    refine z_icmp_eq dX12_status_153 (tgt := 159) (by decide) (fun h2 => ?_) (fun h2 => ?_)
    · skip
      exact J159 h1 h2
    · skip
      have s3 : -2147483648 ≤ v2 + 1 ∧ v2 + 1 < (2147483648 : Int) := k3 h1 h2
      refine z_iincN (ls' := [zr 98, zi v1, zi (v2 + 1), zi v3]) dX12_status_156 rfl (by decide) s3 rfl ?_
      exact J159_1 h1 h2
