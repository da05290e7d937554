set_option maxRecDepth 20000 in
set_option maxHeartbeats 1000000 in
theorem TX12_ballot {G : zG} {σ : zS} {Q : Int → zS → Prop} {a1 a2 : Int}  (k1 : ((0 ≤ a1 ∧ a1 < σ 98 1)) → zO G MX12_wants [zr 98, zi a2] σ (fun rr σ' => zR G MX12_ballot 19 [zr 98, zi a1, zi a2, zu, zu] [zi rr] σ' Q)) (k2 : (¬ ((0 ≤ a1 ∧ a1 < σ 98 1))) → -2147483648 ≤ -(-1) ∧ -(-1) < (2147483648 : Int)) (k3 : (¬ ((0 ≤ a1 ∧ a1 < σ 98 1))) → (0 : Int) ≤ -(-1) ∧ -(-1) < (8 : Int)) (k4 : (¬ ((0 ≤ a1 ∧ a1 < σ 98 1))) → -2147483648 ≤ (σ 157 (-(-1))) + 1 ∧ (σ 157 (-(-1))) + 1 < (2147483648 : Int)) (k5 : (¬ ((0 ≤ a1 ∧ a1 < σ 98 1))) → Q (-1) (zup σ 157 (-(-1)) ((σ 157 (-(-1))) + 1))) : zO G MX12_ballot [zr 98, zi a1, zi a2] σ Q := by
  refine zO_of (ls0 := [zr 98, zi a1, zi a2, zu, zu]) (by decide) (Nat.le_of_ble_eq_true rfl) rfl ?_
  refine z_aload_n dX12_ballot_0 rfl rfl ?_
  refine z_iload_n dX12_ballot_1 rfl rfl ?_
  refine z_callv (as := [zi a1]) (st := []) mkX12_isOne lkRX12_271 rfl rfl rfl (by decide) (Nat.le_of_ble_eq_true rfl) rfl dX12_ballot_2 ?_
  refine SX12_isOne ?_
  show zR G MX12_ballot 5 [zr 98, zi a1, zi a2, zu, zu] [zi (if (0 ≤ a1 ∧ a1 < σ 98 1) then (1 : Int) else 0)] σ Q
  refine z_if_ne dX12_ballot_5 (tgt := 14) (by decide) (fun z => ?_) (fun z => ?_)
  · have h1 : (0 ≤ a1 ∧ a1 < σ 98 1) := zb1 z
    refine z_aload_n dX12_ballot_14 rfl rfl ?_
    refine z_iload_n dX12_ballot_15 rfl rfl ?_
    refine z_callv (as := [zi a2]) (st := []) mkX12_wants lkRX12_300 rfl rfl rfl (by decide) (Nat.le_of_ble_eq_true rfl) rfl dX12_ballot_16 (k1 h1)
  · have h1 : ¬ ((0 ≤ a1 ∧ a1 < σ 98 1)) := zb0 z
    refine z_aload_n dX12_ballot_8 rfl rfl ?_
    refine z_iconst dX12_ballot_9 (by unfold zIn; decide) ?_
    have s2 : -2147483648 ≤ -(-1) ∧ -(-1) < (2147483648 : Int) := k2 h1
    have s3 : (0 : Int) ≤ -(-1) ∧ -(-1) < (8 : Int) := k3 h1
    have s4 : -2147483648 ≤ (σ 157 (-(-1))) + 1 ∧ (σ 157 (-(-1))) + 1 < (2147483648 : Int) := k4 h1
    refine z_callv (as := [zi (-1)]) (st := []) mkX12_no lkRX12_267 rfl rfl rfl (by decide) (Nat.le_of_ble_eq_true rfl) rfl dX12_ballot_10 ?_
    refine SX12_no s2 s3 s4 ?_
    show zR G MX12_ballot 13 [zr 98, zi a1, zi a2, zu, zu] [zi (-1)] (zup σ 157 (-(-1)) ((σ 157 (-(-1))) + 1)) Q
    exact z_ireti rfl dX12_ballot_13 (k5 h1)
set_option maxRecDepth 20000 in
set_option maxHeartbeats 1000000 in
theorem TX12_ballot_19 {G : zG} {σ : zS} {Q : Int → zS → Prop} {v1 v2 r : Int}  (k1 : (r = 0) → (0 : Int) ≤ v2 ∧ v2 < (10 : Int)) (k2 : (r = 0) → (0 : Int) ≤ v1 ∧ v1 < (24 : Int)) (k3 : (r = 0) → zR G MX12_ballot 45 [zr 98, zi v1, zi v2, zi r, zi 0] [] (zup σ 135 v1 (σ 113 v2)) Q) (k4 : (r ≠ 0) → -2147483648 ≤ -r ∧ -r < (2147483648 : Int)) (k5 : (r ≠ 0) → (0 : Int) ≤ -r ∧ -r < (8 : Int)) (k6 : (r ≠ 0) → -2147483648 ≤ (σ 157 (-r)) + 1 ∧ (σ 157 (-r)) + 1 < (2147483648 : Int)) (k7 : (r ≠ 0) → Q r (zup σ 157 (-r) ((σ 157 (-r)) + 1))) : zR G MX12_ballot 19 [zr 98, zi v1, zi v2, zu, zu] [zi r] σ Q := by
  refine z_istore_n (ls' := [zr 98, zi v1, zi v2, zi r, zu]) dX12_ballot_19 rfl (by decide) rfl ?_
  refine z_iload_n dX12_ballot_20 rfl rfl ?_
  refine z_if_eq dX12_ballot_21 (tgt := 30) (by decide) (fun h1 => ?_) (fun h1 => ?_)
  · skip
    refine z_aload_n dX12_ballot_30 rfl rfl ?_
    refine z_getfR (k := 50) flRX12_124 rfl rfl dX12_ballot_31 ?_
    refine z_iload_n dX12_ballot_34 rfl rfl ?_
    refine z_aload_n dX12_ballot_35 rfl rfl ?_
    refine z_getfR (k := 27) flRX12_57 rfl rfl dX12_ballot_36 ?_
    refine z_iload_n dX12_ballot_39 rfl rfl ?_
    have s1 : (0 : Int) ≤ v2 ∧ v2 < (10 : Int) := k1 h1
    refine z_iald rfl s1.1 s1.2 dX12_ballot_40 ?_
    have s2 : (0 : Int) ≤ v1 ∧ v1 < (24 : Int) := k2 h1
    refine z_iast rfl s2.1 s2.2 dX12_ballot_41 ?_
    refine z_iconst dX12_ballot_42 (by unfold zIn; decide) ?_
    refine z_istore (ls' := [zr 98, zi v1, zi v2, zi r, zi 0]) dX12_ballot_43 (by decide) rfl ?_
    exact k3 h1
  · skip
    refine z_aload_n dX12_ballot_24 rfl rfl ?_
    refine z_iload_n dX12_ballot_25 rfl rfl ?_
    have s4 : -2147483648 ≤ -r ∧ -r < (2147483648 : Int) := k4 h1
    have s5 : (0 : Int) ≤ -r ∧ -r < (8 : Int) := k5 h1
    have s6 : -2147483648 ≤ (σ 157 (-r)) + 1 ∧ (σ 157 (-r)) + 1 < (2147483648 : Int) := k6 h1
    refine z_callv (as := [zi r]) (st := []) mkX12_no lkRX12_267 rfl rfl rfl (by decide) (Nat.le_of_ble_eq_true rfl) rfl dX12_ballot_26 ?_
    refine SX12_no s4 s5 s6 ?_
    show zR G MX12_ballot 29 [zr 98, zi v1, zi v2, zi r, zu] [zi r] (zup σ 157 (-r) ((σ 157 (-r)) + 1)) Q
    exact z_ireti rfl dX12_ballot_29 (k7 h1)
set_option maxRecDepth 20000 in
set_option maxHeartbeats 1000000 in
theorem TX12_ballot_45 {G : zG} {σ : zS} {Q : Int → zS → Prop} {v1 v2 v3 v4 : Int}  (k1 : (0 : Int) ≤ v2 ∧ v2 < (10 : Int)) (k2 : (σ 113 v2 ≤ v4) → Q (σ 113 v2) σ) (k3 : (v4 < σ 113 v2) → -2147483648 ≤ 80 * v1 ∧ 80 * v1 < (2147483648 : Int)) (k4 : (v4 < σ 113 v2) → -2147483648 ≤ (80 * v1) + v4 ∧ (80 * v1) + v4 < (2147483648 : Int)) (k5 : (v4 < σ 113 v2) → -2147483648 ≤ 80 * v2 ∧ 80 * v2 < (2147483648 : Int)) (k6 : (v4 < σ 113 v2) → -2147483648 ≤ (80 * v2) + v4 ∧ (80 * v2) + v4 < (2147483648 : Int)) (k7 : (v4 < σ 113 v2) → (0 : Int) ≤ (80 * v2) + v4 ∧ (80 * v2) + v4 < (800 : Int)) (k8 : (v4 < σ 113 v2) → (0 : Int) ≤ (80 * v1) + v4 ∧ (80 * v1) + v4 < (1920 : Int)) (k9 : (v4 < σ 113 v2) → -2147483648 ≤ v4 + 1 ∧ v4 + 1 < (2147483648 : Int)) (k10 : (v4 < σ 113 v2) → zR G MX12_ballot 45 [zr 98, zi v1, zi v2, zi v3, zi (v4 + 1)] [] (zup σ 134 ((80 * v1) + v4) (zW (σ 115 ((80 * v2) + v4)))) Q) : zR G MX12_ballot 45 [zr 98, zi v1, zi v2, zi v3, zi v4] [] σ Q := by
  refine z_iload dX12_ballot_45 rfl ?_
  refine z_aload_n dX12_ballot_47 rfl rfl ?_
  refine z_getfR (k := 27) flRX12_57 rfl rfl dX12_ballot_48 ?_
  refine z_iload_n dX12_ballot_51 rfl rfl ?_
  have s1 : (0 : Int) ≤ v2 ∧ v2 < (10 : Int) := k1
  refine z_iald rfl s1.1 s1.2 dX12_ballot_52 ?_
  refine z_icmp_ge dX12_ballot_53 (tgt := 87) (by decide) (fun h1 => ?_) (fun h1 => ?_)
  · skip
    refine z_aload_n dX12_ballot_87 rfl rfl ?_
    refine z_getfR (k := 27) flRX12_57 rfl rfl dX12_ballot_88 ?_
    refine z_iload_n dX12_ballot_91 rfl rfl ?_
    refine z_iald rfl s1.1 s1.2 dX12_ballot_92 ?_
    exact z_ireti rfl dX12_ballot_93 (k2 h1)
  · skip
    refine z_aload_n dX12_ballot_56 rfl rfl ?_
    refine z_getfR (k := 49) flRX12_121 rfl rfl dX12_ballot_57 ?_
    refine z_bipush (x := 80) dX12_ballot_60 (by decide +kernel) (by unfold zIn; decide) ?_
    refine z_iload_n dX12_ballot_62 rfl rfl ?_
    have s3 : -2147483648 ≤ 80 * v1 ∧ 80 * v1 < (2147483648 : Int) := k3 h1
    refine z_imulN dX12_ballot_63 s3 ?_
    refine z_iload dX12_ballot_64 rfl ?_
    have s4 : -2147483648 ≤ (80 * v1) + v4 ∧ (80 * v1) + v4 < (2147483648 : Int) := k4 h1
    refine z_iaddN dX12_ballot_66 s4 ?_
    refine z_aload_n dX12_ballot_67 rfl rfl ?_
    refine z_getfR (k := 29) flRX12_63 rfl rfl dX12_ballot_68 ?_
    refine z_bipush (x := 80) dX12_ballot_71 (by decide +kernel) (by unfold zIn; decide) ?_
    refine z_iload_n dX12_ballot_73 rfl rfl ?_
    have s5 : -2147483648 ≤ 80 * v2 ∧ 80 * v2 < (2147483648 : Int) := k5 h1
    refine z_imulN dX12_ballot_74 s5 ?_
    refine z_iload dX12_ballot_75 rfl ?_
    have s6 : -2147483648 ≤ (80 * v2) + v4 ∧ (80 * v2) + v4 < (2147483648 : Int) := k6 h1
    refine z_iaddN dX12_ballot_77 s6 ?_
    have s7 : (0 : Int) ≤ (80 * v2) + v4 ∧ (80 * v2) + v4 < (800 : Int) := k7 h1
    refine z_lald rfl s7.1 s7.2 dX12_ballot_78 ?_
    refine z_l2i dX12_ballot_79 ?_
    have s8 : (0 : Int) ≤ (80 * v1) + v4 ∧ (80 * v1) + v4 < (1920 : Int) := k8 h1
    refine z_iast rfl s8.1 s8.2 dX12_ballot_80 ?_
    have s9 : -2147483648 ≤ v4 + 1 ∧ v4 + 1 < (2147483648 : Int) := k9 h1
    refine z_iincN (ls' := [zr 98, zi v1, zi v2, zi v3, zi (v4 + 1)]) dX12_ballot_81 rfl (by decide) s9 rfl ?_
    refine z_goto dX12_ballot_84 (tgt := 45) (by decide) ?_
    exact k10 h1
set_option maxRecDepth 20000 in
set_option maxHeartbeats 1000000 in
theorem TX12_keeps {G : zG} {σ : zS} {Q : Int → zS → Prop} {a1 a2 : Int}  (k1 : (a2 = (-1)) → (0 : Int) ≤ a1 ∧ a1 < (13 : Int)) (k2 : (a2 = (-1)) → zR G MX12_keeps 32 [zr 98, zi a1, zi a2, zi 0] [] (zup σ 169 a1 0) Q) (k3 : (a2 ≠ (-1)) → (0 : Int) ≤ a2 ∧ a2 < (24 : Int)) (k4 : (a2 ≠ (-1)) → (0 ≤ σ 135 a2) → (0 : Int) ≤ a1 ∧ a1 < (13 : Int)) (k5 : (a2 ≠ (-1)) → (0 ≤ σ 135 a2) → zR G MX12_keeps 32 [zr 98, zi a1, zi a2, zi 0] [] (zup σ 169 a1 (σ 135 a2)) Q) (k6 : (a2 ≠ (-1)) → (σ 135 a2 < 0) → (0 : Int) ≤ a1 ∧ a1 < (13 : Int)) (k7 : (a2 ≠ (-1)) → (σ 135 a2 < 0) → zR G MX12_keeps 32 [zr 98, zi a1, zi a2, zi 0] [] (zup σ 169 a1 0) Q) : zO G MX12_keeps [zr 98, zi a1, zi a2] σ Q := by
  refine zO_of (ls0 := [zr 98, zi a1, zi a2, zu]) (by decide) (Nat.le_of_ble_eq_true rfl) rfl ?_
  refine z_aload_n dX12_keeps_0 rfl rfl ?_
  refine z_getfR (k := 94) flRX12_226 rfl rfl dX12_keeps_1 ?_
  refine z_iload_n dX12_keeps_4 rfl rfl ?_
  refine z_iload_n dX12_keeps_5 rfl rfl ?_
  refine z_iconst dX12_keeps_6 (by unfold zIn; decide) ?_
  refine z_icmp_eq dX12_keeps_7 (tgt := 19) (by decide) (fun h1 => ?_) (fun h1 => ?_)
  · skip
    refine z_iconst dX12_keeps_19 (by unfold zIn; decide) ?_
    refine z_goto dX12_keeps_20 (tgt := 29) (by decide) ?_
    have s1 : (0 : Int) ≤ a1 ∧ a1 < (13 : Int) := k1 h1
    refine z_iast rfl s1.1 s1.2 dX12_keeps_29 ?_
    refine z_iconst dX12_keeps_30 (by unfold zIn; decide) ?_
    refine z_istore_n (ls' := [zr 98, zi a1, zi a2, zi 0]) dX12_keeps_31 rfl (by decide) rfl ?_
    exact k2 h1
  · skip
    refine z_aload_n dX12_keeps_10 rfl rfl ?_
    refine z_getfR (k := 50) flRX12_124 rfl rfl dX12_keeps_11 ?_
    refine z_iload_n dX12_keeps_14 rfl rfl ?_
    have s3 : (0 : Int) ≤ a2 ∧ a2 < (24 : Int) := k3 h1
    refine z_iald rfl s3.1 s3.2 dX12_keeps_15 ?_
    refine z_if_ge dX12_keeps_16 (tgt := 23) (by decide) (fun h2 => ?_) (fun h2 => ?_)
    · skip
      refine z_aload_n dX12_keeps_23 rfl rfl ?_
      refine z_getfR (k := 50) flRX12_124 rfl rfl dX12_keeps_24 ?_
      refine z_iload_n dX12_keeps_27 rfl rfl ?_
      refine z_iald rfl s3.1 s3.2 dX12_keeps_28 ?_
      have s4 : (0 : Int) ≤ a1 ∧ a1 < (13 : Int) := k4 h1 h2
      refine z_iast rfl s4.1 s4.2 dX12_keeps_29 ?_
      refine z_iconst dX12_keeps_30 (by unfold zIn; decide) ?_
      refine z_istore_n (ls' := [zr 98, zi a1, zi a2, zi 0]) dX12_keeps_31 rfl (by decide) rfl ?_
      exact k5 h1 h2
    · skip
      refine z_iconst dX12_keeps_19 (by unfold zIn; decide) ?_
      refine z_goto dX12_keeps_20 (tgt := 29) (by decide) ?_
      have s6 : (0 : Int) ≤ a1 ∧ a1 < (13 : Int) := k6 h1 h2
      refine z_iast rfl s6.1 s6.2 dX12_keeps_29 ?_
      refine z_iconst dX12_keeps_30 (by unfold zIn; decide) ?_
      refine z_istore_n (ls' := [zr 98, zi a1, zi a2, zi 0]) dX12_keeps_31 rfl (by decide) rfl ?_
      exact k7 h1 h2
set_option maxRecDepth 20000 in
set_option maxHeartbeats 1000000 in
theorem TX12_keeps_32 {G : zG} {σ : zS} {Q : Int → zS → Prop} {v1 v2 v3 : Int}  (k1 : (0 : Int) ≤ v1 ∧ v1 < (13 : Int)) (k2 : (σ 169 v1 ≤ v3) → Q 0 σ) (k3 : (v3 < σ 169 v1) → -2147483648 ≤ 80 * v1 ∧ 80 * v1 < (2147483648 : Int)) (k4 : (v3 < σ 169 v1) → -2147483648 ≤ (80 * v1) + v3 ∧ (80 * v1) + v3 < (2147483648 : Int)) (k5 : (v3 < σ 169 v1) → -2147483648 ≤ 80 * v2 ∧ 80 * v2 < (2147483648 : Int)) (k6 : (v3 < σ 169 v1) → -2147483648 ≤ (80 * v2) + v3 ∧ (80 * v2) + v3 < (2147483648 : Int)) (k7 : (v3 < σ 169 v1) → (0 : Int) ≤ (80 * v2) + v3 ∧ (80 * v2) + v3 < (1920 : Int)) (k8 : (v3 < σ 169 v1) → (0 : Int) ≤ (80 * v1) + v3 ∧ (80 * v1) + v3 < (1040 : Int)) (k9 : (v3 < σ 169 v1) → -2147483648 ≤ v3 + 1 ∧ v3 + 1 < (2147483648 : Int)) (k10 : (v3 < σ 169 v1) → zR G MX12_keeps 32 [zr 98, zi v1, zi v2, zi (v3 + 1)] [] (zup σ 168 ((80 * v1) + v3) (σ 134 ((80 * v2) + v3))) Q) : zR G MX12_keeps 32 [zr 98, zi v1, zi v2, zi v3] [] σ Q := by
  refine z_iload_n dX12_keeps_32 rfl rfl ?_
  refine z_aload_n dX12_keeps_33 rfl rfl ?_
  refine z_getfR (k := 94) flRX12_226 rfl rfl dX12_keeps_34 ?_
  refine z_iload_n dX12_keeps_37 rfl rfl ?_
  have s1 : (0 : Int) ≤ v1 ∧ v1 < (13 : Int) := k1
  refine z_iald rfl s1.1 s1.2 dX12_keeps_38 ?_
  refine z_icmp_ge dX12_keeps_39 (tgt := 70) (by decide) (fun h1 => ?_) (fun h1 => ?_)
  · skip
    exact z_vret rfl dX12_keeps_70 (k2 h1)
  · skip
    refine z_aload_n dX12_keeps_42 rfl rfl ?_
    refine z_getfR (k := 93) flRX12_223 rfl rfl dX12_keeps_43 ?_
    refine z_bipush (x := 80) dX12_keeps_46 (by decide +kernel) (by unfold zIn; decide) ?_
    refine z_iload_n dX12_keeps_48 rfl rfl ?_
    have s3 : -2147483648 ≤ 80 * v1 ∧ 80 * v1 < (2147483648 : Int) := k3 h1
    refine z_imulN dX12_keeps_49 s3 ?_
    refine z_iload_n dX12_keeps_50 rfl rfl ?_
    have s4 : -2147483648 ≤ (80 * v1) + v3 ∧ (80 * v1) + v3 < (2147483648 : Int) := k4 h1
    refine z_iaddN dX12_keeps_51 s4 ?_
    refine z_aload_n dX12_keeps_52 rfl rfl ?_
    refine z_getfR (k := 49) flRX12_121 rfl rfl dX12_keeps_53 ?_
    refine z_bipush (x := 80) dX12_keeps_56 (by decide +kernel) (by unfold zIn; decide) ?_
    refine z_iload_n dX12_keeps_58 rfl rfl ?_
    have s5 : -2147483648 ≤ 80 * v2 ∧ 80 * v2 < (2147483648 : Int) := k5 h1
    refine z_imulN dX12_keeps_59 s5 ?_
    refine z_iload_n dX12_keeps_60 rfl rfl ?_
    have s6 : -2147483648 ≤ (80 * v2) + v3 ∧ (80 * v2) + v3 < (2147483648 : Int) := k6 h1
    refine z_iaddN dX12_keeps_61 s6 ?_
    have s7 : (0 : Int) ≤ (80 * v2) + v3 ∧ (80 * v2) + v3 < (1920 : Int) := k7 h1
    refine z_iald rfl s7.1 s7.2 dX12_keeps_62 ?_
    have s8 : (0 : Int) ≤ (80 * v1) + v3 ∧ (80 * v1) + v3 < (1040 : Int) := k8 h1
    refine z_iast rfl s8.1 s8.2 dX12_keeps_63 ?_
    have s9 : -2147483648 ≤ v3 + 1 ∧ v3 + 1 < (2147483648 : Int) := k9 h1
    refine z_iincN (ls' := [zr 98, zi v1, zi v2, zi (v3 + 1)]) dX12_keeps_64 rfl (by decide) s9 rfl ?_
    refine z_goto dX12_keeps_67 (tgt := 32) (by decide) ?_
    exact k10 h1
set_option maxRecDepth 20000 in
set_option maxHeartbeats 1000000 in
theorem TX12_choice {G : zG} {σ : zS} {Q : Int → zS → Prop} {a1 a2 : Int}  (k1 : zR G MX12_choice 2 [zr 98, zi a1, zi a2, zi 0, zu] [] σ Q) : zO G MX12_choice [zr 98, zi a1, zi a2] σ Q := by
  refine zO_of (ls0 := [zr 98, zi a1, zi a2, zu, zu]) (by decide) (Nat.le_of_ble_eq_true rfl) rfl ?_
  refine z_iconst dX12_choice_0 (by unfold zIn; decide) ?_
  refine z_istore_n (ls' := [zr 98, zi a1, zi a2, zi 0, zu]) dX12_choice_1 rfl (by decide) rfl ?_
  exact k1
set_option maxRecDepth 20000 in
set_option maxHeartbeats 1000000 in
theorem TX12_choice_2 {G : zG} {σ : zS} {Q : Int → zS → Prop} {v1 v2 v3 : Int}  (k1 : (0 : Int) ≤ v1 ∧ v1 < (13 : Int)) (k2 : (σ 169 v1 ≤ v3) → Q (-1) σ) (k3 : (v3 < σ 169 v1) → -2147483648 ≤ 80 * v1 ∧ 80 * v1 < (2147483648 : Int)) (k4 : (v3 < σ 169 v1) → -2147483648 ≤ (80 * v1) + v3 ∧ (80 * v1) + v3 < (2147483648 : Int)) (k5 : (v3 < σ 169 v1) → (0 : Int) ≤ (80 * v1) + v3 ∧ (80 * v1) + v3 < (1040 : Int)) (k6 : (v3 < σ 169 v1) → ((0 ≤ (σ 168 ((80 * v1) + v3)) ∧ (σ 168 ((80 * v1) + v3)) < σ 98 1)) → (zand (zshr v2 (σ 168 ((80 * v1) + v3))) 1 = 1) → Q (σ 168 ((80 * v1) + v3)) σ) (k7 : (v3 < σ 169 v1) → ((¬ ((0 ≤ (σ 168 ((80 * v1) + v3)) ∧ (σ 168 ((80 * v1) + v3)) < σ 98 1))) ∨ (((0 ≤ (σ 168 ((80 * v1) + v3)) ∧ (σ 168 ((80 * v1) + v3)) < σ 98 1)) ∧ zand (zshr v2 (σ 168 ((80 * v1) + v3))) 1 ≠ 1)) → -2147483648 ≤ v3 + 1 ∧ v3 + 1 < (2147483648 : Int)) (k8 : (v3 < σ 169 v1) → ((¬ ((0 ≤ (σ 168 ((80 * v1) + v3)) ∧ (σ 168 ((80 * v1) + v3)) < σ 98 1))) ∨ (((0 ≤ (σ 168 ((80 * v1) + v3)) ∧ (σ 168 ((80 * v1) + v3)) < σ 98 1)) ∧ zand (zshr v2 (σ 168 ((80 * v1) + v3))) 1 ≠ 1)) → zR G MX12_choice 2 [zr 98, zi v1, zi v2, zi (v3 + 1), zu] [] σ Q) : zR G MX12_choice 2 [zr 98, zi v1, zi v2, zi v3, zu] [] σ Q := by
  have J47 : (v3 < σ 169 v1) → ((¬ ((0 ≤ (σ 168 ((80 * v1) + v3)) ∧ (σ 168 ((80 * v1) + v3)) < σ 98 1))) ∨ (((0 ≤ (σ 168 ((80 * v1) + v3)) ∧ (σ 168 ((80 * v1) + v3)) < σ 98 1)) ∧ zand (zshr v2 (σ 168 ((80 * v1) + v3))) 1 ≠ 1)) → zR G MX12_choice 47 [zr 98, zi v1, zi v2, zi v3, zi (σ 168 ((80 * v1) + v3))] [] σ Q := by
    intro h1 h4
    have s7 : -2147483648 ≤ v3 + 1 ∧ v3 + 1 < (2147483648 : Int) := k7 h1 h4
    refine z_iincN (ls' := [zr 98, zi v1, zi v2, zi (v3 + 1), zi (σ 168 ((80 * v1) + v3))]) dX12_choice_47 rfl (by decide) s7 rfl ?_
    refine z_goto dX12_choice_50 (tgt := 2) (by decide) ?_
    exact zR_fg [false, false, false, false, true] (k8 h1 h4)
  refine z_iload_n dX12_choice_2 rfl rfl ?_
  refine z_aload_n dX12_choice_3 rfl rfl ?_
  refine z_getfR (k := 94) flRX12_226 rfl rfl dX12_choice_4 ?_
  refine z_iload_n dX12_choice_7 rfl rfl ?_
  have s1 : (0 : Int) ≤ v1 ∧ v1 < (13 : Int) := k1
  refine z_iald rfl s1.1 s1.2 dX12_choice_8 ?_
  refine z_icmp_ge dX12_choice_9 (tgt := 53) (by decide) (fun h1 => ?_) (fun h1 => ?_)
  · skip
    refine z_iconst dX12_choice_53 (by unfold zIn; decide) ?_
    exact z_ireti rfl dX12_choice_54 (k2 h1)
  · skip
    refine z_aload_n dX12_choice_12 rfl rfl ?_
    refine z_getfR (k := 93) flRX12_223 rfl rfl dX12_choice_13 ?_
    refine z_bipush (x := 80) dX12_choice_16 (by decide +kernel) (by unfold zIn; decide) ?_
    refine z_iload_n dX12_choice_18 rfl rfl ?_
    have s3 : -2147483648 ≤ 80 * v1 ∧ 80 * v1 < (2147483648 : Int) := k3 h1
    refine z_imulN dX12_choice_19 s3 ?_
    refine z_iload_n dX12_choice_20 rfl rfl ?_
    have s4 : -2147483648 ≤ (80 * v1) + v3 ∧ (80 * v1) + v3 < (2147483648 : Int) := k4 h1
    refine z_iaddN dX12_choice_21 s4 ?_
    have s5 : (0 : Int) ≤ (80 * v1) + v3 ∧ (80 * v1) + v3 < (1040 : Int) := k5 h1
    refine z_iald rfl s5.1 s5.2 dX12_choice_22 ?_
    refine z_istore (ls' := [zr 98, zi v1, zi v2, zi v3, zi (σ 168 ((80 * v1) + v3))]) dX12_choice_23 (by decide) rfl ?_
    refine z_aload_n dX12_choice_25 rfl rfl ?_
    refine z_iload dX12_choice_26 rfl ?_
    refine z_callv (as := [zi (σ 168 ((80 * v1) + v3))]) (st := []) mkX12_isOne lkRX12_271 rfl rfl rfl (by decide) (Nat.le_of_ble_eq_true rfl) rfl dX12_choice_28 ?_
    refine SX12_isOne ?_
    show zR G MX12_choice 31 [zr 98, zi v1, zi v2, zi v3, zi (σ 168 ((80 * v1) + v3))] [zi (if (0 ≤ (σ 168 ((80 * v1) + v3)) ∧ (σ 168 ((80 * v1) + v3)) < σ 98 1) then (1 : Int) else 0)] σ Q
    refine z_if_eq dX12_choice_31 (tgt := 47) (by decide) (fun z => ?_) (fun z => ?_)
    · have h2 : ¬ ((0 ≤ (σ 168 ((80 * v1) + v3)) ∧ (σ 168 ((80 * v1) + v3)) < σ 98 1)) := zb0 z
      exact J47 h1 (Or.inl h2)
    · have h2 : (0 ≤ (σ 168 ((80 * v1) + v3)) ∧ (σ 168 ((80 * v1) + v3)) < σ 98 1) := zb1 z
      refine z_iload_n dX12_choice_34 rfl rfl ?_
      refine z_iload dX12_choice_35 rfl ?_
      refine z_ishr dX12_choice_37 ?_
      refine z_iconst dX12_choice_38 (by unfold zIn; decide) ?_
      refine z_iand dX12_choice_39 ?_
      refine z_iconst dX12_choice_40 (by unfold zIn; decide) ?_
      refine z_icmp_ne dX12_choice_41 (tgt := 47) (by decide) (fun h3 => ?_) (fun h3 => ?_)
      · skip
        exact J47 h1 (Or.inr ⟨h2, h3⟩)
      · skip
        refine z_iload dX12_choice_44 rfl ?_
        exact z_ireti rfl dX12_choice_46 (k6 h1 h2 h3)
set_option maxRecDepth 20000 in
set_option maxHeartbeats 1000000 in
theorem TX12_elects {G : zG} {σ : zS} {Q : Int → zS → Prop} {a1 a2 : Int}  (k1 : zR G MX12_elects 5 [zr 98, zi a1, zi a2, zi a1, zi 0, zu, zu, zu, zu, zu] [] σ Q) : zO G MX12_elects [zr 98, zi a1, zi a2] σ Q := by
  refine zO_of (ls0 := [zr 98, zi a1, zi a2, zu, zu, zu, zu, zu, zu, zu]) (by decide) (Nat.le_of_ble_eq_true rfl) rfl ?_
  refine z_iload_n dX12_elects_0 rfl rfl ?_
  refine z_istore_n (ls' := [zr 98, zi a1, zi a2, zi a1, zu, zu, zu, zu, zu, zu]) dX12_elects_1 rfl (by decide) rfl ?_
  refine z_iconst dX12_elects_2 (by unfold zIn; decide) ?_
  refine z_istore (ls' := [zr 98, zi a1, zi a2, zi a1, zi 0, zu, zu, zu, zu, zu]) dX12_elects_3 (by decide) rfl ?_
  exact k1
set_option maxRecDepth 20000 in
set_option maxHeartbeats 1000000 in
theorem TX12_elects_5 {G : zG} {σ : zS} {Q : Int → zS → Prop} {v1 v2 v3 v4 : Int}  (k1 : zR G MX12_elects 14 [zr 98, zi v1, zi v2, zi v3, zi v4, zi 0, zi 0, zi 0, zu, zu] [] σ Q) : zR G MX12_elects 5 [zr 98, zi v1, zi v2, zi v3, zi v4, zu, zu, zu, zu, zu] [] σ Q := by
  refine z_iconst dX12_elects_5 (by unfold zIn; decide) ?_
  refine z_istore (ls' := [zr 98, zi v1, zi v2, zi v3, zi v4, zi 0, zu, zu, zu, zu]) dX12_elects_6 (by decide) rfl ?_
  refine z_iconst dX12_elects_8 (by unfold zIn; decide) ?_
  refine z_istore (ls' := [zr 98, zi v1, zi v2, zi v3, zi v4, zi 0, zi 0, zu, zu, zu]) dX12_elects_9 (by decide) rfl ?_
  refine z_iconst dX12_elects_11 (by unfold zIn; decide) ?_
  refine z_istore (ls' := [zr 98, zi v1, zi v2, zi v3, zi v4, zi 0, zi 0, zi 0, zu, zu]) dX12_elects_12 (by decide) rfl ?_
  exact k1
set_option maxRecDepth 20000 in
set_option maxHeartbeats 1000000 in
theorem TX12_elects_14 {G : zG} {σ : zS} {Q : Int → zS → Prop} {v1 v2 v3 v4 v5 v6 v7 : Int}  (k1 : (σ 98 1 ≤ v7) → zR G MX12_elects 51 [zr 98, zi v1, zi v2, zi v3, zi v4, zi v5, zi v6, zi 0, zu, zu] [] σ Q) (k2 : (v7 < σ 98 1) → (0 : Int) ≤ v7 ∧ v7 < (24 : Int)) (k3 : (v7 < σ 98 1) → -2147483648 ≤ v5 + zand (zshr v3 v7) 1 ∧ v5 + zand (zshr v3 v7) 1 < (2147483648 : Int)) (k4 : (v7 < σ 98 1) → -2147483648 ≤ v7 + 1 ∧ v7 + 1 < (2147483648 : Int)) (k5 : (v7 < σ 98 1) → zR G MX12_elects 14 [zr 98, zi v1, zi v2, zi v3, zi v4, zi (v5 + zand (zshr v3 v7) 1), zi v6, zi (v7 + 1), zu, zu] [] (zup σ 172 v7 0) Q) : zR G MX12_elects 14 [zr 98, zi v1, zi v2, zi v3, zi v4, zi v5, zi v6, zi v7, zu, zu] [] σ Q := by
  refine z_iload dX12_elects_14 rfl ?_
  refine z_aload_n dX12_elects_16 rfl rfl ?_
  refine z_getfI (k := 1) flRX12_256 rfl rfl dX12_elects_17 ?_
  refine z_icmp_ge dX12_elects_20 (tgt := 48) (by decide) (fun h1 => ?_) (fun h1 => ?_)
  · skip
    refine z_iconst dX12_elects_48 (by unfold zIn; decide) ?_
    refine z_istore (ls' := [zr 98, zi v1, zi v2, zi v3, zi v4, zi v5, zi v6, zi 0, zu, zu]) dX12_elects_49 (by decide) rfl ?_
    exact k1 h1
  · skip
    refine z_aload_n dX12_elects_23 rfl rfl ?_
    refine z_getfR (k := 97) flRX12_235 rfl rfl dX12_elects_24 ?_
    refine z_iload dX12_elects_27 rfl ?_
    refine z_iconst dX12_elects_29 (by unfold zIn; decide) ?_
    have s2 : (0 : Int) ≤ v7 ∧ v7 < (24 : Int) := k2 h1
    refine z_iast rfl s2.1 s2.2 dX12_elects_30 ?_
    refine z_iload dX12_elects_31 rfl ?_
    refine z_iload_n dX12_elects_33 rfl rfl ?_
    refine z_iload dX12_elects_34 rfl ?_
    refine z_ishr dX12_elects_36 ?_
    refine z_iconst dX12_elects_37 (by unfold zIn; decide) ?_
    refine z_iand dX12_elects_38 ?_
    have s3 : -2147483648 ≤ v5 + zand (zshr v3 v7) 1 ∧ v5 + zand (zshr v3 v7) 1 < (2147483648 : Int) := k3 h1
    refine z_iaddN dX12_elects_39 s3 ?_
    refine z_istore (ls' := [zr 98, zi v1, zi v2, zi v3, zi v4, zi (v5 + zand (zshr v3 v7) 1), zi v6, zi v7, zu, zu]) dX12_elects_40 (by decide) rfl ?_
    have s4 : -2147483648 ≤ v7 + 1 ∧ v7 + 1 < (2147483648 : Int) := k4 h1
    refine z_iincN (ls' := [zr 98, zi v1, zi v2, zi v3, zi v4, zi (v5 + zand (zshr v3 v7) 1), zi v6, zi (v7 + 1), zu, zu]) dX12_elects_42 rfl (by decide) s4 rfl ?_
    refine z_goto dX12_elects_45 (tgt := 14) (by decide) ?_
    exact k5 h1
set_option maxRecDepth 20000 in
set_option maxHeartbeats 1000000 in
theorem TX12_elects_51 {G : zG} {σ : zS} {Q : Int → zS → Prop} {v1 v2 v3 v4 v5 v6 v7 : Int}  (k1 : (σ 98 91 ≤ v7) → (v2 ≠ 0) → (0 : Int) ≤ v4 ∧ v4 < (24 : Int)) (k2 : (σ 98 91 ≤ v7) → (v2 ≠ 0) → zR G MX12_elects 113 [zr 98, zi v1, zi v2, zi v3, zi v4, zi v5, zi v6, zi 0, zu, zu] [] (zup σ 171 v4 v3) Q) (k3 : (v7 < σ 98 91) → zO G MX12_choice [zr 98, zi v7, zi v3] σ (fun rr σ' => zR G MX12_elects 67 [zr 98, zi v1, zi v2, zi v3, zi v4, zi v5, zi v6, zi v7, zu, zu] [zi rr] σ' Q)) (k4 : (σ 98 91 ≤ v7) → (v2 = 0) → zR G MX12_elects 165 [zr 98, zi v1, zi v2, zi v3, zi v4, zi v5, zi v6, zi (-1), zi (-1), zi 0] [] σ Q) : zR G MX12_elects 51 [zr 98, zi v1, zi v2, zi v3, zi v4, zi v5, zi v6, zi v7, zu, zu] [] σ Q := by
  have J156 : (σ 98 91 ≤ v7) → (v2 = 0) → zR G MX12_elects 156 [zr 98, zi v1, zi v2, zi v3, zi v4, zi v5, zi v6, zi v7, zu, zu] [] σ Q := by
    intro h1 h2
    refine z_iconst dX12_elects_156 (by unfold zIn; decide) ?_
    refine z_istore (ls' := [zr 98, zi v1, zi v2, zi v3, zi v4, zi v5, zi v6, zi (-1), zu, zu]) dX12_elects_157 (by decide) rfl ?_
    refine z_iconst dX12_elects_159 (by unfold zIn; decide) ?_
    refine z_istore (ls' := [zr 98, zi v1, zi v2, zi v3, zi v4, zi v5, zi v6, zi (-1), zi (-1), zu]) dX12_elects_160 (by decide) rfl ?_
    refine z_iconst dX12_elects_162 (by unfold zIn; decide) ?_
    refine z_istore (ls' := [zr 98, zi v1, zi v2, zi v3, zi v4, zi v5, zi v6, zi (-1), zi (-1), zi 0]) dX12_elects_163 (by decide) rfl ?_
    exact k4 h1 h2
  refine z_iload dX12_elects_51 rfl ?_
  refine z_aload_n dX12_elects_53 rfl rfl ?_
  refine z_getfI (k := 91) flRX12_386 rfl rfl dX12_elects_54 ?_
  refine z_icmp_ge dX12_elects_57 (tgt := 98) (by decide) (fun h1 => ?_) (fun h1 => ?_)
  · skip
    refine z_iload_n dX12_elects_98 rfl rfl ?_
    refine z_if_eq dX12_elects_99 (tgt := 156) (by decide) (fun h2 => ?_) (fun h2 => ?_)
    · skip
      exact J156 h1 h2
    · skip
      refine z_aload_n dX12_elects_102 rfl rfl ?_
      refine z_getfR (k := 96) flRX12_232 rfl rfl dX12_elects_103 ?_
      refine z_iload dX12_elects_106 rfl ?_
      refine z_iload_n dX12_elects_108 rfl rfl ?_
      have s1 : (0 : Int) ≤ v4 ∧ v4 < (24 : Int) := k1 h1 h2
      refine z_iast rfl s1.1 s1.2 dX12_elects_109 ?_
      refine z_iconst dX12_elects_110 (by unfold zIn; decide) ?_
      refine z_istore (ls' := [zr 98, zi v1, zi v2, zi v3, zi v4, zi v5, zi v6, zi 0, zu, zu]) dX12_elects_111 (by decide) rfl ?_
      exact k2 h1 h2
  · skip
    refine z_aload_n dX12_elects_60 rfl rfl ?_
    refine z_iload dX12_elects_61 rfl ?_
    refine z_iload_n dX12_elects_63 rfl rfl ?_
    refine z_callv (as := [zi v7, zi v3]) (st := []) mkX12_choice lkRX12_389 rfl rfl rfl (by decide) (Nat.le_of_ble_eq_true rfl) rfl dX12_elects_64 (k3 h1)
set_option maxRecDepth 20000 in
set_option maxHeartbeats 1000000 in
theorem TX12_elects_67 {G : zG} {σ : zS} {Q : Int → zS → Prop} {v1 v2 v3 v4 v5 v6 v7 r : Int}  (k1 : (r ≠ (-1)) → (0 : Int) ≤ r ∧ r < (24 : Int)) (k2 : (r ≠ (-1)) → -2147483648 ≤ σ 172 r + 1 ∧ σ 172 r + 1 < (2147483648 : Int)) (k3 : (r ≠ (-1)) → -2147483648 ≤ v6 + 1 ∧ v6 + 1 < (2147483648 : Int)) (k4 : (r ≠ (-1)) → -2147483648 ≤ v7 + 1 ∧ v7 + 1 < (2147483648 : Int)) (k5 : (r ≠ (-1)) → zR G MX12_elects 51 [zr 98, zi v1, zi v2, zi v3, zi v4, zi v5, zi (v6 + 1), zi (v7 + 1), zu, zu] [] (zup σ 172 r (σ 172 r + 1)) Q) (k6 : (r = (-1)) → -2147483648 ≤ v7 + 1 ∧ v7 + 1 < (2147483648 : Int)) (k7 : (r = (-1)) → zR G MX12_elects 51 [zr 98, zi v1, zi v2, zi v3, zi v4, zi v5, zi v6, zi (v7 + 1), zu, zu] [] σ Q) : zR G MX12_elects 67 [zr 98, zi v1, zi v2, zi v3, zi v4, zi v5, zi v6, zi v7, zu, zu] [zi r] σ Q := by
  have J92_1 : (r = (-1)) → zR G MX12_elects 92 [zr 98, zi v1, zi v2, zi v3, zi v4, zi v5, zi v6, zi v7, zi r, zu] [] σ Q := by
    intro h1
    have s6 : -2147483648 ≤ v7 + 1 ∧ v7 + 1 < (2147483648 : Int) := k6 h1
    refine z_iincN (ls' := [zr 98, zi v1, zi v2, zi v3, zi v4, zi v5, zi v6, zi (v7 + 1), zi r, zu]) dX12_elects_92 rfl (by decide) s6 rfl ?_
    refine z_goto dX12_elects_95 (tgt := 51) (by decide) ?_
    exact zR_fg [false, false, false, false, false, false, false, false, true, false] (k7 h1)
  have J92 : (r ≠ (-1)) → zR G MX12_elects 92 [zr 98, zi v1, zi v2, zi v3, zi v4, zi v5, zi (v6 + 1), zi v7, zi r, zu] [] (zup σ 172 r (σ 172 r + 1)) Q := by
    intro h1
    have s4 : -2147483648 ≤ v7 + 1 ∧ v7 + 1 < (2147483648 : Int) := k4 h1
    refine z_iincN (ls' := [zr 98, zi v1, zi v2, zi v3, zi v4, zi v5, zi (v6 + 1), zi (v7 + 1), zi r, zu]) dX12_elects_92 rfl (by decide) s4 rfl ?_
    refine z_goto dX12_elects_95 (tgt := 51) (by decide) ?_
    exact zR_fg [false, false, false, false, false, false, false, false, true, false] (k5 h1)
  refine z_istore (ls' := [zr 98, zi v1, zi v2, zi v3, zi v4, zi v5, zi v6, zi v7, zi r, zu]) dX12_elects_67 (by decide) rfl ?_
  refine z_iload dX12_elects_69 rfl ?_
  refine z_iconst dX12_elects_71 (by unfold zIn; decide) ?_
  refine z_icmp_ne dX12_elects_72 (tgt := 78) (by decide) (fun h1 => ?_) (fun h1 => ?_)
  · skip
    refine z_aload_n dX12_elects_78 rfl rfl ?_
    refine z_getfR (k := 97) flRX12_235 rfl rfl dX12_elects_79 ?_
    refine z_iload dX12_elects_82 rfl ?_
    refine z_dup2 dX12_elects_84 rfl rfl ?_
    have s1 : (0 : Int) ≤ r ∧ r < (24 : Int) := k1 h1
    refine z_iald rfl s1.1 s1.2 dX12_elects_85 ?_
    refine z_iconst dX12_elects_86 (by unfold zIn; decide) ?_
    have s2 : -2147483648 ≤ σ 172 r + 1 ∧ σ 172 r + 1 < (2147483648 : Int) := k2 h1
    refine z_iaddN dX12_elects_87 s2 ?_
    refine z_iast rfl s1.1 s1.2 dX12_elects_88 ?_
    have s3 : -2147483648 ≤ v6 + 1 ∧ v6 + 1 < (2147483648 : Int) := k3 h1
    refine z_iincN (ls' := [zr 98, zi v1, zi v2, zi v3, zi v4, zi v5, zi (v6 + 1), zi v7, zi r, zu]) dX12_elects_89 rfl (by decide) s3 rfl ?_
    exact J92 h1
  · skip
    refine z_goto dX12_elects_75 (tgt := 92) (by decide) ?_
    exact J92_1 h1
set_option maxRecDepth 20000 in
set_option maxHeartbeats 1000000 in
theorem TX12_elects_113 {G : zG} {σ : zS} {Q : Int → zS → Prop} {v1 v2 v3 v4 v5 v6 v7 : Int}  (k1 : (σ 98 1 ≤ v7) → -2147483648 ≤ v4 + 1 ∧ v4 + 1 < (2147483648 : Int)) (k2 : (v7 < σ 98 1) → -2147483648 ≤ 24 * v4 ∧ 24 * v4 < (2147483648 : Int)) (k3 : (v7 < σ 98 1) → -2147483648 ≤ (24 * v4) + v7 ∧ (24 * v4) + v7 < (2147483648 : Int)) (k4 : (v7 < σ 98 1) → (0 : Int) ≤ v7 ∧ v7 < (24 : Int)) (k5 : (v7 < σ 98 1) → (0 : Int) ≤ (24 * v4) + v7 ∧ (24 * v4) + v7 < (576 : Int)) (k6 : (v7 < σ 98 1) → -2147483648 ≤ v7 + 1 ∧ v7 + 1 < (2147483648 : Int)) (k7 : (v7 < σ 98 1) → zR G MX12_elects 113 [zr 98, zi v1, zi v2, zi v3, zi v4, zi v5, zi v6, zi (v7 + 1), zu, zu] [] (zup σ 170 ((24 * v4) + v7) (σ 172 v7)) Q) (k8 : (σ 98 1 ≤ v7) → zR G MX12_elects 165 [zr 98, zi v1, zi v2, zi v3, zi v4, zi v5, zi v6, zi (-1), zi (-1), zi 0] [] (zup σ 98 92 (v4 + 1)) Q) : zR G MX12_elects 113 [zr 98, zi v1, zi v2, zi v3, zi v4, zi v5, zi v6, zi v7, zu, zu] [] σ Q := by
  have J156 : (σ 98 1 ≤ v7) → zR G MX12_elects 156 [zr 98, zi v1, zi v2, zi v3, zi v4, zi v5, zi v6, zi v7, zu, zu] [] (zup σ 98 92 (v4 + 1)) Q := by
    intro h1
    refine z_iconst dX12_elects_156 (by unfold zIn; decide) ?_
    refine z_istore (ls' := [zr 98, zi v1, zi v2, zi v3, zi v4, zi v5, zi v6, zi (-1), zu, zu]) dX12_elects_157 (by decide) rfl ?_
    refine z_iconst dX12_elects_159 (by unfold zIn; decide) ?_
    refine z_istore (ls' := [zr 98, zi v1, zi v2, zi v3, zi v4, zi v5, zi v6, zi (-1), zi (-1), zu]) dX12_elects_160 (by decide) rfl ?_
    refine z_iconst dX12_elects_162 (by unfold zIn; decide) ?_
    refine z_istore (ls' := [zr 98, zi v1, zi v2, zi v3, zi v4, zi v5, zi v6, zi (-1), zi (-1), zi 0]) dX12_elects_163 (by decide) rfl ?_
    exact k8 h1
  refine z_iload dX12_elects_113 rfl ?_
  refine z_aload_n dX12_elects_115 rfl rfl ?_
  refine z_getfI (k := 1) flRX12_256 rfl rfl dX12_elects_116 ?_
  refine z_icmp_ge dX12_elects_119 (tgt := 148) (by decide) (fun h1 => ?_) (fun h1 => ?_)
  · skip
    refine z_aload_n dX12_elects_148 rfl rfl ?_
    refine z_iload dX12_elects_149 rfl ?_
    refine z_iconst dX12_elects_151 (by unfold zIn; decide) ?_
    have s1 : -2147483648 ≤ v4 + 1 ∧ v4 + 1 < (2147483648 : Int) := k1 h1
    refine z_iaddN dX12_elects_152 s1 ?_
    refine z_putI (k := 92) fpRX12_392 rfl rfl dX12_elects_153 ?_
    exact J156 h1
  · skip
    refine z_aload_n dX12_elects_122 rfl rfl ?_
    refine z_getfR (k := 95) flRX12_229 rfl rfl dX12_elects_123 ?_
    refine z_bipush (x := 24) dX12_elects_126 (by decide +kernel) (by unfold zIn; decide) ?_
    refine z_iload dX12_elects_128 rfl ?_
    have s2 : -2147483648 ≤ 24 * v4 ∧ 24 * v4 < (2147483648 : Int) := k2 h1
    refine z_imulN dX12_elects_130 s2 ?_
    refine z_iload dX12_elects_131 rfl ?_
    have s3 : -2147483648 ≤ (24 * v4) + v7 ∧ (24 * v4) + v7 < (2147483648 : Int) := k3 h1
    refine z_iaddN dX12_elects_133 s3 ?_
    refine z_aload_n dX12_elects_134 rfl rfl ?_
    refine z_getfR (k := 97) flRX12_235 rfl rfl dX12_elects_135 ?_
    refine z_iload dX12_elects_138 rfl ?_
    have s4 : (0 : Int) ≤ v7 ∧ v7 < (24 : Int) := k4 h1
    refine z_iald rfl s4.1 s4.2 dX12_elects_140 ?_
    have s5 : (0 : Int) ≤ (24 * v4) + v7 ∧ (24 * v4) + v7 < (576 : Int) := k5 h1
    refine z_iast rfl s5.1 s5.2 dX12_elects_141 ?_
    have s6 : -2147483648 ≤ v7 + 1 ∧ v7 + 1 < (2147483648 : Int) := k6 h1
    refine z_iincN (ls' := [zr 98, zi v1, zi v2, zi v3, zi v4, zi v5, zi v6, zi (v7 + 1), zu, zu]) dX12_elects_142 rfl (by decide) s6 rfl ?_
    refine z_goto dX12_elects_145 (tgt := 113) (by decide) ?_
    exact k7 h1
set_option maxRecDepth 20000 in
set_option maxHeartbeats 1000000 in
theorem TX12_elects_165 {G : zG} {σ : zS} {Q : Int → zS → Prop} {v1 v2 v3 v4 v5 v6 v7 v8 v9 : Int}  (k1 : (σ 98 1 ≤ v9) → (v5 ≠ 2) → -2147483648 ≤ v4 + 1 ∧ v4 + 1 < (2147483648 : Int)) (k2 : (σ 98 1 ≤ v9) → (v5 ≠ 2) → zR G MX12_elects 5 [zr 98, zi v1, zi v2, zi (zand v3 (zxor (zshl 1 v7) (-1))), zi (v4 + 1), zu, zu, zu, zu, zu] [] σ Q) (k3 : (σ 98 1 ≤ v9) → (v5 = 2) → zO G MX12_choice [zr 98, zi 12, zi v3] σ (fun rr σ' => zR G MX12_elects 316 [zr 98, zi v1, zi v2, zi v3, zi v4, zi v5, zi v6, zi v7, zi v8, zi v9] [zi rr] σ' Q)) (k4 : (v9 < σ 98 1) → (zand (zshr v3 v9) 1 ≠ 0) → (v5 ≠ 1) → (0 : Int) ≤ v9 ∧ v9 < (24 : Int)) (k5 : (v9 < σ 98 1) → (zand (zshr v3 v9) 1 ≠ 0) → (v5 ≠ 1) → -2147483648 ≤ 2 * σ 172 v9 ∧ 2 * σ 172 v9 < (2147483648 : Int)) (k6 : (v9 < σ 98 1) → (zand (zshr v3 v9) 1 ≠ 0) → (v5 ≠ 1) → (2 * σ 172 v9 ≤ v6) → (v7 ≠ (-1)) → (0 : Int) ≤ v7 ∧ v7 < (24 : Int)) (k7 : (v9 < σ 98 1) → (zand (zshr v3 v9) 1 ≠ 0) → (v5 = 1 ∨ (v5 ≠ 1 ∧ v6 < 2 * σ 172 v9)) → Q v9 σ) (k8 : (v9 < σ 98 1) → (zand (zshr v3 v9) 1 ≠ 0) → (v5 ≠ 1) → (2 * σ 172 v9 ≤ v6) → (v7 ≠ (-1)) → (σ 172 v7 ≤ σ 172 v9) → (σ 172 v9 ≠ σ 172 v7 ∨ (σ 172 v9 = σ 172 v7 ∧ σ 99 v9 < σ 99 v7)) → (v8 ≠ (-1)) → (0 : Int) ≤ v9 ∧ v9 < (24 : Int)) (k9 : (v9 < σ 98 1) → (zand (zshr v3 v9) 1 ≠ 0) → (v5 ≠ 1) → (2 * σ 172 v9 ≤ v6) → (v7 ≠ (-1)) → (σ 172 v7 ≤ σ 172 v9) → (σ 172 v9 ≠ σ 172 v7 ∨ (σ 172 v9 = σ 172 v7 ∧ σ 99 v9 < σ 99 v7)) → (v8 ≠ (-1)) → (0 : Int) ≤ v8 ∧ v8 < (24 : Int)) (k10 : (v9 < σ 98 1) → (zand (zshr v3 v9) 1 ≠ 0) → (v5 ≠ 1) → (2 * σ 172 v9 ≤ v6) → (v7 = (-1) ∨ (v7 ≠ (-1) ∧ σ 172 v9 < σ 172 v7) ∨ (v7 ≠ (-1) ∧ σ 172 v7 ≤ σ 172 v9 ∧ σ 172 v9 = σ 172 v7 ∧ σ 99 v7 ≤ σ 99 v9)) → (v8 ≠ (-1)) → (0 : Int) ≤ v9 ∧ v9 < (24 : Int)) (k11 : (v9 < σ 98 1) → (zand (zshr v3 v9) 1 ≠ 0) → (v5 ≠ 1) → (2 * σ 172 v9 ≤ v6) → (v7 = (-1) ∨ (v7 ≠ (-1) ∧ σ 172 v9 < σ 172 v7) ∨ (v7 ≠ (-1) ∧ σ 172 v7 ≤ σ 172 v9 ∧ σ 172 v9 = σ 172 v7 ∧ σ 99 v7 ≤ σ 99 v9)) → (v8 ≠ (-1)) → (0 : Int) ≤ v8 ∧ v8 < (24 : Int)) (k12 : (v9 < σ 98 1) → (zand (zshr v3 v9) 1 = 0 ∨ (zand (zshr v3 v9) 1 ≠ 0 ∧ v5 ≠ 1 ∧ 2 * σ 172 v9 ≤ v6 ∧ v7 ≠ (-1) ∧ σ 172 v7 ≤ σ 172 v9 ∧ (σ 172 v9 ≠ σ 172 v7 ∨ (σ 172 v9 = σ 172 v7 ∧ σ 99 v9 < σ 99 v7)) ∧ v8 ≠ (-1) ∧ σ 99 v8 ≤ σ 99 v9)) → -2147483648 ≤ v9 + 1 ∧ v9 + 1 < (2147483648 : Int)) (k13 : (v9 < σ 98 1) → (zand (zshr v3 v9) 1 = 0 ∨ (zand (zshr v3 v9) 1 ≠ 0 ∧ v5 ≠ 1 ∧ 2 * σ 172 v9 ≤ v6 ∧ v7 ≠ (-1) ∧ σ 172 v7 ≤ σ 172 v9 ∧ (σ 172 v9 ≠ σ 172 v7 ∨ (σ 172 v9 = σ 172 v7 ∧ σ 99 v9 < σ 99 v7)) ∧ v8 ≠ (-1) ∧ σ 99 v8 ≤ σ 99 v9)) → zR G MX12_elects 165 [zr 98, zi v1, zi v2, zi v3, zi v4, zi v5, zi v6, zi v7, zi v8, zi (v9 + 1)] [] σ Q) (k14 : (v9 < σ 98 1) → (zand (zshr v3 v9) 1 ≠ 0) → (v5 ≠ 1) → (2 * σ 172 v9 ≤ v6) → (v7 = (-1) ∨ (v7 ≠ (-1) ∧ σ 172 v9 < σ 172 v7) ∨ (v7 ≠ (-1) ∧ σ 172 v7 ≤ σ 172 v9 ∧ σ 172 v9 = σ 172 v7 ∧ σ 99 v7 ≤ σ 99 v9)) → (v8 ≠ (-1)) → (σ 99 v8 ≤ σ 99 v9) → -2147483648 ≤ v9 + 1 ∧ v9 + 1 < (2147483648 : Int)) (k15 : (v9 < σ 98 1) → (zand (zshr v3 v9) 1 ≠ 0) → (v5 ≠ 1) → (2 * σ 172 v9 ≤ v6) → (v7 = (-1) ∨ (v7 ≠ (-1) ∧ σ 172 v9 < σ 172 v7) ∨ (v7 ≠ (-1) ∧ σ 172 v7 ≤ σ 172 v9 ∧ σ 172 v9 = σ 172 v7 ∧ σ 99 v7 ≤ σ 99 v9)) → (v8 ≠ (-1)) → (σ 99 v8 ≤ σ 99 v9) → zR G MX12_elects 165 [zr 98, zi v1, zi v2, zi v3, zi v4, zi v5, zi v6, zi v9, zi v8, zi (v9 + 1)] [] σ Q) (k16 : (v9 < σ 98 1) → (zand (zshr v3 v9) 1 ≠ 0) → (v5 ≠ 1) → (2 * σ 172 v9 ≤ v6) → (v7 ≠ (-1)) → (σ 172 v7 ≤ σ 172 v9) → (σ 172 v9 ≠ σ 172 v7 ∨ (σ 172 v9 = σ 172 v7 ∧ σ 99 v9 < σ 99 v7)) → (v8 = (-1) ∨ (v8 ≠ (-1) ∧ σ 99 v9 < σ 99 v8)) → -2147483648 ≤ v9 + 1 ∧ v9 + 1 < (2147483648 : Int)) (k17 : (v9 < σ 98 1) → (zand (zshr v3 v9) 1 ≠ 0) → (v5 ≠ 1) → (2 * σ 172 v9 ≤ v6) → (v7 ≠ (-1)) → (σ 172 v7 ≤ σ 172 v9) → (σ 172 v9 ≠ σ 172 v7 ∨ (σ 172 v9 = σ 172 v7 ∧ σ 99 v9 < σ 99 v7)) → (v8 = (-1) ∨ (v8 ≠ (-1) ∧ σ 99 v9 < σ 99 v8)) → zR G MX12_elects 165 [zr 98, zi v1, zi v2, zi v3, zi v4, zi v5, zi v6, zi v7, zi v9, zi (v9 + 1)] [] σ Q) (k18 : (v9 < σ 98 1) → (zand (zshr v3 v9) 1 ≠ 0) → (v5 ≠ 1) → (2 * σ 172 v9 ≤ v6) → (v7 = (-1) ∨ (v7 ≠ (-1) ∧ σ 172 v9 < σ 172 v7) ∨ (v7 ≠ (-1) ∧ σ 172 v7 ≤ σ 172 v9 ∧ σ 172 v9 = σ 172 v7 ∧ σ 99 v7 ≤ σ 99 v9)) → (v8 = (-1) ∨ (v8 ≠ (-1) ∧ σ 99 v9 < σ 99 v8)) → -2147483648 ≤ v9 + 1 ∧ v9 + 1 < (2147483648 : Int)) (k19 : (v9 < σ 98 1) → (zand (zshr v3 v9) 1 ≠ 0) → (v5 ≠ 1) → (2 * σ 172 v9 ≤ v6) → (v7 = (-1) ∨ (v7 ≠ (-1) ∧ σ 172 v9 < σ 172 v7) ∨ (v7 ≠ (-1) ∧ σ 172 v7 ≤ σ 172 v9 ∧ σ 172 v9 = σ 172 v7 ∧ σ 99 v7 ≤ σ 99 v9)) → (v8 = (-1) ∨ (v8 ≠ (-1) ∧ σ 99 v9 < σ 99 v8)) → zR G MX12_elects 165 [zr 98, zi v1, zi v2, zi v3, zi v4, zi v5, zi v6, zi v9, zi v9, zi (v9 + 1)] [] σ Q) : zR G MX12_elects 165 [zr 98, zi v1, zi v2, zi v3, zi v4, zi v5, zi v6, zi v7, zi v8, zi v9] [] σ Q := by
  have J297_3 : (v9 < σ 98 1) → (zand (zshr v3 v9) 1 ≠ 0) → (v5 ≠ 1) → (2 * σ 172 v9 ≤ v6) → (v7 = (-1) ∨ (v7 ≠ (-1) ∧ σ 172 v9 < σ 172 v7) ∨ (v7 ≠ (-1) ∧ σ 172 v7 ≤ σ 172 v9 ∧ σ 172 v9 = σ 172 v7 ∧ σ 99 v7 ≤ σ 99 v9)) → (v8 = (-1) ∨ (v8 ≠ (-1) ∧ σ 99 v9 < σ 99 v8)) → zR G MX12_elects 297 [zr 98, zi v1, zi v2, zi v3, zi v4, zi v5, zi v6, zi v9, zi v9, zi v9] [] σ Q := by
    intro h1 h3 h4 h5 h11 h18
    have s18 : -2147483648 ≤ v9 + 1 ∧ v9 + 1 < (2147483648 : Int) := k18 h1 h3 h4 h5 h11 h18
    refine z_iincN (ls' := [zr 98, zi v1, zi v2, zi v3, zi v4, zi v5, zi v6, zi v9, zi v9, zi (v9 + 1)]) dX12_elects_297 rfl (by decide) s18 rfl ?_
    refine z_goto dX12_elects_300 (tgt := 165) (by decide) ?_
    exact k19 h1 h3 h4 h5 h11 h18
  have J297_2 : (v9 < σ 98 1) → (zand (zshr v3 v9) 1 ≠ 0) → (v5 ≠ 1) → (2 * σ 172 v9 ≤ v6) → (v7 ≠ (-1)) → (σ 172 v7 ≤ σ 172 v9) → (σ 172 v9 ≠ σ 172 v7 ∨ (σ 172 v9 = σ 172 v7 ∧ σ 99 v9 < σ 99 v7)) → (v8 = (-1) ∨ (v8 ≠ (-1) ∧ σ 99 v9 < σ 99 v8)) → zR G MX12_elects 297 [zr 98, zi v1, zi v2, zi v3, zi v4, zi v5, zi v6, zi v7, zi v9, zi v9] [] σ Q := by
    intro h1 h3 h4 h5 h6 h7 h12 h17
    have s16 : -2147483648 ≤ v9 + 1 ∧ v9 + 1 < (2147483648 : Int) := k16 h1 h3 h4 h5 h6 h7 h12 h17
    refine z_iincN (ls' := [zr 98, zi v1, zi v2, zi v3, zi v4, zi v5, zi v6, zi v7, zi v9, zi (v9 + 1)]) dX12_elects_297 rfl (by decide) s16 rfl ?_
    refine z_goto dX12_elects_300 (tgt := 165) (by decide) ?_
    exact k17 h1 h3 h4 h5 h6 h7 h12 h17
  have J297_1 : (v9 < σ 98 1) → (zand (zshr v3 v9) 1 ≠ 0) → (v5 ≠ 1) → (2 * σ 172 v9 ≤ v6) → (v7 = (-1) ∨ (v7 ≠ (-1) ∧ σ 172 v9 < σ 172 v7) ∨ (v7 ≠ (-1) ∧ σ 172 v7 ≤ σ 172 v9 ∧ σ 172 v9 = σ 172 v7 ∧ σ 99 v7 ≤ σ 99 v9)) → (v8 ≠ (-1)) → (σ 99 v8 ≤ σ 99 v9) → zR G MX12_elects 297 [zr 98, zi v1, zi v2, zi v3, zi v4, zi v5, zi v6, zi v9, zi v8, zi v9] [] σ Q := by
    intro h1 h3 h4 h5 h11 h15 h16
    have s14 : -2147483648 ≤ v9 + 1 ∧ v9 + 1 < (2147483648 : Int) := k14 h1 h3 h4 h5 h11 h15 h16
    refine z_iincN (ls' := [zr 98, zi v1, zi v2, zi v3, zi v4, zi v5, zi v6, zi v9, zi v8, zi (v9 + 1)]) dX12_elects_297 rfl (by decide) s14 rfl ?_
    refine z_goto dX12_elects_300 (tgt := 165) (by decide) ?_
    exact k15 h1 h3 h4 h5 h11 h15 h16
  have J297 : (v9 < σ 98 1) → (zand (zshr v3 v9) 1 = 0 ∨ (zand (zshr v3 v9) 1 ≠ 0 ∧ v5 ≠ 1 ∧ 2 * σ 172 v9 ≤ v6 ∧ v7 ≠ (-1) ∧ σ 172 v7 ≤ σ 172 v9 ∧ (σ 172 v9 ≠ σ 172 v7 ∨ (σ 172 v9 = σ 172 v7 ∧ σ 99 v9 < σ 99 v7)) ∧ v8 ≠ (-1) ∧ σ 99 v8 ≤ σ 99 v9)) → zR G MX12_elects 297 [zr 98, zi v1, zi v2, zi v3, zi v4, zi v5, zi v6, zi v7, zi v8, zi v9] [] σ Q := by
    intro h1 h19
    have s12 : -2147483648 ≤ v9 + 1 ∧ v9 + 1 < (2147483648 : Int) := k12 h1 h19
    refine z_iincN (ls' := [zr 98, zi v1, zi v2, zi v3, zi v4, zi v5, zi v6, zi v7, zi v8, zi (v9 + 1)]) dX12_elects_297 rfl (by decide) s12 rfl ?_
    refine z_goto dX12_elects_300 (tgt := 165) (by decide) ?_
    exact k13 h1 h19
  have J293_1 : (v9 < σ 98 1) → (zand (zshr v3 v9) 1 ≠ 0) → (v5 ≠ 1) → (2 * σ 172 v9 ≤ v6) → (v7 = (-1) ∨ (v7 ≠ (-1) ∧ σ 172 v9 < σ 172 v7) ∨ (v7 ≠ (-1) ∧ σ 172 v7 ≤ σ 172 v9 ∧ σ 172 v9 = σ 172 v7 ∧ σ 99 v7 ≤ σ 99 v9)) → (v8 = (-1) ∨ (v8 ≠ (-1) ∧ σ 99 v9 < σ 99 v8)) → zR G MX12_elects 293 [zr 98, zi v1, zi v2, zi v3, zi v4, zi v5, zi v6, zi v9, zi v8, zi v9] [] σ Q := by
    intro h1 h3 h4 h5 h11 h18
    refine z_iload dX12_elects_293 rfl ?_
    refine z_istore (ls' := [zr 98, zi v1, zi v2, zi v3, zi v4, zi v5, zi v6, zi v9, zi v9, zi v9]) dX12_elects_295 (by decide) rfl ?_
    exact J297_3 h1 h3 h4 h5 h11 h18
  have J293 : (v9 < σ 98 1) → (zand (zshr v3 v9) 1 ≠ 0) → (v5 ≠ 1) → (2 * σ 172 v9 ≤ v6) → (v7 ≠ (-1)) → (σ 172 v7 ≤ σ 172 v9) → (σ 172 v9 ≠ σ 172 v7 ∨ (σ 172 v9 = σ 172 v7 ∧ σ 99 v9 < σ 99 v7)) → (v8 = (-1) ∨ (v8 ≠ (-1) ∧ σ 99 v9 < σ 99 v8)) → zR G MX12_elects 293 [zr 98, zi v1, zi v2, zi v3, zi v4, zi v5, zi v6, zi v7, zi v8, zi v9] [] σ Q := by
    intro h1 h3 h4 h5 h6 h7 h12 h17
    refine z_iload dX12_elects_293 rfl ?_
    refine z_istore (ls' := [zr 98, zi v1, zi v2, zi v3, zi v4, zi v5, zi v6, zi v7, zi v9, zi v9]) dX12_elects_295 (by decide) rfl ?_
    exact J297_2 h1 h3 h4 h5 h6 h7 h12 h17
  have J270_1 : (v9 < σ 98 1) → (zand (zshr v3 v9) 1 ≠ 0) → (v5 ≠ 1) → (2 * σ 172 v9 ≤ v6) → (v7 = (-1) ∨ (v7 ≠ (-1) ∧ σ 172 v9 < σ 172 v7) ∨ (v7 ≠ (-1) ∧ σ 172 v7 ≤ σ 172 v9 ∧ σ 172 v9 = σ 172 v7 ∧ σ 99 v7 ≤ σ 99 v9)) → zR G MX12_elects 270 [zr 98, zi v1, zi v2, zi v3, zi v4, zi v5, zi v6, zi v9, zi v8, zi v9] [] σ Q := by
    intro h1 h3 h4 h5 h11
    refine z_iload dX12_elects_270 rfl ?_
    refine z_iconst dX12_elects_272 (by unfold zIn; decide) ?_
    refine z_icmp_eq dX12_elects_273 (tgt := 293) (by decide) (fun h15 => ?_) (fun h15 => ?_)
    · skip
      exact J293_1 h1 h3 h4 h5 h11 (Or.inl h15)
    · skip
      refine z_aload_n dX12_elects_276 rfl rfl ?_
      refine z_getfR (k := 13) flRX12_13 rfl rfl dX12_elects_277 ?_
      refine z_iload dX12_elects_280 rfl ?_
      have s10 : (0 : Int) ≤ v9 ∧ v9 < (24 : Int) := k10 h1 h3 h4 h5 h11 h15
      refine z_iald rfl s10.1 s10.2 dX12_elects_282 ?_
      refine z_aload_n dX12_elects_283 rfl rfl ?_
      refine z_getfR (k := 13) flRX12_13 rfl rfl dX12_elects_284 ?_
      refine z_iload dX12_elects_287 rfl ?_
      have s11 : (0 : Int) ≤ v8 ∧ v8 < (24 : Int) := k11 h1 h3 h4 h5 h11 h15
      refine z_iald rfl s11.1 s11.2 dX12_elects_289 ?_
      refine z_icmp_ge dX12_elects_290 (tgt := 297) (by decide) (fun h16 => ?_) (fun h16 => ?_)
      · skip
        exact J297_1 h1 h3 h4 h5 h11 h15 h16
      · skip
        exact J293_1 h1 h3 h4 h5 h11 (Or.inr ⟨h15, h16⟩)
  have J270 : (v9 < σ 98 1) → (zand (zshr v3 v9) 1 ≠ 0) → (v5 ≠ 1) → (2 * σ 172 v9 ≤ v6) → (v7 ≠ (-1)) → (σ 172 v7 ≤ σ 172 v9) → (σ 172 v9 ≠ σ 172 v7 ∨ (σ 172 v9 = σ 172 v7 ∧ σ 99 v9 < σ 99 v7)) → zR G MX12_elects 270 [zr 98, zi v1, zi v2, zi v3, zi v4, zi v5, zi v6, zi v7, zi v8, zi v9] [] σ Q := by
    intro h1 h3 h4 h5 h6 h7 h12
    refine z_iload dX12_elects_270 rfl ?_
    refine z_iconst dX12_elects_272 (by unfold zIn; decide) ?_
    refine z_icmp_eq dX12_elects_273 (tgt := 293) (by decide) (fun h13 => ?_) (fun h13 => ?_)
    · skip
      exact J293 h1 h3 h4 h5 h6 h7 h12 (Or.inl h13)
    · skip
      refine z_aload_n dX12_elects_276 rfl rfl ?_
      refine z_getfR (k := 13) flRX12_13 rfl rfl dX12_elects_277 ?_
      refine z_iload dX12_elects_280 rfl ?_
      have s8 : (0 : Int) ≤ v9 ∧ v9 < (24 : Int) := k8 h1 h3 h4 h5 h6 h7 h12 h13
      refine z_iald rfl s8.1 s8.2 dX12_elects_282 ?_
      refine z_aload_n dX12_elects_283 rfl rfl ?_
      refine z_getfR (k := 13) flRX12_13 rfl rfl dX12_elects_284 ?_
      refine z_iload dX12_elects_287 rfl ?_
      have s9 : (0 : Int) ≤ v8 ∧ v8 < (24 : Int) := k9 h1 h3 h4 h5 h6 h7 h12 h13
      refine z_iald rfl s9.1 s9.2 dX12_elects_289 ?_
      refine z_icmp_ge dX12_elects_290 (tgt := 297) (by decide) (fun h14 => ?_) (fun h14 => ?_)
      · skip
        exact J297 h1 (Or.inr ⟨h3, h4, h5, h6, h7, h12, h13, h14⟩)
      · skip
        exact J293 h1 h3 h4 h5 h6 h7 h12 (Or.inr ⟨h13, h14⟩)
  have J266 : (v9 < σ 98 1) → (zand (zshr v3 v9) 1 ≠ 0) → (v5 ≠ 1) → (2 * σ 172 v9 ≤ v6) → (v7 = (-1) ∨ (v7 ≠ (-1) ∧ σ 172 v9 < σ 172 v7) ∨ (v7 ≠ (-1) ∧ σ 172 v7 ≤ σ 172 v9 ∧ σ 172 v9 = σ 172 v7 ∧ σ 99 v7 ≤ σ 99 v9)) → zR G MX12_elects 266 [zr 98, zi v1, zi v2, zi v3, zi v4, zi v5, zi v6, zi v7, zi v8, zi v9] [] σ Q := by
    intro h1 h3 h4 h5 h11
    refine z_iload dX12_elects_266 rfl ?_
    refine z_istore (ls' := [zr 98, zi v1, zi v2, zi v3, zi v4, zi v5, zi v6, zi v9, zi v8, zi v9]) dX12_elects_268 (by decide) rfl ?_
    exact J270_1 h1 h3 h4 h5 h11
  have J206 : (v9 < σ 98 1) → (zand (zshr v3 v9) 1 ≠ 0) → (v5 = 1 ∨ (v5 ≠ 1 ∧ v6 < 2 * σ 172 v9)) → zR G MX12_elects 206 [zr 98, zi v1, zi v2, zi v3, zi v4, zi v5, zi v6, zi v7, zi v8, zi v9] [] σ Q := by
    intro h1 h3 h10
    refine z_iload dX12_elects_206 rfl ?_
    exact z_ireti rfl dX12_elects_208 (k7 h1 h3 h10)
  refine z_iload dX12_elects_165 rfl ?_
  refine z_aload_n dX12_elects_167 rfl rfl ?_
  refine z_getfI (k := 1) flRX12_256 rfl rfl dX12_elects_168 ?_
  refine z_icmp_ge dX12_elects_171 (tgt := 303) (by decide) (fun h1 => ?_) (fun h1 => ?_)
  · skip
    refine z_iload dX12_elects_303 rfl ?_
    refine z_iconst dX12_elects_305 (by unfold zIn; decide) ?_
    refine z_icmp_ne dX12_elects_306 (tgt := 332) (by decide) (fun h2 => ?_) (fun h2 => ?_)
    · skip
      refine z_iload_n dX12_elects_332 rfl rfl ?_
      refine z_iconst dX12_elects_333 (by unfold zIn; decide) ?_
      refine z_iload dX12_elects_334 rfl ?_
      refine z_ishl dX12_elects_336 ?_
      refine z_iconst dX12_elects_337 (by unfold zIn; decide) ?_
      refine z_ixor dX12_elects_338 ?_
      refine z_iand dX12_elects_339 ?_
      refine z_istore_n (ls' := [zr 98, zi v1, zi v2, zi (zand v3 (zxor (zshl 1 v7) (-1))), zi v4, zi v5, zi v6, zi v7, zi v8, zi v9]) dX12_elects_340 rfl (by decide) rfl ?_
      have s1 : -2147483648 ≤ v4 + 1 ∧ v4 + 1 < (2147483648 : Int) := k1 h1 h2
      refine z_iincN (ls' := [zr 98, zi v1, zi v2, zi (zand v3 (zxor (zshl 1 v7) (-1))), zi (v4 + 1), zi v5, zi v6, zi v7, zi v8, zi v9]) dX12_elects_341 rfl (by decide) s1 rfl ?_
      refine z_goto dX12_elects_344 (tgt := 5) (by decide) ?_
      exact zR_fg [false, false, false, false, false, true, true, true, true, true] (k2 h1 h2)
    · skip
      refine z_aload_n dX12_elects_309 rfl rfl ?_
      refine z_bipush (x := 12) dX12_elects_310 (by decide +kernel) (by unfold zIn; decide) ?_
      refine z_iload_n dX12_elects_312 rfl rfl ?_
      refine z_callv (as := [zi 12, zi v3]) (st := []) mkX12_choice lkRX12_389 rfl rfl rfl (by decide) (Nat.le_of_ble_eq_true rfl) rfl dX12_elects_313 (k3 h1 h2)
  · skip
    refine z_iload_n dX12_elects_174 rfl rfl ?_
    refine z_iload dX12_elects_175 rfl ?_
    refine z_ishr dX12_elects_177 ?_
    refine z_iconst dX12_elects_178 (by unfold zIn; decide) ?_
    refine z_iand dX12_elects_179 ?_
    refine z_if_ne dX12_elects_180 (tgt := 186) (by decide) (fun h3 => ?_) (fun h3 => ?_)
    · skip
      refine z_iload dX12_elects_186 rfl ?_
      refine z_iconst dX12_elects_188 (by unfold zIn; decide) ?_
      refine z_icmp_eq dX12_elects_189 (tgt := 206) (by decide) (fun h4 => ?_) (fun h4 => ?_)
      · skip
        exact J206 h1 h3 (Or.inl h4)
      · skip
        refine z_iconst dX12_elects_192 (by unfold zIn; decide) ?_
        refine z_aload_n dX12_elects_193 rfl rfl ?_
        refine z_getfR (k := 97) flRX12_235 rfl rfl dX12_elects_194 ?_
        refine z_iload dX12_elects_197 rfl ?_
        have s4 : (0 : Int) ≤ v9 ∧ v9 < (24 : Int) := k4 h1 h3 h4
        refine z_iald rfl s4.1 s4.2 dX12_elects_199 ?_
        have s5 : -2147483648 ≤ 2 * σ 172 v9 ∧ 2 * σ 172 v9 < (2147483648 : Int) := k5 h1 h3 h4
        refine z_imulN dX12_elects_200 s5 ?_
        refine z_iload dX12_elects_201 rfl ?_
        refine z_icmp_le dX12_elects_203 (tgt := 209) (by decide) (fun h5 => ?_) (fun h5 => ?_)
        · skip
          refine z_iload dX12_elects_209 rfl ?_
          refine z_iconst dX12_elects_211 (by unfold zIn; decide) ?_
          refine z_icmp_eq dX12_elects_212 (tgt := 266) (by decide) (fun h6 => ?_) (fun h6 => ?_)
          · skip
            exact J266 h1 h3 h4 h5 (Or.inl h6)
          · skip
            refine z_aload_n dX12_elects_215 rfl rfl ?_
            refine z_getfR (k := 97) flRX12_235 rfl rfl dX12_elects_216 ?_
            refine z_iload dX12_elects_219 rfl ?_
            refine z_iald rfl s4.1 s4.2 dX12_elects_221 ?_
            refine z_aload_n dX12_elects_222 rfl rfl ?_
            refine z_getfR (k := 97) flRX12_235 rfl rfl dX12_elects_223 ?_
            refine z_iload dX12_elects_226 rfl ?_
            have s6 : (0 : Int) ≤ v7 ∧ v7 < (24 : Int) := k6 h1 h3 h4 h5 h6
            refine z_iald rfl s6.1 s6.2 dX12_elects_228 ?_
            refine z_icmp_lt dX12_elects_229 (tgt := 266) (by decide) (fun h7 => ?_) (fun h7 => ?_)
            · skip
              exact J266 h1 h3 h4 h5 (Or.inr (Or.inl ⟨h6, h7⟩))
            · skip
              refine z_aload_n dX12_elects_232 rfl rfl ?_
              refine z_getfR (k := 97) flRX12_235 rfl rfl dX12_elects_233 ?_
              refine z_iload dX12_elects_236 rfl ?_
              refine z_iald rfl s4.1 s4.2 dX12_elects_238 ?_
              refine z_aload_n dX12_elects_239 rfl rfl ?_
              refine z_getfR (k := 97) flRX12_235 rfl rfl dX12_elects_240 ?_
              refine z_iload dX12_elects_243 rfl ?_
              refine z_iald rfl s6.1 s6.2 dX12_elects_245 ?_
              refine z_icmp_ne dX12_elects_246 (tgt := 270) (by decide) (fun h8 => ?_) (fun h8 => ?_)
              · skip
                exact J270 h1 h3 h4 h5 h6 h7 (Or.inl h8)
              · skip
                refine z_aload_n dX12_elects_249 rfl rfl ?_
                refine z_getfR (k := 13) flRX12_13 rfl rfl dX12_elects_250 ?_
                refine z_iload dX12_elects_253 rfl ?_
                refine z_iald rfl s4.1 s4.2 dX12_elects_255 ?_
                refine z_aload_n dX12_elects_256 rfl rfl ?_
                refine z_getfR (k := 13) flRX12_13 rfl rfl dX12_elects_257 ?_
                refine z_iload dX12_elects_260 rfl ?_
                refine z_iald rfl s6.1 s6.2 dX12_elects_262 ?_
                refine z_icmp_lt dX12_elects_263 (tgt := 270) (by decide) (fun h9 => ?_) (fun h9 => ?_)
                · skip
                  exact J270 h1 h3 h4 h5 h6 h7 (Or.inr ⟨h8, h9⟩)
                · skip
                  exact J266 h1 h3 h4 h5 (Or.inr (Or.inr ⟨h6, h7, h8, h9⟩))
        · skip
          exact J206 h1 h3 (Or.inr ⟨h4, h5⟩)
    · skip
      refine z_goto dX12_elects_183 (tgt := 297) (by decide) ?_
      exact J297 h1 (Or.inl h3)
set_option maxRecDepth 20000 in
set_option maxHeartbeats 1000000 in
theorem TX12_elects_316 {G : zG} {σ : zS} {Q : Int → zS → Prop} {v1 v2 v3 v4 v5 v6 v7 v8 v9 r : Int}  (k1 : (r ≠ (-1)) → Q r σ) (k2 : (r = (-1)) → Q v8 σ) : zR G MX12_elects 316 [zr 98, zi v1, zi v2, zi v3, zi v4, zi v5, zi v6, zi v7, zi v8, zi v9] [zi r] σ Q := by
  refine z_istore (ls' := [zr 98, zi v1, zi v2, zi v3, zi v4, zi v5, zi v6, zi v7, zi v8, zi r]) dX12_elects_316 (by decide) rfl ?_
  refine z_iload dX12_elects_318 rfl ?_
  refine z_iconst dX12_elects_320 (by unfold zIn; decide) ?_
  refine z_icmp_ne dX12_elects_321 (tgt := 329) (by decide) (fun h1 => ?_) (fun h1 => ?_)
  · skip
    refine z_iload dX12_elects_329 rfl ?_
    exact z_ireti rfl dX12_elects_331 (k1 h1)
  · skip
    refine z_iload dX12_elects_324 rfl ?_
    refine z_goto dX12_elects_326 (tgt := 331) (by decide) ?_
    exact z_ireti rfl dX12_elects_331 (k2 h1)
set_option maxRecDepth 20000 in
set_option maxHeartbeats 1000000 in
theorem TX12_elect {G : zG} {σ : zS} {Q : Int → zS → Prop} {a1 a2 : Int}  (k1 : ((0 ≤ a1 ∧ a1 < σ 98 4)) → (0 ≤ a2) → (a2 < zshl 1 (σ 98 1)) → (0 : Int) ≤ a1 ∧ a1 < (12 : Int)) (k2 : ((0 ≤ a1 ∧ a1 < σ 98 4)) → (0 ≤ a2) → (a2 < zshl 1 (σ 98 1)) → (σ 130 a1 = (-1)) → (a2 ≠ 0) → zR G MX12_elect 57 [zr 98, zi a1, zi a2, zi 0, zu, zu, zu] [] σ Q) (k3 : (¬ ((0 ≤ a1 ∧ a1 < σ 98 4))) → -2147483648 ≤ -(-1) ∧ -(-1) < (2147483648 : Int)) (k4 : (¬ ((0 ≤ a1 ∧ a1 < σ 98 4))) → (0 : Int) ≤ -(-1) ∧ -(-1) < (8 : Int)) (k5 : (¬ ((0 ≤ a1 ∧ a1 < σ 98 4))) → -2147483648 ≤ (σ 157 (-(-1))) + 1 ∧ (σ 157 (-(-1))) + 1 < (2147483648 : Int)) (k6 : (¬ ((0 ≤ a1 ∧ a1 < σ 98 4))) → Q (-1) (zup σ 157 (-(-1)) ((σ 157 (-(-1))) + 1))) (k7 : ((0 ≤ a1 ∧ a1 < σ 98 4)) → (a2 < 0 ∨ (0 ≤ a2 ∧ zshl 1 (σ 98 1) ≤ a2)) → -2147483648 ≤ -(-1) ∧ -(-1) < (2147483648 : Int)) (k8 : ((0 ≤ a1 ∧ a1 < σ 98 4)) → (a2 < 0 ∨ (0 ≤ a2 ∧ zshl 1 (σ 98 1) ≤ a2)) → (0 : Int) ≤ -(-1) ∧ -(-1) < (8 : Int)) (k9 : ((0 ≤ a1 ∧ a1 < σ 98 4)) → (a2 < 0 ∨ (0 ≤ a2 ∧ zshl 1 (σ 98 1) ≤ a2)) → -2147483648 ≤ (σ 157 (-(-1))) + 1 ∧ (σ 157 (-(-1))) + 1 < (2147483648 : Int)) (k10 : ((0 ≤ a1 ∧ a1 < σ 98 4)) → (a2 < 0 ∨ (0 ≤ a2 ∧ zshl 1 (σ 98 1) ≤ a2)) → Q (-1) (zup σ 157 (-(-1)) ((σ 157 (-(-1))) + 1))) (k11 : ((0 ≤ a1 ∧ a1 < σ 98 4)) → (0 ≤ a2) → (a2 < zshl 1 (σ 98 1)) → (σ 130 a1 ≠ (-1) ∨ (σ 130 a1 = (-1) ∧ a2 = 0)) → -2147483648 ≤ -(-6) ∧ -(-6) < (2147483648 : Int)) (k12 : ((0 ≤ a1 ∧ a1 < σ 98 4)) → (0 ≤ a2) → (a2 < zshl 1 (σ 98 1)) → (σ 130 a1 ≠ (-1) ∨ (σ 130 a1 = (-1) ∧ a2 = 0)) → (0 : Int) ≤ -(-6) ∧ -(-6) < (8 : Int)) (k13 : ((0 ≤ a1 ∧ a1 < σ 98 4)) → (0 ≤ a2) → (a2 < zshl 1 (σ 98 1)) → (σ 130 a1 ≠ (-1) ∨ (σ 130 a1 = (-1) ∧ a2 = 0)) → -2147483648 ≤ (σ 157 (-(-6))) + 1 ∧ (σ 157 (-(-6))) + 1 < (2147483648 : Int)) (k14 : ((0 ≤ a1 ∧ a1 < σ 98 4)) → (0 ≤ a2) → (a2 < zshl 1 (σ 98 1)) → (σ 130 a1 ≠ (-1) ∨ (σ 130 a1 = (-1) ∧ a2 = 0)) → Q (-6) (zup σ 157 (-(-6)) ((σ 157 (-(-6))) + 1))) : zO G MX12_elect [zr 98, zi a1, zi a2] σ Q := by
  refine zO_of (ls0 := [zr 98, zi a1, zi a2, zu, zu, zu, zu]) (by decide) (Nat.le_of_ble_eq_true rfl) rfl ?_
  have J48 : ((0 ≤ a1 ∧ a1 < σ 98 4)) → (0 ≤ a2) → (a2 < zshl 1 (σ 98 1)) → (σ 130 a1 ≠ (-1) ∨ (σ 130 a1 = (-1) ∧ a2 = 0)) → zR G MX12_elect 48 [zr 98, zi a1, zi a2, zu, zu, zu, zu] [] σ Q := by
    intro h1 h2 h3 h7
    refine z_aload_n dX12_elect_48 rfl rfl ?_
    refine z_bipush (x := (-6)) dX12_elect_49 (by decide +kernel) (by unfold zIn; decide) ?_
    have s11 : -2147483648 ≤ -(-6) ∧ -(-6) < (2147483648 : Int) := k11 h1 h2 h3 h7
    have s12 : (0 : Int) ≤ -(-6) ∧ -(-6) < (8 : Int) := k12 h1 h2 h3 h7
    have s13 : -2147483648 ≤ (σ 157 (-(-6))) + 1 ∧ (σ 157 (-(-6))) + 1 < (2147483648 : Int) := k13 h1 h2 h3 h7
    refine z_callv (as := [zi (-6)]) (st := []) mkX12_no lkRX12_267 rfl rfl rfl (by decide) (Nat.le_of_ble_eq_true rfl) rfl dX12_elect_51 ?_
    refine SX12_no s11 s12 s13 ?_
    show zR G MX12_elect 54 [zr 98, zi a1, zi a2, zu, zu, zu, zu] [zi (-6)] (zup σ 157 (-(-6)) ((σ 157 (-(-6))) + 1)) Q
    exact z_ireti rfl dX12_elect_54 (k14 h1 h2 h3 h7)
  have J28 : ((0 ≤ a1 ∧ a1 < σ 98 4)) → (a2 < 0 ∨ (0 ≤ a2 ∧ zshl 1 (σ 98 1) ≤ a2)) → zR G MX12_elect 28 [zr 98, zi a1, zi a2, zu, zu, zu, zu] [] σ Q := by
    intro h1 h6
    refine z_aload_n dX12_elect_28 rfl rfl ?_
    refine z_iconst dX12_elect_29 (by unfold zIn; decide) ?_
    have s7 : -2147483648 ≤ -(-1) ∧ -(-1) < (2147483648 : Int) := k7 h1 h6
    have s8 : (0 : Int) ≤ -(-1) ∧ -(-1) < (8 : Int) := k8 h1 h6
    have s9 : -2147483648 ≤ (σ 157 (-(-1))) + 1 ∧ (σ 157 (-(-1))) + 1 < (2147483648 : Int) := k9 h1 h6
    refine z_callv (as := [zi (-1)]) (st := []) mkX12_no lkRX12_267 rfl rfl rfl (by decide) (Nat.le_of_ble_eq_true rfl) rfl dX12_elect_30 ?_
    refine SX12_no s7 s8 s9 ?_
    show zR G MX12_elect 33 [zr 98, zi a1, zi a2, zu, zu, zu, zu] [zi (-1)] (zup σ 157 (-(-1)) ((σ 157 (-(-1))) + 1)) Q
    exact z_ireti rfl dX12_elect_33 (k10 h1 h6)
  refine z_aload_n dX12_elect_0 rfl rfl ?_
  refine z_iload_n dX12_elect_1 rfl rfl ?_
  refine z_callv (as := [zi a1]) (st := []) mkX12_isPlace lkRX12_368 rfl rfl rfl (by decide) (Nat.le_of_ble_eq_true rfl) rfl dX12_elect_2 ?_
  refine SX12_isPlace ?_
  show zR G MX12_elect 5 [zr 98, zi a1, zi a2, zu, zu, zu, zu] [zi (if (0 ≤ a1 ∧ a1 < σ 98 4) then (1 : Int) else 0)] σ Q
  refine z_if_ne dX12_elect_5 (tgt := 14) (by decide) (fun z => ?_) (fun z => ?_)
  · have h1 : (0 ≤ a1 ∧ a1 < σ 98 4) := zb1 z
    refine z_iload_n dX12_elect_14 rfl rfl ?_
    refine z_if_lt dX12_elect_15 (tgt := 28) (by decide) (fun h2 => ?_) (fun h2 => ?_)
    · skip
      exact J28 h1 (Or.inl h2)
    · skip
      refine z_iload_n dX12_elect_18 rfl rfl ?_
      refine z_iconst dX12_elect_19 (by unfold zIn; decide) ?_
      refine z_aload_n dX12_elect_20 rfl rfl ?_
      refine z_getfI (k := 1) flRX12_256 rfl rfl dX12_elect_21 ?_
      refine z_ishl dX12_elect_24 ?_
      refine z_icmp_lt dX12_elect_25 (tgt := 34) (by decide) (fun h3 => ?_) (fun h3 => ?_)
      · skip
        refine z_aload_n dX12_elect_34 rfl rfl ?_
        refine z_getfR (k := 45) flRX12_109 rfl rfl dX12_elect_35 ?_
        refine z_iload_n dX12_elect_38 rfl rfl ?_
        have s1 : (0 : Int) ≤ a1 ∧ a1 < (12 : Int) := k1 h1 h2 h3
        refine z_iald rfl s1.1 s1.2 dX12_elect_39 ?_
        refine z_iconst dX12_elect_40 (by unfold zIn; decide) ?_
        refine z_icmp_ne dX12_elect_41 (tgt := 48) (by decide) (fun h4 => ?_) (fun h4 => ?_)
        · skip
          exact J48 h1 h2 h3 (Or.inl h4)
        · skip
          refine z_iload_n dX12_elect_44 rfl rfl ?_
          refine z_if_ne dX12_elect_45 (tgt := 55) (by decide) (fun h5 => ?_) (fun h5 => ?_)
          · skip
            refine z_iconst dX12_elect_55 (by unfold zIn; decide) ?_
            refine z_istore_n (ls' := [zr 98, zi a1, zi a2, zi 0, zu, zu, zu]) dX12_elect_56 rfl (by decide) rfl ?_
            exact k2 h1 h2 h3 h4 h5
          · skip
            exact J48 h1 h2 h3 (Or.inr ⟨h4, h5⟩)
      · skip
        exact J28 h1 (Or.inr ⟨h2, h3⟩)
  · have h1 : ¬ ((0 ≤ a1 ∧ a1 < σ 98 4)) := zb0 z
    refine z_aload_n dX12_elect_8 rfl rfl ?_
    refine z_iconst dX12_elect_9 (by unfold zIn; decide) ?_
    have s3 : -2147483648 ≤ -(-1) ∧ -(-1) < (2147483648 : Int) := k3 h1
    have s4 : (0 : Int) ≤ -(-1) ∧ -(-1) < (8 : Int) := k4 h1
    have s5 : -2147483648 ≤ (σ 157 (-(-1))) + 1 ∧ (σ 157 (-(-1))) + 1 < (2147483648 : Int) := k5 h1
    refine z_callv (as := [zi (-1)]) (st := []) mkX12_no lkRX12_267 rfl rfl rfl (by decide) (Nat.le_of_ble_eq_true rfl) rfl dX12_elect_10 ?_
    refine SX12_no s3 s4 s5 ?_
    show zR G MX12_elect 13 [zr 98, zi a1, zi a2, zu, zu, zu, zu] [zi (-1)] (zup σ 157 (-(-1)) ((σ 157 (-(-1))) + 1)) Q
    exact z_ireti rfl dX12_elect_13 (k6 h1)
set_option maxRecDepth 20000 in
set_option maxHeartbeats 1000000 in
theorem TX12_elect_57 {G : zG} {σ : zS} {Q : Int → zS → Prop} {v1 v2 v3 : Int}  (k1 : (σ 98 1 ≤ v3) → zR G MX12_elect 127 [zr 98, zi v1, zi v2, zi 0, zi 0, zi (-1), zi 0] [] σ Q) (k2 : (v3 < σ 98 1) → (zand (zshr v2 v3) 1 = 1) → (0 : Int) ≤ v1 ∧ v1 < (12 : Int)) (k3 : (v3 < σ 98 1) → (zand (zshr v2 v3) 1 = 1) → zO G MX12_mayHold [zr 98, zi v3, zi (σ 129 v1)] σ (fun rr σ' => zR G MX12_elect 85 [zr 98, zi v1, zi v2, zi v3, zu, zu, zu] [zi rr] σ' Q)) (k4 : (v3 < σ 98 1) → (zand (zshr v2 v3) 1 ≠ 1) → -2147483648 ≤ v3 + 1 ∧ v3 + 1 < (2147483648 : Int)) (k5 : (v3 < σ 98 1) → (zand (zshr v2 v3) 1 ≠ 1) → zR G MX12_elect 57 [zr 98, zi v1, zi v2, zi (v3 + 1), zu, zu, zu] [] σ Q) : zR G MX12_elect 57 [zr 98, zi v1, zi v2, zi v3, zu, zu, zu] [] σ Q := by
  have J110 : (v3 < σ 98 1) → (zand (zshr v2 v3) 1 ≠ 1) → zR G MX12_elect 110 [zr 98, zi v1, zi v2, zi v3, zu, zu, zu] [] σ Q := by
    intro h1 h2
    have s4 : -2147483648 ≤ v3 + 1 ∧ v3 + 1 < (2147483648 : Int) := k4 h1 h2
    refine z_iincN (ls' := [zr 98, zi v1, zi v2, zi (v3 + 1), zu, zu, zu]) dX12_elect_110 rfl (by decide) s4 rfl ?_
    refine z_goto dX12_elect_113 (tgt := 57) (by decide) ?_
    exact k5 h1 h2
  refine z_iload_n dX12_elect_57 rfl rfl ?_
  refine z_aload_n dX12_elect_58 rfl rfl ?_
  refine z_getfI (k := 1) flRX12_256 rfl rfl dX12_elect_59 ?_
  refine z_icmp_ge dX12_elect_62 (tgt := 116) (by decide) (fun h1 => ?_) (fun h1 => ?_)
  · skip
    refine z_iconst dX12_elect_116 (by unfold zIn; decide) ?_
    refine z_istore_n (ls' := [zr 98, zi v1, zi v2, zi 0, zu, zu, zu]) dX12_elect_117 rfl (by decide) rfl ?_
    refine z_iconst dX12_elect_118 (by unfold zIn; decide) ?_
    refine z_istore (ls' := [zr 98, zi v1, zi v2, zi 0, zi 0, zu, zu]) dX12_elect_119 (by decide) rfl ?_
    refine z_iconst dX12_elect_121 (by unfold zIn; decide) ?_
    refine z_istore (ls' := [zr 98, zi v1, zi v2, zi 0, zi 0, zi (-1), zu]) dX12_elect_122 (by decide) rfl ?_
    refine z_iconst dX12_elect_124 (by unfold zIn; decide) ?_
    refine z_istore (ls' := [zr 98, zi v1, zi v2, zi 0, zi 0, zi (-1), zi 0]) dX12_elect_125 (by decide) rfl ?_
    exact k1 h1
  · skip
    refine z_iload_n dX12_elect_65 rfl rfl ?_
    refine z_iload_n dX12_elect_66 rfl rfl ?_
    refine z_ishr dX12_elect_67 ?_
    refine z_iconst dX12_elect_68 (by unfold zIn; decide) ?_
    refine z_iand dX12_elect_69 ?_
    refine z_iconst dX12_elect_70 (by unfold zIn; decide) ?_
    refine z_icmp_ne dX12_elect_71 (tgt := 110) (by decide) (fun h2 => ?_) (fun h2 => ?_)
    · skip
      exact J110 h1 h2
    · skip
      refine z_aload_n dX12_elect_74 rfl rfl ?_
      refine z_iload_n dX12_elect_75 rfl rfl ?_
      refine z_aload_n dX12_elect_76 rfl rfl ?_
      refine z_getfR (k := 44) flRX12_106 rfl rfl dX12_elect_77 ?_
      refine z_iload_n dX12_elect_80 rfl rfl ?_
      have s2 : (0 : Int) ≤ v1 ∧ v1 < (12 : Int) := k2 h1 h2
      refine z_iald rfl s2.1 s2.2 dX12_elect_81 ?_
      refine z_callv (as := [zi v3, zi (σ 129 v1)]) (st := []) mkX12_mayHold lkRX12_371 rfl rfl rfl (by decide) (Nat.le_of_ble_eq_true rfl) rfl dX12_elect_82 (k3 h1 h2)
set_option maxRecDepth 20000 in
set_option maxHeartbeats 1000000 in
theorem TX12_elect_85 {G : zG} {σ : zS} {Q : Int → zS → Prop} {v1 v2 v3 r : Int}  (k1 : (r ≠ 0) → (0 : Int) ≤ v1 ∧ v1 < (12 : Int)) (k2 : (r ≠ 0) → zO G MX12_placeHeld [zr 98, zi v3, zi (σ 129 v1)] σ (fun rr σ' => zR G MX12_elect 99 [zr 98, zi v1, zi v2, zi v3, zu, zu, zu] [zi rr] σ' Q)) (k3 : (r = 0) → -2147483648 ≤ -(-6) ∧ -(-6) < (2147483648 : Int)) (k4 : (r = 0) → (0 : Int) ≤ -(-6) ∧ -(-6) < (8 : Int)) (k5 : (r = 0) → -2147483648 ≤ (σ 157 (-(-6))) + 1 ∧ (σ 157 (-(-6))) + 1 < (2147483648 : Int)) (k6 : (r = 0) → Q (-6) (zup σ 157 (-(-6)) ((σ 157 (-(-6))) + 1))) : zR G MX12_elect 85 [zr 98, zi v1, zi v2, zi v3, zu, zu, zu] [zi r] σ Q := by
  have J103 : (r = 0) → zR G MX12_elect 103 [zr 98, zi v1, zi v2, zi v3, zu, zu, zu] [] σ Q := by
    intro h1
    refine z_aload_n dX12_elect_103 rfl rfl ?_
    refine z_bipush (x := (-6)) dX12_elect_104 (by decide +kernel) (by unfold zIn; decide) ?_
    have s3 : -2147483648 ≤ -(-6) ∧ -(-6) < (2147483648 : Int) := k3 h1
    have s4 : (0 : Int) ≤ -(-6) ∧ -(-6) < (8 : Int) := k4 h1
    have s5 : -2147483648 ≤ (σ 157 (-(-6))) + 1 ∧ (σ 157 (-(-6))) + 1 < (2147483648 : Int) := k5 h1
    refine z_callv (as := [zi (-6)]) (st := []) mkX12_no lkRX12_267 rfl rfl rfl (by decide) (Nat.le_of_ble_eq_true rfl) rfl dX12_elect_106 ?_
    refine SX12_no s3 s4 s5 ?_
    show zR G MX12_elect 109 [zr 98, zi v1, zi v2, zi v3, zu, zu, zu] [zi (-6)] (zup σ 157 (-(-6)) ((σ 157 (-(-6))) + 1)) Q
    exact z_ireti rfl dX12_elect_109 (k6 h1)
  refine z_if_eq dX12_elect_85 (tgt := 103) (by decide) (fun h1 => ?_) (fun h1 => ?_)
  · skip
    exact J103 h1
  · skip
    refine z_aload_n dX12_elect_88 rfl rfl ?_
    refine z_iload_n dX12_elect_89 rfl rfl ?_
    refine z_aload_n dX12_elect_90 rfl rfl ?_
    refine z_getfR (k := 44) flRX12_106 rfl rfl dX12_elect_91 ?_
    refine z_iload_n dX12_elect_94 rfl rfl ?_
    have s1 : (0 : Int) ≤ v1 ∧ v1 < (12 : Int) := k1 h1
    refine z_iald rfl s1.1 s1.2 dX12_elect_95 ?_
    refine z_callv (as := [zi v3, zi (σ 129 v1)]) (st := []) mkX12_placeHeld lkRX12_375 rfl rfl rfl (by decide) (Nat.le_of_ble_eq_true rfl) rfl dX12_elect_96 (k2 h1)
set_option maxRecDepth 20000 in
set_option maxHeartbeats 1000000 in
theorem TX12_elect_99 {G : zG} {σ : zS} {Q : Int → zS → Prop} {v1 v2 v3 r : Int}  (k1 : (r ≠ (-1)) → -2147483648 ≤ -(-6) ∧ -(-6) < (2147483648 : Int)) (k2 : (r ≠ (-1)) → (0 : Int) ≤ -(-6) ∧ -(-6) < (8 : Int)) (k3 : (r ≠ (-1)) → -2147483648 ≤ (σ 157 (-(-6))) + 1 ∧ (σ 157 (-(-6))) + 1 < (2147483648 : Int)) (k4 : (r ≠ (-1)) → Q (-6) (zup σ 157 (-(-6)) ((σ 157 (-(-6))) + 1))) (k5 : (r = (-1)) → -2147483648 ≤ v3 + 1 ∧ v3 + 1 < (2147483648 : Int)) (k6 : (r = (-1)) → zR G MX12_elect 57 [zr 98, zi v1, zi v2, zi (v3 + 1), zu, zu, zu] [] σ Q) : zR G MX12_elect 99 [zr 98, zi v1, zi v2, zi v3, zu, zu, zu] [zi r] σ Q := by
  have J110 : (r = (-1)) → zR G MX12_elect 110 [zr 98, zi v1, zi v2, zi v3, zu, zu, zu] [] σ Q := by
    intro h1
    have s5 : -2147483648 ≤ v3 + 1 ∧ v3 + 1 < (2147483648 : Int) := k5 h1
    refine z_iincN (ls' := [zr 98, zi v1, zi v2, zi (v3 + 1), zu, zu, zu]) dX12_elect_110 rfl (by decide) s5 rfl ?_
    refine z_goto dX12_elect_113 (tgt := 57) (by decide) ?_
    exact k6 h1
  have J103 : (r ≠ (-1)) → zR G MX12_elect 103 [zr 98, zi v1, zi v2, zi v3, zu, zu, zu] [] σ Q := by
    intro h1
    refine z_aload_n dX12_elect_103 rfl rfl ?_
    refine z_bipush (x := (-6)) dX12_elect_104 (by decide +kernel) (by unfold zIn; decide) ?_
    have s1 : -2147483648 ≤ -(-6) ∧ -(-6) < (2147483648 : Int) := k1 h1
    have s2 : (0 : Int) ≤ -(-6) ∧ -(-6) < (8 : Int) := k2 h1
    have s3 : -2147483648 ≤ (σ 157 (-(-6))) + 1 ∧ (σ 157 (-(-6))) + 1 < (2147483648 : Int) := k3 h1
    refine z_callv (as := [zi (-6)]) (st := []) mkX12_no lkRX12_267 rfl rfl rfl (by decide) (Nat.le_of_ble_eq_true rfl) rfl dX12_elect_106 ?_
    refine SX12_no s1 s2 s3 ?_
    show zR G MX12_elect 109 [zr 98, zi v1, zi v2, zi v3, zu, zu, zu] [zi (-6)] (zup σ 157 (-(-6)) ((σ 157 (-(-6))) + 1)) Q
    exact z_ireti rfl dX12_elect_109 (k4 h1)
  refine z_iconst dX12_elect_99 (by unfold zIn; decide) ?_
  refine z_icmp_eq dX12_elect_100 (tgt := 110) (by decide) (fun h1 => ?_) (fun h1 => ?_)
  · skip
    exact J110 h1
  · skip
    exact J103 h1
set_option maxRecDepth 20000 in
set_option maxHeartbeats 1000000 in
theorem TX12_elect_127 {G : zG} {σ : zS} {Q : Int → zS → Prop} {v1 v2 v3 v4 v5 v6 : Int}  (k1 : (σ 98 4 ≤ v6) → (v4 ≠ 0) → -2147483648 ≤ 2 * v4 ∧ 2 * v4 < (2147483648 : Int)) (k2 : (σ 98 4 ≤ v6) → (v4 ≠ 0) → (v3 ≤ 2 * v4) → zR G MX12_elect 245 [zr 98, zi v1, zi v2, zi v3, zi v4, zi v5, zi 0] [] (zup σ 98 91 0) Q) (k3 : (v6 < σ 98 4) → (0 : Int) ≤ v6 ∧ v6 < (12 : Int)) (k4 : (v6 < σ 98 4) → (σ 130 v6 ≠ (-1)) → (σ 129 v6 ≠ 2 ∨ (σ 129 v6 = 2 ∧ v5 ≠ (-1))) → (0 : Int) ≤ v6 ∧ v6 < (12 : Int)) (k5 : (v6 < σ 98 4) → (σ 130 v6 ≠ (-1)) → (σ 129 v6 ≠ 2 ∨ (σ 129 v6 = 2 ∧ v5 ≠ (-1))) → (σ 129 v6 = 1) → -2147483648 ≤ v3 + 1 ∧ v3 + 1 < (2147483648 : Int)) (k6 : (v6 < σ 98 4) → (σ 130 v6 ≠ (-1)) → (σ 129 v6 ≠ 2 ∨ (σ 129 v6 = 2 ∧ v5 ≠ (-1))) → (σ 129 v6 = 1) → (0 : Int) ≤ σ 130 v6 ∧ σ 130 v6 < (24 : Int)) (k7 : (v6 < σ 98 4) → (σ 130 v6 ≠ (-1)) → (σ 129 v6 ≠ 2 ∨ (σ 129 v6 = 2 ∧ v5 ≠ (-1))) → (σ 129 v6 = 1) → (0 ≤ σ 135 (σ 130 v6)) → -2147483648 ≤ v4 + 1 ∧ v4 + 1 < (2147483648 : Int)) (k8 : (v6 < σ 98 4) → (σ 130 v6 ≠ (-1)) → (σ 129 v6 = 2) → (v5 = (-1)) → (0 : Int) ≤ v6 ∧ v6 < (12 : Int)) (k9 : (v6 < σ 98 4) → (σ 130 v6 ≠ (-1)) → (σ 129 v6 = 2) → (v5 = (-1)) → (σ 129 v6 = 1) → -2147483648 ≤ v3 + 1 ∧ v3 + 1 < (2147483648 : Int)) (k10 : (v6 < σ 98 4) → (σ 130 v6 ≠ (-1)) → (σ 129 v6 = 2) → (v5 = (-1)) → (σ 129 v6 = 1) → (0 : Int) ≤ σ 130 v6 ∧ σ 130 v6 < (24 : Int)) (k11 : (v6 < σ 98 4) → (σ 130 v6 ≠ (-1)) → (σ 129 v6 = 2) → (v5 = (-1)) → (σ 129 v6 = 1) → (0 ≤ σ 135 (σ 130 v6)) → -2147483648 ≤ v4 + 1 ∧ v4 + 1 < (2147483648 : Int)) (k12 : (v6 < σ 98 4) → (σ 130 v6 = (-1) ∨ (σ 130 v6 ≠ (-1) ∧ (σ 129 v6 ≠ 2 ∨ (σ 129 v6 = 2 ∧ v5 ≠ (-1))) ∧ σ 129 v6 ≠ 1)) → -2147483648 ≤ v6 + 1 ∧ v6 + 1 < (2147483648 : Int)) (k13 : (v6 < σ 98 4) → (σ 130 v6 = (-1) ∨ (σ 130 v6 ≠ (-1) ∧ (σ 129 v6 ≠ 2 ∨ (σ 129 v6 = 2 ∧ v5 ≠ (-1))) ∧ σ 129 v6 ≠ 1)) → zR G MX12_elect 127 [zr 98, zi v1, zi v2, zi v3, zi v4, zi v5, zi (v6 + 1)] [] σ Q) (k14 : (v6 < σ 98 4) → (σ 130 v6 ≠ (-1)) → (σ 129 v6 ≠ 2 ∨ (σ 129 v6 = 2 ∧ v5 ≠ (-1))) → (σ 129 v6 = 1) → (σ 135 (σ 130 v6) < 0) → -2147483648 ≤ v6 + 1 ∧ v6 + 1 < (2147483648 : Int)) (k15 : (v6 < σ 98 4) → (σ 130 v6 ≠ (-1)) → (σ 129 v6 ≠ 2 ∨ (σ 129 v6 = 2 ∧ v5 ≠ (-1))) → (σ 129 v6 = 1) → (σ 135 (σ 130 v6) < 0) → zR G MX12_elect 127 [zr 98, zi v1, zi v2, zi (v3 + 1), zi v4, zi v5, zi (v6 + 1)] [] σ Q) (k16 : (v6 < σ 98 4) → (σ 130 v6 ≠ (-1)) → (σ 129 v6 ≠ 2 ∨ (σ 129 v6 = 2 ∧ v5 ≠ (-1))) → (σ 129 v6 = 1) → (0 ≤ σ 135 (σ 130 v6)) → -2147483648 ≤ v6 + 1 ∧ v6 + 1 < (2147483648 : Int)) (k17 : (v6 < σ 98 4) → (σ 130 v6 ≠ (-1)) → (σ 129 v6 ≠ 2 ∨ (σ 129 v6 = 2 ∧ v5 ≠ (-1))) → (σ 129 v6 = 1) → (0 ≤ σ 135 (σ 130 v6)) → zR G MX12_elect 127 [zr 98, zi v1, zi v2, zi (v3 + 1), zi (v4 + 1), zi v5, zi (v6 + 1)] [] σ Q) (k18 : (v6 < σ 98 4) → (σ 130 v6 ≠ (-1)) → (σ 129 v6 = 2) → (v5 = (-1)) → (σ 129 v6 = 1) → (σ 135 (σ 130 v6) < 0) → -2147483648 ≤ v6 + 1 ∧ v6 + 1 < (2147483648 : Int)) (k19 : (v6 < σ 98 4) → (σ 130 v6 ≠ (-1)) → (σ 129 v6 = 2) → (v5 = (-1)) → (σ 129 v6 = 1) → (σ 135 (σ 130 v6) < 0) → zR G MX12_elect 127 [zr 98, zi v1, zi v2, zi (v3 + 1), zi v4, zi (σ 130 v6), zi (v6 + 1)] [] σ Q) (k20 : (v6 < σ 98 4) → (σ 130 v6 ≠ (-1)) → (σ 129 v6 = 2) → (v5 = (-1)) → (σ 129 v6 = 1) → (0 ≤ σ 135 (σ 130 v6)) → -2147483648 ≤ v6 + 1 ∧ v6 + 1 < (2147483648 : Int)) (k21 : (v6 < σ 98 4) → (σ 130 v6 ≠ (-1)) → (σ 129 v6 = 2) → (v5 = (-1)) → (σ 129 v6 = 1) → (0 ≤ σ 135 (σ 130 v6)) → zR G MX12_elect 127 [zr 98, zi v1, zi v2, zi (v3 + 1), zi (v4 + 1), zi (σ 130 v6), zi (v6 + 1)] [] σ Q) (k22 : (v6 < σ 98 4) → (σ 130 v6 ≠ (-1)) → (σ 129 v6 = 2) → (v5 = (-1)) → (σ 129 v6 ≠ 1) → -2147483648 ≤ v6 + 1 ∧ v6 + 1 < (2147483648 : Int)) (k23 : (v6 < σ 98 4) → (σ 130 v6 ≠ (-1)) → (σ 129 v6 = 2) → (v5 = (-1)) → (σ 129 v6 ≠ 1) → zR G MX12_elect 127 [zr 98, zi v1, zi v2, zi v3, zi v4, zi (σ 130 v6), zi (v6 + 1)] [] σ Q) (k24 : (σ 98 4 ≤ v6) → (v4 = 0 ∨ (v4 ≠ 0 ∧ 2 * v4 < v3)) → -2147483648 ≤ -(-6) ∧ -(-6) < (2147483648 : Int)) (k25 : (σ 98 4 ≤ v6) → (v4 = 0 ∨ (v4 ≠ 0 ∧ 2 * v4 < v3)) → (0 : Int) ≤ -(-6) ∧ -(-6) < (8 : Int)) (k26 : (σ 98 4 ≤ v6) → (v4 = 0 ∨ (v4 ≠ 0 ∧ 2 * v4 < v3)) → -2147483648 ≤ (σ 157 (-(-6))) + 1 ∧ (σ 157 (-(-6))) + 1 < (2147483648 : Int)) (k27 : (σ 98 4 ≤ v6) → (v4 = 0 ∨ (v4 ≠ 0 ∧ 2 * v4 < v3)) → Q (-6) (zup σ 157 (-(-6)) ((σ 157 (-(-6))) + 1))) : zR G MX12_elect 127 [zr 98, zi v1, zi v2, zi v3, zi v4, zi v5, zi v6] [] σ Q := by
  have J230 : (σ 98 4 ≤ v6) → (v4 = 0 ∨ (v4 ≠ 0 ∧ 2 * v4 < v3)) → zR G MX12_elect 230 [zr 98, zi v1, zi v2, zi v3, zi v4, zi v5, zi v6] [] σ Q := by
    intro h1 h13
    refine z_aload_n dX12_elect_230 rfl rfl ?_
    refine z_bipush (x := (-6)) dX12_elect_231 (by decide +kernel) (by unfold zIn; decide) ?_
    have s24 : -2147483648 ≤ -(-6) ∧ -(-6) < (2147483648 : Int) := k24 h1 h13
    have s25 : (0 : Int) ≤ -(-6) ∧ -(-6) < (8 : Int) := k25 h1 h13
    have s26 : -2147483648 ≤ (σ 157 (-(-6))) + 1 ∧ (σ 157 (-(-6))) + 1 < (2147483648 : Int) := k26 h1 h13
    refine z_callv (as := [zi (-6)]) (st := []) mkX12_no lkRX12_267 rfl rfl rfl (by decide) (Nat.le_of_ble_eq_true rfl) rfl dX12_elect_233 ?_
    refine SX12_no s24 s25 s26 ?_
    show zR G MX12_elect 236 [zr 98, zi v1, zi v2, zi v3, zi v4, zi v5, zi v6] [zi (-6)] (zup σ 157 (-(-6)) ((σ 157 (-(-6))) + 1)) Q
    exact z_ireti rfl dX12_elect_236 (k27 h1 h13)
  have J211_5 : (v6 < σ 98 4) → (σ 130 v6 ≠ (-1)) → (σ 129 v6 = 2) → (v5 = (-1)) → (σ 129 v6 ≠ 1) → zR G MX12_elect 211 [zr 98, zi v1, zi v2, zi v3, zi v4, zi (σ 130 v6), zi v6] [] σ Q := by
    intro h1 h4 h5 h6 h10
    have s22 : -2147483648 ≤ v6 + 1 ∧ v6 + 1 < (2147483648 : Int) := k22 h1 h4 h5 h6 h10
    refine z_iincN (ls' := [zr 98, zi v1, zi v2, zi v3, zi v4, zi (σ 130 v6), zi (v6 + 1)]) dX12_elect_211 rfl (by decide) s22 rfl ?_
    refine z_goto dX12_elect_214 (tgt := 127) (by decide) ?_
    exact k23 h1 h4 h5 h6 h10
  have J211_4 : (v6 < σ 98 4) → (σ 130 v6 ≠ (-1)) → (σ 129 v6 = 2) → (v5 = (-1)) → (σ 129 v6 = 1) → (0 ≤ σ 135 (σ 130 v6)) → zR G MX12_elect 211 [zr 98, zi v1, zi v2, zi (v3 + 1), zi (v4 + 1), zi (σ 130 v6), zi v6] [] σ Q := by
    intro h1 h4 h5 h6 h10 h11
    have s20 : -2147483648 ≤ v6 + 1 ∧ v6 + 1 < (2147483648 : Int) := k20 h1 h4 h5 h6 h10 h11
    refine z_iincN (ls' := [zr 98, zi v1, zi v2, zi (v3 + 1), zi (v4 + 1), zi (σ 130 v6), zi (v6 + 1)]) dX12_elect_211 rfl (by decide) s20 rfl ?_
    refine z_goto dX12_elect_214 (tgt := 127) (by decide) ?_
    exact k21 h1 h4 h5 h6 h10 h11
  have J211_3 : (v6 < σ 98 4) → (σ 130 v6 ≠ (-1)) → (σ 129 v6 = 2) → (v5 = (-1)) → (σ 129 v6 = 1) → (σ 135 (σ 130 v6) < 0) → zR G MX12_elect 211 [zr 98, zi v1, zi v2, zi (v3 + 1), zi v4, zi (σ 130 v6), zi v6] [] σ Q := by
    intro h1 h4 h5 h6 h10 h11
    have s18 : -2147483648 ≤ v6 + 1 ∧ v6 + 1 < (2147483648 : Int) := k18 h1 h4 h5 h6 h10 h11
    refine z_iincN (ls' := [zr 98, zi v1, zi v2, zi (v3 + 1), zi v4, zi (σ 130 v6), zi (v6 + 1)]) dX12_elect_211 rfl (by decide) s18 rfl ?_
    refine z_goto dX12_elect_214 (tgt := 127) (by decide) ?_
    exact k19 h1 h4 h5 h6 h10 h11
  have J211_2 : (v6 < σ 98 4) → (σ 130 v6 ≠ (-1)) → (σ 129 v6 ≠ 2 ∨ (σ 129 v6 = 2 ∧ v5 ≠ (-1))) → (σ 129 v6 = 1) → (0 ≤ σ 135 (σ 130 v6)) → zR G MX12_elect 211 [zr 98, zi v1, zi v2, zi (v3 + 1), zi (v4 + 1), zi v5, zi v6] [] σ Q := by
    intro h1 h4 h7 h8 h9
    have s16 : -2147483648 ≤ v6 + 1 ∧ v6 + 1 < (2147483648 : Int) := k16 h1 h4 h7 h8 h9
    refine z_iincN (ls' := [zr 98, zi v1, zi v2, zi (v3 + 1), zi (v4 + 1), zi v5, zi (v6 + 1)]) dX12_elect_211 rfl (by decide) s16 rfl ?_
    refine z_goto dX12_elect_214 (tgt := 127) (by decide) ?_
    exact k17 h1 h4 h7 h8 h9
  have J211_1 : (v6 < σ 98 4) → (σ 130 v6 ≠ (-1)) → (σ 129 v6 ≠ 2 ∨ (σ 129 v6 = 2 ∧ v5 ≠ (-1))) → (σ 129 v6 = 1) → (σ 135 (σ 130 v6) < 0) → zR G MX12_elect 211 [zr 98, zi v1, zi v2, zi (v3 + 1), zi v4, zi v5, zi v6] [] σ Q := by
    intro h1 h4 h7 h8 h9
    have s14 : -2147483648 ≤ v6 + 1 ∧ v6 + 1 < (2147483648 : Int) := k14 h1 h4 h7 h8 h9
    refine z_iincN (ls' := [zr 98, zi v1, zi v2, zi (v3 + 1), zi v4, zi v5, zi (v6 + 1)]) dX12_elect_211 rfl (by decide) s14 rfl ?_
    refine z_goto dX12_elect_214 (tgt := 127) (by decide) ?_
    exact k15 h1 h4 h7 h8 h9
  have J211 : (v6 < σ 98 4) → (σ 130 v6 = (-1) ∨ (σ 130 v6 ≠ (-1) ∧ (σ 129 v6 ≠ 2 ∨ (σ 129 v6 = 2 ∧ v5 ≠ (-1))) ∧ σ 129 v6 ≠ 1)) → zR G MX12_elect 211 [zr 98, zi v1, zi v2, zi v3, zi v4, zi v5, zi v6] [] σ Q := by
    intro h1 h12
    have s12 : -2147483648 ≤ v6 + 1 ∧ v6 + 1 < (2147483648 : Int) := k12 h1 h12
    refine z_iincN (ls' := [zr 98, zi v1, zi v2, zi v3, zi v4, zi v5, zi (v6 + 1)]) dX12_elect_211 rfl (by decide) s12 rfl ?_
    refine z_goto dX12_elect_214 (tgt := 127) (by decide) ?_
    exact k13 h1 h12
  have J176_1 : (v6 < σ 98 4) → (σ 130 v6 ≠ (-1)) → (σ 129 v6 = 2) → (v5 = (-1)) → zR G MX12_elect 176 [zr 98, zi v1, zi v2, zi v3, zi v4, zi (σ 130 v6), zi v6] [] σ Q := by
    intro h1 h4 h5 h6
    refine z_aload_n dX12_elect_176 rfl rfl ?_
    refine z_getfR (k := 44) flRX12_106 rfl rfl dX12_elect_177 ?_
    refine z_iload dX12_elect_180 rfl ?_
    have s8 : (0 : Int) ≤ v6 ∧ v6 < (12 : Int) := k8 h1 h4 h5 h6
    refine z_iald rfl s8.1 s8.2 dX12_elect_182 ?_
    refine z_iconst dX12_elect_183 (by unfold zIn; decide) ?_
    refine z_icmp_eq dX12_elect_184 (tgt := 190) (by decide) (fun h10 => ?_) (fun h10 => ?_)
    · skip
      have s9 : -2147483648 ≤ v3 + 1 ∧ v3 + 1 < (2147483648 : Int) := k9 h1 h4 h5 h6 h10
      refine z_iincN (ls' := [zr 98, zi v1, zi v2, zi (v3 + 1), zi v4, zi (σ 130 v6), zi v6]) dX12_elect_190 rfl (by decide) s9 rfl ?_
      refine z_aload_n dX12_elect_193 rfl rfl ?_
      refine z_getfR (k := 50) flRX12_124 rfl rfl dX12_elect_194 ?_
      refine z_aload_n dX12_elect_197 rfl rfl ?_
      refine z_getfR (k := 45) flRX12_109 rfl rfl dX12_elect_198 ?_
      refine z_iload dX12_elect_201 rfl ?_
      refine z_iald rfl s8.1 s8.2 dX12_elect_203 ?_
      have s10 : (0 : Int) ≤ σ 130 v6 ∧ σ 130 v6 < (24 : Int) := k10 h1 h4 h5 h6 h10
      refine z_iald rfl s10.1 s10.2 dX12_elect_204 ?_
      refine z_if_lt dX12_elect_205 (tgt := 211) (by decide) (fun h11 => ?_) (fun h11 => ?_)
      · skip
        exact J211_3 h1 h4 h5 h6 h10 h11
      · skip
        have s11 : -2147483648 ≤ v4 + 1 ∧ v4 + 1 < (2147483648 : Int) := k11 h1 h4 h5 h6 h10 h11
        refine z_iincN (ls' := [zr 98, zi v1, zi v2, zi (v3 + 1), zi (v4 + 1), zi (σ 130 v6), zi v6]) dX12_elect_208 rfl (by decide) s11 rfl ?_
        exact J211_4 h1 h4 h5 h6 h10 h11
    · skip
      refine z_goto dX12_elect_187 (tgt := 211) (by decide) ?_
      exact J211_5 h1 h4 h5 h6 h10
  have J176 : (v6 < σ 98 4) → (σ 130 v6 ≠ (-1)) → (σ 129 v6 ≠ 2 ∨ (σ 129 v6 = 2 ∧ v5 ≠ (-1))) → zR G MX12_elect 176 [zr 98, zi v1, zi v2, zi v3, zi v4, zi v5, zi v6] [] σ Q := by
    intro h1 h4 h7
    refine z_aload_n dX12_elect_176 rfl rfl ?_
    refine z_getfR (k := 44) flRX12_106 rfl rfl dX12_elect_177 ?_
    refine z_iload dX12_elect_180 rfl ?_
    have s4 : (0 : Int) ≤ v6 ∧ v6 < (12 : Int) := k4 h1 h4 h7
    refine z_iald rfl s4.1 s4.2 dX12_elect_182 ?_
    refine z_iconst dX12_elect_183 (by unfold zIn; decide) ?_
    refine z_icmp_eq dX12_elect_184 (tgt := 190) (by decide) (fun h8 => ?_) (fun h8 => ?_)
    · skip
      have s5 : -2147483648 ≤ v3 + 1 ∧ v3 + 1 < (2147483648 : Int) := k5 h1 h4 h7 h8
      refine z_iincN (ls' := [zr 98, zi v1, zi v2, zi (v3 + 1), zi v4, zi v5, zi v6]) dX12_elect_190 rfl (by decide) s5 rfl ?_
      refine z_aload_n dX12_elect_193 rfl rfl ?_
      refine z_getfR (k := 50) flRX12_124 rfl rfl dX12_elect_194 ?_
      refine z_aload_n dX12_elect_197 rfl rfl ?_
      refine z_getfR (k := 45) flRX12_109 rfl rfl dX12_elect_198 ?_
      refine z_iload dX12_elect_201 rfl ?_
      refine z_iald rfl s4.1 s4.2 dX12_elect_203 ?_
      have s6 : (0 : Int) ≤ σ 130 v6 ∧ σ 130 v6 < (24 : Int) := k6 h1 h4 h7 h8
      refine z_iald rfl s6.1 s6.2 dX12_elect_204 ?_
      refine z_if_lt dX12_elect_205 (tgt := 211) (by decide) (fun h9 => ?_) (fun h9 => ?_)
      · skip
        exact J211_1 h1 h4 h7 h8 h9
      · skip
        have s7 : -2147483648 ≤ v4 + 1 ∧ v4 + 1 < (2147483648 : Int) := k7 h1 h4 h7 h8 h9
        refine z_iincN (ls' := [zr 98, zi v1, zi v2, zi (v3 + 1), zi (v4 + 1), zi v5, zi v6]) dX12_elect_208 rfl (by decide) s7 rfl ?_
        exact J211_2 h1 h4 h7 h8 h9
    · skip
      refine z_goto dX12_elect_187 (tgt := 211) (by decide) ?_
      exact J211 h1 (Or.inr ⟨h4, h7, h8⟩)
  refine z_iload dX12_elect_127 rfl ?_
  refine z_aload_n dX12_elect_129 rfl rfl ?_
  refine z_getfI (k := 4) flRX12_259 rfl rfl dX12_elect_130 ?_
  refine z_icmp_ge dX12_elect_133 (tgt := 217) (by decide) (fun h1 => ?_) (fun h1 => ?_)
  · skip
    refine z_iload dX12_elect_217 rfl ?_
    refine z_if_eq dX12_elect_219 (tgt := 230) (by decide) (fun h2 => ?_) (fun h2 => ?_)
    · skip
      exact J230 h1 (Or.inl h2)
    · skip
      refine z_iconst dX12_elect_222 (by unfold zIn; decide) ?_
      refine z_iload dX12_elect_223 rfl ?_
      have s1 : -2147483648 ≤ 2 * v4 ∧ 2 * v4 < (2147483648 : Int) := k1 h1 h2
      refine z_imulN dX12_elect_225 s1 ?_
      refine z_iload_n dX12_elect_226 rfl rfl ?_
      refine z_icmp_ge dX12_elect_227 (tgt := 237) (by decide) (fun h3 => ?_) (fun h3 => ?_)
      · skip
        refine z_aload_n dX12_elect_237 rfl rfl ?_
        refine z_iconst dX12_elect_238 (by unfold zIn; decide) ?_
        refine z_putI (k := 91) fpRX12_386 rfl rfl dX12_elect_239 ?_
        refine z_iconst dX12_elect_242 (by unfold zIn; decide) ?_
        refine z_istore (ls' := [zr 98, zi v1, zi v2, zi v3, zi v4, zi v5, zi 0]) dX12_elect_243 (by decide) rfl ?_
        exact k2 h1 h2 h3
      · skip
        exact J230 h1 (Or.inr ⟨h2, h3⟩)
  · skip
    refine z_aload_n dX12_elect_136 rfl rfl ?_
    refine z_getfR (k := 45) flRX12_109 rfl rfl dX12_elect_137 ?_
    refine z_iload dX12_elect_140 rfl ?_
    have s3 : (0 : Int) ≤ v6 ∧ v6 < (12 : Int) := k3 h1
    refine z_iald rfl s3.1 s3.2 dX12_elect_142 ?_
    refine z_iconst dX12_elect_143 (by unfold zIn; decide) ?_
    refine z_icmp_ne dX12_elect_144 (tgt := 150) (by decide) (fun h4 => ?_) (fun h4 => ?_)
    · skip
      refine z_aload_n dX12_elect_150 rfl rfl ?_
      refine z_getfR (k := 44) flRX12_106 rfl rfl dX12_elect_151 ?_
      refine z_iload dX12_elect_154 rfl ?_
      refine z_iald rfl s3.1 s3.2 dX12_elect_156 ?_
      refine z_iconst dX12_elect_157 (by unfold zIn; decide) ?_
      refine z_icmp_ne dX12_elect_158 (tgt := 176) (by decide) (fun h5 => ?_) (fun h5 => ?_)
      · skip
        exact J176 h1 h4 (Or.inl h5)
      · skip
        refine z_iload dX12_elect_161 rfl ?_
        refine z_iconst dX12_elect_163 (by unfold zIn; decide) ?_
        refine z_icmp_ne dX12_elect_164 (tgt := 176) (by decide) (fun h6 => ?_) (fun h6 => ?_)
        · skip
          exact J176 h1 h4 (Or.inr ⟨h5, h6⟩)
        · skip
          refine z_aload_n dX12_elect_167 rfl rfl ?_
          refine z_getfR (k := 45) flRX12_109 rfl rfl dX12_elect_168 ?_
          refine z_iload dX12_elect_171 rfl ?_
          refine z_iald rfl s3.1 s3.2 dX12_elect_173 ?_
          refine z_istore (ls' := [zr 98, zi v1, zi v2, zi v3, zi v4, zi (σ 130 v6), zi v6]) dX12_elect_174 (by decide) rfl ?_
          exact J176_1 h1 h4 h5 h6
    · skip
      refine z_goto dX12_elect_147 (tgt := 211) (by decide) ?_
      exact J211 h1 (Or.inl h4)
set_option maxRecDepth 20000 in
set_option maxHeartbeats 1000000 in
theorem TX12_elect_245 {G : zG} {σ : zS} {Q : Int → zS → Prop} {v1 v2 v3 v4 v5 v6 : Int}  (k1 : (σ 98 4 ≤ v6) → zO G MX12_keeps [zr 98, zi 12, zi v5] σ (fun rr σ' => zR G MX12_elect 327 [zr 98, zi v1, zi v2, zi v3, zi v4, zi v5, zi v6] [] σ' Q)) (k2 : (v6 < σ 98 4) → (0 : Int) ≤ v6 ∧ v6 < (12 : Int)) (k3 : (v6 < σ 98 4) → (σ 129 v6 = 1) → (σ 130 v6 ≠ (-1)) → (0 : Int) ≤ σ 130 v6 ∧ σ 130 v6 < (24 : Int)) (k4 : (v6 < σ 98 4) → (σ 129 v6 = 1) → (σ 130 v6 ≠ (-1)) → (0 ≤ σ 135 (σ 130 v6)) → -2147483648 ≤ σ 98 91 + 1 ∧ σ 98 91 + 1 < (2147483648 : Int)) (k5 : (v6 < σ 98 4) → (σ 129 v6 = 1) → (σ 130 v6 ≠ (-1)) → (0 ≤ σ 135 (σ 130 v6)) → zO G MX12_keeps [zr 98, zi (σ 98 91), zi ((zup σ 98 91 (σ 98 91 + 1)) 130 v6)] (zup σ 98 91 (σ 98 91 + 1)) (fun rr σ' => zR G MX12_elect 313 [zr 98, zi v1, zi v2, zi v3, zi v4, zi v5, zi v6] [] σ' Q)) (k6 : (v6 < σ 98 4) → (σ 129 v6 ≠ 1 ∨ (σ 129 v6 = 1 ∧ σ 130 v6 = (-1)) ∨ (σ 129 v6 = 1 ∧ σ 130 v6 ≠ (-1) ∧ σ 135 (σ 130 v6) < 0)) → -2147483648 ≤ v6 + 1 ∧ v6 + 1 < (2147483648 : Int)) (k7 : (v6 < σ 98 4) → (σ 129 v6 ≠ 1 ∨ (σ 129 v6 = 1 ∧ σ 130 v6 = (-1)) ∨ (σ 129 v6 = 1 ∧ σ 130 v6 ≠ (-1) ∧ σ 135 (σ 130 v6) < 0)) → zR G MX12_elect 245 [zr 98, zi v1, zi v2, zi v3, zi v4, zi v5, zi (v6 + 1)] [] σ Q) : zR G MX12_elect 245 [zr 98, zi v1, zi v2, zi v3, zi v4, zi v5, zi v6] [] σ Q := by
  have J313 : (v6 < σ 98 4) → (σ 129 v6 ≠ 1 ∨ (σ 129 v6 = 1 ∧ σ 130 v6 = (-1)) ∨ (σ 129 v6 = 1 ∧ σ 130 v6 ≠ (-1) ∧ σ 135 (σ 130 v6) < 0)) → zR G MX12_elect 313 [zr 98, zi v1, zi v2, zi v3, zi v4, zi v5, zi v6] [] σ Q := by
    intro h1 h5
    have s6 : -2147483648 ≤ v6 + 1 ∧ v6 + 1 < (2147483648 : Int) := k6 h1 h5
    refine z_iincN (ls' := [zr 98, zi v1, zi v2, zi v3, zi v4, zi v5, zi (v6 + 1)]) dX12_elect_313 rfl (by decide) s6 rfl ?_
    refine z_goto dX12_elect_316 (tgt := 245) (by decide) ?_
    exact k7 h1 h5
  refine z_iload dX12_elect_245 rfl ?_
  refine z_aload_n dX12_elect_247 rfl rfl ?_
  refine z_getfI (k := 4) flRX12_259 rfl rfl dX12_elect_248 ?_
  refine z_icmp_ge dX12_elect_251 (tgt := 319) (by decide) (fun h1 => ?_) (fun h1 => ?_)
  · skip
    refine z_aload_n dX12_elect_319 rfl rfl ?_
    refine z_bipush (x := 12) dX12_elect_320 (by decide +kernel) (by unfold zIn; decide) ?_
    refine z_iload dX12_elect_322 rfl ?_
    refine z_callv (as := [zi 12, zi v5]) (st := []) mkX12_keeps lkRX12_395 rfl rfl rfl (by decide) (Nat.le_of_ble_eq_true rfl) rfl dX12_elect_324 (k1 h1)
  · skip
    refine z_aload_n dX12_elect_254 rfl rfl ?_
    refine z_getfR (k := 44) flRX12_106 rfl rfl dX12_elect_255 ?_
    refine z_iload dX12_elect_258 rfl ?_
    have s2 : (0 : Int) ≤ v6 ∧ v6 < (12 : Int) := k2 h1
    refine z_iald rfl s2.1 s2.2 dX12_elect_260 ?_
    refine z_iconst dX12_elect_261 (by unfold zIn; decide) ?_
    refine z_icmp_ne dX12_elect_262 (tgt := 313) (by decide) (fun h2 => ?_) (fun h2 => ?_)
    · skip
      exact J313 h1 (Or.inl h2)
    · skip
      refine z_aload_n dX12_elect_265 rfl rfl ?_
      refine z_getfR (k := 45) flRX12_109 rfl rfl dX12_elect_266 ?_
      refine z_iload dX12_elect_269 rfl ?_
      refine z_iald rfl s2.1 s2.2 dX12_elect_271 ?_
      refine z_iconst dX12_elect_272 (by unfold zIn; decide) ?_
      refine z_icmp_eq dX12_elect_273 (tgt := 313) (by decide) (fun h3 => ?_) (fun h3 => ?_)
      · skip
        exact J313 h1 (Or.inr (Or.inl ⟨h2, h3⟩))
      · skip
        refine z_aload_n dX12_elect_276 rfl rfl ?_
        refine z_getfR (k := 50) flRX12_124 rfl rfl dX12_elect_277 ?_
        refine z_aload_n dX12_elect_280 rfl rfl ?_
        refine z_getfR (k := 45) flRX12_109 rfl rfl dX12_elect_281 ?_
        refine z_iload dX12_elect_284 rfl ?_
        refine z_iald rfl s2.1 s2.2 dX12_elect_286 ?_
        have s3 : (0 : Int) ≤ σ 130 v6 ∧ σ 130 v6 < (24 : Int) := k3 h1 h2 h3
        refine z_iald rfl s3.1 s3.2 dX12_elect_287 ?_
        refine z_if_lt dX12_elect_288 (tgt := 313) (by decide) (fun h4 => ?_) (fun h4 => ?_)
        · skip
          exact J313 h1 (Or.inr (Or.inr ⟨h2, h3, h4⟩))
        · skip
          refine z_aload_n dX12_elect_291 rfl rfl ?_
          refine z_aload_n dX12_elect_292 rfl rfl ?_
          refine z_dup dX12_elect_293 rfl ?_
          refine z_getfI (k := 91) flRX12_386 rfl rfl dX12_elect_294 ?_
          refine z_dup_x1 dX12_elect_297 rfl rfl ?_
          refine z_iconst dX12_elect_298 (by unfold zIn; decide) ?_
          have s4 : -2147483648 ≤ σ 98 91 + 1 ∧ σ 98 91 + 1 < (2147483648 : Int) := k4 h1 h2 h3 h4
          refine z_iaddN dX12_elect_299 s4 ?_
          refine z_putI (k := 91) fpRX12_386 rfl rfl dX12_elect_300 ?_
          refine z_aload_n dX12_elect_303 rfl rfl ?_
          refine z_getfR (k := 45) flRX12_109 rfl rfl dX12_elect_304 ?_
          refine z_iload dX12_elect_307 rfl ?_
          refine z_iald rfl s2.1 s2.2 dX12_elect_309 ?_
          refine z_callv (as := [zi (σ 98 91), zi ((zup σ 98 91 (σ 98 91 + 1)) 130 v6)]) (st := []) mkX12_keeps lkRX12_395 rfl rfl rfl (by decide) (Nat.le_of_ble_eq_true rfl) rfl dX12_elect_310 (k5 h1 h2 h3 h4)
set_option maxRecDepth 20000 in
set_option maxHeartbeats 1000000 in
theorem TX12_elect_313 {G : zG} {σ : zS} {Q : Int → zS → Prop} {v1 v2 v3 v4 v5 v6 : Int}  (k1 : -2147483648 ≤ v6 + 1 ∧ v6 + 1 < (2147483648 : Int)) (k2 : zR G MX12_elect 245 [zr 98, zi v1, zi v2, zi v3, zi v4, zi v5, zi (v6 + 1)] [] σ Q) : zR G MX12_elect 313 [zr 98, zi v1, zi v2, zi v3, zi v4, zi v5, zi v6] [] σ Q := by
  have s1 : -2147483648 ≤ v6 + 1 ∧ v6 + 1 < (2147483648 : Int) := k1
  refine z_iincN (ls' := [zr 98, zi v1, zi v2, zi v3, zi v4, zi v5, zi (v6 + 1)]) dX12_elect_313 rfl (by decide) s1 rfl ?_
  refine z_goto dX12_elect_316 (tgt := 245) (by decide) ?_
  exact k2
set_option maxRecDepth 20000 in
set_option maxHeartbeats 1000000 in
theorem TX12_elect_327 {G : zG} {σ : zS} {Q : Int → zS → Prop} {v1 v2 v3 v4 v5 v6 : Int}  (k1 : zO G MX12_elects [zr 98, zi v2, zi 1] (zup (zup σ 98 89 1) 98 90 v2) (fun rr σ' => zR G MX12_elect 343 [zr 98, zi v1, zi v2, zi v3, zi v4, zi v5, zi v6] [zi rr] σ' Q)) : zR G MX12_elect 327 [zr 98, zi v1, zi v2, zi v3, zi v4, zi v5, zi v6] [] σ Q := by
  refine z_aload_n dX12_elect_327 rfl rfl ?_
  refine z_iconst dX12_elect_328 (by unfold zIn; decide) ?_
  refine z_putZ (k := 89) fpRX12_398 rfl rfl (by decide) dX12_elect_329 ?_
  refine z_aload_n dX12_elect_332 rfl rfl ?_
  refine z_iload_n dX12_elect_333 rfl rfl ?_
  refine z_putI (k := 90) fpRX12_402 rfl rfl dX12_elect_334 ?_
  refine z_aload_n dX12_elect_337 rfl rfl ?_
  refine z_iload_n dX12_elect_338 rfl rfl ?_
  refine z_iconst dX12_elect_339 (by unfold zIn; decide) ?_
  refine z_callv (as := [zi v2, zi 1]) (st := []) mkX12_elects lkRX12_405 rfl rfl rfl (by decide) (Nat.le_of_ble_eq_true rfl) rfl dX12_elect_340 (k1)
set_option maxRecDepth 20000 in
set_option maxHeartbeats 1000000 in
theorem TX12_elect_343 {G : zG} {σ : zS} {Q : Int → zS → Prop} {v1 v2 v3 v4 v5 v6 r : Int}  (k1 : (0 : Int) ≤ v1 ∧ v1 < (12 : Int)) (k2 : Q r (zup (zup (zup (zup σ 130 v1 r) 131 v1 ((zup σ 130 v1 r) 98 0)) 132 v1 (-1)) 133 v1 0)) : zR G MX12_elect 343 [zr 98, zi v1, zi v2, zi v3, zi v4, zi v5, zi v6] [zi r] σ Q := by
  refine z_istore (ls' := [zr 98, zi v1, zi v2, zi v3, zi v4, zi v5, zi r]) dX12_elect_343 (by decide) rfl ?_
  refine z_aload_n dX12_elect_345 rfl rfl ?_
  refine z_iload dX12_elect_346 rfl ?_
  refine z_iload_n dX12_elect_348 rfl rfl ?_
  have s1 : (0 : Int) ≤ v1 ∧ v1 < (12 : Int) := k1
  refine z_callv (as := [zi r, zi v1]) (st := []) mkX12_comes lkRX12_378 rfl rfl rfl (by decide) (Nat.le_of_ble_eq_true rfl) rfl dX12_elect_349 ?_
  refine SX12_comes s1 ?_
  show zR G MX12_elect 352 [zr 98, zi v1, zi v2, zi v3, zi v4, zi v5, zi r] [] (zup (zup (zup (zup σ 130 v1 r) 131 v1 ((zup σ 130 v1 r) 98 0)) 132 v1 (-1)) 133 v1 0) Q
  refine z_iload dX12_elect_352 rfl ?_
  exact z_ireti rfl dX12_elect_354 (k2)
set_option maxRecDepth 20000 in
set_option maxHeartbeats 1000000 in
theorem TX12_votes {G : zG} {σ : zS} {Q : Int → zS → Prop} {a1 a2 : Int}  (k1 : (σ 98 89 ≠ 0) → (0 ≤ a1) → (a1 < σ 98 92) → ((0 ≤ a2 ∧ a2 < σ 98 1)) → (0 : Int) ≤ a1 ∧ a1 < (24 : Int)) (k2 : (σ 98 89 ≠ 0) → (0 ≤ a1) → (a1 < σ 98 92) → ((0 ≤ a2 ∧ a2 < σ 98 1)) → (zand (zshr (σ 171 a1) a2) 1 ≠ 0) → -2147483648 ≤ 24 * a1 ∧ 24 * a1 < (2147483648 : Int)) (k3 : (σ 98 89 ≠ 0) → (0 ≤ a1) → (a1 < σ 98 92) → ((0 ≤ a2 ∧ a2 < σ 98 1)) → (zand (zshr (σ 171 a1) a2) 1 ≠ 0) → -2147483648 ≤ (24 * a1) + a2 ∧ (24 * a1) + a2 < (2147483648 : Int)) (k4 : (σ 98 89 ≠ 0) → (0 ≤ a1) → (a1 < σ 98 92) → ((0 ≤ a2 ∧ a2 < σ 98 1)) → (zand (zshr (σ 171 a1) a2) 1 ≠ 0) → (0 : Int) ≤ (24 * a1) + a2 ∧ (24 * a1) + a2 < (576 : Int)) (k5 : (σ 98 89 ≠ 0) → (0 ≤ a1) → (a1 < σ 98 92) → ((0 ≤ a2 ∧ a2 < σ 98 1)) → (zand (zshr (σ 171 a1) a2) 1 ≠ 0) → Q (σ 170 ((24 * a1) + a2)) σ) (k6 : (σ 98 89 = 0 ∨ (σ 98 89 ≠ 0 ∧ a1 < 0) ∨ (σ 98 89 ≠ 0 ∧ 0 ≤ a1 ∧ σ 98 92 ≤ a1) ∨ (σ 98 89 ≠ 0 ∧ 0 ≤ a1 ∧ a1 < σ 98 92 ∧ (¬ ((0 ≤ a2 ∧ a2 < σ 98 1)))) ∨ (σ 98 89 ≠ 0 ∧ 0 ≤ a1 ∧ a1 < σ 98 92 ∧ ((0 ≤ a2 ∧ a2 < σ 98 1)) ∧ zand (zshr (σ 171 a1) a2) 1 = 0)) → Q (-1) σ) : zO G MX12_votes [zr 98, zi a1, zi a2] σ Q := by
  refine zO_of (ls0 := [zr 98, zi a1, zi a2]) (by decide) (Nat.le_of_ble_eq_true rfl) rfl ?_
  have J40 : (σ 98 89 = 0 ∨ (σ 98 89 ≠ 0 ∧ a1 < 0) ∨ (σ 98 89 ≠ 0 ∧ 0 ≤ a1 ∧ σ 98 92 ≤ a1) ∨ (σ 98 89 ≠ 0 ∧ 0 ≤ a1 ∧ a1 < σ 98 92 ∧ (¬ ((0 ≤ a2 ∧ a2 < σ 98 1)))) ∨ (σ 98 89 ≠ 0 ∧ 0 ≤ a1 ∧ a1 < σ 98 92 ∧ ((0 ≤ a2 ∧ a2 < σ 98 1)) ∧ zand (zshr (σ 171 a1) a2) 1 = 0)) → zR G MX12_votes 40 [zr 98, zi a1, zi a2] [] σ Q := by
    intro h6
    refine z_iconst dX12_votes_40 (by unfold zIn; decide) ?_
    exact z_ireti rfl dX12_votes_41 (k6 h6)
  refine z_aload_n dX12_votes_0 rfl rfl ?_
  refine z_getfI (k := 89) flRX12_398 rfl rfl dX12_votes_1 ?_
  refine z_if_eq dX12_votes_4 (tgt := 40) (by decide) (fun h1 => ?_) (fun h1 => ?_)
  · skip
    exact J40 (Or.inl h1)
  · skip
    refine z_iload_n dX12_votes_7 rfl rfl ?_
    refine z_if_lt dX12_votes_8 (tgt := 40) (by decide) (fun h2 => ?_) (fun h2 => ?_)
    · skip
      exact J40 (Or.inr (Or.inl ⟨h1, h2⟩))
    · skip
      refine z_iload_n dX12_votes_11 rfl rfl ?_
      refine z_aload_n dX12_votes_12 rfl rfl ?_
      refine z_getfI (k := 92) flRX12_392 rfl rfl dX12_votes_13 ?_
      refine z_icmp_ge dX12_votes_16 (tgt := 40) (by decide) (fun h3 => ?_) (fun h3 => ?_)
      · skip
        exact J40 (Or.inr (Or.inr (Or.inl ⟨h1, h2, h3⟩)))
      · skip
        refine z_aload_n dX12_votes_19 rfl rfl ?_
        refine z_iload_n dX12_votes_20 rfl rfl ?_
        refine z_callv (as := [zi a2]) (st := []) mkX12_isOne lkRX12_271 rfl rfl rfl (by decide) (Nat.le_of_ble_eq_true rfl) rfl dX12_votes_21 ?_
        refine SX12_isOne ?_
        show zR G MX12_votes 24 [zr 98, zi a1, zi a2] [zi (if (0 ≤ a2 ∧ a2 < σ 98 1) then (1 : Int) else 0)] σ Q
        refine z_if_eq dX12_votes_24 (tgt := 40) (by decide) (fun z => ?_) (fun z => ?_)
        · have h4 : ¬ ((0 ≤ a2 ∧ a2 < σ 98 1)) := zb0 z
          exact J40 (Or.inr (Or.inr (Or.inr (Or.inl ⟨h1, h2, h3, h4⟩))))
        · have h4 : (0 ≤ a2 ∧ a2 < σ 98 1) := zb1 z
          refine z_aload_n dX12_votes_27 rfl rfl ?_
          refine z_getfR (k := 96) flRX12_232 rfl rfl dX12_votes_28 ?_
          refine z_iload_n dX12_votes_31 rfl rfl ?_
          have s1 : (0 : Int) ≤ a1 ∧ a1 < (24 : Int) := k1 h1 h2 h3 h4
          refine z_iald rfl s1.1 s1.2 dX12_votes_32 ?_
          refine z_iload_n dX12_votes_33 rfl rfl ?_
          refine z_ishr dX12_votes_34 ?_
          refine z_iconst dX12_votes_35 (by unfold zIn; decide) ?_
          refine z_iand dX12_votes_36 ?_
          refine z_if_ne dX12_votes_37 (tgt := 42) (by decide) (fun h5 => ?_) (fun h5 => ?_)
          · skip
            refine z_aload_n dX12_votes_42 rfl rfl ?_
            refine z_getfR (k := 95) flRX12_229 rfl rfl dX12_votes_43 ?_
            refine z_bipush (x := 24) dX12_votes_46 (by decide +kernel) (by unfold zIn; decide) ?_
            refine z_iload_n dX12_votes_48 rfl rfl ?_
            have s2 : -2147483648 ≤ 24 * a1 ∧ 24 * a1 < (2147483648 : Int) := k2 h1 h2 h3 h4 h5
            refine z_imulN dX12_votes_49 s2 ?_
            refine z_iload_n dX12_votes_50 rfl rfl ?_
            have s3 : -2147483648 ≤ (24 * a1) + a2 ∧ (24 * a1) + a2 < (2147483648 : Int) := k3 h1 h2 h3 h4 h5
            refine z_iaddN dX12_votes_51 s3 ?_
            have s4 : (0 : Int) ≤ (24 * a1) + a2 ∧ (24 * a1) + a2 < (576 : Int) := k4 h1 h2 h3 h4 h5
            refine z_iald rfl s4.1 s4.2 dX12_votes_52 ?_
            exact z_ireti rfl dX12_votes_53 (k5 h1 h2 h3 h4 h5)
          · skip
            exact J40 (Or.inr (Or.inr (Or.inr (Or.inr ⟨h1, h2, h3, h4, h5⟩))))
