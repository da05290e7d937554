set_option maxRecDepth 20000 in
set_option maxHeartbeats 1000000 in
theorem TX7_settle {G : zG} {σ : zS} {Q : Int → zS → Prop} {a1 : Int}  (k1 : zR G MX7_settle 4 [zr 83, zi a1, zi 0, zi 0, zu] [] σ Q) : zO G MX7_settle [zr 83, zi a1] σ Q := by
  refine zO_of (ls0 := [zr 83, zi a1, zu, zu, zu]) (by decide) (Nat.le_of_ble_eq_true rfl) rfl ?_
  refine z_iconst dX7_settle_0 (by unfold zIn; decide) ?_
  refine z_istore_n (ls' := [zr 83, zi a1, zi 0, zu, zu]) dX7_settle_1 rfl (by decide) rfl ?_
  refine z_iconst dX7_settle_2 (by unfold zIn; decide) ?_
  refine z_istore_n (ls' := [zr 83, zi a1, zi 0, zi 0, zu]) dX7_settle_3 rfl (by decide) rfl ?_
  exact k1
set_option maxRecDepth 20000 in
set_option maxHeartbeats 1000000 in
theorem TX7_settle_4 {G : zG} {σ : zS} {Q : Int → zS → Prop} {v1 v2 v3 : Int}  (k1 : (σ 83 10 ≤ v3) → (0 : Int) ≤ σ 83 10 ∧ σ 83 10 < (11 : Int)) (k2 : (σ 83 10 ≤ v3) → -2147483648 ≤ σ 83 10 - 1 ∧ σ 83 10 - 1 < (2147483648 : Int)) (k3 : (σ 83 10 ≤ v3) → zR G MX7_settle 95 [zr 83, zi v1, zi v2, zi (σ 83 10 - 1), zu] [] (zup σ 89 (σ 83 10) 2000000000) Q) (k4 : (v3 < σ 83 10) → (0 : Int) ≤ v3 ∧ v3 < (10 : Int)) (k5 : (v3 < σ 83 10) → -2147483648 ≤ v2 + σ 86 v3 ∧ v2 + σ 86 v3 < (2147483648 : Int)) (k6 : (v3 < σ 83 10) → zR G MX7_settle 24 [zr 83, zi v1, zi (v2 + σ 86 v3), zi v3, zi 0] [] σ Q) : zR G MX7_settle 4 [zr 83, zi v1, zi v2, zi v3, zu] [] σ Q := by
  refine z_iload_n dX7_settle_4 rfl rfl ?_
  refine z_aload_n dX7_settle_5 rfl rfl ?_
  refine z_getfI (k := 10) flRX7_39 rfl rfl dX7_settle_6 ?_
  refine z_icmp_ge dX7_settle_9 (tgt := 77) (by decide) (fun h1 => ?_) (fun h1 => ?_)
  · skip
    refine z_aload_n dX7_settle_77 rfl rfl ?_
    refine z_getfR (k := 7) flRX7_29 rfl rfl dX7_settle_78 ?_
    refine z_aload_n dX7_settle_81 rfl rfl ?_
    refine z_getfI (k := 10) flRX7_39 rfl rfl dX7_settle_82 ?_
    refine z_ldc (x := 2000000000) (zin_6 (List.mem_of_getElem? (i := 12) (by decide +kernel))) (by unfold zIn; decide) dX7_settle_85 ?_
    have s1 : (0 : Int) ≤ σ 83 10 ∧ σ 83 10 < (11 : Int) := k1 h1
    refine z_iast rfl s1.1 s1.2 dX7_settle_87 ?_
    refine z_aload_n dX7_settle_88 rfl rfl ?_
    refine z_getfE (k := 10) (v := σ 83 10) flRX7_39 rfl rfl (zup_of (by decide)) dX7_settle_89 ?_
    refine z_iconst dX7_settle_92 (by unfold zIn; decide) ?_
    have s2 : -2147483648 ≤ σ 83 10 - 1 ∧ σ 83 10 - 1 < (2147483648 : Int) := k2 h1
    refine z_isubN dX7_settle_93 s2 ?_
    refine z_istore_n (ls' := [zr 83, zi v1, zi v2, zi (σ 83 10 - 1), zu]) dX7_settle_94 rfl (by decide) rfl ?_
    exact k3 h1
  · skip
    refine z_iload_n dX7_settle_12 rfl rfl ?_
    refine z_aload_n dX7_settle_13 rfl rfl ?_
    refine z_getfR (k := 4) flRX7_18 rfl rfl dX7_settle_14 ?_
    refine z_iload_n dX7_settle_17 rfl rfl ?_
    have s4 : (0 : Int) ≤ v3 ∧ v3 < (10 : Int) := k4 h1
    refine z_iald rfl s4.1 s4.2 dX7_settle_18 ?_
    have s5 : -2147483648 ≤ v2 + σ 86 v3 ∧ v2 + σ 86 v3 < (2147483648 : Int) := k5 h1
    refine z_iaddN dX7_settle_19 s5 ?_
    refine z_istore_n (ls' := [zr 83, zi v1, zi (v2 + σ 86 v3), zi v3, zu]) dX7_settle_20 rfl (by decide) rfl ?_
    refine z_iconst dX7_settle_21 (by unfold zIn; decide) ?_
    refine z_istore (ls' := [zr 83, zi v1, zi (v2 + σ 86 v3), zi v3, zi 0]) dX7_settle_22 (by decide) rfl ?_
    exact k6 h1
set_option maxRecDepth 20000 in
set_option maxHeartbeats 1000000 in
theorem TX7_settle_24 {G : zG} {σ : zS} {Q : Int → zS → Prop} {v1 v2 v3 v4 : Int}  (k1 : (σ 68 11 ≤ v4) → (0 : Int) ≤ v3 ∧ v3 < (10 : Int)) (k2 : (σ 68 11 ≤ v4) → -2147483648 ≤ v3 + 1 ∧ v3 + 1 < (2147483648 : Int)) (k3 : (σ 68 11 ≤ v4) → zR G MX7_settle 4 [zr 83, zi v1, zi v2, zi (v3 + 1), zu] [] (zup σ 88 v3 v2) Q) (k4 : (v4 < σ 68 11) → -2147483648 ≤ 10 * v4 ∧ 10 * v4 < (2147483648 : Int)) (k5 : (v4 < σ 68 11) → -2147483648 ≤ (10 * v4) + v3 ∧ (10 * v4) + v3 < (2147483648 : Int)) (k6 : (v4 < σ 68 11) → (0 : Int) ≤ (10 * v4) + v3 ∧ (10 * v4) + v3 < (80 : Int)) (k7 : (v4 < σ 68 11) → -2147483648 ≤ zand (zushr v1 v4) 1 * (σ 87 ((10 * v4) + v3)) ∧ zand (zushr v1 v4) 1 * (σ 87 ((10 * v4) + v3)) < (2147483648 : Int)) (k8 : (v4 < σ 68 11) → -2147483648 ≤ v2 + (zand (zushr v1 v4) 1 * (σ 87 ((10 * v4) + v3))) ∧ v2 + (zand (zushr v1 v4) 1 * (σ 87 ((10 * v4) + v3))) < (2147483648 : Int)) (k9 : (v4 < σ 68 11) → -2147483648 ≤ v4 + 1 ∧ v4 + 1 < (2147483648 : Int)) (k10 : (v4 < σ 68 11) → zR G MX7_settle 24 [zr 83, zi v1, zi (v2 + (zand (zushr v1 v4) 1 * (σ 87 ((10 * v4) + v3)))), zi v3, zi (v4 + 1)] [] σ Q) : zR G MX7_settle 24 [zr 83, zi v1, zi v2, zi v3, zi v4] [] σ Q := by
  refine z_iload dX7_settle_24 rfl ?_
  refine z_aload_n dX7_settle_26 rfl rfl ?_
  refine z_getfR (k := 0) flRX7_51 rfl rfl dX7_settle_27 ?_
  refine z_getfI (k := 11) flRX7_73 rfl rfl dX7_settle_30 ?_
  refine z_icmp_ge dX7_settle_33 (tgt := 64) (by decide) (fun h1 => ?_) (fun h1 => ?_)
  · skip
    refine z_aload_n dX7_settle_64 rfl rfl ?_
    refine z_getfR (k := 6) flRX7_26 rfl rfl dX7_settle_65 ?_
    refine z_iload_n dX7_settle_68 rfl rfl ?_
    refine z_iload_n dX7_settle_69 rfl rfl ?_
    have s1 : (0 : Int) ≤ v3 ∧ v3 < (10 : Int) := k1 h1
    refine z_iast rfl s1.1 s1.2 dX7_settle_70 ?_
    have s2 : -2147483648 ≤ v3 + 1 ∧ v3 + 1 < (2147483648 : Int) := k2 h1
    refine z_iincN (ls' := [zr 83, zi v1, zi v2, zi (v3 + 1), zi v4]) dX7_settle_71 rfl (by decide) s2 rfl ?_
    refine z_goto dX7_settle_74 (tgt := 4) (by decide) ?_
    exact zR_fg [false, false, false, false, true] (k3 h1)
  · skip
    refine z_iload_n dX7_settle_36 rfl rfl ?_
    refine z_iload_n dX7_settle_37 rfl rfl ?_
    refine z_iload dX7_settle_38 rfl ?_
    refine z_iushr dX7_settle_40 ?_
    refine z_iconst dX7_settle_41 (by unfold zIn; decide) ?_
    refine z_iand dX7_settle_42 ?_
    refine z_aload_n dX7_settle_43 rfl rfl ?_
    refine z_getfR (k := 5) flRX7_23 rfl rfl dX7_settle_44 ?_
    refine z_bipush (x := 10) dX7_settle_47 (by decide +kernel) (by unfold zIn; decide) ?_
    refine z_iload dX7_settle_49 rfl ?_
    have s4 : -2147483648 ≤ 10 * v4 ∧ 10 * v4 < (2147483648 : Int) := k4 h1
    refine z_imulN dX7_settle_51 s4 ?_
    refine z_iload_n dX7_settle_52 rfl rfl ?_
    have s5 : -2147483648 ≤ (10 * v4) + v3 ∧ (10 * v4) + v3 < (2147483648 : Int) := k5 h1
    refine z_iaddN dX7_settle_53 s5 ?_
    have s6 : (0 : Int) ≤ (10 * v4) + v3 ∧ (10 * v4) + v3 < (80 : Int) := k6 h1
    refine z_iald rfl s6.1 s6.2 dX7_settle_54 ?_
    have s7 : -2147483648 ≤ zand (zushr v1 v4) 1 * (σ 87 ((10 * v4) + v3)) ∧ zand (zushr v1 v4) 1 * (σ 87 ((10 * v4) + v3)) < (2147483648 : Int) := k7 h1
    refine z_imulN dX7_settle_55 s7 ?_
    have s8 : -2147483648 ≤ v2 + (zand (zushr v1 v4) 1 * (σ 87 ((10 * v4) + v3))) ∧ v2 + (zand (zushr v1 v4) 1 * (σ 87 ((10 * v4) + v3))) < (2147483648 : Int) := k8 h1
    refine z_iaddN dX7_settle_56 s8 ?_
    refine z_istore_n (ls' := [zr 83, zi v1, zi (v2 + (zand (zushr v1 v4) 1 * (σ 87 ((10 * v4) + v3)))), zi v3, zi v4]) dX7_settle_57 rfl (by decide) rfl ?_
    have s9 : -2147483648 ≤ v4 + 1 ∧ v4 + 1 < (2147483648 : Int) := k9 h1
    refine z_iincN (ls' := [zr 83, zi v1, zi (v2 + (zand (zushr v1 v4) 1 * (σ 87 ((10 * v4) + v3)))), zi v3, zi (v4 + 1)]) dX7_settle_58 rfl (by decide) s9 rfl ?_
    refine z_goto dX7_settle_61 (tgt := 24) (by decide) ?_
    exact k10 h1
set_option maxRecDepth 20000 in
set_option maxHeartbeats 1000000 in
theorem TX7_settle_95 {G : zG} {σ : zS} {Q : Int → zS → Prop} {v1 v2 v3 : Int}  (k1 : (v3 < 0) → Q 0 σ) (k2 : (0 ≤ v3) → (0 : Int) ≤ v3 ∧ v3 < (10 : Int)) (k3 : (0 ≤ v3) → -2147483648 ≤ v3 + 1 ∧ v3 + 1 < (2147483648 : Int)) (k4 : (0 ≤ v3) → (0 : Int) ≤ v3 + 1 ∧ v3 + 1 < (11 : Int)) (k5 : (0 ≤ v3) → (0 : Int) ≤ v3 ∧ v3 < (11 : Int)) (k6 : (0 ≤ v3) → -2147483648 ≤ v3 + (-1) ∧ v3 + (-1) < (2147483648 : Int)) (k7 : (0 ≤ v3) → zR G MX7_settle 95 [zr 83, zi v1, zi v2, zi (v3 + (-1)), zu] [] (zup σ 89 v3 (min (σ 88 v3) (σ 89 (v3 + 1)))) Q) : zR G MX7_settle 95 [zr 83, zi v1, zi v2, zi v3, zu] [] σ Q := by
  refine z_iload_n dX7_settle_95 rfl rfl ?_
  refine z_if_lt dX7_settle_96 (tgt := 128) (by decide) (fun h1 => ?_) (fun h1 => ?_)
  · skip
    exact z_vret rfl dX7_settle_128 (k1 h1)
  · skip
    refine z_aload_n dX7_settle_99 rfl rfl ?_
    refine z_getfR (k := 7) flRX7_29 rfl rfl dX7_settle_100 ?_
    refine z_iload_n dX7_settle_103 rfl rfl ?_
    refine z_aload_n dX7_settle_104 rfl rfl ?_
    refine z_getfR (k := 6) flRX7_26 rfl rfl dX7_settle_105 ?_
    refine z_iload_n dX7_settle_108 rfl rfl ?_
    have s2 : (0 : Int) ≤ v3 ∧ v3 < (10 : Int) := k2 h1
    refine z_iald rfl s2.1 s2.2 dX7_settle_109 ?_
    refine z_aload_n dX7_settle_110 rfl rfl ?_
    refine z_getfR (k := 7) flRX7_29 rfl rfl dX7_settle_111 ?_
    refine z_iload_n dX7_settle_114 rfl rfl ?_
    refine z_iconst dX7_settle_115 (by unfold zIn; decide) ?_
    have s3 : -2147483648 ≤ v3 + 1 ∧ v3 + 1 < (2147483648 : Int) := k3 h1
    refine z_iaddN dX7_settle_116 s3 ?_
    have s4 : (0 : Int) ≤ v3 + 1 ∧ v3 + 1 < (11 : Int) := k4 h1
    refine z_iald rfl s4.1 s4.2 dX7_settle_117 ?_
    refine z_min lkRX7_102 (by decide) (by decide) (Nat.le_of_ble_eq_true rfl) dX7_settle_118 ?_
    have s5 : (0 : Int) ≤ v3 ∧ v3 < (11 : Int) := k5 h1
    refine z_iast rfl s5.1 s5.2 dX7_settle_121 ?_
    have s6 : -2147483648 ≤ v3 + (-1) ∧ v3 + (-1) < (2147483648 : Int) := k6 h1
    refine z_iincN (ls' := [zr 83, zi v1, zi v2, zi (v3 + (-1)), zu]) dX7_settle_122 rfl (by decide) s6 rfl ?_
    refine z_goto dX7_settle_125 (tgt := 95) (by decide) ?_
    exact k7 h1
set_option maxRecDepth 20000 in
set_option maxHeartbeats 1000000 in
theorem TX7_gainOfRoof {G : zG} {σ : zS} {Q : Int → zS → Prop} {a1 a2 : Int}  (k1 : (σ 83 10 ≤ a2) → Q 0 σ) (k2 : (a2 < σ 83 10) → (0 : Int) ≤ a1 ∧ a1 < (2 : Int)) (k3 : (a2 < σ 83 10) → -2147483648 ≤ σ 83 10 - a2 ∧ σ 83 10 - a2 < (2147483648 : Int)) (k4 : (a2 < σ 83 10) → -2147483648 ≤ σ 85 a1 * (σ 83 10 - a2) ∧ σ 85 a1 * (σ 83 10 - a2) < (2147483648 : Int)) (k5 : (a2 < σ 83 10) → -2147483648 ≤ (σ 85 a1 * (σ 83 10 - a2)) - σ 84 a1 ∧ (σ 85 a1 * (σ 83 10 - a2)) - σ 84 a1 < (2147483648 : Int)) (k6 : (a2 < σ 83 10) → Q ((σ 85 a1 * (σ 83 10 - a2)) - σ 84 a1) σ) : zO G MX7_gainOfRoof [zr 83, zi a1, zi a2] σ Q := by
  refine zO_of (ls0 := [zr 83, zi a1, zi a2]) (by decide) (Nat.le_of_ble_eq_true rfl) rfl ?_
  refine z_iload_n dX7_gainOfRoof_0 rfl rfl ?_
  refine z_aload_n dX7_gainOfRoof_1 rfl rfl ?_
  refine z_getfI (k := 10) flRX7_39 rfl rfl dX7_gainOfRoof_2 ?_
  refine z_icmp_ge dX7_gainOfRoof_5 (tgt := 31) (by decide) (fun h1 => ?_) (fun h1 => ?_)
  · skip
    refine z_iconst dX7_gainOfRoof_31 (by unfold zIn; decide) ?_
    exact z_ireti rfl dX7_gainOfRoof_32 (k1 h1)
  · skip
    refine z_aload_n dX7_gainOfRoof_8 rfl rfl ?_
    refine z_getfR (k := 3) flRX7_15 rfl rfl dX7_gainOfRoof_9 ?_
    refine z_iload_n dX7_gainOfRoof_12 rfl rfl ?_
    have s2 : (0 : Int) ≤ a1 ∧ a1 < (2 : Int) := k2 h1
    refine z_iald rfl s2.1 s2.2 dX7_gainOfRoof_13 ?_
    refine z_aload_n dX7_gainOfRoof_14 rfl rfl ?_
    refine z_getfI (k := 10) flRX7_39 rfl rfl dX7_gainOfRoof_15 ?_
    refine z_iload_n dX7_gainOfRoof_18 rfl rfl ?_
    have s3 : -2147483648 ≤ σ 83 10 - a2 ∧ σ 83 10 - a2 < (2147483648 : Int) := k3 h1
    refine z_isubN dX7_gainOfRoof_19 s3 ?_
    have s4 : -2147483648 ≤ σ 85 a1 * (σ 83 10 - a2) ∧ σ 85 a1 * (σ 83 10 - a2) < (2147483648 : Int) := k4 h1
    refine z_imulN dX7_gainOfRoof_20 s4 ?_
    refine z_aload_n dX7_gainOfRoof_21 rfl rfl ?_
    refine z_getfR (k := 2) flRX7_11 rfl rfl dX7_gainOfRoof_22 ?_
    refine z_iload_n dX7_gainOfRoof_25 rfl rfl ?_
    refine z_iald rfl s2.1 s2.2 dX7_gainOfRoof_26 ?_
    have s5 : -2147483648 ≤ (σ 85 a1 * (σ 83 10 - a2)) - σ 84 a1 ∧ (σ 85 a1 * (σ 83 10 - a2)) - σ 84 a1 < (2147483648 : Int) := k5 h1
    refine z_isubN dX7_gainOfRoof_27 s5 ?_
    refine z_goto dX7_gainOfRoof_28 (tgt := 32) (by decide) ?_
    exact z_ireti rfl dX7_gainOfRoof_32 (k6 h1)
set_option maxRecDepth 20000 in
set_option maxHeartbeats 1000000 in
theorem TX7_worthOf {G : zG} {σ : zS} {Q : Int → zS → Prop} {a1 a2 : Int}  (k1 : -2147483648 ≤ σ 83 10 - 1 ∧ σ 83 10 - 1 < (2147483648 : Int)) (k2 : (0 : Int) ≤ σ 83 10 - 1 ∧ σ 83 10 - 1 < (10 : Int)) (k3 : zO G MX7_gainOfRoof [zr 83, zi 0, zi a1] σ (fun rr σ' => zR G MX7_worthOf 17 [zr 83, zi a1, zi a2] [zi rr, zi (σ 88 (σ 83 10 - 1))] σ' Q)) : zO G MX7_worthOf [zr 83, zi a1, zi a2] σ Q := by
  refine zO_of (ls0 := [zr 83, zi a1, zi a2]) (by decide) (Nat.le_of_ble_eq_true rfl) rfl ?_
  refine z_aload_n dX7_worthOf_0 rfl rfl ?_
  refine z_getfR (k := 6) flRX7_26 rfl rfl dX7_worthOf_1 ?_
  refine z_aload_n dX7_worthOf_4 rfl rfl ?_
  refine z_getfI (k := 10) flRX7_39 rfl rfl dX7_worthOf_5 ?_
  refine z_iconst dX7_worthOf_8 (by unfold zIn; decide) ?_
  have s1 : -2147483648 ≤ σ 83 10 - 1 ∧ σ 83 10 - 1 < (2147483648 : Int) := k1
  refine z_isubN dX7_worthOf_9 s1 ?_
  have s2 : (0 : Int) ≤ σ 83 10 - 1 ∧ σ 83 10 - 1 < (10 : Int) := k2
  refine z_iald rfl s2.1 s2.2 dX7_worthOf_10 ?_
  refine z_aload_n dX7_worthOf_11 rfl rfl ?_
  refine z_iconst dX7_worthOf_12 (by unfold zIn; decide) ?_
  refine z_iload_n dX7_worthOf_13 rfl rfl ?_
  refine z_callv (as := [zi 0, zi a1]) (st := [zi (σ 88 (σ 83 10 - 1))]) mkX7_gainOfRoof lkRX7_121 rfl rfl rfl (by decide) (Nat.le_of_ble_eq_true rfl) rfl dX7_worthOf_14 (k3)
set_option maxRecDepth 20000 in
set_option maxHeartbeats 1000000 in
theorem TX7_worthOf_17 {G : zG} {σ : zS} {Q : Int → zS → Prop} {v1 v2 r t1 : Int}  (k1 : -2147483648 ≤ t1 + r ∧ t1 + r < (2147483648 : Int)) (k2 : zO G MX7_gainOfRoof [zr 83, zi 1, zi v2] σ (fun rr σ' => zR G MX7_worthOf 24 [zr 83, zi v1, zi v2] [zi rr, zi (t1 + r)] σ' Q)) : zR G MX7_worthOf 17 [zr 83, zi v1, zi v2] [zi r, zi t1] σ Q := by
  have s1 : -2147483648 ≤ t1 + r ∧ t1 + r < (2147483648 : Int) := k1
  refine z_iaddN dX7_worthOf_17 s1 ?_
  refine z_aload_n dX7_worthOf_18 rfl rfl ?_
  refine z_iconst dX7_worthOf_19 (by unfold zIn; decide) ?_
  refine z_iload_n dX7_worthOf_20 rfl rfl ?_
  refine z_callv (as := [zi 1, zi v2]) (st := [zi (t1 + r)]) mkX7_gainOfRoof lkRX7_121 rfl rfl rfl (by decide) (Nat.le_of_ble_eq_true rfl) rfl dX7_worthOf_21 (k2)
set_option maxRecDepth 20000 in
set_option maxHeartbeats 1000000 in
theorem TX7_worthOf_24 {G : zG} {σ : zS} {Q : Int → zS → Prop} {v1 v2 r t1 : Int}  (k1 : -2147483648 ≤ t1 + r ∧ t1 + r < (2147483648 : Int)) (k2 : Q (t1 + r) σ) : zR G MX7_worthOf 24 [zr 83, zi v1, zi v2] [zi r, zi t1] σ Q := by
  have s1 : -2147483648 ≤ t1 + r ∧ t1 + r < (2147483648 : Int) := k1
  refine z_iaddN dX7_worthOf_24 s1 ?_
  exact z_ireti rfl dX7_worthOf_25 (k2)
set_option maxRecDepth 20000 in
set_option maxHeartbeats 1000000 in
theorem TX7_mendBest {G : zG} {σ : zS} {Q : Int → zS → Prop} {a1 a2 : Int}  (k1 : (σ 83 9 ≤ 0) → zR G MX7_mendBest 16 [zr 83, zi a1, zi a2, zi (σ 83 10), zu, zu] [] σ Q) (k2 : (0 < σ 83 9) → zR G MX7_mendBest 16 [zr 83, zi a1, zi a2, zi 0, zu, zu] [] σ Q) : zO G MX7_mendBest [zr 83, zi a1, zi a2] σ Q := by
  refine zO_of (ls0 := [zr 83, zi a1, zi a2, zu, zu, zu]) (by decide) (Nat.le_of_ble_eq_true rfl) rfl ?_
  refine z_aload_n dX7_mendBest_0 rfl rfl ?_
  refine z_getfI (k := 9) flRX7_35 rfl rfl dX7_mendBest_1 ?_
  refine z_if_le dX7_mendBest_4 (tgt := 11) (by decide) (fun h1 => ?_) (fun h1 => ?_)
  · skip
    refine z_aload_n dX7_mendBest_11 rfl rfl ?_
    refine z_getfI (k := 10) flRX7_39 rfl rfl dX7_mendBest_12 ?_
    refine z_istore_n (ls' := [zr 83, zi a1, zi a2, zi (σ 83 10), zu, zu]) dX7_mendBest_15 rfl (by decide) rfl ?_
    exact k1 h1
  · skip
    refine z_iconst dX7_mendBest_7 (by unfold zIn; decide) ?_
    refine z_goto dX7_mendBest_8 (tgt := 15) (by decide) ?_
    refine z_istore_n (ls' := [zr 83, zi a1, zi a2, zi 0, zu, zu]) dX7_mendBest_15 rfl (by decide) rfl ?_
    exact k2 h1
set_option maxRecDepth 20000 in
set_option maxHeartbeats 1000000 in
theorem TX7_mendBest_16 {G : zG} {σ : zS} {Q : Int → zS → Prop} {v1 v2 v3 : Int}  (k1 : (σ 83 10 < v3) → Q 0 σ) (k2 : (v3 ≤ σ 83 10) → (0 : Int) ≤ v3 ∧ v3 < (11 : Int)) (k3 : (v3 ≤ σ 83 10) → -2147483648 ≤ σ 89 v3 - σ 84 0 ∧ σ 89 v3 - σ 84 0 < (2147483648 : Int)) (k4 : (v3 ≤ σ 83 10) → (v2 ≤ σ 89 v3 - σ 84 0) → (σ 83 9 ≤ 1) → zR G MX7_mendBest 62 [zr 83, zi v1, zi v2, zi v3, zi (σ 83 10), zu] [] σ Q) (k5 : (v3 ≤ σ 83 10) → (v2 ≤ σ 89 v3 - σ 84 0) → (1 < σ 83 9) → zR G MX7_mendBest 62 [zr 83, zi v1, zi v2, zi v3, zi 0, zu] [] σ Q) (k6 : (v3 ≤ σ 83 10) → (σ 89 v3 - σ 84 0 < v2) → -2147483648 ≤ v3 + 1 ∧ v3 + 1 < (2147483648 : Int)) (k7 : (v3 ≤ σ 83 10) → (σ 89 v3 - σ 84 0 < v2) → zR G MX7_mendBest 16 [zr 83, zi v1, zi v2, zi (v3 + 1), zu, zu] [] σ Q) : zR G MX7_mendBest 16 [zr 83, zi v1, zi v2, zi v3, zu, zu] [] σ Q := by
  have J191 : (v3 ≤ σ 83 10) → (σ 89 v3 - σ 84 0 < v2) → zR G MX7_mendBest 191 [zr 83, zi v1, zi v2, zi v3, zu, zu] [] σ Q := by
    intro h1 h2
    have s6 : -2147483648 ≤ v3 + 1 ∧ v3 + 1 < (2147483648 : Int) := k6 h1 h2
    refine z_iincN (ls' := [zr 83, zi v1, zi v2, zi (v3 + 1), zu, zu]) dX7_mendBest_191 rfl (by decide) s6 rfl ?_
    refine z_goto dX7_mendBest_194 (tgt := 16) (by decide) ?_
    exact k7 h1 h2
  refine z_iload_n dX7_mendBest_16 rfl rfl ?_
  refine z_aload_n dX7_mendBest_17 rfl rfl ?_
  refine z_getfI (k := 10) flRX7_39 rfl rfl dX7_mendBest_18 ?_
  refine z_icmp_gt dX7_mendBest_21 (tgt := 197) (by decide) (fun h1 => ?_) (fun h1 => ?_)
  · skip
    exact z_vret rfl dX7_mendBest_197 (k1 h1)
  · skip
    refine z_aload_n dX7_mendBest_24 rfl rfl ?_
    refine z_getfR (k := 7) flRX7_29 rfl rfl dX7_mendBest_25 ?_
    refine z_iload_n dX7_mendBest_28 rfl rfl ?_
    have s2 : (0 : Int) ≤ v3 ∧ v3 < (11 : Int) := k2 h1
    refine z_iald rfl s2.1 s2.2 dX7_mendBest_29 ?_
    refine z_aload_n dX7_mendBest_30 rfl rfl ?_
    refine z_getfR (k := 2) flRX7_11 rfl rfl dX7_mendBest_31 ?_
    refine z_iconst dX7_mendBest_34 (by unfold zIn; decide) ?_
    refine z_iald rfl (by decide) (by decide) dX7_mendBest_35 ?_
    have s3 : -2147483648 ≤ σ 89 v3 - σ 84 0 ∧ σ 89 v3 - σ 84 0 < (2147483648 : Int) := k3 h1
    refine z_isubN dX7_mendBest_36 s3 ?_
    refine z_iload_n dX7_mendBest_37 rfl rfl ?_
    refine z_icmp_ge dX7_mendBest_38 (tgt := 44) (by decide) (fun h2 => ?_) (fun h2 => ?_)
    · skip
      refine z_aload_n dX7_mendBest_44 rfl rfl ?_
      refine z_getfI (k := 9) flRX7_35 rfl rfl dX7_mendBest_45 ?_
      refine z_iconst dX7_mendBest_48 (by unfold zIn; decide) ?_
      refine z_icmp_le dX7_mendBest_49 (tgt := 56) (by decide) (fun h3 => ?_) (fun h3 => ?_)
      · skip
        refine z_aload_n dX7_mendBest_56 rfl rfl ?_
        refine z_getfI (k := 10) flRX7_39 rfl rfl dX7_mendBest_57 ?_
        refine z_istore (ls' := [zr 83, zi v1, zi v2, zi v3, zi (σ 83 10), zu]) dX7_mendBest_60 (by decide) rfl ?_
        exact k4 h1 h2 h3
      · skip
        refine z_iconst dX7_mendBest_52 (by unfold zIn; decide) ?_
        refine z_goto dX7_mendBest_53 (tgt := 60) (by decide) ?_
        refine z_istore (ls' := [zr 83, zi v1, zi v2, zi v3, zi 0, zu]) dX7_mendBest_60 (by decide) rfl ?_
        exact k5 h1 h2 h3
    · skip
      refine z_goto dX7_mendBest_41 (tgt := 191) (by decide) ?_
      exact J191 h1 h2
set_option maxRecDepth 20000 in
set_option maxHeartbeats 1000000 in
theorem TX7_mendBest_62 {G : zG} {σ : zS} {Q : Int → zS → Prop} {v1 v2 v3 v4 : Int}  (k1 : (v4 ≤ σ 83 10) → (0 : Int) ≤ v4 ∧ v4 < (11 : Int)) (k2 : (v4 ≤ σ 83 10) → -2147483648 ≤ σ 89 v4 - σ 84 1 ∧ σ 89 v4 - σ 84 1 < (2147483648 : Int)) (k3 : (v4 ≤ σ 83 10) → (v2 ≤ σ 89 v4 - σ 84 1) → (0 : Int) ≤ max v3 v4 ∧ max v3 v4 < (11 : Int)) (k4 : (v4 ≤ σ 83 10) → (v2 ≤ σ 89 v4 - σ 84 1) → -2147483648 ≤ σ 89 (max v3 v4) - σ 84 0 ∧ σ 89 (max v3 v4) - σ 84 0 < (2147483648 : Int)) (k5 : (v4 ≤ σ 83 10) → (v2 ≤ σ 89 v4 - σ 84 1) → -2147483648 ≤ (σ 89 (max v3 v4) - σ 84 0) - σ 84 1 ∧ (σ 89 (max v3 v4) - σ 84 0) - σ 84 1 < (2147483648 : Int)) (k6 : (v4 ≤ σ 83 10) → (v2 ≤ σ 89 v4 - σ 84 1) → (v2 ≤ (σ 89 (max v3 v4) - σ 84 0) - σ 84 1) → zO G MX7_worthOf [zr 83, zi v3, zi v4] σ (fun rr σ' => zR G MX7_mendBest 137 [zr 83, zi v1, zi v2, zi v3, zi v4, zi 1] [zi rr] σ' Q)) (k7 : (v4 ≤ σ 83 10) → (σ 89 v4 - σ 84 1 < v2 ∨ (v2 ≤ σ 89 v4 - σ 84 1 ∧ (σ 89 (max v3 v4) - σ 84 0) - σ 84 1 < v2)) → -2147483648 ≤ v4 + 1 ∧ v4 + 1 < (2147483648 : Int)) (k8 : (v4 ≤ σ 83 10) → (σ 89 v4 - σ 84 1 < v2 ∨ (v2 ≤ σ 89 v4 - σ 84 1 ∧ (σ 89 (max v3 v4) - σ 84 0) - σ 84 1 < v2)) → zR G MX7_mendBest 62 [zr 83, zi v1, zi v2, zi v3, zi (v4 + 1), zu] [] σ Q) (k9 : (σ 83 10 < v4) → -2147483648 ≤ v3 + 1 ∧ v3 + 1 < (2147483648 : Int)) (k10 : (σ 83 10 < v4) → zR G MX7_mendBest 16 [zr 83, zi v1, zi v2, zi (v3 + 1), zu, zu] [] σ Q) : zR G MX7_mendBest 62 [zr 83, zi v1, zi v2, zi v3, zi v4, zu] [] σ Q := by
  have J191 : (σ 83 10 < v4) → zR G MX7_mendBest 191 [zr 83, zi v1, zi v2, zi v3, zi v4, zu] [] σ Q := by
    intro h1
    have s9 : -2147483648 ≤ v3 + 1 ∧ v3 + 1 < (2147483648 : Int) := k9 h1
    refine z_iincN (ls' := [zr 83, zi v1, zi v2, zi (v3 + 1), zi v4, zu]) dX7_mendBest_191 rfl (by decide) s9 rfl ?_
    refine z_goto dX7_mendBest_194 (tgt := 16) (by decide) ?_
    exact zR_fg [false, false, false, false, true, false] (k10 h1)
  have J185 : (v4 ≤ σ 83 10) → (σ 89 v4 - σ 84 1 < v2 ∨ (v2 ≤ σ 89 v4 - σ 84 1 ∧ (σ 89 (max v3 v4) - σ 84 0) - σ 84 1 < v2)) → zR G MX7_mendBest 185 [zr 83, zi v1, zi v2, zi v3, zi v4, zi 0] [] σ Q := by
    intro h1 h5
    have s7 : -2147483648 ≤ v4 + 1 ∧ v4 + 1 < (2147483648 : Int) := k7 h1 h5
    refine z_iincN (ls' := [zr 83, zi v1, zi v2, zi v3, zi (v4 + 1), zi 0]) dX7_mendBest_185 rfl (by decide) s7 rfl ?_
    refine z_goto dX7_mendBest_188 (tgt := 62) (by decide) ?_
    exact zR_fg [false, false, false, false, false, true] (k8 h1 h5)
  have J122 : (v4 ≤ σ 83 10) → (σ 89 v4 - σ 84 1 < v2 ∨ (v2 ≤ σ 89 v4 - σ 84 1 ∧ (σ 89 (max v3 v4) - σ 84 0) - σ 84 1 < v2)) → zR G MX7_mendBest 122 [zr 83, zi v1, zi v2, zi v3, zi v4, zu] [] σ Q := by
    intro h1 h5
    refine z_iconst dX7_mendBest_122 (by unfold zIn; decide) ?_
    refine z_istore (ls' := [zr 83, zi v1, zi v2, zi v3, zi v4, zi 0]) dX7_mendBest_123 (by decide) rfl ?_
    refine z_iload dX7_mendBest_125 rfl ?_
    refine z_if_eq dX7_mendBest_127 (tgt := 185) (by decide) (fun z => ?_) (fun z => absurd z (by decide))
    exact J185 h1 h5
  refine z_iload dX7_mendBest_62 rfl ?_
  refine z_aload_n dX7_mendBest_64 rfl rfl ?_
  refine z_getfI (k := 10) flRX7_39 rfl rfl dX7_mendBest_65 ?_
  refine z_icmp_gt dX7_mendBest_68 (tgt := 191) (by decide) (fun h1 => ?_) (fun h1 => ?_)
  · skip
    exact J191 h1
  · skip
    refine z_aload_n dX7_mendBest_71 rfl rfl ?_
    refine z_getfR (k := 7) flRX7_29 rfl rfl dX7_mendBest_72 ?_
    refine z_iload dX7_mendBest_75 rfl ?_
    have s1 : (0 : Int) ≤ v4 ∧ v4 < (11 : Int) := k1 h1
    refine z_iald rfl s1.1 s1.2 dX7_mendBest_77 ?_
    refine z_aload_n dX7_mendBest_78 rfl rfl ?_
    refine z_getfR (k := 2) flRX7_11 rfl rfl dX7_mendBest_79 ?_
    refine z_iconst dX7_mendBest_82 (by unfold zIn; decide) ?_
    refine z_iald rfl (by decide) (by decide) dX7_mendBest_83 ?_
    have s2 : -2147483648 ≤ σ 89 v4 - σ 84 1 ∧ σ 89 v4 - σ 84 1 < (2147483648 : Int) := k2 h1
    refine z_isubN dX7_mendBest_84 s2 ?_
    refine z_iload_n dX7_mendBest_85 rfl rfl ?_
    refine z_icmp_lt dX7_mendBest_86 (tgt := 122) (by decide) (fun h2 => ?_) (fun h2 => ?_)
    · skip
      exact J122 h1 (Or.inl h2)
    · skip
      refine z_aload_n dX7_mendBest_89 rfl rfl ?_
      refine z_getfR (k := 7) flRX7_29 rfl rfl dX7_mendBest_90 ?_
      refine z_iload_n dX7_mendBest_93 rfl rfl ?_
      refine z_iload dX7_mendBest_94 rfl ?_
      refine z_max lkRX7_115 (by decide) (by decide) (Nat.le_of_ble_eq_true rfl) dX7_mendBest_96 ?_
      have s3 : (0 : Int) ≤ max v3 v4 ∧ max v3 v4 < (11 : Int) := k3 h1 h2
      refine z_iald rfl s3.1 s3.2 dX7_mendBest_99 ?_
      refine z_aload_n dX7_mendBest_100 rfl rfl ?_
      refine z_getfR (k := 2) flRX7_11 rfl rfl dX7_mendBest_101 ?_
      refine z_iconst dX7_mendBest_104 (by unfold zIn; decide) ?_
      refine z_iald rfl (by decide) (by decide) dX7_mendBest_105 ?_
      have s4 : -2147483648 ≤ σ 89 (max v3 v4) - σ 84 0 ∧ σ 89 (max v3 v4) - σ 84 0 < (2147483648 : Int) := k4 h1 h2
      refine z_isubN dX7_mendBest_106 s4 ?_
      refine z_aload_n dX7_mendBest_107 rfl rfl ?_
      refine z_getfR (k := 2) flRX7_11 rfl rfl dX7_mendBest_108 ?_
      refine z_iconst dX7_mendBest_111 (by unfold zIn; decide) ?_
      refine z_iald rfl (by decide) (by decide) dX7_mendBest_112 ?_
      have s5 : -2147483648 ≤ (σ 89 (max v3 v4) - σ 84 0) - σ 84 1 ∧ (σ 89 (max v3 v4) - σ 84 0) - σ 84 1 < (2147483648 : Int) := k5 h1 h2
      refine z_isubN dX7_mendBest_113 s5 ?_
      refine z_iload_n dX7_mendBest_114 rfl rfl ?_
      refine z_icmp_lt dX7_mendBest_115 (tgt := 122) (by decide) (fun h3 => ?_) (fun h3 => ?_)
      · skip
        exact J122 h1 (Or.inr ⟨h2, h3⟩)
      · skip
        refine z_iconst dX7_mendBest_118 (by unfold zIn; decide) ?_
        refine z_goto dX7_mendBest_119 (tgt := 123) (by decide) ?_
        refine z_istore (ls' := [zr 83, zi v1, zi v2, zi v3, zi v4, zi 1]) dX7_mendBest_123 (by decide) rfl ?_
        refine z_iload dX7_mendBest_125 rfl ?_
        refine z_if_eq dX7_mendBest_127 (tgt := 185) (by decide) (fun z => absurd z (by decide)) (fun z => ?_)
        refine z_aload_n dX7_mendBest_130 rfl rfl ?_
        refine z_iload_n dX7_mendBest_131 rfl rfl ?_
        refine z_iload dX7_mendBest_132 rfl ?_
        refine z_callv (as := [zi v3, zi v4]) (st := []) mkX7_worthOf lkRX7_118 rfl rfl rfl (by decide) (Nat.le_of_ble_eq_true rfl) rfl dX7_mendBest_134 (k6 h1 h2 h3)
set_option maxRecDepth 20000 in
set_option maxHeartbeats 1000000 in
theorem TX7_mendBest_137 {G : zG} {σ : zS} {Q : Int → zS → Prop} {v1 v2 v3 v4 v5 r : Int}  (k1 : (σ 83 12 < r) → zO G MX7_worthOf [zr 83, zi v3, zi v4] σ (fun rr σ' => zR G MX7_mendBest 152 [zr 83, zi v1, zi v2, zi v3, zi v4, zi v5] [zi rr, zr 83] σ' Q)) (k2 : (r ≤ σ 83 12) → -2147483648 ≤ v4 + 1 ∧ v4 + 1 < (2147483648 : Int)) (k3 : (r ≤ σ 83 12) → zR G MX7_mendBest 62 [zr 83, zi v1, zi v2, zi v3, zi (v4 + 1), zu] [] σ Q) : zR G MX7_mendBest 137 [zr 83, zi v1, zi v2, zi v3, zi v4, zi v5] [zi r] σ Q := by
  have J185 : (r ≤ σ 83 12) → zR G MX7_mendBest 185 [zr 83, zi v1, zi v2, zi v3, zi v4, zi v5] [] σ Q := by
    intro h1
    have s2 : -2147483648 ≤ v4 + 1 ∧ v4 + 1 < (2147483648 : Int) := k2 h1
    refine z_iincN (ls' := [zr 83, zi v1, zi v2, zi v3, zi (v4 + 1), zi v5]) dX7_mendBest_185 rfl (by decide) s2 rfl ?_
    refine z_goto dX7_mendBest_188 (tgt := 62) (by decide) ?_
    exact zR_fg [false, false, false, false, false, true] (k3 h1)
  refine z_aload_n dX7_mendBest_137 rfl rfl ?_
  refine z_getfI (k := 12) flRX7_45 rfl rfl dX7_mendBest_138 ?_
  refine z_icmp_le dX7_mendBest_141 (tgt := 185) (by decide) (fun h1 => ?_) (fun h1 => ?_)
  · skip
    exact J185 h1
  · skip
    refine z_aload_n dX7_mendBest_144 rfl rfl ?_
    refine z_aload_n dX7_mendBest_145 rfl rfl ?_
    refine z_iload_n dX7_mendBest_146 rfl rfl ?_
    refine z_iload dX7_mendBest_147 rfl ?_
    refine z_callv (as := [zi v3, zi v4]) (st := [zr 83]) mkX7_worthOf lkRX7_118 rfl rfl rfl (by decide) (Nat.le_of_ble_eq_true rfl) rfl dX7_mendBest_149 (k1 h1)
set_option maxRecDepth 20000 in
set_option maxHeartbeats 1000000 in
theorem TX7_mendBest_152 {G : zG} {σ : zS} {Q : Int → zS → Prop} {v1 v2 v3 v4 v5 r : Int}  (k1 : -2147483648 ≤ v4 + 1 ∧ v4 + 1 < (2147483648 : Int)) (k2 : zR G MX7_mendBest 62 [zr 83, zi v1, zi v2, zi v3, zi (v4 + 1), zu] [] (zup (zup (zup (zup (zup σ 83 12 r) 83 13 (σ 83 10)) 90 0 v1) 90 1 v3) 90 2 v4) Q) : zR G MX7_mendBest 152 [zr 83, zi v1, zi v2, zi v3, zi v4, zi v5] [zi r, zr 83] σ Q := by
  have J185 : zR G MX7_mendBest 185 [zr 83, zi v1, zi v2, zi v3, zi v4, zi v5] [] (zup (zup (zup (zup (zup σ 83 12 r) 83 13 (σ 83 10)) 90 0 v1) 90 1 v3) 90 2 v4) Q := by
    have s1 : -2147483648 ≤ v4 + 1 ∧ v4 + 1 < (2147483648 : Int) := k1
    refine z_iincN (ls' := [zr 83, zi v1, zi v2, zi v3, zi (v4 + 1), zi v5]) dX7_mendBest_185 rfl (by decide) s1 rfl ?_
    refine z_goto dX7_mendBest_188 (tgt := 62) (by decide) ?_
    exact zR_fg [false, false, false, false, false, true] (k2)
  refine z_putI (k := 12) fpRX7_45 rfl rfl dX7_mendBest_152 ?_
  refine z_aload_n dX7_mendBest_155 rfl rfl ?_
  refine z_aload_n dX7_mendBest_156 rfl rfl ?_
  refine z_getfE (k := 10) (v := σ 83 10) flRX7_39 rfl rfl (zup_oi (by decide)) dX7_mendBest_157 ?_
  refine z_putI (k := 13) fpRX7_48 rfl rfl dX7_mendBest_160 ?_
  refine z_aload_n dX7_mendBest_163 rfl rfl ?_
  refine z_getfR (k := 8) flRX7_32 rfl rfl dX7_mendBest_164 ?_
  refine z_iconst dX7_mendBest_167 (by unfold zIn; decide) ?_
  refine z_iload_n dX7_mendBest_168 rfl rfl ?_
  refine z_iast rfl (by decide) (by decide) dX7_mendBest_169 ?_
  refine z_aload_n dX7_mendBest_170 rfl rfl ?_
  refine z_getfR (k := 8) flRX7_32 rfl rfl dX7_mendBest_171 ?_
  refine z_iconst dX7_mendBest_174 (by unfold zIn; decide) ?_
  refine z_iload_n dX7_mendBest_175 rfl rfl ?_
  refine z_iast rfl (by decide) (by decide) dX7_mendBest_176 ?_
  refine z_aload_n dX7_mendBest_177 rfl rfl ?_
  refine z_getfR (k := 8) flRX7_32 rfl rfl dX7_mendBest_178 ?_
  refine z_iconst dX7_mendBest_181 (by unfold zIn; decide) ?_
  refine z_iload dX7_mendBest_182 rfl ?_
  refine z_iast rfl (by decide) (by decide) dX7_mendBest_184 ?_
  exact J185
set_option maxRecDepth 20000 in
set_option maxHeartbeats 1000000 in
theorem TX7_findBest {G : zG} {σ : zS} {Q : Int → zS → Prop} {a1 : Int}  (k1 : zR G MX7_findBest 7 [zr 83, zi a1, zi 0] [] (zup σ 83 12 (-1)) Q) : zO G MX7_findBest [zr 83, zi a1] σ Q := by
  refine zO_of (ls0 := [zr 83, zi a1, zu]) (by decide) (Nat.le_of_ble_eq_true rfl) rfl ?_
  refine z_aload_n dX7_findBest_0 rfl rfl ?_
  refine z_iconst dX7_findBest_1 (by unfold zIn; decide) ?_
  refine z_putI (k := 12) fpRX7_45 rfl rfl dX7_findBest_2 ?_
  refine z_iconst dX7_findBest_5 (by unfold zIn; decide) ?_
  refine z_istore_n (ls' := [zr 83, zi a1, zi 0]) dX7_findBest_6 rfl (by decide) rfl ?_
  exact k1
set_option maxRecDepth 20000 in
set_option maxHeartbeats 1000000 in
theorem TX7_findBest_7 {G : zG} {σ : zS} {Q : Int → zS → Prop} {v1 v2 : Int}  (k1 : (zshl 1 (σ 68 11) ≤ v2) → Q (σ 83 12) σ) (k2 : (v2 < zshl 1 (σ 68 11)) → (zand v2 (zxor (σ 83 11) (-1)) = 0) → zO G MX7_settle [zr 83, zi v2] σ (fun rr σ' => zR G MX7_findBest 36 [zr 83, zi v1, zi v2] [] σ' Q)) (k3 : (v2 < zshl 1 (σ 68 11)) → (zand v2 (zxor (σ 83 11) (-1)) ≠ 0) → -2147483648 ≤ v2 + 1 ∧ v2 + 1 < (2147483648 : Int)) (k4 : (v2 < zshl 1 (σ 68 11)) → (zand v2 (zxor (σ 83 11) (-1)) ≠ 0) → zR G MX7_findBest 7 [zr 83, zi v1, zi (v2 + 1)] [] σ Q) : zR G MX7_findBest 7 [zr 83, zi v1, zi v2] [] σ Q := by
  have J52 : (v2 < zshl 1 (σ 68 11)) → (zand v2 (zxor (σ 83 11) (-1)) ≠ 0) → zR G MX7_findBest 52 [zr 83, zi v1, zi v2] [] σ Q := by
    intro h1 h2
    have s3 : -2147483648 ≤ v2 + 1 ∧ v2 + 1 < (2147483648 : Int) := k3 h1 h2
    refine z_iincN (ls' := [zr 83, zi v1, zi (v2 + 1)]) dX7_findBest_52 rfl (by decide) s3 rfl ?_
    refine z_goto dX7_findBest_55 (tgt := 7) (by decide) ?_
    exact k4 h1 h2
  refine z_iload_n dX7_findBest_7 rfl rfl ?_
  refine z_iconst dX7_findBest_8 (by unfold zIn; decide) ?_
  refine z_aload_n dX7_findBest_9 rfl rfl ?_
  refine z_getfR (k := 0) flRX7_51 rfl rfl dX7_findBest_10 ?_
  refine z_getfI (k := 11) flRX7_73 rfl rfl dX7_findBest_13 ?_
  refine z_ishl dX7_findBest_16 ?_
  refine z_icmp_ge dX7_findBest_17 (tgt := 58) (by decide) (fun h1 => ?_) (fun h1 => ?_)
  · skip
    refine z_aload_n dX7_findBest_58 rfl rfl ?_
    refine z_getfI (k := 12) flRX7_45 rfl rfl dX7_findBest_59 ?_
    exact z_ireti rfl dX7_findBest_62 (k1 h1)
  · skip
    refine z_iload_n dX7_findBest_20 rfl rfl ?_
    refine z_aload_n dX7_findBest_21 rfl rfl ?_
    refine z_getfI (k := 11) flRX7_42 rfl rfl dX7_findBest_22 ?_
    refine z_iconst dX7_findBest_25 (by unfold zIn; decide) ?_
    refine z_ixor dX7_findBest_26 ?_
    refine z_iand dX7_findBest_27 ?_
    refine z_if_ne dX7_findBest_28 (tgt := 52) (by decide) (fun h2 => ?_) (fun h2 => ?_)
    · skip
      exact J52 h1 h2
    · skip
      refine z_aload_n dX7_findBest_31 rfl rfl ?_
      refine z_iload_n dX7_findBest_32 rfl rfl ?_
      refine z_callv (as := [zi v2]) (st := []) mkX7_settle lkRX7_107 rfl rfl rfl (by decide) (Nat.le_of_ble_eq_true rfl) rfl dX7_findBest_33 (k2 h1 h2)
set_option maxRecDepth 20000 in
set_option maxHeartbeats 1000000 in
theorem TX7_findBest_36 {G : zG} {σ : zS} {Q : Int → zS → Prop} {v1 v2 : Int}  (k1 : (v1 ≤ σ 89 0) → zO G MX7_mendBest [zr 83, zi v2, zi v1] σ (fun rr σ' => zR G MX7_findBest 52 [zr 83, zi v1, zi v2] [] σ' Q)) (k2 : (σ 89 0 < v1) → -2147483648 ≤ v2 + 1 ∧ v2 + 1 < (2147483648 : Int)) (k3 : (σ 89 0 < v1) → zR G MX7_findBest 7 [zr 83, zi v1, zi (v2 + 1)] [] σ Q) : zR G MX7_findBest 36 [zr 83, zi v1, zi v2] [] σ Q := by
  have J52 : (σ 89 0 < v1) → zR G MX7_findBest 52 [zr 83, zi v1, zi v2] [] σ Q := by
    intro h1
    have s2 : -2147483648 ≤ v2 + 1 ∧ v2 + 1 < (2147483648 : Int) := k2 h1
    refine z_iincN (ls' := [zr 83, zi v1, zi (v2 + 1)]) dX7_findBest_52 rfl (by decide) s2 rfl ?_
    refine z_goto dX7_findBest_55 (tgt := 7) (by decide) ?_
    exact k3 h1
  refine z_aload_n dX7_findBest_36 rfl rfl ?_
  refine z_getfR (k := 7) flRX7_29 rfl rfl dX7_findBest_37 ?_
  refine z_iconst dX7_findBest_40 (by unfold zIn; decide) ?_
  refine z_iald rfl (by decide) (by decide) dX7_findBest_41 ?_
  refine z_iload_n dX7_findBest_42 rfl rfl ?_
  refine z_icmp_lt dX7_findBest_43 (tgt := 52) (by decide) (fun h1 => ?_) (fun h1 => ?_)
  · skip
    exact J52 h1
  · skip
    refine z_aload_n dX7_findBest_46 rfl rfl ?_
    refine z_iload_n dX7_findBest_47 rfl rfl ?_
    refine z_iload_n dX7_findBest_48 rfl rfl ?_
    refine z_callv (as := [zi v2, zi v1]) (st := []) mkX7_mendBest lkRX7_111 rfl rfl rfl (by decide) (Nat.le_of_ble_eq_true rfl) rfl dX7_findBest_49 (k1 h1)
set_option maxRecDepth 20000 in
set_option maxHeartbeats 1000000 in
theorem TX7_findBest_52 {G : zG} {σ : zS} {Q : Int → zS → Prop} {v1 v2 : Int}  (k1 : -2147483648 ≤ v2 + 1 ∧ v2 + 1 < (2147483648 : Int)) (k2 : zR G MX7_findBest 7 [zr 83, zi v1, zi (v2 + 1)] [] σ Q) : zR G MX7_findBest 52 [zr 83, zi v1, zi v2] [] σ Q := by
  have s1 : -2147483648 ≤ v2 + 1 ∧ v2 + 1 < (2147483648 : Int) := k1
  refine z_iincN (ls' := [zr 83, zi v1, zi (v2 + 1)]) dX7_findBest_52 rfl (by decide) s1 rfl ?_
  refine z_goto dX7_findBest_55 (tgt := 7) (by decide) ?_
  exact k2
set_option maxRecDepth 20000 in
set_option maxHeartbeats 1000000 in
theorem TX11_plan {G : zG} {σ : zS} {Q : Int → zS → Prop} {a1 a2 a3 : Int}  (k1 : ((((1 ≤ a1 ∧ a1 ≤ 10)) ∧ ((0 ≤ a2 ∧ a2 ≤ 99999)) ∧ ((0 ≤ a3 ∧ a3 ≤ 99999)))) → zO G MX7_prepare [zr 83, zi (zdiv (σ 0 13) 365), zi a1, zi a3] σ (fun rr σ' => zR G MX11_plan 29 [zr 0, zi a1, zi a2, zi a3, zu] [] σ' Q)) (k2 : (¬ ((((1 ≤ a1 ∧ a1 ≤ 10)) ∧ ((0 ≤ a2 ∧ a2 ≤ 99999)) ∧ ((0 ≤ a3 ∧ a3 ≤ 99999))))) → -2147483648 ≤ -(-6) ∧ -(-6) < (2147483648 : Int)) (k3 : (¬ ((((1 ≤ a1 ∧ a1 ≤ 10)) ∧ ((0 ≤ a2 ∧ a2 ≤ 99999)) ∧ ((0 ≤ a3 ∧ a3 ≤ 99999))))) → (0 : Int) ≤ -(-6) ∧ -(-6) < (8 : Int)) (k4 : (¬ ((((1 ≤ a1 ∧ a1 ≤ 10)) ∧ ((0 ≤ a2 ∧ a2 ≤ 99999)) ∧ ((0 ≤ a3 ∧ a3 ≤ 99999))))) → Q (-6) (zup σ 97 (-(-6)) (zW ((σ 97 (-(-6))) + 1)))) : zO G MX11_plan [zr 0, zi a1, zi a2, zi a3] σ Q := by
  refine zO_of (ls0 := [zr 0, zi a1, zi a2, zi a3, zu]) (by decide) (Nat.le_of_ble_eq_true rfl) rfl ?_
  refine z_iload_n dX11_plan_0 rfl rfl ?_
  refine z_iload_n dX11_plan_1 rfl rfl ?_
  refine z_iload_n dX11_plan_2 rfl rfl ?_
  refine z_calls (as := [zi a1, zi a2, zi a3]) (st := []) mkX11_canPlan lkRX11_434 rfl (by decide) (Nat.le_of_ble_eq_true rfl) rfl dX11_plan_3 ?_
  refine SX11_canPlan ?_
  show zR G MX11_plan 6 [zr 0, zi a1, zi a2, zi a3, zu] [zi (if (((1 ≤ a1 ∧ a1 ≤ 10)) ∧ ((0 ≤ a2 ∧ a2 ≤ 99999)) ∧ ((0 ≤ a3 ∧ a3 ≤ 99999))) then (1 : Int) else 0)] σ Q
  refine z_if_ne dX11_plan_6 (tgt := 16) (by decide) (fun z => ?_) (fun z => ?_)
  · have h1 : (((1 ≤ a1 ∧ a1 ≤ 10)) ∧ ((0 ≤ a2 ∧ a2 ≤ 99999)) ∧ ((0 ≤ a3 ∧ a3 ≤ 99999))) := zb1 z
    refine z_aload_n dX11_plan_16 rfl rfl ?_
    refine z_getfR (k := 9) flRX11_86 rfl rfl dX11_plan_17 ?_
    refine z_aload_n dX11_plan_20 rfl rfl ?_
    refine z_callv (as := []) (st := [zr 83]) mkX11_thisYear lkRX11_384 rfl rfl rfl (by decide) (Nat.le_of_ble_eq_true rfl) rfl dX11_plan_21 ?_
    refine SX11_thisYear ?_
    show zR G MX11_plan 24 [zr 0, zi a1, zi a2, zi a3, zu] [zi (zdiv (σ 0 13) 365), zr 83] σ Q
    refine z_iload_n dX11_plan_24 rfl rfl ?_
    refine z_iload_n dX11_plan_25 rfl rfl ?_
    refine z_callv (as := [zi (zdiv (σ 0 13) 365), zi a1, zi a3]) (st := []) mkX7_prepare lkRX11_437 rfl rfl rfl (by decide) (Nat.le_of_ble_eq_true rfl) rfl dX11_plan_26 (k1 h1)
  · have h1 : ¬ ((((1 ≤ a1 ∧ a1 ≤ 10)) ∧ ((0 ≤ a2 ∧ a2 ≤ 99999)) ∧ ((0 ≤ a3 ∧ a3 ≤ 99999)))) := zb0 z
    refine z_aload_n dX11_plan_9 rfl rfl ?_
    refine z_bipush (x := (-6)) dX11_plan_10 (by decide +kernel) (by unfold zIn; decide) ?_
    have s2 : -2147483648 ≤ -(-6) ∧ -(-6) < (2147483648 : Int) := k2 h1
    have s3 : (0 : Int) ≤ -(-6) ∧ -(-6) < (8 : Int) := k3 h1
    refine z_callv (as := [zi (-6)]) (st := []) mkX11_refuse lkRX11_132 rfl rfl rfl (by decide) (Nat.le_of_ble_eq_true rfl) rfl dX11_plan_12 ?_
    refine SX11_refuse s2 s3 ?_
    show zR G MX11_plan 15 [zr 0, zi a1, zi a2, zi a3, zu] [zi (-6)] (zup σ 97 (-(-6)) (zW ((σ 97 (-(-6))) + 1))) Q
    exact z_ireti rfl dX11_plan_15 (k4 h1)
set_option maxRecDepth 20000 in
set_option maxHeartbeats 1000000 in
theorem TX11_plan_29 {G : zG} {σ : zS} {Q : Int → zS → Prop} {v1 v2 v3 : Int}  (k1 : zO G MX7_findBest [zr 83, zi v2] σ (fun rr σ' => zR G MX11_plan 37 [zr 0, zi v1, zi v2, zi v3, zu] [zi rr] σ' Q)) : zR G MX11_plan 29 [zr 0, zi v1, zi v2, zi v3, zu] [] σ Q := by
  refine z_aload_n dX11_plan_29 rfl rfl ?_
  refine z_getfR (k := 9) flRX11_86 rfl rfl dX11_plan_30 ?_
  refine z_iload_n dX11_plan_33 rfl rfl ?_
  refine z_callv (as := [zi v2]) (st := []) mkX7_findBest lkRX11_440 rfl rfl rfl (by decide) (Nat.le_of_ble_eq_true rfl) rfl dX11_plan_34 (k1)
set_option maxRecDepth 20000 in
set_option maxHeartbeats 1000000 in
theorem TX11_plan_37 {G : zG} {σ : zS} {Q : Int → zS → Prop} {v1 v2 v3 r : Int}  (k1 : (r ≠ (-1)) → Q r σ) (k2 : (r = (-1)) → -2147483648 ≤ -(-6) ∧ -(-6) < (2147483648 : Int)) (k3 : (r = (-1)) → (0 : Int) ≤ -(-6) ∧ -(-6) < (8 : Int)) (k4 : (r = (-1)) → Q (-6) (zup σ 97 (-(-6)) (zW ((σ 97 (-(-6))) + 1)))) : zR G MX11_plan 37 [zr 0, zi v1, zi v2, zi v3, zu] [zi r] σ Q := by
  refine z_istore (ls' := [zr 0, zi v1, zi v2, zi v3, zi r]) dX11_plan_37 (by decide) rfl ?_
  refine z_iload dX11_plan_39 rfl ?_
  refine z_iconst dX11_plan_41 (by unfold zIn; decide) ?_
  refine z_icmp_ne dX11_plan_42 (tgt := 54) (by decide) (fun h1 => ?_) (fun h1 => ?_)
  · skip
    refine z_iload dX11_plan_54 rfl ?_
    exact z_ireti rfl dX11_plan_56 (k1 h1)
  · skip
    refine z_aload_n dX11_plan_45 rfl rfl ?_
    refine z_bipush (x := (-6)) dX11_plan_46 (by decide +kernel) (by unfold zIn; decide) ?_
    have s2 : -2147483648 ≤ -(-6) ∧ -(-6) < (2147483648 : Int) := k2 h1
    have s3 : (0 : Int) ≤ -(-6) ∧ -(-6) < (8 : Int) := k3 h1
    refine z_callv (as := [zi (-6)]) (st := []) mkX11_refuse lkRX11_132 rfl rfl rfl (by decide) (Nat.le_of_ble_eq_true rfl) rfl dX11_plan_48 ?_
    refine SX11_refuse s2 s3 ?_
    show zR G MX11_plan 51 [zr 0, zi v1, zi v2, zi v3, zi r] [zi (-6)] (zup σ 97 (-(-6)) (zW ((σ 97 (-(-6))) + 1))) Q
    refine z_goto dX11_plan_51 (tgt := 56) (by decide) ?_
    exact z_ireti rfl dX11_plan_56 (k4 h1)
set_option maxRecDepth 20000 in
set_option maxHeartbeats 1000000 in
theorem TX7_told {G : zG} {σ : zS} {Q : Int → zS → Prop} {a1 : Int}  (k1 : (σ 83 13 ≠ (-1)) → (0 : Int) ≤ a1 ∧ a1 < (3 : Int)) (k2 : (σ 83 13 = (-1) ∨ (σ 83 13 ≠ (-1) ∧ σ 90 a1 = σ 83 13 ∧ 0 < a1)) → Q (-1) σ) (k3 : (σ 83 13 ≠ (-1)) → (σ 90 a1 ≠ σ 83 13 ∨ (σ 90 a1 = σ 83 13 ∧ a1 ≤ 0)) → (0 : Int) ≤ a1 ∧ a1 < (3 : Int)) (k4 : (σ 83 13 ≠ (-1)) → (σ 90 a1 ≠ σ 83 13 ∨ (σ 90 a1 = σ 83 13 ∧ a1 ≤ 0)) → Q (σ 90 a1) σ) : zO G MX7_told [zr 83, zi a1] σ Q := by
  refine zO_of (ls0 := [zr 83, zi a1]) (by decide) (Nat.le_of_ble_eq_true rfl) rfl ?_
  have J29 : (σ 83 13 ≠ (-1)) → (σ 90 a1 ≠ σ 83 13 ∨ (σ 90 a1 = σ 83 13 ∧ a1 ≤ 0)) → zR G MX7_told 29 [zr 83, zi a1] [] σ Q := by
    intro h1 h5
    refine z_aload_n dX7_told_29 rfl rfl ?_
    refine z_getfR (k := 8) flRX7_32 rfl rfl dX7_told_30 ?_
    refine z_iload_n dX7_told_33 rfl rfl ?_
    have s3 : (0 : Int) ≤ a1 ∧ a1 < (3 : Int) := k3 h1 h5
    refine z_iald rfl s3.1 s3.2 dX7_told_34 ?_
    exact z_ireti rfl dX7_told_35 (k4 h1 h5)
  have J25 : (σ 83 13 = (-1) ∨ (σ 83 13 ≠ (-1) ∧ σ 90 a1 = σ 83 13 ∧ 0 < a1)) → zR G MX7_told 25 [zr 83, zi a1] [] σ Q := by
    intro h4
    refine z_iconst dX7_told_25 (by unfold zIn; decide) ?_
    refine z_goto dX7_told_26 (tgt := 35) (by decide) ?_
    exact z_ireti rfl dX7_told_35 (k2 h4)
  refine z_aload_n dX7_told_0 rfl rfl ?_
  refine z_getfI (k := 13) flRX7_48 rfl rfl dX7_told_1 ?_
  refine z_iconst dX7_told_4 (by unfold zIn; decide) ?_
  refine z_icmp_eq dX7_told_5 (tgt := 25) (by decide) (fun h1 => ?_) (fun h1 => ?_)
  · skip
    exact J25 (Or.inl h1)
  · skip
    refine z_aload_n dX7_told_8 rfl rfl ?_
    refine z_getfR (k := 8) flRX7_32 rfl rfl dX7_told_9 ?_
    refine z_iload_n dX7_told_12 rfl rfl ?_
    have s1 : (0 : Int) ≤ a1 ∧ a1 < (3 : Int) := k1 h1
    refine z_iald rfl s1.1 s1.2 dX7_told_13 ?_
    refine z_aload_n dX7_told_14 rfl rfl ?_
    refine z_getfI (k := 13) flRX7_48 rfl rfl dX7_told_15 ?_
    refine z_icmp_ne dX7_told_18 (tgt := 29) (by decide) (fun h2 => ?_) (fun h2 => ?_)
    · skip
      exact J29 h1 (Or.inl h2)
    · skip
      refine z_iload_n dX7_told_21 rfl rfl ?_
      refine z_if_le dX7_told_22 (tgt := 29) (by decide) (fun h3 => ?_) (fun h3 => ?_)
      · skip
        exact J29 h1 (Or.inr ⟨h2, h3⟩)
      · skip
        exact J25 (Or.inr ⟨h1, h2, h3⟩)
set_option maxRecDepth 20000 in
set_option maxHeartbeats 1000000 in
theorem TX11_planned {G : zG} {σ : zS} {Q : Int → zS → Prop} {a1 : Int}  (k1 : (¬ ((0 ≤ a1 ∧ a1 ≤ 2))) → Q (-1) σ) (k2 : ((0 ≤ a1 ∧ a1 ≤ 2)) → zO G MX7_told [zr 83, zi a1] σ (fun rr σ' => zR G MX11_planned 17 [zr 0, zi a1] [zi rr] σ' Q)) : zO G MX11_planned [zr 0, zi a1] σ Q := by
  refine zO_of (ls0 := [zr 0, zi a1]) (by decide) (Nat.le_of_ble_eq_true rfl) rfl ?_
  refine z_iload_n dX11_planned_0 rfl rfl ?_
  refine z_iconst dX11_planned_1 (by unfold zIn; decide) ?_
  refine z_iconst dX11_planned_2 (by unfold zIn; decide) ?_
  refine z_calls (as := [zi a1, zi 0, zi 2]) (st := []) mkX11_within lkRX11_111 rfl (by decide) (Nat.le_of_ble_eq_true rfl) rfl dX11_planned_3 ?_
  refine SX11_within ?_
  show zR G MX11_planned 6 [zr 0, zi a1] [zi (if (0 ≤ a1 ∧ a1 ≤ 2) then (1 : Int) else 0)] σ Q
  refine z_if_eq dX11_planned_6 (tgt := 20) (by decide) (fun z => ?_) (fun z => ?_)
  · have h1 : ¬ ((0 ≤ a1 ∧ a1 ≤ 2)) := zb0 z
    refine z_iconst dX11_planned_20 (by unfold zIn; decide) ?_
    exact z_ireti rfl dX11_planned_21 (k1 h1)
  · have h1 : (0 ≤ a1 ∧ a1 ≤ 2) := zb1 z
    refine z_aload_n dX11_planned_9 rfl rfl ?_
    refine z_getfR (k := 9) flRX11_86 rfl rfl dX11_planned_10 ?_
    refine z_iload_n dX11_planned_13 rfl rfl ?_
    refine z_callv (as := [zi a1]) (st := []) mkX7_told lkRX11_443 rfl rfl rfl (by decide) (Nat.le_of_ble_eq_true rfl) rfl dX11_planned_14 (k2 h1)
set_option maxRecDepth 20000 in
set_option maxHeartbeats 1000000 in
theorem TX11_planned_17 {G : zG} {σ : zS} {Q : Int → zS → Prop} {v1 r : Int}  (k1 : Q r σ) : zR G MX11_planned 17 [zr 0, zi v1] [zi r] σ Q := by
  refine z_goto dX11_planned_17 (tgt := 21) (by decide) ?_
  exact z_ireti rfl dX11_planned_21 (k1)
set_option maxRecDepth 20000 in
set_option maxHeartbeats 1000000 in
theorem TX7_canFollow {G : zG} {σ : zS} {Q : Int → zS → Prop} {a1 a1e : Nat} (ha1 : zsh a1 = (4, 9, [some a1e, none, none, none])) (ha1e : zsh a1e = (2, 80, [])) (k1 : (0 : Int) ≤ 0 ∧ 0 < (80 : Int)) (k2 : (zand (zW (σ a1e 0)) (zxor (σ 83 11) (-1)) = 0) → zR G MX7_canFollow 19 [zr 83, zr a1, zi 0, zu] [] σ Q) (k3 : (zand (zW (σ a1e 0)) (zxor (σ 83 11) (-1)) ≠ 0) → Q 0 σ) : zO G MX7_canFollow [zr 83, zr a1] σ Q := by
  refine zO_of (ls0 := [zr 83, zr a1, zu, zu]) (by decide) (Nat.le_of_ble_eq_true rfl) rfl ?_
  refine z_aload_n dX7_canFollow_0 rfl rfl ?_
  refine z_iconst dX7_canFollow_1 (by unfold zIn; decide) ?_
  have s1 : (0 : Int) ≤ 0 ∧ 0 < (80 : Int) := k1
  refine z_callv (as := [zi 0]) (st := []) mkX9_letter lkRX7_124 rfl ha1 rfl (by decide) (Nat.le_of_ble_eq_true rfl) rfl dX7_canFollow_2 ?_
  refine SX9_letter ha1 ha1e s1 ?_
  show zR G MX7_canFollow 5 [zr 83, zr a1, zu, zu] [zi (zW (σ a1e 0))] σ Q
  refine z_aload_n dX7_canFollow_5 rfl rfl ?_
  refine z_getfI (k := 11) flRX7_42 rfl rfl dX7_canFollow_6 ?_
  refine z_iconst dX7_canFollow_9 (by unfold zIn; decide) ?_
  refine z_ixor dX7_canFollow_10 ?_
  refine z_iand dX7_canFollow_11 ?_
  refine z_if_eq dX7_canFollow_12 (tgt := 17) (by decide) (fun h1 => ?_) (fun h1 => ?_)
  · skip
    refine z_iconst dX7_canFollow_17 (by unfold zIn; decide) ?_
    refine z_istore_n (ls' := [zr 83, zr a1, zi 0, zu]) dX7_canFollow_18 rfl (by decide) rfl ?_
    exact k2 h1
  · skip
    refine z_iconst dX7_canFollow_15 (by unfold zIn; decide) ?_
    exact z_iretz rfl (by decide) dX7_canFollow_16 (k3 h1)
set_option maxRecDepth 20000 in
set_option maxHeartbeats 1000000 in
theorem TX7_canFollow_19 {G : zG} {σ : zS} {Q : Int → zS → Prop} {v2 : Int} {a1 a1e : Nat} (ha1 : zsh a1 = (4, 9, [some a1e, none, none, none])) (ha1e : zsh a1e = (2, 80, [])) (k1 : (σ 83 9 ≤ v2) → Q 1 σ) (k2 : (v2 < σ 83 9) → -2147483648 ≤ 1 + v2 ∧ 1 + v2 < (2147483648 : Int)) (k3 : (v2 < σ 83 9) → (0 : Int) ≤ (1 + v2) ∧ (1 + v2) < (80 : Int)) (k4 : (v2 < σ 83 9) → ((-1) ≤ zW (σ a1e (1 + v2))) → (zW (σ a1e (1 + v2)) < σ 83 10) → -2147483648 ≤ v2 + 1 ∧ v2 + 1 < (2147483648 : Int)) (k5 : (v2 < σ 83 9) → ((-1) ≤ zW (σ a1e (1 + v2))) → (zW (σ a1e (1 + v2)) < σ 83 10) → zR G MX7_canFollow 19 [zr 83, zr a1, zi (v2 + 1), zu] [] σ Q) (k6 : (v2 < σ 83 9) → (zW (σ a1e (1 + v2)) < (-1) ∨ ((-1) ≤ zW (σ a1e (1 + v2)) ∧ σ 83 10 ≤ zW (σ a1e (1 + v2)))) → Q 0 σ) : zR G MX7_canFollow 19 [zr 83, zr a1, zi v2, zu] [] σ Q := by
  have J48 : (v2 < σ 83 9) → (zW (σ a1e (1 + v2)) < (-1) ∨ ((-1) ≤ zW (σ a1e (1 + v2)) ∧ σ 83 10 ≤ zW (σ a1e (1 + v2)))) → zR G MX7_canFollow 48 [zr 83, zr a1, zi v2, zi (zW (σ a1e (1 + v2)))] [] σ Q := by
    intro h1 h4
    refine z_iconst dX7_canFollow_48 (by unfold zIn; decide) ?_
    exact z_iretz rfl (by decide) dX7_canFollow_49 (k6 h1 h4)
  refine z_iload_n dX7_canFollow_19 rfl rfl ?_
  refine z_aload_n dX7_canFollow_20 rfl rfl ?_
  refine z_getfI (k := 9) flRX7_35 rfl rfl dX7_canFollow_21 ?_
  refine z_icmp_ge dX7_canFollow_24 (tgt := 56) (by decide) (fun h1 => ?_) (fun h1 => ?_)
  · skip
    refine z_iconst dX7_canFollow_56 (by unfold zIn; decide) ?_
    exact z_iretz rfl (by decide) dX7_canFollow_57 (k1 h1)
  · skip
    refine z_aload_n dX7_canFollow_27 rfl rfl ?_
    refine z_iconst dX7_canFollow_28 (by unfold zIn; decide) ?_
    refine z_iload_n dX7_canFollow_29 rfl rfl ?_
    have s2 : -2147483648 ≤ 1 + v2 ∧ 1 + v2 < (2147483648 : Int) := k2 h1
    refine z_iaddN dX7_canFollow_30 s2 ?_
    have s3 : (0 : Int) ≤ (1 + v2) ∧ (1 + v2) < (80 : Int) := k3 h1
    refine z_callv (as := [zi (1 + v2)]) (st := []) mkX9_letter lkRX7_124 rfl ha1 rfl (by decide) (Nat.le_of_ble_eq_true rfl) rfl dX7_canFollow_31 ?_
    refine SX9_letter ha1 ha1e s3 ?_
    show zR G MX7_canFollow 34 [zr 83, zr a1, zi v2, zu] [zi (zW (σ a1e (1 + v2)))] σ Q
    refine z_istore_n (ls' := [zr 83, zr a1, zi v2, zi (zW (σ a1e (1 + v2)))]) dX7_canFollow_34 rfl (by decide) rfl ?_
    refine z_iload_n dX7_canFollow_35 rfl rfl ?_
    refine z_iconst dX7_canFollow_36 (by unfold zIn; decide) ?_
    refine z_icmp_lt dX7_canFollow_37 (tgt := 48) (by decide) (fun h2 => ?_) (fun h2 => ?_)
    · skip
      exact J48 h1 (Or.inl h2)
    · skip
      refine z_iload_n dX7_canFollow_40 rfl rfl ?_
      refine z_aload_n dX7_canFollow_41 rfl rfl ?_
      refine z_getfI (k := 10) flRX7_39 rfl rfl dX7_canFollow_42 ?_
      refine z_icmp_lt dX7_canFollow_45 (tgt := 50) (by decide) (fun h3 => ?_) (fun h3 => ?_)
      · skip
        have s4 : -2147483648 ≤ v2 + 1 ∧ v2 + 1 < (2147483648 : Int) := k4 h1 h2 h3
        refine z_iincN (ls' := [zr 83, zr a1, zi (v2 + 1), zi (zW (σ a1e (1 + v2)))]) dX7_canFollow_50 rfl (by decide) s4 rfl ?_
        refine z_goto dX7_canFollow_53 (tgt := 19) (by decide) ?_
        exact zR_fg [false, false, false, true] (k5 h1 h2 h3)
      · skip
        exact J48 h1 (Or.inr ⟨h2, h3⟩)
set_option maxRecDepth 20000 in
set_option maxHeartbeats 1000000 in
theorem TX7_yearOf {G : zG} {σ : zS} {Q : Int → zS → Prop} {a2 : Int} {a1 a1e : Nat} (ha1 : zsh a1 = (4, 9, [some a1e, none, none, none])) (ha1e : zsh a1e = (2, 80, [])) (k1 : (σ 83 9 ≤ a2) → Q (σ 83 10) σ) (k2 : (a2 < σ 83 9) → -2147483648 ≤ 1 + a2 ∧ 1 + a2 < (2147483648 : Int)) (k3 : (a2 < σ 83 9) → (0 : Int) ≤ (1 + a2) ∧ (1 + a2) < (80 : Int)) (k4 : (a2 < σ 83 9) → (zW (σ a1e (1 + a2)) ≠ (-1)) → Q (zW (σ a1e (1 + a2))) σ) (k5 : (a2 < σ 83 9) → (zW (σ a1e (1 + a2)) = (-1)) → Q (σ 83 10) σ) : zO G MX7_yearOf [zr 83, zr a1, zi a2] σ Q := by
  refine zO_of (ls0 := [zr 83, zr a1, zi a2, zu]) (by decide) (Nat.le_of_ble_eq_true rfl) rfl ?_
  refine z_iload_n dX7_yearOf_0 rfl rfl ?_
  refine z_aload_n dX7_yearOf_1 rfl rfl ?_
  refine z_getfI (k := 9) flRX7_35 rfl rfl dX7_yearOf_2 ?_
  refine z_icmp_ge dX7_yearOf_5 (tgt := 18) (by decide) (fun h1 => ?_) (fun h1 => ?_)
  · skip
    refine z_iconst dX7_yearOf_18 (by unfold zIn; decide) ?_
    refine z_istore_n (ls' := [zr 83, zr a1, zi a2, zi (-1)]) dX7_yearOf_19 rfl (by decide) rfl ?_
    refine z_iload_n dX7_yearOf_20 rfl rfl ?_
    refine z_iconst dX7_yearOf_21 (by unfold zIn; decide) ?_
    refine z_icmp_ne dX7_yearOf_22 (tgt := 32) (by decide) (fun z => absurd z (by decide)) (fun z => ?_)
    refine z_aload_n dX7_yearOf_25 rfl rfl ?_
    refine z_getfI (k := 10) flRX7_39 rfl rfl dX7_yearOf_26 ?_
    refine z_goto dX7_yearOf_29 (tgt := 33) (by decide) ?_
    exact z_ireti rfl dX7_yearOf_33 (k1 h1)
  · skip
    refine z_aload_n dX7_yearOf_8 rfl rfl ?_
    refine z_iconst dX7_yearOf_9 (by unfold zIn; decide) ?_
    refine z_iload_n dX7_yearOf_10 rfl rfl ?_
    have s2 : -2147483648 ≤ 1 + a2 ∧ 1 + a2 < (2147483648 : Int) := k2 h1
    refine z_iaddN dX7_yearOf_11 s2 ?_
    have s3 : (0 : Int) ≤ (1 + a2) ∧ (1 + a2) < (80 : Int) := k3 h1
    refine z_callv (as := [zi (1 + a2)]) (st := []) mkX9_letter lkRX7_124 rfl ha1 rfl (by decide) (Nat.le_of_ble_eq_true rfl) rfl dX7_yearOf_12 ?_
    refine SX9_letter ha1 ha1e s3 ?_
    show zR G MX7_yearOf 15 [zr 83, zr a1, zi a2, zu] [zi (zW (σ a1e (1 + a2)))] σ Q
    refine z_goto dX7_yearOf_15 (tgt := 19) (by decide) ?_
    refine z_istore_n (ls' := [zr 83, zr a1, zi a2, zi (zW (σ a1e (1 + a2)))]) dX7_yearOf_19 rfl (by decide) rfl ?_
    refine z_iload_n dX7_yearOf_20 rfl rfl ?_
    refine z_iconst dX7_yearOf_21 (by unfold zIn; decide) ?_
    refine z_icmp_ne dX7_yearOf_22 (tgt := 32) (by decide) (fun h3 => ?_) (fun h3 => ?_)
    · skip
      refine z_iload_n dX7_yearOf_32 rfl rfl ?_
      exact z_ireti rfl dX7_yearOf_33 (k4 h1 h3)
    · skip
      refine z_aload_n dX7_yearOf_25 rfl rfl ?_
      refine z_getfI (k := 10) flRX7_39 rfl rfl dX7_yearOf_26 ?_
      refine z_goto dX7_yearOf_29 (tgt := 33) (by decide) ?_
      exact z_ireti rfl dX7_yearOf_33 (k5 h1 h3)
set_option maxRecDepth 20000 in
set_option maxHeartbeats 1000000 in
theorem TX7_outcomeOf {G : zG} {σ : zS} {Q : Int → zS → Prop} {a2 : Int} {a1 a1e : Nat} (ha1 : zsh a1 = (4, 9, [some a1e, none, none, none])) (ha1e : zsh a1e = (2, 80, [])) (k1 : zO G MX7_yearOf [zr 83, zr a1, zi 0] σ (fun rr σ' => zR G MX7_outcomeOf 6 [zr 83, zr a1, zi a2, zu, zu, zu, zu] [zi rr] σ' Q)) : zO G MX7_outcomeOf [zr 83, zr a1, zi a2] σ Q := by
  refine zO_of (ls0 := [zr 83, zr a1, zi a2, zu, zu, zu, zu]) (by decide) (Nat.le_of_ble_eq_true rfl) rfl ?_
  refine z_aload_n dX7_outcomeOf_0 rfl rfl ?_
  refine z_aload_n dX7_outcomeOf_1 rfl rfl ?_
  refine z_iconst dX7_outcomeOf_2 (by unfold zIn; decide) ?_
  refine z_callv (as := [zr a1, zi 0]) (st := []) mkX7_yearOf lkRX7_129 rfl rfl rfl (by decide) (Nat.le_of_ble_eq_true rfl) rfl dX7_outcomeOf_3 (k1)
set_option maxRecDepth 20000 in
set_option maxHeartbeats 1000000 in
theorem TX7_outcomeOf_6 {G : zG} {σ : zS} {Q : Int → zS → Prop} {v2 r : Int} {a1 a1e : Nat} (ha1 : zsh a1 = (4, 9, [some a1e, none, none, none])) (ha1e : zsh a1e = (2, 80, [])) (k1 : zO G MX7_yearOf [zr 83, zr a1, zi 1] σ (fun rr σ' => zR G MX7_outcomeOf 13 [zr 83, zr a1, zi v2, zi r, zu, zu, zu] [zi rr] σ' Q)) : zR G MX7_outcomeOf 6 [zr 83, zr a1, zi v2, zu, zu, zu, zu] [zi r] σ Q := by
  refine z_istore_n (ls' := [zr 83, zr a1, zi v2, zi r, zu, zu, zu]) dX7_outcomeOf_6 rfl (by decide) rfl ?_
  refine z_aload_n dX7_outcomeOf_7 rfl rfl ?_
  refine z_aload_n dX7_outcomeOf_8 rfl rfl ?_
  refine z_iconst dX7_outcomeOf_9 (by unfold zIn; decide) ?_
  refine z_callv (as := [zr a1, zi 1]) (st := []) mkX7_yearOf lkRX7_129 rfl rfl rfl (by decide) (Nat.le_of_ble_eq_true rfl) rfl dX7_outcomeOf_10 (k1)
set_option maxRecDepth 20000 in
set_option maxHeartbeats 1000000 in
theorem TX7_outcomeOf_13 {G : zG} {σ : zS} {Q : Int → zS → Prop} {v2 v3 r : Int} {a1 a1e : Nat} (ha1 : zsh a1 = (4, 9, [some a1e, none, none, none])) (ha1e : zsh a1e = (2, 80, [])) (k1 : (0 : Int) ≤ 0 ∧ 0 < (80 : Int)) (k2 : zO G MX7_settle [zr 83, zi (zW (σ a1e 0))] σ (fun rr σ' => zR G MX7_outcomeOf 24 [zr 83, zr a1, zi v2, zi v3, zi r, zu, zu] [] σ' Q)) : zR G MX7_outcomeOf 13 [zr 83, zr a1, zi v2, zi v3, zu, zu, zu] [zi r] σ Q := by
  refine z_istore (ls' := [zr 83, zr a1, zi v2, zi v3, zi r, zu, zu]) dX7_outcomeOf_13 (by decide) rfl ?_
  refine z_aload_n dX7_outcomeOf_15 rfl rfl ?_
  refine z_aload_n dX7_outcomeOf_16 rfl rfl ?_
  refine z_iconst dX7_outcomeOf_17 (by unfold zIn; decide) ?_
  have s1 : (0 : Int) ≤ 0 ∧ 0 < (80 : Int) := k1
  refine z_callv (as := [zi 0]) (st := [zr 83]) mkX9_letter lkRX7_124 rfl ha1 rfl (by decide) (Nat.le_of_ble_eq_true rfl) rfl dX7_outcomeOf_18 ?_
  refine SX9_letter ha1 ha1e s1 ?_
  show zR G MX7_outcomeOf 21 [zr 83, zr a1, zi v2, zi v3, zi r, zu, zu] [zi (zW (σ a1e 0)), zr 83] σ Q
  refine z_callv (as := [zi (zW (σ a1e 0))]) (st := []) mkX7_settle lkRX7_107 rfl rfl rfl (by decide) (Nat.le_of_ble_eq_true rfl) rfl dX7_outcomeOf_21 (k2)
set_option maxRecDepth 20000 in
set_option maxHeartbeats 1000000 in
theorem TX7_outcomeOf_24 {G : zG} {σ : zS} {Q : Int → zS → Prop} {v2 v3 v4 : Int} {a1 a1e : Nat} (ha1 : zsh a1 = (4, 9, [some a1e, none, none, none])) (ha1e : zsh a1e = (2, 80, [])) (k1 : zR G MX7_outcomeOf 27 [zr 83, zr a1, zi v2, zi v3, zi v4, zi 0, zu] [] σ Q) : zR G MX7_outcomeOf 24 [zr 83, zr a1, zi v2, zi v3, zi v4, zu, zu] [] σ Q := by
  refine z_iconst dX7_outcomeOf_24 (by unfold zIn; decide) ?_
  refine z_istore (ls' := [zr 83, zr a1, zi v2, zi v3, zi v4, zi 0, zu]) dX7_outcomeOf_25 (by decide) rfl ?_
  exact k1
set_option maxRecDepth 20000 in
set_option maxHeartbeats 1000000 in
theorem TX7_outcomeOf_27 {G : zG} {σ : zS} {Q : Int → zS → Prop} {v2 v3 v4 v5 : Int} {a1 a1e : Nat} (ha1 : zsh a1 = (4, 9, [some a1e, none, none, none])) (ha1e : zsh a1e = (2, 80, [])) (k1 : (σ 83 10 ≤ v5) → zO G MX7_worthOf [zr 83, zi v3, zi v4] σ (fun rr σ' => zR G MX7_outcomeOf 105 [zr 83, zr a1, zi v2, zi v3, zi v4, zi v5, zu] [zi rr] σ' Q)) (k2 : (v5 < σ 83 10) → (v5 < v3) → (v5 < v4) → -2147483648 ≤ 0 + 0 ∧ 0 + 0 < (2147483648 : Int)) (k3 : (v5 < σ 83 10) → (v5 < v3) → (v5 < v4) → (0 : Int) ≤ v5 ∧ v5 < (10 : Int)) (k4 : (v5 < σ 83 10) → (v5 < v3) → (v5 < v4) → -2147483648 ≤ σ 88 v5 - (0 + 0) ∧ σ 88 v5 - (0 + 0) < (2147483648 : Int)) (k5 : (v5 < σ 83 10) → (v5 < v3) → (v5 < v4) → (v2 ≤ σ 88 v5 - (0 + 0)) → -2147483648 ≤ v5 + 1 ∧ v5 + 1 < (2147483648 : Int)) (k6 : (v5 < σ 83 10) → (v5 < v3) → (v5 < v4) → (v2 ≤ σ 88 v5 - (0 + 0)) → zR G MX7_outcomeOf 27 [zr 83, zr a1, zi v2, zi v3, zi v4, zi (v5 + 1), zu] [] σ Q) (k7 : (v5 < σ 83 10) → (v5 < v3) → (v5 < v4) → (σ 88 v5 - (0 + 0) < v2) → -2147483648 ≤ (-10) - v5 ∧ (-10) - v5 < (2147483648 : Int)) (k8 : (v5 < σ 83 10) → (v5 < v3) → (v5 < v4) → (σ 88 v5 - (0 + 0) < v2) → Q ((-10) - v5) σ) (k9 : (v5 < σ 83 10) → (v5 < v3) → (v4 ≤ v5) → -2147483648 ≤ 0 + σ 84 1 ∧ 0 + σ 84 1 < (2147483648 : Int)) (k10 : (v5 < σ 83 10) → (v5 < v3) → (v4 ≤ v5) → (0 : Int) ≤ v5 ∧ v5 < (10 : Int)) (k11 : (v5 < σ 83 10) → (v5 < v3) → (v4 ≤ v5) → -2147483648 ≤ σ 88 v5 - (0 + σ 84 1) ∧ σ 88 v5 - (0 + σ 84 1) < (2147483648 : Int)) (k12 : (v5 < σ 83 10) → (v5 < v3) → (v4 ≤ v5) → (v2 ≤ σ 88 v5 - (0 + σ 84 1)) → -2147483648 ≤ v5 + 1 ∧ v5 + 1 < (2147483648 : Int)) (k13 : (v5 < σ 83 10) → (v5 < v3) → (v4 ≤ v5) → (v2 ≤ σ 88 v5 - (0 + σ 84 1)) → zR G MX7_outcomeOf 27 [zr 83, zr a1, zi v2, zi v3, zi v4, zi (v5 + 1), zu] [] σ Q) (k14 : (v5 < σ 83 10) → (v5 < v3) → (v4 ≤ v5) → (σ 88 v5 - (0 + σ 84 1) < v2) → -2147483648 ≤ (-10) - v5 ∧ (-10) - v5 < (2147483648 : Int)) (k15 : (v5 < σ 83 10) → (v5 < v3) → (v4 ≤ v5) → (σ 88 v5 - (0 + σ 84 1) < v2) → Q ((-10) - v5) σ) (k16 : (v5 < σ 83 10) → (v3 ≤ v5) → (v5 < v4) → -2147483648 ≤ σ 84 0 + 0 ∧ σ 84 0 + 0 < (2147483648 : Int)) (k17 : (v5 < σ 83 10) → (v3 ≤ v5) → (v5 < v4) → (0 : Int) ≤ v5 ∧ v5 < (10 : Int)) (k18 : (v5 < σ 83 10) → (v3 ≤ v5) → (v5 < v4) → -2147483648 ≤ σ 88 v5 - (σ 84 0 + 0) ∧ σ 88 v5 - (σ 84 0 + 0) < (2147483648 : Int)) (k19 : (v5 < σ 83 10) → (v3 ≤ v5) → (v5 < v4) → (v2 ≤ σ 88 v5 - (σ 84 0 + 0)) → -2147483648 ≤ v5 + 1 ∧ v5 + 1 < (2147483648 : Int)) (k20 : (v5 < σ 83 10) → (v3 ≤ v5) → (v5 < v4) → (v2 ≤ σ 88 v5 - (σ 84 0 + 0)) → zR G MX7_outcomeOf 27 [zr 83, zr a1, zi v2, zi v3, zi v4, zi (v5 + 1), zu] [] σ Q) (k21 : (v5 < σ 83 10) → (v3 ≤ v5) → (v5 < v4) → (σ 88 v5 - (σ 84 0 + 0) < v2) → -2147483648 ≤ (-10) - v5 ∧ (-10) - v5 < (2147483648 : Int)) (k22 : (v5 < σ 83 10) → (v3 ≤ v5) → (v5 < v4) → (σ 88 v5 - (σ 84 0 + 0) < v2) → Q ((-10) - v5) σ) (k23 : (v5 < σ 83 10) → (v3 ≤ v5) → (v4 ≤ v5) → -2147483648 ≤ σ 84 0 + σ 84 1 ∧ σ 84 0 + σ 84 1 < (2147483648 : Int)) (k24 : (v5 < σ 83 10) → (v3 ≤ v5) → (v4 ≤ v5) → (0 : Int) ≤ v5 ∧ v5 < (10 : Int)) (k25 : (v5 < σ 83 10) → (v3 ≤ v5) → (v4 ≤ v5) → -2147483648 ≤ σ 88 v5 - (σ 84 0 + σ 84 1) ∧ σ 88 v5 - (σ 84 0 + σ 84 1) < (2147483648 : Int)) (k26 : (v5 < σ 83 10) → (v3 ≤ v5) → (v4 ≤ v5) → (v2 ≤ σ 88 v5 - (σ 84 0 + σ 84 1)) → -2147483648 ≤ v5 + 1 ∧ v5 + 1 < (2147483648 : Int)) (k27 : (v5 < σ 83 10) → (v3 ≤ v5) → (v4 ≤ v5) → (v2 ≤ σ 88 v5 - (σ 84 0 + σ 84 1)) → zR G MX7_outcomeOf 27 [zr 83, zr a1, zi v2, zi v3, zi v4, zi (v5 + 1), zu] [] σ Q) (k28 : (v5 < σ 83 10) → (v3 ≤ v5) → (v4 ≤ v5) → (σ 88 v5 - (σ 84 0 + σ 84 1) < v2) → -2147483648 ≤ (-10) - v5 ∧ (-10) - v5 < (2147483648 : Int)) (k29 : (v5 < σ 83 10) → (v3 ≤ v5) → (v4 ≤ v5) → (σ 88 v5 - (σ 84 0 + σ 84 1) < v2) → Q ((-10) - v5) σ) : zR G MX7_outcomeOf 27 [zr 83, zr a1, zi v2, zi v3, zi v4, zi v5, zu] [] σ Q := by
  refine z_iload dX7_outcomeOf_27 rfl ?_
  refine z_aload_n dX7_outcomeOf_29 rfl rfl ?_
  refine z_getfI (k := 10) flRX7_39 rfl rfl dX7_outcomeOf_30 ?_
  refine z_icmp_ge dX7_outcomeOf_33 (tgt := 98) (by decide) (fun h1 => ?_) (fun h1 => ?_)
  · skip
    refine z_aload_n dX7_outcomeOf_98 rfl rfl ?_
    refine z_iload_n dX7_outcomeOf_99 rfl rfl ?_
    refine z_iload dX7_outcomeOf_100 rfl ?_
    refine z_callv (as := [zi v3, zi v4]) (st := []) mkX7_worthOf lkRX7_118 rfl rfl rfl (by decide) (Nat.le_of_ble_eq_true rfl) rfl dX7_outcomeOf_102 (k1 h1)
  · skip
    refine z_iload_n dX7_outcomeOf_36 rfl rfl ?_
    refine z_iload dX7_outcomeOf_37 rfl ?_
    refine z_icmp_gt dX7_outcomeOf_39 (tgt := 51) (by decide) (fun h2 => ?_) (fun h2 => ?_)
    · skip
      refine z_iconst dX7_outcomeOf_51 (by unfold zIn; decide) ?_
      refine z_iload dX7_outcomeOf_52 rfl ?_
      refine z_iload dX7_outcomeOf_54 rfl ?_
      refine z_icmp_gt dX7_outcomeOf_56 (tgt := 68) (by decide) (fun h3 => ?_) (fun h3 => ?_)
      · skip
        refine z_iconst dX7_outcomeOf_68 (by unfold zIn; decide) ?_
        have s2 : -2147483648 ≤ 0 + 0 ∧ 0 + 0 < (2147483648 : Int) := k2 h1 h2 h3
        refine z_iaddN dX7_outcomeOf_69 s2 ?_
        refine z_istore (ls' := [zr 83, zr a1, zi v2, zi v3, zi v4, zi v5, zi (0 + 0)]) dX7_outcomeOf_70 (by decide) rfl ?_
        refine z_aload_n dX7_outcomeOf_72 rfl rfl ?_
        refine z_getfR (k := 6) flRX7_26 rfl rfl dX7_outcomeOf_73 ?_
        refine z_iload dX7_outcomeOf_76 rfl ?_
        have s3 : (0 : Int) ≤ v5 ∧ v5 < (10 : Int) := k3 h1 h2 h3
        refine z_iald rfl s3.1 s3.2 dX7_outcomeOf_78 ?_
        refine z_iload dX7_outcomeOf_79 rfl ?_
        have s4 : -2147483648 ≤ σ 88 v5 - (0 + 0) ∧ σ 88 v5 - (0 + 0) < (2147483648 : Int) := k4 h1 h2 h3
        refine z_isubN dX7_outcomeOf_81 s4 ?_
        refine z_iload_n dX7_outcomeOf_82 rfl rfl ?_
        refine z_icmp_ge dX7_outcomeOf_83 (tgt := 92) (by decide) (fun h4 => ?_) (fun h4 => ?_)
        · skip
          have s5 : -2147483648 ≤ v5 + 1 ∧ v5 + 1 < (2147483648 : Int) := k5 h1 h2 h3 h4
          refine z_iincN (ls' := [zr 83, zr a1, zi v2, zi v3, zi v4, zi (v5 + 1), zi (0 + 0)]) dX7_outcomeOf_92 rfl (by decide) s5 rfl ?_
          refine z_goto dX7_outcomeOf_95 (tgt := 27) (by decide) ?_
          exact zR_fg [false, false, false, false, false, false, true] (k6 h1 h2 h3 h4)
        · skip
          refine z_bipush (x := (-10)) dX7_outcomeOf_86 (by decide +kernel) (by unfold zIn; decide) ?_
          refine z_iload dX7_outcomeOf_88 rfl ?_
          have s7 : -2147483648 ≤ (-10) - v5 ∧ (-10) - v5 < (2147483648 : Int) := k7 h1 h2 h3 h4
          refine z_isubN dX7_outcomeOf_90 s7 ?_
          exact z_ireti rfl dX7_outcomeOf_91 (k8 h1 h2 h3 h4)
      · skip
        refine z_aload_n dX7_outcomeOf_59 rfl rfl ?_
        refine z_getfR (k := 2) flRX7_11 rfl rfl dX7_outcomeOf_60 ?_
        refine z_iconst dX7_outcomeOf_63 (by unfold zIn; decide) ?_
        refine z_iald rfl (by decide) (by decide) dX7_outcomeOf_64 ?_
        refine z_goto dX7_outcomeOf_65 (tgt := 69) (by decide) ?_
        have s9 : -2147483648 ≤ 0 + σ 84 1 ∧ 0 + σ 84 1 < (2147483648 : Int) := k9 h1 h2 h3
        refine z_iaddN dX7_outcomeOf_69 s9 ?_
        refine z_istore (ls' := [zr 83, zr a1, zi v2, zi v3, zi v4, zi v5, zi (0 + σ 84 1)]) dX7_outcomeOf_70 (by decide) rfl ?_
        refine z_aload_n dX7_outcomeOf_72 rfl rfl ?_
        refine z_getfR (k := 6) flRX7_26 rfl rfl dX7_outcomeOf_73 ?_
        refine z_iload dX7_outcomeOf_76 rfl ?_
        have s10 : (0 : Int) ≤ v5 ∧ v5 < (10 : Int) := k10 h1 h2 h3
        refine z_iald rfl s10.1 s10.2 dX7_outcomeOf_78 ?_
        refine z_iload dX7_outcomeOf_79 rfl ?_
        have s11 : -2147483648 ≤ σ 88 v5 - (0 + σ 84 1) ∧ σ 88 v5 - (0 + σ 84 1) < (2147483648 : Int) := k11 h1 h2 h3
        refine z_isubN dX7_outcomeOf_81 s11 ?_
        refine z_iload_n dX7_outcomeOf_82 rfl rfl ?_
        refine z_icmp_ge dX7_outcomeOf_83 (tgt := 92) (by decide) (fun h5 => ?_) (fun h5 => ?_)
        · skip
          have s12 : -2147483648 ≤ v5 + 1 ∧ v5 + 1 < (2147483648 : Int) := k12 h1 h2 h3 h5
          refine z_iincN (ls' := [zr 83, zr a1, zi v2, zi v3, zi v4, zi (v5 + 1), zi (0 + σ 84 1)]) dX7_outcomeOf_92 rfl (by decide) s12 rfl ?_
          refine z_goto dX7_outcomeOf_95 (tgt := 27) (by decide) ?_
          exact zR_fg [false, false, false, false, false, false, true] (k13 h1 h2 h3 h5)
        · skip
          refine z_bipush (x := (-10)) dX7_outcomeOf_86 (by decide +kernel) (by unfold zIn; decide) ?_
          refine z_iload dX7_outcomeOf_88 rfl ?_
          have s14 : -2147483648 ≤ (-10) - v5 ∧ (-10) - v5 < (2147483648 : Int) := k14 h1 h2 h3 h5
          refine z_isubN dX7_outcomeOf_90 s14 ?_
          exact z_ireti rfl dX7_outcomeOf_91 (k15 h1 h2 h3 h5)
    · skip
      refine z_aload_n dX7_outcomeOf_42 rfl rfl ?_
      refine z_getfR (k := 2) flRX7_11 rfl rfl dX7_outcomeOf_43 ?_
      refine z_iconst dX7_outcomeOf_46 (by unfold zIn; decide) ?_
      refine z_iald rfl (by decide) (by decide) dX7_outcomeOf_47 ?_
      refine z_goto dX7_outcomeOf_48 (tgt := 52) (by decide) ?_
      refine z_iload dX7_outcomeOf_52 rfl ?_
      refine z_iload dX7_outcomeOf_54 rfl ?_
      refine z_icmp_gt dX7_outcomeOf_56 (tgt := 68) (by decide) (fun h6 => ?_) (fun h6 => ?_)
      · skip
        refine z_iconst dX7_outcomeOf_68 (by unfold zIn; decide) ?_
        have s16 : -2147483648 ≤ σ 84 0 + 0 ∧ σ 84 0 + 0 < (2147483648 : Int) := k16 h1 h2 h6
        refine z_iaddN dX7_outcomeOf_69 s16 ?_
        refine z_istore (ls' := [zr 83, zr a1, zi v2, zi v3, zi v4, zi v5, zi (σ 84 0 + 0)]) dX7_outcomeOf_70 (by decide) rfl ?_
        refine z_aload_n dX7_outcomeOf_72 rfl rfl ?_
        refine z_getfR (k := 6) flRX7_26 rfl rfl dX7_outcomeOf_73 ?_
        refine z_iload dX7_outcomeOf_76 rfl ?_
        have s17 : (0 : Int) ≤ v5 ∧ v5 < (10 : Int) := k17 h1 h2 h6
        refine z_iald rfl s17.1 s17.2 dX7_outcomeOf_78 ?_
        refine z_iload dX7_outcomeOf_79 rfl ?_
        have s18 : -2147483648 ≤ σ 88 v5 - (σ 84 0 + 0) ∧ σ 88 v5 - (σ 84 0 + 0) < (2147483648 : Int) := k18 h1 h2 h6
        refine z_isubN dX7_outcomeOf_81 s18 ?_
        refine z_iload_n dX7_outcomeOf_82 rfl rfl ?_
        refine z_icmp_ge dX7_outcomeOf_83 (tgt := 92) (by decide) (fun h7 => ?_) (fun h7 => ?_)
        · skip
          have s19 : -2147483648 ≤ v5 + 1 ∧ v5 + 1 < (2147483648 : Int) := k19 h1 h2 h6 h7
          refine z_iincN (ls' := [zr 83, zr a1, zi v2, zi v3, zi v4, zi (v5 + 1), zi (σ 84 0 + 0)]) dX7_outcomeOf_92 rfl (by decide) s19 rfl ?_
          refine z_goto dX7_outcomeOf_95 (tgt := 27) (by decide) ?_
          exact zR_fg [false, false, false, false, false, false, true] (k20 h1 h2 h6 h7)
        · skip
          refine z_bipush (x := (-10)) dX7_outcomeOf_86 (by decide +kernel) (by unfold zIn; decide) ?_
          refine z_iload dX7_outcomeOf_88 rfl ?_
          have s21 : -2147483648 ≤ (-10) - v5 ∧ (-10) - v5 < (2147483648 : Int) := k21 h1 h2 h6 h7
          refine z_isubN dX7_outcomeOf_90 s21 ?_
          exact z_ireti rfl dX7_outcomeOf_91 (k22 h1 h2 h6 h7)
      · skip
        refine z_aload_n dX7_outcomeOf_59 rfl rfl ?_
        refine z_getfR (k := 2) flRX7_11 rfl rfl dX7_outcomeOf_60 ?_
        refine z_iconst dX7_outcomeOf_63 (by unfold zIn; decide) ?_
        refine z_iald rfl (by decide) (by decide) dX7_outcomeOf_64 ?_
        refine z_goto dX7_outcomeOf_65 (tgt := 69) (by decide) ?_
        have s23 : -2147483648 ≤ σ 84 0 + σ 84 1 ∧ σ 84 0 + σ 84 1 < (2147483648 : Int) := k23 h1 h2 h6
        refine z_iaddN dX7_outcomeOf_69 s23 ?_
        refine z_istore (ls' := [zr 83, zr a1, zi v2, zi v3, zi v4, zi v5, zi (σ 84 0 + σ 84 1)]) dX7_outcomeOf_70 (by decide) rfl ?_
        refine z_aload_n dX7_outcomeOf_72 rfl rfl ?_
        refine z_getfR (k := 6) flRX7_26 rfl rfl dX7_outcomeOf_73 ?_
        refine z_iload dX7_outcomeOf_76 rfl ?_
        have s24 : (0 : Int) ≤ v5 ∧ v5 < (10 : Int) := k24 h1 h2 h6
        refine z_iald rfl s24.1 s24.2 dX7_outcomeOf_78 ?_
        refine z_iload dX7_outcomeOf_79 rfl ?_
        have s25 : -2147483648 ≤ σ 88 v5 - (σ 84 0 + σ 84 1) ∧ σ 88 v5 - (σ 84 0 + σ 84 1) < (2147483648 : Int) := k25 h1 h2 h6
        refine z_isubN dX7_outcomeOf_81 s25 ?_
        refine z_iload_n dX7_outcomeOf_82 rfl rfl ?_
        refine z_icmp_ge dX7_outcomeOf_83 (tgt := 92) (by decide) (fun h8 => ?_) (fun h8 => ?_)
        · skip
          have s26 : -2147483648 ≤ v5 + 1 ∧ v5 + 1 < (2147483648 : Int) := k26 h1 h2 h6 h8
          refine z_iincN (ls' := [zr 83, zr a1, zi v2, zi v3, zi v4, zi (v5 + 1), zi (σ 84 0 + σ 84 1)]) dX7_outcomeOf_92 rfl (by decide) s26 rfl ?_
          refine z_goto dX7_outcomeOf_95 (tgt := 27) (by decide) ?_
          exact zR_fg [false, false, false, false, false, false, true] (k27 h1 h2 h6 h8)
        · skip
          refine z_bipush (x := (-10)) dX7_outcomeOf_86 (by decide +kernel) (by unfold zIn; decide) ?_
          refine z_iload dX7_outcomeOf_88 rfl ?_
          have s28 : -2147483648 ≤ (-10) - v5 ∧ (-10) - v5 < (2147483648 : Int) := k28 h1 h2 h6 h8
          refine z_isubN dX7_outcomeOf_90 s28 ?_
          exact z_ireti rfl dX7_outcomeOf_91 (k29 h1 h2 h6 h8)
set_option maxRecDepth 20000 in
set_option maxHeartbeats 1000000 in
theorem TX7_outcomeOf_105 {G : zG} {σ : zS} {Q : Int → zS → Prop} {v2 v3 v4 v5 r : Int} {a1 a1e : Nat} (ha1 : zsh a1 = (4, 9, [some a1e, none, none, none])) (ha1e : zsh a1e = (2, 80, [])) (k1 : Q r σ) : zR G MX7_outcomeOf 105 [zr 83, zr a1, zi v2, zi v3, zi v4, zi v5, zu] [zi r] σ Q := by
  exact z_ireti rfl dX7_outcomeOf_105 (k1)
set_option maxRecDepth 20000 in
set_option maxHeartbeats 1000000 in
theorem TX11_judge {G : zG} {σ : zS} {Q : Int → zS → Prop} {a1 a2 a3 a4 : Int}  (k1 : zO G MX11_rowTrouble [zr 0, zi a1] σ (fun rr σ' => zR G MX11_judge 5 [zr 0, zi a1, zi a2, zi a3, zi a4, zu] [zi rr] σ' Q)) : zO G MX11_judge [zr 0, zi a1, zi a2, zi a3, zi a4] σ Q := by
  refine zO_of (ls0 := [zr 0, zi a1, zi a2, zi a3, zi a4, zu]) (by decide) (Nat.le_of_ble_eq_true rfl) rfl ?_
  refine z_aload_n dX11_judge_0 rfl rfl ?_
  refine z_iload_n dX11_judge_1 rfl rfl ?_
  refine z_callv (as := [zi a1]) (st := []) mkX11_rowTrouble lkRX11_198 rfl rfl rfl (by decide) (Nat.le_of_ble_eq_true rfl) rfl dX11_judge_2 (k1)
set_option maxRecDepth 20000 in
set_option maxHeartbeats 1000000 in
theorem TX11_judge_5 {G : zG} {σ : zS} {Q : Int → zS → Prop} {v1 v2 v3 v4 r : Int}  (k1 : (r = 0) → (0 : Int) ≤ v1 ∧ v1 < (10 : Int)) (k2 : (r = 0) → -2147483648 ≤ 1 + σ 83 9 ∧ 1 + σ 83 9 < (2147483648 : Int)) (k3 : (r = 0) → (1 + σ 83 9 ≤ σ (2 + 2 * v1.toNat) 2) → ((((1 ≤ v2 ∧ v2 ≤ 10)) ∧ ((0 ≤ v3 ∧ v3 ≤ 99999)) ∧ ((0 ≤ v4 ∧ v4 ≤ 99999)))) → zO G MX7_prepare [zr 83, zi (zdiv (σ 0 13) 365), zi v2, zi v4] σ (fun rr σ' => zR G MX11_judge 78 [zr 0, zi v1, zi v2, zi v3, zi v4, zi r] [] σ' Q)) (k4 : (r = 0) → (1 + σ 83 9 ≤ σ (2 + 2 * v1.toNat) 2) → (¬ ((((1 ≤ v2 ∧ v2 ≤ 10)) ∧ ((0 ≤ v3 ∧ v3 ≤ 99999)) ∧ ((0 ≤ v4 ∧ v4 ≤ 99999))))) → -2147483648 ≤ -(-6) ∧ -(-6) < (2147483648 : Int)) (k5 : (r = 0) → (1 + σ 83 9 ≤ σ (2 + 2 * v1.toNat) 2) → (¬ ((((1 ≤ v2 ∧ v2 ≤ 10)) ∧ ((0 ≤ v3 ∧ v3 ≤ 99999)) ∧ ((0 ≤ v4 ∧ v4 ≤ 99999))))) → (0 : Int) ≤ -(-6) ∧ -(-6) < (8 : Int)) (k6 : (r = 0) → (1 + σ 83 9 ≤ σ (2 + 2 * v1.toNat) 2) → (¬ ((((1 ≤ v2 ∧ v2 ≤ 10)) ∧ ((0 ≤ v3 ∧ v3 ≤ 99999)) ∧ ((0 ≤ v4 ∧ v4 ≤ 99999))))) → Q (-6) (zup σ 97 (-(-6)) (zW ((σ 97 (-(-6))) + 1)))) (k7 : (r = 0) → (σ (2 + 2 * v1.toNat) 2 < 1 + σ 83 9) → -2147483648 ≤ -(-5) ∧ -(-5) < (2147483648 : Int)) (k8 : (r = 0) → (σ (2 + 2 * v1.toNat) 2 < 1 + σ 83 9) → (0 : Int) ≤ -(-5) ∧ -(-5) < (8 : Int)) (k9 : (r = 0) → (σ (2 + 2 * v1.toNat) 2 < 1 + σ 83 9) → Q (-5) (zup σ 97 (-(-5)) (zW ((σ 97 (-(-5))) + 1)))) (k10 : (r ≠ 0) → -2147483648 ≤ -r ∧ -r < (2147483648 : Int)) (k11 : (r ≠ 0) → (0 : Int) ≤ -r ∧ -r < (8 : Int)) (k12 : (r ≠ 0) → Q r (zup σ 97 (-r) (zW ((σ 97 (-r)) + 1)))) : zR G MX11_judge 5 [zr 0, zi v1, zi v2, zi v3, zi v4, zu] [zi r] σ Q := by
  refine z_istore (ls' := [zr 0, zi v1, zi v2, zi v3, zi v4, zi r]) dX11_judge_5 (by decide) rfl ?_
  refine z_iload dX11_judge_7 rfl ?_
  refine z_if_eq dX11_judge_9 (tgt := 19) (by decide) (fun h1 => ?_) (fun h1 => ?_)
  · skip
    refine z_aload_n dX11_judge_19 rfl rfl ?_
    refine z_getfR (k := 0) flRX11_11 rfl rfl dX11_judge_20 ?_
    refine z_iload_n dX11_judge_23 rfl rfl ?_
    have s1 : (0 : Int) ≤ v1 ∧ v1 < (10 : Int) := k1 h1
    refine z_aald (r := 2 + 2 * v1.toNat) rfl s1.1 s1.2 (zsh_v s1.1 s1.2) dX11_judge_24 ?_
    refine z_getfI (k := 2) flRX11_235 (zsh_o s1.1 s1.2) rfl dX11_judge_25 ?_
    refine z_iconst dX11_judge_28 (by unfold zIn; decide) ?_
    refine z_aload_n dX11_judge_29 rfl rfl ?_
    refine z_getfR (k := 9) flRX11_86 rfl rfl dX11_judge_30 ?_
    refine z_getfI (k := 9) flRX11_428 rfl rfl dX11_judge_33 ?_
    have s2 : -2147483648 ≤ 1 + σ 83 9 ∧ 1 + σ 83 9 < (2147483648 : Int) := k2 h1
    refine z_iaddN dX11_judge_36 s2 ?_
    refine z_icmp_ge dX11_judge_37 (tgt := 47) (by decide) (fun h2 => ?_) (fun h2 => ?_)
    · skip
      refine z_iload_n dX11_judge_47 rfl rfl ?_
      refine z_iload_n dX11_judge_48 rfl rfl ?_
      refine z_iload dX11_judge_49 rfl ?_
      refine z_calls (as := [zi v2, zi v3, zi v4]) (st := []) mkX11_canPlan lkRX11_434 rfl (by decide) (Nat.le_of_ble_eq_true rfl) rfl dX11_judge_51 ?_
      refine SX11_canPlan ?_
      show zR G MX11_judge 54 [zr 0, zi v1, zi v2, zi v3, zi v4, zi r] [zi (if (((1 ≤ v2 ∧ v2 ≤ 10)) ∧ ((0 ≤ v3 ∧ v3 ≤ 99999)) ∧ ((0 ≤ v4 ∧ v4 ≤ 99999))) then (1 : Int) else 0)] σ Q
      refine z_if_ne dX11_judge_54 (tgt := 64) (by decide) (fun z => ?_) (fun z => ?_)
      · have h3 : (((1 ≤ v2 ∧ v2 ≤ 10)) ∧ ((0 ≤ v3 ∧ v3 ≤ 99999)) ∧ ((0 ≤ v4 ∧ v4 ≤ 99999))) := zb1 z
        refine z_aload_n dX11_judge_64 rfl rfl ?_
        refine z_getfR (k := 9) flRX11_86 rfl rfl dX11_judge_65 ?_
        refine z_aload_n dX11_judge_68 rfl rfl ?_
        refine z_callv (as := []) (st := [zr 83]) mkX11_thisYear lkRX11_384 rfl rfl rfl (by decide) (Nat.le_of_ble_eq_true rfl) rfl dX11_judge_69 ?_
        refine SX11_thisYear ?_
        show zR G MX11_judge 72 [zr 0, zi v1, zi v2, zi v3, zi v4, zi r] [zi (zdiv (σ 0 13) 365), zr 83] σ Q
        refine z_iload_n dX11_judge_72 rfl rfl ?_
        refine z_iload dX11_judge_73 rfl ?_
        refine z_callv (as := [zi (zdiv (σ 0 13) 365), zi v2, zi v4]) (st := []) mkX7_prepare lkRX11_437 rfl rfl rfl (by decide) (Nat.le_of_ble_eq_true rfl) rfl dX11_judge_75 (k3 h1 h2 h3)
      · have h3 : ¬ ((((1 ≤ v2 ∧ v2 ≤ 10)) ∧ ((0 ≤ v3 ∧ v3 ≤ 99999)) ∧ ((0 ≤ v4 ∧ v4 ≤ 99999)))) := zb0 z
        refine z_aload_n dX11_judge_57 rfl rfl ?_
        refine z_bipush (x := (-6)) dX11_judge_58 (by decide +kernel) (by unfold zIn; decide) ?_
        have s4 : -2147483648 ≤ -(-6) ∧ -(-6) < (2147483648 : Int) := k4 h1 h2 h3
        have s5 : (0 : Int) ≤ -(-6) ∧ -(-6) < (8 : Int) := k5 h1 h2 h3
        refine z_callv (as := [zi (-6)]) (st := []) mkX11_refuse lkRX11_132 rfl rfl rfl (by decide) (Nat.le_of_ble_eq_true rfl) rfl dX11_judge_60 ?_
        refine SX11_refuse s4 s5 ?_
        show zR G MX11_judge 63 [zr 0, zi v1, zi v2, zi v3, zi v4, zi r] [zi (-6)] (zup σ 97 (-(-6)) (zW ((σ 97 (-(-6))) + 1))) Q
        exact z_ireti rfl dX11_judge_63 (k6 h1 h2 h3)
    · skip
      refine z_aload_n dX11_judge_40 rfl rfl ?_
      refine z_bipush (x := (-5)) dX11_judge_41 (by decide +kernel) (by unfold zIn; decide) ?_
      have s7 : -2147483648 ≤ -(-5) ∧ -(-5) < (2147483648 : Int) := k7 h1 h2
      have s8 : (0 : Int) ≤ -(-5) ∧ -(-5) < (8 : Int) := k8 h1 h2
      refine z_callv (as := [zi (-5)]) (st := []) mkX11_refuse lkRX11_132 rfl rfl rfl (by decide) (Nat.le_of_ble_eq_true rfl) rfl dX11_judge_43 ?_
      refine SX11_refuse s7 s8 ?_
      show zR G MX11_judge 46 [zr 0, zi v1, zi v2, zi v3, zi v4, zi r] [zi (-5)] (zup σ 97 (-(-5)) (zW ((σ 97 (-(-5))) + 1))) Q
      exact z_ireti rfl dX11_judge_46 (k9 h1 h2)
  · skip
    refine z_aload_n dX11_judge_12 rfl rfl ?_
    refine z_iload dX11_judge_13 rfl ?_
    have s10 : -2147483648 ≤ -r ∧ -r < (2147483648 : Int) := k10 h1
    have s11 : (0 : Int) ≤ -r ∧ -r < (8 : Int) := k11 h1
    refine z_callv (as := [zi r]) (st := []) mkX11_refuse lkRX11_132 rfl rfl rfl (by decide) (Nat.le_of_ble_eq_true rfl) rfl dX11_judge_15 ?_
    refine SX11_refuse s10 s11 ?_
    show zR G MX11_judge 18 [zr 0, zi v1, zi v2, zi v3, zi v4, zi r] [zi r] (zup σ 97 (-r) (zW ((σ 97 (-r)) + 1))) Q
    exact z_ireti rfl dX11_judge_18 (k12 h1)
set_option maxRecDepth 20000 in
set_option maxHeartbeats 1000000 in
theorem TX11_judge_78 {G : zG} {σ : zS} {Q : Int → zS → Prop} {v1 v2 v3 v4 v5 : Int}  (k1 : (0 : Int) ≤ v1 ∧ v1 < (10 : Int)) (k2 : zO G MX7_canFollow [zr 83, zr (2 + 2 * v1.toNat)] σ (fun rr σ' => zR G MX11_judge 91 [zr 0, zi v1, zi v2, zi v3, zi v4, zi v5] [zi rr] σ' Q)) : zR G MX11_judge 78 [zr 0, zi v1, zi v2, zi v3, zi v4, zi v5] [] σ Q := by
  refine z_aload_n dX11_judge_78 rfl rfl ?_
  refine z_getfR (k := 9) flRX11_86 rfl rfl dX11_judge_79 ?_
  refine z_aload_n dX11_judge_82 rfl rfl ?_
  refine z_getfR (k := 0) flRX11_11 rfl rfl dX11_judge_83 ?_
  refine z_iload_n dX11_judge_86 rfl rfl ?_
  have s1 : (0 : Int) ≤ v1 ∧ v1 < (10 : Int) := k1
  refine z_aald (r := 2 + 2 * v1.toNat) rfl s1.1 s1.2 (zsh_v s1.1 s1.2) dX11_judge_87 ?_
  refine z_callv (as := [zr (2 + 2 * v1.toNat)]) (st := []) mkX7_canFollow lkRX11_446 rfl rfl rfl (by decide) (Nat.le_of_ble_eq_true rfl) rfl dX11_judge_88 (k2)
set_option maxRecDepth 20000 in
set_option maxHeartbeats 1000000 in
theorem TX11_judge_91 {G : zG} {σ : zS} {Q : Int → zS → Prop} {v1 v2 v3 v4 v5 r : Int}  (k1 : (r = 0) → -2147483648 ≤ -(-6) ∧ -(-6) < (2147483648 : Int)) (k2 : (r = 0) → (0 : Int) ≤ -(-6) ∧ -(-6) < (8 : Int)) (k3 : (r = 0) → Q (-6) (zup σ 97 (-(-6)) (zW ((σ 97 (-(-6))) + 1)))) (k4 : (r ≠ 0) → (0 : Int) ≤ v1 ∧ v1 < (10 : Int)) (k5 : (r ≠ 0) → zO G MX7_outcomeOf [zr 83, zr (2 + 2 * v1.toNat), zi v3] σ (fun rr σ' => zR G MX11_judge 108 [zr 0, zi v1, zi v2, zi v3, zi v4, zi v5] [zi rr] σ' Q)) : zR G MX11_judge 91 [zr 0, zi v1, zi v2, zi v3, zi v4, zi v5] [zi r] σ Q := by
  refine z_if_eq dX11_judge_91 (tgt := 111) (by decide) (fun h1 => ?_) (fun h1 => ?_)
  · skip
    refine z_aload_n dX11_judge_111 rfl rfl ?_
    refine z_bipush (x := (-6)) dX11_judge_112 (by decide +kernel) (by unfold zIn; decide) ?_
    have s1 : -2147483648 ≤ -(-6) ∧ -(-6) < (2147483648 : Int) := k1 h1
    have s2 : (0 : Int) ≤ -(-6) ∧ -(-6) < (8 : Int) := k2 h1
    refine z_callv (as := [zi (-6)]) (st := []) mkX11_refuse lkRX11_132 rfl rfl rfl (by decide) (Nat.le_of_ble_eq_true rfl) rfl dX11_judge_114 ?_
    refine SX11_refuse s1 s2 ?_
    show zR G MX11_judge 117 [zr 0, zi v1, zi v2, zi v3, zi v4, zi v5] [zi (-6)] (zup σ 97 (-(-6)) (zW ((σ 97 (-(-6))) + 1))) Q
    exact z_ireti rfl dX11_judge_117 (k3 h1)
  · skip
    refine z_aload_n dX11_judge_94 rfl rfl ?_
    refine z_getfR (k := 9) flRX11_86 rfl rfl dX11_judge_95 ?_
    refine z_aload_n dX11_judge_98 rfl rfl ?_
    refine z_getfR (k := 0) flRX11_11 rfl rfl dX11_judge_99 ?_
    refine z_iload_n dX11_judge_102 rfl rfl ?_
    have s4 : (0 : Int) ≤ v1 ∧ v1 < (10 : Int) := k4 h1
    refine z_aald (r := 2 + 2 * v1.toNat) rfl s4.1 s4.2 (zsh_v s4.1 s4.2) dX11_judge_103 ?_
    refine z_iload_n dX11_judge_104 rfl rfl ?_
    refine z_callv (as := [zr (2 + 2 * v1.toNat), zi v3]) (st := []) mkX7_outcomeOf lkRX11_450 rfl rfl rfl (by decide) (Nat.le_of_ble_eq_true rfl) rfl dX11_judge_105 (k5 h1)
set_option maxRecDepth 20000 in
set_option maxHeartbeats 1000000 in
theorem TX11_judge_108 {G : zG} {σ : zS} {Q : Int → zS → Prop} {v1 v2 v3 v4 v5 r : Int}  (k1 : Q r σ) : zR G MX11_judge 108 [zr 0, zi v1, zi v2, zi v3, zi v4, zi v5] [zi r] σ Q := by
  refine z_goto dX11_judge_108 (tgt := 117) (by decide) ?_
  exact z_ireti rfl dX11_judge_117 (k1)
set_option maxRecDepth 20000 in
set_option maxHeartbeats 1000000 in
theorem TX11_room {G : zG} {σ : zS} {Q : Int → zS → Prop}  (k1 : (σ 94 4 ≠ 9) → -2147483648 ≤ σ 94 4 + 1 ∧ σ 94 4 + 1 < (2147483648 : Int)) (k2 : (σ 94 4 ≠ 9) → Q (σ 94 4) (zup σ 94 4 (σ 94 4 + 1))) (k3 : (σ 94 4 = 9) → -2147483648 ≤ -(-7) ∧ -(-7) < (2147483648 : Int)) (k4 : (σ 94 4 = 9) → (0 : Int) ≤ -(-7) ∧ -(-7) < (8 : Int)) (k5 : (σ 94 4 = 9) → Q (-7) (zup σ 97 (-(-7)) (zW ((σ 97 (-(-7))) + 1)))) : zO G MX11_room [zr 0] σ Q := by
  refine zO_of (ls0 := [zr 0]) (by decide) (Nat.le_of_ble_eq_true rfl) rfl ?_
  refine z_aload_n dX11_room_0 rfl rfl ?_
  refine z_getfR (k := 11) flRX11_98 rfl rfl dX11_room_1 ?_
  refine z_getfI (k := 4) flRX11_454 rfl rfl dX11_room_4 ?_
  refine z_bipush (x := 9) dX11_room_7 (by decide +kernel) (by unfold zIn; decide) ?_
  refine z_icmp_ne dX11_room_9 (tgt := 21) (by decide) (fun h1 => ?_) (fun h1 => ?_)
  · skip
    refine z_aload_n dX11_room_21 rfl rfl ?_
    refine z_getfR (k := 11) flRX11_98 rfl rfl dX11_room_22 ?_
    refine z_dup dX11_room_25 rfl ?_
    refine z_getfI (k := 4) flRX11_454 rfl rfl dX11_room_26 ?_
    refine z_dup_x1 dX11_room_29 rfl rfl ?_
    refine z_iconst dX11_room_30 (by unfold zIn; decide) ?_
    have s1 : -2147483648 ≤ σ 94 4 + 1 ∧ σ 94 4 + 1 < (2147483648 : Int) := k1 h1
    refine z_iaddN dX11_room_31 s1 ?_
    refine z_putI (k := 4) fpRX11_454 rfl rfl dX11_room_32 ?_
    exact z_ireti rfl dX11_room_35 (k2 h1)
  · skip
    refine z_aload_n dX11_room_12 rfl rfl ?_
    refine z_bipush (x := (-7)) dX11_room_13 (by decide +kernel) (by unfold zIn; decide) ?_
    have s3 : -2147483648 ≤ -(-7) ∧ -(-7) < (2147483648 : Int) := k3 h1
    have s4 : (0 : Int) ≤ -(-7) ∧ -(-7) < (8 : Int) := k4 h1
    refine z_callv (as := [zi (-7)]) (st := []) mkX11_refuse lkRX11_132 rfl rfl rfl (by decide) (Nat.le_of_ble_eq_true rfl) rfl dX11_room_15 ?_
    refine SX11_refuse s3 s4 ?_
    show zR G MX11_room 18 [zr 0] [zi (-7)] (zup σ 97 (-(-7)) (zW ((σ 97 (-(-7))) + 1))) Q
    refine z_goto dX11_room_18 (tgt := 35) (by decide) ?_
    exact z_ireti rfl dX11_room_35 (k5 h1)
set_option maxRecDepth 20000 in
set_option maxHeartbeats 1000000 in
theorem TX11_wish {G : zG} {σ : zS} {Q : Int → zS → Prop} {a1 a2 : Int}  (k1 : zO G MX11_choiceOf [zr 0, zr 91, zi a1, zi a2] σ (fun rr σ' => zR G MX11_wish 10 [zr 0, zi a1, zi a2] [zi rr] σ' Q)) : zO G MX11_wish [zr 0, zi a1, zi a2] σ Q := by
  refine zO_of (ls0 := [zr 0, zi a1, zi a2]) (by decide) (Nat.le_of_ble_eq_true rfl) rfl ?_
  refine z_aload_n dX11_wish_0 rfl rfl ?_
  refine z_aload_n dX11_wish_1 rfl rfl ?_
  refine z_getfR (k := 10) flRX11_90 rfl rfl dX11_wish_2 ?_
  refine z_iload_n dX11_wish_5 rfl rfl ?_
  refine z_iload_n dX11_wish_6 rfl rfl ?_
  refine z_callv (as := [zr 91, zi a1, zi a2]) (st := []) mkX11_choiceOf lkRX11_306 rfl rfl rfl (by decide) (Nat.le_of_ble_eq_true rfl) rfl dX11_wish_7 (k1)
set_option maxRecDepth 20000 in
set_option maxHeartbeats 1000000 in
theorem TX11_wish_10 {G : zG} {σ : zS} {Q : Int → zS → Prop} {v1 v2 r : Int}  (k1 : Q r σ) : zR G MX11_wish 10 [zr 0, zi v1, zi v2] [zi r] σ Q := by
  exact z_ireti rfl dX11_wish_10 (k1)
set_option maxRecDepth 20000 in
set_option maxHeartbeats 1000000 in
theorem TX8_chooseAll {G : zG} {σ : zS} {Q : Int → zS → Prop}  (k1 : zO G MX6_lineUpFellows [zr 52] σ (fun rr σ' => zR G MX8_chooseAll 7 [zr 94, zu, zu, zu, zu, zu, zu] [zi rr] σ' Q)) : zO G MX8_chooseAll [zr 94] σ Q := by
  refine zO_of (ls0 := [zr 94, zu, zu, zu, zu, zu, zu]) (by decide) (Nat.le_of_ble_eq_true rfl) rfl ?_
  refine z_aload_n dX8_chooseAll_0 rfl rfl ?_
  refine z_getfR (k := 0) flRX8_22 rfl rfl dX8_chooseAll_1 ?_
  refine z_callv (as := []) (st := []) mkX6_lineUpFellows lkRX8_36 rfl rfl rfl (by decide) (Nat.le_of_ble_eq_true rfl) rfl dX8_chooseAll_4 (k1)
set_option maxRecDepth 20000 in
set_option maxHeartbeats 1000000 in
theorem TX8_chooseAll_7 {G : zG} {σ : zS} {Q : Int → zS → Prop} {r : Int}  (k1 : zR G MX8_chooseAll 10 [zr 94, zi r, zi 0, zu, zu, zu, zu] [] σ Q) : zR G MX8_chooseAll 7 [zr 94, zu, zu, zu, zu, zu, zu] [zi r] σ Q := by
  refine z_istore_n (ls' := [zr 94, zi r, zu, zu, zu, zu, zu]) dX8_chooseAll_7 rfl (by decide) rfl ?_
  refine z_iconst dX8_chooseAll_8 (by unfold zIn; decide) ?_
  refine z_istore_n (ls' := [zr 94, zi r, zi 0, zu, zu, zu, zu]) dX8_chooseAll_9 rfl (by decide) rfl ?_
  exact k1
set_option maxRecDepth 20000 in
set_option maxHeartbeats 1000000 in
theorem TX8_chooseAll_10 {G : zG} {σ : zS} {Q : Int → zS → Prop} {v1 v2 : Int}  (k1 : (v1 ≤ v2) → -2147483648 ≤ zshl 1 (σ 94 4) - 1 ∧ zshl 1 (σ 94 4) - 1 < (2147483648 : Int)) (k2 : (v1 ≤ v2) → zR G MX8_chooseAll 55 [zr 94, zi v1, zi (zshl 1 (σ 94 4) - 1), zi 0, zu, zu, zu] [] σ Q) (k3 : (v2 < v1) → (0 : Int) ≤ v2 ∧ v2 < (12 : Int)) (k4 : (v2 < v1) → (0 : Int) ≤ σ 58 v2 ∧ σ 58 v2 < (12 : Int)) (k5 : (v2 < v1) → (0 : Int) ≤ σ 54 (σ 58 v2) ∧ σ 54 (σ 58 v2) < (24 : Int)) (k6 : (v2 < v1) → -2147483648 ≤ v2 + 1 ∧ v2 + 1 < (2147483648 : Int)) (k7 : (v2 < v1) → zR G MX8_chooseAll 10 [zr 94, zi v1, zi (v2 + 1), zu, zu, zu, zu] [] (zup σ 95 (σ 54 (σ 58 v2)) (-1)) Q) : zR G MX8_chooseAll 10 [zr 94, zi v1, zi v2, zu, zu, zu, zu] [] σ Q := by
  refine z_iload_n dX8_chooseAll_10 rfl rfl ?_
  refine z_iload_n dX8_chooseAll_11 rfl rfl ?_
  refine z_icmp_ge dX8_chooseAll_12 (tgt := 44) (by decide) (fun h1 => ?_) (fun h1 => ?_)
  · skip
    refine z_iconst dX8_chooseAll_44 (by unfold zIn; decide) ?_
    refine z_aload_n dX8_chooseAll_45 rfl rfl ?_
    refine z_getfI (k := 4) flRX8_18 rfl rfl dX8_chooseAll_46 ?_
    refine z_ishl dX8_chooseAll_49 ?_
    refine z_iconst dX8_chooseAll_50 (by unfold zIn; decide) ?_
    have s1 : -2147483648 ≤ zshl 1 (σ 94 4) - 1 ∧ zshl 1 (σ 94 4) - 1 < (2147483648 : Int) := k1 h1
    refine z_isubN dX8_chooseAll_51 s1 ?_
    refine z_istore_n (ls' := [zr 94, zi v1, zi (zshl 1 (σ 94 4) - 1), zu, zu, zu, zu]) dX8_chooseAll_52 rfl (by decide) rfl ?_
    refine z_iconst dX8_chooseAll_53 (by unfold zIn; decide) ?_
    refine z_istore_n (ls' := [zr 94, zi v1, zi (zshl 1 (σ 94 4) - 1), zi 0, zu, zu, zu]) dX8_chooseAll_54 rfl (by decide) rfl ?_
    exact k2 h1
  · skip
    refine z_aload_n dX8_chooseAll_15 rfl rfl ?_
    refine z_getfR (k := 2) flRX8_9 rfl rfl dX8_chooseAll_16 ?_
    refine z_aload_n dX8_chooseAll_19 rfl rfl ?_
    refine z_getfR (k := 0) flRX8_22 rfl rfl dX8_chooseAll_20 ?_
    refine z_getfR (k := 2) flRX8_42 rfl rfl dX8_chooseAll_23 ?_
    refine z_aload_n dX8_chooseAll_26 rfl rfl ?_
    refine z_getfR (k := 0) flRX8_22 rfl rfl dX8_chooseAll_27 ?_
    refine z_getfR (k := 6) flRX8_45 rfl rfl dX8_chooseAll_30 ?_
    refine z_iload_n dX8_chooseAll_33 rfl rfl ?_
    have s3 : (0 : Int) ≤ v2 ∧ v2 < (12 : Int) := k3 h1
    refine z_iald rfl s3.1 s3.2 dX8_chooseAll_34 ?_
    have s4 : (0 : Int) ≤ σ 58 v2 ∧ σ 58 v2 < (12 : Int) := k4 h1
    refine z_iald rfl s4.1 s4.2 dX8_chooseAll_35 ?_
    refine z_iconst dX8_chooseAll_36 (by unfold zIn; decide) ?_
    have s5 : (0 : Int) ≤ σ 54 (σ 58 v2) ∧ σ 54 (σ 58 v2) < (24 : Int) := k5 h1
    refine z_iast rfl s5.1 s5.2 dX8_chooseAll_37 ?_
    have s6 : -2147483648 ≤ v2 + 1 ∧ v2 + 1 < (2147483648 : Int) := k6 h1
    refine z_iincN (ls' := [zr 94, zi v1, zi (v2 + 1), zu, zu, zu, zu]) dX8_chooseAll_38 rfl (by decide) s6 rfl ?_
    refine z_goto dX8_chooseAll_41 (tgt := 10) (by decide) ?_
    exact k7 h1
set_option maxRecDepth 20000 in
set_option maxHeartbeats 1000000 in
theorem TX8_chooseAll_55 {G : zG} {σ : zS} {Q : Int → zS → Prop} {v1 v2 v3 : Int}  (k1 : (24 ≤ v3) → zR G MX8_chooseAll 95 [zr 94, zi v1, zi v2, zi 0, zi 0, zu, zu] [] σ Q) (k2 : (v3 < 24) → (0 : Int) ≤ v3 ∧ v3 < (24 : Int)) (k3 : (v3 < 24) → (σ 95 v3 = (-1)) → -2147483648 ≤ v3 + 1 ∧ v3 + 1 < (2147483648 : Int)) (k4 : (v3 < 24) → (σ 95 v3 = (-1)) → zR G MX8_chooseAll 55 [zr 94, zi v1, zi v2, zi (v3 + 1), zu, zu, zu] [] σ Q) (k5 : (v3 < 24) → (σ 95 v3 ≠ (-1)) → -2147483648 ≤ v3 + 1 ∧ v3 + 1 < (2147483648 : Int)) (k6 : (v3 < 24) → (σ 95 v3 ≠ (-1)) → zR G MX8_chooseAll 55 [zr 94, zi v1, zi (zand v2 (zxor (zshl 1 (σ 95 v3)) (-1))), zi (v3 + 1), zu, zu, zu] [] σ Q) : zR G MX8_chooseAll 55 [zr 94, zi v1, zi v2, zi v3, zu, zu, zu] [] σ Q := by
  have J84_1 : (v3 < 24) → (σ 95 v3 ≠ (-1)) → zR G MX8_chooseAll 84 [zr 94, zi v1, zi (zand v2 (zxor (zshl 1 (σ 95 v3)) (-1))), zi v3, zu, zu, zu] [] σ Q := by
    intro h1 h2
    have s5 : -2147483648 ≤ v3 + 1 ∧ v3 + 1 < (2147483648 : Int) := k5 h1 h2
    refine z_iincN (ls' := [zr 94, zi v1, zi (zand v2 (zxor (zshl 1 (σ 95 v3)) (-1))), zi (v3 + 1), zu, zu, zu]) dX8_chooseAll_84 rfl (by decide) s5 rfl ?_
    refine z_goto dX8_chooseAll_87 (tgt := 55) (by decide) ?_
    exact k6 h1 h2
  have J84 : (v3 < 24) → (σ 95 v3 = (-1)) → zR G MX8_chooseAll 84 [zr 94, zi v1, zi v2, zi v3, zu, zu, zu] [] σ Q := by
    intro h1 h2
    have s3 : -2147483648 ≤ v3 + 1 ∧ v3 + 1 < (2147483648 : Int) := k3 h1 h2
    refine z_iincN (ls' := [zr 94, zi v1, zi v2, zi (v3 + 1), zu, zu, zu]) dX8_chooseAll_84 rfl (by decide) s3 rfl ?_
    refine z_goto dX8_chooseAll_87 (tgt := 55) (by decide) ?_
    exact k4 h1 h2
  refine z_iload_n dX8_chooseAll_55 rfl rfl ?_
  refine z_bipush (x := 24) dX8_chooseAll_56 (by decide +kernel) (by unfold zIn; decide) ?_
  refine z_icmp_ge dX8_chooseAll_58 (tgt := 90) (by decide) (fun h1 => ?_) (fun h1 => ?_)
  · skip
    refine z_iconst dX8_chooseAll_90 (by unfold zIn; decide) ?_
    refine z_istore_n (ls' := [zr 94, zi v1, zi v2, zi 0, zu, zu, zu]) dX8_chooseAll_91 rfl (by decide) rfl ?_
    refine z_iconst dX8_chooseAll_92 (by unfold zIn; decide) ?_
    refine z_istore (ls' := [zr 94, zi v1, zi v2, zi 0, zi 0, zu, zu]) dX8_chooseAll_93 (by decide) rfl ?_
    exact k1 h1
  · skip
    refine z_aload_n dX8_chooseAll_61 rfl rfl ?_
    refine z_getfR (k := 2) flRX8_9 rfl rfl dX8_chooseAll_62 ?_
    refine z_iload_n dX8_chooseAll_65 rfl rfl ?_
    have s2 : (0 : Int) ≤ v3 ∧ v3 < (24 : Int) := k2 h1
    refine z_iald rfl s2.1 s2.2 dX8_chooseAll_66 ?_
    refine z_iconst dX8_chooseAll_67 (by unfold zIn; decide) ?_
    refine z_icmp_eq dX8_chooseAll_68 (tgt := 84) (by decide) (fun h2 => ?_) (fun h2 => ?_)
    · skip
      exact J84 h1 h2
    · skip
      refine z_iload_n dX8_chooseAll_71 rfl rfl ?_
      refine z_iconst dX8_chooseAll_72 (by unfold zIn; decide) ?_
      refine z_aload_n dX8_chooseAll_73 rfl rfl ?_
      refine z_getfR (k := 2) flRX8_9 rfl rfl dX8_chooseAll_74 ?_
      refine z_iload_n dX8_chooseAll_77 rfl rfl ?_
      refine z_iald rfl s2.1 s2.2 dX8_chooseAll_78 ?_
      refine z_ishl dX8_chooseAll_79 ?_
      refine z_iconst dX8_chooseAll_80 (by unfold zIn; decide) ?_
      refine z_ixor dX8_chooseAll_81 ?_
      refine z_iand dX8_chooseAll_82 ?_
      refine z_istore_n (ls' := [zr 94, zi v1, zi (zand v2 (zxor (zshl 1 (σ 95 v3)) (-1))), zi v3, zu, zu, zu]) dX8_chooseAll_83 rfl (by decide) rfl ?_
      exact J84_1 h1 h2
set_option maxRecDepth 20000 in
set_option maxHeartbeats 1000000 in
theorem TX8_chooseAll_95 {G : zG} {σ : zS} {Q : Int → zS → Prop} {v1 v2 v3 v4 : Int}  (k1 : (v1 ≤ v4) → Q v3 σ) (k2 : (v4 < v1) → (0 : Int) ≤ v4 ∧ v4 < (12 : Int)) (k3 : (v4 < v1) → (0 : Int) ≤ σ 58 v4 ∧ σ 58 v4 < (12 : Int)) (k4 : (v4 < v1) → zO G MX1_firstOf [zr 91, zi (σ 54 (σ 58 v4)), zi v2] σ (fun rr σ' => zR G MX8_chooseAll 131 [zr 94, zi v1, zi v2, zi v3, zi v4, zi (σ 54 (σ 58 v4)), zu] [zi rr] σ' Q)) : zR G MX8_chooseAll 95 [zr 94, zi v1, zi v2, zi v3, zi v4, zu, zu] [] σ Q := by
  refine z_iload dX8_chooseAll_95 rfl ?_
  refine z_iload_n dX8_chooseAll_97 rfl rfl ?_
  refine z_icmp_ge dX8_chooseAll_98 (tgt := 166) (by decide) (fun h1 => ?_) (fun h1 => ?_)
  · skip
    refine z_iload_n dX8_chooseAll_166 rfl rfl ?_
    exact z_ireti rfl dX8_chooseAll_167 (k1 h1)
  · skip
    refine z_aload_n dX8_chooseAll_101 rfl rfl ?_
    refine z_getfR (k := 0) flRX8_22 rfl rfl dX8_chooseAll_102 ?_
    refine z_getfR (k := 2) flRX8_42 rfl rfl dX8_chooseAll_105 ?_
    refine z_aload_n dX8_chooseAll_108 rfl rfl ?_
    refine z_getfR (k := 0) flRX8_22 rfl rfl dX8_chooseAll_109 ?_
    refine z_getfR (k := 6) flRX8_45 rfl rfl dX8_chooseAll_112 ?_
    refine z_iload dX8_chooseAll_115 rfl ?_
    have s2 : (0 : Int) ≤ v4 ∧ v4 < (12 : Int) := k2 h1
    refine z_iald rfl s2.1 s2.2 dX8_chooseAll_117 ?_
    have s3 : (0 : Int) ≤ σ 58 v4 ∧ σ 58 v4 < (12 : Int) := k3 h1
    refine z_iald rfl s3.1 s3.2 dX8_chooseAll_118 ?_
    refine z_istore (ls' := [zr 94, zi v1, zi v2, zi v3, zi v4, zi (σ 54 (σ 58 v4)), zu]) dX8_chooseAll_119 (by decide) rfl ?_
    refine z_aload_n dX8_chooseAll_121 rfl rfl ?_
    refine z_getfR (k := 1) flRX8_26 rfl rfl dX8_chooseAll_122 ?_
    refine z_iload dX8_chooseAll_125 rfl ?_
    refine z_iload_n dX8_chooseAll_127 rfl rfl ?_
    refine z_callv (as := [zi (σ 54 (σ 58 v4)), zi v2]) (st := []) mkX1_firstOf lkRX8_48 rfl rfl rfl (by decide) (Nat.le_of_ble_eq_true rfl) rfl dX8_chooseAll_128 (k4 h1)
set_option maxRecDepth 20000 in
set_option maxHeartbeats 1000000 in
theorem TX8_chooseAll_131 {G : zG} {σ : zS} {Q : Int → zS → Prop} {v1 v2 v3 v4 v5 r : Int}  (k1 : (r ≠ (-1)) → (0 : Int) ≤ v5 ∧ v5 < (24 : Int)) (k2 : (r ≠ (-1)) → -2147483648 ≤ v3 + 1 ∧ v3 + 1 < (2147483648 : Int)) (k3 : (r = (-1)) → -2147483648 ≤ v4 + 1 ∧ v4 + 1 < (2147483648 : Int)) (k4 : (r = (-1)) → zR G MX8_chooseAll 95 [zr 94, zi v1, zi v2, zi v3, zi (v4 + 1), zu, zu] [] σ Q) (k5 : (r ≠ (-1)) → -2147483648 ≤ v4 + 1 ∧ v4 + 1 < (2147483648 : Int)) (k6 : (r ≠ (-1)) → zR G MX8_chooseAll 95 [zr 94, zi v1, zi (zand v2 (zxor (zshl 1 r) (-1))), zi (v3 + 1), zi (v4 + 1), zu, zu] [] (zup σ 95 v5 r) Q) : zR G MX8_chooseAll 131 [zr 94, zi v1, zi v2, zi v3, zi v4, zi v5, zu] [zi r] σ Q := by
  have J160_1 : (r ≠ (-1)) → zR G MX8_chooseAll 160 [zr 94, zi v1, zi (zand v2 (zxor (zshl 1 r) (-1))), zi (v3 + 1), zi v4, zi v5, zi r] [] (zup σ 95 v5 r) Q := by
    intro h1
    have s5 : -2147483648 ≤ v4 + 1 ∧ v4 + 1 < (2147483648 : Int) := k5 h1
    refine z_iincN (ls' := [zr 94, zi v1, zi (zand v2 (zxor (zshl 1 r) (-1))), zi (v3 + 1), zi (v4 + 1), zi v5, zi r]) dX8_chooseAll_160 rfl (by decide) s5 rfl ?_
    refine z_goto dX8_chooseAll_163 (tgt := 95) (by decide) ?_
    exact zR_fg [false, false, false, false, false, true, true] (k6 h1)
  have J160 : (r = (-1)) → zR G MX8_chooseAll 160 [zr 94, zi v1, zi v2, zi v3, zi v4, zi v5, zi r] [] σ Q := by
    intro h1
    have s3 : -2147483648 ≤ v4 + 1 ∧ v4 + 1 < (2147483648 : Int) := k3 h1
    refine z_iincN (ls' := [zr 94, zi v1, zi v2, zi v3, zi (v4 + 1), zi v5, zi r]) dX8_chooseAll_160 rfl (by decide) s3 rfl ?_
    refine z_goto dX8_chooseAll_163 (tgt := 95) (by decide) ?_
    exact zR_fg [false, false, false, false, false, true, true] (k4 h1)
  refine z_istore (ls' := [zr 94, zi v1, zi v2, zi v3, zi v4, zi v5, zi r]) dX8_chooseAll_131 (by decide) rfl ?_
  refine z_iload dX8_chooseAll_133 rfl ?_
  refine z_iconst dX8_chooseAll_135 (by unfold zIn; decide) ?_
  refine z_icmp_eq dX8_chooseAll_136 (tgt := 160) (by decide) (fun h1 => ?_) (fun h1 => ?_)
  · skip
    exact J160 h1
  · skip
    refine z_aload_n dX8_chooseAll_139 rfl rfl ?_
    refine z_getfR (k := 2) flRX8_9 rfl rfl dX8_chooseAll_140 ?_
    refine z_iload dX8_chooseAll_143 rfl ?_
    refine z_iload dX8_chooseAll_145 rfl ?_
    have s1 : (0 : Int) ≤ v5 ∧ v5 < (24 : Int) := k1 h1
    refine z_iast rfl s1.1 s1.2 dX8_chooseAll_147 ?_
    refine z_iload_n dX8_chooseAll_148 rfl rfl ?_
    refine z_iconst dX8_chooseAll_149 (by unfold zIn; decide) ?_
    refine z_iload dX8_chooseAll_150 rfl ?_
    refine z_ishl dX8_chooseAll_152 ?_
    refine z_iconst dX8_chooseAll_153 (by unfold zIn; decide) ?_
    refine z_ixor dX8_chooseAll_154 ?_
    refine z_iand dX8_chooseAll_155 ?_
    refine z_istore_n (ls' := [zr 94, zi v1, zi (zand v2 (zxor (zshl 1 r) (-1))), zi v3, zi v4, zi v5, zi r]) dX8_chooseAll_156 rfl (by decide) rfl ?_
    have s2 : -2147483648 ≤ v3 + 1 ∧ v3 + 1 < (2147483648 : Int) := k2 h1
    refine z_iincN (ls' := [zr 94, zi v1, zi (zand v2 (zxor (zshl 1 r) (-1))), zi (v3 + 1), zi v4, zi v5, zi r]) dX8_chooseAll_157 rfl (by decide) s2 rfl ?_
    exact J160_1 h1
