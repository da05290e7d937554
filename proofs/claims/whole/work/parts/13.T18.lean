set_option maxRecDepth 20000 in
set_option maxHeartbeats 1000000 in
theorem TX12_plan {G : zG} {σ : zS} {Q : Int → zS → Prop} {a1 a2 a3 : Int}  (k1 : zO G MX12_isPlan [zi a1, zi a2, zi a3] σ (fun rr σ' => zR G MX12_plan 6 [zr 98, zi a1, zi a2, zi a3, zu, zu, zu, zu, zu, zu, zu, zu, zu, zu] [zi rr] σ' Q)) : zO G MX12_plan [zr 98, zi a1, zi a2, zi a3] σ Q := by
  refine zO_of (ls0 := [zr 98, zi a1, zi a2, zi a3, zu, zu, zu, zu, zu, zu, zu, zu, zu, zu]) (by decide) (Nat.le_of_ble_eq_true rfl) rfl ?_
  refine z_iload_n dX12_plan_0 rfl rfl ?_
  refine z_iload_n dX12_plan_1 rfl rfl ?_
  refine z_iload_n dX12_plan_2 rfl rfl ?_
  refine z_calls (as := [zi a1, zi a2, zi a3]) (st := []) mkX12_isPlan lkRX12_480 rfl (by decide) (Nat.le_of_ble_eq_true rfl) rfl dX12_plan_3 (k1)
set_option maxRecDepth 20000 in
set_option maxHeartbeats 1000000 in
theorem TX12_plan_6 {G : zG} {σ : zS} {Q : Int → zS → Prop} {v1 v2 v3 r : Int}  (k1 : (r ≠ 0) → zR G MX12_plan 22 [zr 98, zi v1, zi v2, zi v3, zi 0, zi 0, zu, zu, zu, zu, zu, zu, zu, zu] [] σ Q) (k2 : (r = 0) → -2147483648 ≤ -(-6) ∧ -(-6) < (2147483648 : Int)) (k3 : (r = 0) → (0 : Int) ≤ -(-6) ∧ -(-6) < (8 : Int)) (k4 : (r = 0) → -2147483648 ≤ (σ 157 (-(-6))) + 1 ∧ (σ 157 (-(-6))) + 1 < (2147483648 : Int)) (k5 : (r = 0) → Q (-6) (zup σ 157 (-(-6)) ((σ 157 (-(-6))) + 1))) : zR G MX12_plan 6 [zr 98, zi v1, zi v2, zi v3, zu, zu, zu, zu, zu, zu, zu, zu, zu, zu] [zi r] σ Q := by
  refine z_if_ne dX12_plan_6 (tgt := 16) (by decide) (fun h1 => ?_) (fun h1 => ?_)
  · skip
    refine z_iconst dX12_plan_16 (by unfold zIn; decide) ?_
    refine z_istore (ls' := [zr 98, zi v1, zi v2, zi v3, zi 0, zu, zu, zu, zu, zu, zu, zu, zu, zu]) dX12_plan_17 (by decide) rfl ?_
    refine z_iconst dX12_plan_19 (by unfold zIn; decide) ?_
    refine z_istore (ls' := [zr 98, zi v1, zi v2, zi v3, zi 0, zi 0, zu, zu, zu, zu, zu, zu, zu, zu]) dX12_plan_20 (by decide) rfl ?_
    exact k1 h1
  · skip
    refine z_aload_n dX12_plan_9 rfl rfl ?_
    refine z_bipush (x := (-6)) dX12_plan_10 (by decide +kernel) (by unfold zIn; decide) ?_
    have s2 : -2147483648 ≤ -(-6) ∧ -(-6) < (2147483648 : Int) := k2 h1
    have s3 : (0 : Int) ≤ -(-6) ∧ -(-6) < (8 : Int) := k3 h1
    have s4 : -2147483648 ≤ (σ 157 (-(-6))) + 1 ∧ (σ 157 (-(-6))) + 1 < (2147483648 : Int) := k4 h1
    refine z_callv (as := [zi (-6)]) (st := []) mkX12_no lkRX12_267 rfl rfl rfl (by decide) (Nat.le_of_ble_eq_true rfl) rfl dX12_plan_12 ?_
    refine SX12_no s2 s3 s4 ?_
    show zR G MX12_plan 15 [zr 98, zi v1, zi v2, zi v3, zu, zu, zu, zu, zu, zu, zu, zu, zu, zu] [zi (-6)] (zup σ 157 (-(-6)) ((σ 157 (-(-6))) + 1)) Q
    exact z_ireti rfl dX12_plan_15 (k5 h1)
set_option maxRecDepth 20000 in
set_option maxHeartbeats 1000000 in
theorem TX12_plan_22 {G : zG} {σ : zS} {Q : Int → zS → Prop} {v1 v2 v3 v4 v5 : Int}  (k1 : (σ 98 5 ≤ v5) → -2147483648 ≤ v1 + 1 ∧ v1 + 1 < (2147483648 : Int)) (k2 : (σ 98 5 ≤ v5) → zR G MX12_plan 79 [zr 98, zi v1, zi v2, zi v3, zi v4, zi 0, zi 0, zi 0, zi 0, zi 0, zi (v1 + 1), zi 0, zu, zu] [] σ Q) (k3 : (v5 < σ 98 5) → zO G MX12_endsIn [zr 98, zi v5, zi v1] σ (fun rr σ' => zR G MX12_plan 38 [zr 98, zi v1, zi v2, zi v3, zi v4, zi v5, zu, zu, zu, zu, zu, zu, zu, zu] [zi rr] σ' Q)) : zR G MX12_plan 22 [zr 98, zi v1, zi v2, zi v3, zi v4, zi v5, zu, zu, zu, zu, zu, zu, zu, zu] [] σ Q := by
  refine z_iload dX12_plan_22 rfl ?_
  refine z_aload_n dX12_plan_24 rfl rfl ?_
  refine z_getfI (k := 5) flRX12_415 rfl rfl dX12_plan_25 ?_
  refine z_icmp_ge dX12_plan_28 (tgt := 56) (by decide) (fun h1 => ?_) (fun h1 => ?_)
  · skip
    refine z_iconst dX12_plan_56 (by unfold zIn; decide) ?_
    refine z_istore (ls' := [zr 98, zi v1, zi v2, zi v3, zi v4, zi 0, zu, zu, zu, zu, zu, zu, zu, zu]) dX12_plan_57 (by decide) rfl ?_
    refine z_iconst dX12_plan_59 (by unfold zIn; decide) ?_
    refine z_istore (ls' := [zr 98, zi v1, zi v2, zi v3, zi v4, zi 0, zi 0, zu, zu, zu, zu, zu, zu, zu]) dX12_plan_60 (by decide) rfl ?_
    refine z_iconst dX12_plan_62 (by unfold zIn; decide) ?_
    refine z_istore (ls' := [zr 98, zi v1, zi v2, zi v3, zi v4, zi 0, zi 0, zi 0, zu, zu, zu, zu, zu, zu]) dX12_plan_63 (by decide) rfl ?_
    refine z_iconst dX12_plan_65 (by unfold zIn; decide) ?_
    refine z_istore (ls' := [zr 98, zi v1, zi v2, zi v3, zi v4, zi 0, zi 0, zi 0, zi 0, zu, zu, zu, zu, zu]) dX12_plan_66 (by decide) rfl ?_
    refine z_iconst dX12_plan_68 (by unfold zIn; decide) ?_
    refine z_istore (ls' := [zr 98, zi v1, zi v2, zi v3, zi v4, zi 0, zi 0, zi 0, zi 0, zi 0, zu, zu, zu, zu]) dX12_plan_69 (by decide) rfl ?_
    refine z_iload_n dX12_plan_71 rfl rfl ?_
    refine z_iconst dX12_plan_72 (by unfold zIn; decide) ?_
    have s1 : -2147483648 ≤ v1 + 1 ∧ v1 + 1 < (2147483648 : Int) := k1 h1
    refine z_iaddN dX12_plan_73 s1 ?_
    refine z_istore (ls' := [zr 98, zi v1, zi v2, zi v3, zi v4, zi 0, zi 0, zi 0, zi 0, zi 0, zi (v1 + 1), zu, zu, zu]) dX12_plan_74 (by decide) rfl ?_
    refine z_iconst dX12_plan_76 (by unfold zIn; decide) ?_
    refine z_istore (ls' := [zr 98, zi v1, zi v2, zi v3, zi v4, zi 0, zi 0, zi 0, zi 0, zi 0, zi (v1 + 1), zi 0, zu, zu]) dX12_plan_77 (by decide) rfl ?_
    exact k2 h1
  · skip
    refine z_aload_n dX12_plan_31 rfl rfl ?_
    refine z_iload dX12_plan_32 rfl ?_
    refine z_iload_n dX12_plan_34 rfl rfl ?_
    refine z_callv (as := [zi v5, zi v1]) (st := []) mkX12_endsIn lkRX12_484 rfl rfl rfl (by decide) (Nat.le_of_ble_eq_true rfl) rfl dX12_plan_35 (k3 h1)
set_option maxRecDepth 20000 in
set_option maxHeartbeats 1000000 in
theorem TX12_plan_38 {G : zG} {σ : zS} {Q : Int → zS → Prop} {v1 v2 v3 v4 v5 r : Int}  (k1 : (r = 0) → -2147483648 ≤ v5 + 1 ∧ v5 + 1 < (2147483648 : Int)) (k2 : (r = 0) → zR G MX12_plan 22 [zr 98, zi v1, zi v2, zi v3, zi v4, zi (v5 + 1), zu, zu, zu, zu, zu, zu, zu, zu] [] σ Q) (k3 : (r ≠ 0) → -2147483648 ≤ v5 + 1 ∧ v5 + 1 < (2147483648 : Int)) (k4 : (r ≠ 0) → zR G MX12_plan 22 [zr 98, zi v1, zi v2, zi v3, zi (zor v4 (zshl 1 v5)), zi (v5 + 1), zu, zu, zu, zu, zu, zu, zu, zu] [] σ Q) : zR G MX12_plan 38 [zr 98, zi v1, zi v2, zi v3, zi v4, zi v5, zu, zu, zu, zu, zu, zu, zu, zu] [zi r] σ Q := by
  have J50_1 : (r ≠ 0) → zR G MX12_plan 50 [zr 98, zi v1, zi v2, zi v3, zi (zor v4 (zshl 1 v5)), zi v5, zu, zu, zu, zu, zu, zu, zu, zu] [] σ Q := by
    intro h1
    have s3 : -2147483648 ≤ v5 + 1 ∧ v5 + 1 < (2147483648 : Int) := k3 h1
    refine z_iincN (ls' := [zr 98, zi v1, zi v2, zi v3, zi (zor v4 (zshl 1 v5)), zi (v5 + 1), zu, zu, zu, zu, zu, zu, zu, zu]) dX12_plan_50 rfl (by decide) s3 rfl ?_
    refine z_goto dX12_plan_53 (tgt := 22) (by decide) ?_
    exact k4 h1
  have J50 : (r = 0) → zR G MX12_plan 50 [zr 98, zi v1, zi v2, zi v3, zi v4, zi v5, zu, zu, zu, zu, zu, zu, zu, zu] [] σ Q := by
    intro h1
    have s1 : -2147483648 ≤ v5 + 1 ∧ v5 + 1 < (2147483648 : Int) := k1 h1
    refine z_iincN (ls' := [zr 98, zi v1, zi v2, zi v3, zi v4, zi (v5 + 1), zu, zu, zu, zu, zu, zu, zu, zu]) dX12_plan_50 rfl (by decide) s1 rfl ?_
    refine z_goto dX12_plan_53 (tgt := 22) (by decide) ?_
    exact k2 h1
  refine z_if_eq dX12_plan_38 (tgt := 50) (by decide) (fun h1 => ?_) (fun h1 => ?_)
  · skip
    exact J50 h1
  · skip
    refine z_iload dX12_plan_41 rfl ?_
    refine z_iconst dX12_plan_43 (by unfold zIn; decide) ?_
    refine z_iload dX12_plan_44 rfl ?_
    refine z_ishl dX12_plan_46 ?_
    refine z_ior dX12_plan_47 ?_
    refine z_istore (ls' := [zr 98, zi v1, zi v2, zi v3, zi (zor v4 (zshl 1 v5)), zi v5, zu, zu, zu, zu, zu, zu, zu, zu]) dX12_plan_48 (by decide) rfl ?_
    exact J50_1 h1
set_option maxRecDepth 20000 in
set_option maxHeartbeats 1000000 in
theorem TX12_plan_79 {G : zG} {σ : zS} {Q : Int → zS → Prop} {v1 v2 v3 v4 v5 v6 v7 v8 v9 v10 v11 : Int}  (k1 : (zshl 1 (σ 98 5) ≤ v11) → (v5 ≠ 0) → Q v6 (zup (zup (zup (zup (zup σ 98 99 1) 98 100 v7) 174 0 v8) 174 1 v9) 98 101 ((zup (zup (zup (zup σ 98 99 1) 98 100 v7) 174 0 v8) 174 1 v9) 98 10))) (k2 : (zshl 1 (σ 98 5) ≤ v11) → (v5 = 0) → -2147483648 ≤ -(-6) ∧ -(-6) < (2147483648 : Int)) (k3 : (zshl 1 (σ 98 5) ≤ v11) → (v5 = 0) → (0 : Int) ≤ -(-6) ∧ -(-6) < (8 : Int)) (k4 : (zshl 1 (σ 98 5) ≤ v11) → (v5 = 0) → -2147483648 ≤ (σ 157 (-(-6))) + 1 ∧ (σ 157 (-(-6))) + 1 < (2147483648 : Int)) (k5 : (zshl 1 (σ 98 5) ≤ v11) → (v5 = 0) → Q (-6) (zup σ 157 (-(-6)) ((σ 157 (-(-6))) + 1))) (k6 : (v11 < zshl 1 (σ 98 5)) → (zand v11 (zxor v4 (-1)) = 0) → zR G MX12_plan 106 [zr 98, zi v1, zi v2, zi v3, zi v4, zi v5, zi v6, zi v7, zi v8, zi v9, zi v10, zi v11, zi 0, zu] [] σ Q) (k7 : (v11 < zshl 1 (σ 98 5)) → (zand v11 (zxor v4 (-1)) ≠ 0) → -2147483648 ≤ v11 + 1 ∧ v11 + 1 < (2147483648 : Int)) (k8 : (v11 < zshl 1 (σ 98 5)) → (zand v11 (zxor v4 (-1)) ≠ 0) → zR G MX12_plan 79 [zr 98, zi v1, zi v2, zi v3, zi v4, zi v5, zi v6, zi v7, zi v8, zi v9, zi v10, zi (v11 + 1), zu, zu] [] σ Q) : zR G MX12_plan 79 [zr 98, zi v1, zi v2, zi v3, zi v4, zi v5, zi v6, zi v7, zi v8, zi v9, zi v10, zi v11, zu, zu] [] σ Q := by
  have J267 : (v11 < zshl 1 (σ 98 5)) → (zand v11 (zxor v4 (-1)) ≠ 0) → zR G MX12_plan 267 [zr 98, zi v1, zi v2, zi v3, zi v4, zi v5, zi v6, zi v7, zi v8, zi v9, zi v10, zi v11, zu, zu] [] σ Q := by
    intro h1 h3
    have s7 : -2147483648 ≤ v11 + 1 ∧ v11 + 1 < (2147483648 : Int) := k7 h1 h3
    refine z_iincN (ls' := [zr 98, zi v1, zi v2, zi v3, zi v4, zi v5, zi v6, zi v7, zi v8, zi v9, zi v10, zi (v11 + 1), zu, zu]) dX12_plan_267 rfl (by decide) s7 rfl ?_
    refine z_goto dX12_plan_270 (tgt := 79) (by decide) ?_
    exact k8 h1 h3
  refine z_iload dX12_plan_79 rfl ?_
  refine z_iconst dX12_plan_81 (by unfold zIn; decide) ?_
  refine z_aload_n dX12_plan_82 rfl rfl ?_
  refine z_getfI (k := 5) flRX12_415 rfl rfl dX12_plan_83 ?_
  refine z_ishl dX12_plan_86 ?_
  refine z_icmp_ge dX12_plan_87 (tgt := 273) (by decide) (fun h1 => ?_) (fun h1 => ?_)
  · skip
    refine z_iload dX12_plan_273 rfl ?_
    refine z_if_ne dX12_plan_275 (tgt := 285) (by decide) (fun h2 => ?_) (fun h2 => ?_)
    · skip
      refine z_aload_n dX12_plan_285 rfl rfl ?_
      refine z_iconst dX12_plan_286 (by unfold zIn; decide) ?_
      refine z_putZ (k := 99) fpRX12_490 rfl rfl (by decide) dX12_plan_287 ?_
      refine z_aload_n dX12_plan_290 rfl rfl ?_
      refine z_iload dX12_plan_291 rfl ?_
      refine z_putI (k := 100) fpRX12_493 rfl rfl dX12_plan_293 ?_
      refine z_aload_n dX12_plan_296 rfl rfl ?_
      refine z_getfR (k := 102) flRX12_241 rfl rfl dX12_plan_297 ?_
      refine z_iconst dX12_plan_300 (by unfold zIn; decide) ?_
      refine z_iload dX12_plan_301 rfl ?_
      refine z_iast rfl (by decide) (by decide) dX12_plan_303 ?_
      refine z_aload_n dX12_plan_304 rfl rfl ?_
      refine z_getfR (k := 102) flRX12_241 rfl rfl dX12_plan_305 ?_
      refine z_iconst dX12_plan_308 (by unfold zIn; decide) ?_
      refine z_iload dX12_plan_309 rfl ?_
      refine z_iast rfl (by decide) (by decide) dX12_plan_311 ?_
      refine z_aload_n dX12_plan_312 rfl rfl ?_
      refine z_aload_n dX12_plan_313 rfl rfl ?_
      refine z_getfI (k := 10) flRX12_471 rfl rfl dX12_plan_314 ?_
      refine z_putI (k := 101) fpRX12_496 rfl rfl dX12_plan_317 ?_
      refine z_iload dX12_plan_320 rfl ?_
      exact z_ireti rfl dX12_plan_322 (k1 h1 h2)
    · skip
      refine z_aload_n dX12_plan_278 rfl rfl ?_
      refine z_bipush (x := (-6)) dX12_plan_279 (by decide +kernel) (by unfold zIn; decide) ?_
      have s2 : -2147483648 ≤ -(-6) ∧ -(-6) < (2147483648 : Int) := k2 h1 h2
      have s3 : (0 : Int) ≤ -(-6) ∧ -(-6) < (8 : Int) := k3 h1 h2
      have s4 : -2147483648 ≤ (σ 157 (-(-6))) + 1 ∧ (σ 157 (-(-6))) + 1 < (2147483648 : Int) := k4 h1 h2
      refine z_callv (as := [zi (-6)]) (st := []) mkX12_no lkRX12_267 rfl rfl rfl (by decide) (Nat.le_of_ble_eq_true rfl) rfl dX12_plan_281 ?_
      refine SX12_no s2 s3 s4 ?_
      show zR G MX12_plan 284 [zr 98, zi v1, zi v2, zi v3, zi v4, zi v5, zi v6, zi v7, zi v8, zi v9, zi v10, zi v11, zu, zu] [zi (-6)] (zup σ 157 (-(-6)) ((σ 157 (-(-6))) + 1)) Q
      exact z_ireti rfl dX12_plan_284 (k5 h1 h2)
  · skip
    refine z_iload dX12_plan_90 rfl ?_
    refine z_iload dX12_plan_92 rfl ?_
    refine z_iconst dX12_plan_94 (by unfold zIn; decide) ?_
    refine z_ixor dX12_plan_95 ?_
    refine z_iand dX12_plan_96 ?_
    refine z_if_eq dX12_plan_97 (tgt := 103) (by decide) (fun h3 => ?_) (fun h3 => ?_)
    · skip
      refine z_iconst dX12_plan_103 (by unfold zIn; decide) ?_
      refine z_istore (ls' := [zr 98, zi v1, zi v2, zi v3, zi v4, zi v5, zi v6, zi v7, zi v8, zi v9, zi v10, zi v11, zi 0, zu]) dX12_plan_104 (by decide) rfl ?_
      exact k6 h1 h3
    · skip
      refine z_goto dX12_plan_100 (tgt := 267) (by decide) ?_
      exact J267 h1 h3
set_option maxRecDepth 20000 in
set_option maxHeartbeats 1000000 in
theorem TX12_plan_106 {G : zG} {σ : zS} {Q : Int → zS → Prop} {v1 v2 v3 v4 v5 v6 v7 v8 v9 v10 v11 v12 : Int}  (k1 : (σ 98 10 ≤ 0) → (v12 < 1) → zR G MX12_plan 127 [zr 98, zi v1, zi v2, zi v3, zi v4, zi v5, zi v6, zi v7, zi v8, zi v9, zi v10, zi v11, zi v12, zi 0] [] σ Q) (k2 : (0 < σ 98 10) → (v12 < v10) → zR G MX12_plan 127 [zr 98, zi v1, zi v2, zi v3, zi v4, zi v5, zi v6, zi v7, zi v8, zi v9, zi v10, zi v11, zi v12, zi 0] [] σ Q) (k3 : ((σ 98 10 ≤ 0 ∧ 1 ≤ v12) ∨ (0 < σ 98 10 ∧ v10 ≤ v12)) → -2147483648 ≤ v11 + 1 ∧ v11 + 1 < (2147483648 : Int)) (k4 : ((σ 98 10 ≤ 0 ∧ 1 ≤ v12) ∨ (0 < σ 98 10 ∧ v10 ≤ v12)) → zR G MX12_plan 79 [zr 98, zi v1, zi v2, zi v3, zi v4, zi v5, zi v6, zi v7, zi v8, zi v9, zi v10, zi (v11 + 1), zu, zu] [] σ Q) : zR G MX12_plan 106 [zr 98, zi v1, zi v2, zi v3, zi v4, zi v5, zi v6, zi v7, zi v8, zi v9, zi v10, zi v11, zi v12, zu] [] σ Q := by
  have J267 : ((σ 98 10 ≤ 0 ∧ 1 ≤ v12) ∨ (0 < σ 98 10 ∧ v10 ≤ v12)) → zR G MX12_plan 267 [zr 98, zi v1, zi v2, zi v3, zi v4, zi v5, zi v6, zi v7, zi v8, zi v9, zi v10, zi v11, zi v12, zu] [] σ Q := by
    intro h4
    have s3 : -2147483648 ≤ v11 + 1 ∧ v11 + 1 < (2147483648 : Int) := k3 h4
    refine z_iincN (ls' := [zr 98, zi v1, zi v2, zi v3, zi v4, zi v5, zi v6, zi v7, zi v8, zi v9, zi v10, zi (v11 + 1), zi v12, zu]) dX12_plan_267 rfl (by decide) s3 rfl ?_
    refine z_goto dX12_plan_270 (tgt := 79) (by decide) ?_
    exact zR_fg [false, false, false, false, false, false, false, false, false, false, false, false, true, false] (k4 h4)
  refine z_iload dX12_plan_106 rfl ?_
  refine z_aload_n dX12_plan_108 rfl rfl ?_
  refine z_getfI (k := 10) flRX12_471 rfl rfl dX12_plan_109 ?_
  refine z_if_le dX12_plan_112 (tgt := 120) (by decide) (fun h1 => ?_) (fun h1 => ?_)
  · skip
    refine z_iconst dX12_plan_120 (by unfold zIn; decide) ?_
    refine z_icmp_ge dX12_plan_121 (tgt := 267) (by decide) (fun h2 => ?_) (fun h2 => ?_)
    · skip
      exact J267 (Or.inl ⟨h1, h2⟩)
    · skip
      refine z_iconst dX12_plan_124 (by unfold zIn; decide) ?_
      refine z_istore (ls' := [zr 98, zi v1, zi v2, zi v3, zi v4, zi v5, zi v6, zi v7, zi v8, zi v9, zi v10, zi v11, zi v12, zi 0]) dX12_plan_125 (by decide) rfl ?_
      exact k1 h1 h2
  · skip
    refine z_iload dX12_plan_115 rfl ?_
    refine z_goto dX12_plan_117 (tgt := 121) (by decide) ?_
    refine z_icmp_ge dX12_plan_121 (tgt := 267) (by decide) (fun h3 => ?_) (fun h3 => ?_)
    · skip
      exact J267 (Or.inr ⟨h1, h3⟩)
    · skip
      refine z_iconst dX12_plan_124 (by unfold zIn; decide) ?_
      refine z_istore (ls' := [zr 98, zi v1, zi v2, zi v3, zi v4, zi v5, zi v6, zi v7, zi v8, zi v9, zi v10, zi v11, zi v12, zi 0]) dX12_plan_125 (by decide) rfl ?_
      exact k2 h1 h3
set_option maxRecDepth 20000 in
set_option maxHeartbeats 1000000 in
theorem TX12_plan_127 {G : zG} {σ : zS} {Q : Int → zS → Prop} {v1 v2 v3 v4 v5 v6 v7 v8 v9 v10 v11 v12 v13 : Int}  (k1 : (σ 98 10 ≤ 1) → (1 ≤ v13) → -2147483648 ≤ v12 + 1 ∧ v12 + 1 < (2147483648 : Int)) (k2 : (σ 98 10 ≤ 1) → (1 ≤ v13) → zR G MX12_plan 106 [zr 98, zi v1, zi v2, zi v3, zi v4, zi v5, zi v6, zi v7, zi v8, zi v9, zi v10, zi v11, zi (v12 + 1), zu] [] σ Q) (k3 : (σ 98 10 ≤ 1) → (v13 < 1) → (σ 98 10 ≤ 0) → ((zup σ 175 0 (-1)) 98 10 ≤ 1) → zO G MX12_holds_ [zr 98, zi v11, zi v1, zi v2, zi v3] (zup (zup σ 175 0 (-1)) 175 1 (-1)) (fun rr σ' => zR G MX12_plan 206 [zr 98, zi v1, zi v2, zi v3, zi v4, zi v5, zi v6, zi v7, zi v8, zi v9, zi v10, zi v11, zi v12, zi v13] [zi rr] σ' Q)) (k4 : (σ 98 10 ≤ 1) → (v13 < 1) → (σ 98 10 ≤ 0) → (1 < (zup σ 175 0 (-1)) 98 10) → (v1 ≤ v13) → zO G MX12_holds_ [zr 98, zi v11, zi v1, zi v2, zi v3] (zup (zup σ 175 0 (-1)) 175 1 (-1)) (fun rr σ' => zR G MX12_plan 206 [zr 98, zi v1, zi v2, zi v3, zi v4, zi v5, zi v6, zi v7, zi v8, zi v9, zi v10, zi v11, zi v12, zi v13] [zi rr] σ' Q)) (k5 : (σ 98 10 ≤ 1) → (v13 < 1) → (σ 98 10 ≤ 0) → (1 < (zup σ 175 0 (-1)) 98 10) → (v13 < v1) → zO G MX12_holds_ [zr 98, zi v11, zi v1, zi v2, zi v3] (zup (zup σ 175 0 (-1)) 175 1 v13) (fun rr σ' => zR G MX12_plan 206 [zr 98, zi v1, zi v2, zi v3, zi v4, zi v5, zi v6, zi v7, zi v8, zi v9, zi v10, zi v11, zi v12, zi v13] [zi rr] σ' Q)) (k6 : (σ 98 10 ≤ 1) → (v13 < 1) → (0 < σ 98 10) → (v1 ≤ v12) → ((zup σ 175 0 (-1)) 98 10 ≤ 1) → zO G MX12_holds_ [zr 98, zi v11, zi v1, zi v2, zi v3] (zup (zup σ 175 0 (-1)) 175 1 (-1)) (fun rr σ' => zR G MX12_plan 206 [zr 98, zi v1, zi v2, zi v3, zi v4, zi v5, zi v6, zi v7, zi v8, zi v9, zi v10, zi v11, zi v12, zi v13] [zi rr] σ' Q)) (k7 : (σ 98 10 ≤ 1) → (v13 < 1) → (0 < σ 98 10) → (v1 ≤ v12) → (1 < (zup σ 175 0 (-1)) 98 10) → (v1 ≤ v13) → zO G MX12_holds_ [zr 98, zi v11, zi v1, zi v2, zi v3] (zup (zup σ 175 0 (-1)) 175 1 (-1)) (fun rr σ' => zR G MX12_plan 206 [zr 98, zi v1, zi v2, zi v3, zi v4, zi v5, zi v6, zi v7, zi v8, zi v9, zi v10, zi v11, zi v12, zi v13] [zi rr] σ' Q)) (k8 : (σ 98 10 ≤ 1) → (v13 < 1) → (0 < σ 98 10) → (v1 ≤ v12) → (1 < (zup σ 175 0 (-1)) 98 10) → (v13 < v1) → zO G MX12_holds_ [zr 98, zi v11, zi v1, zi v2, zi v3] (zup (zup σ 175 0 (-1)) 175 1 v13) (fun rr σ' => zR G MX12_plan 206 [zr 98, zi v1, zi v2, zi v3, zi v4, zi v5, zi v6, zi v7, zi v8, zi v9, zi v10, zi v11, zi v12, zi v13] [zi rr] σ' Q)) (k9 : (σ 98 10 ≤ 1) → (v13 < 1) → (0 < σ 98 10) → (v12 < v1) → ((zup σ 175 0 v12) 98 10 ≤ 1) → zO G MX12_holds_ [zr 98, zi v11, zi v1, zi v2, zi v3] (zup (zup σ 175 0 v12) 175 1 (-1)) (fun rr σ' => zR G MX12_plan 206 [zr 98, zi v1, zi v2, zi v3, zi v4, zi v5, zi v6, zi v7, zi v8, zi v9, zi v10, zi v11, zi v12, zi v13] [zi rr] σ' Q)) (k10 : (σ 98 10 ≤ 1) → (v13 < 1) → (0 < σ 98 10) → (v12 < v1) → (1 < (zup σ 175 0 v12) 98 10) → (v1 ≤ v13) → zO G MX12_holds_ [zr 98, zi v11, zi v1, zi v2, zi v3] (zup (zup σ 175 0 v12) 175 1 (-1)) (fun rr σ' => zR G MX12_plan 206 [zr 98, zi v1, zi v2, zi v3, zi v4, zi v5, zi v6, zi v7, zi v8, zi v9, zi v10, zi v11, zi v12, zi v13] [zi rr] σ' Q)) (k11 : (σ 98 10 ≤ 1) → (v13 < 1) → (0 < σ 98 10) → (v12 < v1) → (1 < (zup σ 175 0 v12) 98 10) → (v13 < v1) → zO G MX12_holds_ [zr 98, zi v11, zi v1, zi v2, zi v3] (zup (zup σ 175 0 v12) 175 1 v13) (fun rr σ' => zR G MX12_plan 206 [zr 98, zi v1, zi v2, zi v3, zi v4, zi v5, zi v6, zi v7, zi v8, zi v9, zi v10, zi v11, zi v12, zi v13] [zi rr] σ' Q)) (k12 : (1 < σ 98 10) → (v10 ≤ v13) → -2147483648 ≤ v12 + 1 ∧ v12 + 1 < (2147483648 : Int)) (k13 : (1 < σ 98 10) → (v10 ≤ v13) → zR G MX12_plan 106 [zr 98, zi v1, zi v2, zi v3, zi v4, zi v5, zi v6, zi v7, zi v8, zi v9, zi v10, zi v11, zi (v12 + 1), zu] [] σ Q) (k14 : (1 < σ 98 10) → (v13 < v10) → (σ 98 10 ≤ 0) → ((zup σ 175 0 (-1)) 98 10 ≤ 1) → zO G MX12_holds_ [zr 98, zi v11, zi v1, zi v2, zi v3] (zup (zup σ 175 0 (-1)) 175 1 (-1)) (fun rr σ' => zR G MX12_plan 206 [zr 98, zi v1, zi v2, zi v3, zi v4, zi v5, zi v6, zi v7, zi v8, zi v9, zi v10, zi v11, zi v12, zi v13] [zi rr] σ' Q)) (k15 : (1 < σ 98 10) → (v13 < v10) → (σ 98 10 ≤ 0) → (1 < (zup σ 175 0 (-1)) 98 10) → (v1 ≤ v13) → zO G MX12_holds_ [zr 98, zi v11, zi v1, zi v2, zi v3] (zup (zup σ 175 0 (-1)) 175 1 (-1)) (fun rr σ' => zR G MX12_plan 206 [zr 98, zi v1, zi v2, zi v3, zi v4, zi v5, zi v6, zi v7, zi v8, zi v9, zi v10, zi v11, zi v12, zi v13] [zi rr] σ' Q)) (k16 : (1 < σ 98 10) → (v13 < v10) → (σ 98 10 ≤ 0) → (1 < (zup σ 175 0 (-1)) 98 10) → (v13 < v1) → zO G MX12_holds_ [zr 98, zi v11, zi v1, zi v2, zi v3] (zup (zup σ 175 0 (-1)) 175 1 v13) (fun rr σ' => zR G MX12_plan 206 [zr 98, zi v1, zi v2, zi v3, zi v4, zi v5, zi v6, zi v7, zi v8, zi v9, zi v10, zi v11, zi v12, zi v13] [zi rr] σ' Q)) (k17 : (1 < σ 98 10) → (v13 < v10) → (0 < σ 98 10) → (v1 ≤ v12) → ((zup σ 175 0 (-1)) 98 10 ≤ 1) → zO G MX12_holds_ [zr 98, zi v11, zi v1, zi v2, zi v3] (zup (zup σ 175 0 (-1)) 175 1 (-1)) (fun rr σ' => zR G MX12_plan 206 [zr 98, zi v1, zi v2, zi v3, zi v4, zi v5, zi v6, zi v7, zi v8, zi v9, zi v10, zi v11, zi v12, zi v13] [zi rr] σ' Q)) (k18 : (1 < σ 98 10) → (v13 < v10) → (0 < σ 98 10) → (v1 ≤ v12) → (1 < (zup σ 175 0 (-1)) 98 10) → (v1 ≤ v13) → zO G MX12_holds_ [zr 98, zi v11, zi v1, zi v2, zi v3] (zup (zup σ 175 0 (-1)) 175 1 (-1)) (fun rr σ' => zR G MX12_plan 206 [zr 98, zi v1, zi v2, zi v3, zi v4, zi v5, zi v6, zi v7, zi v8, zi v9, zi v10, zi v11, zi v12, zi v13] [zi rr] σ' Q)) (k19 : (1 < σ 98 10) → (v13 < v10) → (0 < σ 98 10) → (v1 ≤ v12) → (1 < (zup σ 175 0 (-1)) 98 10) → (v13 < v1) → zO G MX12_holds_ [zr 98, zi v11, zi v1, zi v2, zi v3] (zup (zup σ 175 0 (-1)) 175 1 v13) (fun rr σ' => zR G MX12_plan 206 [zr 98, zi v1, zi v2, zi v3, zi v4, zi v5, zi v6, zi v7, zi v8, zi v9, zi v10, zi v11, zi v12, zi v13] [zi rr] σ' Q)) (k20 : (1 < σ 98 10) → (v13 < v10) → (0 < σ 98 10) → (v12 < v1) → ((zup σ 175 0 v12) 98 10 ≤ 1) → zO G MX12_holds_ [zr 98, zi v11, zi v1, zi v2, zi v3] (zup (zup σ 175 0 v12) 175 1 (-1)) (fun rr σ' => zR G MX12_plan 206 [zr 98, zi v1, zi v2, zi v3, zi v4, zi v5, zi v6, zi v7, zi v8, zi v9, zi v10, zi v11, zi v12, zi v13] [zi rr] σ' Q)) (k21 : (1 < σ 98 10) → (v13 < v10) → (0 < σ 98 10) → (v12 < v1) → (1 < (zup σ 175 0 v12) 98 10) → (v1 ≤ v13) → zO G MX12_holds_ [zr 98, zi v11, zi v1, zi v2, zi v3] (zup (zup σ 175 0 v12) 175 1 (-1)) (fun rr σ' => zR G MX12_plan 206 [zr 98, zi v1, zi v2, zi v3, zi v4, zi v5, zi v6, zi v7, zi v8, zi v9, zi v10, zi v11, zi v12, zi v13] [zi rr] σ' Q)) (k22 : (1 < σ 98 10) → (v13 < v10) → (0 < σ 98 10) → (v12 < v1) → (1 < (zup σ 175 0 v12) 98 10) → (v13 < v1) → zO G MX12_holds_ [zr 98, zi v11, zi v1, zi v2, zi v3] (zup (zup σ 175 0 v12) 175 1 v13) (fun rr σ' => zR G MX12_plan 206 [zr 98, zi v1, zi v2, zi v3, zi v4, zi v5, zi v6, zi v7, zi v8, zi v9, zi v10, zi v11, zi v12, zi v13] [zi rr] σ' Q)) : zR G MX12_plan 127 [zr 98, zi v1, zi v2, zi v3, zi v4, zi v5, zi v6, zi v7, zi v8, zi v9, zi v10, zi v11, zi v12, zi v13] [] σ Q := by
  refine z_iload dX12_plan_127 rfl ?_
  refine z_aload_n dX12_plan_129 rfl rfl ?_
  refine z_getfI (k := 10) flRX12_471 rfl rfl dX12_plan_130 ?_
  refine z_iconst dX12_plan_133 (by unfold zIn; decide) ?_
  refine z_icmp_le dX12_plan_134 (tgt := 142) (by decide) (fun h1 => ?_) (fun h1 => ?_)
  · skip
    refine z_iconst dX12_plan_142 (by unfold zIn; decide) ?_
    refine z_icmp_ge dX12_plan_143 (tgt := 261) (by decide) (fun h2 => ?_) (fun h2 => ?_)
    · skip
      have s1 : -2147483648 ≤ v12 + 1 ∧ v12 + 1 < (2147483648 : Int) := k1 h1 h2
      refine z_iincN (ls' := [zr 98, zi v1, zi v2, zi v3, zi v4, zi v5, zi v6, zi v7, zi v8, zi v9, zi v10, zi v11, zi (v12 + 1), zi v13]) dX12_plan_261 rfl (by decide) s1 rfl ?_
      refine z_goto dX12_plan_264 (tgt := 106) (by decide) ?_
      exact zR_fg [false, false, false, false, false, false, false, false, false, false, false, false, false, true] (k2 h1 h2)
    · skip
      refine z_aload_n dX12_plan_146 rfl rfl ?_
      refine z_getfR (k := 103) flRX12_244 rfl rfl dX12_plan_147 ?_
      refine z_iconst dX12_plan_150 (by unfold zIn; decide) ?_
      refine z_aload_n dX12_plan_151 rfl rfl ?_
      refine z_getfI (k := 10) flRX12_471 rfl rfl dX12_plan_152 ?_
      refine z_if_le dX12_plan_155 (tgt := 169) (by decide) (fun h3 => ?_) (fun h3 => ?_)
      · skip
        refine z_iconst dX12_plan_169 (by unfold zIn; decide) ?_
        refine z_iast rfl (by decide) (by decide) dX12_plan_170 ?_
        refine z_aload_n dX12_plan_171 rfl rfl ?_
        refine z_getfR (k := 103) flRX12_244 rfl rfl dX12_plan_172 ?_
        refine z_iconst dX12_plan_175 (by unfold zIn; decide) ?_
        refine z_aload_n dX12_plan_176 rfl rfl ?_
        refine z_getfI (k := 10) flRX12_471 rfl rfl dX12_plan_177 ?_
        refine z_iconst dX12_plan_180 (by unfold zIn; decide) ?_
        refine z_icmp_le dX12_plan_181 (tgt := 195) (by decide) (fun h4 => ?_) (fun h4 => ?_)
        · skip
          refine z_iconst dX12_plan_195 (by unfold zIn; decide) ?_
          refine z_iast rfl (by decide) (by decide) dX12_plan_196 ?_
          refine z_aload_n dX12_plan_197 rfl rfl ?_
          refine z_iload dX12_plan_198 rfl ?_
          refine z_iload_n dX12_plan_200 rfl rfl ?_
          refine z_iload_n dX12_plan_201 rfl rfl ?_
          refine z_iload_n dX12_plan_202 rfl rfl ?_
          refine z_callv (as := [zi v11, zi v1, zi v2, zi v3]) (st := []) mkX12_holds_ lkRX12_487 rfl rfl rfl (by decide) (Nat.le_of_ble_eq_true rfl) rfl dX12_plan_203 (k3 h1 h2 h3 h4)
        · skip
          refine z_iload dX12_plan_184 rfl ?_
          refine z_iload_n dX12_plan_186 rfl rfl ?_
          refine z_icmp_ge dX12_plan_187 (tgt := 195) (by decide) (fun h5 => ?_) (fun h5 => ?_)
          · skip
            refine z_iconst dX12_plan_195 (by unfold zIn; decide) ?_
            refine z_iast rfl (by decide) (by decide) dX12_plan_196 ?_
            refine z_aload_n dX12_plan_197 rfl rfl ?_
            refine z_iload dX12_plan_198 rfl ?_
            refine z_iload_n dX12_plan_200 rfl rfl ?_
            refine z_iload_n dX12_plan_201 rfl rfl ?_
            refine z_iload_n dX12_plan_202 rfl rfl ?_
            refine z_callv (as := [zi v11, zi v1, zi v2, zi v3]) (st := []) mkX12_holds_ lkRX12_487 rfl rfl rfl (by decide) (Nat.le_of_ble_eq_true rfl) rfl dX12_plan_203 (k4 h1 h2 h3 h4 h5)
          · skip
            refine z_iload dX12_plan_190 rfl ?_
            refine z_goto dX12_plan_192 (tgt := 196) (by decide) ?_
            refine z_iast rfl (by decide) (by decide) dX12_plan_196 ?_
            refine z_aload_n dX12_plan_197 rfl rfl ?_
            refine z_iload dX12_plan_198 rfl ?_
            refine z_iload_n dX12_plan_200 rfl rfl ?_
            refine z_iload_n dX12_plan_201 rfl rfl ?_
            refine z_iload_n dX12_plan_202 rfl rfl ?_
            refine z_callv (as := [zi v11, zi v1, zi v2, zi v3]) (st := []) mkX12_holds_ lkRX12_487 rfl rfl rfl (by decide) (Nat.le_of_ble_eq_true rfl) rfl dX12_plan_203 (k5 h1 h2 h3 h4 h5)
      · skip
        refine z_iload dX12_plan_158 rfl ?_
        refine z_iload_n dX12_plan_160 rfl rfl ?_
        refine z_icmp_ge dX12_plan_161 (tgt := 169) (by decide) (fun h6 => ?_) (fun h6 => ?_)
        · skip
          refine z_iconst dX12_plan_169 (by unfold zIn; decide) ?_
          refine z_iast rfl (by decide) (by decide) dX12_plan_170 ?_
          refine z_aload_n dX12_plan_171 rfl rfl ?_
          refine z_getfR (k := 103) flRX12_244 rfl rfl dX12_plan_172 ?_
          refine z_iconst dX12_plan_175 (by unfold zIn; decide) ?_
          refine z_aload_n dX12_plan_176 rfl rfl ?_
          refine z_getfI (k := 10) flRX12_471 rfl rfl dX12_plan_177 ?_
          refine z_iconst dX12_plan_180 (by unfold zIn; decide) ?_
          refine z_icmp_le dX12_plan_181 (tgt := 195) (by decide) (fun h7 => ?_) (fun h7 => ?_)
          · skip
            refine z_iconst dX12_plan_195 (by unfold zIn; decide) ?_
            refine z_iast rfl (by decide) (by decide) dX12_plan_196 ?_
            refine z_aload_n dX12_plan_197 rfl rfl ?_
            refine z_iload dX12_plan_198 rfl ?_
            refine z_iload_n dX12_plan_200 rfl rfl ?_
            refine z_iload_n dX12_plan_201 rfl rfl ?_
            refine z_iload_n dX12_plan_202 rfl rfl ?_
            refine z_callv (as := [zi v11, zi v1, zi v2, zi v3]) (st := []) mkX12_holds_ lkRX12_487 rfl rfl rfl (by decide) (Nat.le_of_ble_eq_true rfl) rfl dX12_plan_203 (k6 h1 h2 h3 h6 h7)
          · skip
            refine z_iload dX12_plan_184 rfl ?_
            refine z_iload_n dX12_plan_186 rfl rfl ?_
            refine z_icmp_ge dX12_plan_187 (tgt := 195) (by decide) (fun h8 => ?_) (fun h8 => ?_)
            · skip
              refine z_iconst dX12_plan_195 (by unfold zIn; decide) ?_
              refine z_iast rfl (by decide) (by decide) dX12_plan_196 ?_
              refine z_aload_n dX12_plan_197 rfl rfl ?_
              refine z_iload dX12_plan_198 rfl ?_
              refine z_iload_n dX12_plan_200 rfl rfl ?_
              refine z_iload_n dX12_plan_201 rfl rfl ?_
              refine z_iload_n dX12_plan_202 rfl rfl ?_
              refine z_callv (as := [zi v11, zi v1, zi v2, zi v3]) (st := []) mkX12_holds_ lkRX12_487 rfl rfl rfl (by decide) (Nat.le_of_ble_eq_true rfl) rfl dX12_plan_203 (k7 h1 h2 h3 h6 h7 h8)
            · skip
              refine z_iload dX12_plan_190 rfl ?_
              refine z_goto dX12_plan_192 (tgt := 196) (by decide) ?_
              refine z_iast rfl (by decide) (by decide) dX12_plan_196 ?_
              refine z_aload_n dX12_plan_197 rfl rfl ?_
              refine z_iload dX12_plan_198 rfl ?_
              refine z_iload_n dX12_plan_200 rfl rfl ?_
              refine z_iload_n dX12_plan_201 rfl rfl ?_
              refine z_iload_n dX12_plan_202 rfl rfl ?_
              refine z_callv (as := [zi v11, zi v1, zi v2, zi v3]) (st := []) mkX12_holds_ lkRX12_487 rfl rfl rfl (by decide) (Nat.le_of_ble_eq_true rfl) rfl dX12_plan_203 (k8 h1 h2 h3 h6 h7 h8)
        · skip
          refine z_iload dX12_plan_164 rfl ?_
          refine z_goto dX12_plan_166 (tgt := 170) (by decide) ?_
          refine z_iast rfl (by decide) (by decide) dX12_plan_170 ?_
          refine z_aload_n dX12_plan_171 rfl rfl ?_
          refine z_getfR (k := 103) flRX12_244 rfl rfl dX12_plan_172 ?_
          refine z_iconst dX12_plan_175 (by unfold zIn; decide) ?_
          refine z_aload_n dX12_plan_176 rfl rfl ?_
          refine z_getfI (k := 10) flRX12_471 rfl rfl dX12_plan_177 ?_
          refine z_iconst dX12_plan_180 (by unfold zIn; decide) ?_
          refine z_icmp_le dX12_plan_181 (tgt := 195) (by decide) (fun h9 => ?_) (fun h9 => ?_)
          · skip
            refine z_iconst dX12_plan_195 (by unfold zIn; decide) ?_
            refine z_iast rfl (by decide) (by decide) dX12_plan_196 ?_
            refine z_aload_n dX12_plan_197 rfl rfl ?_
            refine z_iload dX12_plan_198 rfl ?_
            refine z_iload_n dX12_plan_200 rfl rfl ?_
            refine z_iload_n dX12_plan_201 rfl rfl ?_
            refine z_iload_n dX12_plan_202 rfl rfl ?_
            refine z_callv (as := [zi v11, zi v1, zi v2, zi v3]) (st := []) mkX12_holds_ lkRX12_487 rfl rfl rfl (by decide) (Nat.le_of_ble_eq_true rfl) rfl dX12_plan_203 (k9 h1 h2 h3 h6 h9)
          · skip
            refine z_iload dX12_plan_184 rfl ?_
            refine z_iload_n dX12_plan_186 rfl rfl ?_
            refine z_icmp_ge dX12_plan_187 (tgt := 195) (by decide) (fun h10 => ?_) (fun h10 => ?_)
            · skip
              refine z_iconst dX12_plan_195 (by unfold zIn; decide) ?_
              refine z_iast rfl (by decide) (by decide) dX12_plan_196 ?_
              refine z_aload_n dX12_plan_197 rfl rfl ?_
              refine z_iload dX12_plan_198 rfl ?_
              refine z_iload_n dX12_plan_200 rfl rfl ?_
              refine z_iload_n dX12_plan_201 rfl rfl ?_
              refine z_iload_n dX12_plan_202 rfl rfl ?_
              refine z_callv (as := [zi v11, zi v1, zi v2, zi v3]) (st := []) mkX12_holds_ lkRX12_487 rfl rfl rfl (by decide) (Nat.le_of_ble_eq_true rfl) rfl dX12_plan_203 (k10 h1 h2 h3 h6 h9 h10)
            · skip
              refine z_iload dX12_plan_190 rfl ?_
              refine z_goto dX12_plan_192 (tgt := 196) (by decide) ?_
              refine z_iast rfl (by decide) (by decide) dX12_plan_196 ?_
              refine z_aload_n dX12_plan_197 rfl rfl ?_
              refine z_iload dX12_plan_198 rfl ?_
              refine z_iload_n dX12_plan_200 rfl rfl ?_
              refine z_iload_n dX12_plan_201 rfl rfl ?_
              refine z_iload_n dX12_plan_202 rfl rfl ?_
              refine z_callv (as := [zi v11, zi v1, zi v2, zi v3]) (st := []) mkX12_holds_ lkRX12_487 rfl rfl rfl (by decide) (Nat.le_of_ble_eq_true rfl) rfl dX12_plan_203 (k11 h1 h2 h3 h6 h9 h10)
  · skip
    refine z_iload dX12_plan_137 rfl ?_
    refine z_goto dX12_plan_139 (tgt := 143) (by decide) ?_
    refine z_icmp_ge dX12_plan_143 (tgt := 261) (by decide) (fun h11 => ?_) (fun h11 => ?_)
    · skip
      have s12 : -2147483648 ≤ v12 + 1 ∧ v12 + 1 < (2147483648 : Int) := k12 h1 h11
      refine z_iincN (ls' := [zr 98, zi v1, zi v2, zi v3, zi v4, zi v5, zi v6, zi v7, zi v8, zi v9, zi v10, zi v11, zi (v12 + 1), zi v13]) dX12_plan_261 rfl (by decide) s12 rfl ?_
      refine z_goto dX12_plan_264 (tgt := 106) (by decide) ?_
      exact zR_fg [false, false, false, false, false, false, false, false, false, false, false, false, false, true] (k13 h1 h11)
    · skip
      refine z_aload_n dX12_plan_146 rfl rfl ?_
      refine z_getfR (k := 103) flRX12_244 rfl rfl dX12_plan_147 ?_
      refine z_iconst dX12_plan_150 (by unfold zIn; decide) ?_
      refine z_aload_n dX12_plan_151 rfl rfl ?_
      refine z_getfI (k := 10) flRX12_471 rfl rfl dX12_plan_152 ?_
      refine z_if_le dX12_plan_155 (tgt := 169) (by decide) (fun h12 => ?_) (fun h12 => ?_)
      · skip
        refine z_iconst dX12_plan_169 (by unfold zIn; decide) ?_
        refine z_iast rfl (by decide) (by decide) dX12_plan_170 ?_
        refine z_aload_n dX12_plan_171 rfl rfl ?_
        refine z_getfR (k := 103) flRX12_244 rfl rfl dX12_plan_172 ?_
        refine z_iconst dX12_plan_175 (by unfold zIn; decide) ?_
        refine z_aload_n dX12_plan_176 rfl rfl ?_
        refine z_getfI (k := 10) flRX12_471 rfl rfl dX12_plan_177 ?_
        refine z_iconst dX12_plan_180 (by unfold zIn; decide) ?_
        refine z_icmp_le dX12_plan_181 (tgt := 195) (by decide) (fun h13 => ?_) (fun h13 => ?_)
        · skip
          refine z_iconst dX12_plan_195 (by unfold zIn; decide) ?_
          refine z_iast rfl (by decide) (by decide) dX12_plan_196 ?_
          refine z_aload_n dX12_plan_197 rfl rfl ?_
          refine z_iload dX12_plan_198 rfl ?_
          refine z_iload_n dX12_plan_200 rfl rfl ?_
          refine z_iload_n dX12_plan_201 rfl rfl ?_
          refine z_iload_n dX12_plan_202 rfl rfl ?_
          refine z_callv (as := [zi v11, zi v1, zi v2, zi v3]) (st := []) mkX12_holds_ lkRX12_487 rfl rfl rfl (by decide) (Nat.le_of_ble_eq_true rfl) rfl dX12_plan_203 (k14 h1 h11 h12 h13)
        · skip
          refine z_iload dX12_plan_184 rfl ?_
          refine z_iload_n dX12_plan_186 rfl rfl ?_
          refine z_icmp_ge dX12_plan_187 (tgt := 195) (by decide) (fun h14 => ?_) (fun h14 => ?_)
          · skip
            refine z_iconst dX12_plan_195 (by unfold zIn; decide) ?_
            refine z_iast rfl (by decide) (by decide) dX12_plan_196 ?_
            refine z_aload_n dX12_plan_197 rfl rfl ?_
            refine z_iload dX12_plan_198 rfl ?_
            refine z_iload_n dX12_plan_200 rfl rfl ?_
            refine z_iload_n dX12_plan_201 rfl rfl ?_
            refine z_iload_n dX12_plan_202 rfl rfl ?_
            refine z_callv (as := [zi v11, zi v1, zi v2, zi v3]) (st := []) mkX12_holds_ lkRX12_487 rfl rfl rfl (by decide) (Nat.le_of_ble_eq_true rfl) rfl dX12_plan_203 (k15 h1 h11 h12 h13 h14)
          · skip
            refine z_iload dX12_plan_190 rfl ?_
            refine z_goto dX12_plan_192 (tgt := 196) (by decide) ?_
            refine z_iast rfl (by decide) (by decide) dX12_plan_196 ?_
            refine z_aload_n dX12_plan_197 rfl rfl ?_
            refine z_iload dX12_plan_198 rfl ?_
            refine z_iload_n dX12_plan_200 rfl rfl ?_
            refine z_iload_n dX12_plan_201 rfl rfl ?_
            refine z_iload_n dX12_plan_202 rfl rfl ?_
            refine z_callv (as := [zi v11, zi v1, zi v2, zi v3]) (st := []) mkX12_holds_ lkRX12_487 rfl rfl rfl (by decide) (Nat.le_of_ble_eq_true rfl) rfl dX12_plan_203 (k16 h1 h11 h12 h13 h14)
      · skip
        refine z_iload dX12_plan_158 rfl ?_
        refine z_iload_n dX12_plan_160 rfl rfl ?_
        refine z_icmp_ge dX12_plan_161 (tgt := 169) (by decide) (fun h15 => ?_) (fun h15 => ?_)
        · skip
          refine z_iconst dX12_plan_169 (by unfold zIn; decide) ?_
          refine z_iast rfl (by decide) (by decide) dX12_plan_170 ?_
          refine z_aload_n dX12_plan_171 rfl rfl ?_
          refine z_getfR (k := 103) flRX12_244 rfl rfl dX12_plan_172 ?_
          refine z_iconst dX12_plan_175 (by unfold zIn; decide) ?_
          refine z_aload_n dX12_plan_176 rfl rfl ?_
          refine z_getfI (k := 10) flRX12_471 rfl rfl dX12_plan_177 ?_
          refine z_iconst dX12_plan_180 (by unfold zIn; decide) ?_
          refine z_icmp_le dX12_plan_181 (tgt := 195) (by decide) (fun h16 => ?_) (fun h16 => ?_)
          · skip
            refine z_iconst dX12_plan_195 (by unfold zIn; decide) ?_
            refine z_iast rfl (by decide) (by decide) dX12_plan_196 ?_
            refine z_aload_n dX12_plan_197 rfl rfl ?_
            refine z_iload dX12_plan_198 rfl ?_
            refine z_iload_n dX12_plan_200 rfl rfl ?_
            refine z_iload_n dX12_plan_201 rfl rfl ?_
            refine z_iload_n dX12_plan_202 rfl rfl ?_
            refine z_callv (as := [zi v11, zi v1, zi v2, zi v3]) (st := []) mkX12_holds_ lkRX12_487 rfl rfl rfl (by decide) (Nat.le_of_ble_eq_true rfl) rfl dX12_plan_203 (k17 h1 h11 h12 h15 h16)
          · skip
            refine z_iload dX12_plan_184 rfl ?_
            refine z_iload_n dX12_plan_186 rfl rfl ?_
            refine z_icmp_ge dX12_plan_187 (tgt := 195) (by decide) (fun h17 => ?_) (fun h17 => ?_)
            · skip
              refine z_iconst dX12_plan_195 (by unfold zIn; decide) ?_
              refine z_iast rfl (by decide) (by decide) dX12_plan_196 ?_
              refine z_aload_n dX12_plan_197 rfl rfl ?_
              refine z_iload dX12_plan_198 rfl ?_
              refine z_iload_n dX12_plan_200 rfl rfl ?_
              refine z_iload_n dX12_plan_201 rfl rfl ?_
              refine z_iload_n dX12_plan_202 rfl rfl ?_
              refine z_callv (as := [zi v11, zi v1, zi v2, zi v3]) (st := []) mkX12_holds_ lkRX12_487 rfl rfl rfl (by decide) (Nat.le_of_ble_eq_true rfl) rfl dX12_plan_203 (k18 h1 h11 h12 h15 h16 h17)
            · skip
              refine z_iload dX12_plan_190 rfl ?_
              refine z_goto dX12_plan_192 (tgt := 196) (by decide) ?_
              refine z_iast rfl (by decide) (by decide) dX12_plan_196 ?_
              refine z_aload_n dX12_plan_197 rfl rfl ?_
              refine z_iload dX12_plan_198 rfl ?_
              refine z_iload_n dX12_plan_200 rfl rfl ?_
              refine z_iload_n dX12_plan_201 rfl rfl ?_
              refine z_iload_n dX12_plan_202 rfl rfl ?_
              refine z_callv (as := [zi v11, zi v1, zi v2, zi v3]) (st := []) mkX12_holds_ lkRX12_487 rfl rfl rfl (by decide) (Nat.le_of_ble_eq_true rfl) rfl dX12_plan_203 (k19 h1 h11 h12 h15 h16 h17)
        · skip
          refine z_iload dX12_plan_164 rfl ?_
          refine z_goto dX12_plan_166 (tgt := 170) (by decide) ?_
          refine z_iast rfl (by decide) (by decide) dX12_plan_170 ?_
          refine z_aload_n dX12_plan_171 rfl rfl ?_
          refine z_getfR (k := 103) flRX12_244 rfl rfl dX12_plan_172 ?_
          refine z_iconst dX12_plan_175 (by unfold zIn; decide) ?_
          refine z_aload_n dX12_plan_176 rfl rfl ?_
          refine z_getfI (k := 10) flRX12_471 rfl rfl dX12_plan_177 ?_
          refine z_iconst dX12_plan_180 (by unfold zIn; decide) ?_
          refine z_icmp_le dX12_plan_181 (tgt := 195) (by decide) (fun h18 => ?_) (fun h18 => ?_)
          · skip
            refine z_iconst dX12_plan_195 (by unfold zIn; decide) ?_
            refine z_iast rfl (by decide) (by decide) dX12_plan_196 ?_
            refine z_aload_n dX12_plan_197 rfl rfl ?_
            refine z_iload dX12_plan_198 rfl ?_
            refine z_iload_n dX12_plan_200 rfl rfl ?_
            refine z_iload_n dX12_plan_201 rfl rfl ?_
            refine z_iload_n dX12_plan_202 rfl rfl ?_
            refine z_callv (as := [zi v11, zi v1, zi v2, zi v3]) (st := []) mkX12_holds_ lkRX12_487 rfl rfl rfl (by decide) (Nat.le_of_ble_eq_true rfl) rfl dX12_plan_203 (k20 h1 h11 h12 h15 h18)
          · skip
            refine z_iload dX12_plan_184 rfl ?_
            refine z_iload_n dX12_plan_186 rfl rfl ?_
            refine z_icmp_ge dX12_plan_187 (tgt := 195) (by decide) (fun h19 => ?_) (fun h19 => ?_)
            · skip
              refine z_iconst dX12_plan_195 (by unfold zIn; decide) ?_
              refine z_iast rfl (by decide) (by decide) dX12_plan_196 ?_
              refine z_aload_n dX12_plan_197 rfl rfl ?_
              refine z_iload dX12_plan_198 rfl ?_
              refine z_iload_n dX12_plan_200 rfl rfl ?_
              refine z_iload_n dX12_plan_201 rfl rfl ?_
              refine z_iload_n dX12_plan_202 rfl rfl ?_
              refine z_callv (as := [zi v11, zi v1, zi v2, zi v3]) (st := []) mkX12_holds_ lkRX12_487 rfl rfl rfl (by decide) (Nat.le_of_ble_eq_true rfl) rfl dX12_plan_203 (k21 h1 h11 h12 h15 h18 h19)
            · skip
              refine z_iload dX12_plan_190 rfl ?_
              refine z_goto dX12_plan_192 (tgt := 196) (by decide) ?_
              refine z_iast rfl (by decide) (by decide) dX12_plan_196 ?_
              refine z_aload_n dX12_plan_197 rfl rfl ?_
              refine z_iload dX12_plan_198 rfl ?_
              refine z_iload_n dX12_plan_200 rfl rfl ?_
              refine z_iload_n dX12_plan_201 rfl rfl ?_
              refine z_iload_n dX12_plan_202 rfl rfl ?_
              refine z_callv (as := [zi v11, zi v1, zi v2, zi v3]) (st := []) mkX12_holds_ lkRX12_487 rfl rfl rfl (by decide) (Nat.le_of_ble_eq_true rfl) rfl dX12_plan_203 (k22 h1 h11 h12 h15 h18 h19)
set_option maxRecDepth 20000 in
set_option maxHeartbeats 1000000 in
theorem TX12_plan_206 {G : zG} {σ : zS} {Q : Int → zS → Prop} {v1 v2 v3 v4 v5 v6 v7 v8 v9 v10 v11 v12 v13 r : Int}  (k1 : (r = 0 ∨ (r ≠ 0 ∧ v5 ≠ 0 ∧ σ 98 105 ≤ v6)) → -2147483648 ≤ v13 + 1 ∧ v13 + 1 < (2147483648 : Int)) (k2 : (r = 0 ∨ (r ≠ 0 ∧ v5 ≠ 0 ∧ σ 98 105 ≤ v6)) → zR G MX12_plan 127 [zr 98, zi v1, zi v2, zi v3, zi v4, zi v5, zi v6, zi v7, zi v8, zi v9, zi v10, zi v11, zi v12, zi (v13 + 1)] [] σ Q) (k3 : (r ≠ 0) → (v5 = 0 ∨ (v5 ≠ 0 ∧ v6 < σ 98 105)) → -2147483648 ≤ v13 + 1 ∧ v13 + 1 < (2147483648 : Int)) (k4 : (r ≠ 0) → (v5 = 0 ∨ (v5 ≠ 0 ∧ v6 < σ 98 105)) → zR G MX12_plan 127 [zr 98, zi v1, zi v2, zi v3, zi v4, zi 1, zi (σ 98 105), zi v11, zi (σ 175 0), zi (σ 175 1), zi v10, zi v11, zi v12, zi (v13 + 1)] [] σ Q) : zR G MX12_plan 206 [zr 98, zi v1, zi v2, zi v3, zi v4, zi v5, zi v6, zi v7, zi v8, zi v9, zi v10, zi v11, zi v12, zi v13] [zi r] σ Q := by
  have J255_1 : (r ≠ 0) → (v5 = 0 ∨ (v5 ≠ 0 ∧ v6 < σ 98 105)) → zR G MX12_plan 255 [zr 98, zi v1, zi v2, zi v3, zi v4, zi 1, zi (σ 98 105), zi v11, zi (σ 175 0), zi (σ 175 1), zi v10, zi v11, zi v12, zi v13] [] σ Q := by
    intro h1 h4
    have s3 : -2147483648 ≤ v13 + 1 ∧ v13 + 1 < (2147483648 : Int) := k3 h1 h4
    refine z_iincN (ls' := [zr 98, zi v1, zi v2, zi v3, zi v4, zi 1, zi (σ 98 105), zi v11, zi (σ 175 0), zi (σ 175 1), zi v10, zi v11, zi v12, zi (v13 + 1)]) dX12_plan_255 rfl (by decide) s3 rfl ?_
    refine z_goto dX12_plan_258 (tgt := 127) (by decide) ?_
    exact k4 h1 h4
  have J255 : (r = 0 ∨ (r ≠ 0 ∧ v5 ≠ 0 ∧ σ 98 105 ≤ v6)) → zR G MX12_plan 255 [zr 98, zi v1, zi v2, zi v3, zi v4, zi v5, zi v6, zi v7, zi v8, zi v9, zi v10, zi v11, zi v12, zi v13] [] σ Q := by
    intro h5
    have s1 : -2147483648 ≤ v13 + 1 ∧ v13 + 1 < (2147483648 : Int) := k1 h5
    refine z_iincN (ls' := [zr 98, zi v1, zi v2, zi v3, zi v4, zi v5, zi v6, zi v7, zi v8, zi v9, zi v10, zi v11, zi v12, zi (v13 + 1)]) dX12_plan_255 rfl (by decide) s1 rfl ?_
    refine z_goto dX12_plan_258 (tgt := 127) (by decide) ?_
    exact k2 h5
  have J226 : (r ≠ 0) → (v5 = 0 ∨ (v5 ≠ 0 ∧ v6 < σ 98 105)) → zR G MX12_plan 226 [zr 98, zi v1, zi v2, zi v3, zi v4, zi v5, zi v6, zi v7, zi v8, zi v9, zi v10, zi v11, zi v12, zi v13] [] σ Q := by
    intro h1 h4
    refine z_iconst dX12_plan_226 (by unfold zIn; decide) ?_
    refine z_istore (ls' := [zr 98, zi v1, zi v2, zi v3, zi v4, zi 1, zi v6, zi v7, zi v8, zi v9, zi v10, zi v11, zi v12, zi v13]) dX12_plan_227 (by decide) rfl ?_
    refine z_aload_n dX12_plan_229 rfl rfl ?_
    refine z_getfI (k := 105) flRX12_477 rfl rfl dX12_plan_230 ?_
    refine z_istore (ls' := [zr 98, zi v1, zi v2, zi v3, zi v4, zi 1, zi (σ 98 105), zi v7, zi v8, zi v9, zi v10, zi v11, zi v12, zi v13]) dX12_plan_233 (by decide) rfl ?_
    refine z_iload dX12_plan_235 rfl ?_
    refine z_istore (ls' := [zr 98, zi v1, zi v2, zi v3, zi v4, zi 1, zi (σ 98 105), zi v11, zi v8, zi v9, zi v10, zi v11, zi v12, zi v13]) dX12_plan_237 (by decide) rfl ?_
    refine z_aload_n dX12_plan_239 rfl rfl ?_
    refine z_getfR (k := 103) flRX12_244 rfl rfl dX12_plan_240 ?_
    refine z_iconst dX12_plan_243 (by unfold zIn; decide) ?_
    refine z_iald rfl (by decide) (by decide) dX12_plan_244 ?_
    refine z_istore (ls' := [zr 98, zi v1, zi v2, zi v3, zi v4, zi 1, zi (σ 98 105), zi v11, zi (σ 175 0), zi v9, zi v10, zi v11, zi v12, zi v13]) dX12_plan_245 (by decide) rfl ?_
    refine z_aload_n dX12_plan_247 rfl rfl ?_
    refine z_getfR (k := 103) flRX12_244 rfl rfl dX12_plan_248 ?_
    refine z_iconst dX12_plan_251 (by unfold zIn; decide) ?_
    refine z_iald rfl (by decide) (by decide) dX12_plan_252 ?_
    refine z_istore (ls' := [zr 98, zi v1, zi v2, zi v3, zi v4, zi 1, zi (σ 98 105), zi v11, zi (σ 175 0), zi (σ 175 1), zi v10, zi v11, zi v12, zi v13]) dX12_plan_253 (by decide) rfl ?_
    exact J255_1 h1 h4
  refine z_if_eq dX12_plan_206 (tgt := 255) (by decide) (fun h1 => ?_) (fun h1 => ?_)
  · skip
    exact J255 (Or.inl h1)
  · skip
    refine z_iload dX12_plan_209 rfl ?_
    refine z_if_eq dX12_plan_211 (tgt := 226) (by decide) (fun h2 => ?_) (fun h2 => ?_)
    · skip
      exact J226 h1 (Or.inl h2)
    · skip
      refine z_aload_n dX12_plan_214 rfl rfl ?_
      refine z_getfI (k := 105) flRX12_477 rfl rfl dX12_plan_215 ?_
      refine z_iload dX12_plan_218 rfl ?_
      refine z_icmp_gt dX12_plan_220 (tgt := 226) (by decide) (fun h3 => ?_) (fun h3 => ?_)
      · skip
        exact J226 h1 (Or.inr ⟨h2, h3⟩)
      · skip
        refine z_goto dX12_plan_223 (tgt := 255) (by decide) ?_
        exact J255 (Or.inr ⟨h1, h2, h3⟩)
set_option maxRecDepth 20000 in
set_option maxHeartbeats 1000000 in
theorem TX12_planned {G : zG} {σ : zS} {Q : Int → zS → Prop} {a1 : Int}  (k1 : (σ 98 99 ≠ 0) → (0 ≤ a1) → (a1 ≤ σ 98 101) → (a1 ≠ 0) → -2147483648 ≤ a1 - 1 ∧ a1 - 1 < (2147483648 : Int)) (k2 : (σ 98 99 ≠ 0) → (0 ≤ a1) → (a1 ≤ σ 98 101) → (a1 ≠ 0) → (0 : Int) ≤ a1 - 1 ∧ a1 - 1 < (2 : Int)) (k3 : (σ 98 99 ≠ 0) → (0 ≤ a1) → (a1 ≤ σ 98 101) → (a1 ≠ 0) → Q (σ 174 (a1 - 1)) σ) (k4 : (σ 98 99 ≠ 0) → (0 ≤ a1) → (a1 ≤ σ 98 101) → (a1 = 0) → Q (σ 98 100) σ) (k5 : (σ 98 99 = 0 ∨ (σ 98 99 ≠ 0 ∧ a1 < 0) ∨ (σ 98 99 ≠ 0 ∧ 0 ≤ a1 ∧ σ 98 101 < a1)) → Q (-1) σ) : zO G MX12_planned [zr 98, zi a1] σ Q := by
  refine zO_of (ls0 := [zr 98, zi a1]) (by decide) (Nat.le_of_ble_eq_true rfl) rfl ?_
  have J19 : (σ 98 99 = 0 ∨ (σ 98 99 ≠ 0 ∧ a1 < 0) ∨ (σ 98 99 ≠ 0 ∧ 0 ≤ a1 ∧ σ 98 101 < a1)) → zR G MX12_planned 19 [zr 98, zi a1] [] σ Q := by
    intro h5
    refine z_iconst dX12_planned_19 (by unfold zIn; decide) ?_
    exact z_ireti rfl dX12_planned_20 (k5 h5)
  refine z_aload_n dX12_planned_0 rfl rfl ?_
  refine z_getfI (k := 99) flRX12_490 rfl rfl dX12_planned_1 ?_
  refine z_if_eq dX12_planned_4 (tgt := 19) (by decide) (fun h1 => ?_) (fun h1 => ?_)
  · skip
    exact J19 (Or.inl h1)
  · skip
    refine z_iload_n dX12_planned_7 rfl rfl ?_
    refine z_if_lt dX12_planned_8 (tgt := 19) (by decide) (fun h2 => ?_) (fun h2 => ?_)
    · skip
      exact J19 (Or.inr (Or.inl ⟨h1, h2⟩))
    · skip
      refine z_iload_n dX12_planned_11 rfl rfl ?_
      refine z_aload_n dX12_planned_12 rfl rfl ?_
      refine z_getfI (k := 101) flRX12_496 rfl rfl dX12_planned_13 ?_
      refine z_icmp_le dX12_planned_16 (tgt := 21) (by decide) (fun h3 => ?_) (fun h3 => ?_)
      · skip
        refine z_iload_n dX12_planned_21 rfl rfl ?_
        refine z_if_ne dX12_planned_22 (tgt := 32) (by decide) (fun h4 => ?_) (fun h4 => ?_)
        · skip
          refine z_aload_n dX12_planned_32 rfl rfl ?_
          refine z_getfR (k := 102) flRX12_241 rfl rfl dX12_planned_33 ?_
          refine z_iload_n dX12_planned_36 rfl rfl ?_
          refine z_iconst dX12_planned_37 (by unfold zIn; decide) ?_
          have s1 : -2147483648 ≤ a1 - 1 ∧ a1 - 1 < (2147483648 : Int) := k1 h1 h2 h3 h4
          refine z_isubN dX12_planned_38 s1 ?_
          have s2 : (0 : Int) ≤ a1 - 1 ∧ a1 - 1 < (2 : Int) := k2 h1 h2 h3 h4
          refine z_iald rfl s2.1 s2.2 dX12_planned_39 ?_
          exact z_ireti rfl dX12_planned_40 (k3 h1 h2 h3 h4)
        · skip
          refine z_aload_n dX12_planned_25 rfl rfl ?_
          refine z_getfI (k := 100) flRX12_493 rfl rfl dX12_planned_26 ?_
          refine z_goto dX12_planned_29 (tgt := 40) (by decide) ?_
          exact z_ireti rfl dX12_planned_40 (k4 h1 h2 h3 h4)
      · skip
        exact J19 (Or.inr (Or.inr ⟨h1, h2, h3⟩))
set_option maxRecDepth 20000 in
set_option maxHeartbeats 1000000 in
theorem TX12_judge {G : zG} {σ : zS} {Q : Int → zS → Prop} {a1 a2 a3 a4 : Int}  (k1 : zO G MX12_wants [zr 98, zi a1] σ (fun rr σ' => zR G MX12_judge 5 [zr 98, zi a1, zi a2, zi a3, zi a4, zu, zu, zu] [zi rr] σ' Q)) : zO G MX12_judge [zr 98, zi a1, zi a2, zi a3, zi a4] σ Q := by
  refine zO_of (ls0 := [zr 98, zi a1, zi a2, zi a3, zi a4, zu, zu, zu]) (by decide) (Nat.le_of_ble_eq_true rfl) rfl ?_
  refine z_aload_n dX12_judge_0 rfl rfl ?_
  refine z_iload_n dX12_judge_1 rfl rfl ?_
  refine z_callv (as := [zi a1]) (st := []) mkX12_wants lkRX12_300 rfl rfl rfl (by decide) (Nat.le_of_ble_eq_true rfl) rfl dX12_judge_2 (k1)
set_option maxRecDepth 20000 in
set_option maxHeartbeats 1000000 in
theorem TX12_judge_5 {G : zG} {σ : zS} {Q : Int → zS → Prop} {v1 v2 v3 v4 r : Int}  (k1 : (r = 0) → (0 : Int) ≤ v1 ∧ v1 < (10 : Int)) (k2 : (r = 0) → -2147483648 ≤ 1 + σ 98 10 ∧ 1 + σ 98 10 < (2147483648 : Int)) (k3 : (r = 0) → (1 + σ 98 10 ≤ σ 113 v1) → zO G MX12_isPlan [zi v2, zi v3, zi v4] σ (fun rr σ' => zR G MX12_judge 48 [zr 98, zi v1, zi v2, zi v3, zi v4, zi r, zu, zu] [zi rr] σ' Q)) (k4 : (r = 0) → (σ 113 v1 < 1 + σ 98 10) → -2147483648 ≤ -(-5) ∧ -(-5) < (2147483648 : Int)) (k5 : (r = 0) → (σ 113 v1 < 1 + σ 98 10) → (0 : Int) ≤ -(-5) ∧ -(-5) < (8 : Int)) (k6 : (r = 0) → (σ 113 v1 < 1 + σ 98 10) → -2147483648 ≤ (σ 157 (-(-5))) + 1 ∧ (σ 157 (-(-5))) + 1 < (2147483648 : Int)) (k7 : (r = 0) → (σ 113 v1 < 1 + σ 98 10) → Q (-5) (zup σ 157 (-(-5)) ((σ 157 (-(-5))) + 1))) (k8 : (r ≠ 0) → -2147483648 ≤ -r ∧ -r < (2147483648 : Int)) (k9 : (r ≠ 0) → (0 : Int) ≤ -r ∧ -r < (8 : Int)) (k10 : (r ≠ 0) → -2147483648 ≤ (σ 157 (-r)) + 1 ∧ (σ 157 (-r)) + 1 < (2147483648 : Int)) (k11 : (r ≠ 0) → Q r (zup σ 157 (-r) ((σ 157 (-r)) + 1))) : zR G MX12_judge 5 [zr 98, zi v1, zi v2, zi v3, zi v4, zu, zu, zu] [zi r] σ Q := by
  refine z_istore (ls' := [zr 98, zi v1, zi v2, zi v3, zi v4, zi r, zu, zu]) dX12_judge_5 (by decide) rfl ?_
  refine z_iload dX12_judge_7 rfl ?_
  refine z_if_eq dX12_judge_9 (tgt := 19) (by decide) (fun h1 => ?_) (fun h1 => ?_)
  · skip
    refine z_aload_n dX12_judge_19 rfl rfl ?_
    refine z_getfR (k := 27) flRX12_57 rfl rfl dX12_judge_20 ?_
    refine z_iload_n dX12_judge_23 rfl rfl ?_
    have s1 : (0 : Int) ≤ v1 ∧ v1 < (10 : Int) := k1 h1
    refine z_iald rfl s1.1 s1.2 dX12_judge_24 ?_
    refine z_iconst dX12_judge_25 (by unfold zIn; decide) ?_
    refine z_aload_n dX12_judge_26 rfl rfl ?_
    refine z_getfI (k := 10) flRX12_471 rfl rfl dX12_judge_27 ?_
    have s2 : -2147483648 ≤ 1 + σ 98 10 ∧ 1 + σ 98 10 < (2147483648 : Int) := k2 h1
    refine z_iaddN dX12_judge_30 s2 ?_
    refine z_icmp_ge dX12_judge_31 (tgt := 41) (by decide) (fun h2 => ?_) (fun h2 => ?_)
    · skip
      refine z_iload_n dX12_judge_41 rfl rfl ?_
      refine z_iload_n dX12_judge_42 rfl rfl ?_
      refine z_iload dX12_judge_43 rfl ?_
      refine z_calls (as := [zi v2, zi v3, zi v4]) (st := []) mkX12_isPlan lkRX12_480 rfl (by decide) (Nat.le_of_ble_eq_true rfl) rfl dX12_judge_45 (k3 h1 h2)
    · skip
      refine z_aload_n dX12_judge_34 rfl rfl ?_
      refine z_bipush (x := (-5)) dX12_judge_35 (by decide +kernel) (by unfold zIn; decide) ?_
      have s4 : -2147483648 ≤ -(-5) ∧ -(-5) < (2147483648 : Int) := k4 h1 h2
      have s5 : (0 : Int) ≤ -(-5) ∧ -(-5) < (8 : Int) := k5 h1 h2
      have s6 : -2147483648 ≤ (σ 157 (-(-5))) + 1 ∧ (σ 157 (-(-5))) + 1 < (2147483648 : Int) := k6 h1 h2
      refine z_callv (as := [zi (-5)]) (st := []) mkX12_no lkRX12_267 rfl rfl rfl (by decide) (Nat.le_of_ble_eq_true rfl) rfl dX12_judge_37 ?_
      refine SX12_no s4 s5 s6 ?_
      show zR G MX12_judge 40 [zr 98, zi v1, zi v2, zi v3, zi v4, zi r, zu, zu] [zi (-5)] (zup σ 157 (-(-5)) ((σ 157 (-(-5))) + 1)) Q
      exact z_ireti rfl dX12_judge_40 (k7 h1 h2)
  · skip
    refine z_aload_n dX12_judge_12 rfl rfl ?_
    refine z_iload dX12_judge_13 rfl ?_
    have s8 : -2147483648 ≤ -r ∧ -r < (2147483648 : Int) := k8 h1
    have s9 : (0 : Int) ≤ -r ∧ -r < (8 : Int) := k9 h1
    have s10 : -2147483648 ≤ (σ 157 (-r)) + 1 ∧ (σ 157 (-r)) + 1 < (2147483648 : Int) := k10 h1
    refine z_callv (as := [zi r]) (st := []) mkX12_no lkRX12_267 rfl rfl rfl (by decide) (Nat.le_of_ble_eq_true rfl) rfl dX12_judge_15 ?_
    refine SX12_no s8 s9 s10 ?_
    show zR G MX12_judge 18 [zr 98, zi v1, zi v2, zi v3, zi v4, zi r, zu, zu] [zi r] (zup σ 157 (-r) ((σ 157 (-r)) + 1)) Q
    exact z_ireti rfl dX12_judge_18 (k11 h1)
set_option maxRecDepth 20000 in
set_option maxHeartbeats 1000000 in
theorem TX12_judge_48 {G : zG} {σ : zS} {Q : Int → zS → Prop} {v1 v2 v3 v4 v5 r : Int}  (k1 : (r ≠ 0) → -2147483648 ≤ 80 * v1 ∧ 80 * v1 < (2147483648 : Int)) (k2 : (r ≠ 0) → (0 : Int) ≤ 80 * v1 ∧ 80 * v1 < (800 : Int)) (k3 : (r ≠ 0) → (0 ≤ zW (σ 115 (80 * v1))) → (zW (σ 115 (80 * v1)) < zshl 1 (σ 98 5)) → zR G MX12_judge 96 [zr 98, zi v1, zi v2, zi v3, zi v4, zi v5, zi (zW (σ 115 (80 * v1))), zi 0] [] σ Q) (k4 : (r = 0) → -2147483648 ≤ -(-6) ∧ -(-6) < (2147483648 : Int)) (k5 : (r = 0) → (0 : Int) ≤ -(-6) ∧ -(-6) < (8 : Int)) (k6 : (r = 0) → -2147483648 ≤ (σ 157 (-(-6))) + 1 ∧ (σ 157 (-(-6))) + 1 < (2147483648 : Int)) (k7 : (r = 0) → Q (-6) (zup σ 157 (-(-6)) ((σ 157 (-(-6))) + 1))) (k8 : (r ≠ 0) → (zW (σ 115 (80 * v1)) < 0 ∨ (0 ≤ zW (σ 115 (80 * v1)) ∧ zshl 1 (σ 98 5) ≤ zW (σ 115 (80 * v1)))) → -2147483648 ≤ -(-6) ∧ -(-6) < (2147483648 : Int)) (k9 : (r ≠ 0) → (zW (σ 115 (80 * v1)) < 0 ∨ (0 ≤ zW (σ 115 (80 * v1)) ∧ zshl 1 (σ 98 5) ≤ zW (σ 115 (80 * v1)))) → (0 : Int) ≤ -(-6) ∧ -(-6) < (8 : Int)) (k10 : (r ≠ 0) → (zW (σ 115 (80 * v1)) < 0 ∨ (0 ≤ zW (σ 115 (80 * v1)) ∧ zshl 1 (σ 98 5) ≤ zW (σ 115 (80 * v1)))) → -2147483648 ≤ (σ 157 (-(-6))) + 1 ∧ (σ 157 (-(-6))) + 1 < (2147483648 : Int)) (k11 : (r ≠ 0) → (zW (σ 115 (80 * v1)) < 0 ∨ (0 ≤ zW (σ 115 (80 * v1)) ∧ zshl 1 (σ 98 5) ≤ zW (σ 115 (80 * v1)))) → Q (-6) (zup σ 157 (-(-6)) ((σ 157 (-(-6))) + 1))) : zR G MX12_judge 48 [zr 98, zi v1, zi v2, zi v3, zi v4, zi v5, zu, zu] [zi r] σ Q := by
  have J86 : (r ≠ 0) → (zW (σ 115 (80 * v1)) < 0 ∨ (0 ≤ zW (σ 115 (80 * v1)) ∧ zshl 1 (σ 98 5) ≤ zW (σ 115 (80 * v1)))) → zR G MX12_judge 86 [zr 98, zi v1, zi v2, zi v3, zi v4, zi v5, zi (zW (σ 115 (80 * v1))), zu] [] σ Q := by
    intro h1 h4
    refine z_aload_n dX12_judge_86 rfl rfl ?_
    refine z_bipush (x := (-6)) dX12_judge_87 (by decide +kernel) (by unfold zIn; decide) ?_
    have s8 : -2147483648 ≤ -(-6) ∧ -(-6) < (2147483648 : Int) := k8 h1 h4
    have s9 : (0 : Int) ≤ -(-6) ∧ -(-6) < (8 : Int) := k9 h1 h4
    have s10 : -2147483648 ≤ (σ 157 (-(-6))) + 1 ∧ (σ 157 (-(-6))) + 1 < (2147483648 : Int) := k10 h1 h4
    refine z_callv (as := [zi (-6)]) (st := []) mkX12_no lkRX12_267 rfl rfl rfl (by decide) (Nat.le_of_ble_eq_true rfl) rfl dX12_judge_89 ?_
    refine SX12_no s8 s9 s10 ?_
    show zR G MX12_judge 92 [zr 98, zi v1, zi v2, zi v3, zi v4, zi v5, zi (zW (σ 115 (80 * v1))), zu] [zi (-6)] (zup σ 157 (-(-6)) ((σ 157 (-(-6))) + 1)) Q
    exact z_ireti rfl dX12_judge_92 (k11 h1 h4)
  refine z_if_ne dX12_judge_48 (tgt := 58) (by decide) (fun h1 => ?_) (fun h1 => ?_)
  · skip
    refine z_aload_n dX12_judge_58 rfl rfl ?_
    refine z_getfR (k := 29) flRX12_63 rfl rfl dX12_judge_59 ?_
    refine z_bipush (x := 80) dX12_judge_62 (by decide +kernel) (by unfold zIn; decide) ?_
    refine z_iload_n dX12_judge_64 rfl rfl ?_
    have s1 : -2147483648 ≤ 80 * v1 ∧ 80 * v1 < (2147483648 : Int) := k1 h1
    refine z_imulN dX12_judge_65 s1 ?_
    have s2 : (0 : Int) ≤ 80 * v1 ∧ 80 * v1 < (800 : Int) := k2 h1
    refine z_lald rfl s2.1 s2.2 dX12_judge_66 ?_
    refine z_l2i dX12_judge_67 ?_
    refine z_istore (ls' := [zr 98, zi v1, zi v2, zi v3, zi v4, zi v5, zi (zW (σ 115 (80 * v1))), zu]) dX12_judge_68 (by decide) rfl ?_
    refine z_iload dX12_judge_70 rfl ?_
    refine z_if_lt dX12_judge_72 (tgt := 86) (by decide) (fun h2 => ?_) (fun h2 => ?_)
    · skip
      exact J86 h1 (Or.inl h2)
    · skip
      refine z_iload dX12_judge_75 rfl ?_
      refine z_iconst dX12_judge_77 (by unfold zIn; decide) ?_
      refine z_aload_n dX12_judge_78 rfl rfl ?_
      refine z_getfI (k := 5) flRX12_415 rfl rfl dX12_judge_79 ?_
      refine z_ishl dX12_judge_82 ?_
      refine z_icmp_lt dX12_judge_83 (tgt := 93) (by decide) (fun h3 => ?_) (fun h3 => ?_)
      · skip
        refine z_iconst dX12_judge_93 (by unfold zIn; decide) ?_
        refine z_istore (ls' := [zr 98, zi v1, zi v2, zi v3, zi v4, zi v5, zi (zW (σ 115 (80 * v1))), zi 0]) dX12_judge_94 (by decide) rfl ?_
        exact k3 h1 h2 h3
      · skip
        exact J86 h1 (Or.inr ⟨h2, h3⟩)
  · skip
    refine z_aload_n dX12_judge_51 rfl rfl ?_
    refine z_bipush (x := (-6)) dX12_judge_52 (by decide +kernel) (by unfold zIn; decide) ?_
    have s4 : -2147483648 ≤ -(-6) ∧ -(-6) < (2147483648 : Int) := k4 h1
    have s5 : (0 : Int) ≤ -(-6) ∧ -(-6) < (8 : Int) := k5 h1
    have s6 : -2147483648 ≤ (σ 157 (-(-6))) + 1 ∧ (σ 157 (-(-6))) + 1 < (2147483648 : Int) := k6 h1
    refine z_callv (as := [zi (-6)]) (st := []) mkX12_no lkRX12_267 rfl rfl rfl (by decide) (Nat.le_of_ble_eq_true rfl) rfl dX12_judge_54 ?_
    refine SX12_no s4 s5 s6 ?_
    show zR G MX12_judge 57 [zr 98, zi v1, zi v2, zi v3, zi v4, zi v5, zu, zu] [zi (-6)] (zup σ 157 (-(-6)) ((σ 157 (-(-6))) + 1)) Q
    exact z_ireti rfl dX12_judge_57 (k7 h1)
set_option maxRecDepth 20000 in
set_option maxHeartbeats 1000000 in
theorem TX12_judge_96 {G : zG} {σ : zS} {Q : Int → zS → Prop} {v1 v2 v3 v4 v5 v6 v7 : Int}  (k1 : (σ 98 5 ≤ v7) → zR G MX12_judge 142 [zr 98, zi v1, zi v2, zi v3, zi v4, zi v5, zi v6, zi 0] [] σ Q) (k2 : (v7 < σ 98 5) → (zand (zshr v6 v7) 1 = 1) → zO G MX12_endsIn [zr 98, zi v7, zi v2] σ (fun rr σ' => zR G MX12_judge 123 [zr 98, zi v1, zi v2, zi v3, zi v4, zi v5, zi v6, zi v7] [zi rr] σ' Q)) (k3 : (v7 < σ 98 5) → (zand (zshr v6 v7) 1 ≠ 1) → -2147483648 ≤ v7 + 1 ∧ v7 + 1 < (2147483648 : Int)) (k4 : (v7 < σ 98 5) → (zand (zshr v6 v7) 1 ≠ 1) → zR G MX12_judge 96 [zr 98, zi v1, zi v2, zi v3, zi v4, zi v5, zi v6, zi (v7 + 1)] [] σ Q) : zR G MX12_judge 96 [zr 98, zi v1, zi v2, zi v3, zi v4, zi v5, zi v6, zi v7] [] σ Q := by
  have J133 : (v7 < σ 98 5) → (zand (zshr v6 v7) 1 ≠ 1) → zR G MX12_judge 133 [zr 98, zi v1, zi v2, zi v3, zi v4, zi v5, zi v6, zi v7] [] σ Q := by
    intro h1 h2
    have s3 : -2147483648 ≤ v7 + 1 ∧ v7 + 1 < (2147483648 : Int) := k3 h1 h2
    refine z_iincN (ls' := [zr 98, zi v1, zi v2, zi v3, zi v4, zi v5, zi v6, zi (v7 + 1)]) dX12_judge_133 rfl (by decide) s3 rfl ?_
    refine z_goto dX12_judge_136 (tgt := 96) (by decide) ?_
    exact k4 h1 h2
  refine z_iload dX12_judge_96 rfl ?_
  refine z_aload_n dX12_judge_98 rfl rfl ?_
  refine z_getfI (k := 5) flRX12_415 rfl rfl dX12_judge_99 ?_
  refine z_icmp_ge dX12_judge_102 (tgt := 139) (by decide) (fun h1 => ?_) (fun h1 => ?_)
  · skip
    refine z_iconst dX12_judge_139 (by unfold zIn; decide) ?_
    refine z_istore (ls' := [zr 98, zi v1, zi v2, zi v3, zi v4, zi v5, zi v6, zi 0]) dX12_judge_140 (by decide) rfl ?_
    exact k1 h1
  · skip
    refine z_iload dX12_judge_105 rfl ?_
    refine z_iload dX12_judge_107 rfl ?_
    refine z_ishr dX12_judge_109 ?_
    refine z_iconst dX12_judge_110 (by unfold zIn; decide) ?_
    refine z_iand dX12_judge_111 ?_
    refine z_iconst dX12_judge_112 (by unfold zIn; decide) ?_
    refine z_icmp_ne dX12_judge_113 (tgt := 133) (by decide) (fun h2 => ?_) (fun h2 => ?_)
    · skip
      exact J133 h1 h2
    · skip
      refine z_aload_n dX12_judge_116 rfl rfl ?_
      refine z_iload dX12_judge_117 rfl ?_
      refine z_iload_n dX12_judge_119 rfl rfl ?_
      refine z_callv (as := [zi v7, zi v2]) (st := []) mkX12_endsIn lkRX12_484 rfl rfl rfl (by decide) (Nat.le_of_ble_eq_true rfl) rfl dX12_judge_120 (k2 h1 h2)
set_option maxRecDepth 20000 in
set_option maxHeartbeats 1000000 in
theorem TX12_judge_123 {G : zG} {σ : zS} {Q : Int → zS → Prop} {v1 v2 v3 v4 v5 v6 v7 r : Int}  (k1 : (r = 0) → -2147483648 ≤ -(-6) ∧ -(-6) < (2147483648 : Int)) (k2 : (r = 0) → (0 : Int) ≤ -(-6) ∧ -(-6) < (8 : Int)) (k3 : (r = 0) → -2147483648 ≤ (σ 157 (-(-6))) + 1 ∧ (σ 157 (-(-6))) + 1 < (2147483648 : Int)) (k4 : (r = 0) → Q (-6) (zup σ 157 (-(-6)) ((σ 157 (-(-6))) + 1))) (k5 : (r ≠ 0) → -2147483648 ≤ v7 + 1 ∧ v7 + 1 < (2147483648 : Int)) (k6 : (r ≠ 0) → zR G MX12_judge 96 [zr 98, zi v1, zi v2, zi v3, zi v4, zi v5, zi v6, zi (v7 + 1)] [] σ Q) : zR G MX12_judge 123 [zr 98, zi v1, zi v2, zi v3, zi v4, zi v5, zi v6, zi v7] [zi r] σ Q := by
  have J133 : (r ≠ 0) → zR G MX12_judge 133 [zr 98, zi v1, zi v2, zi v3, zi v4, zi v5, zi v6, zi v7] [] σ Q := by
    intro h1
    have s5 : -2147483648 ≤ v7 + 1 ∧ v7 + 1 < (2147483648 : Int) := k5 h1
    refine z_iincN (ls' := [zr 98, zi v1, zi v2, zi v3, zi v4, zi v5, zi v6, zi (v7 + 1)]) dX12_judge_133 rfl (by decide) s5 rfl ?_
    refine z_goto dX12_judge_136 (tgt := 96) (by decide) ?_
    exact k6 h1
  refine z_if_ne dX12_judge_123 (tgt := 133) (by decide) (fun h1 => ?_) (fun h1 => ?_)
  · skip
    exact J133 h1
  · skip
    refine z_aload_n dX12_judge_126 rfl rfl ?_
    refine z_bipush (x := (-6)) dX12_judge_127 (by decide +kernel) (by unfold zIn; decide) ?_
    have s1 : -2147483648 ≤ -(-6) ∧ -(-6) < (2147483648 : Int) := k1 h1
    have s2 : (0 : Int) ≤ -(-6) ∧ -(-6) < (8 : Int) := k2 h1
    have s3 : -2147483648 ≤ (σ 157 (-(-6))) + 1 ∧ (σ 157 (-(-6))) + 1 < (2147483648 : Int) := k3 h1
    refine z_callv (as := [zi (-6)]) (st := []) mkX12_no lkRX12_267 rfl rfl rfl (by decide) (Nat.le_of_ble_eq_true rfl) rfl dX12_judge_129 ?_
    refine SX12_no s1 s2 s3 ?_
    show zR G MX12_judge 132 [zr 98, zi v1, zi v2, zi v3, zi v4, zi v5, zi v6, zi v7] [zi (-6)] (zup σ 157 (-(-6)) ((σ 157 (-(-6))) + 1)) Q
    exact z_ireti rfl dX12_judge_132 (k4 h1)
set_option maxRecDepth 20000 in
set_option maxHeartbeats 1000000 in
theorem TX12_judge_142 {G : zG} {σ : zS} {Q : Int → zS → Prop} {v1 v2 v3 v4 v5 v6 v7 : Int}  (k1 : (σ 98 10 ≤ v7) → zO G MX12_holds_ [zr 98, zi v6, zi v2, zi v3, zi v4] σ (fun rr σ' => zR G MX12_judge 218 [zr 98, zi v1, zi v2, zi v3, zi v4, zi v5, zi v6, zi v7] [zi rr] σ' Q)) (k2 : (v7 < σ 98 10) → -2147483648 ≤ 80 * v1 ∧ 80 * v1 < (2147483648 : Int)) (k3 : (v7 < σ 98 10) → -2147483648 ≤ (80 * v1) + 1 ∧ (80 * v1) + 1 < (2147483648 : Int)) (k4 : (v7 < σ 98 10) → -2147483648 ≤ ((80 * v1) + 1) + v7 ∧ ((80 * v1) + 1) + v7 < (2147483648 : Int)) (k5 : (v7 < σ 98 10) → (0 : Int) ≤ ((80 * v1) + 1) + v7 ∧ ((80 * v1) + 1) + v7 < (800 : Int)) (k6 : (v7 < σ 98 10) → (0 : Int) ≤ v7 ∧ v7 < (2 : Int)) (k7 : (v7 < σ 98 10) → ((-1) ≤ (zup σ 175 v7 (zW (σ 115 (((80 * v1) + 1) + v7)))) 175 v7) → ((zup σ 175 v7 (zW (σ 115 (((80 * v1) + 1) + v7)))) 175 v7 < v2) → -2147483648 ≤ v7 + 1 ∧ v7 + 1 < (2147483648 : Int)) (k8 : (v7 < σ 98 10) → ((-1) ≤ (zup σ 175 v7 (zW (σ 115 (((80 * v1) + 1) + v7)))) 175 v7) → ((zup σ 175 v7 (zW (σ 115 (((80 * v1) + 1) + v7)))) 175 v7 < v2) → zR G MX12_judge 142 [zr 98, zi v1, zi v2, zi v3, zi v4, zi v5, zi v6, zi (v7 + 1)] [] (zup σ 175 v7 (zW (σ 115 (((80 * v1) + 1) + v7)))) Q) (k9 : (v7 < σ 98 10) → ((zup σ 175 v7 (zW (σ 115 (((80 * v1) + 1) + v7)))) 175 v7 < (-1) ∨ ((-1) ≤ (zup σ 175 v7 (zW (σ 115 (((80 * v1) + 1) + v7)))) 175 v7 ∧ v2 ≤ (zup σ 175 v7 (zW (σ 115 (((80 * v1) + 1) + v7)))) 175 v7)) → -2147483648 ≤ -(-6) ∧ -(-6) < (2147483648 : Int)) (k10 : (v7 < σ 98 10) → ((zup σ 175 v7 (zW (σ 115 (((80 * v1) + 1) + v7)))) 175 v7 < (-1) ∨ ((-1) ≤ (zup σ 175 v7 (zW (σ 115 (((80 * v1) + 1) + v7)))) 175 v7 ∧ v2 ≤ (zup σ 175 v7 (zW (σ 115 (((80 * v1) + 1) + v7)))) 175 v7)) → (0 : Int) ≤ -(-6) ∧ -(-6) < (8 : Int)) (k11 : (v7 < σ 98 10) → ((zup σ 175 v7 (zW (σ 115 (((80 * v1) + 1) + v7)))) 175 v7 < (-1) ∨ ((-1) ≤ (zup σ 175 v7 (zW (σ 115 (((80 * v1) + 1) + v7)))) 175 v7 ∧ v2 ≤ (zup σ 175 v7 (zW (σ 115 (((80 * v1) + 1) + v7)))) 175 v7)) → -2147483648 ≤ ((zup σ 175 v7 (zW (σ 115 (((80 * v1) + 1) + v7)))) 157 (-(-6))) + 1 ∧ ((zup σ 175 v7 (zW (σ 115 (((80 * v1) + 1) + v7)))) 157 (-(-6))) + 1 < (2147483648 : Int)) (k12 : (v7 < σ 98 10) → ((zup σ 175 v7 (zW (σ 115 (((80 * v1) + 1) + v7)))) 175 v7 < (-1) ∨ ((-1) ≤ (zup σ 175 v7 (zW (σ 115 (((80 * v1) + 1) + v7)))) 175 v7 ∧ v2 ≤ (zup σ 175 v7 (zW (σ 115 (((80 * v1) + 1) + v7)))) 175 v7)) → Q (-6) (zup (zup σ 175 v7 (zW (σ 115 (((80 * v1) + 1) + v7)))) 157 (-(-6)) (((zup σ 175 v7 (zW (σ 115 (((80 * v1) + 1) + v7)))) 157 (-(-6))) + 1))) : zR G MX12_judge 142 [zr 98, zi v1, zi v2, zi v3, zi v4, zi v5, zi v6, zi v7] [] σ Q := by
  have J195 : (v7 < σ 98 10) → ((zup σ 175 v7 (zW (σ 115 (((80 * v1) + 1) + v7)))) 175 v7 < (-1) ∨ ((-1) ≤ (zup σ 175 v7 (zW (σ 115 (((80 * v1) + 1) + v7)))) 175 v7 ∧ v2 ≤ (zup σ 175 v7 (zW (σ 115 (((80 * v1) + 1) + v7)))) 175 v7)) → zR G MX12_judge 195 [zr 98, zi v1, zi v2, zi v3, zi v4, zi v5, zi v6, zi v7] [] (zup σ 175 v7 (zW (σ 115 (((80 * v1) + 1) + v7)))) Q := by
    intro h1 h4
    refine z_aload_n dX12_judge_195 rfl rfl ?_
    refine z_bipush (x := (-6)) dX12_judge_196 (by decide +kernel) (by unfold zIn; decide) ?_
    have s9 : -2147483648 ≤ -(-6) ∧ -(-6) < (2147483648 : Int) := k9 h1 h4
    have s10 : (0 : Int) ≤ -(-6) ∧ -(-6) < (8 : Int) := k10 h1 h4
    have s11 : -2147483648 ≤ ((zup σ 175 v7 (zW (σ 115 (((80 * v1) + 1) + v7)))) 157 (-(-6))) + 1 ∧ ((zup σ 175 v7 (zW (σ 115 (((80 * v1) + 1) + v7)))) 157 (-(-6))) + 1 < (2147483648 : Int) := k11 h1 h4
    refine z_callv (as := [zi (-6)]) (st := []) mkX12_no lkRX12_267 rfl rfl rfl (by decide) (Nat.le_of_ble_eq_true rfl) rfl dX12_judge_198 ?_
    refine SX12_no s9 s10 s11 ?_
    show zR G MX12_judge 201 [zr 98, zi v1, zi v2, zi v3, zi v4, zi v5, zi v6, zi v7] [zi (-6)] (zup (zup σ 175 v7 (zW (σ 115 (((80 * v1) + 1) + v7)))) 157 (-(-6)) (((zup σ 175 v7 (zW (σ 115 (((80 * v1) + 1) + v7)))) 157 (-(-6))) + 1)) Q
    exact z_ireti rfl dX12_judge_201 (k12 h1 h4)
  refine z_iload dX12_judge_142 rfl ?_
  refine z_aload_n dX12_judge_144 rfl rfl ?_
  refine z_getfI (k := 10) flRX12_471 rfl rfl dX12_judge_145 ?_
  refine z_icmp_ge dX12_judge_148 (tgt := 208) (by decide) (fun h1 => ?_) (fun h1 => ?_)
  · skip
    refine z_aload_n dX12_judge_208 rfl rfl ?_
    refine z_iload dX12_judge_209 rfl ?_
    refine z_iload_n dX12_judge_211 rfl rfl ?_
    refine z_iload_n dX12_judge_212 rfl rfl ?_
    refine z_iload dX12_judge_213 rfl ?_
    refine z_callv (as := [zi v6, zi v2, zi v3, zi v4]) (st := []) mkX12_holds_ lkRX12_487 rfl rfl rfl (by decide) (Nat.le_of_ble_eq_true rfl) rfl dX12_judge_215 (k1 h1)
  · skip
    refine z_aload_n dX12_judge_151 rfl rfl ?_
    refine z_getfR (k := 103) flRX12_244 rfl rfl dX12_judge_152 ?_
    refine z_iload dX12_judge_155 rfl ?_
    refine z_aload_n dX12_judge_157 rfl rfl ?_
    refine z_getfR (k := 29) flRX12_63 rfl rfl dX12_judge_158 ?_
    refine z_bipush (x := 80) dX12_judge_161 (by decide +kernel) (by unfold zIn; decide) ?_
    refine z_iload_n dX12_judge_163 rfl rfl ?_
    have s2 : -2147483648 ≤ 80 * v1 ∧ 80 * v1 < (2147483648 : Int) := k2 h1
    refine z_imulN dX12_judge_164 s2 ?_
    refine z_iconst dX12_judge_165 (by unfold zIn; decide) ?_
    have s3 : -2147483648 ≤ (80 * v1) + 1 ∧ (80 * v1) + 1 < (2147483648 : Int) := k3 h1
    refine z_iaddN dX12_judge_166 s3 ?_
    refine z_iload dX12_judge_167 rfl ?_
    have s4 : -2147483648 ≤ ((80 * v1) + 1) + v7 ∧ ((80 * v1) + 1) + v7 < (2147483648 : Int) := k4 h1
    refine z_iaddN dX12_judge_169 s4 ?_
    have s5 : (0 : Int) ≤ ((80 * v1) + 1) + v7 ∧ ((80 * v1) + 1) + v7 < (800 : Int) := k5 h1
    refine z_lald rfl s5.1 s5.2 dX12_judge_170 ?_
    refine z_l2i dX12_judge_171 ?_
    have s6 : (0 : Int) ≤ v7 ∧ v7 < (2 : Int) := k6 h1
    refine z_iast rfl s6.1 s6.2 dX12_judge_172 ?_
    refine z_aload_n dX12_judge_173 rfl rfl ?_
    refine z_getfR (k := 103) flRX12_244 rfl rfl dX12_judge_174 ?_
    refine z_iload dX12_judge_177 rfl ?_
    refine z_iald rfl s6.1 s6.2 dX12_judge_179 ?_
    refine z_iconst dX12_judge_180 (by unfold zIn; decide) ?_
    refine z_icmp_lt dX12_judge_181 (tgt := 195) (by decide) (fun h2 => ?_) (fun h2 => ?_)
    · skip
      exact J195 h1 (Or.inl h2)
    · skip
      refine z_aload_n dX12_judge_184 rfl rfl ?_
      refine z_getfR (k := 103) flRX12_244 rfl rfl dX12_judge_185 ?_
      refine z_iload dX12_judge_188 rfl ?_
      refine z_iald rfl s6.1 s6.2 dX12_judge_190 ?_
      refine z_iload_n dX12_judge_191 rfl rfl ?_
      refine z_icmp_lt dX12_judge_192 (tgt := 202) (by decide) (fun h3 => ?_) (fun h3 => ?_)
      · skip
        have s7 : -2147483648 ≤ v7 + 1 ∧ v7 + 1 < (2147483648 : Int) := k7 h1 h2 h3
        refine z_iincN (ls' := [zr 98, zi v1, zi v2, zi v3, zi v4, zi v5, zi v6, zi (v7 + 1)]) dX12_judge_202 rfl (by decide) s7 rfl ?_
        refine z_goto dX12_judge_205 (tgt := 142) (by decide) ?_
        exact k8 h1 h2 h3
      · skip
        exact J195 h1 (Or.inr ⟨h2, h3⟩)
set_option maxRecDepth 20000 in
set_option maxHeartbeats 1000000 in
theorem TX12_judge_218 {G : zG} {σ : zS} {Q : Int → zS → Prop} {v1 v2 v3 v4 v5 v6 v7 r : Int}  (k1 : (r = 0) → -2147483648 ≤ (-10) - σ 98 104 ∧ (-10) - σ 98 104 < (2147483648 : Int)) (k2 : (r = 0) → Q ((-10) - σ 98 104) σ) (k3 : (r ≠ 0) → Q (σ 98 105) σ) : zR G MX12_judge 218 [zr 98, zi v1, zi v2, zi v3, zi v4, zi v5, zi v6, zi v7] [zi r] σ Q := by
  refine z_if_eq dX12_judge_218 (tgt := 228) (by decide) (fun h1 => ?_) (fun h1 => ?_)
  · skip
    refine z_bipush (x := (-10)) dX12_judge_228 (by decide +kernel) (by unfold zIn; decide) ?_
    refine z_aload_n dX12_judge_230 rfl rfl ?_
    refine z_getfI (k := 104) flRX12_474 rfl rfl dX12_judge_231 ?_
    have s1 : -2147483648 ≤ (-10) - σ 98 104 ∧ (-10) - σ 98 104 < (2147483648 : Int) := k1 h1
    refine z_isubN dX12_judge_234 s1 ?_
    exact z_ireti rfl dX12_judge_235 (k2 h1)
  · skip
    refine z_aload_n dX12_judge_221 rfl rfl ?_
    refine z_getfI (k := 105) flRX12_477 rfl rfl dX12_judge_222 ?_
    refine z_goto dX12_judge_225 (tgt := 235) (by decide) ?_
    exact z_ireti rfl dX12_judge_235 (k3 h1)
set_option maxRecDepth 20000 in
set_option maxHeartbeats 1000000 in
theorem TX12_room {G : zG} {σ : zS} {Q : Int → zS → Prop}  (k1 : (σ 98 9 ≠ 9) → -2147483648 ≤ σ 98 9 + 1 ∧ σ 98 9 + 1 < (2147483648 : Int)) (k2 : (σ 98 9 ≠ 9) → Q (σ 98 9) (zup σ 98 9 (σ 98 9 + 1))) (k3 : (σ 98 9 = 9) → -2147483648 ≤ -(-7) ∧ -(-7) < (2147483648 : Int)) (k4 : (σ 98 9 = 9) → (0 : Int) ≤ -(-7) ∧ -(-7) < (8 : Int)) (k5 : (σ 98 9 = 9) → -2147483648 ≤ (σ 157 (-(-7))) + 1 ∧ (σ 157 (-(-7))) + 1 < (2147483648 : Int)) (k6 : (σ 98 9 = 9) → Q (-7) (zup σ 157 (-(-7)) ((σ 157 (-(-7))) + 1))) : zO G MX12_room [zr 98] σ Q := by
  refine zO_of (ls0 := [zr 98]) (by decide) (Nat.le_of_ble_eq_true rfl) rfl ?_
  refine z_aload_n dX12_room_0 rfl rfl ?_
  refine z_getfI (k := 9) flRX12_499 rfl rfl dX12_room_1 ?_
  refine z_bipush (x := 9) dX12_room_4 (by decide +kernel) (by unfold zIn; decide) ?_
  refine z_icmp_ne dX12_room_6 (tgt := 18) (by decide) (fun h1 => ?_) (fun h1 => ?_)
  · skip
    refine z_aload_n dX12_room_18 rfl rfl ?_
    refine z_dup dX12_room_19 rfl ?_
    refine z_getfI (k := 9) flRX12_499 rfl rfl dX12_room_20 ?_
    refine z_dup_x1 dX12_room_23 rfl rfl ?_
    refine z_iconst dX12_room_24 (by unfold zIn; decide) ?_
    have s1 : -2147483648 ≤ σ 98 9 + 1 ∧ σ 98 9 + 1 < (2147483648 : Int) := k1 h1
    refine z_iaddN dX12_room_25 s1 ?_
    refine z_putI (k := 9) fpRX12_499 rfl rfl dX12_room_26 ?_
    exact z_ireti rfl dX12_room_29 (k2 h1)
  · skip
    refine z_aload_n dX12_room_9 rfl rfl ?_
    refine z_bipush (x := (-7)) dX12_room_10 (by decide +kernel) (by unfold zIn; decide) ?_
    have s3 : -2147483648 ≤ -(-7) ∧ -(-7) < (2147483648 : Int) := k3 h1
    have s4 : (0 : Int) ≤ -(-7) ∧ -(-7) < (8 : Int) := k4 h1
    have s5 : -2147483648 ≤ (σ 157 (-(-7))) + 1 ∧ (σ 157 (-(-7))) + 1 < (2147483648 : Int) := k5 h1
    refine z_callv (as := [zi (-7)]) (st := []) mkX12_no lkRX12_267 rfl rfl rfl (by decide) (Nat.le_of_ble_eq_true rfl) rfl dX12_room_12 ?_
    refine SX12_no s3 s4 s5 ?_
    show zR G MX12_room 15 [zr 98] [zi (-7)] (zup σ 157 (-(-7)) ((σ 157 (-(-7))) + 1)) Q
    refine z_goto dX12_room_15 (tgt := 29) (by decide) ?_
    exact z_ireti rfl dX12_room_29 (k6 h1)
set_option maxRecDepth 20000 in
set_option maxHeartbeats 1000000 in
theorem TX12_wish {G : zG} {σ : zS} {Q : Int → zS → Prop} {a1 a2 : Int}  (k1 : ((0 ≤ a1 ∧ a1 < σ 98 1)) → zO G MX12_wants [zr 98, zi a2] σ (fun rr σ' => zR G MX12_wish 19 [zr 98, zi a1, zi a2, zu, zu] [zi rr] σ' Q)) (k2 : (¬ ((0 ≤ a1 ∧ a1 < σ 98 1))) → -2147483648 ≤ -(-1) ∧ -(-1) < (2147483648 : Int)) (k3 : (¬ ((0 ≤ a1 ∧ a1 < σ 98 1))) → (0 : Int) ≤ -(-1) ∧ -(-1) < (8 : Int)) (k4 : (¬ ((0 ≤ a1 ∧ a1 < σ 98 1))) → -2147483648 ≤ (σ 157 (-(-1))) + 1 ∧ (σ 157 (-(-1))) + 1 < (2147483648 : Int)) (k5 : (¬ ((0 ≤ a1 ∧ a1 < σ 98 1))) → Q (-1) (zup σ 157 (-(-1)) ((σ 157 (-(-1))) + 1))) : zO G MX12_wish [zr 98, zi a1, zi a2] σ Q := by
  refine zO_of (ls0 := [zr 98, zi a1, zi a2, zu, zu]) (by decide) (Nat.le_of_ble_eq_true rfl) rfl ?_
  refine z_aload_n dX12_wish_0 rfl rfl ?_
  refine z_iload_n dX12_wish_1 rfl rfl ?_
  refine z_callv (as := [zi a1]) (st := []) mkX12_isOne lkRX12_271 rfl rfl rfl (by decide) (Nat.le_of_ble_eq_true rfl) rfl dX12_wish_2 ?_
  refine SX12_isOne ?_
  show zR G MX12_wish 5 [zr 98, zi a1, zi a2, zu, zu] [zi (if (0 ≤ a1 ∧ a1 < σ 98 1) then (1 : Int) else 0)] σ Q
  refine z_if_ne dX12_wish_5 (tgt := 14) (by decide) (fun z => ?_) (fun z => ?_)
  · have h1 : (0 ≤ a1 ∧ a1 < σ 98 1) := zb1 z
    refine z_aload_n dX12_wish_14 rfl rfl ?_
    refine z_iload_n dX12_wish_15 rfl rfl ?_
    refine z_callv (as := [zi a2]) (st := []) mkX12_wants lkRX12_300 rfl rfl rfl (by decide) (Nat.le_of_ble_eq_true rfl) rfl dX12_wish_16 (k1 h1)
  · have h1 : ¬ ((0 ≤ a1 ∧ a1 < σ 98 1)) := zb0 z
    refine z_aload_n dX12_wish_8 rfl rfl ?_
    refine z_iconst dX12_wish_9 (by unfold zIn; decide) ?_
    have s2 : -2147483648 ≤ -(-1) ∧ -(-1) < (2147483648 : Int) := k2 h1
    have s3 : (0 : Int) ≤ -(-1) ∧ -(-1) < (8 : Int) := k3 h1
    have s4 : -2147483648 ≤ (σ 157 (-(-1))) + 1 ∧ (σ 157 (-(-1))) + 1 < (2147483648 : Int) := k4 h1
    refine z_callv (as := [zi (-1)]) (st := []) mkX12_no lkRX12_267 rfl rfl rfl (by decide) (Nat.le_of_ble_eq_true rfl) rfl dX12_wish_10 ?_
    refine SX12_no s2 s3 s4 ?_
    show zR G MX12_wish 13 [zr 98, zi a1, zi a2, zu, zu] [zi (-1)] (zup σ 157 (-(-1)) ((σ 157 (-(-1))) + 1)) Q
    exact z_ireti rfl dX12_wish_13 (k5 h1)
set_option maxRecDepth 20000 in
set_option maxHeartbeats 1000000 in
theorem TX12_wish_19 {G : zG} {σ : zS} {Q : Int → zS → Prop} {v1 v2 r : Int}  (k1 : (r = 0) → (0 : Int) ≤ v2 ∧ v2 < (10 : Int)) (k2 : (r = 0) → (0 : Int) ≤ v1 ∧ v1 < (24 : Int)) (k3 : (r = 0) → zR G MX12_wish 45 [zr 98, zi v1, zi v2, zi r, zi 0] [] (zup σ 137 v1 (σ 113 v2)) Q) (k4 : (r ≠ 0) → -2147483648 ≤ -r ∧ -r < (2147483648 : Int)) (k5 : (r ≠ 0) → (0 : Int) ≤ -r ∧ -r < (8 : Int)) (k6 : (r ≠ 0) → -2147483648 ≤ (σ 157 (-r)) + 1 ∧ (σ 157 (-r)) + 1 < (2147483648 : Int)) (k7 : (r ≠ 0) → Q r (zup σ 157 (-r) ((σ 157 (-r)) + 1))) : zR G MX12_wish 19 [zr 98, zi v1, zi v2, zu, zu] [zi r] σ Q := by
  refine z_istore_n (ls' := [zr 98, zi v1, zi v2, zi r, zu]) dX12_wish_19 rfl (by decide) rfl ?_
  refine z_iload_n dX12_wish_20 rfl rfl ?_
  refine z_if_eq dX12_wish_21 (tgt := 30) (by decide) (fun h1 => ?_) (fun h1 => ?_)
  · skip
    refine z_aload_n dX12_wish_30 rfl rfl ?_
    refine z_getfR (k := 52) flRX12_130 rfl rfl dX12_wish_31 ?_
    refine z_iload_n dX12_wish_34 rfl rfl ?_
    refine z_aload_n dX12_wish_35 rfl rfl ?_
    refine z_getfR (k := 27) flRX12_57 rfl rfl dX12_wish_36 ?_
    refine z_iload_n dX12_wish_39 rfl rfl ?_
    have s1 : (0 : Int) ≤ v2 ∧ v2 < (10 : Int) := k1 h1
    refine z_iald rfl s1.1 s1.2 dX12_wish_40 ?_
    have s2 : (0 : Int) ≤ v1 ∧ v1 < (24 : Int) := k2 h1
    refine z_iast rfl s2.1 s2.2 dX12_wish_41 ?_
    refine z_iconst dX12_wish_42 (by unfold zIn; decide) ?_
    refine z_istore (ls' := [zr 98, zi v1, zi v2, zi r, zi 0]) dX12_wish_43 (by decide) rfl ?_
    exact k3 h1
  · skip
    refine z_aload_n dX12_wish_24 rfl rfl ?_
    refine z_iload_n dX12_wish_25 rfl rfl ?_
    have s4 : -2147483648 ≤ -r ∧ -r < (2147483648 : Int) := k4 h1
    have s5 : (0 : Int) ≤ -r ∧ -r < (8 : Int) := k5 h1
    have s6 : -2147483648 ≤ (σ 157 (-r)) + 1 ∧ (σ 157 (-r)) + 1 < (2147483648 : Int) := k6 h1
    refine z_callv (as := [zi r]) (st := []) mkX12_no lkRX12_267 rfl rfl rfl (by decide) (Nat.le_of_ble_eq_true rfl) rfl dX12_wish_26 ?_
    refine SX12_no s4 s5 s6 ?_
    show zR G MX12_wish 29 [zr 98, zi v1, zi v2, zi r, zu] [zi r] (zup σ 157 (-r) ((σ 157 (-r)) + 1)) Q
    exact z_ireti rfl dX12_wish_29 (k7 h1)
set_option maxRecDepth 20000 in
set_option maxHeartbeats 1000000 in
theorem TX12_wish_45 {G : zG} {σ : zS} {Q : Int → zS → Prop} {v1 v2 v3 v4 : Int}  (k1 : (0 : Int) ≤ v2 ∧ v2 < (10 : Int)) (k2 : (σ 113 v2 ≤ v4) → Q (σ 113 v2) σ) (k3 : (v4 < σ 113 v2) → -2147483648 ≤ 80 * v1 ∧ 80 * v1 < (2147483648 : Int)) (k4 : (v4 < σ 113 v2) → -2147483648 ≤ (80 * v1) + v4 ∧ (80 * v1) + v4 < (2147483648 : Int)) (k5 : (v4 < σ 113 v2) → -2147483648 ≤ 80 * v2 ∧ 80 * v2 < (2147483648 : Int)) (k6 : (v4 < σ 113 v2) → -2147483648 ≤ (80 * v2) + v4 ∧ (80 * v2) + v4 < (2147483648 : Int)) (k7 : (v4 < σ 113 v2) → (0 : Int) ≤ (80 * v2) + v4 ∧ (80 * v2) + v4 < (800 : Int)) (k8 : (v4 < σ 113 v2) → (0 : Int) ≤ (80 * v1) + v4 ∧ (80 * v1) + v4 < (1920 : Int)) (k9 : (v4 < σ 113 v2) → -2147483648 ≤ v4 + 1 ∧ v4 + 1 < (2147483648 : Int)) (k10 : (v4 < σ 113 v2) → zR G MX12_wish 45 [zr 98, zi v1, zi v2, zi v3, zi (v4 + 1)] [] (zup σ 136 ((80 * v1) + v4) (zW (σ 115 ((80 * v2) + v4)))) Q) : zR G MX12_wish 45 [zr 98, zi v1, zi v2, zi v3, zi v4] [] σ Q := by
  refine z_iload dX12_wish_45 rfl ?_
  refine z_aload_n dX12_wish_47 rfl rfl ?_
  refine z_getfR (k := 27) flRX12_57 rfl rfl dX12_wish_48 ?_
  refine z_iload_n dX12_wish_51 rfl rfl ?_
  have s1 : (0 : Int) ≤ v2 ∧ v2 < (10 : Int) := k1
  refine z_iald rfl s1.1 s1.2 dX12_wish_52 ?_
  refine z_icmp_ge dX12_wish_53 (tgt := 87) (by decide) (fun h1 => ?_) (fun h1 => ?_)
  · skip
    refine z_aload_n dX12_wish_87 rfl rfl ?_
    refine z_getfR (k := 27) flRX12_57 rfl rfl dX12_wish_88 ?_
    refine z_iload_n dX12_wish_91 rfl rfl ?_
    refine z_iald rfl s1.1 s1.2 dX12_wish_92 ?_
    exact z_ireti rfl dX12_wish_93 (k2 h1)
  · skip
    refine z_aload_n dX12_wish_56 rfl rfl ?_
    refine z_getfR (k := 51) flRX12_127 rfl rfl dX12_wish_57 ?_
    refine z_bipush (x := 80) dX12_wish_60 (by decide +kernel) (by unfold zIn; decide) ?_
    refine z_iload_n dX12_wish_62 rfl rfl ?_
    have s3 : -2147483648 ≤ 80 * v1 ∧ 80 * v1 < (2147483648 : Int) := k3 h1
    refine z_imulN dX12_wish_63 s3 ?_
    refine z_iload dX12_wish_64 rfl ?_
    have s4 : -2147483648 ≤ (80 * v1) + v4 ∧ (80 * v1) + v4 < (2147483648 : Int) := k4 h1
    refine z_iaddN dX12_wish_66 s4 ?_
    refine z_aload_n dX12_wish_67 rfl rfl ?_
    refine z_getfR (k := 29) flRX12_63 rfl rfl dX12_wish_68 ?_
    refine z_bipush (x := 80) dX12_wish_71 (by decide +kernel) (by unfold zIn; decide) ?_
    refine z_iload_n dX12_wish_73 rfl rfl ?_
    have s5 : -2147483648 ≤ 80 * v2 ∧ 80 * v2 < (2147483648 : Int) := k5 h1
    refine z_imulN dX12_wish_74 s5 ?_
    refine z_iload dX12_wish_75 rfl ?_
    have s6 : -2147483648 ≤ (80 * v2) + v4 ∧ (80 * v2) + v4 < (2147483648 : Int) := k6 h1
    refine z_iaddN dX12_wish_77 s6 ?_
    have s7 : (0 : Int) ≤ (80 * v2) + v4 ∧ (80 * v2) + v4 < (800 : Int) := k7 h1
    refine z_lald rfl s7.1 s7.2 dX12_wish_78 ?_
    refine z_l2i dX12_wish_79 ?_
    have s8 : (0 : Int) ≤ (80 * v1) + v4 ∧ (80 * v1) + v4 < (1920 : Int) := k8 h1
    refine z_iast rfl s8.1 s8.2 dX12_wish_80 ?_
    have s9 : -2147483648 ≤ v4 + 1 ∧ v4 + 1 < (2147483648 : Int) := k9 h1
    refine z_iincN (ls' := [zr 98, zi v1, zi v2, zi v3, zi (v4 + 1)]) dX12_wish_81 rfl (by decide) s9 rfl ?_
    refine z_goto dX12_wish_84 (tgt := 45) (by decide) ?_
    exact k10 h1
set_option maxRecDepth 20000 in
set_option maxHeartbeats 1000000 in
theorem TX12_whoHas {G : zG} {σ : zS} {Q : Int → zS → Prop} {a1 : Int}  (k1 : zR G MX12_whoHas 2 [zr 98, zi a1, zi 0] [] σ Q) : zO G MX12_whoHas [zr 98, zi a1] σ Q := by
  refine zO_of (ls0 := [zr 98, zi a1, zu]) (by decide) (Nat.le_of_ble_eq_true rfl) rfl ?_
  refine z_iconst dX12_whoHas_0 (by unfold zIn; decide) ?_
  refine z_istore_n (ls' := [zr 98, zi a1, zi 0]) dX12_whoHas_1 rfl (by decide) rfl ?_
  exact k1
set_option maxRecDepth 20000 in
set_option maxHeartbeats 1000000 in
theorem TX12_whoHas_2 {G : zG} {σ : zS} {Q : Int → zS → Prop} {v1 v2 : Int}  (k1 : (σ 98 1 ≤ v2) → Q (-1) σ) (k2 : (v2 < σ 98 1) → (0 : Int) ≤ v2 ∧ v2 < (24 : Int)) (k3 : (v2 < σ 98 1) → (σ 138 v2 ≠ v1) → -2147483648 ≤ v2 + 1 ∧ v2 + 1 < (2147483648 : Int)) (k4 : (v2 < σ 98 1) → (σ 138 v2 ≠ v1) → zR G MX12_whoHas 2 [zr 98, zi v1, zi (v2 + 1)] [] σ Q) (k5 : (v2 < σ 98 1) → (σ 138 v2 = v1) → Q v2 σ) : zR G MX12_whoHas 2 [zr 98, zi v1, zi v2] [] σ Q := by
  refine z_iload_n dX12_whoHas_2 rfl rfl ?_
  refine z_aload_n dX12_whoHas_3 rfl rfl ?_
  refine z_getfI (k := 1) flRX12_256 rfl rfl dX12_whoHas_4 ?_
  refine z_icmp_ge dX12_whoHas_7 (tgt := 28) (by decide) (fun h1 => ?_) (fun h1 => ?_)
  · skip
    refine z_iconst dX12_whoHas_28 (by unfold zIn; decide) ?_
    exact z_ireti rfl dX12_whoHas_29 (k1 h1)
  · skip
    refine z_aload_n dX12_whoHas_10 rfl rfl ?_
    refine z_getfR (k := 53) flRX12_133 rfl rfl dX12_whoHas_11 ?_
    refine z_iload_n dX12_whoHas_14 rfl rfl ?_
    have s2 : (0 : Int) ≤ v2 ∧ v2 < (24 : Int) := k2 h1
    refine z_iald rfl s2.1 s2.2 dX12_whoHas_15 ?_
    refine z_iload_n dX12_whoHas_16 rfl rfl ?_
    refine z_icmp_ne dX12_whoHas_17 (tgt := 22) (by decide) (fun h2 => ?_) (fun h2 => ?_)
    · skip
      have s3 : -2147483648 ≤ v2 + 1 ∧ v2 + 1 < (2147483648 : Int) := k3 h1 h2
      refine z_iincN (ls' := [zr 98, zi v1, zi (v2 + 1)]) dX12_whoHas_22 rfl (by decide) s3 rfl ?_
      refine z_goto dX12_whoHas_25 (tgt := 2) (by decide) ?_
      exact k4 h1 h2
    · skip
      refine z_iload_n dX12_whoHas_20 rfl rfl ?_
      exact z_ireti rfl dX12_whoHas_21 (k5 h1 h2)
set_option maxRecDepth 20000 in
set_option maxHeartbeats 1000000 in
theorem TX12_choose {G : zG} {σ : zS} {Q : Int → zS → Prop}  (k1 : zO G MX12_seniors [zr 98] σ (fun rr σ' => zR G MX12_choose 4 [zr 98, zu, zu, zu, zu, zu, zu] [zi rr] σ' Q)) : zO G MX12_choose [zr 98] σ Q := by
  refine zO_of (ls0 := [zr 98, zu, zu, zu, zu, zu, zu]) (by decide) (Nat.le_of_ble_eq_true rfl) rfl ?_
  refine z_aload_n dX12_choose_0 rfl rfl ?_
  refine z_callv (as := []) (st := []) mkX12_seniors lkRX12_409 rfl rfl rfl (by decide) (Nat.le_of_ble_eq_true rfl) rfl dX12_choose_1 (k1)
set_option maxRecDepth 20000 in
set_option maxHeartbeats 1000000 in
theorem TX12_choose_4 {G : zG} {σ : zS} {Q : Int → zS → Prop} {r : Int}  (k1 : zR G MX12_choose 7 [zr 98, zi r, zi 0, zu, zu, zu, zu] [] σ Q) : zR G MX12_choose 4 [zr 98, zu, zu, zu, zu, zu, zu] [zi r] σ Q := by
  refine z_istore_n (ls' := [zr 98, zi r, zu, zu, zu, zu, zu]) dX12_choose_4 rfl (by decide) rfl ?_
  refine z_iconst dX12_choose_5 (by unfold zIn; decide) ?_
  refine z_istore_n (ls' := [zr 98, zi r, zi 0, zu, zu, zu, zu]) dX12_choose_6 rfl (by decide) rfl ?_
  exact k1
set_option maxRecDepth 20000 in
set_option maxHeartbeats 1000000 in
theorem TX12_choose_7 {G : zG} {σ : zS} {Q : Int → zS → Prop} {v1 v2 : Int}  (k1 : (v1 ≤ v2) → zR G MX12_choose 39 [zr 98, zi v1, zi 0, zi 0, zu, zu, zu] [] σ Q) (k2 : (v2 < v1) → (0 : Int) ≤ v2 ∧ v2 < (12 : Int)) (k3 : (v2 < v1) → (0 : Int) ≤ σ 173 v2 ∧ σ 173 v2 < (12 : Int)) (k4 : (v2 < v1) → (0 : Int) ≤ σ 130 (σ 173 v2) ∧ σ 130 (σ 173 v2) < (24 : Int)) (k5 : (v2 < v1) → -2147483648 ≤ v2 + 1 ∧ v2 + 1 < (2147483648 : Int)) (k6 : (v2 < v1) → zR G MX12_choose 7 [zr 98, zi v1, zi (v2 + 1), zu, zu, zu, zu] [] (zup σ 138 (σ 130 (σ 173 v2)) (-1)) Q) : zR G MX12_choose 7 [zr 98, zi v1, zi v2, zu, zu, zu, zu] [] σ Q := by
  refine z_iload_n dX12_choose_7 rfl rfl ?_
  refine z_iload_n dX12_choose_8 rfl rfl ?_
  refine z_icmp_ge dX12_choose_9 (tgt := 35) (by decide) (fun h1 => ?_) (fun h1 => ?_)
  · skip
    refine z_iconst dX12_choose_35 (by unfold zIn; decide) ?_
    refine z_istore_n (ls' := [zr 98, zi v1, zi 0, zu, zu, zu, zu]) dX12_choose_36 rfl (by decide) rfl ?_
    refine z_iconst dX12_choose_37 (by unfold zIn; decide) ?_
    refine z_istore_n (ls' := [zr 98, zi v1, zi 0, zi 0, zu, zu, zu]) dX12_choose_38 rfl (by decide) rfl ?_
    exact k1 h1
  · skip
    refine z_aload_n dX12_choose_12 rfl rfl ?_
    refine z_getfR (k := 53) flRX12_133 rfl rfl dX12_choose_13 ?_
    refine z_aload_n dX12_choose_16 rfl rfl ?_
    refine z_getfR (k := 45) flRX12_109 rfl rfl dX12_choose_17 ?_
    refine z_aload_n dX12_choose_20 rfl rfl ?_
    refine z_getfR (k := 98) flRX12_238 rfl rfl dX12_choose_21 ?_
    refine z_iload_n dX12_choose_24 rfl rfl ?_
    have s2 : (0 : Int) ≤ v2 ∧ v2 < (12 : Int) := k2 h1
    refine z_iald rfl s2.1 s2.2 dX12_choose_25 ?_
    have s3 : (0 : Int) ≤ σ 173 v2 ∧ σ 173 v2 < (12 : Int) := k3 h1
    refine z_iald rfl s3.1 s3.2 dX12_choose_26 ?_
    refine z_iconst dX12_choose_27 (by unfold zIn; decide) ?_
    have s4 : (0 : Int) ≤ σ 130 (σ 173 v2) ∧ σ 130 (σ 173 v2) < (24 : Int) := k4 h1
    refine z_iast rfl s4.1 s4.2 dX12_choose_28 ?_
    have s5 : -2147483648 ≤ v2 + 1 ∧ v2 + 1 < (2147483648 : Int) := k5 h1
    refine z_iincN (ls' := [zr 98, zi v1, zi (v2 + 1), zu, zu, zu, zu]) dX12_choose_29 rfl (by decide) s5 rfl ?_
    refine z_goto dX12_choose_32 (tgt := 7) (by decide) ?_
    exact k6 h1
set_option maxRecDepth 20000 in
set_option maxHeartbeats 1000000 in
theorem TX12_choose_39 {G : zG} {σ : zS} {Q : Int → zS → Prop} {v1 v2 v3 : Int}  (k1 : (v1 ≤ v3) → Q v2 σ) (k2 : (v3 < v1) → (0 : Int) ≤ v3 ∧ v3 < (12 : Int)) (k3 : (v3 < v1) → (0 : Int) ≤ σ 173 v3 ∧ σ 173 v3 < (12 : Int)) (k4 : (v3 < v1) → zR G MX12_choose 60 [zr 98, zi v1, zi v2, zi v3, zi (σ 130 (σ 173 v3)), zi 0, zu] [] σ Q) : zR G MX12_choose 39 [zr 98, zi v1, zi v2, zi v3, zu, zu, zu] [] σ Q := by
  refine z_iload_n dX12_choose_39 rfl rfl ?_
  refine z_iload_n dX12_choose_40 rfl rfl ?_
  refine z_icmp_ge dX12_choose_41 (tgt := 157) (by decide) (fun h1 => ?_) (fun h1 => ?_)
  · skip
    refine z_iload_n dX12_choose_157 rfl rfl ?_
    exact z_ireti rfl dX12_choose_158 (k1 h1)
  · skip
    refine z_aload_n dX12_choose_44 rfl rfl ?_
    refine z_getfR (k := 45) flRX12_109 rfl rfl dX12_choose_45 ?_
    refine z_aload_n dX12_choose_48 rfl rfl ?_
    refine z_getfR (k := 98) flRX12_238 rfl rfl dX12_choose_49 ?_
    refine z_iload_n dX12_choose_52 rfl rfl ?_
    have s2 : (0 : Int) ≤ v3 ∧ v3 < (12 : Int) := k2 h1
    refine z_iald rfl s2.1 s2.2 dX12_choose_53 ?_
    have s3 : (0 : Int) ≤ σ 173 v3 ∧ σ 173 v3 < (12 : Int) := k3 h1
    refine z_iald rfl s3.1 s3.2 dX12_choose_54 ?_
    refine z_istore (ls' := [zr 98, zi v1, zi v2, zi v3, zi (σ 130 (σ 173 v3)), zu, zu]) dX12_choose_55 (by decide) rfl ?_
    refine z_iconst dX12_choose_57 (by unfold zIn; decide) ?_
    refine z_istore (ls' := [zr 98, zi v1, zi v2, zi v3, zi (σ 130 (σ 173 v3)), zi 0, zu]) dX12_choose_58 (by decide) rfl ?_
    exact k4 h1
set_option maxRecDepth 20000 in
set_option maxHeartbeats 1000000 in
theorem TX12_choose_60 {G : zG} {σ : zS} {Q : Int → zS → Prop} {v1 v2 v3 v4 v5 : Int}  (k1 : (0 : Int) ≤ v4 ∧ v4 < (24 : Int)) (k2 : (v5 < σ 137 v4) → (σ 138 v4 = (-1)) → -2147483648 ≤ 80 * v4 ∧ 80 * v4 < (2147483648 : Int)) (k3 : (v5 < σ 137 v4) → (σ 138 v4 = (-1)) → -2147483648 ≤ (80 * v4) + v5 ∧ (80 * v4) + v5 < (2147483648 : Int)) (k4 : (v5 < σ 137 v4) → (σ 138 v4 = (-1)) → (0 : Int) ≤ (80 * v4) + v5 ∧ (80 * v4) + v5 < (1920 : Int)) (k5 : (v5 < σ 137 v4) → (σ 138 v4 = (-1)) → (0 ≤ σ 136 ((80 * v4) + v5)) → (σ 136 ((80 * v4) + v5) < σ 98 9) → zO G MX12_whoHas [zr 98, zi (σ 136 ((80 * v4) + v5))] σ (fun rr σ' => zR G MX12_choose 118 [zr 98, zi v1, zi v2, zi v3, zi v4, zi v5, zi (σ 136 ((80 * v4) + v5))] [zi rr] σ' Q)) (k6 : (v5 < σ 137 v4) → (σ 138 v4 = (-1)) → (σ 136 ((80 * v4) + v5) < 0 ∨ (0 ≤ σ 136 ((80 * v4) + v5) ∧ σ 98 9 ≤ σ 136 ((80 * v4) + v5))) → -2147483648 ≤ v5 + 1 ∧ v5 + 1 < (2147483648 : Int)) (k7 : (v5 < σ 137 v4) → (σ 138 v4 = (-1)) → (σ 136 ((80 * v4) + v5) < 0 ∨ (0 ≤ σ 136 ((80 * v4) + v5) ∧ σ 98 9 ≤ σ 136 ((80 * v4) + v5))) → zR G MX12_choose 60 [zr 98, zi v1, zi v2, zi v3, zi v4, zi (v5 + 1), zu] [] σ Q) (k8 : (σ 137 v4 ≤ v5 ∨ (v5 < σ 137 v4 ∧ σ 138 v4 ≠ (-1))) → (0 : Int) ≤ v4 ∧ v4 < (24 : Int)) (k9 : (σ 137 v4 ≤ v5 ∨ (v5 < σ 137 v4 ∧ σ 138 v4 ≠ (-1))) → (σ 138 v4 ≠ (-1)) → -2147483648 ≤ v2 + 1 ∧ v2 + 1 < (2147483648 : Int)) (k10 : (σ 137 v4 ≤ v5 ∨ (v5 < σ 137 v4 ∧ σ 138 v4 ≠ (-1))) → (σ 138 v4 = (-1)) → -2147483648 ≤ v3 + 1 ∧ v3 + 1 < (2147483648 : Int)) (k11 : (σ 137 v4 ≤ v5 ∨ (v5 < σ 137 v4 ∧ σ 138 v4 ≠ (-1))) → (σ 138 v4 = (-1)) → zR G MX12_choose 39 [zr 98, zi v1, zi v2, zi (v3 + 1), zu, zu, zu] [] σ Q) (k12 : (σ 137 v4 ≤ v5 ∨ (v5 < σ 137 v4 ∧ σ 138 v4 ≠ (-1))) → (σ 138 v4 ≠ (-1)) → -2147483648 ≤ v3 + 1 ∧ v3 + 1 < (2147483648 : Int)) (k13 : (σ 137 v4 ≤ v5 ∨ (v5 < σ 137 v4 ∧ σ 138 v4 ≠ (-1))) → (σ 138 v4 ≠ (-1)) → zR G MX12_choose 39 [zr 98, zi v1, zi (v2 + 1), zi (v3 + 1), zu, zu, zu] [] σ Q) : zR G MX12_choose 60 [zr 98, zi v1, zi v2, zi v3, zi v4, zi v5, zu] [] σ Q := by
  have J151_1 : (σ 137 v4 ≤ v5 ∨ (v5 < σ 137 v4 ∧ σ 138 v4 ≠ (-1))) → (σ 138 v4 ≠ (-1)) → zR G MX12_choose 151 [zr 98, zi v1, zi (v2 + 1), zi v3, zi v4, zi v5, zu] [] σ Q := by
    intro h6 h7
    have s12 : -2147483648 ≤ v3 + 1 ∧ v3 + 1 < (2147483648 : Int) := k12 h6 h7
    refine z_iincN (ls' := [zr 98, zi v1, zi (v2 + 1), zi (v3 + 1), zi v4, zi v5, zu]) dX12_choose_151 rfl (by decide) s12 rfl ?_
    refine z_goto dX12_choose_154 (tgt := 39) (by decide) ?_
    exact zR_fg [false, false, false, false, true, true, false] (k13 h6 h7)
  have J151 : (σ 137 v4 ≤ v5 ∨ (v5 < σ 137 v4 ∧ σ 138 v4 ≠ (-1))) → (σ 138 v4 = (-1)) → zR G MX12_choose 151 [zr 98, zi v1, zi v2, zi v3, zi v4, zi v5, zu] [] σ Q := by
    intro h6 h7
    have s10 : -2147483648 ≤ v3 + 1 ∧ v3 + 1 < (2147483648 : Int) := k10 h6 h7
    refine z_iincN (ls' := [zr 98, zi v1, zi v2, zi (v3 + 1), zi v4, zi v5, zu]) dX12_choose_151 rfl (by decide) s10 rfl ?_
    refine z_goto dX12_choose_154 (tgt := 39) (by decide) ?_
    exact zR_fg [false, false, false, false, true, true, false] (k11 h6 h7)
  have J137 : (σ 137 v4 ≤ v5 ∨ (v5 < σ 137 v4 ∧ σ 138 v4 ≠ (-1))) → zR G MX12_choose 137 [zr 98, zi v1, zi v2, zi v3, zi v4, zi v5, zu] [] σ Q := by
    intro h6
    refine z_aload_n dX12_choose_137 rfl rfl ?_
    refine z_getfR (k := 53) flRX12_133 rfl rfl dX12_choose_138 ?_
    refine z_iload dX12_choose_141 rfl ?_
    have s8 : (0 : Int) ≤ v4 ∧ v4 < (24 : Int) := k8 h6
    refine z_iald rfl s8.1 s8.2 dX12_choose_143 ?_
    refine z_iconst dX12_choose_144 (by unfold zIn; decide) ?_
    refine z_icmp_eq dX12_choose_145 (tgt := 151) (by decide) (fun h7 => ?_) (fun h7 => ?_)
    · skip
      exact J151 h6 h7
    · skip
      have s9 : -2147483648 ≤ v2 + 1 ∧ v2 + 1 < (2147483648 : Int) := k9 h6 h7
      refine z_iincN (ls' := [zr 98, zi v1, zi (v2 + 1), zi v3, zi v4, zi v5, zu]) dX12_choose_148 rfl (by decide) s9 rfl ?_
      exact J151_1 h6 h7
  have J131 : (v5 < σ 137 v4) → (σ 138 v4 = (-1)) → (σ 136 ((80 * v4) + v5) < 0 ∨ (0 ≤ σ 136 ((80 * v4) + v5) ∧ σ 98 9 ≤ σ 136 ((80 * v4) + v5))) → zR G MX12_choose 131 [zr 98, zi v1, zi v2, zi v3, zi v4, zi v5, zi (σ 136 ((80 * v4) + v5))] [] σ Q := by
    intro h1 h2 h5
    have s6 : -2147483648 ≤ v5 + 1 ∧ v5 + 1 < (2147483648 : Int) := k6 h1 h2 h5
    refine z_iincN (ls' := [zr 98, zi v1, zi v2, zi v3, zi v4, zi (v5 + 1), zi (σ 136 ((80 * v4) + v5))]) dX12_choose_131 rfl (by decide) s6 rfl ?_
    refine z_goto dX12_choose_134 (tgt := 60) (by decide) ?_
    exact zR_fg [false, false, false, false, false, false, true] (k7 h1 h2 h5)
  refine z_iload dX12_choose_60 rfl ?_
  refine z_aload_n dX12_choose_62 rfl rfl ?_
  refine z_getfR (k := 52) flRX12_130 rfl rfl dX12_choose_63 ?_
  refine z_iload dX12_choose_66 rfl ?_
  have s1 : (0 : Int) ≤ v4 ∧ v4 < (24 : Int) := k1
  refine z_iald rfl s1.1 s1.2 dX12_choose_68 ?_
  refine z_icmp_ge dX12_choose_69 (tgt := 137) (by decide) (fun h1 => ?_) (fun h1 => ?_)
  · skip
    exact J137 (Or.inl h1)
  · skip
    refine z_aload_n dX12_choose_72 rfl rfl ?_
    refine z_getfR (k := 53) flRX12_133 rfl rfl dX12_choose_73 ?_
    refine z_iload dX12_choose_76 rfl ?_
    refine z_iald rfl s1.1 s1.2 dX12_choose_78 ?_
    refine z_iconst dX12_choose_79 (by unfold zIn; decide) ?_
    refine z_icmp_ne dX12_choose_80 (tgt := 137) (by decide) (fun h2 => ?_) (fun h2 => ?_)
    · skip
      exact J137 (Or.inr ⟨h1, h2⟩)
    · skip
      refine z_aload_n dX12_choose_83 rfl rfl ?_
      refine z_getfR (k := 51) flRX12_127 rfl rfl dX12_choose_84 ?_
      refine z_bipush (x := 80) dX12_choose_87 (by decide +kernel) (by unfold zIn; decide) ?_
      refine z_iload dX12_choose_89 rfl ?_
      have s2 : -2147483648 ≤ 80 * v4 ∧ 80 * v4 < (2147483648 : Int) := k2 h1 h2
      refine z_imulN dX12_choose_91 s2 ?_
      refine z_iload dX12_choose_92 rfl ?_
      have s3 : -2147483648 ≤ (80 * v4) + v5 ∧ (80 * v4) + v5 < (2147483648 : Int) := k3 h1 h2
      refine z_iaddN dX12_choose_94 s3 ?_
      have s4 : (0 : Int) ≤ (80 * v4) + v5 ∧ (80 * v4) + v5 < (1920 : Int) := k4 h1 h2
      refine z_iald rfl s4.1 s4.2 dX12_choose_95 ?_
      refine z_istore (ls' := [zr 98, zi v1, zi v2, zi v3, zi v4, zi v5, zi (σ 136 ((80 * v4) + v5))]) dX12_choose_96 (by decide) rfl ?_
      refine z_iload dX12_choose_98 rfl ?_
      refine z_if_lt dX12_choose_100 (tgt := 131) (by decide) (fun h3 => ?_) (fun h3 => ?_)
      · skip
        exact J131 h1 h2 (Or.inl h3)
      · skip
        refine z_iload dX12_choose_103 rfl ?_
        refine z_aload_n dX12_choose_105 rfl rfl ?_
        refine z_getfI (k := 9) flRX12_499 rfl rfl dX12_choose_106 ?_
        refine z_icmp_ge dX12_choose_109 (tgt := 131) (by decide) (fun h4 => ?_) (fun h4 => ?_)
        · skip
          exact J131 h1 h2 (Or.inr ⟨h3, h4⟩)
        · skip
          refine z_aload_n dX12_choose_112 rfl rfl ?_
          refine z_iload dX12_choose_113 rfl ?_
          refine z_callv (as := [zi (σ 136 ((80 * v4) + v5))]) (st := []) mkX12_whoHas lkRX12_502 rfl rfl rfl (by decide) (Nat.le_of_ble_eq_true rfl) rfl dX12_choose_115 (k5 h1 h2 h3 h4)
set_option maxRecDepth 20000 in
set_option maxHeartbeats 1000000 in
theorem TX12_choose_118 {G : zG} {σ : zS} {Q : Int → zS → Prop} {v1 v2 v3 v4 v5 v6 r : Int}  (k1 : (r = (-1)) → (0 : Int) ≤ v4 ∧ v4 < (24 : Int)) (k2 : (r ≠ (-1)) → -2147483648 ≤ v5 + 1 ∧ v5 + 1 < (2147483648 : Int)) (k3 : (r ≠ (-1)) → zR G MX12_choose 60 [zr 98, zi v1, zi v2, zi v3, zi v4, zi (v5 + 1), zu] [] σ Q) (k4 : (r = (-1)) → -2147483648 ≤ v5 + 1 ∧ v5 + 1 < (2147483648 : Int)) (k5 : (r = (-1)) → zR G MX12_choose 60 [zr 98, zi v1, zi v2, zi v3, zi v4, zi (v5 + 1), zu] [] (zup σ 138 v4 v6) Q) : zR G MX12_choose 118 [zr 98, zi v1, zi v2, zi v3, zi v4, zi v5, zi v6] [zi r] σ Q := by
  have J131_1 : (r = (-1)) → zR G MX12_choose 131 [zr 98, zi v1, zi v2, zi v3, zi v4, zi v5, zi v6] [] (zup σ 138 v4 v6) Q := by
    intro h1
    have s4 : -2147483648 ≤ v5 + 1 ∧ v5 + 1 < (2147483648 : Int) := k4 h1
    refine z_iincN (ls' := [zr 98, zi v1, zi v2, zi v3, zi v4, zi (v5 + 1), zi v6]) dX12_choose_131 rfl (by decide) s4 rfl ?_
    refine z_goto dX12_choose_134 (tgt := 60) (by decide) ?_
    exact zR_fg [false, false, false, false, false, false, true] (k5 h1)
  have J131 : (r ≠ (-1)) → zR G MX12_choose 131 [zr 98, zi v1, zi v2, zi v3, zi v4, zi v5, zi v6] [] σ Q := by
    intro h1
    have s2 : -2147483648 ≤ v5 + 1 ∧ v5 + 1 < (2147483648 : Int) := k2 h1
    refine z_iincN (ls' := [zr 98, zi v1, zi v2, zi v3, zi v4, zi (v5 + 1), zi v6]) dX12_choose_131 rfl (by decide) s2 rfl ?_
    refine z_goto dX12_choose_134 (tgt := 60) (by decide) ?_
    exact zR_fg [false, false, false, false, false, false, true] (k3 h1)
  refine z_iconst dX12_choose_118 (by unfold zIn; decide) ?_
  refine z_icmp_ne dX12_choose_119 (tgt := 131) (by decide) (fun h1 => ?_) (fun h1 => ?_)
  · skip
    exact J131 h1
  · skip
    refine z_aload_n dX12_choose_122 rfl rfl ?_
    refine z_getfR (k := 53) flRX12_133 rfl rfl dX12_choose_123 ?_
    refine z_iload dX12_choose_126 rfl ?_
    refine z_iload dX12_choose_128 rfl ?_
    have s1 : (0 : Int) ≤ v4 ∧ v4 < (24 : Int) := k1 h1
    refine z_iast rfl s1.1 s1.2 dX12_choose_130 ?_
    exact J131_1 h1
