set_option maxRecDepth 20000 in
set_option maxHeartbeats 1000000 in
theorem TX6_holdersOf {G : zG} {σ : zS} {Q : Int → zS → Prop} {a1 : Int}  (k1 : zR G MX6_holdersOf 4 [zr 52, zi a1, zi 0, zi 0] [] σ Q) : zO G MX6_holdersOf [zr 52, zi a1] σ Q := by
  refine zO_of (ls0 := [zr 52, zi a1, zu, zu]) (by decide) (Nat.le_of_ble_eq_true rfl) rfl ?_
  refine z_iconst dX6_holdersOf_0 (by unfold zIn; decide) ?_
  refine z_istore_n (ls' := [zr 52, zi a1, zi 0, zu]) dX6_holdersOf_1 rfl (by decide) rfl ?_
  refine z_iconst dX6_holdersOf_2 (by unfold zIn; decide) ?_
  refine z_istore_n (ls' := [zr 52, zi a1, zi 0, zi 0]) dX6_holdersOf_3 rfl (by decide) rfl ?_
  exact k1
set_option maxRecDepth 20000 in
set_option maxHeartbeats 1000000 in
theorem TX6_holdersOf_4 {G : zG} {σ : zS} {Q : Int → zS → Prop} {v1 v2 v3 : Int}  (k1 : (σ 52 7 ≤ v3) → Q v2 σ) (k2 : (v3 < σ 52 7) → (0 : Int) ≤ v3 ∧ v3 < (12 : Int)) (k3 : (v3 < σ 52 7) → (σ 53 v3 ≠ v1 ∨ (σ 53 v3 = v1 ∧ σ 54 v3 = (-1))) → -2147483648 ≤ v3 + 1 ∧ v3 + 1 < (2147483648 : Int)) (k4 : (v3 < σ 52 7) → (σ 53 v3 ≠ v1 ∨ (σ 53 v3 = v1 ∧ σ 54 v3 = (-1))) → zR G MX6_holdersOf 4 [zr 52, zi v1, zi v2, zi (v3 + 1)] [] σ Q) (k5 : (v3 < σ 52 7) → (σ 53 v3 = v1) → (σ 54 v3 ≠ (-1)) → -2147483648 ≤ v3 + 1 ∧ v3 + 1 < (2147483648 : Int)) (k6 : (v3 < σ 52 7) → (σ 53 v3 = v1) → (σ 54 v3 ≠ (-1)) → zR G MX6_holdersOf 4 [zr 52, zi v1, zi (zor v2 (zshl 1 (σ 54 v3))), zi (v3 + 1)] [] σ Q) : zR G MX6_holdersOf 4 [zr 52, zi v1, zi v2, zi v3] [] σ Q := by
  have J43_1 : (v3 < σ 52 7) → (σ 53 v3 = v1) → (σ 54 v3 ≠ (-1)) → zR G MX6_holdersOf 43 [zr 52, zi v1, zi (zor v2 (zshl 1 (σ 54 v3))), zi v3] [] σ Q := by
    intro h1 h2 h3
    have s5 : -2147483648 ≤ v3 + 1 ∧ v3 + 1 < (2147483648 : Int) := k5 h1 h2 h3
    refine z_iincN (ls' := [zr 52, zi v1, zi (zor v2 (zshl 1 (σ 54 v3))), zi (v3 + 1)]) dX6_holdersOf_43 rfl (by decide) s5 rfl ?_
    refine z_goto dX6_holdersOf_46 (tgt := 4) (by decide) ?_
    exact k6 h1 h2 h3
  have J43 : (v3 < σ 52 7) → (σ 53 v3 ≠ v1 ∨ (σ 53 v3 = v1 ∧ σ 54 v3 = (-1))) → zR G MX6_holdersOf 43 [zr 52, zi v1, zi v2, zi v3] [] σ Q := by
    intro h1 h4
    have s3 : -2147483648 ≤ v3 + 1 ∧ v3 + 1 < (2147483648 : Int) := k3 h1 h4
    refine z_iincN (ls' := [zr 52, zi v1, zi v2, zi (v3 + 1)]) dX6_holdersOf_43 rfl (by decide) s3 rfl ?_
    refine z_goto dX6_holdersOf_46 (tgt := 4) (by decide) ?_
    exact k4 h1 h4
  refine z_iload_n dX6_holdersOf_4 rfl rfl ?_
  refine z_aload_n dX6_holdersOf_5 rfl rfl ?_
  refine z_getfI (k := 7) flRX6_30 rfl rfl dX6_holdersOf_6 ?_
  refine z_icmp_ge dX6_holdersOf_9 (tgt := 49) (by decide) (fun h1 => ?_) (fun h1 => ?_)
  · skip
    refine z_iload_n dX6_holdersOf_49 rfl rfl ?_
    exact z_ireti rfl dX6_holdersOf_50 (k1 h1)
  · skip
    refine z_aload_n dX6_holdersOf_12 rfl rfl ?_
    refine z_getfR (k := 1) flRX6_11 rfl rfl dX6_holdersOf_13 ?_
    refine z_iload_n dX6_holdersOf_16 rfl rfl ?_
    have s2 : (0 : Int) ≤ v3 ∧ v3 < (12 : Int) := k2 h1
    refine z_iald rfl s2.1 s2.2 dX6_holdersOf_17 ?_
    refine z_iload_n dX6_holdersOf_18 rfl rfl ?_
    refine z_icmp_ne dX6_holdersOf_19 (tgt := 43) (by decide) (fun h2 => ?_) (fun h2 => ?_)
    · skip
      exact J43 h1 (Or.inl h2)
    · skip
      refine z_aload_n dX6_holdersOf_22 rfl rfl ?_
      refine z_getfR (k := 2) flRX6_15 rfl rfl dX6_holdersOf_23 ?_
      refine z_iload_n dX6_holdersOf_26 rfl rfl ?_
      refine z_iald rfl s2.1 s2.2 dX6_holdersOf_27 ?_
      refine z_iconst dX6_holdersOf_28 (by unfold zIn; decide) ?_
      refine z_icmp_eq dX6_holdersOf_29 (tgt := 43) (by decide) (fun h3 => ?_) (fun h3 => ?_)
      · skip
        exact J43 h1 (Or.inr ⟨h2, h3⟩)
      · skip
        refine z_iload_n dX6_holdersOf_32 rfl rfl ?_
        refine z_iconst dX6_holdersOf_33 (by unfold zIn; decide) ?_
        refine z_aload_n dX6_holdersOf_34 rfl rfl ?_
        refine z_getfR (k := 2) flRX6_15 rfl rfl dX6_holdersOf_35 ?_
        refine z_iload_n dX6_holdersOf_38 rfl rfl ?_
        refine z_iald rfl s2.1 s2.2 dX6_holdersOf_39 ?_
        refine z_ishl dX6_holdersOf_40 ?_
        refine z_ior dX6_holdersOf_41 ?_
        refine z_istore_n (ls' := [zr 52, zi v1, zi (zor v2 (zshl 1 (σ 54 v3))), zi v3]) dX6_holdersOf_42 rfl (by decide) rfl ?_
        exact J43_1 h1 h2 h3
set_option maxRecDepth 20000 in
set_option maxHeartbeats 1000000 in
theorem TX6_canTake {G : zG} {σ : zS} {Q : Int → zS → Prop} {a1 a2 a3 : Int}  (k1 : zO G MX6_holdersOf [zr 52, zi a2] σ (fun rr σ' => zR G MX6_canTake 5 [zr 52, zi a1, zi a2, zi a3] [zi rr] σ' Q)) : zO G MX6_canTake [zr 52, zi a1, zi a2, zi a3] σ Q := by
  refine zO_of (ls0 := [zr 52, zi a1, zi a2, zi a3]) (by decide) (Nat.le_of_ble_eq_true rfl) rfl ?_
  refine z_aload_n dX6_canTake_0 rfl rfl ?_
  refine z_iload_n dX6_canTake_1 rfl rfl ?_
  refine z_callv (as := [zi a2]) (st := []) mkX6_holdersOf lkRX6_45 rfl rfl rfl (by decide) (Nat.le_of_ble_eq_true rfl) rfl dX6_canTake_2 (k1)
set_option maxRecDepth 20000 in
set_option maxHeartbeats 1000000 in
theorem TX6_canTake_5 {G : zG} {σ : zS} {Q : Int → zS → Prop} {v1 v2 v3 r : Int}  (k1 : (zand (zushr r v1) 1 = 0) → zO G MX3_weigh [zr 47, zi v1, zi v2, zi v3, zi v3, zi (-1)] σ (fun rr σ' => zR G MX6_canTake 24 [zr 52, zi v1, zi v2, zi v3] [zi rr] σ' Q)) (k2 : (zand (zushr r v1) 1 ≠ 0) → Q 0 σ) : zR G MX6_canTake 5 [zr 52, zi v1, zi v2, zi v3] [zi r] σ Q := by
  have J32 : (zand (zushr r v1) 1 ≠ 0) → zR G MX6_canTake 32 [zr 52, zi v1, zi v2, zi v3] [] σ Q := by
    intro h1
    refine z_iconst dX6_canTake_32 (by unfold zIn; decide) ?_
    exact z_iretz rfl (by decide) dX6_canTake_33 (k2 h1)
  refine z_iload_n dX6_canTake_5 rfl rfl ?_
  refine z_iushr dX6_canTake_6 ?_
  refine z_iconst dX6_canTake_7 (by unfold zIn; decide) ?_
  refine z_iand dX6_canTake_8 ?_
  refine z_if_ne dX6_canTake_9 (tgt := 32) (by decide) (fun h1 => ?_) (fun h1 => ?_)
  · skip
    exact J32 h1
  · skip
    refine z_aload_n dX6_canTake_12 rfl rfl ?_
    refine z_getfR (k := 0) flRX6_37 rfl rfl dX6_canTake_13 ?_
    refine z_iload_n dX6_canTake_16 rfl rfl ?_
    refine z_iload_n dX6_canTake_17 rfl rfl ?_
    refine z_iload_n dX6_canTake_18 rfl rfl ?_
    refine z_iload_n dX6_canTake_19 rfl rfl ?_
    refine z_iconst dX6_canTake_20 (by unfold zIn; decide) ?_
    refine z_callv (as := [zi v1, zi v2, zi v3, zi v3, zi (-1)]) (st := []) mkX3_weigh lkRX6_49 rfl rfl rfl (by decide) (Nat.le_of_ble_eq_true rfl) rfl dX6_canTake_21 (k1 h1)
set_option maxRecDepth 20000 in
set_option maxHeartbeats 1000000 in
theorem TX6_canTake_24 {G : zG} {σ : zS} {Q : Int → zS → Prop} {v1 v2 v3 r : Int}  (k1 : (r = 1) → Q 1 σ) (k2 : (r ≠ 1) → Q 0 σ) : zR G MX6_canTake 24 [zr 52, zi v1, zi v2, zi v3] [zi r] σ Q := by
  have J32 : (r ≠ 1) → zR G MX6_canTake 32 [zr 52, zi v1, zi v2, zi v3] [] σ Q := by
    intro h1
    refine z_iconst dX6_canTake_32 (by unfold zIn; decide) ?_
    exact z_iretz rfl (by decide) dX6_canTake_33 (k2 h1)
  refine z_iconst dX6_canTake_24 (by unfold zIn; decide) ?_
  refine z_icmp_ne dX6_canTake_25 (tgt := 32) (by decide) (fun h1 => ?_) (fun h1 => ?_)
  · skip
    exact J32 h1
  · skip
    refine z_iconst dX6_canTake_28 (by unfold zIn; decide) ?_
    refine z_goto dX6_canTake_29 (tgt := 33) (by decide) ?_
    exact z_iretz rfl (by decide) dX6_canTake_33 (k1 h1)
set_option maxRecDepth 20000 in
set_option maxHeartbeats 1000000 in
theorem TX11_hold {G : zG} {σ : zS} {Q : Int → zS → Prop} {a1 a2 : Int}  (k1 : ((0 ≤ a1 ∧ a1 < σ 22 12)) → ((0 ≤ a2 ∧ a2 < σ 52 7)) → (0 : Int) ≤ a2 ∧ a2 < (12 : Int)) (k2 : ((0 ≤ a1 ∧ a1 < σ 22 12)) → ((0 ≤ a2 ∧ a2 < σ 52 7)) → (σ 54 a2 = (-1)) → zO G MX6_canTake [zr 52, zi a1, zi (σ 53 a2), zi (σ 0 13)] σ (fun rr σ' => zR G MX11_hold 62 [zr 0, zi a1, zi a2] [zi rr] σ' Q)) (k3 : ((¬ ((0 ≤ a1 ∧ a1 < σ 22 12))) ∨ (((0 ≤ a1 ∧ a1 < σ 22 12)) ∧ (¬ ((0 ≤ a2 ∧ a2 < σ 52 7))))) → -2147483648 ≤ -(-1) ∧ -(-1) < (2147483648 : Int)) (k4 : ((¬ ((0 ≤ a1 ∧ a1 < σ 22 12))) ∨ (((0 ≤ a1 ∧ a1 < σ 22 12)) ∧ (¬ ((0 ≤ a2 ∧ a2 < σ 52 7))))) → (0 : Int) ≤ -(-1) ∧ -(-1) < (8 : Int)) (k5 : ((¬ ((0 ≤ a1 ∧ a1 < σ 22 12))) ∨ (((0 ≤ a1 ∧ a1 < σ 22 12)) ∧ (¬ ((0 ≤ a2 ∧ a2 < σ 52 7))))) → Q (-1) (zup σ 97 (-(-1)) (zW ((σ 97 (-(-1))) + 1)))) (k6 : ((0 ≤ a1 ∧ a1 < σ 22 12)) → ((0 ≤ a2 ∧ a2 < σ 52 7)) → (σ 54 a2 ≠ (-1)) → -2147483648 ≤ -(-6) ∧ -(-6) < (2147483648 : Int)) (k7 : ((0 ≤ a1 ∧ a1 < σ 22 12)) → ((0 ≤ a2 ∧ a2 < σ 52 7)) → (σ 54 a2 ≠ (-1)) → (0 : Int) ≤ -(-6) ∧ -(-6) < (8 : Int)) (k8 : ((0 ≤ a1 ∧ a1 < σ 22 12)) → ((0 ≤ a2 ∧ a2 < σ 52 7)) → (σ 54 a2 ≠ (-1)) → Q (-6) (zup σ 97 (-(-6)) (zW ((σ 97 (-(-6))) + 1)))) : zO G MX11_hold [zr 0, zi a1, zi a2] σ Q := by
  refine zO_of (ls0 := [zr 0, zi a1, zi a2]) (by decide) (Nat.le_of_ble_eq_true rfl) rfl ?_
  have J65 : ((0 ≤ a1 ∧ a1 < σ 22 12)) → ((0 ≤ a2 ∧ a2 < σ 52 7)) → (σ 54 a2 ≠ (-1)) → zR G MX11_hold 65 [zr 0, zi a1, zi a2] [] σ Q := by
    intro h1 h2 h3
    refine z_aload_n dX11_hold_65 rfl rfl ?_
    refine z_bipush (x := (-6)) dX11_hold_66 (by decide +kernel) (by unfold zIn; decide) ?_
    have s6 : -2147483648 ≤ -(-6) ∧ -(-6) < (2147483648 : Int) := k6 h1 h2 h3
    have s7 : (0 : Int) ≤ -(-6) ∧ -(-6) < (8 : Int) := k7 h1 h2 h3
    refine z_callv (as := [zi (-6)]) (st := []) mkX11_refuse lkRX11_132 rfl rfl rfl (by decide) (Nat.le_of_ble_eq_true rfl) rfl dX11_hold_68 ?_
    refine SX11_refuse s6 s7 ?_
    show zR G MX11_hold 71 [zr 0, zi a1, zi a2] [zi (-6)] (zup σ 97 (-(-6)) (zW ((σ 97 (-(-6))) + 1))) Q
    exact z_ireti rfl dX11_hold_71 (k8 h1 h2 h3)
  have J22 : ((¬ ((0 ≤ a1 ∧ a1 < σ 22 12))) ∨ (((0 ≤ a1 ∧ a1 < σ 22 12)) ∧ (¬ ((0 ≤ a2 ∧ a2 < σ 52 7))))) → zR G MX11_hold 22 [zr 0, zi a1, zi a2] [] σ Q := by
    intro h4
    refine z_aload_n dX11_hold_22 rfl rfl ?_
    refine z_iconst dX11_hold_23 (by unfold zIn; decide) ?_
    have s3 : -2147483648 ≤ -(-1) ∧ -(-1) < (2147483648 : Int) := k3 h4
    have s4 : (0 : Int) ≤ -(-1) ∧ -(-1) < (8 : Int) := k4 h4
    refine z_callv (as := [zi (-1)]) (st := []) mkX11_refuse lkRX11_132 rfl rfl rfl (by decide) (Nat.le_of_ble_eq_true rfl) rfl dX11_hold_24 ?_
    refine SX11_refuse s3 s4 ?_
    show zR G MX11_hold 27 [zr 0, zi a1, zi a2] [zi (-1)] (zup σ 97 (-(-1)) (zW ((σ 97 (-(-1))) + 1))) Q
    exact z_ireti rfl dX11_hold_27 (k5 h4)
  refine z_aload_n dX11_hold_0 rfl rfl ?_
  refine z_getfR (k := 1) flRX11_18 rfl rfl dX11_hold_1 ?_
  refine z_iload_n dX11_hold_4 rfl rfl ?_
  refine z_callv (as := [zi a1]) (st := []) mkX5_has lkRX11_146 rfl rfl rfl (by decide) (Nat.le_of_ble_eq_true rfl) rfl dX11_hold_5 ?_
  refine SX5_has ?_
  show zR G MX11_hold 8 [zr 0, zi a1, zi a2] [zi (if (0 ≤ a1 ∧ a1 < σ 22 12) then (1 : Int) else 0)] σ Q
  refine z_if_eq dX11_hold_8 (tgt := 22) (by decide) (fun z => ?_) (fun z => ?_)
  · have h1 : ¬ ((0 ≤ a1 ∧ a1 < σ 22 12)) := zb0 z
    exact J22 (Or.inl h1)
  · have h1 : (0 ≤ a1 ∧ a1 < σ 22 12) := zb1 z
    refine z_aload_n dX11_hold_11 rfl rfl ?_
    refine z_getfR (k := 4) flRX11_43 rfl rfl dX11_hold_12 ?_
    refine z_iload_n dX11_hold_15 rfl rfl ?_
    refine z_callv (as := [zi a2]) (st := []) mkX6_has lkRX11_284 rfl rfl rfl (by decide) (Nat.le_of_ble_eq_true rfl) rfl dX11_hold_16 ?_
    refine SX6_has ?_
    show zR G MX11_hold 19 [zr 0, zi a1, zi a2] [zi (if (0 ≤ a2 ∧ a2 < σ 52 7) then (1 : Int) else 0)] σ Q
    refine z_if_ne dX11_hold_19 (tgt := 28) (by decide) (fun z => ?_) (fun z => ?_)
    · have h2 : (0 ≤ a2 ∧ a2 < σ 52 7) := zb1 z
      refine z_aload_n dX11_hold_28 rfl rfl ?_
      refine z_getfR (k := 4) flRX11_43 rfl rfl dX11_hold_29 ?_
      refine z_getfR (k := 2) flRX11_285 rfl rfl dX11_hold_32 ?_
      refine z_iload_n dX11_hold_35 rfl rfl ?_
      have s1 : (0 : Int) ≤ a2 ∧ a2 < (12 : Int) := k1 h1 h2
      refine z_iald rfl s1.1 s1.2 dX11_hold_36 ?_
      refine z_iconst dX11_hold_37 (by unfold zIn; decide) ?_
      refine z_icmp_ne dX11_hold_38 (tgt := 65) (by decide) (fun h3 => ?_) (fun h3 => ?_)
      · skip
        exact J65 h1 h2 h3
      · skip
        refine z_aload_n dX11_hold_41 rfl rfl ?_
        refine z_getfR (k := 4) flRX11_43 rfl rfl dX11_hold_42 ?_
        refine z_iload_n dX11_hold_45 rfl rfl ?_
        refine z_aload_n dX11_hold_46 rfl rfl ?_
        refine z_getfR (k := 4) flRX11_43 rfl rfl dX11_hold_47 ?_
        refine z_getfR (k := 1) flRX11_288 rfl rfl dX11_hold_50 ?_
        refine z_iload_n dX11_hold_53 rfl rfl ?_
        refine z_iald rfl s1.1 s1.2 dX11_hold_54 ?_
        refine z_aload_n dX11_hold_55 rfl rfl ?_
        refine z_getfI (k := 13) flRX11_106 rfl rfl dX11_hold_56 ?_
        refine z_callv (as := [zi a1, zi (σ 53 a2), zi (σ 0 13)]) (st := []) mkX6_canTake lkRX11_291 rfl rfl rfl (by decide) (Nat.le_of_ble_eq_true rfl) rfl dX11_hold_59 (k2 h1 h2 h3)
    · have h2 : ¬ ((0 ≤ a2 ∧ a2 < σ 52 7)) := zb0 z
      exact J22 (Or.inr ⟨h1, h2⟩)
set_option maxRecDepth 20000 in
set_option maxHeartbeats 1000000 in
theorem TX11_hold_62 {G : zG} {σ : zS} {Q : Int → zS → Prop} {v1 v2 r : Int}  (k1 : (r ≠ 0) → (0 : Int) ≤ v2 ∧ v2 < (12 : Int)) (k2 : (r ≠ 0) → Q 1 (zup (zup (zup (zup σ 54 v2 v1) 55 v2 (σ 0 13)) 56 v2 (-1)) 57 v2 0)) (k3 : (r = 0) → -2147483648 ≤ -(-6) ∧ -(-6) < (2147483648 : Int)) (k4 : (r = 0) → (0 : Int) ≤ -(-6) ∧ -(-6) < (8 : Int)) (k5 : (r = 0) → Q (-6) (zup σ 97 (-(-6)) (zW ((σ 97 (-(-6))) + 1)))) : zR G MX11_hold 62 [zr 0, zi v1, zi v2] [zi r] σ Q := by
  have J65 : (r = 0) → zR G MX11_hold 65 [zr 0, zi v1, zi v2] [] σ Q := by
    intro h1
    refine z_aload_n dX11_hold_65 rfl rfl ?_
    refine z_bipush (x := (-6)) dX11_hold_66 (by decide +kernel) (by unfold zIn; decide) ?_
    have s3 : -2147483648 ≤ -(-6) ∧ -(-6) < (2147483648 : Int) := k3 h1
    have s4 : (0 : Int) ≤ -(-6) ∧ -(-6) < (8 : Int) := k4 h1
    refine z_callv (as := [zi (-6)]) (st := []) mkX11_refuse lkRX11_132 rfl rfl rfl (by decide) (Nat.le_of_ble_eq_true rfl) rfl dX11_hold_68 ?_
    refine SX11_refuse s3 s4 ?_
    show zR G MX11_hold 71 [zr 0, zi v1, zi v2] [zi (-6)] (zup σ 97 (-(-6)) (zW ((σ 97 (-(-6))) + 1))) Q
    exact z_ireti rfl dX11_hold_71 (k5 h1)
  refine z_if_ne dX11_hold_62 (tgt := 72) (by decide) (fun h1 => ?_) (fun h1 => ?_)
  · skip
    refine z_aload_n dX11_hold_72 rfl rfl ?_
    refine z_getfR (k := 4) flRX11_43 rfl rfl dX11_hold_73 ?_
    refine z_iload_n dX11_hold_76 rfl rfl ?_
    refine z_iload_n dX11_hold_77 rfl rfl ?_
    refine z_aload_n dX11_hold_78 rfl rfl ?_
    refine z_getfI (k := 13) flRX11_106 rfl rfl dX11_hold_79 ?_
    have s1 : (0 : Int) ≤ v2 ∧ v2 < (12 : Int) := k1 h1
    refine z_callv (as := [zi v1, zi v2, zi (σ 0 13)]) (st := []) mkX6_come lkRX11_294 rfl rfl rfl (by decide) (Nat.le_of_ble_eq_true rfl) rfl dX11_hold_82 ?_
    refine SX6_come s1 ?_
    show zR G MX11_hold 85 [zr 0, zi v1, zi v2] [] (zup (zup (zup (zup σ 54 v2 v1) 55 v2 (σ 0 13)) 56 v2 (-1)) 57 v2 0) Q
    refine z_iconst dX11_hold_85 (by unfold zIn; decide) ?_
    exact z_ireti rfl dX11_hold_86 (k2 h1)
  · skip
    exact J65 h1
set_option maxRecDepth 20000 in
set_option maxHeartbeats 1000000 in
theorem TX11_leave {G : zG} {σ : zS} {Q : Int → zS → Prop} {a1 : Int}  (k1 : ((0 ≤ a1 ∧ a1 < σ 52 7)) → (0 : Int) ≤ a1 ∧ a1 < (12 : Int)) (k2 : ((0 ≤ a1 ∧ a1 < σ 52 7)) → (σ 54 a1 ≠ (-1)) → Q (σ 54 a1) (zup (zup (zup σ 54 a1 (-1)) 55 a1 (-1)) 56 a1 (-1))) (k3 : ((0 ≤ a1 ∧ a1 < σ 52 7)) → (σ 54 a1 = (-1)) → -2147483648 ≤ -(-6) ∧ -(-6) < (2147483648 : Int)) (k4 : ((0 ≤ a1 ∧ a1 < σ 52 7)) → (σ 54 a1 = (-1)) → (0 : Int) ≤ -(-6) ∧ -(-6) < (8 : Int)) (k5 : ((0 ≤ a1 ∧ a1 < σ 52 7)) → (σ 54 a1 = (-1)) → Q (-6) (zup σ 97 (-(-6)) (zW ((σ 97 (-(-6))) + 1)))) (k6 : (¬ ((0 ≤ a1 ∧ a1 < σ 52 7))) → -2147483648 ≤ -(-1) ∧ -(-1) < (2147483648 : Int)) (k7 : (¬ ((0 ≤ a1 ∧ a1 < σ 52 7))) → (0 : Int) ≤ -(-1) ∧ -(-1) < (8 : Int)) (k8 : (¬ ((0 ≤ a1 ∧ a1 < σ 52 7))) → Q (-1) (zup σ 97 (-(-1)) (zW ((σ 97 (-(-1))) + 1)))) : zO G MX11_leave [zr 0, zi a1] σ Q := by
  refine zO_of (ls0 := [zr 0, zi a1, zu]) (by decide) (Nat.le_of_ble_eq_true rfl) rfl ?_
  refine z_aload_n dX11_leave_0 rfl rfl ?_
  refine z_getfR (k := 4) flRX11_43 rfl rfl dX11_leave_1 ?_
  refine z_iload_n dX11_leave_4 rfl rfl ?_
  refine z_callv (as := [zi a1]) (st := []) mkX6_has lkRX11_284 rfl rfl rfl (by decide) (Nat.le_of_ble_eq_true rfl) rfl dX11_leave_5 ?_
  refine SX6_has ?_
  show zR G MX11_leave 8 [zr 0, zi a1, zu] [zi (if (0 ≤ a1 ∧ a1 < σ 52 7) then (1 : Int) else 0)] σ Q
  refine z_if_ne dX11_leave_8 (tgt := 17) (by decide) (fun z => ?_) (fun z => ?_)
  · have h1 : (0 ≤ a1 ∧ a1 < σ 52 7) := zb1 z
    refine z_aload_n dX11_leave_17 rfl rfl ?_
    refine z_getfR (k := 4) flRX11_43 rfl rfl dX11_leave_18 ?_
    refine z_getfR (k := 2) flRX11_285 rfl rfl dX11_leave_21 ?_
    refine z_iload_n dX11_leave_24 rfl rfl ?_
    have s1 : (0 : Int) ≤ a1 ∧ a1 < (12 : Int) := k1 h1
    refine z_iald rfl s1.1 s1.2 dX11_leave_25 ?_
    refine z_istore_n (ls' := [zr 0, zi a1, zi (σ 54 a1)]) dX11_leave_26 rfl (by decide) rfl ?_
    refine z_iload_n dX11_leave_27 rfl rfl ?_
    refine z_iconst dX11_leave_28 (by unfold zIn; decide) ?_
    refine z_icmp_ne dX11_leave_29 (tgt := 39) (by decide) (fun h2 => ?_) (fun h2 => ?_)
    · skip
      refine z_aload_n dX11_leave_39 rfl rfl ?_
      refine z_getfR (k := 4) flRX11_43 rfl rfl dX11_leave_40 ?_
      refine z_iload_n dX11_leave_43 rfl rfl ?_
      refine z_callv (as := [zi a1]) (st := []) mkX6_empty lkRX11_297 rfl rfl rfl (by decide) (Nat.le_of_ble_eq_true rfl) rfl dX11_leave_44 ?_
      refine SX6_empty s1 ?_
      show zR G MX11_leave 47 [zr 0, zi a1, zi (σ 54 a1)] [] (zup (zup (zup σ 54 a1 (-1)) 55 a1 (-1)) 56 a1 (-1)) Q
      refine z_iload_n dX11_leave_47 rfl rfl ?_
      exact z_ireti rfl dX11_leave_48 (k2 h1 h2)
    · skip
      refine z_aload_n dX11_leave_32 rfl rfl ?_
      refine z_bipush (x := (-6)) dX11_leave_33 (by decide +kernel) (by unfold zIn; decide) ?_
      have s3 : -2147483648 ≤ -(-6) ∧ -(-6) < (2147483648 : Int) := k3 h1 h2
      have s4 : (0 : Int) ≤ -(-6) ∧ -(-6) < (8 : Int) := k4 h1 h2
      refine z_callv (as := [zi (-6)]) (st := []) mkX11_refuse lkRX11_132 rfl rfl rfl (by decide) (Nat.le_of_ble_eq_true rfl) rfl dX11_leave_35 ?_
      refine SX11_refuse s3 s4 ?_
      show zR G MX11_leave 38 [zr 0, zi a1, zi (σ 54 a1)] [zi (-6)] (zup σ 97 (-(-6)) (zW ((σ 97 (-(-6))) + 1))) Q
      exact z_ireti rfl dX11_leave_38 (k5 h1 h2)
  · have h1 : ¬ ((0 ≤ a1 ∧ a1 < σ 52 7)) := zb0 z
    refine z_aload_n dX11_leave_11 rfl rfl ?_
    refine z_iconst dX11_leave_12 (by unfold zIn; decide) ?_
    have s6 : -2147483648 ≤ -(-1) ∧ -(-1) < (2147483648 : Int) := k6 h1
    have s7 : (0 : Int) ≤ -(-1) ∧ -(-1) < (8 : Int) := k7 h1
    refine z_callv (as := [zi (-1)]) (st := []) mkX11_refuse lkRX11_132 rfl rfl rfl (by decide) (Nat.le_of_ble_eq_true rfl) rfl dX11_leave_13 ?_
    refine SX11_refuse s6 s7 ?_
    show zR G MX11_leave 16 [zr 0, zi a1, zu] [zi (-1)] (zup σ 97 (-(-1)) (zW ((σ 97 (-(-1))) + 1))) Q
    exact z_ireti rfl dX11_leave_16 (k8 h1)
set_option maxRecDepth 20000 in
set_option maxHeartbeats 1000000 in
theorem TX11_about {G : zG} {σ : zS} {Q : Int → zS → Prop} {a1 a2 : Int}  (k1 : ((0 ≤ a1 ∧ a1 < σ 52 7)) → (a2 < 0 ∨ 3 < a2) → Q (-1) σ) (k2 : ((0 ≤ a1 ∧ a1 < σ 52 7)) → (a2 = 0) → (0 : Int) ≤ a1 ∧ a1 < (12 : Int)) (k3 : ((0 ≤ a1 ∧ a1 < σ 52 7)) → (a2 = 0) → Q (σ 53 a1) σ) (k4 : ((0 ≤ a1 ∧ a1 < σ 52 7)) → (a2 = 1) → (0 : Int) ≤ a1 ∧ a1 < (12 : Int)) (k5 : ((0 ≤ a1 ∧ a1 < σ 52 7)) → (a2 = 1) → Q (σ 54 a1) σ) (k6 : ((0 ≤ a1 ∧ a1 < σ 52 7)) → (a2 = 2) → (0 : Int) ≤ a1 ∧ a1 < (12 : Int)) (k7 : ((0 ≤ a1 ∧ a1 < σ 52 7)) → (a2 = 2) → Q (σ 55 a1) σ) (k8 : ((0 ≤ a1 ∧ a1 < σ 52 7)) → (a2 = 3) → (0 : Int) ≤ a1 ∧ a1 < (12 : Int)) (k9 : ((0 ≤ a1 ∧ a1 < σ 52 7)) → (a2 = 3) → Q (σ 56 a1) σ) (k10 : (¬ ((0 ≤ a1 ∧ a1 < σ 52 7))) → Q (-1) σ) : zO G MX11_about [zr 0, zi a1, zi a2] σ Q := by
  refine zO_of (ls0 := [zr 0, zi a1, zi a2]) (by decide) (Nat.le_of_ble_eq_true rfl) rfl ?_
  refine z_aload_n dX11_about_0 rfl rfl ?_
  refine z_getfR (k := 4) flRX11_43 rfl rfl dX11_about_1 ?_
  refine z_iload_n dX11_about_4 rfl rfl ?_
  refine z_callv (as := [zi a1]) (st := []) mkX6_has lkRX11_284 rfl rfl rfl (by decide) (Nat.le_of_ble_eq_true rfl) rfl dX11_about_5 ?_
  refine SX6_has ?_
  show zR G MX11_about 8 [zr 0, zi a1, zi a2] [zi (if (0 ≤ a1 ∧ a1 < σ 52 7) then (1 : Int) else 0)] σ Q
  refine z_if_ne dX11_about_8 (tgt := 13) (by decide) (fun z => ?_) (fun z => ?_)
  · have h1 : (0 ≤ a1 ∧ a1 < σ 52 7) := zb1 z
    refine z_iload_n dX11_about_13 rfl rfl ?_
    show zR G MX11_about 14 [zr 0, zi a1, zi a2] [zi a2] σ Q
    by_cases h2 : a2 < 0 ∨ 3 < a2
    · refine z_tabOut dX11_about_14 h2 (tgt := 84) (by decide) ?_
      refine z_iconst dX11_about_84 (by unfold zIn; decide) ?_
      exact z_ireti rfl dX11_about_85 (k1 h1 h2)
    have h2 : a2 = 0 ∨ a2 = 1 ∨ a2 = 2 ∨ a2 = 3 := by omega
    rcases h2 with h2 | h2 | h2 | h2
    · refine z_tabIn dX11_about_14 (by omega) (by omega) (by rw [h2]; rfl) (tgt := 44) (by decide) ?_
      refine z_aload_n dX11_about_44 rfl rfl ?_
      refine z_getfR (k := 4) flRX11_43 rfl rfl dX11_about_45 ?_
      refine z_getfR (k := 1) flRX11_288 rfl rfl dX11_about_48 ?_
      refine z_iload_n dX11_about_51 rfl rfl ?_
      have s2 : (0 : Int) ≤ a1 ∧ a1 < (12 : Int) := k2 h1 h2
      refine z_iald rfl s2.1 s2.2 dX11_about_52 ?_
      exact z_ireti rfl dX11_about_53 (k3 h1 h2)
    · refine z_tabIn dX11_about_14 (by omega) (by omega) (by rw [h2]; rfl) (tgt := 54) (by decide) ?_
      refine z_aload_n dX11_about_54 rfl rfl ?_
      refine z_getfR (k := 4) flRX11_43 rfl rfl dX11_about_55 ?_
      refine z_getfR (k := 2) flRX11_285 rfl rfl dX11_about_58 ?_
      refine z_iload_n dX11_about_61 rfl rfl ?_
      have s4 : (0 : Int) ≤ a1 ∧ a1 < (12 : Int) := k4 h1 h2
      refine z_iald rfl s4.1 s4.2 dX11_about_62 ?_
      exact z_ireti rfl dX11_about_63 (k5 h1 h2)
    · refine z_tabIn dX11_about_14 (by omega) (by omega) (by rw [h2]; rfl) (tgt := 64) (by decide) ?_
      refine z_aload_n dX11_about_64 rfl rfl ?_
      refine z_getfR (k := 4) flRX11_43 rfl rfl dX11_about_65 ?_
      refine z_getfR (k := 3) flRX11_300 rfl rfl dX11_about_68 ?_
      refine z_iload_n dX11_about_71 rfl rfl ?_
      have s6 : (0 : Int) ≤ a1 ∧ a1 < (12 : Int) := k6 h1 h2
      refine z_iald rfl s6.1 s6.2 dX11_about_72 ?_
      exact z_ireti rfl dX11_about_73 (k7 h1 h2)
    · refine z_tabIn dX11_about_14 (by omega) (by omega) (by rw [h2]; rfl) (tgt := 74) (by decide) ?_
      refine z_aload_n dX11_about_74 rfl rfl ?_
      refine z_getfR (k := 4) flRX11_43 rfl rfl dX11_about_75 ?_
      refine z_getfR (k := 4) flRX11_303 rfl rfl dX11_about_78 ?_
      refine z_iload_n dX11_about_81 rfl rfl ?_
      have s8 : (0 : Int) ≤ a1 ∧ a1 < (12 : Int) := k8 h1 h2
      refine z_iald rfl s8.1 s8.2 dX11_about_82 ?_
      exact z_ireti rfl dX11_about_83 (k9 h1 h2)
  · have h1 : ¬ ((0 ≤ a1 ∧ a1 < σ 52 7)) := zb0 z
    refine z_iconst dX11_about_11 (by unfold zIn; decide) ?_
    exact z_ireti rfl dX11_about_12 (k10 h1)
set_option maxRecDepth 20000 in
set_option maxHeartbeats 1000000 in
theorem TX1_tell {G : zG} {σ : zS} {Q : Int → zS → Prop} {a1 : Int} {t to tz tn a2 a2e : Nat} (ht : zsh t = (4, 1, [none, some to, some tz])) (hto : zsh to = (0, tn, [])) (htz : zsh tz = (0, 24, [])) (ha2 : zsh a2 = (4, 9, [some a2e, none, none, none])) (ha2e : zsh a2e = (2, 80, [])) (k1 : (0 : Int) ≤ a1 ∧ a1 < (24 : Int)) (k2 : zR G MX1_tell 12 [zr t, zi a1, zr a2, zi 0, zi 0, zu] [] (zup σ tz a1 0) Q) : zO G MX1_tell [zr t, zi a1, zr a2] σ Q := by
  refine zO_of (ls0 := [zr t, zi a1, zr a2, zu, zu, zu]) (by decide) (Nat.le_of_ble_eq_true rfl) rfl ?_
  refine z_iconst dX1_tell_0 (by unfold zIn; decide) ?_
  refine z_istore_n (ls' := [zr t, zi a1, zr a2, zi 0, zu, zu]) dX1_tell_1 rfl (by decide) rfl ?_
  refine z_aload_n dX1_tell_2 rfl rfl ?_
  refine z_getfR (k := 2) flRX1_9 ht rfl dX1_tell_3 ?_
  refine z_iload_n dX1_tell_6 rfl rfl ?_
  refine z_iconst dX1_tell_7 (by unfold zIn; decide) ?_
  have s1 : (0 : Int) ≤ a1 ∧ a1 < (24 : Int) := k1
  refine z_iast htz s1.1 s1.2 dX1_tell_8 ?_
  refine z_iconst dX1_tell_9 (by unfold zIn; decide) ?_
  refine z_istore (ls' := [zr t, zi a1, zr a2, zi 0, zi 0, zu]) dX1_tell_10 (by decide) rfl ?_
  exact k2
set_option maxRecDepth 20000 in
set_option maxHeartbeats 1000000 in
theorem TX1_tell_12 {G : zG} {σ : zS} {Q : Int → zS → Prop} {v1 v3 v4 : Int} {t to tz tn a2 a2e : Nat} (ht : zsh t = (4, 1, [none, some to, some tz])) (hto : zsh to = (0, tn, [])) (htz : zsh tz = (0, 24, [])) (ha2 : zsh a2 = (4, 9, [some a2e, none, none, none])) (ha2e : zsh a2e = (2, 80, [])) (k1 : (σ a2 2 ≤ v4) → Q 0 σ) (k2 : (v4 < σ a2 2) → (0 : Int) ≤ v4 ∧ v4 < (80 : Int)) (k3 : (v4 < σ a2 2) → (0 ≤ zW (σ a2e v4)) → (zW (σ a2e v4) < σ t 0) → (zand (zushr v3 (zW (σ a2e v4))) 1 = 0) → -2147483648 ≤ σ t 0 * v1 ∧ σ t 0 * v1 < (2147483648 : Int)) (k4 : (v4 < σ a2 2) → (0 ≤ zW (σ a2e v4)) → (zW (σ a2e v4) < σ t 0) → (zand (zushr v3 (zW (σ a2e v4))) 1 = 0) → (0 : Int) ≤ v1 ∧ v1 < (24 : Int)) (k5 : (v4 < σ a2 2) → (0 ≤ zW (σ a2e v4)) → (zW (σ a2e v4) < σ t 0) → (zand (zushr v3 (zW (σ a2e v4))) 1 = 0) → -2147483648 ≤ σ tz v1 + 1 ∧ σ tz v1 + 1 < (2147483648 : Int)) (k6 : (v4 < σ a2 2) → (0 ≤ zW (σ a2e v4)) → (zW (σ a2e v4) < σ t 0) → (zand (zushr v3 (zW (σ a2e v4))) 1 = 0) → -2147483648 ≤ (σ t 0 * v1) + σ tz v1 ∧ (σ t 0 * v1) + σ tz v1 < (2147483648 : Int)) (k7 : (v4 < σ a2 2) → (0 ≤ zW (σ a2e v4)) → (zW (σ a2e v4) < σ t 0) → (zand (zushr v3 (zW (σ a2e v4))) 1 = 0) → (0 : Int) ≤ (σ t 0 * v1) + σ tz v1 ∧ (σ t 0 * v1) + σ tz v1 < (tn : Int)) (k8 : (v4 < σ a2 2) → (zW (σ a2e v4) < 0 ∨ (0 ≤ zW (σ a2e v4) ∧ σ t 0 ≤ zW (σ a2e v4)) ∨ (0 ≤ zW (σ a2e v4) ∧ zW (σ a2e v4) < σ t 0 ∧ zand (zushr v3 (zW (σ a2e v4))) 1 ≠ 0)) → -2147483648 ≤ v4 + 1 ∧ v4 + 1 < (2147483648 : Int)) (k9 : (v4 < σ a2 2) → (zW (σ a2e v4) < 0 ∨ (0 ≤ zW (σ a2e v4) ∧ σ t 0 ≤ zW (σ a2e v4)) ∨ (0 ≤ zW (σ a2e v4) ∧ zW (σ a2e v4) < σ t 0 ∧ zand (zushr v3 (zW (σ a2e v4))) 1 ≠ 0)) → zR G MX1_tell 12 [zr t, zi v1, zr a2, zi v3, zi (v4 + 1), zu] [] σ Q) (k10 : (v4 < σ a2 2) → (0 ≤ zW (σ a2e v4)) → (zW (σ a2e v4) < σ t 0) → (zand (zushr v3 (zW (σ a2e v4))) 1 = 0) → -2147483648 ≤ v4 + 1 ∧ v4 + 1 < (2147483648 : Int)) (k11 : (v4 < σ a2 2) → (0 ≤ zW (σ a2e v4)) → (zW (σ a2e v4) < σ t 0) → (zand (zushr v3 (zW (σ a2e v4))) 1 = 0) → zR G MX1_tell 12 [zr t, zi v1, zr a2, zi (zor v3 (zshl 1 (zW (σ a2e v4)))), zi (v4 + 1), zu] [] (zup (zup σ tz v1 (σ tz v1 + 1)) to ((σ t 0 * v1) + σ tz v1) (zW (σ a2e v4))) Q) : zR G MX1_tell 12 [zr t, zi v1, zr a2, zi v3, zi v4, zu] [] σ Q := by
  have J84_1 : (v4 < σ a2 2) → (0 ≤ zW (σ a2e v4)) → (zW (σ a2e v4) < σ t 0) → (zand (zushr v3 (zW (σ a2e v4))) 1 = 0) → zR G MX1_tell 84 [zr t, zi v1, zr a2, zi (zor v3 (zshl 1 (zW (σ a2e v4)))), zi v4, zi (zW (σ a2e v4))] [] (zup (zup σ tz v1 (σ tz v1 + 1)) to ((σ t 0 * v1) + σ tz v1) (zW (σ a2e v4))) Q := by
    intro h1 h2 h3 h4
    have s10 : -2147483648 ≤ v4 + 1 ∧ v4 + 1 < (2147483648 : Int) := k10 h1 h2 h3 h4
    refine z_iincN (ls' := [zr t, zi v1, zr a2, zi (zor v3 (zshl 1 (zW (σ a2e v4)))), zi (v4 + 1), zi (zW (σ a2e v4))]) dX1_tell_84 rfl (by decide) s10 rfl ?_
    refine z_goto dX1_tell_87 (tgt := 12) (by decide) ?_
    exact zR_fg [false, false, false, false, false, true] (k11 h1 h2 h3 h4)
  have J84 : (v4 < σ a2 2) → (zW (σ a2e v4) < 0 ∨ (0 ≤ zW (σ a2e v4) ∧ σ t 0 ≤ zW (σ a2e v4)) ∨ (0 ≤ zW (σ a2e v4) ∧ zW (σ a2e v4) < σ t 0 ∧ zand (zushr v3 (zW (σ a2e v4))) 1 ≠ 0)) → zR G MX1_tell 84 [zr t, zi v1, zr a2, zi v3, zi v4, zi (zW (σ a2e v4))] [] σ Q := by
    intro h1 h5
    have s8 : -2147483648 ≤ v4 + 1 ∧ v4 + 1 < (2147483648 : Int) := k8 h1 h5
    refine z_iincN (ls' := [zr t, zi v1, zr a2, zi v3, zi (v4 + 1), zi (zW (σ a2e v4))]) dX1_tell_84 rfl (by decide) s8 rfl ?_
    refine z_goto dX1_tell_87 (tgt := 12) (by decide) ?_
    exact zR_fg [false, false, false, false, false, true] (k9 h1 h5)
  refine z_iload dX1_tell_12 rfl ?_
  refine z_aload_n dX1_tell_14 rfl rfl ?_
  refine z_getfI (k := 2) flRX1_28 ha2 rfl dX1_tell_15 ?_
  refine z_icmp_ge dX1_tell_18 (tgt := 90) (by decide) (fun h1 => ?_) (fun h1 => ?_)
  · skip
    exact z_vret rfl dX1_tell_90 (k1 h1)
  · skip
    refine z_aload_n dX1_tell_21 rfl rfl ?_
    refine z_iload dX1_tell_22 rfl ?_
    have s2 : (0 : Int) ≤ v4 ∧ v4 < (80 : Int) := k2 h1
    refine z_callv (as := [zi v4]) (st := []) mkX9_letter lkRX1_32 rfl ha2 rfl (by decide) (Nat.le_of_ble_eq_true rfl) rfl dX1_tell_24 ?_
    refine SX9_letter ha2 ha2e s2 ?_
    show zR G MX1_tell 27 [zr t, zi v1, zr a2, zi v3, zi v4, zu] [zi (zW (σ a2e v4))] σ Q
    refine z_istore (ls' := [zr t, zi v1, zr a2, zi v3, zi v4, zi (zW (σ a2e v4))]) dX1_tell_27 (by decide) rfl ?_
    refine z_iload dX1_tell_29 rfl ?_
    refine z_if_lt dX1_tell_31 (tgt := 84) (by decide) (fun h2 => ?_) (fun h2 => ?_)
    · skip
      exact J84 h1 (Or.inl h2)
    · skip
      refine z_iload dX1_tell_34 rfl ?_
      refine z_aload_n dX1_tell_36 rfl rfl ?_
      refine z_getfI (k := 0) flRX1_15 ht rfl dX1_tell_37 ?_
      refine z_icmp_ge dX1_tell_40 (tgt := 84) (by decide) (fun h3 => ?_) (fun h3 => ?_)
      · skip
        exact J84 h1 (Or.inr (Or.inl ⟨h2, h3⟩))
      · skip
        refine z_iload_n dX1_tell_43 rfl rfl ?_
        refine z_iload dX1_tell_44 rfl ?_
        refine z_iushr dX1_tell_46 ?_
        refine z_iconst dX1_tell_47 (by unfold zIn; decide) ?_
        refine z_iand dX1_tell_48 ?_
        refine z_if_ne dX1_tell_49 (tgt := 84) (by decide) (fun h4 => ?_) (fun h4 => ?_)
        · skip
          exact J84 h1 (Or.inr (Or.inr ⟨h2, h3, h4⟩))
        · skip
          refine z_iload_n dX1_tell_52 rfl rfl ?_
          refine z_iconst dX1_tell_53 (by unfold zIn; decide) ?_
          refine z_iload dX1_tell_54 rfl ?_
          refine z_ishl dX1_tell_56 ?_
          refine z_ior dX1_tell_57 ?_
          refine z_istore_n (ls' := [zr t, zi v1, zr a2, zi (zor v3 (zshl 1 (zW (σ a2e v4)))), zi v4, zi (zW (σ a2e v4))]) dX1_tell_58 rfl (by decide) rfl ?_
          refine z_aload_n dX1_tell_59 rfl rfl ?_
          refine z_getfR (k := 1) flRX1_19 ht rfl dX1_tell_60 ?_
          refine z_aload_n dX1_tell_63 rfl rfl ?_
          refine z_getfI (k := 0) flRX1_15 ht rfl dX1_tell_64 ?_
          refine z_iload_n dX1_tell_67 rfl rfl ?_
          have s3 : -2147483648 ≤ σ t 0 * v1 ∧ σ t 0 * v1 < (2147483648 : Int) := k3 h1 h2 h3 h4
          refine z_imulN dX1_tell_68 s3 ?_
          refine z_aload_n dX1_tell_69 rfl rfl ?_
          refine z_getfR (k := 2) flRX1_9 ht rfl dX1_tell_70 ?_
          refine z_iload_n dX1_tell_73 rfl rfl ?_
          refine z_dup2 dX1_tell_74 rfl rfl ?_
          have s4 : (0 : Int) ≤ v1 ∧ v1 < (24 : Int) := k4 h1 h2 h3 h4
          refine z_iald htz s4.1 s4.2 dX1_tell_75 ?_
          refine z_dup_x2 dX1_tell_76 rfl rfl rfl ?_
          refine z_iconst dX1_tell_77 (by unfold zIn; decide) ?_
          have s5 : -2147483648 ≤ σ tz v1 + 1 ∧ σ tz v1 + 1 < (2147483648 : Int) := k5 h1 h2 h3 h4
          refine z_iaddN dX1_tell_78 s5 ?_
          refine z_iast htz s4.1 s4.2 dX1_tell_79 ?_
          have s6 : -2147483648 ≤ (σ t 0 * v1) + σ tz v1 ∧ (σ t 0 * v1) + σ tz v1 < (2147483648 : Int) := k6 h1 h2 h3 h4
          refine z_iaddN dX1_tell_80 s6 ?_
          refine z_iload dX1_tell_81 rfl ?_
          have s7 : (0 : Int) ≤ (σ t 0 * v1) + σ tz v1 ∧ (σ t 0 * v1) + σ tz v1 < (tn : Int) := k7 h1 h2 h3 h4
          refine z_iast hto s7.1 s7.2 dX1_tell_83 ?_
          exact J84_1 h1 h2 h3 h4
set_option maxRecDepth 20000 in
set_option maxHeartbeats 1000000 in
theorem TX11_choiceOf {G : zG} {σ : zS} {Q : Int → zS → Prop} {a2 a3 : Int} {a1 a1o a1z a1n : Nat} (ha1 : zsh a1 = (4, 1, [none, some a1o, some a1z])) (ha1o : zsh a1o = (0, a1n, [])) (ha1z : zsh a1z = (0, 24, [])) (k1 : (¬ ((0 ≤ a2 ∧ a2 < σ 22 12))) → -2147483648 ≤ -(-1) ∧ -(-1) < (2147483648 : Int)) (k2 : (¬ ((0 ≤ a2 ∧ a2 < σ 22 12))) → (0 : Int) ≤ -(-1) ∧ -(-1) < (8 : Int)) (k3 : (¬ ((0 ≤ a2 ∧ a2 < σ 22 12))) → Q (-1) (zup σ 97 (-(-1)) (zW ((σ 97 (-(-1))) + 1)))) (k4 : ((0 ≤ a2 ∧ a2 < σ 22 12)) → zO G MX11_rowTrouble [zr 0, zi a3] σ (fun rr σ' => zR G MX11_choiceOf 16 [zr 0, zr a1, zi a2, zi a3, zu] [zi rr] σ' Q)) : zO G MX11_choiceOf [zr 0, zr a1, zi a2, zi a3] σ Q := by
  refine zO_of (ls0 := [zr 0, zr a1, zi a2, zi a3, zu]) (by decide) (Nat.le_of_ble_eq_true rfl) rfl ?_
  refine z_aload_n dX11_choiceOf_0 rfl rfl ?_
  refine z_getfR (k := 1) flRX11_18 rfl rfl dX11_choiceOf_1 ?_
  refine z_iload_n dX11_choiceOf_4 rfl rfl ?_
  refine z_callv (as := [zi a2]) (st := []) mkX5_has lkRX11_146 rfl rfl rfl (by decide) (Nat.le_of_ble_eq_true rfl) rfl dX11_choiceOf_5 ?_
  refine SX5_has ?_
  show zR G MX11_choiceOf 8 [zr 0, zr a1, zi a2, zi a3, zu] [zi (if (0 ≤ a2 ∧ a2 < σ 22 12) then (1 : Int) else 0)] σ Q
  refine z_if_eq dX11_choiceOf_8 (tgt := 19) (by decide) (fun z => ?_) (fun z => ?_)
  · have h1 : ¬ ((0 ≤ a2 ∧ a2 < σ 22 12)) := zb0 z
    refine z_iconst dX11_choiceOf_19 (by unfold zIn; decide) ?_
    refine z_istore (ls' := [zr 0, zr a1, zi a2, zi a3, zi (-1)]) dX11_choiceOf_20 (by decide) rfl ?_
    refine z_iload dX11_choiceOf_22 rfl ?_
    refine z_if_eq dX11_choiceOf_24 (tgt := 34) (by decide) (fun z => absurd z (by decide)) (fun z => ?_)
    refine z_aload_n dX11_choiceOf_27 rfl rfl ?_
    refine z_iload dX11_choiceOf_28 rfl ?_
    have s1 : -2147483648 ≤ -(-1) ∧ -(-1) < (2147483648 : Int) := k1 h1
    have s2 : (0 : Int) ≤ -(-1) ∧ -(-1) < (8 : Int) := k2 h1
    refine z_callv (as := [zi (-1)]) (st := []) mkX11_refuse lkRX11_132 rfl rfl rfl (by decide) (Nat.le_of_ble_eq_true rfl) rfl dX11_choiceOf_30 ?_
    refine SX11_refuse s1 s2 ?_
    show zR G MX11_choiceOf 33 [zr 0, zr a1, zi a2, zi a3, zi (-1)] [zi (-1)] (zup σ 97 (-(-1)) (zW ((σ 97 (-(-1))) + 1))) Q
    exact z_ireti rfl dX11_choiceOf_33 (k3 h1)
  · have h1 : (0 ≤ a2 ∧ a2 < σ 22 12) := zb1 z
    refine z_aload_n dX11_choiceOf_11 rfl rfl ?_
    refine z_iload_n dX11_choiceOf_12 rfl rfl ?_
    refine z_callv (as := [zi a3]) (st := []) mkX11_rowTrouble lkRX11_198 rfl rfl rfl (by decide) (Nat.le_of_ble_eq_true rfl) rfl dX11_choiceOf_13 (k4 h1)
set_option maxRecDepth 20000 in
set_option maxHeartbeats 1000000 in
theorem TX11_choiceOf_16 {G : zG} {σ : zS} {Q : Int → zS → Prop} {v2 v3 r : Int} {a1 a1o a1z a1n : Nat} (ha1 : zsh a1 = (4, 1, [none, some a1o, some a1z])) (ha1o : zsh a1o = (0, a1n, [])) (ha1z : zsh a1z = (0, 24, [])) (k1 : (r = 0) → (0 : Int) ≤ v3 ∧ v3 < (10 : Int)) (k2 : (r = 0) → zO G MX1_tell [zr a1, zi v2, zr (2 + 2 * v3.toNat)] σ (fun rr σ' => zR G MX11_choiceOf 45 [zr 0, zr a1, zi v2, zi v3, zi r] [] σ' Q)) (k3 : (r ≠ 0) → -2147483648 ≤ -r ∧ -r < (2147483648 : Int)) (k4 : (r ≠ 0) → (0 : Int) ≤ -r ∧ -r < (8 : Int)) (k5 : (r ≠ 0) → Q r (zup σ 97 (-r) (zW ((σ 97 (-r)) + 1)))) : zR G MX11_choiceOf 16 [zr 0, zr a1, zi v2, zi v3, zu] [zi r] σ Q := by
  refine z_goto dX11_choiceOf_16 (tgt := 20) (by decide) ?_
  refine z_istore (ls' := [zr 0, zr a1, zi v2, zi v3, zi r]) dX11_choiceOf_20 (by decide) rfl ?_
  refine z_iload dX11_choiceOf_22 rfl ?_
  refine z_if_eq dX11_choiceOf_24 (tgt := 34) (by decide) (fun h1 => ?_) (fun h1 => ?_)
  · skip
    refine z_aload_n dX11_choiceOf_34 rfl rfl ?_
    refine z_iload_n dX11_choiceOf_35 rfl rfl ?_
    refine z_aload_n dX11_choiceOf_36 rfl rfl ?_
    refine z_getfR (k := 0) flRX11_11 rfl rfl dX11_choiceOf_37 ?_
    refine z_iload_n dX11_choiceOf_40 rfl rfl ?_
    have s1 : (0 : Int) ≤ v3 ∧ v3 < (10 : Int) := k1 h1
    refine z_aald (r := 2 + 2 * v3.toNat) rfl s1.1 s1.2 (zsh_v s1.1 s1.2) dX11_choiceOf_41 ?_
    refine z_callv (as := [zi v2, zr (2 + 2 * v3.toNat)]) (st := []) mkX1_tell lkRX11_310 rfl ha1 rfl (by decide) (Nat.le_of_ble_eq_true rfl) rfl dX11_choiceOf_42 (k2 h1)
  · skip
    refine z_aload_n dX11_choiceOf_27 rfl rfl ?_
    refine z_iload dX11_choiceOf_28 rfl ?_
    have s3 : -2147483648 ≤ -r ∧ -r < (2147483648 : Int) := k3 h1
    have s4 : (0 : Int) ≤ -r ∧ -r < (8 : Int) := k4 h1
    refine z_callv (as := [zi r]) (st := []) mkX11_refuse lkRX11_132 rfl rfl rfl (by decide) (Nat.le_of_ble_eq_true rfl) rfl dX11_choiceOf_30 ?_
    refine SX11_refuse s3 s4 ?_
    show zR G MX11_choiceOf 33 [zr 0, zr a1, zi v2, zi v3, zi r] [zi r] (zup σ 97 (-r) (zW ((σ 97 (-r)) + 1))) Q
    exact z_ireti rfl dX11_choiceOf_33 (k5 h1)
set_option maxRecDepth 20000 in
set_option maxHeartbeats 1000000 in
theorem TX11_choiceOf_45 {G : zG} {σ : zS} {Q : Int → zS → Prop} {v2 v3 v4 : Int} {a1 a1o a1z a1n : Nat} (ha1 : zsh a1 = (4, 1, [none, some a1o, some a1z])) (ha1o : zsh a1o = (0, a1n, [])) (ha1z : zsh a1z = (0, 24, [])) (k1 : (0 : Int) ≤ v3 ∧ v3 < (10 : Int)) (k2 : Q (σ (2 + 2 * v3.toNat) 2) σ) : zR G MX11_choiceOf 45 [zr 0, zr a1, zi v2, zi v3, zi v4] [] σ Q := by
  refine z_aload_n dX11_choiceOf_45 rfl rfl ?_
  refine z_getfR (k := 0) flRX11_11 rfl rfl dX11_choiceOf_46 ?_
  refine z_iload_n dX11_choiceOf_49 rfl rfl ?_
  have s1 : (0 : Int) ≤ v3 ∧ v3 < (10 : Int) := k1
  refine z_aald (r := 2 + 2 * v3.toNat) rfl s1.1 s1.2 (zsh_v s1.1 s1.2) dX11_choiceOf_50 ?_
  refine z_getfI (k := 2) flRX11_235 (zsh_o s1.1 s1.2) rfl dX11_choiceOf_51 ?_
  exact z_ireti rfl dX11_choiceOf_54 (k2)
set_option maxRecDepth 20000 in
set_option maxHeartbeats 1000000 in
theorem TX11_ballot {G : zG} {σ : zS} {Q : Int → zS → Prop} {a1 a2 : Int}  (k1 : zO G MX11_choiceOf [zr 0, zr 59, zi a1, zi a2] σ (fun rr σ' => zR G MX11_ballot 10 [zr 0, zi a1, zi a2] [zi rr] σ' Q)) : zO G MX11_ballot [zr 0, zi a1, zi a2] σ Q := by
  refine zO_of (ls0 := [zr 0, zi a1, zi a2]) (by decide) (Nat.le_of_ble_eq_true rfl) rfl ?_
  refine z_aload_n dX11_ballot_0 rfl rfl ?_
  refine z_aload_n dX11_ballot_1 rfl rfl ?_
  refine z_getfR (k := 5) flRX11_52 rfl rfl dX11_ballot_2 ?_
  refine z_iload_n dX11_ballot_5 rfl rfl ?_
  refine z_iload_n dX11_ballot_6 rfl rfl ?_
  refine z_callv (as := [zr 59, zi a1, zi a2]) (st := []) mkX11_choiceOf lkRX11_306 rfl rfl rfl (by decide) (Nat.le_of_ble_eq_true rfl) rfl dX11_ballot_7 (k1)
set_option maxRecDepth 20000 in
set_option maxHeartbeats 1000000 in
theorem TX11_ballot_10 {G : zG} {σ : zS} {Q : Int → zS → Prop} {v1 v2 r : Int}  (k1 : Q r σ) : zR G MX11_ballot 10 [zr 0, zi v1, zi v2] [zi r] σ Q := by
  exact z_ireti rfl dX11_ballot_10 (k1)
set_option maxRecDepth 20000 in
set_option maxHeartbeats 1000000 in
theorem TX2_withBallots {G : zG} {σ : zS} {Q : Int → zS → Prop}  (k1 : zO G MX6_holdersOf [zr 52, zi 1] σ (fun rr σ' => zR G MX2_withBallots 8 [zr 65, zu, zu] [zi rr] σ' Q)) : zO G MX2_withBallots [zr 65] σ Q := by
  refine zO_of (ls0 := [zr 65, zu, zu]) (by decide) (Nat.le_of_ble_eq_true rfl) rfl ?_
  refine z_aload_n dX2_withBallots_0 rfl rfl ?_
  refine z_getfR (k := 1) flRX2_44 rfl rfl dX2_withBallots_1 ?_
  refine z_iconst dX2_withBallots_4 (by unfold zIn; decide) ?_
  refine z_callv (as := [zi 1]) (st := []) mkX6_holdersOf lkRX2_76 rfl rfl rfl (by decide) (Nat.le_of_ble_eq_true rfl) rfl dX2_withBallots_5 (k1)
set_option maxRecDepth 20000 in
set_option maxHeartbeats 1000000 in
theorem TX2_withBallots_8 {G : zG} {σ : zS} {Q : Int → zS → Prop} {r : Int}  (k1 : zR G MX2_withBallots 11 [zr 65, zi r, zi 0] [] σ Q) : zR G MX2_withBallots 8 [zr 65, zu, zu] [zi r] σ Q := by
  refine z_istore_n (ls' := [zr 65, zi r, zu]) dX2_withBallots_8 rfl (by decide) rfl ?_
  refine z_iconst dX2_withBallots_9 (by unfold zIn; decide) ?_
  refine z_istore_n (ls' := [zr 65, zi r, zi 0]) dX2_withBallots_10 rfl (by decide) rfl ?_
  exact k1
set_option maxRecDepth 20000 in
set_option maxHeartbeats 1000000 in
theorem TX2_withBallots_11 {G : zG} {σ : zS} {Q : Int → zS → Prop} {v1 v2 : Int}  (k1 : (24 ≤ v2) → Q v1 σ) (k2 : (v2 < 24) → (0 : Int) ≤ v2 ∧ v2 < (24 : Int)) (k3 : (v2 < 24) → (σ 61 v2 ≠ (-1)) → -2147483648 ≤ v2 + 1 ∧ v2 + 1 < (2147483648 : Int)) (k4 : (v2 < 24) → (σ 61 v2 ≠ (-1)) → zR G MX2_withBallots 11 [zr 65, zi v1, zi (v2 + 1)] [] σ Q) (k5 : (v2 < 24) → (¬ (σ 61 v2 ≠ (-1))) → -2147483648 ≤ v2 + 1 ∧ v2 + 1 < (2147483648 : Int)) (k6 : (v2 < 24) → (¬ (σ 61 v2 ≠ (-1))) → zR G MX2_withBallots 11 [zr 65, zi (zand v1 (zxor (zshl 1 v2) (-1))), zi (v2 + 1)] [] σ Q) : zR G MX2_withBallots 11 [zr 65, zi v1, zi v2] [] σ Q := by
  have J36_1 : (v2 < 24) → (¬ (σ 61 v2 ≠ (-1))) → zR G MX2_withBallots 36 [zr 65, zi (zand v1 (zxor (zshl 1 v2) (-1))), zi v2] [] σ Q := by
    intro h1 h2
    have s5 : -2147483648 ≤ v2 + 1 ∧ v2 + 1 < (2147483648 : Int) := k5 h1 h2
    refine z_iincN (ls' := [zr 65, zi (zand v1 (zxor (zshl 1 v2) (-1))), zi (v2 + 1)]) dX2_withBallots_36 rfl (by decide) s5 rfl ?_
    refine z_goto dX2_withBallots_39 (tgt := 11) (by decide) ?_
    exact k6 h1 h2
  have J36 : (v2 < 24) → (σ 61 v2 ≠ (-1)) → zR G MX2_withBallots 36 [zr 65, zi v1, zi v2] [] σ Q := by
    intro h1 h2
    have s3 : -2147483648 ≤ v2 + 1 ∧ v2 + 1 < (2147483648 : Int) := k3 h1 h2
    refine z_iincN (ls' := [zr 65, zi v1, zi (v2 + 1)]) dX2_withBallots_36 rfl (by decide) s3 rfl ?_
    refine z_goto dX2_withBallots_39 (tgt := 11) (by decide) ?_
    exact k4 h1 h2
  refine z_iload_n dX2_withBallots_11 rfl rfl ?_
  refine z_bipush (x := 24) dX2_withBallots_12 (by decide +kernel) (by unfold zIn; decide) ?_
  refine z_icmp_ge dX2_withBallots_14 (tgt := 42) (by decide) (fun h1 => ?_) (fun h1 => ?_)
  · skip
    refine z_iload_n dX2_withBallots_42 rfl rfl ?_
    exact z_ireti rfl dX2_withBallots_43 (k1 h1)
  · skip
    refine z_aload_n dX2_withBallots_17 rfl rfl ?_
    refine z_getfR (k := 3) flRX2_52 rfl rfl dX2_withBallots_18 ?_
    refine z_iload_n dX2_withBallots_21 rfl rfl ?_
    have s2 : (0 : Int) ≤ v2 ∧ v2 < (24 : Int) := k2 h1
    refine z_callv (as := [zi v2]) (st := []) mkX1_has lkRX2_79 rfl rfl rfl (by decide) (Nat.le_of_ble_eq_true rfl) rfl dX2_withBallots_22 ?_
    refine SX1_has rfl rfl rfl s2 ?_
    show zR G MX2_withBallots 25 [zr 65, zi v1, zi v2] [zi (if σ 61 v2 ≠ (-1) then (1 : Int) else 0)] σ Q
    refine z_if_ne dX2_withBallots_25 (tgt := 36) (by decide) (fun z => ?_) (fun z => ?_)
    · have h2 : σ 61 v2 ≠ (-1) := zb1 z
      exact J36 h1 h2
    · have h2 : ¬ (σ 61 v2 ≠ (-1)) := zb0 z
      refine z_iload_n dX2_withBallots_28 rfl rfl ?_
      refine z_iconst dX2_withBallots_29 (by unfold zIn; decide) ?_
      refine z_iload_n dX2_withBallots_30 rfl rfl ?_
      refine z_ishl dX2_withBallots_31 ?_
      refine z_iconst dX2_withBallots_32 (by unfold zIn; decide) ?_
      refine z_ixor dX2_withBallots_33 ?_
      refine z_iand dX2_withBallots_34 ?_
      refine z_istore_n (ls' := [zr 65, zi (zand v1 (zxor (zshl 1 v2) (-1))), zi v2]) dX2_withBallots_35 rfl (by decide) rfl ?_
      exact J36_1 h1 h2
set_option maxRecDepth 20000 in
set_option maxHeartbeats 1000000 in
theorem TX2_canBe {G : zG} {σ : zS} {Q : Int → zS → Prop} {a1 a2 a3 : Int}  (k1 : (a2 ≠ 0) → zR G MX2_canBe 9 [zr 65, zi a1, zi a2, zi a3, zi 0] [] σ Q) (k2 : (a2 = 0) → Q 0 σ) : zO G MX2_canBe [zr 65, zi a1, zi a2, zi a3] σ Q := by
  refine zO_of (ls0 := [zr 65, zi a1, zi a2, zi a3, zu]) (by decide) (Nat.le_of_ble_eq_true rfl) rfl ?_
  refine z_iload_n dX2_canBe_0 rfl rfl ?_
  refine z_if_ne dX2_canBe_1 (tgt := 6) (by decide) (fun h1 => ?_) (fun h1 => ?_)
  · skip
    refine z_iconst dX2_canBe_6 (by unfold zIn; decide) ?_
    refine z_istore (ls' := [zr 65, zi a1, zi a2, zi a3, zi 0]) dX2_canBe_7 (by decide) rfl ?_
    exact k1 h1
  · skip
    refine z_iconst dX2_canBe_4 (by unfold zIn; decide) ?_
    exact z_iretz rfl (by decide) dX2_canBe_5 (k2 h1)
set_option maxRecDepth 20000 in
set_option maxHeartbeats 1000000 in
theorem TX2_canBe_9 {G : zG} {σ : zS} {Q : Int → zS → Prop} {v1 v2 v3 v4 : Int}  (k1 : (σ 22 12 ≤ v4) → zO G MX2_withBallots [zr 65] σ (fun rr σ' => zR G MX2_canBe 56 [zr 65, zi v1, zi v2, zi v3, zi v4] [zi rr] σ' Q)) (k2 : (v4 < σ 22 12) → (zand (zushr v2 v4) 1 ≠ 0) → zO G MX6_canTake [zr 52, zi v4, zi v1, zi v3] σ (fun rr σ' => zR G MX2_canBe 41 [zr 65, zi v1, zi v2, zi v3, zi v4] [zi rr] σ' Q)) (k3 : (v4 < σ 22 12) → (zand (zushr v2 v4) 1 = 0) → -2147483648 ≤ v4 + 1 ∧ v4 + 1 < (2147483648 : Int)) (k4 : (v4 < σ 22 12) → (zand (zushr v2 v4) 1 = 0) → zR G MX2_canBe 9 [zr 65, zi v1, zi v2, zi v3, zi (v4 + 1)] [] σ Q) : zR G MX2_canBe 9 [zr 65, zi v1, zi v2, zi v3, zi v4] [] σ Q := by
  have J46 : (v4 < σ 22 12) → (zand (zushr v2 v4) 1 = 0) → zR G MX2_canBe 46 [zr 65, zi v1, zi v2, zi v3, zi v4] [] σ Q := by
    intro h1 h2
    have s3 : -2147483648 ≤ v4 + 1 ∧ v4 + 1 < (2147483648 : Int) := k3 h1 h2
    refine z_iincN (ls' := [zr 65, zi v1, zi v2, zi v3, zi (v4 + 1)]) dX2_canBe_46 rfl (by decide) s3 rfl ?_
    refine z_goto dX2_canBe_49 (tgt := 9) (by decide) ?_
    exact k4 h1 h2
  refine z_iload dX2_canBe_9 rfl ?_
  refine z_aload_n dX2_canBe_11 rfl rfl ?_
  refine z_getfR (k := 0) flRX2_40 rfl rfl dX2_canBe_12 ?_
  refine z_getfI (k := 12) flRX2_55 rfl rfl dX2_canBe_15 ?_
  refine z_icmp_ge dX2_canBe_18 (tgt := 52) (by decide) (fun h1 => ?_) (fun h1 => ?_)
  · skip
    refine z_aload_n dX2_canBe_52 rfl rfl ?_
    refine z_callv (as := []) (st := []) mkX2_withBallots lkRX2_66 rfl rfl rfl (by decide) (Nat.le_of_ble_eq_true rfl) rfl dX2_canBe_53 (k1 h1)
  · skip
    refine z_iload_n dX2_canBe_21 rfl rfl ?_
    refine z_iload dX2_canBe_22 rfl ?_
    refine z_iushr dX2_canBe_24 ?_
    refine z_iconst dX2_canBe_25 (by unfold zIn; decide) ?_
    refine z_iand dX2_canBe_26 ?_
    refine z_if_eq dX2_canBe_27 (tgt := 46) (by decide) (fun h2 => ?_) (fun h2 => ?_)
    · skip
      exact J46 h1 h2
    · skip
      refine z_aload_n dX2_canBe_30 rfl rfl ?_
      refine z_getfR (k := 1) flRX2_44 rfl rfl dX2_canBe_31 ?_
      refine z_iload dX2_canBe_34 rfl ?_
      refine z_iload_n dX2_canBe_36 rfl rfl ?_
      refine z_iload_n dX2_canBe_37 rfl rfl ?_
      refine z_callv (as := [zi v4, zi v1, zi v3]) (st := []) mkX6_canTake lkRX2_60 rfl rfl rfl (by decide) (Nat.le_of_ble_eq_true rfl) rfl dX2_canBe_38 (k2 h1 h2)
set_option maxRecDepth 20000 in
set_option maxHeartbeats 1000000 in
theorem TX2_canBe_41 {G : zG} {σ : zS} {Q : Int → zS → Prop} {v1 v2 v3 v4 r : Int}  (k1 : (r = 0) → Q 0 σ) (k2 : (r ≠ 0) → -2147483648 ≤ v4 + 1 ∧ v4 + 1 < (2147483648 : Int)) (k3 : (r ≠ 0) → zR G MX2_canBe 9 [zr 65, zi v1, zi v2, zi v3, zi (v4 + 1)] [] σ Q) : zR G MX2_canBe 41 [zr 65, zi v1, zi v2, zi v3, zi v4] [zi r] σ Q := by
  have J46 : (r ≠ 0) → zR G MX2_canBe 46 [zr 65, zi v1, zi v2, zi v3, zi v4] [] σ Q := by
    intro h1
    have s2 : -2147483648 ≤ v4 + 1 ∧ v4 + 1 < (2147483648 : Int) := k2 h1
    refine z_iincN (ls' := [zr 65, zi v1, zi v2, zi v3, zi (v4 + 1)]) dX2_canBe_46 rfl (by decide) s2 rfl ?_
    refine z_goto dX2_canBe_49 (tgt := 9) (by decide) ?_
    exact k3 h1
  refine z_if_ne dX2_canBe_41 (tgt := 46) (by decide) (fun h1 => ?_) (fun h1 => ?_)
  · skip
    exact J46 h1
  · skip
    refine z_iconst dX2_canBe_44 (by unfold zIn; decide) ?_
    exact z_iretz rfl (by decide) dX2_canBe_45 (k1 h1)
set_option maxRecDepth 20000 in
set_option maxHeartbeats 1000000 in
theorem TX2_canBe_56 {G : zG} {σ : zS} {Q : Int → zS → Prop} {v1 v2 v3 v4 r : Int}  (k1 : zO G MJ6_bitCount_0f7a4 [zi r] σ (fun rr σ' => zR G MX2_canBe 59 [zr 65, zi v1, zi v2, zi v3, zi v4] [zi rr] σ' Q)) : zR G MX2_canBe 56 [zr 65, zi v1, zi v2, zi v3, zi v4] [zi r] σ Q := by
  refine z_calls (as := [zi r]) (st := []) mkJ6_bitCount_0f7a4 lkRX2_70 rfl (by decide) (Nat.le_of_ble_eq_true rfl) rfl dX2_canBe_56 (k1)
set_option maxRecDepth 20000 in
set_option maxHeartbeats 1000000 in
theorem TX2_canBe_59 {G : zG} {σ : zS} {Q : Int → zS → Prop} {v1 v2 v3 v4 r : Int}  (k1 : (1 ≤ r) → -2147483648 ≤ 2 * r ∧ 2 * r < (2147483648 : Int)) (k2 : (1 ≤ r) → zO G MX6_holdersOf [zr 52, zi 1] σ (fun rr σ' => zR G MX2_canBe 79 [zr 65, zi v1, zi v2, zi v3, zi r] [zi rr, zi (2 * r)] σ' Q)) (k3 : (r < 1) → Q 0 σ) : zR G MX2_canBe 59 [zr 65, zi v1, zi v2, zi v3, zi v4] [zi r] σ Q := by
  have J89 : (r < 1) → zR G MX2_canBe 89 [zr 65, zi v1, zi v2, zi v3, zi r] [] σ Q := by
    intro h1
    refine z_iconst dX2_canBe_89 (by unfold zIn; decide) ?_
    exact z_iretz rfl (by decide) dX2_canBe_90 (k3 h1)
  refine z_istore (ls' := [zr 65, zi v1, zi v2, zi v3, zi r]) dX2_canBe_59 (by decide) rfl ?_
  refine z_iload dX2_canBe_61 rfl ?_
  refine z_iconst dX2_canBe_63 (by unfold zIn; decide) ?_
  refine z_icmp_lt dX2_canBe_64 (tgt := 89) (by decide) (fun h1 => ?_) (fun h1 => ?_)
  · skip
    exact J89 h1
  · skip
    refine z_iconst dX2_canBe_67 (by unfold zIn; decide) ?_
    refine z_iload dX2_canBe_68 rfl ?_
    have s1 : -2147483648 ≤ 2 * r ∧ 2 * r < (2147483648 : Int) := k1 h1
    refine z_imulN dX2_canBe_70 s1 ?_
    refine z_aload_n dX2_canBe_71 rfl rfl ?_
    refine z_getfR (k := 1) flRX2_44 rfl rfl dX2_canBe_72 ?_
    refine z_iconst dX2_canBe_75 (by unfold zIn; decide) ?_
    refine z_callv (as := [zi 1]) (st := [zi (2 * r)]) mkX6_holdersOf lkRX2_76 rfl rfl rfl (by decide) (Nat.le_of_ble_eq_true rfl) rfl dX2_canBe_76 (k2 h1)
set_option maxRecDepth 20000 in
set_option maxHeartbeats 1000000 in
theorem TX2_canBe_79 {G : zG} {σ : zS} {Q : Int → zS → Prop} {v1 v2 v3 v4 r t1 : Int}  (k1 : zO G MJ6_bitCount_0f7a4 [zi r] σ (fun rr σ' => zR G MX2_canBe 82 [zr 65, zi v1, zi v2, zi v3, zi v4] [zi rr, zi t1] σ' Q)) : zR G MX2_canBe 79 [zr 65, zi v1, zi v2, zi v3, zi v4] [zi r, zi t1] σ Q := by
  refine z_calls (as := [zi r]) (st := [zi t1]) mkJ6_bitCount_0f7a4 lkRX2_70 rfl (by decide) (Nat.le_of_ble_eq_true rfl) rfl dX2_canBe_79 (k1)
set_option maxRecDepth 20000 in
set_option maxHeartbeats 1000000 in
theorem TX2_canBe_82 {G : zG} {σ : zS} {Q : Int → zS → Prop} {v1 v2 v3 v4 r t1 : Int}  (k1 : (r ≤ t1) → Q 1 σ) (k2 : (t1 < r) → Q 0 σ) : zR G MX2_canBe 82 [zr 65, zi v1, zi v2, zi v3, zi v4] [zi r, zi t1] σ Q := by
  have J89 : (t1 < r) → zR G MX2_canBe 89 [zr 65, zi v1, zi v2, zi v3, zi v4] [] σ Q := by
    intro h1
    refine z_iconst dX2_canBe_89 (by unfold zIn; decide) ?_
    exact z_iretz rfl (by decide) dX2_canBe_90 (k2 h1)
  refine z_icmp_lt dX2_canBe_82 (tgt := 89) (by decide) (fun h1 => ?_) (fun h1 => ?_)
  · skip
    exact J89 h1
  · skip
    refine z_iconst dX2_canBe_85 (by unfold zIn; decide) ?_
    refine z_goto dX2_canBe_86 (tgt := 90) (by decide) ?_
    exact z_iretz rfl (by decide) dX2_canBe_90 (k1 h1)
set_option maxRecDepth 20000 in
set_option maxHeartbeats 1000000 in
theorem TX2_firstOfficer {G : zG} {σ : zS} {Q : Int → zS → Prop}  (k1 : zR G MX2_firstOfficer 2 [zr 65, zi 0] [] σ Q) : zO G MX2_firstOfficer [zr 65] σ Q := by
  refine zO_of (ls0 := [zr 65, zu]) (by decide) (Nat.le_of_ble_eq_true rfl) rfl ?_
  refine z_iconst dX2_firstOfficer_0 (by unfold zIn; decide) ?_
  refine z_istore_n (ls' := [zr 65, zi 0]) dX2_firstOfficer_1 rfl (by decide) rfl ?_
  exact k1
set_option maxRecDepth 20000 in
set_option maxHeartbeats 1000000 in
theorem TX2_firstOfficer_2 {G : zG} {σ : zS} {Q : Int → zS → Prop} {v1 : Int}  (k1 : (σ 52 7 ≤ v1) → Q (-1) σ) (k2 : (v1 < σ 52 7) → (0 : Int) ≤ v1 ∧ v1 < (12 : Int)) (k3 : (v1 < σ 52 7) → (σ 53 v1 = 2) → (σ 54 v1 ≠ (-1)) → Q (σ 54 v1) σ) (k4 : (v1 < σ 52 7) → (σ 53 v1 ≠ 2 ∨ (σ 53 v1 = 2 ∧ σ 54 v1 = (-1))) → -2147483648 ≤ v1 + 1 ∧ v1 + 1 < (2147483648 : Int)) (k5 : (v1 < σ 52 7) → (σ 53 v1 ≠ 2 ∨ (σ 53 v1 = 2 ∧ σ 54 v1 = (-1))) → zR G MX2_firstOfficer 2 [zr 65, zi (v1 + 1)] [] σ Q) : zR G MX2_firstOfficer 2 [zr 65, zi v1] [] σ Q := by
  have J49 : (v1 < σ 52 7) → (σ 53 v1 ≠ 2 ∨ (σ 53 v1 = 2 ∧ σ 54 v1 = (-1))) → zR G MX2_firstOfficer 49 [zr 65, zi v1] [] σ Q := by
    intro h1 h4
    have s4 : -2147483648 ≤ v1 + 1 ∧ v1 + 1 < (2147483648 : Int) := k4 h1 h4
    refine z_iincN (ls' := [zr 65, zi (v1 + 1)]) dX2_firstOfficer_49 rfl (by decide) s4 rfl ?_
    refine z_goto dX2_firstOfficer_52 (tgt := 2) (by decide) ?_
    exact k5 h1 h4
  refine z_iload_n dX2_firstOfficer_2 rfl rfl ?_
  refine z_aload_n dX2_firstOfficer_3 rfl rfl ?_
  refine z_getfR (k := 1) flRX2_44 rfl rfl dX2_firstOfficer_4 ?_
  refine z_getfI (k := 7) flRX2_83 rfl rfl dX2_firstOfficer_7 ?_
  refine z_icmp_ge dX2_firstOfficer_10 (tgt := 55) (by decide) (fun h1 => ?_) (fun h1 => ?_)
  · skip
    refine z_iconst dX2_firstOfficer_55 (by unfold zIn; decide) ?_
    exact z_ireti rfl dX2_firstOfficer_56 (k1 h1)
  · skip
    refine z_aload_n dX2_firstOfficer_13 rfl rfl ?_
    refine z_getfR (k := 1) flRX2_44 rfl rfl dX2_firstOfficer_14 ?_
    refine z_getfR (k := 1) flRX2_84 rfl rfl dX2_firstOfficer_17 ?_
    refine z_iload_n dX2_firstOfficer_20 rfl rfl ?_
    have s2 : (0 : Int) ≤ v1 ∧ v1 < (12 : Int) := k2 h1
    refine z_iald rfl s2.1 s2.2 dX2_firstOfficer_21 ?_
    refine z_iconst dX2_firstOfficer_22 (by unfold zIn; decide) ?_
    refine z_icmp_ne dX2_firstOfficer_23 (tgt := 49) (by decide) (fun h2 => ?_) (fun h2 => ?_)
    · skip
      exact J49 h1 (Or.inl h2)
    · skip
      refine z_aload_n dX2_firstOfficer_26 rfl rfl ?_
      refine z_getfR (k := 1) flRX2_44 rfl rfl dX2_firstOfficer_27 ?_
      refine z_getfR (k := 2) flRX2_87 rfl rfl dX2_firstOfficer_30 ?_
      refine z_iload_n dX2_firstOfficer_33 rfl rfl ?_
      refine z_iald rfl s2.1 s2.2 dX2_firstOfficer_34 ?_
      refine z_iconst dX2_firstOfficer_35 (by unfold zIn; decide) ?_
      refine z_icmp_eq dX2_firstOfficer_36 (tgt := 49) (by decide) (fun h3 => ?_) (fun h3 => ?_)
      · skip
        exact J49 h1 (Or.inr ⟨h2, h3⟩)
      · skip
        refine z_aload_n dX2_firstOfficer_39 rfl rfl ?_
        refine z_getfR (k := 1) flRX2_44 rfl rfl dX2_firstOfficer_40 ?_
        refine z_getfR (k := 2) flRX2_87 rfl rfl dX2_firstOfficer_43 ?_
        refine z_iload_n dX2_firstOfficer_46 rfl rfl ?_
        refine z_iald rfl s2.1 s2.2 dX2_firstOfficer_47 ?_
        exact z_ireti rfl dX2_firstOfficer_48 (k3 h1 h2 h3)
set_option maxRecDepth 20000 in
set_option maxHeartbeats 1000000 in
theorem TX1_takeOver {G : zG} {σ : zS} {Q : Int → zS → Prop} {t to tz tn a1 a1o a1z a1n : Nat} (ht : zsh t = (4, 1, [none, some to, some tz])) (hto : zsh to = (0, tn, [])) (htz : zsh tz = (0, 24, [])) (ha1 : zsh a1 = (4, 1, [none, some a1o, some a1z])) (ha1o : zsh a1o = (0, a1n, [])) (ha1z : zsh a1z = (0, 24, [])) (k1 : (σ a1 0 = σ t 0) → tn < 2147483648) (k2 : (σ a1 0 = σ t 0) → 0 ≤ (0 : Int) ∧ 0 ≤ (0 : Int) ∧ 0 ≤ (tn : Int) ∧ (0 : Int) + (tn : Int) ≤ (a1n : Int) ∧ (0 : Int) + (tn : Int) ≤ (tn : Int)) (k3 : (σ a1 0 = σ t 0) → 0 ≤ (0 : Int) ∧ 0 ≤ (0 : Int) ∧ 0 ≤ (24 : Int) ∧ (0 : Int) + (24 : Int) ≤ 24 ∧ (0 : Int) + (24 : Int) ≤ 24) (k4 : (σ a1 0 ≠ σ t 0) → Q 0 σ) (k5 : (σ a1 0 = σ t 0) → Q 0 (zcp (zcp σ a1o 0 to 0 (tn : Int)) a1z 0 tz 0 24)) : zO G MX1_takeOver [zr t, zr a1] σ Q := by
  refine zO_of (ls0 := [zr t, zr a1]) (by decide) (Nat.le_of_ble_eq_true rfl) rfl ?_
  have J47_1 : (σ a1 0 = σ t 0) → zR G MX1_takeOver 47 [zr t, zr a1] [] (zcp (zcp σ a1o 0 to 0 (tn : Int)) a1z 0 tz 0 24) Q := by
    intro h1
    exact z_vret rfl dX1_takeOver_47 (k5 h1)
  have J47 : (σ a1 0 ≠ σ t 0) → zR G MX1_takeOver 47 [zr t, zr a1] [] σ Q := by
    intro h1
    exact z_vret rfl dX1_takeOver_47 (k4 h1)
  refine z_aload_n dX1_takeOver_0 rfl rfl ?_
  refine z_getfI (k := 0) flRX1_15 ha1 rfl dX1_takeOver_1 ?_
  refine z_aload_n dX1_takeOver_4 rfl rfl ?_
  refine z_getfI (k := 0) flRX1_15 ht rfl dX1_takeOver_5 ?_
  refine z_icmp_ne dX1_takeOver_8 (tgt := 47) (by decide) (fun h1 => ?_) (fun h1 => ?_)
  · skip
    exact J47 h1
  · skip
    refine z_aload_n dX1_takeOver_11 rfl rfl ?_
    refine z_getfR (k := 1) flRX1_19 ha1 rfl dX1_takeOver_12 ?_
    refine z_iconst dX1_takeOver_15 (by unfold zIn; decide) ?_
    refine z_aload_n dX1_takeOver_16 rfl rfl ?_
    refine z_getfR (k := 1) flRX1_19 ht rfl dX1_takeOver_17 ?_
    refine z_iconst dX1_takeOver_20 (by unfold zIn; decide) ?_
    refine z_aload_n dX1_takeOver_21 rfl rfl ?_
    refine z_getfR (k := 1) flRX1_19 ht rfl dX1_takeOver_22 ?_
    have s1 : tn < 2147483648 := k1 h1
    refine z_alen hto s1 dX1_takeOver_25 ?_
    have s2 : 0 ≤ (0 : Int) ∧ 0 ≤ (0 : Int) ∧ 0 ≤ (tn : Int) ∧ (0 : Int) + (tn : Int) ≤ (a1n : Int) ∧ (0 : Int) + (tn : Int) ≤ (tn : Int) := k2 h1
    refine z_copyI lcRX1_36 ha1o hto s2.1 s2.2.1 s2.2.2.1 s2.2.2.2.1 s2.2.2.2.2 (by decide) (by decide +kernel) (Nat.le_of_ble_eq_true rfl) dX1_takeOver_26 ?_
    refine z_aload_n dX1_takeOver_29 rfl rfl ?_
    refine z_getfR (k := 2) flRX1_9 ha1 rfl dX1_takeOver_30 ?_
    refine z_iconst dX1_takeOver_33 (by unfold zIn; decide) ?_
    refine z_aload_n dX1_takeOver_34 rfl rfl ?_
    refine z_getfR (k := 2) flRX1_9 ht rfl dX1_takeOver_35 ?_
    refine z_iconst dX1_takeOver_38 (by unfold zIn; decide) ?_
    refine z_aload_n dX1_takeOver_39 rfl rfl ?_
    refine z_getfR (k := 2) flRX1_9 ht rfl dX1_takeOver_40 ?_
    refine z_alen htz (by decide) dX1_takeOver_43 ?_
    have s3 : 0 ≤ (0 : Int) ∧ 0 ≤ (0 : Int) ∧ 0 ≤ (24 : Int) ∧ (0 : Int) + (24 : Int) ≤ 24 ∧ (0 : Int) + (24 : Int) ≤ 24 := k3 h1
    refine z_copyI lcRX1_36 ha1z htz s3.1 s3.2.1 s3.2.2.1 s3.2.2.2.1 s3.2.2.2.2 (by decide) (by decide +kernel) (Nat.le_of_ble_eq_true rfl) dX1_takeOver_44 ?_
    exact J47_1 h1
set_option maxRecDepth 20000 in
set_option maxHeartbeats 1000000 in
theorem TX1_firstOf {G : zG} {σ : zS} {Q : Int → zS → Prop} {a1 a2 : Int} {t to tz tn : Nat} (ht : zsh t = (4, 1, [none, some to, some tz])) (hto : zsh to = (0, tn, [])) (htz : zsh tz = (0, 24, [])) (k1 : zR G MX1_firstOf 2 [zr t, zi a1, zi a2, zi 0, zu] [] σ Q) : zO G MX1_firstOf [zr t, zi a1, zi a2] σ Q := by
  refine zO_of (ls0 := [zr t, zi a1, zi a2, zu, zu]) (by decide) (Nat.le_of_ble_eq_true rfl) rfl ?_
  refine z_iconst dX1_firstOf_0 (by unfold zIn; decide) ?_
  refine z_istore_n (ls' := [zr t, zi a1, zi a2, zi 0, zu]) dX1_firstOf_1 rfl (by decide) rfl ?_
  exact k1
set_option maxRecDepth 20000 in
set_option maxHeartbeats 1000000 in
theorem TX1_firstOf_2 {G : zG} {σ : zS} {Q : Int → zS → Prop} {v1 v2 v3 : Int} {t to tz tn : Nat} (ht : zsh t = (4, 1, [none, some to, some tz])) (hto : zsh to = (0, tn, [])) (htz : zsh tz = (0, 24, [])) (k1 : (0 : Int) ≤ v1 ∧ v1 < (24 : Int)) (k2 : (σ tz v1 ≤ v3) → Q (-1) σ) (k3 : (v3 < σ tz v1) → -2147483648 ≤ σ t 0 * v1 ∧ σ t 0 * v1 < (2147483648 : Int)) (k4 : (v3 < σ tz v1) → -2147483648 ≤ (σ t 0 * v1) + v3 ∧ (σ t 0 * v1) + v3 < (2147483648 : Int)) (k5 : (v3 < σ tz v1) → (0 : Int) ≤ (σ t 0 * v1) + v3 ∧ (σ t 0 * v1) + v3 < (tn : Int)) (k6 : (v3 < σ tz v1) → (zand (zushr v2 (σ to ((σ t 0 * v1) + v3))) 1 = 0) → -2147483648 ≤ v3 + 1 ∧ v3 + 1 < (2147483648 : Int)) (k7 : (v3 < σ tz v1) → (zand (zushr v2 (σ to ((σ t 0 * v1) + v3))) 1 = 0) → zR G MX1_firstOf 2 [zr t, zi v1, zi v2, zi (v3 + 1), zu] [] σ Q) (k8 : (v3 < σ tz v1) → (zand (zushr v2 (σ to ((σ t 0 * v1) + v3))) 1 ≠ 0) → Q (σ to ((σ t 0 * v1) + v3)) σ) : zR G MX1_firstOf 2 [zr t, zi v1, zi v2, zi v3, zu] [] σ Q := by
  refine z_iload_n dX1_firstOf_2 rfl rfl ?_
  refine z_aload_n dX1_firstOf_3 rfl rfl ?_
  refine z_getfR (k := 2) flRX1_9 ht rfl dX1_firstOf_4 ?_
  refine z_iload_n dX1_firstOf_7 rfl rfl ?_
  have s1 : (0 : Int) ≤ v1 ∧ v1 < (24 : Int) := k1
  refine z_iald htz s1.1 s1.2 dX1_firstOf_8 ?_
  refine z_icmp_ge dX1_firstOf_9 (tgt := 45) (by decide) (fun h1 => ?_) (fun h1 => ?_)
  · skip
    refine z_iconst dX1_firstOf_45 (by unfold zIn; decide) ?_
    exact z_ireti rfl dX1_firstOf_46 (k2 h1)
  · skip
    refine z_aload_n dX1_firstOf_12 rfl rfl ?_
    refine z_getfR (k := 1) flRX1_19 ht rfl dX1_firstOf_13 ?_
    refine z_aload_n dX1_firstOf_16 rfl rfl ?_
    refine z_getfI (k := 0) flRX1_15 ht rfl dX1_firstOf_17 ?_
    refine z_iload_n dX1_firstOf_20 rfl rfl ?_
    have s3 : -2147483648 ≤ σ t 0 * v1 ∧ σ t 0 * v1 < (2147483648 : Int) := k3 h1
    refine z_imulN dX1_firstOf_21 s3 ?_
    refine z_iload_n dX1_firstOf_22 rfl rfl ?_
    have s4 : -2147483648 ≤ (σ t 0 * v1) + v3 ∧ (σ t 0 * v1) + v3 < (2147483648 : Int) := k4 h1
    refine z_iaddN dX1_firstOf_23 s4 ?_
    have s5 : (0 : Int) ≤ (σ t 0 * v1) + v3 ∧ (σ t 0 * v1) + v3 < (tn : Int) := k5 h1
    refine z_iald hto s5.1 s5.2 dX1_firstOf_24 ?_
    refine z_istore (ls' := [zr t, zi v1, zi v2, zi v3, zi (σ to ((σ t 0 * v1) + v3))]) dX1_firstOf_25 (by decide) rfl ?_
    refine z_iload_n dX1_firstOf_27 rfl rfl ?_
    refine z_iload dX1_firstOf_28 rfl ?_
    refine z_iushr dX1_firstOf_30 ?_
    refine z_iconst dX1_firstOf_31 (by unfold zIn; decide) ?_
    refine z_iand dX1_firstOf_32 ?_
    refine z_if_eq dX1_firstOf_33 (tgt := 39) (by decide) (fun h2 => ?_) (fun h2 => ?_)
    · skip
      have s6 : -2147483648 ≤ v3 + 1 ∧ v3 + 1 < (2147483648 : Int) := k6 h1 h2
      refine z_iincN (ls' := [zr t, zi v1, zi v2, zi (v3 + 1), zi (σ to ((σ t 0 * v1) + v3))]) dX1_firstOf_39 rfl (by decide) s6 rfl ?_
      refine z_goto dX1_firstOf_42 (tgt := 2) (by decide) ?_
      exact zR_fg [false, false, false, false, true] (k7 h1 h2)
    · skip
      refine z_iload dX1_firstOf_36 rfl ?_
      exact z_ireti rfl dX1_firstOf_38 (k8 h1 h2)
set_option maxRecDepth 20000 in
set_option maxHeartbeats 1000000 in
theorem TX2_countVotes {G : zG} {σ : zS} {Q : Int → zS → Prop} {a1 : Int}  (k1 : zO G MJ7_fill_53178 [zr 67, zi 0] σ (fun rr σ' => zR G MX2_countVotes 8 [zr 65, zi a1, zu, zu, zu] [] σ' Q)) : zO G MX2_countVotes [zr 65, zi a1] σ Q := by
  refine zO_of (ls0 := [zr 65, zi a1, zu, zu, zu]) (by decide) (Nat.le_of_ble_eq_true rfl) rfl ?_
  refine z_aload_n dX2_countVotes_0 rfl rfl ?_
  refine z_getfR (k := 6) flRX2_24 rfl rfl dX2_countVotes_1 ?_
  refine z_iconst dX2_countVotes_4 (by unfold zIn; decide) ?_
  refine z_calls (as := [zr 67, zi 0]) (st := []) mkJ7_fill_53178 lkRX2_115 rfl (by decide) (Nat.le_of_ble_eq_true rfl) rfl dX2_countVotes_5 (k1)
set_option maxRecDepth 20000 in
set_option maxHeartbeats 1000000 in
theorem TX2_countVotes_8 {G : zG} {σ : zS} {Q : Int → zS → Prop} {v1 : Int}  (k1 : zR G MX2_countVotes 12 [zr 65, zi v1, zi 0, zi 0, zu] [] σ Q) : zR G MX2_countVotes 8 [zr 65, zi v1, zu, zu, zu] [] σ Q := by
  refine z_iconst dX2_countVotes_8 (by unfold zIn; decide) ?_
  refine z_istore_n (ls' := [zr 65, zi v1, zi 0, zu, zu]) dX2_countVotes_9 rfl (by decide) rfl ?_
  refine z_iconst dX2_countVotes_10 (by unfold zIn; decide) ?_
  refine z_istore_n (ls' := [zr 65, zi v1, zi 0, zi 0, zu]) dX2_countVotes_11 rfl (by decide) rfl ?_
  exact k1
set_option maxRecDepth 20000 in
set_option maxHeartbeats 1000000 in
theorem TX2_countVotes_12 {G : zG} {σ : zS} {Q : Int → zS → Prop} {v1 v2 v3 : Int}  (k1 : (24 ≤ v3) → Q v2 σ) (k2 : (v3 < 24) → (zand (zushr (σ 65 8) v3) 1 ≠ 0) → zO G MX1_firstOf [zr 62, zi v3, zi v1] σ (fun rr σ' => zR G MX2_countVotes 38 [zr 65, zi v1, zi v2, zi v3, zu] [zi rr] σ' Q)) (k3 : (v3 < 24) → (zand (zushr (σ 65 8) v3) 1 = 0) → -2147483648 ≤ v3 + 1 ∧ v3 + 1 < (2147483648 : Int)) (k4 : (v3 < 24) → (zand (zushr (σ 65 8) v3) 1 = 0) → zR G MX2_countVotes 12 [zr 65, zi v1, zi v2, zi (v3 + 1), zu] [] σ Q) : zR G MX2_countVotes 12 [zr 65, zi v1, zi v2, zi v3, zu] [] σ Q := by
  have J64 : (v3 < 24) → (zand (zushr (σ 65 8) v3) 1 = 0) → zR G MX2_countVotes 64 [zr 65, zi v1, zi v2, zi v3, zi (-1)] [] σ Q := by
    intro h1 h2
    have s3 : -2147483648 ≤ v3 + 1 ∧ v3 + 1 < (2147483648 : Int) := k3 h1 h2
    refine z_iincN (ls' := [zr 65, zi v1, zi v2, zi (v3 + 1), zi (-1)]) dX2_countVotes_64 rfl (by decide) s3 rfl ?_
    refine z_goto dX2_countVotes_67 (tgt := 12) (by decide) ?_
    exact zR_fg [false, false, false, false, true] (k4 h1 h2)
  refine z_iload_n dX2_countVotes_12 rfl rfl ?_
  refine z_bipush (x := 24) dX2_countVotes_13 (by decide +kernel) (by unfold zIn; decide) ?_
  refine z_icmp_ge dX2_countVotes_15 (tgt := 70) (by decide) (fun h1 => ?_) (fun h1 => ?_)
  · skip
    refine z_iload_n dX2_countVotes_70 rfl rfl ?_
    exact z_ireti rfl dX2_countVotes_71 (k1 h1)
  · skip
    refine z_aload_n dX2_countVotes_18 rfl rfl ?_
    refine z_getfI (k := 8) flRX2_31 rfl rfl dX2_countVotes_19 ?_
    refine z_iload_n dX2_countVotes_22 rfl rfl ?_
    refine z_iushr dX2_countVotes_23 ?_
    refine z_iconst dX2_countVotes_24 (by unfold zIn; decide) ?_
    refine z_iand dX2_countVotes_25 ?_
    refine z_if_eq dX2_countVotes_26 (tgt := 41) (by decide) (fun h2 => ?_) (fun h2 => ?_)
    · skip
      refine z_iconst dX2_countVotes_41 (by unfold zIn; decide) ?_
      refine z_istore (ls' := [zr 65, zi v1, zi v2, zi v3, zi (-1)]) dX2_countVotes_42 (by decide) rfl ?_
      refine z_iload dX2_countVotes_44 rfl ?_
      refine z_iconst dX2_countVotes_46 (by unfold zIn; decide) ?_
      refine z_icmp_eq dX2_countVotes_47 (tgt := 64) (by decide) (fun z => ?_) (fun z => absurd z (by decide))
      exact J64 h1 h2
    · skip
      refine z_aload_n dX2_countVotes_29 rfl rfl ?_
      refine z_getfR (k := 4) flRX2_14 rfl rfl dX2_countVotes_30 ?_
      refine z_iload_n dX2_countVotes_33 rfl rfl ?_
      refine z_iload_n dX2_countVotes_34 rfl rfl ?_
      refine z_callv (as := [zi v3, zi v1]) (st := []) mkX1_firstOf lkRX2_121 rfl rfl rfl (by decide) (Nat.le_of_ble_eq_true rfl) rfl dX2_countVotes_35 (k2 h1 h2)
set_option maxRecDepth 20000 in
set_option maxHeartbeats 1000000 in
theorem TX2_countVotes_38 {G : zG} {σ : zS} {Q : Int → zS → Prop} {v1 v2 v3 r : Int}  (k1 : (r ≠ (-1)) → (0 : Int) ≤ r ∧ r < (24 : Int)) (k2 : (r ≠ (-1)) → -2147483648 ≤ σ 67 r + 1 ∧ σ 67 r + 1 < (2147483648 : Int)) (k3 : (r ≠ (-1)) → -2147483648 ≤ v2 + 1 ∧ v2 + 1 < (2147483648 : Int)) (k4 : (r = (-1)) → -2147483648 ≤ v3 + 1 ∧ v3 + 1 < (2147483648 : Int)) (k5 : (r = (-1)) → zR G MX2_countVotes 12 [zr 65, zi v1, zi v2, zi (v3 + 1), zu] [] σ Q) (k6 : (r ≠ (-1)) → -2147483648 ≤ v3 + 1 ∧ v3 + 1 < (2147483648 : Int)) (k7 : (r ≠ (-1)) → zR G MX2_countVotes 12 [zr 65, zi v1, zi (v2 + 1), zi (v3 + 1), zu] [] (zup σ 67 r (σ 67 r + 1)) Q) : zR G MX2_countVotes 38 [zr 65, zi v1, zi v2, zi v3, zu] [zi r] σ Q := by
  have J64_1 : (r ≠ (-1)) → zR G MX2_countVotes 64 [zr 65, zi v1, zi (v2 + 1), zi v3, zi r] [] (zup σ 67 r (σ 67 r + 1)) Q := by
    intro h1
    have s6 : -2147483648 ≤ v3 + 1 ∧ v3 + 1 < (2147483648 : Int) := k6 h1
    refine z_iincN (ls' := [zr 65, zi v1, zi (v2 + 1), zi (v3 + 1), zi r]) dX2_countVotes_64 rfl (by decide) s6 rfl ?_
    refine z_goto dX2_countVotes_67 (tgt := 12) (by decide) ?_
    exact zR_fg [false, false, false, false, true] (k7 h1)
  have J64 : (r = (-1)) → zR G MX2_countVotes 64 [zr 65, zi v1, zi v2, zi v3, zi r] [] σ Q := by
    intro h1
    have s4 : -2147483648 ≤ v3 + 1 ∧ v3 + 1 < (2147483648 : Int) := k4 h1
    refine z_iincN (ls' := [zr 65, zi v1, zi v2, zi (v3 + 1), zi r]) dX2_countVotes_64 rfl (by decide) s4 rfl ?_
    refine z_goto dX2_countVotes_67 (tgt := 12) (by decide) ?_
    exact zR_fg [false, false, false, false, true] (k5 h1)
  refine z_goto dX2_countVotes_38 (tgt := 42) (by decide) ?_
  refine z_istore (ls' := [zr 65, zi v1, zi v2, zi v3, zi r]) dX2_countVotes_42 (by decide) rfl ?_
  refine z_iload dX2_countVotes_44 rfl ?_
  refine z_iconst dX2_countVotes_46 (by unfold zIn; decide) ?_
  refine z_icmp_eq dX2_countVotes_47 (tgt := 64) (by decide) (fun h1 => ?_) (fun h1 => ?_)
  · skip
    exact J64 h1
  · skip
    refine z_aload_n dX2_countVotes_50 rfl rfl ?_
    refine z_getfR (k := 6) flRX2_24 rfl rfl dX2_countVotes_51 ?_
    refine z_iload dX2_countVotes_54 rfl ?_
    refine z_dup2 dX2_countVotes_56 rfl rfl ?_
    have s1 : (0 : Int) ≤ r ∧ r < (24 : Int) := k1 h1
    refine z_iald rfl s1.1 s1.2 dX2_countVotes_57 ?_
    refine z_iconst dX2_countVotes_58 (by unfold zIn; decide) ?_
    have s2 : -2147483648 ≤ σ 67 r + 1 ∧ σ 67 r + 1 < (2147483648 : Int) := k2 h1
    refine z_iaddN dX2_countVotes_59 s2 ?_
    refine z_iast rfl s1.1 s1.2 dX2_countVotes_60 ?_
    have s3 : -2147483648 ≤ v2 + 1 ∧ v2 + 1 < (2147483648 : Int) := k3 h1
    refine z_iincN (ls' := [zr 65, zi v1, zi (v2 + 1), zi v3, zi r]) dX2_countVotes_61 rfl (by decide) s3 rfl ?_
    exact J64_1 h1
set_option maxRecDepth 20000 in
set_option maxHeartbeats 1000000 in
theorem TX2_writeRound {G : zG} {σ : zS} {Q : Int → zS → Prop} {a1 a2 : Int}  (k1 : zR G MX2_writeRound 2 [zr 65, zi a1, zi a2, zi 0] [] σ Q) : zO G MX2_writeRound [zr 65, zi a1, zi a2] σ Q := by
  refine zO_of (ls0 := [zr 65, zi a1, zi a2, zu]) (by decide) (Nat.le_of_ble_eq_true rfl) rfl ?_
  refine z_iconst dX2_writeRound_0 (by unfold zIn; decide) ?_
  refine z_istore_n (ls' := [zr 65, zi a1, zi a2, zi 0]) dX2_writeRound_1 rfl (by decide) rfl ?_
  exact k1
set_option maxRecDepth 20000 in
set_option maxHeartbeats 1000000 in
theorem TX2_writeRound_2 {G : zG} {σ : zS} {Q : Int → zS → Prop} {v1 v2 v3 : Int}  (k1 : (24 ≤ v3) → Q 0 σ) (k2 : (v3 < 24) → -2147483648 ≤ 24 * v1 ∧ 24 * v1 < (2147483648 : Int)) (k3 : (v3 < 24) → -2147483648 ≤ (24 * v1) + v3 ∧ (24 * v1) + v3 < (2147483648 : Int)) (k4 : (v3 < 24) → (zand (zushr v2 v3) 1 = 0) → (0 : Int) ≤ (24 * v1) + v3 ∧ (24 * v1) + v3 < (576 : Int)) (k5 : (v3 < 24) → (zand (zushr v2 v3) 1 = 0) → -2147483648 ≤ v3 + 1 ∧ v3 + 1 < (2147483648 : Int)) (k6 : (v3 < 24) → (zand (zushr v2 v3) 1 = 0) → zR G MX2_writeRound 2 [zr 65, zi v1, zi v2, zi (v3 + 1)] [] (zup σ 66 ((24 * v1) + v3) (-1)) Q) (k7 : (v3 < 24) → (zand (zushr v2 v3) 1 ≠ 0) → (0 : Int) ≤ v3 ∧ v3 < (24 : Int)) (k8 : (v3 < 24) → (zand (zushr v2 v3) 1 ≠ 0) → (0 : Int) ≤ (24 * v1) + v3 ∧ (24 * v1) + v3 < (576 : Int)) (k9 : (v3 < 24) → (zand (zushr v2 v3) 1 ≠ 0) → -2147483648 ≤ v3 + 1 ∧ v3 + 1 < (2147483648 : Int)) (k10 : (v3 < 24) → (zand (zushr v2 v3) 1 ≠ 0) → zR G MX2_writeRound 2 [zr 65, zi v1, zi v2, zi (v3 + 1)] [] (zup σ 66 ((24 * v1) + v3) (σ 67 v3)) Q) : zR G MX2_writeRound 2 [zr 65, zi v1, zi v2, zi v3] [] σ Q := by
  refine z_iload_n dX2_writeRound_2 rfl rfl ?_
  refine z_bipush (x := 24) dX2_writeRound_3 (by decide +kernel) (by unfold zIn; decide) ?_
  refine z_icmp_ge dX2_writeRound_5 (tgt := 43) (by decide) (fun h1 => ?_) (fun h1 => ?_)
  · skip
    exact z_vret rfl dX2_writeRound_43 (k1 h1)
  · skip
    refine z_aload_n dX2_writeRound_8 rfl rfl ?_
    refine z_getfR (k := 5) flRX2_20 rfl rfl dX2_writeRound_9 ?_
    refine z_bipush (x := 24) dX2_writeRound_12 (by decide +kernel) (by unfold zIn; decide) ?_
    refine z_iload_n dX2_writeRound_14 rfl rfl ?_
    have s2 : -2147483648 ≤ 24 * v1 ∧ 24 * v1 < (2147483648 : Int) := k2 h1
    refine z_imulN dX2_writeRound_15 s2 ?_
    refine z_iload_n dX2_writeRound_16 rfl rfl ?_
    have s3 : -2147483648 ≤ (24 * v1) + v3 ∧ (24 * v1) + v3 < (2147483648 : Int) := k3 h1
    refine z_iaddN dX2_writeRound_17 s3 ?_
    refine z_iload_n dX2_writeRound_18 rfl rfl ?_
    refine z_iload_n dX2_writeRound_19 rfl rfl ?_
    refine z_iushr dX2_writeRound_20 ?_
    refine z_iconst dX2_writeRound_21 (by unfold zIn; decide) ?_
    refine z_iand dX2_writeRound_22 ?_
    refine z_if_eq dX2_writeRound_23 (tgt := 35) (by decide) (fun h2 => ?_) (fun h2 => ?_)
    · skip
      refine z_iconst dX2_writeRound_35 (by unfold zIn; decide) ?_
      have s4 : (0 : Int) ≤ (24 * v1) + v3 ∧ (24 * v1) + v3 < (576 : Int) := k4 h1 h2
      refine z_iast rfl s4.1 s4.2 dX2_writeRound_36 ?_
      have s5 : -2147483648 ≤ v3 + 1 ∧ v3 + 1 < (2147483648 : Int) := k5 h1 h2
      refine z_iincN (ls' := [zr 65, zi v1, zi v2, zi (v3 + 1)]) dX2_writeRound_37 rfl (by decide) s5 rfl ?_
      refine z_goto dX2_writeRound_40 (tgt := 2) (by decide) ?_
      exact k6 h1 h2
    · skip
      refine z_aload_n dX2_writeRound_26 rfl rfl ?_
      refine z_getfR (k := 6) flRX2_24 rfl rfl dX2_writeRound_27 ?_
      refine z_iload_n dX2_writeRound_30 rfl rfl ?_
      have s7 : (0 : Int) ≤ v3 ∧ v3 < (24 : Int) := k7 h1 h2
      refine z_iald rfl s7.1 s7.2 dX2_writeRound_31 ?_
      refine z_goto dX2_writeRound_32 (tgt := 36) (by decide) ?_
      have s8 : (0 : Int) ≤ (24 * v1) + v3 ∧ (24 * v1) + v3 < (576 : Int) := k8 h1 h2
      refine z_iast rfl s8.1 s8.2 dX2_writeRound_36 ?_
      have s9 : -2147483648 ≤ v3 + 1 ∧ v3 + 1 < (2147483648 : Int) := k9 h1 h2
      refine z_iincN (ls' := [zr 65, zi v1, zi v2, zi (v3 + 1)]) dX2_writeRound_37 rfl (by decide) s9 rfl ?_
      refine z_goto dX2_writeRound_40 (tgt := 2) (by decide) ?_
      exact k10 h1 h2
set_option maxRecDepth 20000 in
set_option maxHeartbeats 1000000 in
theorem TX2_decide {G : zG} {σ : zS} {Q : Int → zS → Prop} {a1 : Int}  (k1 : (σ 65 9 ≠ (-1)) → zO G MX1_firstOf [zr 62, zi (σ 65 9), zi a1] σ (fun rr σ' => zR G MX2_decide 24 [zr 65, zi a1, zu, zu, zu] [zi rr] σ' Q)) (k2 : (σ 65 9 = (-1)) → zR G MX2_decide 37 [zr 65, zi a1, zi (-1), zi (-1), zi 0] [] σ Q) : zO G MX2_decide [zr 65, zi a1] σ Q := by
  refine zO_of (ls0 := [zr 65, zi a1, zu, zu, zu]) (by decide) (Nat.le_of_ble_eq_true rfl) rfl ?_
  refine z_aload_n dX2_decide_0 rfl rfl ?_
  refine z_getfI (k := 9) flRX2_34 rfl rfl dX2_decide_1 ?_
  refine z_iconst dX2_decide_4 (by unfold zIn; decide) ?_
  refine z_icmp_ne dX2_decide_5 (tgt := 12) (by decide) (fun h1 => ?_) (fun h1 => ?_)
  · skip
    refine z_aload_n dX2_decide_12 rfl rfl ?_
    refine z_getfR (k := 4) flRX2_14 rfl rfl dX2_decide_13 ?_
    refine z_aload_n dX2_decide_16 rfl rfl ?_
    refine z_getfI (k := 9) flRX2_34 rfl rfl dX2_decide_17 ?_
    refine z_iload_n dX2_decide_20 rfl rfl ?_
    refine z_callv (as := [zi (σ 65 9), zi a1]) (st := []) mkX1_firstOf lkRX2_121 rfl rfl rfl (by decide) (Nat.le_of_ble_eq_true rfl) rfl dX2_decide_21 (k1 h1)
  · skip
    refine z_iconst dX2_decide_8 (by unfold zIn; decide) ?_
    refine z_goto dX2_decide_9 (tgt := 24) (by decide) ?_
    refine z_istore_n (ls' := [zr 65, zi a1, zi (-1), zu, zu]) dX2_decide_24 rfl (by decide) rfl ?_
    refine z_iload_n dX2_decide_25 rfl rfl ?_
    refine z_iconst dX2_decide_26 (by unfold zIn; decide) ?_
    refine z_icmp_eq dX2_decide_27 (tgt := 32) (by decide) (fun z => ?_) (fun z => absurd z (by decide))
    refine z_iconst dX2_decide_32 (by unfold zIn; decide) ?_
    refine z_istore_n (ls' := [zr 65, zi a1, zi (-1), zi (-1), zu]) dX2_decide_33 rfl (by decide) rfl ?_
    refine z_iconst dX2_decide_34 (by unfold zIn; decide) ?_
    refine z_istore (ls' := [zr 65, zi a1, zi (-1), zi (-1), zi 0]) dX2_decide_35 (by decide) rfl ?_
    exact k2 h1
set_option maxRecDepth 20000 in
set_option maxHeartbeats 1000000 in
theorem TX2_decide_24 {G : zG} {σ : zS} {Q : Int → zS → Prop} {v1 r : Int}  (k1 : (r = (-1)) → zR G MX2_decide 37 [zr 65, zi v1, zi r, zi (-1), zi 0] [] σ Q) (k2 : (r ≠ (-1)) → Q r σ) : zR G MX2_decide 24 [zr 65, zi v1, zu, zu, zu] [zi r] σ Q := by
  refine z_istore_n (ls' := [zr 65, zi v1, zi r, zu, zu]) dX2_decide_24 rfl (by decide) rfl ?_
  refine z_iload_n dX2_decide_25 rfl rfl ?_
  refine z_iconst dX2_decide_26 (by unfold zIn; decide) ?_
  refine z_icmp_eq dX2_decide_27 (tgt := 32) (by decide) (fun h1 => ?_) (fun h1 => ?_)
  · skip
    refine z_iconst dX2_decide_32 (by unfold zIn; decide) ?_
    refine z_istore_n (ls' := [zr 65, zi v1, zi r, zi (-1), zu]) dX2_decide_33 rfl (by decide) rfl ?_
    refine z_iconst dX2_decide_34 (by unfold zIn; decide) ?_
    refine z_istore (ls' := [zr 65, zi v1, zi r, zi (-1), zi 0]) dX2_decide_35 (by decide) rfl ?_
    exact k1 h1
  · skip
    refine z_iload_n dX2_decide_30 rfl rfl ?_
    exact z_ireti rfl dX2_decide_31 (k2 h1)
set_option maxRecDepth 20000 in
set_option maxHeartbeats 1000000 in
theorem TX2_decide_37 {G : zG} {σ : zS} {Q : Int → zS → Prop} {v1 v2 v3 v4 : Int}  (k1 : (24 ≤ v4) → Q v3 σ) (k2 : (v4 < 24) → (zand (zushr v1 v4) 1 ≠ 0) → (v3 ≠ (-1)) → (0 : Int) ≤ v4 ∧ v4 < (24 : Int)) (k3 : (v4 < 24) → (zand (zushr v1 v4) 1 ≠ 0) → (v3 ≠ (-1)) → (0 : Int) ≤ v3 ∧ v3 < (24 : Int)) (k4 : (v4 < 24) → (zand (zushr v1 v4) 1 = 0 ∨ (zand (zushr v1 v4) 1 ≠ 0 ∧ v3 ≠ (-1) ∧ σ 23 v3 ≤ σ 23 v4)) → -2147483648 ≤ v4 + 1 ∧ v4 + 1 < (2147483648 : Int)) (k5 : (v4 < 24) → (zand (zushr v1 v4) 1 = 0 ∨ (zand (zushr v1 v4) 1 ≠ 0 ∧ v3 ≠ (-1) ∧ σ 23 v3 ≤ σ 23 v4)) → zR G MX2_decide 37 [zr 65, zi v1, zi v2, zi v3, zi (v4 + 1)] [] σ Q) (k6 : (v4 < 24) → (zand (zushr v1 v4) 1 ≠ 0) → (v3 = (-1) ∨ (v3 ≠ (-1) ∧ σ 23 v4 < σ 23 v3)) → -2147483648 ≤ v4 + 1 ∧ v4 + 1 < (2147483648 : Int)) (k7 : (v4 < 24) → (zand (zushr v1 v4) 1 ≠ 0) → (v3 = (-1) ∨ (v3 ≠ (-1) ∧ σ 23 v4 < σ 23 v3)) → zR G MX2_decide 37 [zr 65, zi v1, zi v2, zi v4, zi (v4 + 1)] [] σ Q) : zR G MX2_decide 37 [zr 65, zi v1, zi v2, zi v3, zi v4] [] σ Q := by
  have J83_1 : (v4 < 24) → (zand (zushr v1 v4) 1 ≠ 0) → (v3 = (-1) ∨ (v3 ≠ (-1) ∧ σ 23 v4 < σ 23 v3)) → zR G MX2_decide 83 [zr 65, zi v1, zi v2, zi v4, zi v4] [] σ Q := by
    intro h1 h2 h5
    have s6 : -2147483648 ≤ v4 + 1 ∧ v4 + 1 < (2147483648 : Int) := k6 h1 h2 h5
    refine z_iincN (ls' := [zr 65, zi v1, zi v2, zi v4, zi (v4 + 1)]) dX2_decide_83 rfl (by decide) s6 rfl ?_
    refine z_goto dX2_decide_86 (tgt := 37) (by decide) ?_
    exact k7 h1 h2 h5
  have J83 : (v4 < 24) → (zand (zushr v1 v4) 1 = 0 ∨ (zand (zushr v1 v4) 1 ≠ 0 ∧ v3 ≠ (-1) ∧ σ 23 v3 ≤ σ 23 v4)) → zR G MX2_decide 83 [zr 65, zi v1, zi v2, zi v3, zi v4] [] σ Q := by
    intro h1 h6
    have s4 : -2147483648 ≤ v4 + 1 ∧ v4 + 1 < (2147483648 : Int) := k4 h1 h6
    refine z_iincN (ls' := [zr 65, zi v1, zi v2, zi v3, zi (v4 + 1)]) dX2_decide_83 rfl (by decide) s4 rfl ?_
    refine z_goto dX2_decide_86 (tgt := 37) (by decide) ?_
    exact k5 h1 h6
  have J80 : (v4 < 24) → (zand (zushr v1 v4) 1 ≠ 0) → (v3 = (-1) ∨ (v3 ≠ (-1) ∧ σ 23 v4 < σ 23 v3)) → zR G MX2_decide 80 [zr 65, zi v1, zi v2, zi v3, zi v4] [] σ Q := by
    intro h1 h2 h5
    refine z_iload dX2_decide_80 rfl ?_
    refine z_istore_n (ls' := [zr 65, zi v1, zi v2, zi v4, zi v4]) dX2_decide_82 rfl (by decide) rfl ?_
    exact J83_1 h1 h2 h5
  refine z_iload dX2_decide_37 rfl ?_
  refine z_bipush (x := 24) dX2_decide_39 (by decide +kernel) (by unfold zIn; decide) ?_
  refine z_icmp_ge dX2_decide_41 (tgt := 89) (by decide) (fun h1 => ?_) (fun h1 => ?_)
  · skip
    refine z_iload_n dX2_decide_89 rfl rfl ?_
    exact z_ireti rfl dX2_decide_90 (k1 h1)
  · skip
    refine z_iload_n dX2_decide_44 rfl rfl ?_
    refine z_iload dX2_decide_45 rfl ?_
    refine z_iushr dX2_decide_47 ?_
    refine z_iconst dX2_decide_48 (by unfold zIn; decide) ?_
    refine z_iand dX2_decide_49 ?_
    refine z_if_eq dX2_decide_50 (tgt := 83) (by decide) (fun h2 => ?_) (fun h2 => ?_)
    · skip
      exact J83 h1 (Or.inl h2)
    · skip
      refine z_iload_n dX2_decide_53 rfl rfl ?_
      refine z_iconst dX2_decide_54 (by unfold zIn; decide) ?_
      refine z_icmp_eq dX2_decide_55 (tgt := 80) (by decide) (fun h3 => ?_) (fun h3 => ?_)
      · skip
        exact J80 h1 h2 (Or.inl h3)
      · skip
        refine z_aload_n dX2_decide_58 rfl rfl ?_
        refine z_getfR (k := 0) flRX2_40 rfl rfl dX2_decide_59 ?_
        refine z_getfR (k := 0) flRX2_127 rfl rfl dX2_decide_62 ?_
        refine z_iload dX2_decide_65 rfl ?_
        have s2 : (0 : Int) ≤ v4 ∧ v4 < (24 : Int) := k2 h1 h2 h3
        refine z_iald rfl s2.1 s2.2 dX2_decide_67 ?_
        refine z_aload_n dX2_decide_68 rfl rfl ?_
        refine z_getfR (k := 0) flRX2_40 rfl rfl dX2_decide_69 ?_
        refine z_getfR (k := 0) flRX2_127 rfl rfl dX2_decide_72 ?_
        refine z_iload_n dX2_decide_75 rfl rfl ?_
        have s3 : (0 : Int) ≤ v3 ∧ v3 < (24 : Int) := k3 h1 h2 h3
        refine z_iald rfl s3.1 s3.2 dX2_decide_76 ?_
        refine z_icmp_ge dX2_decide_77 (tgt := 83) (by decide) (fun h4 => ?_) (fun h4 => ?_)
        · skip
          exact J83 h1 (Or.inr ⟨h2, h3, h4⟩)
        · skip
          exact J80 h1 h2 (Or.inr ⟨h3, h4⟩)
set_option maxRecDepth 20000 in
set_option maxHeartbeats 1000000 in
theorem TX2_winnerOf {G : zG} {σ : zS} {Q : Int → zS → Prop} {a1 a2 : Int}  (k1 : zO G MJ6_bitCount_0f7a4 [zi a1] σ (fun rr σ' => zR G MX2_winnerOf 4 [zr 65, zi a1, zi a2, zu, zu] [zi rr] σ' Q)) : zO G MX2_winnerOf [zr 65, zi a1, zi a2] σ Q := by
  refine zO_of (ls0 := [zr 65, zi a1, zi a2, zu, zu]) (by decide) (Nat.le_of_ble_eq_true rfl) rfl ?_
  refine z_iload_n dX2_winnerOf_0 rfl rfl ?_
  refine z_calls (as := [zi a1]) (st := []) mkJ6_bitCount_0f7a4 lkRX2_70 rfl (by decide) (Nat.le_of_ble_eq_true rfl) rfl dX2_winnerOf_1 (k1)
set_option maxRecDepth 20000 in
set_option maxHeartbeats 1000000 in
theorem TX2_winnerOf_4 {G : zG} {σ : zS} {Q : Int → zS → Prop} {v1 v2 r : Int}  (k1 : zR G MX2_winnerOf 8 [zr 65, zi v1, zi v2, zi r, zi 0] [] σ Q) : zR G MX2_winnerOf 4 [zr 65, zi v1, zi v2, zu, zu] [zi r] σ Q := by
  refine z_istore_n (ls' := [zr 65, zi v1, zi v2, zi r, zu]) dX2_winnerOf_4 rfl (by decide) rfl ?_
  refine z_iconst dX2_winnerOf_5 (by unfold zIn; decide) ?_
  refine z_istore (ls' := [zr 65, zi v1, zi v2, zi r, zi 0]) dX2_winnerOf_6 (by decide) rfl ?_
  exact k1
set_option maxRecDepth 20000 in
set_option maxHeartbeats 1000000 in
theorem TX2_winnerOf_8 {G : zG} {σ : zS} {Q : Int → zS → Prop} {v1 v2 v3 v4 : Int}  (k1 : (24 ≤ v4) → (v3 ≠ 2) → Q (-1) σ) (k2 : (24 ≤ v4) → (v3 = 2) → zO G MX2_decide [zr 65, zi v1] σ (fun rr σ' => zR G MX2_winnerOf 61 [zr 65, zi v1, zi v2, zi v3, zi v4] [zi rr] σ' Q)) (k3 : (v4 < 24) → (zand (zushr v1 v4) 1 ≠ 0) → (v3 ≠ 1) → (0 : Int) ≤ v4 ∧ v4 < (24 : Int)) (k4 : (v4 < 24) → (zand (zushr v1 v4) 1 ≠ 0) → (v3 ≠ 1) → -2147483648 ≤ 2 * σ 67 v4 ∧ 2 * σ 67 v4 < (2147483648 : Int)) (k5 : (v4 < 24) → (zand (zushr v1 v4) 1 ≠ 0) → (v3 = 1 ∨ (v3 ≠ 1 ∧ v2 < 2 * σ 67 v4)) → Q v4 σ) (k6 : (v4 < 24) → (zand (zushr v1 v4) 1 = 0 ∨ (zand (zushr v1 v4) 1 ≠ 0 ∧ v3 ≠ 1 ∧ 2 * σ 67 v4 ≤ v2)) → -2147483648 ≤ v4 + 1 ∧ v4 + 1 < (2147483648 : Int)) (k7 : (v4 < 24) → (zand (zushr v1 v4) 1 = 0 ∨ (zand (zushr v1 v4) 1 ≠ 0 ∧ v3 ≠ 1 ∧ 2 * σ 67 v4 ≤ v2)) → zR G MX2_winnerOf 8 [zr 65, zi v1, zi v2, zi v3, zi (v4 + 1)] [] σ Q) : zR G MX2_winnerOf 8 [zr 65, zi v1, zi v2, zi v3, zi v4] [] σ Q := by
  have J45 : (v4 < 24) → (zand (zushr v1 v4) 1 = 0 ∨ (zand (zushr v1 v4) 1 ≠ 0 ∧ v3 ≠ 1 ∧ 2 * σ 67 v4 ≤ v2)) → zR G MX2_winnerOf 45 [zr 65, zi v1, zi v2, zi v3, zi v4] [] σ Q := by
    intro h1 h7
    have s6 : -2147483648 ≤ v4 + 1 ∧ v4 + 1 < (2147483648 : Int) := k6 h1 h7
    refine z_iincN (ls' := [zr 65, zi v1, zi v2, zi v3, zi (v4 + 1)]) dX2_winnerOf_45 rfl (by decide) s6 rfl ?_
    refine z_goto dX2_winnerOf_48 (tgt := 8) (by decide) ?_
    exact k7 h1 h7
  have J42 : (v4 < 24) → (zand (zushr v1 v4) 1 ≠ 0) → (v3 = 1 ∨ (v3 ≠ 1 ∧ v2 < 2 * σ 67 v4)) → zR G MX2_winnerOf 42 [zr 65, zi v1, zi v2, zi v3, zi v4] [] σ Q := by
    intro h1 h3 h6
    refine z_iload dX2_winnerOf_42 rfl ?_
    exact z_ireti rfl dX2_winnerOf_44 (k5 h1 h3 h6)
  refine z_iload dX2_winnerOf_8 rfl ?_
  refine z_bipush (x := 24) dX2_winnerOf_10 (by decide +kernel) (by unfold zIn; decide) ?_
  refine z_icmp_ge dX2_winnerOf_12 (tgt := 51) (by decide) (fun h1 => ?_) (fun h1 => ?_)
  · skip
    refine z_iload_n dX2_winnerOf_51 rfl rfl ?_
    refine z_iconst dX2_winnerOf_52 (by unfold zIn; decide) ?_
    refine z_icmp_ne dX2_winnerOf_53 (tgt := 64) (by decide) (fun h2 => ?_) (fun h2 => ?_)
    · skip
      refine z_iconst dX2_winnerOf_64 (by unfold zIn; decide) ?_
      exact z_ireti rfl dX2_winnerOf_65 (k1 h1 h2)
    · skip
      refine z_aload_n dX2_winnerOf_56 rfl rfl ?_
      refine z_iload_n dX2_winnerOf_57 rfl rfl ?_
      refine z_callv (as := [zi v1]) (st := []) mkX2_decide lkRX2_124 rfl rfl rfl (by decide) (Nat.le_of_ble_eq_true rfl) rfl dX2_winnerOf_58 (k2 h1 h2)
  · skip
    refine z_iload_n dX2_winnerOf_15 rfl rfl ?_
    refine z_iload dX2_winnerOf_16 rfl ?_
    refine z_iushr dX2_winnerOf_18 ?_
    refine z_iconst dX2_winnerOf_19 (by unfold zIn; decide) ?_
    refine z_iand dX2_winnerOf_20 ?_
    refine z_if_eq dX2_winnerOf_21 (tgt := 45) (by decide) (fun h3 => ?_) (fun h3 => ?_)
    · skip
      exact J45 h1 (Or.inl h3)
    · skip
      refine z_iload_n dX2_winnerOf_24 rfl rfl ?_
      refine z_iconst dX2_winnerOf_25 (by unfold zIn; decide) ?_
      refine z_icmp_eq dX2_winnerOf_26 (tgt := 42) (by decide) (fun h4 => ?_) (fun h4 => ?_)
      · skip
        exact J42 h1 h3 (Or.inl h4)
      · skip
        refine z_iconst dX2_winnerOf_29 (by unfold zIn; decide) ?_
        refine z_aload_n dX2_winnerOf_30 rfl rfl ?_
        refine z_getfR (k := 6) flRX2_24 rfl rfl dX2_winnerOf_31 ?_
        refine z_iload dX2_winnerOf_34 rfl ?_
        have s3 : (0 : Int) ≤ v4 ∧ v4 < (24 : Int) := k3 h1 h3 h4
        refine z_iald rfl s3.1 s3.2 dX2_winnerOf_36 ?_
        have s4 : -2147483648 ≤ 2 * σ 67 v4 ∧ 2 * σ 67 v4 < (2147483648 : Int) := k4 h1 h3 h4
        refine z_imulN dX2_winnerOf_37 s4 ?_
        refine z_iload_n dX2_winnerOf_38 rfl rfl ?_
        refine z_icmp_le dX2_winnerOf_39 (tgt := 45) (by decide) (fun h5 => ?_) (fun h5 => ?_)
        · skip
          exact J45 h1 (Or.inr ⟨h3, h4, h5⟩)
        · skip
          exact J42 h1 h3 (Or.inr ⟨h4, h5⟩)
set_option maxRecDepth 20000 in
set_option maxHeartbeats 1000000 in
theorem TX2_winnerOf_61 {G : zG} {σ : zS} {Q : Int → zS → Prop} {v1 v2 v3 v4 r : Int}  (k1 : Q r σ) : zR G MX2_winnerOf 61 [zr 65, zi v1, zi v2, zi v3, zi v4] [zi r] σ Q := by
  refine z_goto dX2_winnerOf_61 (tgt := 65) (by decide) ?_
  exact z_ireti rfl dX2_winnerOf_65 (k1)
set_option maxRecDepth 20000 in
set_option maxHeartbeats 1000000 in
theorem TX2_leastOf {G : zG} {σ : zS} {Q : Int → zS → Prop} {a1 : Int}  (k1 : zR G MX2_leastOf 4 [zr 65, zi a1, zi (-1), zi 0] [] σ Q) : zO G MX2_leastOf [zr 65, zi a1] σ Q := by
  refine zO_of (ls0 := [zr 65, zi a1, zu, zu]) (by decide) (Nat.le_of_ble_eq_true rfl) rfl ?_
  refine z_iconst dX2_leastOf_0 (by unfold zIn; decide) ?_
  refine z_istore_n (ls' := [zr 65, zi a1, zi (-1), zu]) dX2_leastOf_1 rfl (by decide) rfl ?_
  refine z_iconst dX2_leastOf_2 (by unfold zIn; decide) ?_
  refine z_istore_n (ls' := [zr 65, zi a1, zi (-1), zi 0]) dX2_leastOf_3 rfl (by decide) rfl ?_
  exact k1
set_option maxRecDepth 20000 in
set_option maxHeartbeats 1000000 in
theorem TX2_leastOf_4 {G : zG} {σ : zS} {Q : Int → zS → Prop} {v1 v2 v3 : Int}  (k1 : (24 ≤ v3) → Q (max v2 0) σ) (k2 : (v3 < 24) → (zand (zushr v1 v3) 1 ≠ 0) → (v2 ≠ (-1)) → (0 : Int) ≤ v3 ∧ v3 < (24 : Int)) (k3 : (v3 < 24) → (zand (zushr v1 v3) 1 ≠ 0) → (v2 ≠ (-1)) → (0 : Int) ≤ v2 ∧ v2 < (24 : Int)) (k4 : (v3 < 24) → (zand (zushr v1 v3) 1 = 0 ∨ (zand (zushr v1 v3) 1 ≠ 0 ∧ v2 ≠ (-1) ∧ (¬ ((σ 67 v3 = σ 67 v2 ∧ σ 23 v2 ≤ σ 23 v3) ∨ (σ 67 v3 ≠ σ 67 v2 ∧ σ 67 v3 < σ 67 v2))))) → -2147483648 ≤ v3 + 1 ∧ v3 + 1 < (2147483648 : Int)) (k5 : (v3 < 24) → (zand (zushr v1 v3) 1 = 0 ∨ (zand (zushr v1 v3) 1 ≠ 0 ∧ v2 ≠ (-1) ∧ (¬ ((σ 67 v3 = σ 67 v2 ∧ σ 23 v2 ≤ σ 23 v3) ∨ (σ 67 v3 ≠ σ 67 v2 ∧ σ 67 v3 < σ 67 v2))))) → zR G MX2_leastOf 4 [zr 65, zi v1, zi v2, zi (v3 + 1)] [] σ Q) (k6 : (v3 < 24) → (zand (zushr v1 v3) 1 ≠ 0) → (v2 = (-1) ∨ (v2 ≠ (-1) ∧ ((σ 67 v3 = σ 67 v2 ∧ σ 23 v2 ≤ σ 23 v3) ∨ (σ 67 v3 ≠ σ 67 v2 ∧ σ 67 v3 < σ 67 v2)))) → -2147483648 ≤ v3 + 1 ∧ v3 + 1 < (2147483648 : Int)) (k7 : (v3 < 24) → (zand (zushr v1 v3) 1 ≠ 0) → (v2 = (-1) ∨ (v2 ≠ (-1) ∧ ((σ 67 v3 = σ 67 v2 ∧ σ 23 v2 ≤ σ 23 v3) ∨ (σ 67 v3 ≠ σ 67 v2 ∧ σ 67 v3 < σ 67 v2)))) → zR G MX2_leastOf 4 [zr 65, zi v1, zi v3, zi (v3 + 1)] [] σ Q) : zR G MX2_leastOf 4 [zr 65, zi v1, zi v2, zi v3] [] σ Q := by
  have J34_1 : (v3 < 24) → (zand (zushr v1 v3) 1 ≠ 0) → (v2 = (-1) ∨ (v2 ≠ (-1) ∧ ((σ 67 v3 = σ 67 v2 ∧ σ 23 v2 ≤ σ 23 v3) ∨ (σ 67 v3 ≠ σ 67 v2 ∧ σ 67 v3 < σ 67 v2)))) → zR G MX2_leastOf 34 [zr 65, zi v1, zi v3, zi v3] [] σ Q := by
    intro h1 h2 h5
    have s6 : -2147483648 ≤ v3 + 1 ∧ v3 + 1 < (2147483648 : Int) := k6 h1 h2 h5
    refine z_iincN (ls' := [zr 65, zi v1, zi v3, zi (v3 + 1)]) dX2_leastOf_34 rfl (by decide) s6 rfl ?_
    refine z_goto dX2_leastOf_37 (tgt := 4) (by decide) ?_
    exact k7 h1 h2 h5
  have J34 : (v3 < 24) → (zand (zushr v1 v3) 1 = 0 ∨ (zand (zushr v1 v3) 1 ≠ 0 ∧ v2 ≠ (-1) ∧ (¬ ((σ 67 v3 = σ 67 v2 ∧ σ 23 v2 ≤ σ 23 v3) ∨ (σ 67 v3 ≠ σ 67 v2 ∧ σ 67 v3 < σ 67 v2))))) → zR G MX2_leastOf 34 [zr 65, zi v1, zi v2, zi v3] [] σ Q := by
    intro h1 h6
    have s4 : -2147483648 ≤ v3 + 1 ∧ v3 + 1 < (2147483648 : Int) := k4 h1 h6
    refine z_iincN (ls' := [zr 65, zi v1, zi v2, zi (v3 + 1)]) dX2_leastOf_34 rfl (by decide) s4 rfl ?_
    refine z_goto dX2_leastOf_37 (tgt := 4) (by decide) ?_
    exact k5 h1 h6
  have J32 : (v3 < 24) → (zand (zushr v1 v3) 1 ≠ 0) → (v2 = (-1) ∨ (v2 ≠ (-1) ∧ ((σ 67 v3 = σ 67 v2 ∧ σ 23 v2 ≤ σ 23 v3) ∨ (σ 67 v3 ≠ σ 67 v2 ∧ σ 67 v3 < σ 67 v2)))) → zR G MX2_leastOf 32 [zr 65, zi v1, zi v2, zi v3] [] σ Q := by
    intro h1 h2 h5
    refine z_iload_n dX2_leastOf_32 rfl rfl ?_
    refine z_istore_n (ls' := [zr 65, zi v1, zi v3, zi v3]) dX2_leastOf_33 rfl (by decide) rfl ?_
    exact J34_1 h1 h2 h5
  refine z_iload_n dX2_leastOf_4 rfl rfl ?_
  refine z_bipush (x := 24) dX2_leastOf_5 (by decide +kernel) (by unfold zIn; decide) ?_
  refine z_icmp_ge dX2_leastOf_7 (tgt := 40) (by decide) (fun h1 => ?_) (fun h1 => ?_)
  · skip
    refine z_iload_n dX2_leastOf_40 rfl rfl ?_
    refine z_iconst dX2_leastOf_41 (by unfold zIn; decide) ?_
    refine z_max lkRX2_134 (by decide) (by decide) (Nat.le_of_ble_eq_true rfl) dX2_leastOf_42 ?_
    exact z_ireti rfl dX2_leastOf_45 (k1 h1)
  · skip
    refine z_iload_n dX2_leastOf_10 rfl rfl ?_
    refine z_iload_n dX2_leastOf_11 rfl rfl ?_
    refine z_iushr dX2_leastOf_12 ?_
    refine z_iconst dX2_leastOf_13 (by unfold zIn; decide) ?_
    refine z_iand dX2_leastOf_14 ?_
    refine z_if_eq dX2_leastOf_15 (tgt := 34) (by decide) (fun h2 => ?_) (fun h2 => ?_)
    · skip
      exact J34 h1 (Or.inl h2)
    · skip
      refine z_iload_n dX2_leastOf_18 rfl rfl ?_
      refine z_iconst dX2_leastOf_19 (by unfold zIn; decide) ?_
      refine z_icmp_eq dX2_leastOf_20 (tgt := 32) (by decide) (fun h3 => ?_) (fun h3 => ?_)
      · skip
        exact J32 h1 h2 (Or.inl h3)
      · skip
        refine z_aload_n dX2_leastOf_23 rfl rfl ?_
        refine z_iload_n dX2_leastOf_24 rfl rfl ?_
        refine z_iload_n dX2_leastOf_25 rfl rfl ?_
        have s2 : (0 : Int) ≤ v3 ∧ v3 < (24 : Int) := k2 h1 h2 h3
        have s3 : (0 : Int) ≤ v2 ∧ v2 < (24 : Int) := k3 h1 h2 h3
        refine z_callv (as := [zi v3, zi v2]) (st := []) mkX2_goesAhead lkRX2_130 rfl rfl rfl (by decide) (Nat.le_of_ble_eq_true rfl) rfl dX2_leastOf_26 ?_
        refine SX2_goesAhead s2 s3 ?_
        show zR G MX2_leastOf 29 [zr 65, zi v1, zi v2, zi v3] [zi (if (σ 67 v3 = σ 67 v2 ∧ σ 23 v2 ≤ σ 23 v3) ∨ (σ 67 v3 ≠ σ 67 v2 ∧ σ 67 v3 < σ 67 v2) then (1 : Int) else 0)] σ Q
        refine z_if_eq dX2_leastOf_29 (tgt := 34) (by decide) (fun z => ?_) (fun z => ?_)
        · have h4 : ¬ ((σ 67 v3 = σ 67 v2 ∧ σ 23 v2 ≤ σ 23 v3) ∨ (σ 67 v3 ≠ σ 67 v2 ∧ σ 67 v3 < σ 67 v2)) := zb0 z
          exact J34 h1 (Or.inr ⟨h2, h3, h4⟩)
        · have h4 : (σ 67 v3 = σ 67 v2 ∧ σ 23 v2 ≤ σ 23 v3) ∨ (σ 67 v3 ≠ σ 67 v2 ∧ σ 67 v3 < σ 67 v2) := zb1 z
          exact J32 h1 h2 (Or.inr ⟨h3, h4⟩)
set_option maxRecDepth 20000 in
set_option maxHeartbeats 1000000 in
theorem TX2_runRounds {G : zG} {σ : zS} {Q : Int → zS → Prop} {a1 a2 : Int}  (k1 : zR G MX2_runRounds 8 [zr 65, zi a1, zi a2, zi a1, zi (-1), zi 0, zu] [] σ Q) : zO G MX2_runRounds [zr 65, zi a1, zi a2] σ Q := by
  refine zO_of (ls0 := [zr 65, zi a1, zi a2, zu, zu, zu, zu]) (by decide) (Nat.le_of_ble_eq_true rfl) rfl ?_
  refine z_iload_n dX2_runRounds_0 rfl rfl ?_
  refine z_istore_n (ls' := [zr 65, zi a1, zi a2, zi a1, zu, zu, zu]) dX2_runRounds_1 rfl (by decide) rfl ?_
  refine z_iconst dX2_runRounds_2 (by unfold zIn; decide) ?_
  refine z_istore (ls' := [zr 65, zi a1, zi a2, zi a1, zi (-1), zu, zu]) dX2_runRounds_3 (by decide) rfl ?_
  refine z_iconst dX2_runRounds_5 (by unfold zIn; decide) ?_
  refine z_istore (ls' := [zr 65, zi a1, zi a2, zi a1, zi (-1), zi 0, zu]) dX2_runRounds_6 (by decide) rfl ?_
  exact k1
set_option maxRecDepth 20000 in
set_option maxHeartbeats 1000000 in
theorem TX2_runRounds_8 {G : zG} {σ : zS} {Q : Int → zS → Prop} {v1 v2 v3 v4 v5 : Int}  (k1 : (v4 = (-1)) → (v5 < 24) → zO G MX2_countVotes [zr 65, zi v3] σ (fun rr σ' => zR G MX2_runRounds 26 [zr 65, zi v1, zi v2, zi v3, zi v4, zi v5, zu] [zi rr] σ' Q)) (k2 : (v4 ≠ (-1) ∨ (v4 = (-1) ∧ 24 ≤ v5)) → (v2 = 0) → Q v4 σ) (k3 : (v4 ≠ (-1) ∨ (v4 = (-1) ∧ 24 ≤ v5)) → (v2 ≠ 0) → Q v4 (zup σ 65 10 v5)) : zR G MX2_runRounds 8 [zr 65, zi v1, zi v2, zi v3, zi v4, zi v5, zu] [] σ Q := by
  have J82_1 : (v4 ≠ (-1) ∨ (v4 = (-1) ∧ 24 ≤ v5)) → (v2 ≠ 0) → zR G MX2_runRounds 82 [zr 65, zi v1, zi v2, zi v3, zi v4, zi v5, zu] [] (zup σ 65 10 v5) Q := by
    intro h3 h4
    refine z_iload dX2_runRounds_82 rfl ?_
    exact z_ireti rfl dX2_runRounds_84 (k3 h3 h4)
  have J82 : (v4 ≠ (-1) ∨ (v4 = (-1) ∧ 24 ≤ v5)) → (v2 = 0) → zR G MX2_runRounds 82 [zr 65, zi v1, zi v2, zi v3, zi v4, zi v5, zu] [] σ Q := by
    intro h3 h4
    refine z_iload dX2_runRounds_82 rfl ?_
    exact z_ireti rfl dX2_runRounds_84 (k2 h3 h4)
  have J72 : (v4 ≠ (-1) ∨ (v4 = (-1) ∧ 24 ≤ v5)) → zR G MX2_runRounds 72 [zr 65, zi v1, zi v2, zi v3, zi v4, zi v5, zu] [] σ Q := by
    intro h3
    refine z_iload_n dX2_runRounds_72 rfl rfl ?_
    refine z_if_eq dX2_runRounds_73 (tgt := 82) (by decide) (fun h4 => ?_) (fun h4 => ?_)
    · skip
      exact J82 h3 h4
    · skip
      refine z_aload_n dX2_runRounds_76 rfl rfl ?_
      refine z_iload dX2_runRounds_77 rfl ?_
      refine z_putI (k := 10) fpRX2_37 rfl rfl dX2_runRounds_79 ?_
      exact J82_1 h3 h4
  refine z_iload dX2_runRounds_8 rfl ?_
  refine z_iconst dX2_runRounds_10 (by unfold zIn; decide) ?_
  refine z_icmp_ne dX2_runRounds_11 (tgt := 72) (by decide) (fun h1 => ?_) (fun h1 => ?_)
  · skip
    exact J72 (Or.inl h1)
  · skip
    refine z_iload dX2_runRounds_14 rfl ?_
    refine z_bipush (x := 24) dX2_runRounds_16 (by decide +kernel) (by unfold zIn; decide) ?_
    refine z_icmp_ge dX2_runRounds_18 (tgt := 72) (by decide) (fun h2 => ?_) (fun h2 => ?_)
    · skip
      exact J72 (Or.inr ⟨h1, h2⟩)
    · skip
      refine z_aload_n dX2_runRounds_21 rfl rfl ?_
      refine z_iload_n dX2_runRounds_22 rfl rfl ?_
      refine z_callv (as := [zi v3]) (st := []) mkX2_countVotes lkRX2_101 rfl rfl rfl (by decide) (Nat.le_of_ble_eq_true rfl) rfl dX2_runRounds_23 (k1 h1 h2)
set_option maxRecDepth 20000 in
set_option maxHeartbeats 1000000 in
theorem TX2_runRounds_26 {G : zG} {σ : zS} {Q : Int → zS → Prop} {v1 v2 v3 v4 v5 r : Int}  (k1 : (v2 ≠ 0) → zO G MX2_writeRound [zr 65, zi v5, zi v3] σ (fun rr σ' => zR G MX2_runRounds 39 [zr 65, zi v1, zi v2, zi v3, zi v4, zi v5, zi r] [] σ' Q)) (k2 : (v2 = 0) → -2147483648 ≤ v5 + 1 ∧ v5 + 1 < (2147483648 : Int)) (k3 : (v2 = 0) → zO G MX2_winnerOf [zr 65, zi v3, zi r] σ (fun rr σ' => zR G MX2_runRounds 49 [zr 65, zi v1, zi v2, zi v3, zi v4, zi (v5 + 1), zi r] [zi rr] σ' Q)) : zR G MX2_runRounds 26 [zr 65, zi v1, zi v2, zi v3, zi v4, zi v5, zu] [zi r] σ Q := by
  have J39 : (v2 = 0) → zR G MX2_runRounds 39 [zr 65, zi v1, zi v2, zi v3, zi v4, zi v5, zi r] [] σ Q := by
    intro h1
    have s2 : -2147483648 ≤ v5 + 1 ∧ v5 + 1 < (2147483648 : Int) := k2 h1
    refine z_iincN (ls' := [zr 65, zi v1, zi v2, zi v3, zi v4, zi (v5 + 1), zi r]) dX2_runRounds_39 rfl (by decide) s2 rfl ?_
    refine z_aload_n dX2_runRounds_42 rfl rfl ?_
    refine z_iload_n dX2_runRounds_43 rfl rfl ?_
    refine z_iload dX2_runRounds_44 rfl ?_
    refine z_callv (as := [zi v3, zi r]) (st := []) mkX2_winnerOf lkRX2_108 rfl rfl rfl (by decide) (Nat.le_of_ble_eq_true rfl) rfl dX2_runRounds_46 (k3 h1)
  refine z_istore (ls' := [zr 65, zi v1, zi v2, zi v3, zi v4, zi v5, zi r]) dX2_runRounds_26 (by decide) rfl ?_
  refine z_iload_n dX2_runRounds_28 rfl rfl ?_
  refine z_if_eq dX2_runRounds_29 (tgt := 39) (by decide) (fun h1 => ?_) (fun h1 => ?_)
  · skip
    exact J39 h1
  · skip
    refine z_aload_n dX2_runRounds_32 rfl rfl ?_
    refine z_iload dX2_runRounds_33 rfl ?_
    refine z_iload_n dX2_runRounds_35 rfl rfl ?_
    refine z_callv (as := [zi v5, zi v3]) (st := []) mkX2_writeRound lkRX2_104 rfl rfl rfl (by decide) (Nat.le_of_ble_eq_true rfl) rfl dX2_runRounds_36 (k1 h1)
set_option maxRecDepth 20000 in
set_option maxHeartbeats 1000000 in
theorem TX2_runRounds_39 {G : zG} {σ : zS} {Q : Int → zS → Prop} {v1 v2 v3 v4 v5 v6 : Int}  (k1 : -2147483648 ≤ v5 + 1 ∧ v5 + 1 < (2147483648 : Int)) (k2 : zO G MX2_winnerOf [zr 65, zi v3, zi v6] σ (fun rr σ' => zR G MX2_runRounds 49 [zr 65, zi v1, zi v2, zi v3, zi v4, zi (v5 + 1), zi v6] [zi rr] σ' Q)) : zR G MX2_runRounds 39 [zr 65, zi v1, zi v2, zi v3, zi v4, zi v5, zi v6] [] σ Q := by
  have s1 : -2147483648 ≤ v5 + 1 ∧ v5 + 1 < (2147483648 : Int) := k1
  refine z_iincN (ls' := [zr 65, zi v1, zi v2, zi v3, zi v4, zi (v5 + 1), zi v6]) dX2_runRounds_39 rfl (by decide) s1 rfl ?_
  refine z_aload_n dX2_runRounds_42 rfl rfl ?_
  refine z_iload_n dX2_runRounds_43 rfl rfl ?_
  refine z_iload dX2_runRounds_44 rfl ?_
  refine z_callv (as := [zi v3, zi v6]) (st := []) mkX2_winnerOf lkRX2_108 rfl rfl rfl (by decide) (Nat.le_of_ble_eq_true rfl) rfl dX2_runRounds_46 (k2)
set_option maxRecDepth 20000 in
set_option maxHeartbeats 1000000 in
theorem TX2_runRounds_49 {G : zG} {σ : zS} {Q : Int → zS → Prop} {v1 v2 v3 v4 v5 v6 r : Int}  (k1 : (r = (-1)) → zO G MX2_leastOf [zr 65, zi v3] σ (fun rr σ' => zR G MX2_runRounds 64 [zr 65, zi v1, zi v2, zi v3, zi r, zi v5, zi v6] [zi rr, zi 1, zi v3] σ' Q)) (k2 : (r ≠ (-1)) → zR G MX2_runRounds 8 [zr 65, zi v1, zi v2, zi v3, zi r, zi v5, zu] [] σ Q) : zR G MX2_runRounds 49 [zr 65, zi v1, zi v2, zi v3, zi v4, zi v5, zi v6] [zi r] σ Q := by
  have J69 : (r ≠ (-1)) → zR G MX2_runRounds 69 [zr 65, zi v1, zi v2, zi v3, zi r, zi v5, zi v6] [] σ Q := by
    intro h1
    refine z_goto dX2_runRounds_69 (tgt := 8) (by decide) ?_
    exact zR_fg [false, false, false, false, false, false, true] (k2 h1)
  refine z_istore (ls' := [zr 65, zi v1, zi v2, zi v3, zi r, zi v5, zi v6]) dX2_runRounds_49 (by decide) rfl ?_
  refine z_iload dX2_runRounds_51 rfl ?_
  refine z_iconst dX2_runRounds_53 (by unfold zIn; decide) ?_
  refine z_icmp_ne dX2_runRounds_54 (tgt := 69) (by decide) (fun h1 => ?_) (fun h1 => ?_)
  · skip
    exact J69 h1
  · skip
    refine z_iload_n dX2_runRounds_57 rfl rfl ?_
    refine z_iconst dX2_runRounds_58 (by unfold zIn; decide) ?_
    refine z_aload_n dX2_runRounds_59 rfl rfl ?_
    refine z_iload_n dX2_runRounds_60 rfl rfl ?_
    refine z_callv (as := [zi v3]) (st := [zi 1, zi v3]) mkX2_leastOf lkRX2_112 rfl rfl rfl (by decide) (Nat.le_of_ble_eq_true rfl) rfl dX2_runRounds_61 (k1 h1)
set_option maxRecDepth 20000 in
set_option maxHeartbeats 1000000 in
theorem TX2_runRounds_64 {G : zG} {σ : zS} {Q : Int → zS → Prop} {v1 v2 v3 v4 v5 v6 r t1 t2 : Int}  (k1 : zR G MX2_runRounds 8 [zr 65, zi v1, zi v2, zi (zand t2 (zxor (zshl t1 r) (-1))), zi v4, zi v5, zu] [] σ Q) : zR G MX2_runRounds 64 [zr 65, zi v1, zi v2, zi v3, zi v4, zi v5, zi v6] [zi r, zi t1, zi t2] σ Q := by
  have J69 : zR G MX2_runRounds 69 [zr 65, zi v1, zi v2, zi (zand t2 (zxor (zshl t1 r) (-1))), zi v4, zi v5, zi v6] [] σ Q := by
    refine z_goto dX2_runRounds_69 (tgt := 8) (by decide) ?_
    exact zR_fg [false, false, false, false, false, false, true] (k1)
  refine z_ishl dX2_runRounds_64 ?_
  refine z_iconst dX2_runRounds_65 (by unfold zIn; decide) ?_
  refine z_ixor dX2_runRounds_66 ?_
  refine z_iand dX2_runRounds_67 ?_
  refine z_istore_n (ls' := [zr 65, zi v1, zi v2, zi (zand t2 (zxor (zshl t1 r) (-1))), zi v4, zi v5, zi v6]) dX2_runRounds_68 rfl (by decide) rfl ?_
  exact J69
