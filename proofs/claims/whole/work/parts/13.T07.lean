set_option maxRecDepth 20000 in
set_option maxHeartbeats 1000000 in
theorem TX4_isPriced {G : zG} {σ : zS} {Q : Int → zS → Prop} {a1 : Int}  (k1 : zR G MX4_isPriced 2 [zr 68, zi a1, zi 0] [] σ Q) : zO G MX4_isPriced [zr 68, zi a1] σ Q := by
  refine zO_of (ls0 := [zr 68, zi a1, zu]) (by decide) (Nat.le_of_ble_eq_true rfl) rfl ?_
  refine z_iconst dX4_isPriced_0 (by unfold zIn; decide) ?_
  refine z_istore_n (ls' := [zr 68, zi a1, zi 0]) dX4_isPriced_1 rfl (by decide) rfl ?_
  exact k1
set_option maxRecDepth 20000 in
set_option maxHeartbeats 1000000 in
theorem TX4_isPriced_2 {G : zG} {σ : zS} {Q : Int → zS → Prop} {v1 v2 : Int}  (k1 : (σ 68 12 ≤ v2) → Q 0 σ) (k2 : (v2 < σ 68 12) → (0 : Int) ≤ v2 ∧ v2 < (200 : Int)) (k3 : (v2 < σ 68 12) → (σ 76 v2 ≠ v1) → -2147483648 ≤ v2 + 1 ∧ v2 + 1 < (2147483648 : Int)) (k4 : (v2 < σ 68 12) → (σ 76 v2 ≠ v1) → zR G MX4_isPriced 2 [zr 68, zi v1, zi (v2 + 1)] [] σ Q) (k5 : (v2 < σ 68 12) → (σ 76 v2 = v1) → Q 1 σ) : zR G MX4_isPriced 2 [zr 68, zi v1, zi v2] [] σ Q := by
  refine z_iload_n dX4_isPriced_2 rfl rfl ?_
  refine z_aload_n dX4_isPriced_3 rfl rfl ?_
  refine z_getfI (k := 12) flRX4_46 rfl rfl dX4_isPriced_4 ?_
  refine z_icmp_ge dX4_isPriced_7 (tgt := 28) (by decide) (fun h1 => ?_) (fun h1 => ?_)
  · skip
    refine z_iconst dX4_isPriced_28 (by unfold zIn; decide) ?_
    exact z_iretz rfl (by decide) dX4_isPriced_29 (k1 h1)
  · skip
    refine z_aload_n dX4_isPriced_10 rfl rfl ?_
    refine z_getfR (k := 8) flRX4_33 rfl rfl dX4_isPriced_11 ?_
    refine z_iload_n dX4_isPriced_14 rfl rfl ?_
    have s2 : (0 : Int) ≤ v2 ∧ v2 < (200 : Int) := k2 h1
    refine z_iald rfl s2.1 s2.2 dX4_isPriced_15 ?_
    refine z_iload_n dX4_isPriced_16 rfl rfl ?_
    refine z_icmp_ne dX4_isPriced_17 (tgt := 22) (by decide) (fun h2 => ?_) (fun h2 => ?_)
    · skip
      have s3 : -2147483648 ≤ v2 + 1 ∧ v2 + 1 < (2147483648 : Int) := k3 h1 h2
      refine z_iincN (ls' := [zr 68, zi v1, zi (v2 + 1)]) dX4_isPriced_22 rfl (by decide) s3 rfl ?_
      refine z_goto dX4_isPriced_25 (tgt := 2) (by decide) ?_
      exact k4 h1 h2
    · skip
      refine z_iconst dX4_isPriced_20 (by unfold zIn; decide) ?_
      exact z_iretz rfl (by decide) dX4_isPriced_21 (k5 h1 h2)
set_option maxRecDepth 20000 in
set_option maxHeartbeats 1000000 in
theorem TX11_price {G : zG} {σ : zS} {Q : Int → zS → Prop} {a1 a2 a3 : Int}  (k1 : ((0 ≤ a1 ∧ a1 ≤ 200)) → ((0 ≤ a2 ∧ a2 ≤ 51)) → ((0 ≤ a3 ∧ a3 ≤ 999)) → -2147483648 ≤ 52 * a1 ∧ 52 * a1 < (2147483648 : Int)) (k2 : ((0 ≤ a1 ∧ a1 ≤ 200)) → ((0 ≤ a2 ∧ a2 ≤ 51)) → ((0 ≤ a3 ∧ a3 ≤ 999)) → -2147483648 ≤ (52 * a1) + a2 ∧ (52 * a1) + a2 < (2147483648 : Int)) (k3 : ((0 ≤ a1 ∧ a1 ≤ 200)) → ((0 ≤ a2 ∧ a2 ≤ 51)) → ((0 ≤ a3 ∧ a3 ≤ 999)) → zO G MX4_isPriced [zr 68, zi ((52 * a1) + a2)] σ (fun rr σ' => zR G MX11_price 45 [zr 0, zi a1, zi a2, zi a3] [zi rr] σ' Q)) (k4 : ((¬ ((0 ≤ a1 ∧ a1 ≤ 200))) ∨ (((0 ≤ a1 ∧ a1 ≤ 200)) ∧ (¬ ((0 ≤ a2 ∧ a2 ≤ 51)))) ∨ (((0 ≤ a1 ∧ a1 ≤ 200)) ∧ ((0 ≤ a2 ∧ a2 ≤ 51)) ∧ (¬ ((0 ≤ a3 ∧ a3 ≤ 999))))) → -2147483648 ≤ -(-6) ∧ -(-6) < (2147483648 : Int)) (k5 : ((¬ ((0 ≤ a1 ∧ a1 ≤ 200))) ∨ (((0 ≤ a1 ∧ a1 ≤ 200)) ∧ (¬ ((0 ≤ a2 ∧ a2 ≤ 51)))) ∨ (((0 ≤ a1 ∧ a1 ≤ 200)) ∧ ((0 ≤ a2 ∧ a2 ≤ 51)) ∧ (¬ ((0 ≤ a3 ∧ a3 ≤ 999))))) → (0 : Int) ≤ -(-6) ∧ -(-6) < (8 : Int)) (k6 : ((¬ ((0 ≤ a1 ∧ a1 ≤ 200))) ∨ (((0 ≤ a1 ∧ a1 ≤ 200)) ∧ (¬ ((0 ≤ a2 ∧ a2 ≤ 51)))) ∨ (((0 ≤ a1 ∧ a1 ≤ 200)) ∧ ((0 ≤ a2 ∧ a2 ≤ 51)) ∧ (¬ ((0 ≤ a3 ∧ a3 ≤ 999))))) → Q (-6) (zup σ 97 (-(-6)) (zW ((σ 97 (-(-6))) + 1)))) : zO G MX11_price [zr 0, zi a1, zi a2, zi a3] σ Q := by
  refine zO_of (ls0 := [zr 0, zi a1, zi a2, zi a3]) (by decide) (Nat.le_of_ble_eq_true rfl) rfl ?_
  have J48 : ((¬ ((0 ≤ a1 ∧ a1 ≤ 200))) ∨ (((0 ≤ a1 ∧ a1 ≤ 200)) ∧ (¬ ((0 ≤ a2 ∧ a2 ≤ 51)))) ∨ (((0 ≤ a1 ∧ a1 ≤ 200)) ∧ ((0 ≤ a2 ∧ a2 ≤ 51)) ∧ (¬ ((0 ≤ a3 ∧ a3 ≤ 999))))) → zR G MX11_price 48 [zr 0, zi a1, zi a2, zi a3] [] σ Q := by
    intro h4
    refine z_aload_n dX11_price_48 rfl rfl ?_
    refine z_bipush (x := (-6)) dX11_price_49 (by decide +kernel) (by unfold zIn; decide) ?_
    have s4 : -2147483648 ≤ -(-6) ∧ -(-6) < (2147483648 : Int) := k4 h4
    have s5 : (0 : Int) ≤ -(-6) ∧ -(-6) < (8 : Int) := k5 h4
    refine z_callv (as := [zi (-6)]) (st := []) mkX11_refuse lkRX11_132 rfl rfl rfl (by decide) (Nat.le_of_ble_eq_true rfl) rfl dX11_price_51 ?_
    refine SX11_refuse s4 s5 ?_
    show zR G MX11_price 54 [zr 0, zi a1, zi a2, zi a3] [zi (-6)] (zup σ 97 (-(-6)) (zW ((σ 97 (-(-6))) + 1))) Q
    exact z_ireti rfl dX11_price_54 (k6 h4)
  refine z_iload_n dX11_price_0 rfl rfl ?_
  refine z_iconst dX11_price_1 (by unfold zIn; decide) ?_
  refine z_sipush (x := 200) dX11_price_2 (by decide +kernel) (by unfold zIn; decide) ?_
  refine z_calls (as := [zi a1, zi 0, zi 200]) (st := []) mkX11_within lkRX11_111 rfl (by decide) (Nat.le_of_ble_eq_true rfl) rfl dX11_price_5 ?_
  refine SX11_within ?_
  show zR G MX11_price 8 [zr 0, zi a1, zi a2, zi a3] [zi (if (0 ≤ a1 ∧ a1 ≤ 200) then (1 : Int) else 0)] σ Q
  refine z_if_eq dX11_price_8 (tgt := 48) (by decide) (fun z => ?_) (fun z => ?_)
  · have h1 : ¬ ((0 ≤ a1 ∧ a1 ≤ 200)) := zb0 z
    exact J48 (Or.inl h1)
  · have h1 : (0 ≤ a1 ∧ a1 ≤ 200) := zb1 z
    refine z_iload_n dX11_price_11 rfl rfl ?_
    refine z_iconst dX11_price_12 (by unfold zIn; decide) ?_
    refine z_bipush (x := 51) dX11_price_13 (by decide +kernel) (by unfold zIn; decide) ?_
    refine z_calls (as := [zi a2, zi 0, zi 51]) (st := []) mkX11_within lkRX11_111 rfl (by decide) (Nat.le_of_ble_eq_true rfl) rfl dX11_price_15 ?_
    refine SX11_within ?_
    show zR G MX11_price 18 [zr 0, zi a1, zi a2, zi a3] [zi (if (0 ≤ a2 ∧ a2 ≤ 51) then (1 : Int) else 0)] σ Q
    refine z_if_eq dX11_price_18 (tgt := 48) (by decide) (fun z => ?_) (fun z => ?_)
    · have h2 : ¬ ((0 ≤ a2 ∧ a2 ≤ 51)) := zb0 z
      exact J48 (Or.inr (Or.inl ⟨h1, h2⟩))
    · have h2 : (0 ≤ a2 ∧ a2 ≤ 51) := zb1 z
      refine z_iload_n dX11_price_21 rfl rfl ?_
      refine z_iconst dX11_price_22 (by unfold zIn; decide) ?_
      refine z_sipush (x := 999) dX11_price_23 (by decide +kernel) (by unfold zIn; decide) ?_
      refine z_calls (as := [zi a3, zi 0, zi 999]) (st := []) mkX11_within lkRX11_111 rfl (by decide) (Nat.le_of_ble_eq_true rfl) rfl dX11_price_26 ?_
      refine SX11_within ?_
      show zR G MX11_price 29 [zr 0, zi a1, zi a2, zi a3] [zi (if (0 ≤ a3 ∧ a3 ≤ 999) then (1 : Int) else 0)] σ Q
      refine z_if_eq dX11_price_29 (tgt := 48) (by decide) (fun z => ?_) (fun z => ?_)
      · have h3 : ¬ ((0 ≤ a3 ∧ a3 ≤ 999)) := zb0 z
        exact J48 (Or.inr (Or.inr ⟨h1, h2, h3⟩))
      · have h3 : (0 ≤ a3 ∧ a3 ≤ 999) := zb1 z
        refine z_aload_n dX11_price_32 rfl rfl ?_
        refine z_getfR (k := 7) flRX11_70 rfl rfl dX11_price_33 ?_
        refine z_bipush (x := 52) dX11_price_36 (by decide +kernel) (by unfold zIn; decide) ?_
        refine z_iload_n dX11_price_38 rfl rfl ?_
        have s1 : -2147483648 ≤ 52 * a1 ∧ 52 * a1 < (2147483648 : Int) := k1 h1 h2 h3
        refine z_imulN dX11_price_39 s1 ?_
        refine z_iload_n dX11_price_40 rfl rfl ?_
        have s2 : -2147483648 ≤ (52 * a1) + a2 ∧ (52 * a1) + a2 < (2147483648 : Int) := k2 h1 h2 h3
        refine z_iaddN dX11_price_41 s2 ?_
        refine z_callv (as := [zi ((52 * a1) + a2)]) (st := []) mkX4_isPriced lkRX11_355 rfl rfl rfl (by decide) (Nat.le_of_ble_eq_true rfl) rfl dX11_price_42 (k3 h1 h2 h3)
set_option maxRecDepth 20000 in
set_option maxHeartbeats 1000000 in
theorem TX11_price_45 {G : zG} {σ : zS} {Q : Int → zS → Prop} {v1 v2 v3 r : Int}  (k1 : (r = 0) → (σ 68 12 ≠ 200) → -2147483648 ≤ 52 * v1 ∧ 52 * v1 < (2147483648 : Int)) (k2 : (r = 0) → (σ 68 12 ≠ 200) → -2147483648 ≤ (52 * v1) + v2 ∧ (52 * v1) + v2 < (2147483648 : Int)) (k3 : (r = 0) → (σ 68 12 ≠ 200) → (0 : Int) ≤ σ 68 12 ∧ σ 68 12 < (200 : Int)) (k4 : (r = 0) → (σ 68 12 ≠ 200) → (0 : Int) ≤ (zup σ 76 (σ 68 12) ((52 * v1) + v2)) 68 12 ∧ (zup σ 76 (σ 68 12) ((52 * v1) + v2)) 68 12 < (200 : Int)) (k5 : (r = 0) → (σ 68 12 ≠ 200) → -2147483648 ≤ (zup (zup σ 76 (σ 68 12) ((52 * v1) + v2)) 77 ((zup σ 76 (σ 68 12) ((52 * v1) + v2)) 68 12) v3) 68 12 + 1 ∧ (zup (zup σ 76 (σ 68 12) ((52 * v1) + v2)) 77 ((zup σ 76 (σ 68 12) ((52 * v1) + v2)) 68 12) v3) 68 12 + 1 < (2147483648 : Int)) (k6 : (r = 0) → (σ 68 12 ≠ 200) → Q ((zup (zup σ 76 (σ 68 12) ((52 * v1) + v2)) 77 ((zup σ 76 (σ 68 12) ((52 * v1) + v2)) 68 12) v3) 68 12 + 1) (zup (zup (zup σ 76 (σ 68 12) ((52 * v1) + v2)) 77 ((zup σ 76 (σ 68 12) ((52 * v1) + v2)) 68 12) v3) 68 12 ((zup (zup σ 76 (σ 68 12) ((52 * v1) + v2)) 77 ((zup σ 76 (σ 68 12) ((52 * v1) + v2)) 68 12) v3) 68 12 + 1))) (k7 : (r = 0) → (σ 68 12 = 200) → -2147483648 ≤ -(-7) ∧ -(-7) < (2147483648 : Int)) (k8 : (r = 0) → (σ 68 12 = 200) → (0 : Int) ≤ -(-7) ∧ -(-7) < (8 : Int)) (k9 : (r = 0) → (σ 68 12 = 200) → Q (-7) (zup σ 97 (-(-7)) (zW ((σ 97 (-(-7))) + 1)))) (k10 : (r ≠ 0) → -2147483648 ≤ -(-6) ∧ -(-6) < (2147483648 : Int)) (k11 : (r ≠ 0) → (0 : Int) ≤ -(-6) ∧ -(-6) < (8 : Int)) (k12 : (r ≠ 0) → Q (-6) (zup σ 97 (-(-6)) (zW ((σ 97 (-(-6))) + 1)))) : zR G MX11_price 45 [zr 0, zi v1, zi v2, zi v3] [zi r] σ Q := by
  have J48 : (r ≠ 0) → zR G MX11_price 48 [zr 0, zi v1, zi v2, zi v3] [] σ Q := by
    intro h1
    refine z_aload_n dX11_price_48 rfl rfl ?_
    refine z_bipush (x := (-6)) dX11_price_49 (by decide +kernel) (by unfold zIn; decide) ?_
    have s10 : -2147483648 ≤ -(-6) ∧ -(-6) < (2147483648 : Int) := k10 h1
    have s11 : (0 : Int) ≤ -(-6) ∧ -(-6) < (8 : Int) := k11 h1
    refine z_callv (as := [zi (-6)]) (st := []) mkX11_refuse lkRX11_132 rfl rfl rfl (by decide) (Nat.le_of_ble_eq_true rfl) rfl dX11_price_51 ?_
    refine SX11_refuse s10 s11 ?_
    show zR G MX11_price 54 [zr 0, zi v1, zi v2, zi v3] [zi (-6)] (zup σ 97 (-(-6)) (zW ((σ 97 (-(-6))) + 1))) Q
    exact z_ireti rfl dX11_price_54 (k12 h1)
  refine z_if_eq dX11_price_45 (tgt := 55) (by decide) (fun h1 => ?_) (fun h1 => ?_)
  · skip
    refine z_aload_n dX11_price_55 rfl rfl ?_
    refine z_getfR (k := 7) flRX11_70 rfl rfl dX11_price_56 ?_
    refine z_getfI (k := 12) flRX11_358 rfl rfl dX11_price_59 ?_
    refine z_sipush (x := 200) dX11_price_62 (by decide +kernel) (by unfold zIn; decide) ?_
    refine z_icmp_ne dX11_price_65 (tgt := 77) (by decide) (fun h2 => ?_) (fun h2 => ?_)
    · skip
      refine z_aload_n dX11_price_77 rfl rfl ?_
      refine z_getfR (k := 7) flRX11_70 rfl rfl dX11_price_78 ?_
      refine z_bipush (x := 52) dX11_price_81 (by decide +kernel) (by unfold zIn; decide) ?_
      refine z_iload_n dX11_price_83 rfl rfl ?_
      have s1 : -2147483648 ≤ 52 * v1 ∧ 52 * v1 < (2147483648 : Int) := k1 h1 h2
      refine z_imulN dX11_price_84 s1 ?_
      refine z_iload_n dX11_price_85 rfl rfl ?_
      have s2 : -2147483648 ≤ (52 * v1) + v2 ∧ (52 * v1) + v2 < (2147483648 : Int) := k2 h1 h2
      refine z_iaddN dX11_price_86 s2 ?_
      refine z_iload_n dX11_price_87 rfl rfl ?_
      have s3 : (0 : Int) ≤ σ 68 12 ∧ σ 68 12 < (200 : Int) := k3 h1 h2
      have s4 : (0 : Int) ≤ (zup σ 76 (σ 68 12) ((52 * v1) + v2)) 68 12 ∧ (zup σ 76 (σ 68 12) ((52 * v1) + v2)) 68 12 < (200 : Int) := k4 h1 h2
      have s5 : -2147483648 ≤ (zup (zup σ 76 (σ 68 12) ((52 * v1) + v2)) 77 ((zup σ 76 (σ 68 12) ((52 * v1) + v2)) 68 12) v3) 68 12 + 1 ∧ (zup (zup σ 76 (σ 68 12) ((52 * v1) + v2)) 77 ((zup σ 76 (σ 68 12) ((52 * v1) + v2)) 68 12) v3) 68 12 + 1 < (2147483648 : Int) := k5 h1 h2
      refine z_callv (as := [zi ((52 * v1) + v2), zi v3]) (st := []) mkX4_tellPrice lkRX11_361 rfl rfl rfl (by decide) (Nat.le_of_ble_eq_true rfl) rfl dX11_price_88 ?_
      refine SX4_tellPrice s3 s4 s5 ?_
      show zR G MX11_price 91 [zr 0, zi v1, zi v2, zi v3] [zi ((zup (zup σ 76 (σ 68 12) ((52 * v1) + v2)) 77 ((zup σ 76 (σ 68 12) ((52 * v1) + v2)) 68 12) v3) 68 12 + 1)] (zup (zup (zup σ 76 (σ 68 12) ((52 * v1) + v2)) 77 ((zup σ 76 (σ 68 12) ((52 * v1) + v2)) 68 12) v3) 68 12 ((zup (zup σ 76 (σ 68 12) ((52 * v1) + v2)) 77 ((zup σ 76 (σ 68 12) ((52 * v1) + v2)) 68 12) v3) 68 12 + 1)) Q
      exact z_ireti rfl dX11_price_91 (k6 h1 h2)
    · skip
      refine z_aload_n dX11_price_68 rfl rfl ?_
      refine z_bipush (x := (-7)) dX11_price_69 (by decide +kernel) (by unfold zIn; decide) ?_
      have s7 : -2147483648 ≤ -(-7) ∧ -(-7) < (2147483648 : Int) := k7 h1 h2
      have s8 : (0 : Int) ≤ -(-7) ∧ -(-7) < (8 : Int) := k8 h1 h2
      refine z_callv (as := [zi (-7)]) (st := []) mkX11_refuse lkRX11_132 rfl rfl rfl (by decide) (Nat.le_of_ble_eq_true rfl) rfl dX11_price_71 ?_
      refine SX11_refuse s7 s8 ?_
      show zR G MX11_price 74 [zr 0, zi v1, zi v2, zi v3] [zi (-7)] (zup σ 97 (-(-7)) (zW ((σ 97 (-(-7))) + 1))) Q
      refine z_goto dX11_price_74 (tgt := 91) (by decide) ?_
      exact z_ireti rfl dX11_price_91 (k9 h1 h2)
  · skip
    exact J48 h1
set_option maxRecDepth 20000 in
set_option maxHeartbeats 1000000 in
theorem TX4_endOf {G : zG} {σ : zS} {Q : Int → zS → Prop} {a1 : Int}  (k1 : (0 : Int) ≤ a1 ∧ a1 < (8 : Int)) (k2 : (σ 75 a1 ≠ 0) → zR G MX4_endOf 20 [zr 68, zi a1, zi (-40000), zi 0] [] σ Q) (k3 : (¬ (σ 75 a1 ≠ 0)) → Q (σ 74 a1) σ) : zO G MX4_endOf [zr 68, zi a1] σ Q := by
  refine zO_of (ls0 := [zr 68, zi a1, zu, zu]) (by decide) (Nat.le_of_ble_eq_true rfl) rfl ?_
  refine z_aload_n dX4_endOf_0 rfl rfl ?_
  refine z_iload_n dX4_endOf_1 rfl rfl ?_
  have s1 : (0 : Int) ≤ a1 ∧ a1 < (8 : Int) := k1
  refine z_callv (as := [zi a1]) (st := []) mkX4_isForLives lkRX4_56 rfl rfl rfl (by decide) (Nat.le_of_ble_eq_true rfl) rfl dX4_endOf_2 ?_
  refine SX4_isForLives s1 ?_
  show zR G MX4_endOf 5 [zr 68, zi a1, zu, zu] [zi (if σ 75 a1 ≠ 0 then (1 : Int) else 0)] σ Q
  refine z_if_ne dX4_endOf_5 (tgt := 15) (by decide) (fun z => ?_) (fun z => ?_)
  · have h1 : σ 75 a1 ≠ 0 := zb1 z
    refine z_ldc (x := (-40000)) (zin_5 (List.mem_of_getElem? (i := 118) (by decide +kernel))) (by unfold zIn; decide) dX4_endOf_15 ?_
    refine z_istore_n (ls' := [zr 68, zi a1, zi (-40000), zu]) dX4_endOf_17 rfl (by decide) rfl ?_
    refine z_iconst dX4_endOf_18 (by unfold zIn; decide) ?_
    refine z_istore_n (ls' := [zr 68, zi a1, zi (-40000), zi 0]) dX4_endOf_19 rfl (by decide) rfl ?_
    exact k2 h1
  · have h1 : ¬ (σ 75 a1 ≠ 0) := zb0 z
    refine z_aload_n dX4_endOf_8 rfl rfl ?_
    refine z_getfR (k := 6) flRX4_27 rfl rfl dX4_endOf_9 ?_
    refine z_iload_n dX4_endOf_12 rfl rfl ?_
    refine z_iald rfl s1.1 s1.2 dX4_endOf_13 ?_
    exact z_ireti rfl dX4_endOf_14 (k3 h1)
set_option maxRecDepth 20000 in
set_option maxHeartbeats 1000000 in
theorem TX4_endOf_20 {G : zG} {σ : zS} {Q : Int → zS → Prop} {v1 v2 v3 : Int}  (k1 : (σ 22 12 ≤ v3) → Q (zdiv v2 365) σ) (k2 : (v3 < σ 22 12) → (0 : Int) ≤ v1 ∧ v1 < (8 : Int)) (k3 : (v3 < σ 22 12) → (zand (zushr (σ 75 v1) v3) 1 ≠ 0) → (0 : Int) ≤ v3 ∧ v3 < (24 : Int)) (k4 : (v3 < σ 22 12) → (zand (zushr (σ 75 v1) v3) 1 ≠ 0) → (σ 27 v3 = (-1)) → Q 1000 σ) (k5 : (v3 < σ 22 12) → (zand (zushr (σ 75 v1) v3) 1 = 0) → -2147483648 ≤ v3 + 1 ∧ v3 + 1 < (2147483648 : Int)) (k6 : (v3 < σ 22 12) → (zand (zushr (σ 75 v1) v3) 1 = 0) → zR G MX4_endOf 20 [zr 68, zi v1, zi v2, zi (v3 + 1)] [] σ Q) (k7 : (v3 < σ 22 12) → (zand (zushr (σ 75 v1) v3) 1 ≠ 0) → (σ 27 v3 ≠ (-1)) → -2147483648 ≤ v3 + 1 ∧ v3 + 1 < (2147483648 : Int)) (k8 : (v3 < σ 22 12) → (zand (zushr (σ 75 v1) v3) 1 ≠ 0) → (σ 27 v3 ≠ (-1)) → zR G MX4_endOf 20 [zr 68, zi v1, zi (max v2 (σ 26 v3)), zi (v3 + 1)] [] σ Q) : zR G MX4_endOf 20 [zr 68, zi v1, zi v2, zi v3] [] σ Q := by
  have J75_1 : (v3 < σ 22 12) → (zand (zushr (σ 75 v1) v3) 1 ≠ 0) → (σ 27 v3 ≠ (-1)) → zR G MX4_endOf 75 [zr 68, zi v1, zi (max v2 (σ 26 v3)), zi v3] [] σ Q := by
    intro h1 h2 h3
    have s7 : -2147483648 ≤ v3 + 1 ∧ v3 + 1 < (2147483648 : Int) := k7 h1 h2 h3
    refine z_iincN (ls' := [zr 68, zi v1, zi (max v2 (σ 26 v3)), zi (v3 + 1)]) dX4_endOf_75 rfl (by decide) s7 rfl ?_
    refine z_goto dX4_endOf_78 (tgt := 20) (by decide) ?_
    exact k8 h1 h2 h3
  have J75 : (v3 < σ 22 12) → (zand (zushr (σ 75 v1) v3) 1 = 0) → zR G MX4_endOf 75 [zr 68, zi v1, zi v2, zi v3] [] σ Q := by
    intro h1 h2
    have s5 : -2147483648 ≤ v3 + 1 ∧ v3 + 1 < (2147483648 : Int) := k5 h1 h2
    refine z_iincN (ls' := [zr 68, zi v1, zi v2, zi (v3 + 1)]) dX4_endOf_75 rfl (by decide) s5 rfl ?_
    refine z_goto dX4_endOf_78 (tgt := 20) (by decide) ?_
    exact k6 h1 h2
  refine z_iload_n dX4_endOf_20 rfl rfl ?_
  refine z_aload_n dX4_endOf_21 rfl rfl ?_
  refine z_getfR (k := 0) flRX4_52 rfl rfl dX4_endOf_22 ?_
  refine z_getfI (k := 12) flRX4_61 rfl rfl dX4_endOf_25 ?_
  refine z_icmp_ge dX4_endOf_28 (tgt := 81) (by decide) (fun h1 => ?_) (fun h1 => ?_)
  · skip
    refine z_iload_n dX4_endOf_81 rfl rfl ?_
    refine z_sipush (x := 365) dX4_endOf_82 (by decide +kernel) (by unfold zIn; decide) ?_
    refine z_idiv dX4_endOf_85 (by decide) ?_
    exact z_ireti rfl dX4_endOf_86 (k1 h1)
  · skip
    refine z_aload_n dX4_endOf_31 rfl rfl ?_
    refine z_getfR (k := 7) flRX4_30 rfl rfl dX4_endOf_32 ?_
    refine z_iload_n dX4_endOf_35 rfl rfl ?_
    have s2 : (0 : Int) ≤ v1 ∧ v1 < (8 : Int) := k2 h1
    refine z_iald rfl s2.1 s2.2 dX4_endOf_36 ?_
    refine z_iload_n dX4_endOf_37 rfl rfl ?_
    refine z_iushr dX4_endOf_38 ?_
    refine z_iconst dX4_endOf_39 (by unfold zIn; decide) ?_
    refine z_iand dX4_endOf_40 ?_
    refine z_if_eq dX4_endOf_41 (tgt := 75) (by decide) (fun h2 => ?_) (fun h2 => ?_)
    · skip
      exact J75 h1 h2
    · skip
      refine z_aload_n dX4_endOf_44 rfl rfl ?_
      refine z_getfR (k := 0) flRX4_52 rfl rfl dX4_endOf_45 ?_
      refine z_getfR (k := 4) flRX4_64 rfl rfl dX4_endOf_48 ?_
      refine z_iload_n dX4_endOf_51 rfl rfl ?_
      have s3 : (0 : Int) ≤ v3 ∧ v3 < (24 : Int) := k3 h1 h2
      refine z_iald rfl s3.1 s3.2 dX4_endOf_52 ?_
      refine z_iconst dX4_endOf_53 (by unfold zIn; decide) ?_
      refine z_icmp_ne dX4_endOf_54 (tgt := 61) (by decide) (fun h3 => ?_) (fun h3 => ?_)
      · skip
        refine z_iload_n dX4_endOf_61 rfl rfl ?_
        refine z_aload_n dX4_endOf_62 rfl rfl ?_
        refine z_getfR (k := 0) flRX4_52 rfl rfl dX4_endOf_63 ?_
        refine z_getfR (k := 3) flRX4_67 rfl rfl dX4_endOf_66 ?_
        refine z_iload_n dX4_endOf_69 rfl rfl ?_
        refine z_iald rfl s3.1 s3.2 dX4_endOf_70 ?_
        refine z_max lkRX4_70 (by decide) (by decide) (Nat.le_of_ble_eq_true rfl) dX4_endOf_71 ?_
        refine z_istore_n (ls' := [zr 68, zi v1, zi (max v2 (σ 26 v3)), zi v3]) dX4_endOf_74 rfl (by decide) rfl ?_
        exact J75_1 h1 h2 h3
      · skip
        refine z_sipush (x := 1000) dX4_endOf_57 (by decide +kernel) (by unfold zIn; decide) ?_
        exact z_ireti rfl dX4_endOf_60 (k4 h1 h2 h3)
set_option maxRecDepth 20000 in
set_option maxHeartbeats 1000000 in
theorem TX11_ends {G : zG} {σ : zS} {Q : Int → zS → Prop} {a1 : Int}  (k1 : (¬ ((0 ≤ a1 ∧ a1 < σ 68 11))) → Q (-1) σ) (k2 : ((0 ≤ a1 ∧ a1 < σ 68 11)) → zO G MX4_endOf [zr 68, zi a1] σ (fun rr σ' => zR G MX11_ends 19 [zr 0, zi a1] [zi rr] σ' Q)) : zO G MX11_ends [zr 0, zi a1] σ Q := by
  refine zO_of (ls0 := [zr 0, zi a1]) (by decide) (Nat.le_of_ble_eq_true rfl) rfl ?_
  refine z_aload_n dX11_ends_0 rfl rfl ?_
  refine z_getfR (k := 7) flRX11_70 rfl rfl dX11_ends_1 ?_
  refine z_iload_n dX11_ends_4 rfl rfl ?_
  refine z_callv (as := [zi a1]) (st := []) mkX4_has lkRX11_364 rfl rfl rfl (by decide) (Nat.le_of_ble_eq_true rfl) rfl dX11_ends_5 ?_
  refine SX4_has ?_
  show zR G MX11_ends 8 [zr 0, zi a1] [zi (if (0 ≤ a1 ∧ a1 < σ 68 11) then (1 : Int) else 0)] σ Q
  refine z_if_eq dX11_ends_8 (tgt := 22) (by decide) (fun z => ?_) (fun z => ?_)
  · have h1 : ¬ ((0 ≤ a1 ∧ a1 < σ 68 11)) := zb0 z
    refine z_iconst dX11_ends_22 (by unfold zIn; decide) ?_
    exact z_ireti rfl dX11_ends_23 (k1 h1)
  · have h1 : (0 ≤ a1 ∧ a1 < σ 68 11) := zb1 z
    refine z_aload_n dX11_ends_11 rfl rfl ?_
    refine z_getfR (k := 7) flRX11_70 rfl rfl dX11_ends_12 ?_
    refine z_iload_n dX11_ends_15 rfl rfl ?_
    refine z_callv (as := [zi a1]) (st := []) mkX4_endOf lkRX11_365 rfl rfl rfl (by decide) (Nat.le_of_ble_eq_true rfl) rfl dX11_ends_16 (k2 h1)
set_option maxRecDepth 20000 in
set_option maxHeartbeats 1000000 in
theorem TX11_ends_19 {G : zG} {σ : zS} {Q : Int → zS → Prop} {v1 r : Int}  (k1 : Q r σ) : zR G MX11_ends 19 [zr 0, zi v1] [zi r] σ Q := by
  refine z_goto dX11_ends_19 (tgt := 23) (by decide) ?_
  exact z_ireti rfl dX11_ends_23 (k1)
set_option maxRecDepth 20000 in
set_option maxHeartbeats 1000000 in
theorem TX4_priceIn {G : zG} {σ : zS} {Q : Int → zS → Prop} {a1 : Int}  (k1 : zR G MX4_priceIn 4 [zr 68, zi a1, zi (-1), zi 0] [] σ Q) : zO G MX4_priceIn [zr 68, zi a1] σ Q := by
  refine zO_of (ls0 := [zr 68, zi a1, zu, zu]) (by decide) (Nat.le_of_ble_eq_true rfl) rfl ?_
  refine z_iconst dX4_priceIn_0 (by unfold zIn; decide) ?_
  refine z_istore_n (ls' := [zr 68, zi a1, zi (-1), zu]) dX4_priceIn_1 rfl (by decide) rfl ?_
  refine z_iconst dX4_priceIn_2 (by unfold zIn; decide) ?_
  refine z_istore_n (ls' := [zr 68, zi a1, zi (-1), zi 0]) dX4_priceIn_3 rfl (by decide) rfl ?_
  exact k1
set_option maxRecDepth 20000 in
set_option maxHeartbeats 1000000 in
theorem TX4_priceIn_4 {G : zG} {σ : zS} {Q : Int → zS → Prop} {v1 v2 v3 : Int}  (k1 : (σ 68 12 ≤ v3) → (v2 ≠ (-1)) → (0 : Int) ≤ v2 ∧ v2 < (200 : Int)) (k2 : (σ 68 12 ≤ v3) → (v2 ≠ (-1)) → Q (σ 77 v2) σ) (k3 : (σ 68 12 ≤ v3) → (v2 = (-1)) → Q 0 σ) (k4 : (v3 < σ 68 12) → (0 : Int) ≤ v3 ∧ v3 < (200 : Int)) (k5 : (v3 < σ 68 12) → (σ 76 v3 ≤ v1) → (v2 ≠ (-1)) → (0 : Int) ≤ v2 ∧ v2 < (200 : Int)) (k6 : (v3 < σ 68 12) → (v1 < σ 76 v3 ∨ (σ 76 v3 ≤ v1 ∧ v2 ≠ (-1) ∧ σ 76 v3 ≤ σ 76 v2)) → -2147483648 ≤ v3 + 1 ∧ v3 + 1 < (2147483648 : Int)) (k7 : (v3 < σ 68 12) → (v1 < σ 76 v3 ∨ (σ 76 v3 ≤ v1 ∧ v2 ≠ (-1) ∧ σ 76 v3 ≤ σ 76 v2)) → zR G MX4_priceIn 4 [zr 68, zi v1, zi v2, zi (v3 + 1)] [] σ Q) (k8 : (v3 < σ 68 12) → (σ 76 v3 ≤ v1) → (v2 = (-1) ∨ (v2 ≠ (-1) ∧ σ 76 v2 < σ 76 v3)) → -2147483648 ≤ v3 + 1 ∧ v3 + 1 < (2147483648 : Int)) (k9 : (v3 < σ 68 12) → (σ 76 v3 ≤ v1) → (v2 = (-1) ∨ (v2 ≠ (-1) ∧ σ 76 v2 < σ 76 v3)) → zR G MX4_priceIn 4 [zr 68, zi v1, zi v3, zi (v3 + 1)] [] σ Q) : zR G MX4_priceIn 4 [zr 68, zi v1, zi v2, zi v3] [] σ Q := by
  have J44_1 : (v3 < σ 68 12) → (σ 76 v3 ≤ v1) → (v2 = (-1) ∨ (v2 ≠ (-1) ∧ σ 76 v2 < σ 76 v3)) → zR G MX4_priceIn 44 [zr 68, zi v1, zi v3, zi v3] [] σ Q := by
    intro h1 h3 h6
    have s8 : -2147483648 ≤ v3 + 1 ∧ v3 + 1 < (2147483648 : Int) := k8 h1 h3 h6
    refine z_iincN (ls' := [zr 68, zi v1, zi v3, zi (v3 + 1)]) dX4_priceIn_44 rfl (by decide) s8 rfl ?_
    refine z_goto dX4_priceIn_47 (tgt := 4) (by decide) ?_
    exact k9 h1 h3 h6
  have J44 : (v3 < σ 68 12) → (v1 < σ 76 v3 ∨ (σ 76 v3 ≤ v1 ∧ v2 ≠ (-1) ∧ σ 76 v3 ≤ σ 76 v2)) → zR G MX4_priceIn 44 [zr 68, zi v1, zi v2, zi v3] [] σ Q := by
    intro h1 h7
    have s6 : -2147483648 ≤ v3 + 1 ∧ v3 + 1 < (2147483648 : Int) := k6 h1 h7
    refine z_iincN (ls' := [zr 68, zi v1, zi v2, zi (v3 + 1)]) dX4_priceIn_44 rfl (by decide) s6 rfl ?_
    refine z_goto dX4_priceIn_47 (tgt := 4) (by decide) ?_
    exact k7 h1 h7
  have J42 : (v3 < σ 68 12) → (σ 76 v3 ≤ v1) → (v2 = (-1) ∨ (v2 ≠ (-1) ∧ σ 76 v2 < σ 76 v3)) → zR G MX4_priceIn 42 [zr 68, zi v1, zi v2, zi v3] [] σ Q := by
    intro h1 h3 h6
    refine z_iload_n dX4_priceIn_42 rfl rfl ?_
    refine z_istore_n (ls' := [zr 68, zi v1, zi v3, zi v3]) dX4_priceIn_43 rfl (by decide) rfl ?_
    exact J44_1 h1 h3 h6
  refine z_iload_n dX4_priceIn_4 rfl rfl ?_
  refine z_aload_n dX4_priceIn_5 rfl rfl ?_
  refine z_getfI (k := 12) flRX4_46 rfl rfl dX4_priceIn_6 ?_
  refine z_icmp_ge dX4_priceIn_9 (tgt := 50) (by decide) (fun h1 => ?_) (fun h1 => ?_)
  · skip
    refine z_iload_n dX4_priceIn_50 rfl rfl ?_
    refine z_iconst dX4_priceIn_51 (by unfold zIn; decide) ?_
    refine z_icmp_ne dX4_priceIn_52 (tgt := 59) (by decide) (fun h2 => ?_) (fun h2 => ?_)
    · skip
      refine z_aload_n dX4_priceIn_59 rfl rfl ?_
      refine z_getfR (k := 9) flRX4_36 rfl rfl dX4_priceIn_60 ?_
      refine z_iload_n dX4_priceIn_63 rfl rfl ?_
      have s1 : (0 : Int) ≤ v2 ∧ v2 < (200 : Int) := k1 h1 h2
      refine z_iald rfl s1.1 s1.2 dX4_priceIn_64 ?_
      exact z_ireti rfl dX4_priceIn_65 (k2 h1 h2)
    · skip
      refine z_iconst dX4_priceIn_55 (by unfold zIn; decide) ?_
      refine z_goto dX4_priceIn_56 (tgt := 65) (by decide) ?_
      exact z_ireti rfl dX4_priceIn_65 (k3 h1 h2)
  · skip
    refine z_aload_n dX4_priceIn_12 rfl rfl ?_
    refine z_getfR (k := 8) flRX4_33 rfl rfl dX4_priceIn_13 ?_
    refine z_iload_n dX4_priceIn_16 rfl rfl ?_
    have s4 : (0 : Int) ≤ v3 ∧ v3 < (200 : Int) := k4 h1
    refine z_iald rfl s4.1 s4.2 dX4_priceIn_17 ?_
    refine z_iload_n dX4_priceIn_18 rfl rfl ?_
    refine z_icmp_gt dX4_priceIn_19 (tgt := 44) (by decide) (fun h3 => ?_) (fun h3 => ?_)
    · skip
      exact J44 h1 (Or.inl h3)
    · skip
      refine z_iload_n dX4_priceIn_22 rfl rfl ?_
      refine z_iconst dX4_priceIn_23 (by unfold zIn; decide) ?_
      refine z_icmp_eq dX4_priceIn_24 (tgt := 42) (by decide) (fun h4 => ?_) (fun h4 => ?_)
      · skip
        exact J42 h1 h3 (Or.inl h4)
      · skip
        refine z_aload_n dX4_priceIn_27 rfl rfl ?_
        refine z_getfR (k := 8) flRX4_33 rfl rfl dX4_priceIn_28 ?_
        refine z_iload_n dX4_priceIn_31 rfl rfl ?_
        refine z_iald rfl s4.1 s4.2 dX4_priceIn_32 ?_
        refine z_aload_n dX4_priceIn_33 rfl rfl ?_
        refine z_getfR (k := 8) flRX4_33 rfl rfl dX4_priceIn_34 ?_
        refine z_iload_n dX4_priceIn_37 rfl rfl ?_
        have s5 : (0 : Int) ≤ v2 ∧ v2 < (200 : Int) := k5 h1 h3 h4
        refine z_iald rfl s5.1 s5.2 dX4_priceIn_38 ?_
        refine z_icmp_le dX4_priceIn_39 (tgt := 44) (by decide) (fun h5 => ?_) (fun h5 => ?_)
        · skip
          exact J44 h1 (Or.inr ⟨h3, h4, h5⟩)
        · skip
          exact J42 h1 h3 (Or.inr ⟨h4, h5⟩)
set_option maxRecDepth 20000 in
set_option maxHeartbeats 1000000 in
theorem TX4_reservedIn {G : zG} {σ : zS} {Q : Int → zS → Prop} {a1 a2 : Int}  (k1 : (0 : Int) ≤ a1 ∧ a1 < (8 : Int)) (k2 : -2147483648 ≤ 52 * a2 ∧ 52 * a2 < (2147483648 : Int)) (k3 : -2147483648 ≤ (52 * a2) + σ 72 a1 ∧ (52 * a2) + σ 72 a1 < (2147483648 : Int)) (k4 : zO G MX4_priceIn [zr 68, zi ((52 * a2) + σ 72 a1)] σ (fun rr σ' => zR G MX4_reservedIn 27 [zr 68, zi a1, zi a2] [zi rr, zi (σ 71 a1), zi (σ 70 a1)] σ' Q)) : zO G MX4_reservedIn [zr 68, zi a1, zi a2] σ Q := by
  refine zO_of (ls0 := [zr 68, zi a1, zi a2]) (by decide) (Nat.le_of_ble_eq_true rfl) rfl ?_
  refine z_aload_n dX4_reservedIn_0 rfl rfl ?_
  refine z_getfR (k := 2) flRX4_15 rfl rfl dX4_reservedIn_1 ?_
  refine z_iload_n dX4_reservedIn_4 rfl rfl ?_
  have s1 : (0 : Int) ≤ a1 ∧ a1 < (8 : Int) := k1
  refine z_iald rfl s1.1 s1.2 dX4_reservedIn_5 ?_
  refine z_aload_n dX4_reservedIn_6 rfl rfl ?_
  refine z_getfR (k := 3) flRX4_18 rfl rfl dX4_reservedIn_7 ?_
  refine z_iload_n dX4_reservedIn_10 rfl rfl ?_
  refine z_iald rfl s1.1 s1.2 dX4_reservedIn_11 ?_
  refine z_aload_n dX4_reservedIn_12 rfl rfl ?_
  refine z_bipush (x := 52) dX4_reservedIn_13 (by decide +kernel) (by unfold zIn; decide) ?_
  refine z_iload_n dX4_reservedIn_15 rfl rfl ?_
  have s2 : -2147483648 ≤ 52 * a2 ∧ 52 * a2 < (2147483648 : Int) := k2
  refine z_imulN dX4_reservedIn_16 s2 ?_
  refine z_aload_n dX4_reservedIn_17 rfl rfl ?_
  refine z_getfR (k := 4) flRX4_21 rfl rfl dX4_reservedIn_18 ?_
  refine z_iload_n dX4_reservedIn_21 rfl rfl ?_
  refine z_iald rfl s1.1 s1.2 dX4_reservedIn_22 ?_
  have s3 : -2147483648 ≤ (52 * a2) + σ 72 a1 ∧ (52 * a2) + σ 72 a1 < (2147483648 : Int) := k3
  refine z_iaddN dX4_reservedIn_23 s3 ?_
  refine z_callv (as := [zi ((52 * a2) + σ 72 a1)]) (st := [zi (σ 71 a1), zi (σ 70 a1)]) mkX4_priceIn lkRX4_76 rfl rfl rfl (by decide) (Nat.le_of_ble_eq_true rfl) rfl dX4_reservedIn_24 (k4)
set_option maxRecDepth 20000 in
set_option maxHeartbeats 1000000 in
theorem TX4_reservedIn_27 {G : zG} {σ : zS} {Q : Int → zS → Prop} {v1 v2 r t1 t2 : Int}  (k1 : -2147483648 ≤ t1 * r ∧ t1 * r < (2147483648 : Int)) (k2 : -2147483648 ≤ t2 + (zdiv (t1 * r) 10) ∧ t2 + (zdiv (t1 * r) 10) < (2147483648 : Int)) (k3 : Q (t2 + (zdiv (t1 * r) 10)) σ) : zR G MX4_reservedIn 27 [zr 68, zi v1, zi v2] [zi r, zi t1, zi t2] σ Q := by
  have s1 : -2147483648 ≤ t1 * r ∧ t1 * r < (2147483648 : Int) := k1
  refine z_imulN dX4_reservedIn_27 s1 ?_
  refine z_bipush (x := 10) dX4_reservedIn_28 (by decide +kernel) (by unfold zIn; decide) ?_
  refine z_idiv dX4_reservedIn_30 (by decide) ?_
  have s2 : -2147483648 ≤ t2 + (zdiv (t1 * r) 10) ∧ t2 + (zdiv (t1 * r) 10) < (2147483648 : Int) := k2
  refine z_iaddN dX4_reservedIn_31 s2 ?_
  exact z_ireti rfl dX4_reservedIn_32 (k3)
set_option maxRecDepth 20000 in
set_option maxHeartbeats 1000000 in
theorem TX4_dueIn {G : zG} {σ : zS} {Q : Int → zS → Prop} {a1 a2 : Int}  (k1 : zO G MX4_endOf [zr 68, zi a1] σ (fun rr σ' => zR G MX4_dueIn 6 [zr 68, zi a1, zi a2] [zi rr, zi a2] σ' Q)) : zO G MX4_dueIn [zr 68, zi a1, zi a2] σ Q := by
  refine zO_of (ls0 := [zr 68, zi a1, zi a2]) (by decide) (Nat.le_of_ble_eq_true rfl) rfl ?_
  refine z_iload_n dX4_dueIn_0 rfl rfl ?_
  refine z_aload_n dX4_dueIn_1 rfl rfl ?_
  refine z_iload_n dX4_dueIn_2 rfl rfl ?_
  refine z_callv (as := [zi a1]) (st := [zi a2]) mkX4_endOf lkRX4_80 rfl rfl rfl (by decide) (Nat.le_of_ble_eq_true rfl) rfl dX4_dueIn_3 (k1)
set_option maxRecDepth 20000 in
set_option maxHeartbeats 1000000 in
theorem TX4_dueIn_6 {G : zG} {σ : zS} {Q : Int → zS → Prop} {v1 v2 r t1 : Int}  (k1 : (r < t1) → (0 : Int) ≤ v1 ∧ v1 < (8 : Int)) (k2 : (r < t1) → Q (σ 69 v1) σ) (k3 : (t1 ≤ r) → zO G MX4_reservedIn [zr 68, zi v1, zi v2] σ (fun rr σ' => zR G MX4_dueIn 15 [zr 68, zi v1, zi v2] [zi rr] σ' Q)) : zR G MX4_dueIn 6 [zr 68, zi v1, zi v2] [zi r, zi t1] σ Q := by
  refine z_icmp_gt dX4_dueIn_6 (tgt := 18) (by decide) (fun h1 => ?_) (fun h1 => ?_)
  · skip
    refine z_aload_n dX4_dueIn_18 rfl rfl ?_
    refine z_getfR (k := 1) flRX4_11 rfl rfl dX4_dueIn_19 ?_
    refine z_iload_n dX4_dueIn_22 rfl rfl ?_
    have s1 : (0 : Int) ≤ v1 ∧ v1 < (8 : Int) := k1 h1
    refine z_iald rfl s1.1 s1.2 dX4_dueIn_23 ?_
    exact z_ireti rfl dX4_dueIn_24 (k2 h1)
  · skip
    refine z_aload_n dX4_dueIn_9 rfl rfl ?_
    refine z_iload_n dX4_dueIn_10 rfl rfl ?_
    refine z_iload_n dX4_dueIn_11 rfl rfl ?_
    refine z_callv (as := [zi v1, zi v2]) (st := []) mkX4_reservedIn lkRX4_83 rfl rfl rfl (by decide) (Nat.le_of_ble_eq_true rfl) rfl dX4_dueIn_12 (k3 h1)
set_option maxRecDepth 20000 in
set_option maxHeartbeats 1000000 in
theorem TX4_dueIn_15 {G : zG} {σ : zS} {Q : Int → zS → Prop} {v1 v2 r : Int}  (k1 : Q r σ) : zR G MX4_dueIn 15 [zr 68, zi v1, zi v2] [zi r] σ Q := by
  refine z_goto dX4_dueIn_15 (tgt := 24) (by decide) ?_
  exact z_ireti rfl dX4_dueIn_24 (k1)
set_option maxRecDepth 20000 in
set_option maxHeartbeats 1000000 in
theorem TX11_rent {G : zG} {σ : zS} {Q : Int → zS → Prop} {a1 a2 : Int}  (k1 : ((0 ≤ a1 ∧ a1 < σ 68 11)) → ((0 ≤ a2 ∧ a2 ≤ 200)) → zO G MX4_dueIn [zr 68, zi a1, zi a2] σ (fun rr σ' => zR G MX11_rent 31 [zr 0, zi a1, zi a2] [zi rr] σ' Q)) (k2 : ((¬ ((0 ≤ a1 ∧ a1 < σ 68 11))) ∨ (((0 ≤ a1 ∧ a1 < σ 68 11)) ∧ (¬ ((0 ≤ a2 ∧ a2 ≤ 200))))) → Q (-1) σ) : zO G MX11_rent [zr 0, zi a1, zi a2] σ Q := by
  refine zO_of (ls0 := [zr 0, zi a1, zi a2]) (by decide) (Nat.le_of_ble_eq_true rfl) rfl ?_
  have J34 : ((¬ ((0 ≤ a1 ∧ a1 < σ 68 11))) ∨ (((0 ≤ a1 ∧ a1 < σ 68 11)) ∧ (¬ ((0 ≤ a2 ∧ a2 ≤ 200))))) → zR G MX11_rent 34 [zr 0, zi a1, zi a2] [] σ Q := by
    intro h3
    refine z_iconst dX11_rent_34 (by unfold zIn; decide) ?_
    exact z_ireti rfl dX11_rent_35 (k2 h3)
  refine z_aload_n dX11_rent_0 rfl rfl ?_
  refine z_getfR (k := 7) flRX11_70 rfl rfl dX11_rent_1 ?_
  refine z_iload_n dX11_rent_4 rfl rfl ?_
  refine z_callv (as := [zi a1]) (st := []) mkX4_has lkRX11_364 rfl rfl rfl (by decide) (Nat.le_of_ble_eq_true rfl) rfl dX11_rent_5 ?_
  refine SX4_has ?_
  show zR G MX11_rent 8 [zr 0, zi a1, zi a2] [zi (if (0 ≤ a1 ∧ a1 < σ 68 11) then (1 : Int) else 0)] σ Q
  refine z_if_eq dX11_rent_8 (tgt := 34) (by decide) (fun z => ?_) (fun z => ?_)
  · have h1 : ¬ ((0 ≤ a1 ∧ a1 < σ 68 11)) := zb0 z
    exact J34 (Or.inl h1)
  · have h1 : (0 ≤ a1 ∧ a1 < σ 68 11) := zb1 z
    refine z_iload_n dX11_rent_11 rfl rfl ?_
    refine z_iconst dX11_rent_12 (by unfold zIn; decide) ?_
    refine z_sipush (x := 200) dX11_rent_13 (by decide +kernel) (by unfold zIn; decide) ?_
    refine z_calls (as := [zi a2, zi 0, zi 200]) (st := []) mkX11_within lkRX11_111 rfl (by decide) (Nat.le_of_ble_eq_true rfl) rfl dX11_rent_16 ?_
    refine SX11_within ?_
    show zR G MX11_rent 19 [zr 0, zi a1, zi a2] [zi (if (0 ≤ a2 ∧ a2 ≤ 200) then (1 : Int) else 0)] σ Q
    refine z_if_eq dX11_rent_19 (tgt := 34) (by decide) (fun z => ?_) (fun z => ?_)
    · have h2 : ¬ ((0 ≤ a2 ∧ a2 ≤ 200)) := zb0 z
      exact J34 (Or.inr ⟨h1, h2⟩)
    · have h2 : (0 ≤ a2 ∧ a2 ≤ 200) := zb1 z
      refine z_aload_n dX11_rent_22 rfl rfl ?_
      refine z_getfR (k := 7) flRX11_70 rfl rfl dX11_rent_23 ?_
      refine z_iload_n dX11_rent_26 rfl rfl ?_
      refine z_iload_n dX11_rent_27 rfl rfl ?_
      refine z_callv (as := [zi a1, zi a2]) (st := []) mkX4_dueIn lkRX11_368 rfl rfl rfl (by decide) (Nat.le_of_ble_eq_true rfl) rfl dX11_rent_28 (k1 h1 h2)
set_option maxRecDepth 20000 in
set_option maxHeartbeats 1000000 in
theorem TX11_rent_31 {G : zG} {σ : zS} {Q : Int → zS → Prop} {v1 v2 r : Int}  (k1 : Q r σ) : zR G MX11_rent 31 [zr 0, zi v1, zi v2] [zi r] σ Q := by
  refine z_goto dX11_rent_31 (tgt := 35) (by decide) ?_
  exact z_ireti rfl dX11_rent_35 (k1)
set_option maxRecDepth 20000 in
set_option maxHeartbeats 1000000 in
theorem TX11_table {G : zG} {σ : zS} {Q : Int → zS → Prop} {a1 : Int}  (k1 : zO G MX11_rowTrouble [zr 0, zi a1] σ (fun rr σ' => zR G MX11_table 5 [zr 0, zi a1, zu, zu, zu] [zi rr] σ' Q)) : zO G MX11_table [zr 0, zi a1] σ Q := by
  refine zO_of (ls0 := [zr 0, zi a1, zu, zu, zu]) (by decide) (Nat.le_of_ble_eq_true rfl) rfl ?_
  refine z_aload_n dX11_table_0 rfl rfl ?_
  refine z_iload_n dX11_table_1 rfl rfl ?_
  refine z_callv (as := [zi a1]) (st := []) mkX11_rowTrouble lkRX11_198 rfl rfl rfl (by decide) (Nat.le_of_ble_eq_true rfl) rfl dX11_table_2 (k1)
set_option maxRecDepth 20000 in
set_option maxHeartbeats 1000000 in
theorem TX11_table_5 {G : zG} {σ : zS} {Q : Int → zS → Prop} {v1 r : Int}  (k1 : (r = 0) → (0 : Int) ≤ v1 ∧ v1 < (10 : Int)) (k2 : (r = 0) → zR G MX11_table 26 [zr 0, zi v1, zi r, zr (2 + 2 * v1.toNat), zi 0] [] σ Q) (k3 : (r ≠ 0) → -2147483648 ≤ -r ∧ -r < (2147483648 : Int)) (k4 : (r ≠ 0) → (0 : Int) ≤ -r ∧ -r < (8 : Int)) (k5 : (r ≠ 0) → Q r (zup σ 97 (-r) (zW ((σ 97 (-r)) + 1)))) : zR G MX11_table 5 [zr 0, zi v1, zu, zu, zu] [zi r] σ Q := by
  refine z_istore_n (ls' := [zr 0, zi v1, zi r, zu, zu]) dX11_table_5 rfl (by decide) rfl ?_
  refine z_iload_n dX11_table_6 rfl rfl ?_
  refine z_if_eq dX11_table_7 (tgt := 16) (by decide) (fun h1 => ?_) (fun h1 => ?_)
  · skip
    refine z_aload_n dX11_table_16 rfl rfl ?_
    refine z_getfR (k := 0) flRX11_11 rfl rfl dX11_table_17 ?_
    refine z_iload_n dX11_table_20 rfl rfl ?_
    have s1 : (0 : Int) ≤ v1 ∧ v1 < (10 : Int) := k1 h1
    refine z_aald (r := 2 + 2 * v1.toNat) rfl s1.1 s1.2 (zsh_v s1.1 s1.2) dX11_table_21 ?_
    refine z_astore_n (ls' := [zr 0, zi v1, zi r, zr (2 + 2 * v1.toNat), zu]) dX11_table_22 rfl (by decide) rfl ?_
    refine z_iconst dX11_table_23 (by unfold zIn; decide) ?_
    refine z_istore (ls' := [zr 0, zi v1, zi r, zr (2 + 2 * v1.toNat), zi 0]) dX11_table_24 (by decide) rfl ?_
    exact k2 h1
  · skip
    refine z_aload_n dX11_table_10 rfl rfl ?_
    refine z_iload_n dX11_table_11 rfl rfl ?_
    have s3 : -2147483648 ≤ -r ∧ -r < (2147483648 : Int) := k3 h1
    have s4 : (0 : Int) ≤ -r ∧ -r < (8 : Int) := k4 h1
    refine z_callv (as := [zi r]) (st := []) mkX11_refuse lkRX11_132 rfl rfl rfl (by decide) (Nat.le_of_ble_eq_true rfl) rfl dX11_table_12 ?_
    refine SX11_refuse s3 s4 ?_
    show zR G MX11_table 15 [zr 0, zi v1, zi r, zu, zu] [zi r] (zup σ 97 (-r) (zW ((σ 97 (-r)) + 1))) Q
    exact z_ireti rfl dX11_table_15 (k5 h1)
set_option maxRecDepth 20000 in
set_option maxHeartbeats 1000000 in
theorem TX11_table_26 {G : zG} {σ : zS} {Q : Int → zS → Prop} {v1 v2 v4 : Int} {q3 q3e : Nat} (hq3 : zsh q3 = (4, 9, [some q3e, none, none, none])) (hq3e : zsh q3e = (2, 80, [])) (k1 : (σ q3 2 ≤ v4) → zO G MX9_copyLetters [zr q3, zr 78, zi 0] σ (fun rr σ' => zR G MX11_table 80 [zr 0, zi v1, zi v2, zr q3, zi v4] [zi rr, zr 68] σ' Q)) (k2 : (v4 < σ q3 2) → (0 : Int) ≤ v4 ∧ v4 < (80 : Int)) (k3 : (v4 < σ q3 2) → ((0 ≤ (zW (σ q3e v4)) ∧ (zW (σ q3e v4)) ≤ 10000)) → -2147483648 ≤ v4 + 1 ∧ v4 + 1 < (2147483648 : Int)) (k4 : (v4 < σ q3 2) → ((0 ≤ (zW (σ q3e v4)) ∧ (zW (σ q3e v4)) ≤ 10000)) → zR G MX11_table 26 [zr 0, zi v1, zi v2, zr q3, zi (v4 + 1)] [] σ Q) (k5 : (v4 < σ q3 2) → (¬ ((0 ≤ (zW (σ q3e v4)) ∧ (zW (σ q3e v4)) ≤ 10000))) → -2147483648 ≤ -(-6) ∧ -(-6) < (2147483648 : Int)) (k6 : (v4 < σ q3 2) → (¬ ((0 ≤ (zW (σ q3e v4)) ∧ (zW (σ q3e v4)) ≤ 10000))) → (0 : Int) ≤ -(-6) ∧ -(-6) < (8 : Int)) (k7 : (v4 < σ q3 2) → (¬ ((0 ≤ (zW (σ q3e v4)) ∧ (zW (σ q3e v4)) ≤ 10000))) → Q (-6) (zup σ 97 (-(-6)) (zW ((σ 97 (-(-6))) + 1)))) : zR G MX11_table 26 [zr 0, zi v1, zi v2, zr q3, zi v4] [] σ Q := by
  refine z_iload dX11_table_26 rfl ?_
  refine z_aload_n dX11_table_28 rfl rfl ?_
  refine z_getfI (k := 2) flRX11_235 hq3 rfl dX11_table_29 ?_
  refine z_icmp_ge dX11_table_32 (tgt := 64) (by decide) (fun h1 => ?_) (fun h1 => ?_)
  · skip
    refine z_aload_n dX11_table_64 rfl rfl ?_
    refine z_getfR (k := 7) flRX11_70 rfl rfl dX11_table_65 ?_
    refine z_aload_n dX11_table_68 rfl rfl ?_
    refine z_aload_n dX11_table_69 rfl rfl ?_
    refine z_getfR (k := 7) flRX11_70 rfl rfl dX11_table_70 ?_
    refine z_getfR (k := 10) flRX11_374 rfl rfl dX11_table_73 ?_
    refine z_iconst dX11_table_76 (by unfold zIn; decide) ?_
    refine z_callv (as := [zr 78, zi 0]) (st := [zr 68]) mkX9_copyLetters lkRX11_377 rfl hq3 rfl (by decide) (Nat.le_of_ble_eq_true rfl) rfl dX11_table_77 (k1 h1)
  · skip
    refine z_aload_n dX11_table_35 rfl rfl ?_
    refine z_iload dX11_table_36 rfl ?_
    have s2 : (0 : Int) ≤ v4 ∧ v4 < (80 : Int) := k2 h1
    refine z_callv (as := [zi v4]) (st := []) mkX9_letter lkRX11_371 rfl hq3 rfl (by decide) (Nat.le_of_ble_eq_true rfl) rfl dX11_table_38 ?_
    refine SX9_letter hq3 hq3e s2 ?_
    show zR G MX11_table 41 [zr 0, zi v1, zi v2, zr q3, zi v4] [zi (zW (σ q3e v4))] σ Q
    refine z_iconst dX11_table_41 (by unfold zIn; decide) ?_
    refine z_sipush (x := 10000) dX11_table_42 (by decide +kernel) (by unfold zIn; decide) ?_
    refine z_calls (as := [zi (zW (σ q3e v4)), zi 0, zi 10000]) (st := []) mkX11_within lkRX11_111 rfl (by decide) (Nat.le_of_ble_eq_true rfl) rfl dX11_table_45 ?_
    refine SX11_within ?_
    show zR G MX11_table 48 [zr 0, zi v1, zi v2, zr q3, zi v4] [zi (if (0 ≤ (zW (σ q3e v4)) ∧ (zW (σ q3e v4)) ≤ 10000) then (1 : Int) else 0)] σ Q
    refine z_if_ne dX11_table_48 (tgt := 58) (by decide) (fun z => ?_) (fun z => ?_)
    · have h2 : (0 ≤ (zW (σ q3e v4)) ∧ (zW (σ q3e v4)) ≤ 10000) := zb1 z
      have s3 : -2147483648 ≤ v4 + 1 ∧ v4 + 1 < (2147483648 : Int) := k3 h1 h2
      refine z_iincN (ls' := [zr 0, zi v1, zi v2, zr q3, zi (v4 + 1)]) dX11_table_58 rfl (by decide) s3 rfl ?_
      refine z_goto dX11_table_61 (tgt := 26) (by decide) ?_
      exact k4 h1 h2
    · have h2 : ¬ ((0 ≤ (zW (σ q3e v4)) ∧ (zW (σ q3e v4)) ≤ 10000)) := zb0 z
      refine z_aload_n dX11_table_51 rfl rfl ?_
      refine z_bipush (x := (-6)) dX11_table_52 (by decide +kernel) (by unfold zIn; decide) ?_
      have s5 : -2147483648 ≤ -(-6) ∧ -(-6) < (2147483648 : Int) := k5 h1 h2
      have s6 : (0 : Int) ≤ -(-6) ∧ -(-6) < (8 : Int) := k6 h1 h2
      refine z_callv (as := [zi (-6)]) (st := []) mkX11_refuse lkRX11_132 rfl rfl rfl (by decide) (Nat.le_of_ble_eq_true rfl) rfl dX11_table_54 ?_
      refine SX11_refuse s5 s6 ?_
      show zR G MX11_table 57 [zr 0, zi v1, zi v2, zr q3, zi v4] [zi (-6)] (zup σ 97 (-(-6)) (zW ((σ 97 (-(-6))) + 1))) Q
      exact z_ireti rfl dX11_table_57 (k7 h1 h2)
set_option maxRecDepth 20000 in
set_option maxHeartbeats 1000000 in
theorem TX11_table_80 {G : zG} {σ : zS} {Q : Int → zS → Prop} {v1 v2 v4 r : Int} {q3 q3e : Nat} (hq3 : zsh q3 = (4, 9, [some q3e, none, none, none])) (hq3e : zsh q3e = (2, 80, [])) (k1 : Q ((zup σ 68 13 r) q3 2) (zup σ 68 13 r)) : zR G MX11_table 80 [zr 0, zi v1, zi v2, zr q3, zi v4] [zi r, zr 68] σ Q := by
  refine z_putI (k := 13) fpRX11_381 rfl rfl dX11_table_80 ?_
  refine z_aload_n dX11_table_83 rfl rfl ?_
  refine z_getfI (k := 2) flRX11_235 hq3 rfl dX11_table_84 ?_
  exact z_ireti rfl dX11_table_87 (k1)
set_option maxRecDepth 20000 in
set_option maxHeartbeats 1000000 in
theorem TX4_rate {G : zG} {σ : zS} {Q : Int → zS → Prop} {a1 : Int}  (k1 : (σ 68 13 ≠ 0) → -2147483648 ≤ σ 68 13 - 1 ∧ σ 68 13 - 1 < (2147483648 : Int)) (k2 : (σ 68 13 ≠ 0) → (0 : Int) ≤ max 0 (min a1 (σ 68 13 - 1)) ∧ max 0 (min a1 (σ 68 13 - 1)) < (80 : Int)) (k3 : (σ 68 13 ≠ 0) → Q (σ 78 (max 0 (min a1 (σ 68 13 - 1)))) σ) (k4 : (σ 68 13 = 0) → Q 0 σ) : zO G MX4_rate [zr 68, zi a1] σ Q := by
  refine zO_of (ls0 := [zr 68, zi a1]) (by decide) (Nat.le_of_ble_eq_true rfl) rfl ?_
  refine z_aload_n dX4_rate_0 rfl rfl ?_
  refine z_getfI (k := 13) flRX4_49 rfl rfl dX4_rate_1 ?_
  refine z_if_ne dX4_rate_4 (tgt := 9) (by decide) (fun h1 => ?_) (fun h1 => ?_)
  · skip
    refine z_aload_n dX4_rate_9 rfl rfl ?_
    refine z_getfR (k := 10) flRX4_39 rfl rfl dX4_rate_10 ?_
    refine z_iconst dX4_rate_13 (by unfold zIn; decide) ?_
    refine z_iload_n dX4_rate_14 rfl rfl ?_
    refine z_aload_n dX4_rate_15 rfl rfl ?_
    refine z_getfI (k := 13) flRX4_49 rfl rfl dX4_rate_16 ?_
    refine z_iconst dX4_rate_19 (by unfold zIn; decide) ?_
    have s1 : -2147483648 ≤ σ 68 13 - 1 ∧ σ 68 13 - 1 < (2147483648 : Int) := k1 h1
    refine z_isubN dX4_rate_20 s1 ?_
    refine z_min lkRX4_86 (by decide) (by decide) (Nat.le_of_ble_eq_true rfl) dX4_rate_21 ?_
    refine z_max lkRX4_70 (by decide) (by decide) (Nat.le_of_ble_eq_true rfl) dX4_rate_24 ?_
    have s2 : (0 : Int) ≤ max 0 (min a1 (σ 68 13 - 1)) ∧ max 0 (min a1 (σ 68 13 - 1)) < (80 : Int) := k2 h1
    refine z_iald rfl s2.1 s2.2 dX4_rate_27 ?_
    exact z_ireti rfl dX4_rate_28 (k3 h1)
  · skip
    refine z_iconst dX4_rate_7 (by unfold zIn; decide) ?_
    exact z_ireti rfl dX4_rate_8 (k4 h1)
set_option maxRecDepth 20000 in
set_option maxHeartbeats 1000000 in
theorem TX4_fineFor {G : zG} {σ : zS} {Q : Int → zS → Prop} {a1 a2 : Int}  (k1 : (0 : Int) ≤ a1 ∧ a1 < (8 : Int)) (k2 : zO G MX4_rate [zr 68, zi (σ 73 a1)] σ (fun rr σ' => zR G MX4_fineFor 17 [zr 68, zi a1, zi a2] [zi rr, zi (σ 69 a1), zi 0] σ' Q)) : zO G MX4_fineFor [zr 68, zi a1, zi a2] σ Q := by
  refine zO_of (ls0 := [zr 68, zi a1, zi a2]) (by decide) (Nat.le_of_ble_eq_true rfl) rfl ?_
  refine z_iconst dX4_fineFor_0 (by unfold zIn; decide) ?_
  refine z_aload_n dX4_fineFor_1 rfl rfl ?_
  refine z_getfR (k := 1) flRX4_11 rfl rfl dX4_fineFor_2 ?_
  refine z_iload_n dX4_fineFor_5 rfl rfl ?_
  have s1 : (0 : Int) ≤ a1 ∧ a1 < (8 : Int) := k1
  refine z_iald rfl s1.1 s1.2 dX4_fineFor_6 ?_
  refine z_aload_n dX4_fineFor_7 rfl rfl ?_
  refine z_aload_n dX4_fineFor_8 rfl rfl ?_
  refine z_getfR (k := 5) flRX4_24 rfl rfl dX4_fineFor_9 ?_
  refine z_iload_n dX4_fineFor_12 rfl rfl ?_
  refine z_iald rfl s1.1 s1.2 dX4_fineFor_13 ?_
  refine z_callv (as := [zi (σ 73 a1)]) (st := [zi (σ 69 a1), zi 0]) mkX4_rate lkRX4_89 rfl rfl rfl (by decide) (Nat.le_of_ble_eq_true rfl) rfl dX4_fineFor_14 (k2)
set_option maxRecDepth 20000 in
set_option maxHeartbeats 1000000 in
theorem TX4_fineFor_17 {G : zG} {σ : zS} {Q : Int → zS → Prop} {v1 v2 r t1 t2 : Int}  (k1 : zO G MX4_rate [zr 68, zi v2] σ (fun rr σ' => zR G MX4_fineFor 22 [zr 68, zi v1, zi v2] [zi rr, zi r, zi t1, zi t2] σ' Q)) : zR G MX4_fineFor 17 [zr 68, zi v1, zi v2] [zi r, zi t1, zi t2] σ Q := by
  refine z_aload_n dX4_fineFor_17 rfl rfl ?_
  refine z_iload_n dX4_fineFor_18 rfl rfl ?_
  refine z_callv (as := [zi v2]) (st := [zi r, zi t1, zi t2]) mkX4_rate lkRX4_89 rfl rfl rfl (by decide) (Nat.le_of_ble_eq_true rfl) rfl dX4_fineFor_19 (k1)
set_option maxRecDepth 20000 in
set_option maxHeartbeats 1000000 in
theorem TX4_fineFor_22 {G : zG} {σ : zS} {Q : Int → zS → Prop} {v1 v2 r t1 t2 t3 : Int}  (k1 : -2147483648 ≤ t1 - r ∧ t1 - r < (2147483648 : Int)) (k2 : -2147483648 ≤ t2 * (t1 - r) ∧ t2 * (t1 - r) < (2147483648 : Int)) (k3 : Q (max t3 (zdiv (t2 * (t1 - r)) 100)) σ) : zR G MX4_fineFor 22 [zr 68, zi v1, zi v2] [zi r, zi t1, zi t2, zi t3] σ Q := by
  have s1 : -2147483648 ≤ t1 - r ∧ t1 - r < (2147483648 : Int) := k1
  refine z_isubN dX4_fineFor_22 s1 ?_
  have s2 : -2147483648 ≤ t2 * (t1 - r) ∧ t2 * (t1 - r) < (2147483648 : Int) := k2
  refine z_imulN dX4_fineFor_23 s2 ?_
  refine z_bipush (x := 100) dX4_fineFor_24 (by decide +kernel) (by unfold zIn; decide) ?_
  refine z_idiv dX4_fineFor_26 (by decide) ?_
  refine z_max lkRX4_70 (by decide) (by decide) (Nat.le_of_ble_eq_true rfl) dX4_fineFor_27 ?_
  exact z_ireti rfl dX4_fineFor_30 (k3)
set_option maxRecDepth 20000 in
set_option maxHeartbeats 1000000 in
theorem TX11_renew {G : zG} {σ : zS} {Q : Int → zS → Prop} {a1 : Int}  (k1 : ((0 ≤ a1 ∧ a1 < σ 68 11)) → zO G MX4_endOf [zr 68, zi a1] σ (fun rr σ' => zR G MX11_renew 25 [zr 0, zi a1, zu, zu] [zi rr] σ' Q)) (k2 : (¬ ((0 ≤ a1 ∧ a1 < σ 68 11))) → -2147483648 ≤ -(-1) ∧ -(-1) < (2147483648 : Int)) (k3 : (¬ ((0 ≤ a1 ∧ a1 < σ 68 11))) → (0 : Int) ≤ -(-1) ∧ -(-1) < (8 : Int)) (k4 : (¬ ((0 ≤ a1 ∧ a1 < σ 68 11))) → Q (-1) (zup σ 97 (-(-1)) (zW ((σ 97 (-(-1))) + 1)))) : zO G MX11_renew [zr 0, zi a1] σ Q := by
  refine zO_of (ls0 := [zr 0, zi a1, zu, zu]) (by decide) (Nat.le_of_ble_eq_true rfl) rfl ?_
  refine z_aload_n dX11_renew_0 rfl rfl ?_
  refine z_getfR (k := 7) flRX11_70 rfl rfl dX11_renew_1 ?_
  refine z_iload_n dX11_renew_4 rfl rfl ?_
  refine z_callv (as := [zi a1]) (st := []) mkX4_has lkRX11_364 rfl rfl rfl (by decide) (Nat.le_of_ble_eq_true rfl) rfl dX11_renew_5 ?_
  refine SX4_has ?_
  show zR G MX11_renew 8 [zr 0, zi a1, zu, zu] [zi (if (0 ≤ a1 ∧ a1 < σ 68 11) then (1 : Int) else 0)] σ Q
  refine z_if_ne dX11_renew_8 (tgt := 17) (by decide) (fun z => ?_) (fun z => ?_)
  · have h1 : (0 ≤ a1 ∧ a1 < σ 68 11) := zb1 z
    refine z_aload_n dX11_renew_17 rfl rfl ?_
    refine z_getfR (k := 7) flRX11_70 rfl rfl dX11_renew_18 ?_
    refine z_iload_n dX11_renew_21 rfl rfl ?_
    refine z_callv (as := [zi a1]) (st := []) mkX4_endOf lkRX11_365 rfl rfl rfl (by decide) (Nat.le_of_ble_eq_true rfl) rfl dX11_renew_22 (k1 h1)
  · have h1 : ¬ ((0 ≤ a1 ∧ a1 < σ 68 11)) := zb0 z
    refine z_aload_n dX11_renew_11 rfl rfl ?_
    refine z_iconst dX11_renew_12 (by unfold zIn; decide) ?_
    have s2 : -2147483648 ≤ -(-1) ∧ -(-1) < (2147483648 : Int) := k2 h1
    have s3 : (0 : Int) ≤ -(-1) ∧ -(-1) < (8 : Int) := k3 h1
    refine z_callv (as := [zi (-1)]) (st := []) mkX11_refuse lkRX11_132 rfl rfl rfl (by decide) (Nat.le_of_ble_eq_true rfl) rfl dX11_renew_13 ?_
    refine SX11_refuse s2 s3 ?_
    show zR G MX11_renew 16 [zr 0, zi a1, zu, zu] [zi (-1)] (zup σ 97 (-(-1)) (zW ((σ 97 (-(-1))) + 1))) Q
    exact z_ireti rfl dX11_renew_16 (k4 h1)
set_option maxRecDepth 20000 in
set_option maxHeartbeats 1000000 in
theorem TX11_renew_25 {G : zG} {σ : zS} {Q : Int → zS → Prop} {v1 r : Int}  (k1 : -2147483648 ≤ r - zdiv (σ 0 13) 365 ∧ r - zdiv (σ 0 13) 365 < (2147483648 : Int)) (k2 : (0 : Int) ≤ v1 ∧ v1 < (8 : Int)) (k3 : (¬ (σ 75 v1 ≠ 0)) → (0 ≤ r - zdiv (σ 0 13) 365) → (¬ (400 ≤ σ 79 4)) → zO G MX4_fineFor [zr 68, zi v1, zi (r - zdiv (σ 0 13) 365)] σ (fun rr σ' => zR G MX11_renew 79 [zr 0, zi v1, zi (r - zdiv (σ 0 13) 365), zu] [zi rr] σ' Q)) (k4 : (¬ (σ 75 v1 ≠ 0)) → (0 ≤ r - zdiv (σ 0 13) 365) → (400 ≤ σ 79 4) → -2147483648 ≤ -(-7) ∧ -(-7) < (2147483648 : Int)) (k5 : (¬ (σ 75 v1 ≠ 0)) → (0 ≤ r - zdiv (σ 0 13) 365) → (400 ≤ σ 79 4) → (0 : Int) ≤ -(-7) ∧ -(-7) < (8 : Int)) (k6 : (¬ (σ 75 v1 ≠ 0)) → (0 ≤ r - zdiv (σ 0 13) 365) → (400 ≤ σ 79 4) → Q (-7) (zup σ 97 (-(-7)) (zW ((σ 97 (-(-7))) + 1)))) (k7 : (σ 75 v1 ≠ 0 ∨ ((¬ (σ 75 v1 ≠ 0)) ∧ r - zdiv (σ 0 13) 365 < 0)) → -2147483648 ≤ -(-6) ∧ -(-6) < (2147483648 : Int)) (k8 : (σ 75 v1 ≠ 0 ∨ ((¬ (σ 75 v1 ≠ 0)) ∧ r - zdiv (σ 0 13) 365 < 0)) → (0 : Int) ≤ -(-6) ∧ -(-6) < (8 : Int)) (k9 : (σ 75 v1 ≠ 0 ∨ ((¬ (σ 75 v1 ≠ 0)) ∧ r - zdiv (σ 0 13) 365 < 0)) → Q (-6) (zup σ 97 (-(-6)) (zW ((σ 97 (-(-6))) + 1)))) : zR G MX11_renew 25 [zr 0, zi v1, zu, zu] [zi r] σ Q := by
  have J46 : (σ 75 v1 ≠ 0 ∨ ((¬ (σ 75 v1 ≠ 0)) ∧ r - zdiv (σ 0 13) 365 < 0)) → zR G MX11_renew 46 [zr 0, zi v1, zi (r - zdiv (σ 0 13) 365), zu] [] σ Q := by
    intro h4
    refine z_aload_n dX11_renew_46 rfl rfl ?_
    refine z_bipush (x := (-6)) dX11_renew_47 (by decide +kernel) (by unfold zIn; decide) ?_
    have s7 : -2147483648 ≤ -(-6) ∧ -(-6) < (2147483648 : Int) := k7 h4
    have s8 : (0 : Int) ≤ -(-6) ∧ -(-6) < (8 : Int) := k8 h4
    refine z_callv (as := [zi (-6)]) (st := []) mkX11_refuse lkRX11_132 rfl rfl rfl (by decide) (Nat.le_of_ble_eq_true rfl) rfl dX11_renew_49 ?_
    refine SX11_refuse s7 s8 ?_
    show zR G MX11_renew 52 [zr 0, zi v1, zi (r - zdiv (σ 0 13) 365), zu] [zi (-6)] (zup σ 97 (-(-6)) (zW ((σ 97 (-(-6))) + 1))) Q
    exact z_ireti rfl dX11_renew_52 (k9 h4)
  refine z_aload_n dX11_renew_25 rfl rfl ?_
  refine z_callv (as := []) (st := [zi r]) mkX11_thisYear lkRX11_384 rfl rfl rfl (by decide) (Nat.le_of_ble_eq_true rfl) rfl dX11_renew_26 ?_
  refine SX11_thisYear ?_
  show zR G MX11_renew 29 [zr 0, zi v1, zu, zu] [zi (zdiv (σ 0 13) 365), zi r] σ Q
  have s1 : -2147483648 ≤ r - zdiv (σ 0 13) 365 ∧ r - zdiv (σ 0 13) 365 < (2147483648 : Int) := k1
  refine z_isubN dX11_renew_29 s1 ?_
  refine z_istore_n (ls' := [zr 0, zi v1, zi (r - zdiv (σ 0 13) 365), zu]) dX11_renew_30 rfl (by decide) rfl ?_
  refine z_aload_n dX11_renew_31 rfl rfl ?_
  refine z_getfR (k := 7) flRX11_70 rfl rfl dX11_renew_32 ?_
  refine z_iload_n dX11_renew_35 rfl rfl ?_
  have s2 : (0 : Int) ≤ v1 ∧ v1 < (8 : Int) := k2
  refine z_callv (as := [zi v1]) (st := []) mkX4_isForLives lkRX11_388 rfl rfl rfl (by decide) (Nat.le_of_ble_eq_true rfl) rfl dX11_renew_36 ?_
  refine SX4_isForLives s2 ?_
  show zR G MX11_renew 39 [zr 0, zi v1, zi (r - zdiv (σ 0 13) 365), zu] [zi (if σ 75 v1 ≠ 0 then (1 : Int) else 0)] σ Q
  refine z_if_ne dX11_renew_39 (tgt := 46) (by decide) (fun z => ?_) (fun z => ?_)
  · have h1 : σ 75 v1 ≠ 0 := zb1 z
    exact J46 (Or.inl h1)
  · have h1 : ¬ (σ 75 v1 ≠ 0) := zb0 z
    refine z_iload_n dX11_renew_42 rfl rfl ?_
    refine z_if_ge dX11_renew_43 (tgt := 53) (by decide) (fun h2 => ?_) (fun h2 => ?_)
    · skip
      refine z_aload_n dX11_renew_53 rfl rfl ?_
      refine z_getfR (k := 8) flRX11_77 rfl rfl dX11_renew_54 ?_
      refine z_callv (as := []) (st := []) mkX0_isFull lkRX11_391 rfl rfl rfl (by decide) (Nat.le_of_ble_eq_true rfl) rfl dX11_renew_57 ?_
      refine SX0_isFull ?_
      show zR G MX11_renew 60 [zr 0, zi v1, zi (r - zdiv (σ 0 13) 365), zu] [zi (if 400 ≤ σ 79 4 then (1 : Int) else 0)] σ Q
      refine z_if_eq dX11_renew_60 (tgt := 70) (by decide) (fun z => ?_) (fun z => ?_)
      · have h3 : ¬ (400 ≤ σ 79 4) := zb0 z
        refine z_aload_n dX11_renew_70 rfl rfl ?_
        refine z_getfR (k := 7) flRX11_70 rfl rfl dX11_renew_71 ?_
        refine z_iload_n dX11_renew_74 rfl rfl ?_
        refine z_iload_n dX11_renew_75 rfl rfl ?_
        refine z_callv (as := [zi v1, zi (r - zdiv (σ 0 13) 365)]) (st := []) mkX4_fineFor lkRX11_395 rfl rfl rfl (by decide) (Nat.le_of_ble_eq_true rfl) rfl dX11_renew_76 (k3 h1 h2 h3)
      · have h3 : 400 ≤ σ 79 4 := zb1 z
        refine z_aload_n dX11_renew_63 rfl rfl ?_
        refine z_bipush (x := (-7)) dX11_renew_64 (by decide +kernel) (by unfold zIn; decide) ?_
        have s4 : -2147483648 ≤ -(-7) ∧ -(-7) < (2147483648 : Int) := k4 h1 h2 h3
        have s5 : (0 : Int) ≤ -(-7) ∧ -(-7) < (8 : Int) := k5 h1 h2 h3
        refine z_callv (as := [zi (-7)]) (st := []) mkX11_refuse lkRX11_132 rfl rfl rfl (by decide) (Nat.le_of_ble_eq_true rfl) rfl dX11_renew_66 ?_
        refine SX11_refuse s4 s5 ?_
        show zR G MX11_renew 69 [zr 0, zi v1, zi (r - zdiv (σ 0 13) 365), zu] [zi (-7)] (zup σ 97 (-(-7)) (zW ((σ 97 (-(-7))) + 1))) Q
        exact z_ireti rfl dX11_renew_69 (k6 h1 h2 h3)
    · skip
      exact J46 (Or.inr ⟨h1, h2⟩)
set_option maxRecDepth 20000 in
set_option maxHeartbeats 1000000 in
theorem TX11_renew_79 {G : zG} {σ : zS} {Q : Int → zS → Prop} {v1 v2 r : Int}  (k1 : -2147483648 ≤ σ 79 3 + r ∧ σ 79 3 + r < (2147483648 : Int)) (k2 : -2147483648 ≤ ((zup σ 79 3 (σ 79 3 + r)) 79 4) + 1 ∧ ((zup σ 79 3 (σ 79 3 + r)) 79 4) + 1 < (2147483648 : Int)) (k3 : -2147483648 ≤ 110 * 1 ∧ 110 * 1 < (2147483648 : Int)) (k4 : -2147483648 ≤ (110 * 1) + (zdiv (σ 0 13) 365) ∧ (110 * 1) + (zdiv (σ 0 13) 365) < (2147483648 : Int)) (k5 : (0 : Int) ≤ (110 * 1) + (zdiv (σ 0 13) 365) ∧ (110 * 1) + (zdiv (σ 0 13) 365) < (440 : Int)) (k6 : -2147483648 ≤ ((zup (zup σ 79 3 (σ 79 3 + r)) 79 4 (((zup σ 79 3 (σ 79 3 + r)) 79 4) + 1)) 80 ((110 * 1) + (zdiv (σ 0 13) 365))) + r ∧ ((zup (zup σ 79 3 (σ 79 3 + r)) 79 4 (((zup σ 79 3 (σ 79 3 + r)) 79 4) + 1)) 80 ((110 * 1) + (zdiv (σ 0 13) 365))) + r < (2147483648 : Int)) (k7 : (0 : Int) ≤ v1 ∧ v1 < (8 : Int)) (k8 : -2147483648 ≤ (zdiv ((zup (zup (zup σ 79 3 (σ 79 3 + r)) 79 4 (((zup σ 79 3 (σ 79 3 + r)) 79 4) + 1)) 80 ((110 * 1) + (zdiv (σ 0 13) 365)) (((zup (zup σ 79 3 (σ 79 3 + r)) 79 4 (((zup σ 79 3 (σ 79 3 + r)) 79 4) + 1)) 80 ((110 * 1) + (zdiv (σ 0 13) 365))) + r)) 0 13) 365) + ((zup (zup (zup σ 79 3 (σ 79 3 + r)) 79 4 (((zup σ 79 3 (σ 79 3 + r)) 79 4) + 1)) 80 ((110 * 1) + (zdiv (σ 0 13) 365)) (((zup (zup σ 79 3 (σ 79 3 + r)) 79 4 (((zup σ 79 3 (σ 79 3 + r)) 79 4) + 1)) 80 ((110 * 1) + (zdiv (σ 0 13) 365))) + r)) 73 v1) ∧ (zdiv ((zup (zup (zup σ 79 3 (σ 79 3 + r)) 79 4 (((zup σ 79 3 (σ 79 3 + r)) 79 4) + 1)) 80 ((110 * 1) + (zdiv (σ 0 13) 365)) (((zup (zup σ 79 3 (σ 79 3 + r)) 79 4 (((zup σ 79 3 (σ 79 3 + r)) 79 4) + 1)) 80 ((110 * 1) + (zdiv (σ 0 13) 365))) + r)) 0 13) 365) + ((zup (zup (zup σ 79 3 (σ 79 3 + r)) 79 4 (((zup σ 79 3 (σ 79 3 + r)) 79 4) + 1)) 80 ((110 * 1) + (zdiv (σ 0 13) 365)) (((zup (zup σ 79 3 (σ 79 3 + r)) 79 4 (((zup σ 79 3 (σ 79 3 + r)) 79 4) + 1)) 80 ((110 * 1) + (zdiv (σ 0 13) 365))) + r)) 73 v1) < (2147483648 : Int)) (k9 : Q r (zup (zup (zup (zup σ 79 3 (σ 79 3 + r)) 79 4 (((zup σ 79 3 (σ 79 3 + r)) 79 4) + 1)) 80 ((110 * 1) + (zdiv (σ 0 13) 365)) (((zup (zup σ 79 3 (σ 79 3 + r)) 79 4 (((zup σ 79 3 (σ 79 3 + r)) 79 4) + 1)) 80 ((110 * 1) + (zdiv (σ 0 13) 365))) + r)) 74 v1 ((zdiv ((zup (zup (zup σ 79 3 (σ 79 3 + r)) 79 4 (((zup σ 79 3 (σ 79 3 + r)) 79 4) + 1)) 80 ((110 * 1) + (zdiv (σ 0 13) 365)) (((zup (zup σ 79 3 (σ 79 3 + r)) 79 4 (((zup σ 79 3 (σ 79 3 + r)) 79 4) + 1)) 80 ((110 * 1) + (zdiv (σ 0 13) 365))) + r)) 0 13) 365) + ((zup (zup (zup σ 79 3 (σ 79 3 + r)) 79 4 (((zup σ 79 3 (σ 79 3 + r)) 79 4) + 1)) 80 ((110 * 1) + (zdiv (σ 0 13) 365)) (((zup (zup σ 79 3 (σ 79 3 + r)) 79 4 (((zup σ 79 3 (σ 79 3 + r)) 79 4) + 1)) 80 ((110 * 1) + (zdiv (σ 0 13) 365))) + r)) 73 v1)))) : zR G MX11_renew 79 [zr 0, zi v1, zi v2, zu] [zi r] σ Q := by
  refine z_istore_n (ls' := [zr 0, zi v1, zi v2, zi r]) dX11_renew_79 rfl (by decide) rfl ?_
  refine z_aload_n dX11_renew_80 rfl rfl ?_
  refine z_getfR (k := 8) flRX11_77 rfl rfl dX11_renew_81 ?_
  refine z_iconst dX11_renew_84 (by unfold zIn; decide) ?_
  refine z_aload_n dX11_renew_85 rfl rfl ?_
  refine z_callv (as := []) (st := [zi 1, zr 79]) mkX11_thisYear lkRX11_384 rfl rfl rfl (by decide) (Nat.le_of_ble_eq_true rfl) rfl dX11_renew_86 ?_
  refine SX11_thisYear ?_
  show zR G MX11_renew 89 [zr 0, zi v1, zi v2, zi r] [zi (zdiv (σ 0 13) 365), zi 1, zr 79] σ Q
  refine z_iload_n dX11_renew_89 rfl rfl ?_
  have s1 : -2147483648 ≤ σ 79 3 + r ∧ σ 79 3 + r < (2147483648 : Int) := k1
  have s2 : -2147483648 ≤ ((zup σ 79 3 (σ 79 3 + r)) 79 4) + 1 ∧ ((zup σ 79 3 (σ 79 3 + r)) 79 4) + 1 < (2147483648 : Int) := k2
  have s3 : -2147483648 ≤ 110 * 1 ∧ 110 * 1 < (2147483648 : Int) := k3
  have s4 : -2147483648 ≤ (110 * 1) + (zdiv (σ 0 13) 365) ∧ (110 * 1) + (zdiv (σ 0 13) 365) < (2147483648 : Int) := k4
  have s5 : (0 : Int) ≤ (110 * 1) + (zdiv (σ 0 13) 365) ∧ (110 * 1) + (zdiv (σ 0 13) 365) < (440 : Int) := k5
  have s6 : -2147483648 ≤ ((zup (zup σ 79 3 (σ 79 3 + r)) 79 4 (((zup σ 79 3 (σ 79 3 + r)) 79 4) + 1)) 80 ((110 * 1) + (zdiv (σ 0 13) 365))) + r ∧ ((zup (zup σ 79 3 (σ 79 3 + r)) 79 4 (((zup σ 79 3 (σ 79 3 + r)) 79 4) + 1)) 80 ((110 * 1) + (zdiv (σ 0 13) 365))) + r < (2147483648 : Int) := k6
  refine z_callv (as := [zi 1, zi (zdiv (σ 0 13) 365), zi r]) (st := []) mkX0_enter lkRX11_398 rfl rfl rfl (by decide) (Nat.le_of_ble_eq_true rfl) rfl dX11_renew_90 ?_
  refine SX0_enter s1 s2 s3 s4 s5 s6 ?_
  show zR G MX11_renew 93 [zr 0, zi v1, zi v2, zi r] [] (zup (zup (zup σ 79 3 (σ 79 3 + r)) 79 4 (((zup σ 79 3 (σ 79 3 + r)) 79 4) + 1)) 80 ((110 * 1) + (zdiv (σ 0 13) 365)) (((zup (zup σ 79 3 (σ 79 3 + r)) 79 4 (((zup σ 79 3 (σ 79 3 + r)) 79 4) + 1)) 80 ((110 * 1) + (zdiv (σ 0 13) 365))) + r)) Q
  refine z_aload_n dX11_renew_93 rfl rfl ?_
  refine z_getfR (k := 7) flRX11_70 rfl rfl dX11_renew_94 ?_
  refine z_getfR (k := 6) flRX11_339 rfl rfl dX11_renew_97 ?_
  refine z_iload_n dX11_renew_100 rfl rfl ?_
  refine z_aload_n dX11_renew_101 rfl rfl ?_
  refine z_callv (as := []) (st := [zi v1, zr 74]) mkX11_thisYear lkRX11_384 rfl rfl rfl (by decide) (Nat.le_of_ble_eq_true rfl) rfl dX11_renew_102 ?_
  refine SX11_thisYear ?_
  show zR G MX11_renew 105 [zr 0, zi v1, zi v2, zi r] [zi (zdiv ((zup (zup (zup σ 79 3 (σ 79 3 + r)) 79 4 (((zup σ 79 3 (σ 79 3 + r)) 79 4) + 1)) 80 ((110 * 1) + (zdiv (σ 0 13) 365)) (((zup (zup σ 79 3 (σ 79 3 + r)) 79 4 (((zup σ 79 3 (σ 79 3 + r)) 79 4) + 1)) 80 ((110 * 1) + (zdiv (σ 0 13) 365))) + r)) 0 13) 365), zi v1, zr 74] (zup (zup (zup σ 79 3 (σ 79 3 + r)) 79 4 (((zup σ 79 3 (σ 79 3 + r)) 79 4) + 1)) 80 ((110 * 1) + (zdiv (σ 0 13) 365)) (((zup (zup σ 79 3 (σ 79 3 + r)) 79 4 (((zup σ 79 3 (σ 79 3 + r)) 79 4) + 1)) 80 ((110 * 1) + (zdiv (σ 0 13) 365))) + r)) Q
  refine z_aload_n dX11_renew_105 rfl rfl ?_
  refine z_getfR (k := 7) flRX11_70 rfl rfl dX11_renew_106 ?_
  refine z_getfR (k := 5) flRX11_342 rfl rfl dX11_renew_109 ?_
  refine z_iload_n dX11_renew_112 rfl rfl ?_
  have s7 : (0 : Int) ≤ v1 ∧ v1 < (8 : Int) := k7
  refine z_iald rfl s7.1 s7.2 dX11_renew_113 ?_
  have s8 : -2147483648 ≤ (zdiv ((zup (zup (zup σ 79 3 (σ 79 3 + r)) 79 4 (((zup σ 79 3 (σ 79 3 + r)) 79 4) + 1)) 80 ((110 * 1) + (zdiv (σ 0 13) 365)) (((zup (zup σ 79 3 (σ 79 3 + r)) 79 4 (((zup σ 79 3 (σ 79 3 + r)) 79 4) + 1)) 80 ((110 * 1) + (zdiv (σ 0 13) 365))) + r)) 0 13) 365) + ((zup (zup (zup σ 79 3 (σ 79 3 + r)) 79 4 (((zup σ 79 3 (σ 79 3 + r)) 79 4) + 1)) 80 ((110 * 1) + (zdiv (σ 0 13) 365)) (((zup (zup σ 79 3 (σ 79 3 + r)) 79 4 (((zup σ 79 3 (σ 79 3 + r)) 79 4) + 1)) 80 ((110 * 1) + (zdiv (σ 0 13) 365))) + r)) 73 v1) ∧ (zdiv ((zup (zup (zup σ 79 3 (σ 79 3 + r)) 79 4 (((zup σ 79 3 (σ 79 3 + r)) 79 4) + 1)) 80 ((110 * 1) + (zdiv (σ 0 13) 365)) (((zup (zup σ 79 3 (σ 79 3 + r)) 79 4 (((zup σ 79 3 (σ 79 3 + r)) 79 4) + 1)) 80 ((110 * 1) + (zdiv (σ 0 13) 365))) + r)) 0 13) 365) + ((zup (zup (zup σ 79 3 (σ 79 3 + r)) 79 4 (((zup σ 79 3 (σ 79 3 + r)) 79 4) + 1)) 80 ((110 * 1) + (zdiv (σ 0 13) 365)) (((zup (zup σ 79 3 (σ 79 3 + r)) 79 4 (((zup σ 79 3 (σ 79 3 + r)) 79 4) + 1)) 80 ((110 * 1) + (zdiv (σ 0 13) 365))) + r)) 73 v1) < (2147483648 : Int) := k8
  refine z_iaddN dX11_renew_114 s8 ?_
  refine z_iast rfl s7.1 s7.2 dX11_renew_115 ?_
  refine z_iload_n dX11_renew_116 rfl rfl ?_
  exact z_ireti rfl dX11_renew_117 (k9)
set_option maxRecDepth 20000 in
set_option maxHeartbeats 1000000 in
theorem TX11_rents {G : zG} {σ : zS} {Q : Int → zS → Prop}  (k1 : (σ 79 5 ≠ zdiv (σ 0 13) 365) → (¬ (400 ≤ σ 79 4)) → zR G MX11_rents 42 [zr 0, zi 0, zi 0] [] σ Q) (k2 : (σ 79 5 ≠ zdiv (σ 0 13) 365) → (400 ≤ σ 79 4) → -2147483648 ≤ -(-7) ∧ -(-7) < (2147483648 : Int)) (k3 : (σ 79 5 ≠ zdiv (σ 0 13) 365) → (400 ≤ σ 79 4) → (0 : Int) ≤ -(-7) ∧ -(-7) < (8 : Int)) (k4 : (σ 79 5 ≠ zdiv (σ 0 13) 365) → (400 ≤ σ 79 4) → Q (-7) (zup σ 97 (-(-7)) (zW ((σ 97 (-(-7))) + 1)))) (k5 : (σ 79 5 = zdiv (σ 0 13) 365) → -2147483648 ≤ -(-6) ∧ -(-6) < (2147483648 : Int)) (k6 : (σ 79 5 = zdiv (σ 0 13) 365) → (0 : Int) ≤ -(-6) ∧ -(-6) < (8 : Int)) (k7 : (σ 79 5 = zdiv (σ 0 13) 365) → Q (-6) (zup σ 97 (-(-6)) (zW ((σ 97 (-(-6))) + 1)))) : zO G MX11_rents [zr 0] σ Q := by
  refine zO_of (ls0 := [zr 0, zu, zu]) (by decide) (Nat.le_of_ble_eq_true rfl) rfl ?_
  refine z_aload_n dX11_rents_0 rfl rfl ?_
  refine z_getfR (k := 8) flRX11_77 rfl rfl dX11_rents_1 ?_
  refine z_getfI (k := 5) flRX11_401 rfl rfl dX11_rents_4 ?_
  refine z_aload_n dX11_rents_7 rfl rfl ?_
  refine z_callv (as := []) (st := [zi (σ 79 5)]) mkX11_thisYear lkRX11_384 rfl rfl rfl (by decide) (Nat.le_of_ble_eq_true rfl) rfl dX11_rents_8 ?_
  refine SX11_thisYear ?_
  show zR G MX11_rents 11 [zr 0, zu, zu] [zi (zdiv (σ 0 13) 365), zi (σ 79 5)] σ Q
  refine z_icmp_ne dX11_rents_11 (tgt := 21) (by decide) (fun h1 => ?_) (fun h1 => ?_)
  · skip
    refine z_aload_n dX11_rents_21 rfl rfl ?_
    refine z_getfR (k := 8) flRX11_77 rfl rfl dX11_rents_22 ?_
    refine z_callv (as := []) (st := []) mkX0_isFull lkRX11_391 rfl rfl rfl (by decide) (Nat.le_of_ble_eq_true rfl) rfl dX11_rents_25 ?_
    refine SX0_isFull ?_
    show zR G MX11_rents 28 [zr 0, zu, zu] [zi (if 400 ≤ σ 79 4 then (1 : Int) else 0)] σ Q
    refine z_if_eq dX11_rents_28 (tgt := 38) (by decide) (fun z => ?_) (fun z => ?_)
    · have h2 : ¬ (400 ≤ σ 79 4) := zb0 z
      refine z_iconst dX11_rents_38 (by unfold zIn; decide) ?_
      refine z_istore_n (ls' := [zr 0, zi 0, zu]) dX11_rents_39 rfl (by decide) rfl ?_
      refine z_iconst dX11_rents_40 (by unfold zIn; decide) ?_
      refine z_istore_n (ls' := [zr 0, zi 0, zi 0]) dX11_rents_41 rfl (by decide) rfl ?_
      exact k1 h1 h2
    · have h2 : 400 ≤ σ 79 4 := zb1 z
      refine z_aload_n dX11_rents_31 rfl rfl ?_
      refine z_bipush (x := (-7)) dX11_rents_32 (by decide +kernel) (by unfold zIn; decide) ?_
      have s2 : -2147483648 ≤ -(-7) ∧ -(-7) < (2147483648 : Int) := k2 h1 h2
      have s3 : (0 : Int) ≤ -(-7) ∧ -(-7) < (8 : Int) := k3 h1 h2
      refine z_callv (as := [zi (-7)]) (st := []) mkX11_refuse lkRX11_132 rfl rfl rfl (by decide) (Nat.le_of_ble_eq_true rfl) rfl dX11_rents_34 ?_
      refine SX11_refuse s2 s3 ?_
      show zR G MX11_rents 37 [zr 0, zu, zu] [zi (-7)] (zup σ 97 (-(-7)) (zW ((σ 97 (-(-7))) + 1))) Q
      exact z_ireti rfl dX11_rents_37 (k4 h1 h2)
  · skip
    refine z_aload_n dX11_rents_14 rfl rfl ?_
    refine z_bipush (x := (-6)) dX11_rents_15 (by decide +kernel) (by unfold zIn; decide) ?_
    have s5 : -2147483648 ≤ -(-6) ∧ -(-6) < (2147483648 : Int) := k5 h1
    have s6 : (0 : Int) ≤ -(-6) ∧ -(-6) < (8 : Int) := k6 h1
    refine z_callv (as := [zi (-6)]) (st := []) mkX11_refuse lkRX11_132 rfl rfl rfl (by decide) (Nat.le_of_ble_eq_true rfl) rfl dX11_rents_17 ?_
    refine SX11_refuse s5 s6 ?_
    show zR G MX11_rents 20 [zr 0, zu, zu] [zi (-6)] (zup σ 97 (-(-6)) (zW ((σ 97 (-(-6))) + 1))) Q
    exact z_ireti rfl dX11_rents_20 (k7 h1)
set_option maxRecDepth 20000 in
set_option maxHeartbeats 1000000 in
theorem TX11_rents_42 {G : zG} {σ : zS} {Q : Int → zS → Prop} {v1 v2 : Int}  (k1 : (σ 68 11 ≤ v2) → -2147483648 ≤ σ 79 3 + v1 ∧ σ 79 3 + v1 < (2147483648 : Int)) (k2 : (σ 68 11 ≤ v2) → -2147483648 ≤ ((zup σ 79 3 (σ 79 3 + v1)) 79 4) + 1 ∧ ((zup σ 79 3 (σ 79 3 + v1)) 79 4) + 1 < (2147483648 : Int)) (k3 : (σ 68 11 ≤ v2) → -2147483648 ≤ 110 * 0 ∧ 110 * 0 < (2147483648 : Int)) (k4 : (σ 68 11 ≤ v2) → -2147483648 ≤ (110 * 0) + (zdiv (σ 0 13) 365) ∧ (110 * 0) + (zdiv (σ 0 13) 365) < (2147483648 : Int)) (k5 : (σ 68 11 ≤ v2) → (0 : Int) ≤ (110 * 0) + (zdiv (σ 0 13) 365) ∧ (110 * 0) + (zdiv (σ 0 13) 365) < (440 : Int)) (k6 : (σ 68 11 ≤ v2) → -2147483648 ≤ ((zup (zup σ 79 3 (σ 79 3 + v1)) 79 4 (((zup σ 79 3 (σ 79 3 + v1)) 79 4) + 1)) 80 ((110 * 0) + (zdiv (σ 0 13) 365))) + v1 ∧ ((zup (zup σ 79 3 (σ 79 3 + v1)) 79 4 (((zup σ 79 3 (σ 79 3 + v1)) 79 4) + 1)) 80 ((110 * 0) + (zdiv (σ 0 13) 365))) + v1 < (2147483648 : Int)) (k7 : (σ 68 11 ≤ v2) → Q v1 (zup (zup (zup (zup σ 79 3 (σ 79 3 + v1)) 79 4 (((zup σ 79 3 (σ 79 3 + v1)) 79 4) + 1)) 80 ((110 * 0) + (zdiv (σ 0 13) 365)) (((zup (zup σ 79 3 (σ 79 3 + v1)) 79 4 (((zup σ 79 3 (σ 79 3 + v1)) 79 4) + 1)) 80 ((110 * 0) + (zdiv (σ 0 13) 365))) + v1)) 79 5 (zdiv ((zup (zup (zup σ 79 3 (σ 79 3 + v1)) 79 4 (((zup σ 79 3 (σ 79 3 + v1)) 79 4) + 1)) 80 ((110 * 0) + (zdiv (σ 0 13) 365)) (((zup (zup σ 79 3 (σ 79 3 + v1)) 79 4 (((zup σ 79 3 (σ 79 3 + v1)) 79 4) + 1)) 80 ((110 * 0) + (zdiv (σ 0 13) 365))) + v1)) 0 13) 365))) (k8 : (v2 < σ 68 11) → zO G MX4_dueIn [zr 68, zi v2, zi (zdiv (σ 0 13) 365)] σ (fun rr σ' => zR G MX11_rents 66 [zr 0, zi v1, zi v2] [zi rr, zi v1] σ' Q)) : zR G MX11_rents 42 [zr 0, zi v1, zi v2] [] σ Q := by
  refine z_iload_n dX11_rents_42 rfl rfl ?_
  refine z_aload_n dX11_rents_43 rfl rfl ?_
  refine z_getfR (k := 7) flRX11_70 rfl rfl dX11_rents_44 ?_
  refine z_getfI (k := 11) flRX11_338 rfl rfl dX11_rents_47 ?_
  refine z_icmp_ge dX11_rents_50 (tgt := 74) (by decide) (fun h1 => ?_) (fun h1 => ?_)
  · skip
    refine z_aload_n dX11_rents_74 rfl rfl ?_
    refine z_getfR (k := 8) flRX11_77 rfl rfl dX11_rents_75 ?_
    refine z_iconst dX11_rents_78 (by unfold zIn; decide) ?_
    refine z_aload_n dX11_rents_79 rfl rfl ?_
    refine z_callv (as := []) (st := [zi 0, zr 79]) mkX11_thisYear lkRX11_384 rfl rfl rfl (by decide) (Nat.le_of_ble_eq_true rfl) rfl dX11_rents_80 ?_
    refine SX11_thisYear ?_
    show zR G MX11_rents 83 [zr 0, zi v1, zi v2] [zi (zdiv (σ 0 13) 365), zi 0, zr 79] σ Q
    refine z_iload_n dX11_rents_83 rfl rfl ?_
    have s1 : -2147483648 ≤ σ 79 3 + v1 ∧ σ 79 3 + v1 < (2147483648 : Int) := k1 h1
    have s2 : -2147483648 ≤ ((zup σ 79 3 (σ 79 3 + v1)) 79 4) + 1 ∧ ((zup σ 79 3 (σ 79 3 + v1)) 79 4) + 1 < (2147483648 : Int) := k2 h1
    have s3 : -2147483648 ≤ 110 * 0 ∧ 110 * 0 < (2147483648 : Int) := k3 h1
    have s4 : -2147483648 ≤ (110 * 0) + (zdiv (σ 0 13) 365) ∧ (110 * 0) + (zdiv (σ 0 13) 365) < (2147483648 : Int) := k4 h1
    have s5 : (0 : Int) ≤ (110 * 0) + (zdiv (σ 0 13) 365) ∧ (110 * 0) + (zdiv (σ 0 13) 365) < (440 : Int) := k5 h1
    have s6 : -2147483648 ≤ ((zup (zup σ 79 3 (σ 79 3 + v1)) 79 4 (((zup σ 79 3 (σ 79 3 + v1)) 79 4) + 1)) 80 ((110 * 0) + (zdiv (σ 0 13) 365))) + v1 ∧ ((zup (zup σ 79 3 (σ 79 3 + v1)) 79 4 (((zup σ 79 3 (σ 79 3 + v1)) 79 4) + 1)) 80 ((110 * 0) + (zdiv (σ 0 13) 365))) + v1 < (2147483648 : Int) := k6 h1
    refine z_callv (as := [zi 0, zi (zdiv (σ 0 13) 365), zi v1]) (st := []) mkX0_enter lkRX11_398 rfl rfl rfl (by decide) (Nat.le_of_ble_eq_true rfl) rfl dX11_rents_84 ?_
    refine SX0_enter s1 s2 s3 s4 s5 s6 ?_
    show zR G MX11_rents 87 [zr 0, zi v1, zi v2] [] (zup (zup (zup σ 79 3 (σ 79 3 + v1)) 79 4 (((zup σ 79 3 (σ 79 3 + v1)) 79 4) + 1)) 80 ((110 * 0) + (zdiv (σ 0 13) 365)) (((zup (zup σ 79 3 (σ 79 3 + v1)) 79 4 (((zup σ 79 3 (σ 79 3 + v1)) 79 4) + 1)) 80 ((110 * 0) + (zdiv (σ 0 13) 365))) + v1)) Q
    refine z_aload_n dX11_rents_87 rfl rfl ?_
    refine z_getfR (k := 8) flRX11_77 rfl rfl dX11_rents_88 ?_
    refine z_aload_n dX11_rents_91 rfl rfl ?_
    refine z_callv (as := []) (st := [zr 79]) mkX11_thisYear lkRX11_384 rfl rfl rfl (by decide) (Nat.le_of_ble_eq_true rfl) rfl dX11_rents_92 ?_
    refine SX11_thisYear ?_
    show zR G MX11_rents 95 [zr 0, zi v1, zi v2] [zi (zdiv ((zup (zup (zup σ 79 3 (σ 79 3 + v1)) 79 4 (((zup σ 79 3 (σ 79 3 + v1)) 79 4) + 1)) 80 ((110 * 0) + (zdiv (σ 0 13) 365)) (((zup (zup σ 79 3 (σ 79 3 + v1)) 79 4 (((zup σ 79 3 (σ 79 3 + v1)) 79 4) + 1)) 80 ((110 * 0) + (zdiv (σ 0 13) 365))) + v1)) 0 13) 365), zr 79] (zup (zup (zup σ 79 3 (σ 79 3 + v1)) 79 4 (((zup σ 79 3 (σ 79 3 + v1)) 79 4) + 1)) 80 ((110 * 0) + (zdiv (σ 0 13) 365)) (((zup (zup σ 79 3 (σ 79 3 + v1)) 79 4 (((zup σ 79 3 (σ 79 3 + v1)) 79 4) + 1)) 80 ((110 * 0) + (zdiv (σ 0 13) 365))) + v1)) Q
    refine z_putI (k := 5) fpRX11_401 rfl rfl dX11_rents_95 ?_
    refine z_iload_n dX11_rents_98 rfl rfl ?_
    exact z_ireti rfl dX11_rents_99 (k7 h1)
  · skip
    refine z_iload_n dX11_rents_53 rfl rfl ?_
    refine z_aload_n dX11_rents_54 rfl rfl ?_
    refine z_getfR (k := 7) flRX11_70 rfl rfl dX11_rents_55 ?_
    refine z_iload_n dX11_rents_58 rfl rfl ?_
    refine z_aload_n dX11_rents_59 rfl rfl ?_
    refine z_callv (as := []) (st := [zi v2, zr 68, zi v1]) mkX11_thisYear lkRX11_384 rfl rfl rfl (by decide) (Nat.le_of_ble_eq_true rfl) rfl dX11_rents_60 ?_
    refine SX11_thisYear ?_
    show zR G MX11_rents 63 [zr 0, zi v1, zi v2] [zi (zdiv (σ 0 13) 365), zi v2, zr 68, zi v1] σ Q
    refine z_callv (as := [zi v2, zi (zdiv (σ 0 13) 365)]) (st := [zi v1]) mkX4_dueIn lkRX11_368 rfl rfl rfl (by decide) (Nat.le_of_ble_eq_true rfl) rfl dX11_rents_63 (k8 h1)
set_option maxRecDepth 20000 in
set_option maxHeartbeats 1000000 in
theorem TX11_rents_66 {G : zG} {σ : zS} {Q : Int → zS → Prop} {v1 v2 r t1 : Int}  (k1 : -2147483648 ≤ t1 + r ∧ t1 + r < (2147483648 : Int)) (k2 : -2147483648 ≤ v2 + 1 ∧ v2 + 1 < (2147483648 : Int)) (k3 : zR G MX11_rents 42 [zr 0, zi (t1 + r), zi (v2 + 1)] [] σ Q) : zR G MX11_rents 66 [zr 0, zi v1, zi v2] [zi r, zi t1] σ Q := by
  have s1 : -2147483648 ≤ t1 + r ∧ t1 + r < (2147483648 : Int) := k1
  refine z_iaddN dX11_rents_66 s1 ?_
  refine z_istore_n (ls' := [zr 0, zi (t1 + r), zi v2]) dX11_rents_67 rfl (by decide) rfl ?_
  have s2 : -2147483648 ≤ v2 + 1 ∧ v2 + 1 < (2147483648 : Int) := k2
  refine z_iincN (ls' := [zr 0, zi (t1 + r), zi (v2 + 1)]) dX11_rents_68 rfl (by decide) s2 rfl ?_
  refine z_goto dX11_rents_71 (tgt := 42) (by decide) ?_
  exact k3
set_option maxRecDepth 20000 in
set_option maxHeartbeats 1000000 in
theorem TX0_beginYear {G : zG} {σ : zS} {Q : Int → zS → Prop} {a1 : Int}  (k1 : (a1 ≠ σ 79 7) → zO G MJ7_fill_53178 [zr 81, zi 0] (zup σ 79 7 a1) (fun rr σ' => zR G MX0_beginYear 21 [zr 79, zi a1] [] σ' Q)) (k2 : (a1 = σ 79 7) → Q 0 σ) : zO G MX0_beginYear [zr 79, zi a1] σ Q := by
  refine zO_of (ls0 := [zr 79, zi a1]) (by decide) (Nat.le_of_ble_eq_true rfl) rfl ?_
  have J21 : (a1 = σ 79 7) → zR G MX0_beginYear 21 [zr 79, zi a1] [] σ Q := by
    intro h1
    exact z_vret rfl dX0_beginYear_21 (k2 h1)
  refine z_iload_n dX0_beginYear_0 rfl rfl ?_
  refine z_aload_n dX0_beginYear_1 rfl rfl ?_
  refine z_getfI (k := 7) flRX0_34 rfl rfl dX0_beginYear_2 ?_
  refine z_icmp_eq dX0_beginYear_5 (tgt := 21) (by decide) (fun h1 => ?_) (fun h1 => ?_)
  · skip
    exact J21 h1
  · skip
    refine z_aload_n dX0_beginYear_8 rfl rfl ?_
    refine z_iload_n dX0_beginYear_9 rfl rfl ?_
    refine z_putI (k := 7) fpRX0_34 rfl rfl dX0_beginYear_10 ?_
    refine z_aload_n dX0_beginYear_13 rfl rfl ?_
    refine z_getfR (k := 1) flRX0_15 rfl rfl dX0_beginYear_14 ?_
    refine z_iconst dX0_beginYear_17 (by unfold zIn; decide) ?_
    refine z_calls (as := [zr 81, zi 0]) (st := []) mkJ7_fill_53178 lkRX0_37 rfl (by decide) (Nat.le_of_ble_eq_true rfl) rfl dX0_beginYear_18 (k1 h1)
set_option maxRecDepth 20000 in
set_option maxHeartbeats 1000000 in
theorem TX0_beginYear_21 {G : zG} {σ : zS} {Q : Int → zS → Prop} {v1 : Int}  (k1 : Q 0 σ) : zR G MX0_beginYear 21 [zr 79, zi v1] [] σ Q := by
  exact z_vret rfl dX0_beginYear_21 (k1)
set_option maxRecDepth 20000 in
set_option maxHeartbeats 1000000 in
theorem TX0_keep {G : zG} {σ : zS} {Q : Int → zS → Prop} {a1 a2 a3 : Int}  (k1 : zO G MX0_beginYear [zr 79, zi a3] σ (fun rr σ' => zR G MX0_keep 5 [zr 79, zi a1, zi a2, zi a3, zu] [] σ' Q)) : zO G MX0_keep [zr 79, zi a1, zi a2, zi a3] σ Q := by
  refine zO_of (ls0 := [zr 79, zi a1, zi a2, zi a3, zu]) (by decide) (Nat.le_of_ble_eq_true rfl) rfl ?_
  refine z_aload_n dX0_keep_0 rfl rfl ?_
  refine z_iload_n dX0_keep_1 rfl rfl ?_
  refine z_callv (as := [zi a3]) (st := []) mkX0_beginYear lkRX0_43 rfl rfl rfl (by decide) (Nat.le_of_ble_eq_true rfl) rfl dX0_keep_2 (k1)
set_option maxRecDepth 20000 in
set_option maxHeartbeats 1000000 in
theorem TX0_keep_5 {G : zG} {σ : zS} {Q : Int → zS → Prop} {v1 v2 v3 : Int}  (k1 : (0 : Int) ≤ v1 ∧ v1 < (24 : Int)) (k2 : Q (σ 81 v1) (zup σ 81 v1 v2)) : zR G MX0_keep 5 [zr 79, zi v1, zi v2, zi v3, zu] [] σ Q := by
  refine z_aload_n dX0_keep_5 rfl rfl ?_
  refine z_getfR (k := 1) flRX0_15 rfl rfl dX0_keep_6 ?_
  refine z_iload_n dX0_keep_9 rfl rfl ?_
  have s1 : (0 : Int) ≤ v1 ∧ v1 < (24 : Int) := k1
  refine z_iald rfl s1.1 s1.2 dX0_keep_10 ?_
  refine z_istore (ls' := [zr 79, zi v1, zi v2, zi v3, zi (σ 81 v1)]) dX0_keep_11 (by decide) rfl ?_
  refine z_aload_n dX0_keep_13 rfl rfl ?_
  refine z_getfR (k := 1) flRX0_15 rfl rfl dX0_keep_14 ?_
  refine z_iload_n dX0_keep_17 rfl rfl ?_
  refine z_iload_n dX0_keep_18 rfl rfl ?_
  refine z_iast rfl s1.1 s1.2 dX0_keep_19 ?_
  refine z_iload dX0_keep_20 rfl ?_
  exact z_ireti rfl dX0_keep_22 (k2)
set_option maxRecDepth 20000 in
set_option maxHeartbeats 1000000 in
theorem TX11_kept {G : zG} {σ : zS} {Q : Int → zS → Prop} {a1 a2 : Int}  (k1 : ((0 ≤ a1 ∧ a1 < σ 22 12)) → (¬ ((0 ≤ a2 ∧ a2 ≤ 365))) → -2147483648 ≤ -(-6) ∧ -(-6) < (2147483648 : Int)) (k2 : ((0 ≤ a1 ∧ a1 < σ 22 12)) → (¬ ((0 ≤ a2 ∧ a2 ≤ 365))) → (0 : Int) ≤ -(-6) ∧ -(-6) < (8 : Int)) (k3 : ((0 ≤ a1 ∧ a1 < σ 22 12)) → (¬ ((0 ≤ a2 ∧ a2 ≤ 365))) → Q (-6) (zup σ 97 (-(-6)) (zW ((σ 97 (-(-6))) + 1)))) (k4 : ((0 ≤ a1 ∧ a1 < σ 22 12)) → ((0 ≤ a2 ∧ a2 ≤ 365)) → zO G MX0_keep [zr 79, zi a1, zi a2, zi (zdiv (σ 0 13) 365)] σ (fun rr σ' => zR G MX11_kept 41 [zr 0, zi a1, zi a2] [zi rr] σ' Q)) (k5 : (¬ ((0 ≤ a1 ∧ a1 < σ 22 12))) → -2147483648 ≤ -(-1) ∧ -(-1) < (2147483648 : Int)) (k6 : (¬ ((0 ≤ a1 ∧ a1 < σ 22 12))) → (0 : Int) ≤ -(-1) ∧ -(-1) < (8 : Int)) (k7 : (¬ ((0 ≤ a1 ∧ a1 < σ 22 12))) → Q (-1) (zup σ 97 (-(-1)) (zW ((σ 97 (-(-1))) + 1)))) : zO G MX11_kept [zr 0, zi a1, zi a2] σ Q := by
  refine zO_of (ls0 := [zr 0, zi a1, zi a2]) (by decide) (Nat.le_of_ble_eq_true rfl) rfl ?_
  refine z_aload_n dX11_kept_0 rfl rfl ?_
  refine z_getfR (k := 1) flRX11_18 rfl rfl dX11_kept_1 ?_
  refine z_iload_n dX11_kept_4 rfl rfl ?_
  refine z_callv (as := [zi a1]) (st := []) mkX5_has lkRX11_146 rfl rfl rfl (by decide) (Nat.le_of_ble_eq_true rfl) rfl dX11_kept_5 ?_
  refine SX5_has ?_
  show zR G MX11_kept 8 [zr 0, zi a1, zi a2] [zi (if (0 ≤ a1 ∧ a1 < σ 22 12) then (1 : Int) else 0)] σ Q
  refine z_if_ne dX11_kept_8 (tgt := 17) (by decide) (fun z => ?_) (fun z => ?_)
  · have h1 : (0 ≤ a1 ∧ a1 < σ 22 12) := zb1 z
    refine z_iload_n dX11_kept_17 rfl rfl ?_
    refine z_iconst dX11_kept_18 (by unfold zIn; decide) ?_
    refine z_sipush (x := 365) dX11_kept_19 (by decide +kernel) (by unfold zIn; decide) ?_
    refine z_calls (as := [zi a2, zi 0, zi 365]) (st := []) mkX11_within lkRX11_111 rfl (by decide) (Nat.le_of_ble_eq_true rfl) rfl dX11_kept_22 ?_
    refine SX11_within ?_
    show zR G MX11_kept 25 [zr 0, zi a1, zi a2] [zi (if (0 ≤ a2 ∧ a2 ≤ 365) then (1 : Int) else 0)] σ Q
    refine z_if_eq dX11_kept_25 (tgt := 44) (by decide) (fun z => ?_) (fun z => ?_)
    · have h2 : ¬ ((0 ≤ a2 ∧ a2 ≤ 365)) := zb0 z
      refine z_aload_n dX11_kept_44 rfl rfl ?_
      refine z_bipush (x := (-6)) dX11_kept_45 (by decide +kernel) (by unfold zIn; decide) ?_
      have s1 : -2147483648 ≤ -(-6) ∧ -(-6) < (2147483648 : Int) := k1 h1 h2
      have s2 : (0 : Int) ≤ -(-6) ∧ -(-6) < (8 : Int) := k2 h1 h2
      refine z_callv (as := [zi (-6)]) (st := []) mkX11_refuse lkRX11_132 rfl rfl rfl (by decide) (Nat.le_of_ble_eq_true rfl) rfl dX11_kept_47 ?_
      refine SX11_refuse s1 s2 ?_
      show zR G MX11_kept 50 [zr 0, zi a1, zi a2] [zi (-6)] (zup σ 97 (-(-6)) (zW ((σ 97 (-(-6))) + 1))) Q
      exact z_ireti rfl dX11_kept_50 (k3 h1 h2)
    · have h2 : (0 ≤ a2 ∧ a2 ≤ 365) := zb1 z
      refine z_aload_n dX11_kept_28 rfl rfl ?_
      refine z_getfR (k := 8) flRX11_77 rfl rfl dX11_kept_29 ?_
      refine z_iload_n dX11_kept_32 rfl rfl ?_
      refine z_iload_n dX11_kept_33 rfl rfl ?_
      refine z_aload_n dX11_kept_34 rfl rfl ?_
      refine z_callv (as := []) (st := [zi a2, zi a1, zr 79]) mkX11_thisYear lkRX11_384 rfl rfl rfl (by decide) (Nat.le_of_ble_eq_true rfl) rfl dX11_kept_35 ?_
      refine SX11_thisYear ?_
      show zR G MX11_kept 38 [zr 0, zi a1, zi a2] [zi (zdiv (σ 0 13) 365), zi a2, zi a1, zr 79] σ Q
      refine z_callv (as := [zi a1, zi a2, zi (zdiv (σ 0 13) 365)]) (st := []) mkX0_keep lkRX11_404 rfl rfl rfl (by decide) (Nat.le_of_ble_eq_true rfl) rfl dX11_kept_38 (k4 h1 h2)
  · have h1 : ¬ ((0 ≤ a1 ∧ a1 < σ 22 12)) := zb0 z
    refine z_aload_n dX11_kept_11 rfl rfl ?_
    refine z_iconst dX11_kept_12 (by unfold zIn; decide) ?_
    have s5 : -2147483648 ≤ -(-1) ∧ -(-1) < (2147483648 : Int) := k5 h1
    have s6 : (0 : Int) ≤ -(-1) ∧ -(-1) < (8 : Int) := k6 h1
    refine z_callv (as := [zi (-1)]) (st := []) mkX11_refuse lkRX11_132 rfl rfl rfl (by decide) (Nat.le_of_ble_eq_true rfl) rfl dX11_kept_13 ?_
    refine SX11_refuse s5 s6 ?_
    show zR G MX11_kept 16 [zr 0, zi a1, zi a2] [zi (-1)] (zup σ 97 (-(-1)) (zW ((σ 97 (-(-1))) + 1))) Q
    exact z_ireti rfl dX11_kept_16 (k7 h1)
set_option maxRecDepth 20000 in
set_option maxHeartbeats 1000000 in
theorem TX11_kept_41 {G : zG} {σ : zS} {Q : Int → zS → Prop} {v1 v2 r : Int}  (k1 : Q r σ) : zR G MX11_kept 41 [zr 0, zi v1, zi v2] [zi r] σ Q := by
  refine z_goto dX11_kept_41 (tgt := 50) (by decide) ?_
  exact z_ireti rfl dX11_kept_50 (k1)
set_option maxRecDepth 20000 in
set_option maxHeartbeats 1000000 in
theorem TX0_part {G : zG} {σ : zS} {Q : Int → zS → Prop} {a1 a2 a3 : Int}  (k1 : zO G MX0_beginYear [zr 79, zi a3] σ (fun rr σ' => zR G MX0_part 5 [zr 79, zi a1, zi a2, zi a3, zu, zu, zu, zu] [] σ' Q)) : zO G MX0_part [zr 79, zi a1, zi a2, zi a3] σ Q := by
  refine zO_of (ls0 := [zr 79, zi a1, zi a2, zi a3, zu, zu, zu, zu]) (by decide) (Nat.le_of_ble_eq_true rfl) rfl ?_
  refine z_aload_n dX0_part_0 rfl rfl ?_
  refine z_iload_n dX0_part_1 rfl rfl ?_
  refine z_callv (as := [zi a3]) (st := []) mkX0_beginYear lkRX0_43 rfl rfl rfl (by decide) (Nat.le_of_ble_eq_true rfl) rfl dX0_part_2 (k1)
set_option maxRecDepth 20000 in
set_option maxHeartbeats 1000000 in
theorem TX0_part_5 {G : zG} {σ : zS} {Q : Int → zS → Prop} {v1 v2 v3 : Int}  (k1 : zR G MX0_part 11 [zr 79, zi v1, zi v2, zi v3, zi 0, zi 0, zu, zu] [] σ Q) : zR G MX0_part 5 [zr 79, zi v1, zi v2, zi v3, zu, zu, zu, zu] [] σ Q := by
  refine z_iconst dX0_part_5 (by unfold zIn; decide) ?_
  refine z_istore (ls' := [zr 79, zi v1, zi v2, zi v3, zi 0, zu, zu, zu]) dX0_part_6 (by decide) rfl ?_
  refine z_iconst dX0_part_8 (by unfold zIn; decide) ?_
  refine z_istore (ls' := [zr 79, zi v1, zi v2, zi v3, zi 0, zi 0, zu, zu]) dX0_part_9 (by decide) rfl ?_
  exact k1
set_option maxRecDepth 20000 in
set_option maxHeartbeats 1000000 in
theorem TX0_part_11 {G : zG} {σ : zS} {Q : Int → zS → Prop} {v1 v2 v3 v4 v5 : Int}  (k1 : (24 ≤ v5) → zR G MX0_part 49 [zr 79, zi v1, zi v2, zi v3, zi v4, zi 0, zi 0, zu] [] σ Q) (k2 : (v5 < 24) → (0 : Int) ≤ v5 ∧ v5 < (24 : Int)) (k3 : (v5 < 24) → -2147483648 ≤ zand (zushr v2 v5) 1 * σ 81 v5 ∧ zand (zushr v2 v5) 1 * σ 81 v5 < (2147483648 : Int)) (k4 : (v5 < 24) → -2147483648 ≤ v4 + (zand (zushr v2 v5) 1 * σ 81 v5) ∧ v4 + (zand (zushr v2 v5) 1 * σ 81 v5) < (2147483648 : Int)) (k5 : (v5 < 24) → -2147483648 ≤ v5 + 1 ∧ v5 + 1 < (2147483648 : Int)) (k6 : (v5 < 24) → zR G MX0_part 11 [zr 79, zi v1, zi v2, zi v3, zi (v4 + (zand (zushr v2 v5) 1 * σ 81 v5)), zi (v5 + 1), zu, zu] [] σ Q) : zR G MX0_part 11 [zr 79, zi v1, zi v2, zi v3, zi v4, zi v5, zu, zu] [] σ Q := by
  refine z_iload dX0_part_11 rfl ?_
  refine z_bipush (x := 24) dX0_part_13 (by decide +kernel) (by unfold zIn; decide) ?_
  refine z_icmp_ge dX0_part_15 (tgt := 43) (by decide) (fun h1 => ?_) (fun h1 => ?_)
  · skip
    refine z_iconst dX0_part_43 (by unfold zIn; decide) ?_
    refine z_istore (ls' := [zr 79, zi v1, zi v2, zi v3, zi v4, zi 0, zu, zu]) dX0_part_44 (by decide) rfl ?_
    refine z_iconst dX0_part_46 (by unfold zIn; decide) ?_
    refine z_istore (ls' := [zr 79, zi v1, zi v2, zi v3, zi v4, zi 0, zi 0, zu]) dX0_part_47 (by decide) rfl ?_
    exact k1 h1
  · skip
    refine z_iload dX0_part_18 rfl ?_
    refine z_iload_n dX0_part_20 rfl rfl ?_
    refine z_iload dX0_part_21 rfl ?_
    refine z_iushr dX0_part_23 ?_
    refine z_iconst dX0_part_24 (by unfold zIn; decide) ?_
    refine z_iand dX0_part_25 ?_
    refine z_aload_n dX0_part_26 rfl rfl ?_
    refine z_getfR (k := 1) flRX0_15 rfl rfl dX0_part_27 ?_
    refine z_iload dX0_part_30 rfl ?_
    have s2 : (0 : Int) ≤ v5 ∧ v5 < (24 : Int) := k2 h1
    refine z_iald rfl s2.1 s2.2 dX0_part_32 ?_
    have s3 : -2147483648 ≤ zand (zushr v2 v5) 1 * σ 81 v5 ∧ zand (zushr v2 v5) 1 * σ 81 v5 < (2147483648 : Int) := k3 h1
    refine z_imulN dX0_part_33 s3 ?_
    have s4 : -2147483648 ≤ v4 + (zand (zushr v2 v5) 1 * σ 81 v5) ∧ v4 + (zand (zushr v2 v5) 1 * σ 81 v5) < (2147483648 : Int) := k4 h1
    refine z_iaddN dX0_part_34 s4 ?_
    refine z_istore (ls' := [zr 79, zi v1, zi v2, zi v3, zi (v4 + (zand (zushr v2 v5) 1 * σ 81 v5)), zi v5, zu, zu]) dX0_part_35 (by decide) rfl ?_
    have s5 : -2147483648 ≤ v5 + 1 ∧ v5 + 1 < (2147483648 : Int) := k5 h1
    refine z_iincN (ls' := [zr 79, zi v1, zi v2, zi v3, zi (v4 + (zand (zushr v2 v5) 1 * σ 81 v5)), zi (v5 + 1), zu, zu]) dX0_part_37 rfl (by decide) s5 rfl ?_
    refine z_goto dX0_part_40 (tgt := 11) (by decide) ?_
    exact k6 h1
set_option maxRecDepth 20000 in
set_option maxHeartbeats 1000000 in
theorem TX0_part_49 {G : zG} {σ : zS} {Q : Int → zS → Prop} {v1 v2 v3 v4 v5 v6 : Int}  (k1 : (v6 < 24) → (0 < v4) → (0 : Int) ≤ v6 ∧ v6 < (24 : Int)) (k2 : (v6 < 24) → (0 < v4) → -2147483648 ≤ zand (zushr v2 v6) 1 * σ 81 v6 ∧ zand (zushr v2 v6) 1 * σ 81 v6 < (2147483648 : Int)) (k3 : (v6 < 24) → (0 < v4) → -9223372036854775808 ≤ v1 * (zand (zushr v2 v6) 1 * σ 81 v6) ∧ v1 * (zand (zushr v2 v6) 1 * σ 81 v6) < (9223372036854775808 : Int)) (k4 : (v6 < 24) → (0 < v4) → v4 ≠ 0) (k5 : (v6 < 24) → (0 < v4) → -2147483648 ≤ σ 82 v6 + (zW (zldiv (v1 * (zand (zushr v2 v6) 1 * σ 81 v6)) v4)) ∧ σ 82 v6 + (zW (zldiv (v1 * (zand (zushr v2 v6) 1 * σ 81 v6)) v4)) < (2147483648 : Int)) (k6 : (v6 < 24) → (0 < v4) → -2147483648 ≤ v5 + (zW (zldiv (v1 * (zand (zushr v2 v6) 1 * σ 81 v6)) v4)) ∧ v5 + (zW (zldiv (v1 * (zand (zushr v2 v6) 1 * σ 81 v6)) v4)) < (2147483648 : Int)) (k7 : (v6 < 24) → (0 < v4) → -2147483648 ≤ v6 + 1 ∧ v6 + 1 < (2147483648 : Int)) (k8 : (v6 < 24) → (0 < v4) → zR G MX0_part 49 [zr 79, zi v1, zi v2, zi v3, zi v4, zi (v5 + (zW (zldiv (v1 * (zand (zushr v2 v6) 1 * σ 81 v6)) v4))), zi (v6 + 1), zu] [] (zup σ 82 v6 (σ 82 v6 + (zW (zldiv (v1 * (zand (zushr v2 v6) 1 * σ 81 v6)) v4)))) Q) (k9 : (24 ≤ v6 ∨ (v6 < 24 ∧ v4 ≤ 0)) → -2147483648 ≤ -v5 ∧ -v5 < (2147483648 : Int)) (k10 : (24 ≤ v6 ∨ (v6 < 24 ∧ v4 ≤ 0)) → -2147483648 ≤ σ 79 3 + (-v5) ∧ σ 79 3 + (-v5) < (2147483648 : Int)) (k11 : (24 ≤ v6 ∨ (v6 < 24 ∧ v4 ≤ 0)) → -2147483648 ≤ ((zup σ 79 3 (σ 79 3 + (-v5))) 79 4) + 1 ∧ ((zup σ 79 3 (σ 79 3 + (-v5))) 79 4) + 1 < (2147483648 : Int)) (k12 : (24 ≤ v6 ∨ (v6 < 24 ∧ v4 ≤ 0)) → -2147483648 ≤ 110 * 2 ∧ 110 * 2 < (2147483648 : Int)) (k13 : (24 ≤ v6 ∨ (v6 < 24 ∧ v4 ≤ 0)) → -2147483648 ≤ (110 * 2) + v3 ∧ (110 * 2) + v3 < (2147483648 : Int)) (k14 : (24 ≤ v6 ∨ (v6 < 24 ∧ v4 ≤ 0)) → (0 : Int) ≤ (110 * 2) + v3 ∧ (110 * 2) + v3 < (440 : Int)) (k15 : (24 ≤ v6 ∨ (v6 < 24 ∧ v4 ≤ 0)) → -2147483648 ≤ ((zup (zup σ 79 3 (σ 79 3 + (-v5))) 79 4 (((zup σ 79 3 (σ 79 3 + (-v5))) 79 4) + 1)) 80 ((110 * 2) + v3)) + (-v5) ∧ ((zup (zup σ 79 3 (σ 79 3 + (-v5))) 79 4 (((zup σ 79 3 (σ 79 3 + (-v5))) 79 4) + 1)) 80 ((110 * 2) + v3)) + (-v5) < (2147483648 : Int)) (k16 : (24 ≤ v6 ∨ (v6 < 24 ∧ v4 ≤ 0)) → Q v5 (zup (zup (zup (zup σ 79 3 (σ 79 3 + (-v5))) 79 4 (((zup σ 79 3 (σ 79 3 + (-v5))) 79 4) + 1)) 80 ((110 * 2) + v3) (((zup (zup σ 79 3 (σ 79 3 + (-v5))) 79 4 (((zup σ 79 3 (σ 79 3 + (-v5))) 79 4) + 1)) 80 ((110 * 2) + v3)) + (-v5))) 79 6 v3)) : zR G MX0_part 49 [zr 79, zi v1, zi v2, zi v3, zi v4, zi v5, zi v6, zu] [] σ Q := by
  have J111 : (24 ≤ v6 ∨ (v6 < 24 ∧ v4 ≤ 0)) → zR G MX0_part 111 [zr 79, zi v1, zi v2, zi v3, zi v4, zi v5, zi v6, zu] [] σ Q := by
    intro h3
    refine z_aload_n dX0_part_111 rfl rfl ?_
    refine z_iconst dX0_part_112 (by unfold zIn; decide) ?_
    refine z_iload_n dX0_part_113 rfl rfl ?_
    refine z_iload dX0_part_114 rfl ?_
    have s9 : -2147483648 ≤ -v5 ∧ -v5 < (2147483648 : Int) := k9 h3
    refine z_inegN dX0_part_116 s9 ?_
    have s10 : -2147483648 ≤ σ 79 3 + (-v5) ∧ σ 79 3 + (-v5) < (2147483648 : Int) := k10 h3
    have s11 : -2147483648 ≤ ((zup σ 79 3 (σ 79 3 + (-v5))) 79 4) + 1 ∧ ((zup σ 79 3 (σ 79 3 + (-v5))) 79 4) + 1 < (2147483648 : Int) := k11 h3
    have s12 : -2147483648 ≤ 110 * 2 ∧ 110 * 2 < (2147483648 : Int) := k12 h3
    have s13 : -2147483648 ≤ (110 * 2) + v3 ∧ (110 * 2) + v3 < (2147483648 : Int) := k13 h3
    have s14 : (0 : Int) ≤ (110 * 2) + v3 ∧ (110 * 2) + v3 < (440 : Int) := k14 h3
    have s15 : -2147483648 ≤ ((zup (zup σ 79 3 (σ 79 3 + (-v5))) 79 4 (((zup σ 79 3 (σ 79 3 + (-v5))) 79 4) + 1)) 80 ((110 * 2) + v3)) + (-v5) ∧ ((zup (zup σ 79 3 (σ 79 3 + (-v5))) 79 4 (((zup σ 79 3 (σ 79 3 + (-v5))) 79 4) + 1)) 80 ((110 * 2) + v3)) + (-v5) < (2147483648 : Int) := k15 h3
    refine z_callv (as := [zi 2, zi v3, zi (-v5)]) (st := []) mkX0_enter lkRX0_47 rfl rfl rfl (by decide) (Nat.le_of_ble_eq_true rfl) rfl dX0_part_117 ?_
    refine SX0_enter s10 s11 s12 s13 s14 s15 ?_
    show zR G MX0_part 120 [zr 79, zi v1, zi v2, zi v3, zi v4, zi v5, zi v6, zu] [] (zup (zup (zup σ 79 3 (σ 79 3 + (-v5))) 79 4 (((zup σ 79 3 (σ 79 3 + (-v5))) 79 4) + 1)) 80 ((110 * 2) + v3) (((zup (zup σ 79 3 (σ 79 3 + (-v5))) 79 4 (((zup σ 79 3 (σ 79 3 + (-v5))) 79 4) + 1)) 80 ((110 * 2) + v3)) + (-v5))) Q
    refine z_aload_n dX0_part_120 rfl rfl ?_
    refine z_iload_n dX0_part_121 rfl rfl ?_
    refine z_putI (k := 6) fpRX0_31 rfl rfl dX0_part_122 ?_
    refine z_iload dX0_part_125 rfl ?_
    exact z_ireti rfl dX0_part_127 (k16 h3)
  refine z_iload dX0_part_49 rfl ?_
  refine z_bipush (x := 24) dX0_part_51 (by decide +kernel) (by unfold zIn; decide) ?_
  refine z_icmp_ge dX0_part_53 (tgt := 111) (by decide) (fun h1 => ?_) (fun h1 => ?_)
  · skip
    exact J111 (Or.inl h1)
  · skip
    refine z_iload dX0_part_56 rfl ?_
    refine z_if_le dX0_part_58 (tgt := 111) (by decide) (fun h2 => ?_) (fun h2 => ?_)
    · skip
      exact J111 (Or.inr ⟨h1, h2⟩)
    · skip
      refine z_iload_n dX0_part_61 rfl rfl ?_
      refine z_i2l dX0_part_62 ?_
      refine z_iload_n dX0_part_63 rfl rfl ?_
      refine z_iload dX0_part_64 rfl ?_
      refine z_iushr dX0_part_66 ?_
      refine z_iconst dX0_part_67 (by unfold zIn; decide) ?_
      refine z_iand dX0_part_68 ?_
      refine z_aload_n dX0_part_69 rfl rfl ?_
      refine z_getfR (k := 1) flRX0_15 rfl rfl dX0_part_70 ?_
      refine z_iload dX0_part_73 rfl ?_
      have s1 : (0 : Int) ≤ v6 ∧ v6 < (24 : Int) := k1 h1 h2
      refine z_iald rfl s1.1 s1.2 dX0_part_75 ?_
      have s2 : -2147483648 ≤ zand (zushr v2 v6) 1 * σ 81 v6 ∧ zand (zushr v2 v6) 1 * σ 81 v6 < (2147483648 : Int) := k2 h1 h2
      refine z_imulN dX0_part_76 s2 ?_
      refine z_i2l dX0_part_77 ?_
      have s3 : -9223372036854775808 ≤ v1 * (zand (zushr v2 v6) 1 * σ 81 v6) ∧ v1 * (zand (zushr v2 v6) 1 * σ 81 v6) < (9223372036854775808 : Int) := k3 h1 h2
      refine z_lmulN dX0_part_78 s3 ?_
      refine z_iload dX0_part_79 rfl ?_
      refine z_i2l dX0_part_81 ?_
      have s4 : v4 ≠ 0 := k4 h1 h2
      refine z_ldiv dX0_part_82 s4 ?_
      refine z_l2i dX0_part_83 ?_
      refine z_istore (ls' := [zr 79, zi v1, zi v2, zi v3, zi v4, zi v5, zi v6, zi (zW (zldiv (v1 * (zand (zushr v2 v6) 1 * σ 81 v6)) v4))]) dX0_part_84 (by decide) rfl ?_
      refine z_aload_n dX0_part_86 rfl rfl ?_
      refine z_getfR (k := 2) flRX0_18 rfl rfl dX0_part_87 ?_
      refine z_iload dX0_part_90 rfl ?_
      refine z_dup2 dX0_part_92 rfl rfl ?_
      refine z_iald rfl s1.1 s1.2 dX0_part_93 ?_
      refine z_iload dX0_part_94 rfl ?_
      have s5 : -2147483648 ≤ σ 82 v6 + (zW (zldiv (v1 * (zand (zushr v2 v6) 1 * σ 81 v6)) v4)) ∧ σ 82 v6 + (zW (zldiv (v1 * (zand (zushr v2 v6) 1 * σ 81 v6)) v4)) < (2147483648 : Int) := k5 h1 h2
      refine z_iaddN dX0_part_96 s5 ?_
      refine z_iast rfl s1.1 s1.2 dX0_part_97 ?_
      refine z_iload dX0_part_98 rfl ?_
      refine z_iload dX0_part_100 rfl ?_
      have s6 : -2147483648 ≤ v5 + (zW (zldiv (v1 * (zand (zushr v2 v6) 1 * σ 81 v6)) v4)) ∧ v5 + (zW (zldiv (v1 * (zand (zushr v2 v6) 1 * σ 81 v6)) v4)) < (2147483648 : Int) := k6 h1 h2
      refine z_iaddN dX0_part_102 s6 ?_
      refine z_istore (ls' := [zr 79, zi v1, zi v2, zi v3, zi v4, zi (v5 + (zW (zldiv (v1 * (zand (zushr v2 v6) 1 * σ 81 v6)) v4))), zi v6, zi (zW (zldiv (v1 * (zand (zushr v2 v6) 1 * σ 81 v6)) v4))]) dX0_part_103 (by decide) rfl ?_
      have s7 : -2147483648 ≤ v6 + 1 ∧ v6 + 1 < (2147483648 : Int) := k7 h1 h2
      refine z_iincN (ls' := [zr 79, zi v1, zi v2, zi v3, zi v4, zi (v5 + (zW (zldiv (v1 * (zand (zushr v2 v6) 1 * σ 81 v6)) v4))), zi (v6 + 1), zi (zW (zldiv (v1 * (zand (zushr v2 v6) 1 * σ 81 v6)) v4))]) dX0_part_105 rfl (by decide) s7 rfl ?_
      refine z_goto dX0_part_108 (tgt := 49) (by decide) ?_
      exact zR_fg [false, false, false, false, false, false, false, true] (k8 h1 h2)
set_option maxRecDepth 20000 in
set_option maxHeartbeats 1000000 in
theorem TX11_dividend {G : zG} {σ : zS} {Q : Int → zS → Prop} {a1 : Int}  (k1 : ((0 ≤ a1 ∧ a1 ≤ (σ 79 3))) → (σ 79 6 ≠ zdiv (σ 0 13) 365) → (¬ (400 ≤ σ 79 4)) → zO G MX6_holdersOf [zr 52, zi 1] σ (fun rr σ' => zR G MX11_dividend 66 [zr 0, zi a1] [zi rr, zi a1, zr 79] σ' Q)) (k2 : ((0 ≤ a1 ∧ a1 ≤ (σ 79 3))) → (σ 79 6 ≠ zdiv (σ 0 13) 365) → (400 ≤ σ 79 4) → -2147483648 ≤ -(-7) ∧ -(-7) < (2147483648 : Int)) (k3 : ((0 ≤ a1 ∧ a1 ≤ (σ 79 3))) → (σ 79 6 ≠ zdiv (σ 0 13) 365) → (400 ≤ σ 79 4) → (0 : Int) ≤ -(-7) ∧ -(-7) < (8 : Int)) (k4 : ((0 ≤ a1 ∧ a1 ≤ (σ 79 3))) → (σ 79 6 ≠ zdiv (σ 0 13) 365) → (400 ≤ σ 79 4) → Q (-7) (zup σ 97 (-(-7)) (zW ((σ 97 (-(-7))) + 1)))) (k5 : ((¬ ((0 ≤ a1 ∧ a1 ≤ (σ 79 3)))) ∨ (((0 ≤ a1 ∧ a1 ≤ (σ 79 3))) ∧ σ 79 6 = zdiv (σ 0 13) 365)) → -2147483648 ≤ -(-6) ∧ -(-6) < (2147483648 : Int)) (k6 : ((¬ ((0 ≤ a1 ∧ a1 ≤ (σ 79 3)))) ∨ (((0 ≤ a1 ∧ a1 ≤ (σ 79 3))) ∧ σ 79 6 = zdiv (σ 0 13) 365)) → (0 : Int) ≤ -(-6) ∧ -(-6) < (8 : Int)) (k7 : ((¬ ((0 ≤ a1 ∧ a1 ≤ (σ 79 3)))) ∨ (((0 ≤ a1 ∧ a1 ≤ (σ 79 3))) ∧ σ 79 6 = zdiv (σ 0 13) 365)) → Q (-6) (zup σ 97 (-(-6)) (zW ((σ 97 (-(-6))) + 1)))) : zO G MX11_dividend [zr 0, zi a1] σ Q := by
  refine zO_of (ls0 := [zr 0, zi a1]) (by decide) (Nat.le_of_ble_eq_true rfl) rfl ?_
  have J29 : ((¬ ((0 ≤ a1 ∧ a1 ≤ (σ 79 3)))) ∨ (((0 ≤ a1 ∧ a1 ≤ (σ 79 3))) ∧ σ 79 6 = zdiv (σ 0 13) 365)) → zR G MX11_dividend 29 [zr 0, zi a1] [] σ Q := by
    intro h4
    refine z_aload_n dX11_dividend_29 rfl rfl ?_
    refine z_bipush (x := (-6)) dX11_dividend_30 (by decide +kernel) (by unfold zIn; decide) ?_
    have s5 : -2147483648 ≤ -(-6) ∧ -(-6) < (2147483648 : Int) := k5 h4
    have s6 : (0 : Int) ≤ -(-6) ∧ -(-6) < (8 : Int) := k6 h4
    refine z_callv (as := [zi (-6)]) (st := []) mkX11_refuse lkRX11_132 rfl rfl rfl (by decide) (Nat.le_of_ble_eq_true rfl) rfl dX11_dividend_32 ?_
    refine SX11_refuse s5 s6 ?_
    show zR G MX11_dividend 35 [zr 0, zi a1] [zi (-6)] (zup σ 97 (-(-6)) (zW ((σ 97 (-(-6))) + 1))) Q
    exact z_ireti rfl dX11_dividend_35 (k7 h4)
  refine z_iload_n dX11_dividend_0 rfl rfl ?_
  refine z_iconst dX11_dividend_1 (by unfold zIn; decide) ?_
  refine z_aload_n dX11_dividend_2 rfl rfl ?_
  refine z_getfR (k := 8) flRX11_77 rfl rfl dX11_dividend_3 ?_
  refine z_getfI (k := 3) flRX11_407 rfl rfl dX11_dividend_6 ?_
  refine z_calls (as := [zi a1, zi 0, zi (σ 79 3)]) (st := []) mkX11_within lkRX11_111 rfl (by decide) (Nat.le_of_ble_eq_true rfl) rfl dX11_dividend_9 ?_
  refine SX11_within ?_
  show zR G MX11_dividend 12 [zr 0, zi a1] [zi (if (0 ≤ a1 ∧ a1 ≤ (σ 79 3)) then (1 : Int) else 0)] σ Q
  refine z_if_eq dX11_dividend_12 (tgt := 29) (by decide) (fun z => ?_) (fun z => ?_)
  · have h1 : ¬ ((0 ≤ a1 ∧ a1 ≤ (σ 79 3))) := zb0 z
    exact J29 (Or.inl h1)
  · have h1 : (0 ≤ a1 ∧ a1 ≤ (σ 79 3)) := zb1 z
    refine z_aload_n dX11_dividend_15 rfl rfl ?_
    refine z_getfR (k := 8) flRX11_77 rfl rfl dX11_dividend_16 ?_
    refine z_getfI (k := 6) flRX11_410 rfl rfl dX11_dividend_19 ?_
    refine z_aload_n dX11_dividend_22 rfl rfl ?_
    refine z_callv (as := []) (st := [zi (σ 79 6)]) mkX11_thisYear lkRX11_384 rfl rfl rfl (by decide) (Nat.le_of_ble_eq_true rfl) rfl dX11_dividend_23 ?_
    refine SX11_thisYear ?_
    show zR G MX11_dividend 26 [zr 0, zi a1] [zi (zdiv (σ 0 13) 365), zi (σ 79 6)] σ Q
    refine z_icmp_ne dX11_dividend_26 (tgt := 36) (by decide) (fun h2 => ?_) (fun h2 => ?_)
    · skip
      refine z_aload_n dX11_dividend_36 rfl rfl ?_
      refine z_getfR (k := 8) flRX11_77 rfl rfl dX11_dividend_37 ?_
      refine z_callv (as := []) (st := []) mkX0_isFull lkRX11_391 rfl rfl rfl (by decide) (Nat.le_of_ble_eq_true rfl) rfl dX11_dividend_40 ?_
      refine SX0_isFull ?_
      show zR G MX11_dividend 43 [zr 0, zi a1] [zi (if 400 ≤ σ 79 4 then (1 : Int) else 0)] σ Q
      refine z_if_eq dX11_dividend_43 (tgt := 53) (by decide) (fun z => ?_) (fun z => ?_)
      · have h3 : ¬ (400 ≤ σ 79 4) := zb0 z
        refine z_aload_n dX11_dividend_53 rfl rfl ?_
        refine z_getfR (k := 8) flRX11_77 rfl rfl dX11_dividend_54 ?_
        refine z_iload_n dX11_dividend_57 rfl rfl ?_
        refine z_aload_n dX11_dividend_58 rfl rfl ?_
        refine z_getfR (k := 4) flRX11_43 rfl rfl dX11_dividend_59 ?_
        refine z_iconst dX11_dividend_62 (by unfold zIn; decide) ?_
        refine z_callv (as := [zi 1]) (st := [zi a1, zr 79]) mkX6_holdersOf lkRX11_413 rfl rfl rfl (by decide) (Nat.le_of_ble_eq_true rfl) rfl dX11_dividend_63 (k1 h1 h2 h3)
      · have h3 : 400 ≤ σ 79 4 := zb1 z
        refine z_aload_n dX11_dividend_46 rfl rfl ?_
        refine z_bipush (x := (-7)) dX11_dividend_47 (by decide +kernel) (by unfold zIn; decide) ?_
        have s2 : -2147483648 ≤ -(-7) ∧ -(-7) < (2147483648 : Int) := k2 h1 h2 h3
        have s3 : (0 : Int) ≤ -(-7) ∧ -(-7) < (8 : Int) := k3 h1 h2 h3
        refine z_callv (as := [zi (-7)]) (st := []) mkX11_refuse lkRX11_132 rfl rfl rfl (by decide) (Nat.le_of_ble_eq_true rfl) rfl dX11_dividend_49 ?_
        refine SX11_refuse s2 s3 ?_
        show zR G MX11_dividend 52 [zr 0, zi a1] [zi (-7)] (zup σ 97 (-(-7)) (zW ((σ 97 (-(-7))) + 1))) Q
        exact z_ireti rfl dX11_dividend_52 (k4 h1 h2 h3)
    · skip
      exact J29 (Or.inr ⟨h1, h2⟩)
set_option maxRecDepth 20000 in
set_option maxHeartbeats 1000000 in
theorem TX11_dividend_66 {G : zG} {σ : zS} {Q : Int → zS → Prop} {v1 r t1 : Int}  (k1 : zO G MX0_part [zr 79, zi t1, zi r, zi (zdiv (σ 0 13) 365)] σ (fun rr σ' => zR G MX11_dividend 73 [zr 0, zi v1] [zi rr] σ' Q)) : zR G MX11_dividend 66 [zr 0, zi v1] [zi r, zi t1, zr 79] σ Q := by
  refine z_aload_n dX11_dividend_66 rfl rfl ?_
  refine z_callv (as := []) (st := [zi r, zi t1, zr 79]) mkX11_thisYear lkRX11_384 rfl rfl rfl (by decide) (Nat.le_of_ble_eq_true rfl) rfl dX11_dividend_67 ?_
  refine SX11_thisYear ?_
  show zR G MX11_dividend 70 [zr 0, zi v1] [zi (zdiv (σ 0 13) 365), zi r, zi t1, zr 79] σ Q
  refine z_callv (as := [zi t1, zi r, zi (zdiv (σ 0 13) 365)]) (st := []) mkX0_part lkRX11_416 rfl rfl rfl (by decide) (Nat.le_of_ble_eq_true rfl) rfl dX11_dividend_70 (k1)
set_option maxRecDepth 20000 in
set_option maxHeartbeats 1000000 in
theorem TX11_dividend_73 {G : zG} {σ : zS} {Q : Int → zS → Prop} {v1 r : Int}  (k1 : Q r σ) : zR G MX11_dividend 73 [zr 0, zi v1] [zi r] σ Q := by
  exact z_ireti rfl dX11_dividend_73 (k1)
