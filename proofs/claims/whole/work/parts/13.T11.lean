set_option maxRecDepth 20000 in
set_option maxHeartbeats 1000000 in
theorem TX12_holds {G : zG} {σ : zS} {Q : Int → zS → Prop} {a1 : Int}  (k1 : ((0 ≤ a1 ∧ a1 < 10)) → (0 : Int) ≤ a1 ∧ a1 < (10 : Int)) (k2 : ((0 ≤ a1 ∧ a1 < 10)) → (σ 111 a1 ≠ 0) → (σ 111 a1 ≠ 1) → Q (σ 114 a1) σ) (k3 : ((0 ≤ a1 ∧ a1 < 10)) → (σ 111 a1 ≠ 0) → (σ 111 a1 = 1) → -2147483648 ≤ 100 + σ 112 a1 ∧ 100 + σ 112 a1 < (2147483648 : Int)) (k4 : ((0 ≤ a1 ∧ a1 < 10)) → (σ 111 a1 ≠ 0) → (σ 111 a1 = 1) → Q (100 + σ 112 a1) σ) (k5 : ((¬ ((0 ≤ a1 ∧ a1 < 10))) ∨ (((0 ≤ a1 ∧ a1 < 10)) ∧ σ 111 a1 = 0)) → Q (-1) σ) : zO G MX12_holds [zr 98, zi a1] σ Q := by
  refine zO_of (ls0 := [zr 98, zi a1]) (by decide) (Nat.le_of_ble_eq_true rfl) rfl ?_
  have J16 : ((¬ ((0 ≤ a1 ∧ a1 < 10))) ∨ (((0 ≤ a1 ∧ a1 < 10)) ∧ σ 111 a1 = 0)) → zR G MX12_holds 16 [zr 98, zi a1] [] σ Q := by
    intro h4
    refine z_iconst dX12_holds_16 (by unfold zIn; decide) ?_
    exact z_ireti rfl dX12_holds_17 (k5 h4)
  refine z_iload_n dX12_holds_0 rfl rfl ?_
  refine z_calls (as := [zi a1]) (st := []) mkX12_isShelf lkRX12_293 rfl (by decide) (Nat.le_of_ble_eq_true rfl) rfl dX12_holds_1 ?_
  refine SX12_isShelf ?_
  show zR G MX12_holds 4 [zr 98, zi a1] [zi (if (0 ≤ a1 ∧ a1 < 10) then (1 : Int) else 0)] σ Q
  refine z_if_eq dX12_holds_4 (tgt := 16) (by decide) (fun z => ?_) (fun z => ?_)
  · have h1 : ¬ ((0 ≤ a1 ∧ a1 < 10)) := zb0 z
    exact J16 (Or.inl h1)
  · have h1 : (0 ≤ a1 ∧ a1 < 10) := zb1 z
    refine z_aload_n dX12_holds_7 rfl rfl ?_
    refine z_getfR (k := 25) flRX12_51 rfl rfl dX12_holds_8 ?_
    refine z_iload_n dX12_holds_11 rfl rfl ?_
    have s1 : (0 : Int) ≤ a1 ∧ a1 < (10 : Int) := k1 h1
    refine z_iald rfl s1.1 s1.2 dX12_holds_12 ?_
    refine z_if_ne dX12_holds_13 (tgt := 18) (by decide) (fun h2 => ?_) (fun h2 => ?_)
    · skip
      refine z_aload_n dX12_holds_18 rfl rfl ?_
      refine z_getfR (k := 25) flRX12_51 rfl rfl dX12_holds_19 ?_
      refine z_iload_n dX12_holds_22 rfl rfl ?_
      refine z_iald rfl s1.1 s1.2 dX12_holds_23 ?_
      refine z_iconst dX12_holds_24 (by unfold zIn; decide) ?_
      refine z_icmp_ne dX12_holds_25 (tgt := 40) (by decide) (fun h3 => ?_) (fun h3 => ?_)
      · skip
        refine z_aload_n dX12_holds_40 rfl rfl ?_
        refine z_getfR (k := 28) flRX12_60 rfl rfl dX12_holds_41 ?_
        refine z_iload_n dX12_holds_44 rfl rfl ?_
        refine z_iald rfl s1.1 s1.2 dX12_holds_45 ?_
        exact z_ireti rfl dX12_holds_46 (k2 h1 h2 h3)
      · skip
        refine z_bipush (x := 100) dX12_holds_28 (by decide +kernel) (by unfold zIn; decide) ?_
        refine z_aload_n dX12_holds_30 rfl rfl ?_
        refine z_getfR (k := 26) flRX12_54 rfl rfl dX12_holds_31 ?_
        refine z_iload_n dX12_holds_34 rfl rfl ?_
        refine z_iald rfl s1.1 s1.2 dX12_holds_35 ?_
        have s3 : -2147483648 ≤ 100 + σ 112 a1 ∧ 100 + σ 112 a1 < (2147483648 : Int) := k3 h1 h2 h3
        refine z_iaddN dX12_holds_36 s3 ?_
        refine z_goto dX12_holds_37 (tgt := 46) (by decide) ?_
        exact z_ireti rfl dX12_holds_46 (k4 h1 h2 h3)
    · skip
      exact J16 (Or.inr ⟨h1, h2⟩)
set_option maxRecDepth 20000 in
set_option maxHeartbeats 1000000 in
theorem TX12_bornIn {G : zG} {σ : zS} {Q : Int → zS → Prop} {a1 : Int}  (k1 : ((0 ≤ a1 ∧ a1 < 10)) → (0 : Int) ≤ a1 ∧ a1 < (10 : Int)) (k2 : ((0 ≤ a1 ∧ a1 < 10)) → (σ 111 a1 ≠ 1) → (σ 111 a1 ≠ 0) → (0 : Int) ≤ σ 114 a1 ∧ σ 114 a1 < (24 : Int)) (k3 : ((0 ≤ a1 ∧ a1 < 10)) → (σ 111 a1 ≠ 1) → (σ 111 a1 ≠ 0) → Q (σ 99 (σ 114 a1)) σ) (k4 : ((0 ≤ a1 ∧ a1 < 10)) → (σ 111 a1 ≠ 1) → (σ 111 a1 = 0) → -2147483648 ≤ -(-3) ∧ -(-3) < (2147483648 : Int)) (k5 : ((0 ≤ a1 ∧ a1 < 10)) → (σ 111 a1 ≠ 1) → (σ 111 a1 = 0) → (0 : Int) ≤ -(-3) ∧ -(-3) < (8 : Int)) (k6 : ((0 ≤ a1 ∧ a1 < 10)) → (σ 111 a1 ≠ 1) → (σ 111 a1 = 0) → -2147483648 ≤ (-3) - 1000000 ∧ (-3) - 1000000 < (2147483648 : Int)) (k7 : ((0 ≤ a1 ∧ a1 < 10)) → (σ 111 a1 ≠ 1) → (σ 111 a1 = 0) → Q ((-3) - 1000000) (zup σ 157 (-(-3)) (zW ((σ 157 (-(-3))) + 1)))) (k8 : ((0 ≤ a1 ∧ a1 < 10)) → (σ 111 a1 = 1) → -2147483648 ≤ -(-2) ∧ -(-2) < (2147483648 : Int)) (k9 : ((0 ≤ a1 ∧ a1 < 10)) → (σ 111 a1 = 1) → (0 : Int) ≤ -(-2) ∧ -(-2) < (8 : Int)) (k10 : ((0 ≤ a1 ∧ a1 < 10)) → (σ 111 a1 = 1) → -2147483648 ≤ (-2) - 1000000 ∧ (-2) - 1000000 < (2147483648 : Int)) (k11 : ((0 ≤ a1 ∧ a1 < 10)) → (σ 111 a1 = 1) → Q ((-2) - 1000000) (zup σ 157 (-(-2)) (zW ((σ 157 (-(-2))) + 1)))) (k12 : (¬ ((0 ≤ a1 ∧ a1 < 10))) → -2147483648 ≤ -(-1) ∧ -(-1) < (2147483648 : Int)) (k13 : (¬ ((0 ≤ a1 ∧ a1 < 10))) → (0 : Int) ≤ -(-1) ∧ -(-1) < (8 : Int)) (k14 : (¬ ((0 ≤ a1 ∧ a1 < 10))) → -2147483648 ≤ (-1) - 1000000 ∧ (-1) - 1000000 < (2147483648 : Int)) (k15 : (¬ ((0 ≤ a1 ∧ a1 < 10))) → Q ((-1) - 1000000) (zup σ 157 (-(-1)) (zW ((σ 157 (-(-1))) + 1)))) : zO G MX12_bornIn [zr 98, zi a1] σ Q := by
  refine zO_of (ls0 := [zr 98, zi a1, zu]) (by decide) (Nat.le_of_ble_eq_true rfl) rfl ?_
  refine z_iload_n dX12_bornIn_0 rfl rfl ?_
  refine z_calls (as := [zi a1]) (st := []) mkX12_isShelf lkRX12_293 rfl (by decide) (Nat.le_of_ble_eq_true rfl) rfl dX12_bornIn_1 ?_
  refine SX12_isShelf ?_
  show zR G MX12_bornIn 4 [zr 98, zi a1, zu] [zi (if (0 ≤ a1 ∧ a1 < 10) then (1 : Int) else 0)] σ Q
  refine z_if_ne dX12_bornIn_4 (tgt := 11) (by decide) (fun z => ?_) (fun z => ?_)
  · have h1 : (0 ≤ a1 ∧ a1 < 10) := zb1 z
    refine z_aload_n dX12_bornIn_11 rfl rfl ?_
    refine z_getfR (k := 25) flRX12_51 rfl rfl dX12_bornIn_12 ?_
    refine z_iload_n dX12_bornIn_15 rfl rfl ?_
    have s1 : (0 : Int) ≤ a1 ∧ a1 < (10 : Int) := k1 h1
    refine z_iald rfl s1.1 s1.2 dX12_bornIn_16 ?_
    refine z_iconst dX12_bornIn_17 (by unfold zIn; decide) ?_
    refine z_icmp_ne dX12_bornIn_18 (tgt := 26) (by decide) (fun h2 => ?_) (fun h2 => ?_)
    · skip
      refine z_aload_n dX12_bornIn_26 rfl rfl ?_
      refine z_getfR (k := 25) flRX12_51 rfl rfl dX12_bornIn_27 ?_
      refine z_iload_n dX12_bornIn_30 rfl rfl ?_
      refine z_iald rfl s1.1 s1.2 dX12_bornIn_31 ?_
      refine z_if_ne dX12_bornIn_32 (tgt := 40) (by decide) (fun h3 => ?_) (fun h3 => ?_)
      · skip
        refine z_iconst dX12_bornIn_40 (by unfold zIn; decide) ?_
        refine z_istore_n (ls' := [zr 98, zi a1, zi 0]) dX12_bornIn_41 rfl (by decide) rfl ?_
        refine z_iload_n dX12_bornIn_42 rfl rfl ?_
        refine z_if_eq dX12_bornIn_43 (tgt := 58) (by decide) (fun z => ?_) (fun z => absurd z (by decide))
        refine z_aload_n dX12_bornIn_58 rfl rfl ?_
        refine z_getfR (k := 13) flRX12_13 rfl rfl dX12_bornIn_59 ?_
        refine z_aload_n dX12_bornIn_62 rfl rfl ?_
        refine z_getfR (k := 28) flRX12_60 rfl rfl dX12_bornIn_63 ?_
        refine z_iload_n dX12_bornIn_66 rfl rfl ?_
        refine z_iald rfl s1.1 s1.2 dX12_bornIn_67 ?_
        have s2 : (0 : Int) ≤ σ 114 a1 ∧ σ 114 a1 < (24 : Int) := k2 h1 h2 h3
        refine z_iald rfl s2.1 s2.2 dX12_bornIn_68 ?_
        exact z_ireti rfl dX12_bornIn_69 (k3 h1 h2 h3)
      · skip
        refine z_bipush (x := (-3)) dX12_bornIn_35 (by decide +kernel) (by unfold zIn; decide) ?_
        refine z_goto dX12_bornIn_37 (tgt := 41) (by decide) ?_
        refine z_istore_n (ls' := [zr 98, zi a1, zi (-3)]) dX12_bornIn_41 rfl (by decide) rfl ?_
        refine z_iload_n dX12_bornIn_42 rfl rfl ?_
        refine z_if_eq dX12_bornIn_43 (tgt := 58) (by decide) (fun z => absurd z (by decide)) (fun z => ?_)
        refine z_aload_n dX12_bornIn_46 rfl rfl ?_
        refine z_iload_n dX12_bornIn_47 rfl rfl ?_
        have s4 : -2147483648 ≤ -(-3) ∧ -(-3) < (2147483648 : Int) := k4 h1 h2 h3
        have s5 : (0 : Int) ≤ -(-3) ∧ -(-3) < (8 : Int) := k5 h1 h2 h3
        refine z_callv (as := [zi (-3)]) (st := []) mkX12_no lkRX12_267 rfl rfl rfl (by decide) (Nat.le_of_ble_eq_true rfl) rfl dX12_bornIn_48 ?_
        refine SX12_no s4 s5 ?_
        show zR G MX12_bornIn 51 [zr 98, zi a1, zi (-3)] [zi (-3)] (zup σ 157 (-(-3)) (zW ((σ 157 (-(-3))) + 1))) Q
        refine z_ldcw (x := 1000000) (zin_8 (List.mem_of_getElem? (i := 42) (by decide +kernel))) (by unfold zIn; decide) dX12_bornIn_51 ?_
        have s6 : -2147483648 ≤ (-3) - 1000000 ∧ (-3) - 1000000 < (2147483648 : Int) := k6 h1 h2 h3
        refine z_isubN dX12_bornIn_54 s6 ?_
        refine z_goto dX12_bornIn_55 (tgt := 69) (by decide) ?_
        exact z_ireti rfl dX12_bornIn_69 (k7 h1 h2 h3)
    · skip
      refine z_bipush (x := (-2)) dX12_bornIn_21 (by decide +kernel) (by unfold zIn; decide) ?_
      refine z_goto dX12_bornIn_23 (tgt := 41) (by decide) ?_
      refine z_istore_n (ls' := [zr 98, zi a1, zi (-2)]) dX12_bornIn_41 rfl (by decide) rfl ?_
      refine z_iload_n dX12_bornIn_42 rfl rfl ?_
      refine z_if_eq dX12_bornIn_43 (tgt := 58) (by decide) (fun z => absurd z (by decide)) (fun z => ?_)
      refine z_aload_n dX12_bornIn_46 rfl rfl ?_
      refine z_iload_n dX12_bornIn_47 rfl rfl ?_
      have s8 : -2147483648 ≤ -(-2) ∧ -(-2) < (2147483648 : Int) := k8 h1 h2
      have s9 : (0 : Int) ≤ -(-2) ∧ -(-2) < (8 : Int) := k9 h1 h2
      refine z_callv (as := [zi (-2)]) (st := []) mkX12_no lkRX12_267 rfl rfl rfl (by decide) (Nat.le_of_ble_eq_true rfl) rfl dX12_bornIn_48 ?_
      refine SX12_no s8 s9 ?_
      show zR G MX12_bornIn 51 [zr 98, zi a1, zi (-2)] [zi (-2)] (zup σ 157 (-(-2)) (zW ((σ 157 (-(-2))) + 1))) Q
      refine z_ldcw (x := 1000000) (zin_8 (List.mem_of_getElem? (i := 42) (by decide +kernel))) (by unfold zIn; decide) dX12_bornIn_51 ?_
      have s10 : -2147483648 ≤ (-2) - 1000000 ∧ (-2) - 1000000 < (2147483648 : Int) := k10 h1 h2
      refine z_isubN dX12_bornIn_54 s10 ?_
      refine z_goto dX12_bornIn_55 (tgt := 69) (by decide) ?_
      exact z_ireti rfl dX12_bornIn_69 (k11 h1 h2)
  · have h1 : ¬ ((0 ≤ a1 ∧ a1 < 10)) := zb0 z
    refine z_iconst dX12_bornIn_7 (by unfold zIn; decide) ?_
    refine z_goto dX12_bornIn_8 (tgt := 41) (by decide) ?_
    refine z_istore_n (ls' := [zr 98, zi a1, zi (-1)]) dX12_bornIn_41 rfl (by decide) rfl ?_
    refine z_iload_n dX12_bornIn_42 rfl rfl ?_
    refine z_if_eq dX12_bornIn_43 (tgt := 58) (by decide) (fun z => absurd z (by decide)) (fun z => ?_)
    refine z_aload_n dX12_bornIn_46 rfl rfl ?_
    refine z_iload_n dX12_bornIn_47 rfl rfl ?_
    have s12 : -2147483648 ≤ -(-1) ∧ -(-1) < (2147483648 : Int) := k12 h1
    have s13 : (0 : Int) ≤ -(-1) ∧ -(-1) < (8 : Int) := k13 h1
    refine z_callv (as := [zi (-1)]) (st := []) mkX12_no lkRX12_267 rfl rfl rfl (by decide) (Nat.le_of_ble_eq_true rfl) rfl dX12_bornIn_48 ?_
    refine SX12_no s12 s13 ?_
    show zR G MX12_bornIn 51 [zr 98, zi a1, zi (-1)] [zi (-1)] (zup σ 157 (-(-1)) (zW ((σ 157 (-(-1))) + 1))) Q
    refine z_ldcw (x := 1000000) (zin_8 (List.mem_of_getElem? (i := 42) (by decide +kernel))) (by unfold zIn; decide) dX12_bornIn_51 ?_
    have s14 : -2147483648 ≤ (-1) - 1000000 ∧ (-1) - 1000000 < (2147483648 : Int) := k14 h1
    refine z_isubN dX12_bornIn_54 s14 ?_
    refine z_goto dX12_bornIn_55 (tgt := 69) (by decide) ?_
    exact z_ireti rfl dX12_bornIn_69 (k15 h1)
set_option maxRecDepth 20000 in
set_option maxHeartbeats 1000000 in
theorem TX12_wants {G : zG} {σ : zS} {Q : Int → zS → Prop} {a1 : Int}  (k1 : ((0 ≤ a1 ∧ a1 < 10)) → (0 : Int) ≤ a1 ∧ a1 < (10 : Int)) (k2 : ((0 ≤ a1 ∧ a1 < 10)) → (σ 111 a1 ≠ 2) → (σ 111 a1 ≠ 0) → Q 0 σ) (k3 : ((0 ≤ a1 ∧ a1 < 10)) → (σ 111 a1 ≠ 2) → (σ 111 a1 = 0) → Q (-3) σ) (k4 : ((0 ≤ a1 ∧ a1 < 10)) → (σ 111 a1 = 2) → Q (-2) σ) (k5 : (¬ ((0 ≤ a1 ∧ a1 < 10))) → Q (-1) σ) : zO G MX12_wants [zr 98, zi a1] σ Q := by
  refine zO_of (ls0 := [zr 98, zi a1]) (by decide) (Nat.le_of_ble_eq_true rfl) rfl ?_
  refine z_iload_n dX12_wants_0 rfl rfl ?_
  refine z_calls (as := [zi a1]) (st := []) mkX12_isShelf lkRX12_293 rfl (by decide) (Nat.le_of_ble_eq_true rfl) rfl dX12_wants_1 ?_
  refine SX12_isShelf ?_
  show zR G MX12_wants 4 [zr 98, zi a1] [zi (if (0 ≤ a1 ∧ a1 < 10) then (1 : Int) else 0)] σ Q
  refine z_if_ne dX12_wants_4 (tgt := 11) (by decide) (fun z => ?_) (fun z => ?_)
  · have h1 : (0 ≤ a1 ∧ a1 < 10) := zb1 z
    refine z_aload_n dX12_wants_11 rfl rfl ?_
    refine z_getfR (k := 25) flRX12_51 rfl rfl dX12_wants_12 ?_
    refine z_iload_n dX12_wants_15 rfl rfl ?_
    have s1 : (0 : Int) ≤ a1 ∧ a1 < (10 : Int) := k1 h1
    refine z_iald rfl s1.1 s1.2 dX12_wants_16 ?_
    refine z_iconst dX12_wants_17 (by unfold zIn; decide) ?_
    refine z_icmp_ne dX12_wants_18 (tgt := 26) (by decide) (fun h2 => ?_) (fun h2 => ?_)
    · skip
      refine z_aload_n dX12_wants_26 rfl rfl ?_
      refine z_getfR (k := 25) flRX12_51 rfl rfl dX12_wants_27 ?_
      refine z_iload_n dX12_wants_30 rfl rfl ?_
      refine z_iald rfl s1.1 s1.2 dX12_wants_31 ?_
      refine z_if_ne dX12_wants_32 (tgt := 40) (by decide) (fun h3 => ?_) (fun h3 => ?_)
      · skip
        refine z_iconst dX12_wants_40 (by unfold zIn; decide) ?_
        exact z_ireti rfl dX12_wants_41 (k2 h1 h2 h3)
      · skip
        refine z_bipush (x := (-3)) dX12_wants_35 (by decide +kernel) (by unfold zIn; decide) ?_
        refine z_goto dX12_wants_37 (tgt := 41) (by decide) ?_
        exact z_ireti rfl dX12_wants_41 (k3 h1 h2 h3)
    · skip
      refine z_bipush (x := (-2)) dX12_wants_21 (by decide +kernel) (by unfold zIn; decide) ?_
      refine z_goto dX12_wants_23 (tgt := 41) (by decide) ?_
      exact z_ireti rfl dX12_wants_41 (k4 h1 h2)
  · have h1 : ¬ ((0 ≤ a1 ∧ a1 < 10)) := zb0 z
    refine z_iconst dX12_wants_7 (by unfold zIn; decide) ?_
    refine z_goto dX12_wants_8 (tgt := 41) (by decide) ?_
    exact z_ireti rfl dX12_wants_41 (k5 h1)
set_option maxRecDepth 20000 in
set_option maxHeartbeats 1000000 in
theorem TX12_statute {G : zG} {σ : zS} {Q : Int → zS → Prop} {a1 a2 : Int}  (k1 : ((0 ≤ a1 ∧ a1 < 4)) → zO G MX12_wants [zr 98, zi a2] σ (fun rr σ' => zR G MX12_statute 18 [zr 98, zi a1, zi a2, zu, zu] [zi rr] σ' Q)) (k2 : (¬ ((0 ≤ a1 ∧ a1 < 4))) → -2147483648 ≤ -(-1) ∧ -(-1) < (2147483648 : Int)) (k3 : (¬ ((0 ≤ a1 ∧ a1 < 4))) → (0 : Int) ≤ -(-1) ∧ -(-1) < (8 : Int)) (k4 : (¬ ((0 ≤ a1 ∧ a1 < 4))) → Q (-1) (zup σ 157 (-(-1)) (zW ((σ 157 (-(-1))) + 1)))) : zO G MX12_statute [zr 98, zi a1, zi a2] σ Q := by
  refine zO_of (ls0 := [zr 98, zi a1, zi a2, zu, zu]) (by decide) (Nat.le_of_ble_eq_true rfl) rfl ?_
  refine z_iload_n dX12_statute_0 rfl rfl ?_
  refine z_calls (as := [zi a1]) (st := []) mkX12_isStatute lkRX12_297 rfl (by decide) (Nat.le_of_ble_eq_true rfl) rfl dX12_statute_1 ?_
  refine SX12_isStatute ?_
  show zR G MX12_statute 4 [zr 98, zi a1, zi a2, zu, zu] [zi (if (0 ≤ a1 ∧ a1 < 4) then (1 : Int) else 0)] σ Q
  refine z_if_ne dX12_statute_4 (tgt := 13) (by decide) (fun z => ?_) (fun z => ?_)
  · have h1 : (0 ≤ a1 ∧ a1 < 4) := zb1 z
    refine z_aload_n dX12_statute_13 rfl rfl ?_
    refine z_iload_n dX12_statute_14 rfl rfl ?_
    refine z_callv (as := [zi a2]) (st := []) mkX12_wants lkRX12_300 rfl rfl rfl (by decide) (Nat.le_of_ble_eq_true rfl) rfl dX12_statute_15 (k1 h1)
  · have h1 : ¬ ((0 ≤ a1 ∧ a1 < 4)) := zb0 z
    refine z_aload_n dX12_statute_7 rfl rfl ?_
    refine z_iconst dX12_statute_8 (by unfold zIn; decide) ?_
    have s2 : -2147483648 ≤ -(-1) ∧ -(-1) < (2147483648 : Int) := k2 h1
    have s3 : (0 : Int) ≤ -(-1) ∧ -(-1) < (8 : Int) := k3 h1
    refine z_callv (as := [zi (-1)]) (st := []) mkX12_no lkRX12_267 rfl rfl rfl (by decide) (Nat.le_of_ble_eq_true rfl) rfl dX12_statute_9 ?_
    refine SX12_no s2 s3 ?_
    show zR G MX12_statute 12 [zr 98, zi a1, zi a2, zu, zu] [zi (-1)] (zup σ 157 (-(-1)) (zW ((σ 157 (-(-1))) + 1))) Q
    exact z_ireti rfl dX12_statute_12 (k4 h1)
set_option maxRecDepth 20000 in
set_option maxHeartbeats 1000000 in
theorem TX12_statute_18 {G : zG} {σ : zS} {Q : Int → zS → Prop} {v1 v2 r : Int}  (k1 : (r = 0) → (0 : Int) ≤ v1 ∧ v1 < (4 : Int)) (k2 : (r = 0) → (σ 161 v1 = 0) → (0 : Int) ≤ v2 ∧ v2 < (10 : Int)) (k3 : (r = 0) → (σ 161 v1 = 0) → (σ 113 v2 ≠ 0) → zR G MX12_statute 76 [zr 98, zi v1, zi v2, zi r, zi 0] [] (zup (zup σ 161 v1 1) 118 v1 (σ 113 v2)) Q) (k4 : (r ≠ 0) → -2147483648 ≤ -r ∧ -r < (2147483648 : Int)) (k5 : (r ≠ 0) → (0 : Int) ≤ -r ∧ -r < (8 : Int)) (k6 : (r ≠ 0) → Q r (zup σ 157 (-r) (zW ((σ 157 (-r)) + 1)))) (k7 : (r = 0) → (σ 161 v1 ≠ 0 ∨ (σ 161 v1 = 0 ∧ σ 113 v2 = 0)) → -2147483648 ≤ -(-6) ∧ -(-6) < (2147483648 : Int)) (k8 : (r = 0) → (σ 161 v1 ≠ 0 ∨ (σ 161 v1 = 0 ∧ σ 113 v2 = 0)) → (0 : Int) ≤ -(-6) ∧ -(-6) < (8 : Int)) (k9 : (r = 0) → (σ 161 v1 ≠ 0 ∨ (σ 161 v1 = 0 ∧ σ 113 v2 = 0)) → Q (-6) (zup σ 157 (-(-6)) (zW ((σ 157 (-(-6))) + 1)))) : zR G MX12_statute 18 [zr 98, zi v1, zi v2, zu, zu] [zi r] σ Q := by
  have J47 : (r = 0) → (σ 161 v1 ≠ 0 ∨ (σ 161 v1 = 0 ∧ σ 113 v2 = 0)) → zR G MX12_statute 47 [zr 98, zi v1, zi v2, zi r, zu] [] σ Q := by
    intro h1 h4
    refine z_aload_n dX12_statute_47 rfl rfl ?_
    refine z_bipush (x := (-6)) dX12_statute_48 (by decide +kernel) (by unfold zIn; decide) ?_
    have s7 : -2147483648 ≤ -(-6) ∧ -(-6) < (2147483648 : Int) := k7 h1 h4
    have s8 : (0 : Int) ≤ -(-6) ∧ -(-6) < (8 : Int) := k8 h1 h4
    refine z_callv (as := [zi (-6)]) (st := []) mkX12_no lkRX12_267 rfl rfl rfl (by decide) (Nat.le_of_ble_eq_true rfl) rfl dX12_statute_50 ?_
    refine SX12_no s7 s8 ?_
    show zR G MX12_statute 53 [zr 98, zi v1, zi v2, zi r, zu] [zi (-6)] (zup σ 157 (-(-6)) (zW ((σ 157 (-(-6))) + 1))) Q
    exact z_ireti rfl dX12_statute_53 (k9 h1 h4)
  refine z_istore_n (ls' := [zr 98, zi v1, zi v2, zi r, zu]) dX12_statute_18 rfl (by decide) rfl ?_
  refine z_iload_n dX12_statute_19 rfl rfl ?_
  refine z_if_eq dX12_statute_20 (tgt := 29) (by decide) (fun h1 => ?_) (fun h1 => ?_)
  · skip
    refine z_aload_n dX12_statute_29 rfl rfl ?_
    refine z_getfR (k := 77) flRX12_202 rfl rfl dX12_statute_30 ?_
    refine z_iload_n dX12_statute_33 rfl rfl ?_
    have s1 : (0 : Int) ≤ v1 ∧ v1 < (4 : Int) := k1 h1
    refine z_bald rfl s1.1 s1.2 dX12_statute_34 ?_
    refine z_if_ne dX12_statute_35 (tgt := 47) (by decide) (fun h2 => ?_) (fun h2 => ?_)
    · skip
      exact J47 h1 (Or.inl h2)
    · skip
      refine z_aload_n dX12_statute_38 rfl rfl ?_
      refine z_getfR (k := 27) flRX12_57 rfl rfl dX12_statute_39 ?_
      refine z_iload_n dX12_statute_42 rfl rfl ?_
      have s2 : (0 : Int) ≤ v2 ∧ v2 < (10 : Int) := k2 h1 h2
      refine z_iald rfl s2.1 s2.2 dX12_statute_43 ?_
      refine z_if_ne dX12_statute_44 (tgt := 54) (by decide) (fun h3 => ?_) (fun h3 => ?_)
      · skip
        refine z_aload_n dX12_statute_54 rfl rfl ?_
        refine z_getfR (k := 77) flRX12_202 rfl rfl dX12_statute_55 ?_
        refine z_iload_n dX12_statute_58 rfl rfl ?_
        refine z_iconst dX12_statute_59 (by unfold zIn; decide) ?_
        refine z_bast rfl s1.1 s1.2 (by decide) dX12_statute_60 ?_
        refine z_aload_n dX12_statute_61 rfl rfl ?_
        refine z_getfR (k := 32) flRX12_73 rfl rfl dX12_statute_62 ?_
        refine z_iload_n dX12_statute_65 rfl rfl ?_
        refine z_aload_n dX12_statute_66 rfl rfl ?_
        refine z_getfR (k := 27) flRX12_57 rfl rfl dX12_statute_67 ?_
        refine z_iload_n dX12_statute_70 rfl rfl ?_
        refine z_ialdE (v := σ 113 v2) rfl s2.1 s2.2 (zup_of (by decide)) dX12_statute_71 ?_
        refine z_iast rfl s1.1 s1.2 dX12_statute_72 ?_
        refine z_iconst dX12_statute_73 (by unfold zIn; decide) ?_
        refine z_istore (ls' := [zr 98, zi v1, zi v2, zi r, zi 0]) dX12_statute_74 (by decide) rfl ?_
        exact k3 h1 h2 h3
      · skip
        exact J47 h1 (Or.inr ⟨h2, h3⟩)
  · skip
    refine z_aload_n dX12_statute_23 rfl rfl ?_
    refine z_iload_n dX12_statute_24 rfl rfl ?_
    have s4 : -2147483648 ≤ -r ∧ -r < (2147483648 : Int) := k4 h1
    have s5 : (0 : Int) ≤ -r ∧ -r < (8 : Int) := k5 h1
    refine z_callv (as := [zi r]) (st := []) mkX12_no lkRX12_267 rfl rfl rfl (by decide) (Nat.le_of_ble_eq_true rfl) rfl dX12_statute_25 ?_
    refine SX12_no s4 s5 ?_
    show zR G MX12_statute 28 [zr 98, zi v1, zi v2, zi r, zu] [zi r] (zup σ 157 (-r) (zW ((σ 157 (-r)) + 1))) Q
    exact z_ireti rfl dX12_statute_28 (k6 h1)
set_option maxRecDepth 20000 in
set_option maxHeartbeats 1000000 in
theorem TX12_statute_76 {G : zG} {σ : zS} {Q : Int → zS → Prop} {v1 v2 v3 v4 : Int}  (k1 : (0 : Int) ≤ v2 ∧ v2 < (10 : Int)) (k2 : (σ 113 v2 ≤ v4) → Q (σ 113 v2) σ) (k3 : (v4 < σ 113 v2) → -2147483648 ≤ 80 * v1 ∧ 80 * v1 < (2147483648 : Int)) (k4 : (v4 < σ 113 v2) → -2147483648 ≤ (80 * v1) + v4 ∧ (80 * v1) + v4 < (2147483648 : Int)) (k5 : (v4 < σ 113 v2) → -2147483648 ≤ 80 * v2 ∧ 80 * v2 < (2147483648 : Int)) (k6 : (v4 < σ 113 v2) → -2147483648 ≤ (80 * v2) + v4 ∧ (80 * v2) + v4 < (2147483648 : Int)) (k7 : (v4 < σ 113 v2) → (0 : Int) ≤ (80 * v2) + v4 ∧ (80 * v2) + v4 < (800 : Int)) (k8 : (v4 < σ 113 v2) → (0 : Int) ≤ (80 * v1) + v4 ∧ (80 * v1) + v4 < (320 : Int)) (k9 : (v4 < σ 113 v2) → -2147483648 ≤ v4 + 1 ∧ v4 + 1 < (2147483648 : Int)) (k10 : (v4 < σ 113 v2) → zR G MX12_statute 76 [zr 98, zi v1, zi v2, zi v3, zi (v4 + 1)] [] (zup σ 117 ((80 * v1) + v4) (zW (σ 115 ((80 * v2) + v4)))) Q) : zR G MX12_statute 76 [zr 98, zi v1, zi v2, zi v3, zi v4] [] σ Q := by
  refine z_iload dX12_statute_76 rfl ?_
  refine z_aload_n dX12_statute_78 rfl rfl ?_
  refine z_getfR (k := 27) flRX12_57 rfl rfl dX12_statute_79 ?_
  refine z_iload_n dX12_statute_82 rfl rfl ?_
  have s1 : (0 : Int) ≤ v2 ∧ v2 < (10 : Int) := k1
  refine z_iald rfl s1.1 s1.2 dX12_statute_83 ?_
  refine z_icmp_ge dX12_statute_84 (tgt := 118) (by decide) (fun h1 => ?_) (fun h1 => ?_)
  · skip
    refine z_aload_n dX12_statute_118 rfl rfl ?_
    refine z_getfR (k := 27) flRX12_57 rfl rfl dX12_statute_119 ?_
    refine z_iload_n dX12_statute_122 rfl rfl ?_
    refine z_iald rfl s1.1 s1.2 dX12_statute_123 ?_
    exact z_ireti rfl dX12_statute_124 (k2 h1)
  · skip
    refine z_aload_n dX12_statute_87 rfl rfl ?_
    refine z_getfR (k := 31) flRX12_70 rfl rfl dX12_statute_88 ?_
    refine z_bipush (x := 80) dX12_statute_91 (by decide +kernel) (by unfold zIn; decide) ?_
    refine z_iload_n dX12_statute_93 rfl rfl ?_
    have s3 : -2147483648 ≤ 80 * v1 ∧ 80 * v1 < (2147483648 : Int) := k3 h1
    refine z_imulN dX12_statute_94 s3 ?_
    refine z_iload dX12_statute_95 rfl ?_
    have s4 : -2147483648 ≤ (80 * v1) + v4 ∧ (80 * v1) + v4 < (2147483648 : Int) := k4 h1
    refine z_iaddN dX12_statute_97 s4 ?_
    refine z_aload_n dX12_statute_98 rfl rfl ?_
    refine z_getfR (k := 29) flRX12_63 rfl rfl dX12_statute_99 ?_
    refine z_bipush (x := 80) dX12_statute_102 (by decide +kernel) (by unfold zIn; decide) ?_
    refine z_iload_n dX12_statute_104 rfl rfl ?_
    have s5 : -2147483648 ≤ 80 * v2 ∧ 80 * v2 < (2147483648 : Int) := k5 h1
    refine z_imulN dX12_statute_105 s5 ?_
    refine z_iload dX12_statute_106 rfl ?_
    have s6 : -2147483648 ≤ (80 * v2) + v4 ∧ (80 * v2) + v4 < (2147483648 : Int) := k6 h1
    refine z_iaddN dX12_statute_108 s6 ?_
    have s7 : (0 : Int) ≤ (80 * v2) + v4 ∧ (80 * v2) + v4 < (800 : Int) := k7 h1
    refine z_lald rfl s7.1 s7.2 dX12_statute_109 ?_
    refine z_l2i dX12_statute_110 ?_
    have s8 : (0 : Int) ≤ (80 * v1) + v4 ∧ (80 * v1) + v4 < (320 : Int) := k8 h1
    refine z_iast rfl s8.1 s8.2 dX12_statute_111 ?_
    have s9 : -2147483648 ≤ v4 + 1 ∧ v4 + 1 < (2147483648 : Int) := k9 h1
    refine z_iincN (ls' := [zr 98, zi v1, zi v2, zi v3, zi (v4 + 1)]) dX12_statute_112 rfl (by decide) s9 rfl ?_
    refine z_goto dX12_statute_115 (tgt := 76) (by decide) ?_
    exact k10 h1
set_option maxRecDepth 20000 in
set_option maxHeartbeats 1000000 in
theorem TX12_amend {G : zG} {σ : zS} {Q : Int → zS → Prop} {a1 a2 a3 a4 : Int}  (k1 : ((0 ≤ a1 ∧ a1 < 4)) → ((0 ≤ a2 ∧ a2 < 10)) → ((0 ≤ a3 ∧ a3 < 10)) → (0 : Int) ≤ a2 ∧ a2 < (10 : Int)) (k2 : ((0 ≤ a1 ∧ a1 < 4)) → ((0 ≤ a2 ∧ a2 < 10)) → ((0 ≤ a3 ∧ a3 < 10)) → (σ 111 a2 ≠ 2) → (0 : Int) ≤ a3 ∧ a3 < (10 : Int)) (k3 : ((0 ≤ a1 ∧ a1 < 4)) → ((0 ≤ a2 ∧ a2 < 10)) → ((0 ≤ a3 ∧ a3 < 10)) → (σ 111 a2 ≠ 2) → (σ 111 a3 ≠ 2) → (σ 111 a2 ≠ 0) → (σ 111 a3 ≠ 0) → (0 ≤ a4) → (a4 ≤ 40000) → (σ 113 a2 ≠ 0) → (σ 113 a3 ≠ 0) → (σ 98 3 ≠ 12) → (0 : Int) ≤ σ 98 3 ∧ σ 98 3 < (12 : Int)) (k4 : ((0 ≤ a1 ∧ a1 < 4)) → ((0 ≤ a2 ∧ a2 < 10)) → ((0 ≤ a3 ∧ a3 < 10)) → (σ 111 a2 ≠ 2) → (σ 111 a3 ≠ 2) → (σ 111 a2 ≠ 0) → (σ 111 a3 ≠ 0) → (0 ≤ a4) → (a4 ≤ 40000) → (σ 113 a2 ≠ 0) → (σ 113 a3 ≠ 0) → (σ 98 3 ≠ 12) → zR G MX12_amend 196 [zr 98, zi a1, zi a2, zi a3, zi a4, zi (σ 98 3), zi 0] [] (zup (zup (zup (zup (zup σ 119 (σ 98 3) a1) 120 (σ 98 3) a4) 121 (σ 98 3) (σ 98 0)) 122 (σ 98 3) (σ 113 a2)) 123 (σ 98 3) (σ 113 a3)) Q) (k5 : ((0 ≤ a1 ∧ a1 < 4)) → ((0 ≤ a2 ∧ a2 < 10)) → ((0 ≤ a3 ∧ a3 < 10)) → (σ 111 a2 ≠ 2) → (σ 111 a3 ≠ 2) → (σ 111 a2 ≠ 0) → (σ 111 a3 ≠ 0) → (0 ≤ a4) → (a4 ≤ 40000) → (σ 113 a2 ≠ 0) → (σ 113 a3 ≠ 0) → (σ 98 3 = 12) → -2147483648 ≤ -(-7) ∧ -(-7) < (2147483648 : Int)) (k6 : ((0 ≤ a1 ∧ a1 < 4)) → ((0 ≤ a2 ∧ a2 < 10)) → ((0 ≤ a3 ∧ a3 < 10)) → (σ 111 a2 ≠ 2) → (σ 111 a3 ≠ 2) → (σ 111 a2 ≠ 0) → (σ 111 a3 ≠ 0) → (0 ≤ a4) → (a4 ≤ 40000) → (σ 113 a2 ≠ 0) → (σ 113 a3 ≠ 0) → (σ 98 3 = 12) → (0 : Int) ≤ -(-7) ∧ -(-7) < (8 : Int)) (k7 : ((0 ≤ a1 ∧ a1 < 4)) → ((0 ≤ a2 ∧ a2 < 10)) → ((0 ≤ a3 ∧ a3 < 10)) → (σ 111 a2 ≠ 2) → (σ 111 a3 ≠ 2) → (σ 111 a2 ≠ 0) → (σ 111 a3 ≠ 0) → (0 ≤ a4) → (a4 ≤ 40000) → (σ 113 a2 ≠ 0) → (σ 113 a3 ≠ 0) → (σ 98 3 = 12) → Q (-7) (zup σ 157 (-(-7)) (zW ((σ 157 (-(-7))) + 1)))) (k8 : ((¬ ((0 ≤ a1 ∧ a1 < 4))) ∨ (((0 ≤ a1 ∧ a1 < 4)) ∧ (¬ ((0 ≤ a2 ∧ a2 < 10)))) ∨ (((0 ≤ a1 ∧ a1 < 4)) ∧ ((0 ≤ a2 ∧ a2 < 10)) ∧ (¬ ((0 ≤ a3 ∧ a3 < 10))))) → -2147483648 ≤ -(-1) ∧ -(-1) < (2147483648 : Int)) (k9 : ((¬ ((0 ≤ a1 ∧ a1 < 4))) ∨ (((0 ≤ a1 ∧ a1 < 4)) ∧ (¬ ((0 ≤ a2 ∧ a2 < 10)))) ∨ (((0 ≤ a1 ∧ a1 < 4)) ∧ ((0 ≤ a2 ∧ a2 < 10)) ∧ (¬ ((0 ≤ a3 ∧ a3 < 10))))) → (0 : Int) ≤ -(-1) ∧ -(-1) < (8 : Int)) (k10 : ((¬ ((0 ≤ a1 ∧ a1 < 4))) ∨ (((0 ≤ a1 ∧ a1 < 4)) ∧ (¬ ((0 ≤ a2 ∧ a2 < 10)))) ∨ (((0 ≤ a1 ∧ a1 < 4)) ∧ ((0 ≤ a2 ∧ a2 < 10)) ∧ (¬ ((0 ≤ a3 ∧ a3 < 10))))) → Q (-1) (zup σ 157 (-(-1)) (zW ((σ 157 (-(-1))) + 1)))) (k11 : ((0 ≤ a1 ∧ a1 < 4)) → ((0 ≤ a2 ∧ a2 < 10)) → ((0 ≤ a3 ∧ a3 < 10)) → (σ 111 a2 = 2 ∨ (σ 111 a2 ≠ 2 ∧ σ 111 a3 = 2)) → -2147483648 ≤ -(-2) ∧ -(-2) < (2147483648 : Int)) (k12 : ((0 ≤ a1 ∧ a1 < 4)) → ((0 ≤ a2 ∧ a2 < 10)) → ((0 ≤ a3 ∧ a3 < 10)) → (σ 111 a2 = 2 ∨ (σ 111 a2 ≠ 2 ∧ σ 111 a3 = 2)) → (0 : Int) ≤ -(-2) ∧ -(-2) < (8 : Int)) (k13 : ((0 ≤ a1 ∧ a1 < 4)) → ((0 ≤ a2 ∧ a2 < 10)) → ((0 ≤ a3 ∧ a3 < 10)) → (σ 111 a2 = 2 ∨ (σ 111 a2 ≠ 2 ∧ σ 111 a3 = 2)) → Q (-2) (zup σ 157 (-(-2)) (zW ((σ 157 (-(-2))) + 1)))) (k14 : ((0 ≤ a1 ∧ a1 < 4)) → ((0 ≤ a2 ∧ a2 < 10)) → ((0 ≤ a3 ∧ a3 < 10)) → (σ 111 a2 ≠ 2) → (σ 111 a3 ≠ 2) → (σ 111 a2 = 0 ∨ (σ 111 a2 ≠ 0 ∧ σ 111 a3 = 0)) → -2147483648 ≤ -(-3) ∧ -(-3) < (2147483648 : Int)) (k15 : ((0 ≤ a1 ∧ a1 < 4)) → ((0 ≤ a2 ∧ a2 < 10)) → ((0 ≤ a3 ∧ a3 < 10)) → (σ 111 a2 ≠ 2) → (σ 111 a3 ≠ 2) → (σ 111 a2 = 0 ∨ (σ 111 a2 ≠ 0 ∧ σ 111 a3 = 0)) → (0 : Int) ≤ -(-3) ∧ -(-3) < (8 : Int)) (k16 : ((0 ≤ a1 ∧ a1 < 4)) → ((0 ≤ a2 ∧ a2 < 10)) → ((0 ≤ a3 ∧ a3 < 10)) → (σ 111 a2 ≠ 2) → (σ 111 a3 ≠ 2) → (σ 111 a2 = 0 ∨ (σ 111 a2 ≠ 0 ∧ σ 111 a3 = 0)) → Q (-3) (zup σ 157 (-(-3)) (zW ((σ 157 (-(-3))) + 1)))) (k17 : ((0 ≤ a1 ∧ a1 < 4)) → ((0 ≤ a2 ∧ a2 < 10)) → ((0 ≤ a3 ∧ a3 < 10)) → (σ 111 a2 ≠ 2) → (σ 111 a3 ≠ 2) → (σ 111 a2 ≠ 0) → (σ 111 a3 ≠ 0) → (a4 < 0 ∨ (0 ≤ a4 ∧ 40000 < a4) ∨ (0 ≤ a4 ∧ a4 ≤ 40000 ∧ σ 113 a2 = 0) ∨ (0 ≤ a4 ∧ a4 ≤ 40000 ∧ σ 113 a2 ≠ 0 ∧ σ 113 a3 = 0)) → -2147483648 ≤ -(-6) ∧ -(-6) < (2147483648 : Int)) (k18 : ((0 ≤ a1 ∧ a1 < 4)) → ((0 ≤ a2 ∧ a2 < 10)) → ((0 ≤ a3 ∧ a3 < 10)) → (σ 111 a2 ≠ 2) → (σ 111 a3 ≠ 2) → (σ 111 a2 ≠ 0) → (σ 111 a3 ≠ 0) → (a4 < 0 ∨ (0 ≤ a4 ∧ 40000 < a4) ∨ (0 ≤ a4 ∧ a4 ≤ 40000 ∧ σ 113 a2 = 0) ∨ (0 ≤ a4 ∧ a4 ≤ 40000 ∧ σ 113 a2 ≠ 0 ∧ σ 113 a3 = 0)) → (0 : Int) ≤ -(-6) ∧ -(-6) < (8 : Int)) (k19 : ((0 ≤ a1 ∧ a1 < 4)) → ((0 ≤ a2 ∧ a2 < 10)) → ((0 ≤ a3 ∧ a3 < 10)) → (σ 111 a2 ≠ 2) → (σ 111 a3 ≠ 2) → (σ 111 a2 ≠ 0) → (σ 111 a3 ≠ 0) → (a4 < 0 ∨ (0 ≤ a4 ∧ 40000 < a4) ∨ (0 ≤ a4 ∧ a4 ≤ 40000 ∧ σ 113 a2 = 0) ∨ (0 ≤ a4 ∧ a4 ≤ 40000 ∧ σ 113 a2 ≠ 0 ∧ σ 113 a3 = 0)) → Q (-6) (zup σ 157 (-(-6)) (zW ((σ 157 (-(-6))) + 1)))) : zO G MX12_amend [zr 98, zi a1, zi a2, zi a3, zi a4] σ Q := by
  refine zO_of (ls0 := [zr 98, zi a1, zi a2, zi a3, zi a4, zu, zu]) (by decide) (Nat.le_of_ble_eq_true rfl) rfl ?_
  have J110 : ((0 ≤ a1 ∧ a1 < 4)) → ((0 ≤ a2 ∧ a2 < 10)) → ((0 ≤ a3 ∧ a3 < 10)) → (σ 111 a2 ≠ 2) → (σ 111 a3 ≠ 2) → (σ 111 a2 ≠ 0) → (σ 111 a3 ≠ 0) → (a4 < 0 ∨ (0 ≤ a4 ∧ 40000 < a4) ∨ (0 ≤ a4 ∧ a4 ≤ 40000 ∧ σ 113 a2 = 0) ∨ (0 ≤ a4 ∧ a4 ≤ 40000 ∧ σ 113 a2 ≠ 0 ∧ σ 113 a3 = 0)) → zR G MX12_amend 110 [zr 98, zi a1, zi a2, zi a3, zi a4, zu, zu] [] σ Q := by
    intro h1 h2 h3 h4 h5 h6 h7 h16
    refine z_aload_n dX12_amend_110 rfl rfl ?_
    refine z_bipush (x := (-6)) dX12_amend_111 (by decide +kernel) (by unfold zIn; decide) ?_
    have s17 : -2147483648 ≤ -(-6) ∧ -(-6) < (2147483648 : Int) := k17 h1 h2 h3 h4 h5 h6 h7 h16
    have s18 : (0 : Int) ≤ -(-6) ∧ -(-6) < (8 : Int) := k18 h1 h2 h3 h4 h5 h6 h7 h16
    refine z_callv (as := [zi (-6)]) (st := []) mkX12_no lkRX12_267 rfl rfl rfl (by decide) (Nat.le_of_ble_eq_true rfl) rfl dX12_amend_113 ?_
    refine SX12_no s17 s18 ?_
    show zR G MX12_amend 116 [zr 98, zi a1, zi a2, zi a3, zi a4, zu, zu] [zi (-6)] (zup σ 157 (-(-6)) (zW ((σ 157 (-(-6))) + 1))) Q
    exact z_ireti rfl dX12_amend_116 (k19 h1 h2 h3 h4 h5 h6 h7 h16)
  have J72 : ((0 ≤ a1 ∧ a1 < 4)) → ((0 ≤ a2 ∧ a2 < 10)) → ((0 ≤ a3 ∧ a3 < 10)) → (σ 111 a2 ≠ 2) → (σ 111 a3 ≠ 2) → (σ 111 a2 = 0 ∨ (σ 111 a2 ≠ 0 ∧ σ 111 a3 = 0)) → zR G MX12_amend 72 [zr 98, zi a1, zi a2, zi a3, zi a4, zu, zu] [] σ Q := by
    intro h1 h2 h3 h4 h5 h15
    refine z_aload_n dX12_amend_72 rfl rfl ?_
    refine z_bipush (x := (-3)) dX12_amend_73 (by decide +kernel) (by unfold zIn; decide) ?_
    have s14 : -2147483648 ≤ -(-3) ∧ -(-3) < (2147483648 : Int) := k14 h1 h2 h3 h4 h5 h15
    have s15 : (0 : Int) ≤ -(-3) ∧ -(-3) < (8 : Int) := k15 h1 h2 h3 h4 h5 h15
    refine z_callv (as := [zi (-3)]) (st := []) mkX12_no lkRX12_267 rfl rfl rfl (by decide) (Nat.le_of_ble_eq_true rfl) rfl dX12_amend_75 ?_
    refine SX12_no s14 s15 ?_
    show zR G MX12_amend 78 [zr 98, zi a1, zi a2, zi a3, zi a4, zu, zu] [zi (-3)] (zup σ 157 (-(-3)) (zW ((σ 157 (-(-3))) + 1))) Q
    exact z_ireti rfl dX12_amend_78 (k16 h1 h2 h3 h4 h5 h15)
  have J47 : ((0 ≤ a1 ∧ a1 < 4)) → ((0 ≤ a2 ∧ a2 < 10)) → ((0 ≤ a3 ∧ a3 < 10)) → (σ 111 a2 = 2 ∨ (σ 111 a2 ≠ 2 ∧ σ 111 a3 = 2)) → zR G MX12_amend 47 [zr 98, zi a1, zi a2, zi a3, zi a4, zu, zu] [] σ Q := by
    intro h1 h2 h3 h14
    refine z_aload_n dX12_amend_47 rfl rfl ?_
    refine z_bipush (x := (-2)) dX12_amend_48 (by decide +kernel) (by unfold zIn; decide) ?_
    have s11 : -2147483648 ≤ -(-2) ∧ -(-2) < (2147483648 : Int) := k11 h1 h2 h3 h14
    have s12 : (0 : Int) ≤ -(-2) ∧ -(-2) < (8 : Int) := k12 h1 h2 h3 h14
    refine z_callv (as := [zi (-2)]) (st := []) mkX12_no lkRX12_267 rfl rfl rfl (by decide) (Nat.le_of_ble_eq_true rfl) rfl dX12_amend_50 ?_
    refine SX12_no s11 s12 ?_
    show zR G MX12_amend 53 [zr 98, zi a1, zi a2, zi a3, zi a4, zu, zu] [zi (-2)] (zup σ 157 (-(-2)) (zW ((σ 157 (-(-2))) + 1))) Q
    exact z_ireti rfl dX12_amend_53 (k13 h1 h2 h3 h14)
  have J21 : ((¬ ((0 ≤ a1 ∧ a1 < 4))) ∨ (((0 ≤ a1 ∧ a1 < 4)) ∧ (¬ ((0 ≤ a2 ∧ a2 < 10)))) ∨ (((0 ≤ a1 ∧ a1 < 4)) ∧ ((0 ≤ a2 ∧ a2 < 10)) ∧ (¬ ((0 ≤ a3 ∧ a3 < 10))))) → zR G MX12_amend 21 [zr 98, zi a1, zi a2, zi a3, zi a4, zu, zu] [] σ Q := by
    intro h13
    refine z_aload_n dX12_amend_21 rfl rfl ?_
    refine z_iconst dX12_amend_22 (by unfold zIn; decide) ?_
    have s8 : -2147483648 ≤ -(-1) ∧ -(-1) < (2147483648 : Int) := k8 h13
    have s9 : (0 : Int) ≤ -(-1) ∧ -(-1) < (8 : Int) := k9 h13
    refine z_callv (as := [zi (-1)]) (st := []) mkX12_no lkRX12_267 rfl rfl rfl (by decide) (Nat.le_of_ble_eq_true rfl) rfl dX12_amend_23 ?_
    refine SX12_no s8 s9 ?_
    show zR G MX12_amend 26 [zr 98, zi a1, zi a2, zi a3, zi a4, zu, zu] [zi (-1)] (zup σ 157 (-(-1)) (zW ((σ 157 (-(-1))) + 1))) Q
    exact z_ireti rfl dX12_amend_26 (k10 h13)
  refine z_iload_n dX12_amend_0 rfl rfl ?_
  refine z_calls (as := [zi a1]) (st := []) mkX12_isStatute lkRX12_297 rfl (by decide) (Nat.le_of_ble_eq_true rfl) rfl dX12_amend_1 ?_
  refine SX12_isStatute ?_
  show zR G MX12_amend 4 [zr 98, zi a1, zi a2, zi a3, zi a4, zu, zu] [zi (if (0 ≤ a1 ∧ a1 < 4) then (1 : Int) else 0)] σ Q
  refine z_if_eq dX12_amend_4 (tgt := 21) (by decide) (fun z => ?_) (fun z => ?_)
  · have h1 : ¬ ((0 ≤ a1 ∧ a1 < 4)) := zb0 z
    exact J21 (Or.inl h1)
  · have h1 : (0 ≤ a1 ∧ a1 < 4) := zb1 z
    refine z_iload_n dX12_amend_7 rfl rfl ?_
    refine z_calls (as := [zi a2]) (st := []) mkX12_isShelf lkRX12_293 rfl (by decide) (Nat.le_of_ble_eq_true rfl) rfl dX12_amend_8 ?_
    refine SX12_isShelf ?_
    show zR G MX12_amend 11 [zr 98, zi a1, zi a2, zi a3, zi a4, zu, zu] [zi (if (0 ≤ a2 ∧ a2 < 10) then (1 : Int) else 0)] σ Q
    refine z_if_eq dX12_amend_11 (tgt := 21) (by decide) (fun z => ?_) (fun z => ?_)
    · have h2 : ¬ ((0 ≤ a2 ∧ a2 < 10)) := zb0 z
      exact J21 (Or.inr (Or.inl ⟨h1, h2⟩))
    · have h2 : (0 ≤ a2 ∧ a2 < 10) := zb1 z
      refine z_iload_n dX12_amend_14 rfl rfl ?_
      refine z_calls (as := [zi a3]) (st := []) mkX12_isShelf lkRX12_293 rfl (by decide) (Nat.le_of_ble_eq_true rfl) rfl dX12_amend_15 ?_
      refine SX12_isShelf ?_
      show zR G MX12_amend 18 [zr 98, zi a1, zi a2, zi a3, zi a4, zu, zu] [zi (if (0 ≤ a3 ∧ a3 < 10) then (1 : Int) else 0)] σ Q
      refine z_if_ne dX12_amend_18 (tgt := 27) (by decide) (fun z => ?_) (fun z => ?_)
      · have h3 : (0 ≤ a3 ∧ a3 < 10) := zb1 z
        refine z_aload_n dX12_amend_27 rfl rfl ?_
        refine z_getfR (k := 25) flRX12_51 rfl rfl dX12_amend_28 ?_
        refine z_iload_n dX12_amend_31 rfl rfl ?_
        have s1 : (0 : Int) ≤ a2 ∧ a2 < (10 : Int) := k1 h1 h2 h3
        refine z_iald rfl s1.1 s1.2 dX12_amend_32 ?_
        refine z_iconst dX12_amend_33 (by unfold zIn; decide) ?_
        refine z_icmp_eq dX12_amend_34 (tgt := 47) (by decide) (fun h4 => ?_) (fun h4 => ?_)
        · skip
          exact J47 h1 h2 h3 (Or.inl h4)
        · skip
          refine z_aload_n dX12_amend_37 rfl rfl ?_
          refine z_getfR (k := 25) flRX12_51 rfl rfl dX12_amend_38 ?_
          refine z_iload_n dX12_amend_41 rfl rfl ?_
          have s2 : (0 : Int) ≤ a3 ∧ a3 < (10 : Int) := k2 h1 h2 h3 h4
          refine z_iald rfl s2.1 s2.2 dX12_amend_42 ?_
          refine z_iconst dX12_amend_43 (by unfold zIn; decide) ?_
          refine z_icmp_ne dX12_amend_44 (tgt := 54) (by decide) (fun h5 => ?_) (fun h5 => ?_)
          · skip
            refine z_aload_n dX12_amend_54 rfl rfl ?_
            refine z_getfR (k := 25) flRX12_51 rfl rfl dX12_amend_55 ?_
            refine z_iload_n dX12_amend_58 rfl rfl ?_
            refine z_iald rfl s1.1 s1.2 dX12_amend_59 ?_
            refine z_if_eq dX12_amend_60 (tgt := 72) (by decide) (fun h6 => ?_) (fun h6 => ?_)
            · skip
              exact J72 h1 h2 h3 h4 h5 (Or.inl h6)
            · skip
              refine z_aload_n dX12_amend_63 rfl rfl ?_
              refine z_getfR (k := 25) flRX12_51 rfl rfl dX12_amend_64 ?_
              refine z_iload_n dX12_amend_67 rfl rfl ?_
              refine z_iald rfl s2.1 s2.2 dX12_amend_68 ?_
              refine z_if_ne dX12_amend_69 (tgt := 79) (by decide) (fun h7 => ?_) (fun h7 => ?_)
              · skip
                refine z_iload dX12_amend_79 rfl ?_
                refine z_if_lt dX12_amend_81 (tgt := 110) (by decide) (fun h8 => ?_) (fun h8 => ?_)
                · skip
                  exact J110 h1 h2 h3 h4 h5 h6 h7 (Or.inl h8)
                · skip
                  refine z_iload dX12_amend_84 rfl ?_
                  refine z_ldcw (x := 40000) (zin_7 (List.mem_of_getElem? (i := 198) (by decide +kernel))) (by unfold zIn; decide) dX12_amend_86 ?_
                  refine z_icmp_gt dX12_amend_89 (tgt := 110) (by decide) (fun h9 => ?_) (fun h9 => ?_)
                  · skip
                    exact J110 h1 h2 h3 h4 h5 h6 h7 (Or.inr (Or.inl ⟨h8, h9⟩))
                  · skip
                    refine z_aload_n dX12_amend_92 rfl rfl ?_
                    refine z_getfR (k := 27) flRX12_57 rfl rfl dX12_amend_93 ?_
                    refine z_iload_n dX12_amend_96 rfl rfl ?_
                    refine z_iald rfl s1.1 s1.2 dX12_amend_97 ?_
                    refine z_if_eq dX12_amend_98 (tgt := 110) (by decide) (fun h10 => ?_) (fun h10 => ?_)
                    · skip
                      exact J110 h1 h2 h3 h4 h5 h6 h7 (Or.inr (Or.inr (Or.inl ⟨h8, h9, h10⟩)))
                    · skip
                      refine z_aload_n dX12_amend_101 rfl rfl ?_
                      refine z_getfR (k := 27) flRX12_57 rfl rfl dX12_amend_102 ?_
                      refine z_iload_n dX12_amend_105 rfl rfl ?_
                      refine z_iald rfl s2.1 s2.2 dX12_amend_106 ?_
                      refine z_if_ne dX12_amend_107 (tgt := 117) (by decide) (fun h11 => ?_) (fun h11 => ?_)
                      · skip
                        refine z_aload_n dX12_amend_117 rfl rfl ?_
                        refine z_getfI (k := 3) flRX12_303 rfl rfl dX12_amend_118 ?_
                        refine z_bipush (x := 12) dX12_amend_121 (by decide +kernel) (by unfold zIn; decide) ?_
                        refine z_icmp_ne dX12_amend_123 (tgt := 133) (by decide) (fun h12 => ?_) (fun h12 => ?_)
                        · skip
                          refine z_aload_n dX12_amend_133 rfl rfl ?_
                          refine z_getfI (k := 3) flRX12_303 rfl rfl dX12_amend_134 ?_
                          refine z_istore (ls' := [zr 98, zi a1, zi a2, zi a3, zi a4, zi (σ 98 3), zu]) dX12_amend_137 (by decide) rfl ?_
                          refine z_aload_n dX12_amend_139 rfl rfl ?_
                          refine z_getfR (k := 33) flRX12_76 rfl rfl dX12_amend_140 ?_
                          refine z_iload dX12_amend_143 rfl ?_
                          refine z_iload_n dX12_amend_145 rfl rfl ?_
                          have s3 : (0 : Int) ≤ σ 98 3 ∧ σ 98 3 < (12 : Int) := k3 h1 h2 h3 h4 h5 h6 h7 h8 h9 h10 h11 h12
                          refine z_iast rfl s3.1 s3.2 dX12_amend_146 ?_
                          refine z_aload_n dX12_amend_147 rfl rfl ?_
                          refine z_getfR (k := 34) flRX12_79 rfl rfl dX12_amend_148 ?_
                          refine z_iload dX12_amend_151 rfl ?_
                          refine z_iload dX12_amend_153 rfl ?_
                          refine z_iast rfl s3.1 s3.2 dX12_amend_155 ?_
                          refine z_aload_n dX12_amend_156 rfl rfl ?_
                          refine z_getfR (k := 35) flRX12_82 rfl rfl dX12_amend_157 ?_
                          refine z_iload dX12_amend_160 rfl ?_
                          refine z_aload_n dX12_amend_162 rfl rfl ?_
                          refine z_getfE (k := 0) (v := σ 98 0) flRX12_262 rfl rfl ((zup_of (by decide)).trans (zup_of (by decide))) dX12_amend_163 ?_
                          refine z_iast rfl s3.1 s3.2 dX12_amend_166 ?_
                          refine z_aload_n dX12_amend_167 rfl rfl ?_
                          refine z_getfR (k := 36) flRX12_85 rfl rfl dX12_amend_168 ?_
                          refine z_iload dX12_amend_171 rfl ?_
                          refine z_aload_n dX12_amend_173 rfl rfl ?_
                          refine z_getfR (k := 27) flRX12_57 rfl rfl dX12_amend_174 ?_
                          refine z_iload_n dX12_amend_177 rfl rfl ?_
                          refine z_ialdE (v := σ 113 a2) rfl s1.1 s1.2 ((zup_of (by decide)).trans ((zup_of (by decide)).trans (zup_of (by decide)))) dX12_amend_178 ?_
                          refine z_iast rfl s3.1 s3.2 dX12_amend_179 ?_
                          refine z_aload_n dX12_amend_180 rfl rfl ?_
                          refine z_getfR (k := 37) flRX12_88 rfl rfl dX12_amend_181 ?_
                          refine z_iload dX12_amend_184 rfl ?_
                          refine z_aload_n dX12_amend_186 rfl rfl ?_
                          refine z_getfR (k := 27) flRX12_57 rfl rfl dX12_amend_187 ?_
                          refine z_iload_n dX12_amend_190 rfl rfl ?_
                          refine z_ialdE (v := σ 113 a3) rfl s2.1 s2.2 ((zup_of (by decide)).trans ((zup_of (by decide)).trans ((zup_of (by decide)).trans (zup_of (by decide))))) dX12_amend_191 ?_
                          refine z_iast rfl s3.1 s3.2 dX12_amend_192 ?_
                          refine z_iconst dX12_amend_193 (by unfold zIn; decide) ?_
                          refine z_istore (ls' := [zr 98, zi a1, zi a2, zi a3, zi a4, zi (σ 98 3), zi 0]) dX12_amend_194 (by decide) rfl ?_
                          exact k4 h1 h2 h3 h4 h5 h6 h7 h8 h9 h10 h11 h12
                        · skip
                          refine z_aload_n dX12_amend_126 rfl rfl ?_
                          refine z_bipush (x := (-7)) dX12_amend_127 (by decide +kernel) (by unfold zIn; decide) ?_
                          have s5 : -2147483648 ≤ -(-7) ∧ -(-7) < (2147483648 : Int) := k5 h1 h2 h3 h4 h5 h6 h7 h8 h9 h10 h11 h12
                          have s6 : (0 : Int) ≤ -(-7) ∧ -(-7) < (8 : Int) := k6 h1 h2 h3 h4 h5 h6 h7 h8 h9 h10 h11 h12
                          refine z_callv (as := [zi (-7)]) (st := []) mkX12_no lkRX12_267 rfl rfl rfl (by decide) (Nat.le_of_ble_eq_true rfl) rfl dX12_amend_129 ?_
                          refine SX12_no s5 s6 ?_
                          show zR G MX12_amend 132 [zr 98, zi a1, zi a2, zi a3, zi a4, zu, zu] [zi (-7)] (zup σ 157 (-(-7)) (zW ((σ 157 (-(-7))) + 1))) Q
                          exact z_ireti rfl dX12_amend_132 (k7 h1 h2 h3 h4 h5 h6 h7 h8 h9 h10 h11 h12)
                      · skip
                        exact J110 h1 h2 h3 h4 h5 h6 h7 (Or.inr (Or.inr (Or.inr ⟨h8, h9, h10, h11⟩)))
              · skip
                exact J72 h1 h2 h3 h4 h5 (Or.inr ⟨h6, h7⟩)
          · skip
            exact J47 h1 h2 h3 (Or.inr ⟨h4, h5⟩)
      · have h3 : ¬ ((0 ≤ a3 ∧ a3 < 10)) := zb0 z
        exact J21 (Or.inr (Or.inr ⟨h1, h2, h3⟩))
set_option maxRecDepth 20000 in
set_option maxHeartbeats 1000000 in
theorem TX12_amend_196 {G : zG} {σ : zS} {Q : Int → zS → Prop} {v1 v2 v3 v4 v5 v6 : Int}  (k1 : (0 : Int) ≤ v2 ∧ v2 < (10 : Int)) (k2 : (σ 113 v2 ≤ v6) → zR G MX12_amend 242 [zr 98, zi v1, zi v2, zi v3, zi v4, zi v5, zi 0] [] σ Q) (k3 : (v6 < σ 113 v2) → -2147483648 ≤ 80 * v5 ∧ 80 * v5 < (2147483648 : Int)) (k4 : (v6 < σ 113 v2) → -2147483648 ≤ (80 * v5) + v6 ∧ (80 * v5) + v6 < (2147483648 : Int)) (k5 : (v6 < σ 113 v2) → -2147483648 ≤ 80 * v2 ∧ 80 * v2 < (2147483648 : Int)) (k6 : (v6 < σ 113 v2) → -2147483648 ≤ (80 * v2) + v6 ∧ (80 * v2) + v6 < (2147483648 : Int)) (k7 : (v6 < σ 113 v2) → (0 : Int) ≤ (80 * v2) + v6 ∧ (80 * v2) + v6 < (800 : Int)) (k8 : (v6 < σ 113 v2) → (0 : Int) ≤ (80 * v5) + v6 ∧ (80 * v5) + v6 < (960 : Int)) (k9 : (v6 < σ 113 v2) → -2147483648 ≤ v6 + 1 ∧ v6 + 1 < (2147483648 : Int)) (k10 : (v6 < σ 113 v2) → zR G MX12_amend 196 [zr 98, zi v1, zi v2, zi v3, zi v4, zi v5, zi (v6 + 1)] [] (zup σ 124 ((80 * v5) + v6) (zW (σ 115 ((80 * v2) + v6)))) Q) : zR G MX12_amend 196 [zr 98, zi v1, zi v2, zi v3, zi v4, zi v5, zi v6] [] σ Q := by
  refine z_iload dX12_amend_196 rfl ?_
  refine z_aload_n dX12_amend_198 rfl rfl ?_
  refine z_getfR (k := 27) flRX12_57 rfl rfl dX12_amend_199 ?_
  refine z_iload_n dX12_amend_202 rfl rfl ?_
  have s1 : (0 : Int) ≤ v2 ∧ v2 < (10 : Int) := k1
  refine z_iald rfl s1.1 s1.2 dX12_amend_203 ?_
  refine z_icmp_ge dX12_amend_204 (tgt := 239) (by decide) (fun h1 => ?_) (fun h1 => ?_)
  · skip
    refine z_iconst dX12_amend_239 (by unfold zIn; decide) ?_
    refine z_istore (ls' := [zr 98, zi v1, zi v2, zi v3, zi v4, zi v5, zi 0]) dX12_amend_240 (by decide) rfl ?_
    exact k2 h1
  · skip
    refine z_aload_n dX12_amend_207 rfl rfl ?_
    refine z_getfR (k := 38) flRX12_91 rfl rfl dX12_amend_208 ?_
    refine z_bipush (x := 80) dX12_amend_211 (by decide +kernel) (by unfold zIn; decide) ?_
    refine z_iload dX12_amend_213 rfl ?_
    have s3 : -2147483648 ≤ 80 * v5 ∧ 80 * v5 < (2147483648 : Int) := k3 h1
    refine z_imulN dX12_amend_215 s3 ?_
    refine z_iload dX12_amend_216 rfl ?_
    have s4 : -2147483648 ≤ (80 * v5) + v6 ∧ (80 * v5) + v6 < (2147483648 : Int) := k4 h1
    refine z_iaddN dX12_amend_218 s4 ?_
    refine z_aload_n dX12_amend_219 rfl rfl ?_
    refine z_getfR (k := 29) flRX12_63 rfl rfl dX12_amend_220 ?_
    refine z_bipush (x := 80) dX12_amend_223 (by decide +kernel) (by unfold zIn; decide) ?_
    refine z_iload_n dX12_amend_225 rfl rfl ?_
    have s5 : -2147483648 ≤ 80 * v2 ∧ 80 * v2 < (2147483648 : Int) := k5 h1
    refine z_imulN dX12_amend_226 s5 ?_
    refine z_iload dX12_amend_227 rfl ?_
    have s6 : -2147483648 ≤ (80 * v2) + v6 ∧ (80 * v2) + v6 < (2147483648 : Int) := k6 h1
    refine z_iaddN dX12_amend_229 s6 ?_
    have s7 : (0 : Int) ≤ (80 * v2) + v6 ∧ (80 * v2) + v6 < (800 : Int) := k7 h1
    refine z_lald rfl s7.1 s7.2 dX12_amend_230 ?_
    refine z_l2i dX12_amend_231 ?_
    have s8 : (0 : Int) ≤ (80 * v5) + v6 ∧ (80 * v5) + v6 < (960 : Int) := k8 h1
    refine z_iast rfl s8.1 s8.2 dX12_amend_232 ?_
    have s9 : -2147483648 ≤ v6 + 1 ∧ v6 + 1 < (2147483648 : Int) := k9 h1
    refine z_iincN (ls' := [zr 98, zi v1, zi v2, zi v3, zi v4, zi v5, zi (v6 + 1)]) dX12_amend_233 rfl (by decide) s9 rfl ?_
    refine z_goto dX12_amend_236 (tgt := 196) (by decide) ?_
    exact k10 h1
set_option maxRecDepth 20000 in
set_option maxHeartbeats 1000000 in
theorem TX12_amend_242 {G : zG} {σ : zS} {Q : Int → zS → Prop} {v1 v2 v3 v4 v5 v6 : Int}  (k1 : (0 : Int) ≤ v3 ∧ v3 < (10 : Int)) (k2 : (σ 113 v3 ≤ v6) → -2147483648 ≤ σ 98 3 + 1 ∧ σ 98 3 + 1 < (2147483648 : Int)) (k3 : (σ 113 v3 ≤ v6) → Q (σ 98 3) (zup σ 98 3 (σ 98 3 + 1))) (k4 : (v6 < σ 113 v3) → -2147483648 ≤ 80 * v5 ∧ 80 * v5 < (2147483648 : Int)) (k5 : (v6 < σ 113 v3) → -2147483648 ≤ (80 * v5) + v6 ∧ (80 * v5) + v6 < (2147483648 : Int)) (k6 : (v6 < σ 113 v3) → -2147483648 ≤ 80 * v3 ∧ 80 * v3 < (2147483648 : Int)) (k7 : (v6 < σ 113 v3) → -2147483648 ≤ (80 * v3) + v6 ∧ (80 * v3) + v6 < (2147483648 : Int)) (k8 : (v6 < σ 113 v3) → (0 : Int) ≤ (80 * v3) + v6 ∧ (80 * v3) + v6 < (800 : Int)) (k9 : (v6 < σ 113 v3) → (0 : Int) ≤ (80 * v5) + v6 ∧ (80 * v5) + v6 < (960 : Int)) (k10 : (v6 < σ 113 v3) → -2147483648 ≤ v6 + 1 ∧ v6 + 1 < (2147483648 : Int)) (k11 : (v6 < σ 113 v3) → zR G MX12_amend 242 [zr 98, zi v1, zi v2, zi v3, zi v4, zi v5, zi (v6 + 1)] [] (zup σ 125 ((80 * v5) + v6) (zW (σ 115 ((80 * v3) + v6)))) Q) : zR G MX12_amend 242 [zr 98, zi v1, zi v2, zi v3, zi v4, zi v5, zi v6] [] σ Q := by
  refine z_iload dX12_amend_242 rfl ?_
  refine z_aload_n dX12_amend_244 rfl rfl ?_
  refine z_getfR (k := 27) flRX12_57 rfl rfl dX12_amend_245 ?_
  refine z_iload_n dX12_amend_248 rfl rfl ?_
  have s1 : (0 : Int) ≤ v3 ∧ v3 < (10 : Int) := k1
  refine z_iald rfl s1.1 s1.2 dX12_amend_249 ?_
  refine z_icmp_ge dX12_amend_250 (tgt := 285) (by decide) (fun h1 => ?_) (fun h1 => ?_)
  · skip
    refine z_aload_n dX12_amend_285 rfl rfl ?_
    refine z_dup dX12_amend_286 rfl ?_
    refine z_getfI (k := 3) flRX12_303 rfl rfl dX12_amend_287 ?_
    refine z_dup_x1 dX12_amend_290 rfl rfl ?_
    refine z_iconst dX12_amend_291 (by unfold zIn; decide) ?_
    have s2 : -2147483648 ≤ σ 98 3 + 1 ∧ σ 98 3 + 1 < (2147483648 : Int) := k2 h1
    refine z_iaddN dX12_amend_292 s2 ?_
    refine z_putI (k := 3) fpRX12_303 rfl rfl dX12_amend_293 ?_
    exact z_ireti rfl dX12_amend_296 (k3 h1)
  · skip
    refine z_aload_n dX12_amend_253 rfl rfl ?_
    refine z_getfR (k := 39) flRX12_94 rfl rfl dX12_amend_254 ?_
    refine z_bipush (x := 80) dX12_amend_257 (by decide +kernel) (by unfold zIn; decide) ?_
    refine z_iload dX12_amend_259 rfl ?_
    have s4 : -2147483648 ≤ 80 * v5 ∧ 80 * v5 < (2147483648 : Int) := k4 h1
    refine z_imulN dX12_amend_261 s4 ?_
    refine z_iload dX12_amend_262 rfl ?_
    have s5 : -2147483648 ≤ (80 * v5) + v6 ∧ (80 * v5) + v6 < (2147483648 : Int) := k5 h1
    refine z_iaddN dX12_amend_264 s5 ?_
    refine z_aload_n dX12_amend_265 rfl rfl ?_
    refine z_getfR (k := 29) flRX12_63 rfl rfl dX12_amend_266 ?_
    refine z_bipush (x := 80) dX12_amend_269 (by decide +kernel) (by unfold zIn; decide) ?_
    refine z_iload_n dX12_amend_271 rfl rfl ?_
    have s6 : -2147483648 ≤ 80 * v3 ∧ 80 * v3 < (2147483648 : Int) := k6 h1
    refine z_imulN dX12_amend_272 s6 ?_
    refine z_iload dX12_amend_273 rfl ?_
    have s7 : -2147483648 ≤ (80 * v3) + v6 ∧ (80 * v3) + v6 < (2147483648 : Int) := k7 h1
    refine z_iaddN dX12_amend_275 s7 ?_
    have s8 : (0 : Int) ≤ (80 * v3) + v6 ∧ (80 * v3) + v6 < (800 : Int) := k8 h1
    refine z_lald rfl s8.1 s8.2 dX12_amend_276 ?_
    refine z_l2i dX12_amend_277 ?_
    have s9 : (0 : Int) ≤ (80 * v5) + v6 ∧ (80 * v5) + v6 < (960 : Int) := k9 h1
    refine z_iast rfl s9.1 s9.2 dX12_amend_278 ?_
    have s10 : -2147483648 ≤ v6 + 1 ∧ v6 + 1 < (2147483648 : Int) := k10 h1
    refine z_iincN (ls' := [zr 98, zi v1, zi v2, zi v3, zi v4, zi v5, zi (v6 + 1)]) dX12_amend_279 rfl (by decide) s10 rfl ?_
    refine z_goto dX12_amend_282 (tgt := 242) (by decide) ?_
    exact k11 h1
set_option maxRecDepth 20000 in
set_option maxHeartbeats 1000000 in
theorem TX12_placeOf {G : zG} {σ : zS} {Q : Int → zS → Prop} {a1 : Int}  (k1 : zR G MX12_placeOf 2 [zr 98, zi a1, zi 0, zu] [] σ Q) : zO G MX12_placeOf [zr 98, zi a1] σ Q := by
  refine zO_of (ls0 := [zr 98, zi a1, zu, zu]) (by decide) (Nat.le_of_ble_eq_true rfl) rfl ?_
  refine z_iconst dX12_placeOf_0 (by unfold zIn; decide) ?_
  refine z_istore_n (ls' := [zr 98, zi a1, zi 0, zu]) dX12_placeOf_1 rfl (by decide) rfl ?_
  exact k1
set_option maxRecDepth 20000 in
set_option maxHeartbeats 1000000 in
theorem TX12_placeOf_2 {G : zG} {σ : zS} {Q : Int → zS → Prop} {v1 v2 : Int}  (k1 : (0 : Int) ≤ v1 ∧ v1 < (12 : Int)) (k2 : -2147483648 ≤ v2 + σ 122 v1 ∧ v2 + σ 122 v1 < (2147483648 : Int)) (k3 : (σ 98 43 < v2 + σ 122 v1) → Q (-1) σ) (k4 : (v2 + σ 122 v1 ≤ σ 98 43) → zR G MX12_placeOf 19 [zr 98, zi v1, zi v2, zi 0] [] σ Q) : zR G MX12_placeOf 2 [zr 98, zi v1, zi v2, zu] [] σ Q := by
  refine z_iload_n dX12_placeOf_2 rfl rfl ?_
  refine z_aload_n dX12_placeOf_3 rfl rfl ?_
  refine z_getfR (k := 36) flRX12_85 rfl rfl dX12_placeOf_4 ?_
  refine z_iload_n dX12_placeOf_7 rfl rfl ?_
  have s1 : (0 : Int) ≤ v1 ∧ v1 < (12 : Int) := k1
  refine z_iald rfl s1.1 s1.2 dX12_placeOf_8 ?_
  have s2 : -2147483648 ≤ v2 + σ 122 v1 ∧ v2 + σ 122 v1 < (2147483648 : Int) := k2
  refine z_iaddN dX12_placeOf_9 s2 ?_
  refine z_aload_n dX12_placeOf_10 rfl rfl ?_
  refine z_getfI (k := 43) flRX12_306 rfl rfl dX12_placeOf_11 ?_
  refine z_icmp_gt dX12_placeOf_14 (tgt := 75) (by decide) (fun h1 => ?_) (fun h1 => ?_)
  · skip
    refine z_iconst dX12_placeOf_75 (by unfold zIn; decide) ?_
    exact z_ireti rfl dX12_placeOf_76 (k3 h1)
  · skip
    refine z_iconst dX12_placeOf_17 (by unfold zIn; decide) ?_
    refine z_istore_n (ls' := [zr 98, zi v1, zi v2, zi 0]) dX12_placeOf_18 rfl (by decide) rfl ?_
    exact k4 h1
set_option maxRecDepth 20000 in
set_option maxHeartbeats 1000000 in
theorem TX12_placeOf_19 {G : zG} {σ : zS} {Q : Int → zS → Prop} {v1 v2 v3 : Int}  (k1 : (0 : Int) ≤ v1 ∧ v1 < (12 : Int)) (k2 : (v3 < σ 122 v1) → -2147483648 ≤ v2 + v3 ∧ v2 + v3 < (2147483648 : Int)) (k3 : (v3 < σ 122 v1) → (0 : Int) ≤ v2 + v3 ∧ v2 + v3 < (300 : Int)) (k4 : (v3 < σ 122 v1) → -2147483648 ≤ 80 * v1 ∧ 80 * v1 < (2147483648 : Int)) (k5 : (v3 < σ 122 v1) → -2147483648 ≤ (80 * v1) + v3 ∧ (80 * v1) + v3 < (2147483648 : Int)) (k6 : (v3 < σ 122 v1) → (0 : Int) ≤ (80 * v1) + v3 ∧ (80 * v1) + v3 < (960 : Int)) (k7 : (v3 < σ 122 v1) → (σ 127 (v2 + v3) = σ 124 ((80 * v1) + v3)) → -2147483648 ≤ v3 + 1 ∧ v3 + 1 < (2147483648 : Int)) (k8 : (v3 < σ 122 v1) → (σ 127 (v2 + v3) = σ 124 ((80 * v1) + v3)) → zR G MX12_placeOf 19 [zr 98, zi v1, zi v2, zi (v3 + 1)] [] σ Q) (k9 : (σ 122 v1 ≤ v3 ∨ (v3 < σ 122 v1 ∧ σ 127 (v2 + v3) ≠ σ 124 ((80 * v1) + v3))) → (0 : Int) ≤ v1 ∧ v1 < (12 : Int)) (k10 : (σ 122 v1 ≤ v3 ∨ (v3 < σ 122 v1 ∧ σ 127 (v2 + v3) ≠ σ 124 ((80 * v1) + v3))) → (v3 ≠ σ 122 v1) → -2147483648 ≤ v2 + 1 ∧ v2 + 1 < (2147483648 : Int)) (k11 : (σ 122 v1 ≤ v3 ∨ (v3 < σ 122 v1 ∧ σ 127 (v2 + v3) ≠ σ 124 ((80 * v1) + v3))) → (v3 ≠ σ 122 v1) → zR G MX12_placeOf 2 [zr 98, zi v1, zi (v2 + 1), zu] [] σ Q) (k12 : (σ 122 v1 ≤ v3 ∨ (v3 < σ 122 v1 ∧ σ 127 (v2 + v3) ≠ σ 124 ((80 * v1) + v3))) → (v3 = σ 122 v1) → Q v2 σ) : zR G MX12_placeOf 19 [zr 98, zi v1, zi v2, zi v3] [] σ Q := by
  have J57 : (σ 122 v1 ≤ v3 ∨ (v3 < σ 122 v1 ∧ σ 127 (v2 + v3) ≠ σ 124 ((80 * v1) + v3))) → zR G MX12_placeOf 57 [zr 98, zi v1, zi v2, zi v3] [] σ Q := by
    intro h3
    refine z_iload_n dX12_placeOf_57 rfl rfl ?_
    refine z_aload_n dX12_placeOf_58 rfl rfl ?_
    refine z_getfR (k := 36) flRX12_85 rfl rfl dX12_placeOf_59 ?_
    refine z_iload_n dX12_placeOf_62 rfl rfl ?_
    have s9 : (0 : Int) ≤ v1 ∧ v1 < (12 : Int) := k9 h3
    refine z_iald rfl s9.1 s9.2 dX12_placeOf_63 ?_
    refine z_icmp_ne dX12_placeOf_64 (tgt := 69) (by decide) (fun h4 => ?_) (fun h4 => ?_)
    · skip
      have s10 : -2147483648 ≤ v2 + 1 ∧ v2 + 1 < (2147483648 : Int) := k10 h3 h4
      refine z_iincN (ls' := [zr 98, zi v1, zi (v2 + 1), zi v3]) dX12_placeOf_69 rfl (by decide) s10 rfl ?_
      refine z_goto dX12_placeOf_72 (tgt := 2) (by decide) ?_
      exact zR_fg [false, false, false, true] (k11 h3 h4)
    · skip
      refine z_iload_n dX12_placeOf_67 rfl rfl ?_
      exact z_ireti rfl dX12_placeOf_68 (k12 h3 h4)
  refine z_iload_n dX12_placeOf_19 rfl rfl ?_
  refine z_aload_n dX12_placeOf_20 rfl rfl ?_
  refine z_getfR (k := 36) flRX12_85 rfl rfl dX12_placeOf_21 ?_
  refine z_iload_n dX12_placeOf_24 rfl rfl ?_
  have s1 : (0 : Int) ≤ v1 ∧ v1 < (12 : Int) := k1
  refine z_iald rfl s1.1 s1.2 dX12_placeOf_25 ?_
  refine z_icmp_ge dX12_placeOf_26 (tgt := 57) (by decide) (fun h1 => ?_) (fun h1 => ?_)
  · skip
    exact J57 (Or.inl h1)
  · skip
    refine z_aload_n dX12_placeOf_29 rfl rfl ?_
    refine z_getfR (k := 41) flRX12_100 rfl rfl dX12_placeOf_30 ?_
    refine z_iload_n dX12_placeOf_33 rfl rfl ?_
    refine z_iload_n dX12_placeOf_34 rfl rfl ?_
    have s2 : -2147483648 ≤ v2 + v3 ∧ v2 + v3 < (2147483648 : Int) := k2 h1
    refine z_iaddN dX12_placeOf_35 s2 ?_
    have s3 : (0 : Int) ≤ v2 + v3 ∧ v2 + v3 < (300 : Int) := k3 h1
    refine z_iald rfl s3.1 s3.2 dX12_placeOf_36 ?_
    refine z_aload_n dX12_placeOf_37 rfl rfl ?_
    refine z_getfR (k := 38) flRX12_91 rfl rfl dX12_placeOf_38 ?_
    refine z_bipush (x := 80) dX12_placeOf_41 (by decide +kernel) (by unfold zIn; decide) ?_
    refine z_iload_n dX12_placeOf_43 rfl rfl ?_
    have s4 : -2147483648 ≤ 80 * v1 ∧ 80 * v1 < (2147483648 : Int) := k4 h1
    refine z_imulN dX12_placeOf_44 s4 ?_
    refine z_iload_n dX12_placeOf_45 rfl rfl ?_
    have s5 : -2147483648 ≤ (80 * v1) + v3 ∧ (80 * v1) + v3 < (2147483648 : Int) := k5 h1
    refine z_iaddN dX12_placeOf_46 s5 ?_
    have s6 : (0 : Int) ≤ (80 * v1) + v3 ∧ (80 * v1) + v3 < (960 : Int) := k6 h1
    refine z_iald rfl s6.1 s6.2 dX12_placeOf_47 ?_
    refine z_icmp_ne dX12_placeOf_48 (tgt := 57) (by decide) (fun h2 => ?_) (fun h2 => ?_)
    · skip
      exact J57 (Or.inr ⟨h1, h2⟩)
    · skip
      have s7 : -2147483648 ≤ v3 + 1 ∧ v3 + 1 < (2147483648 : Int) := k7 h1 h2
      refine z_iincN (ls' := [zr 98, zi v1, zi v2, zi (v3 + 1)]) dX12_placeOf_51 rfl (by decide) s7 rfl ?_
      refine z_goto dX12_placeOf_54 (tgt := 19) (by decide) ?_
      exact k8 h1 h2
set_option maxRecDepth 20000 in
set_option maxHeartbeats 1000000 in
theorem TX12_words {G : zG} {σ : zS} {Q : Int → zS → Prop} {a1 a2 a3 : Int}  (k1 : (0 : Int) ≤ a1 ∧ a1 < (4 : Int)) (k2 : zR G MX12_words 13 [zr 98, zi a1, zi a2, zi a3, zi 0, zu, zu, zu, zu, zu, zu] [] (zup σ 98 43 (σ 118 a1)) Q) : zO G MX12_words [zr 98, zi a1, zi a2, zi a3] σ Q := by
  refine zO_of (ls0 := [zr 98, zi a1, zi a2, zi a3, zu, zu, zu, zu, zu, zu, zu]) (by decide) (Nat.le_of_ble_eq_true rfl) rfl ?_
  refine z_aload_n dX12_words_0 rfl rfl ?_
  refine z_aload_n dX12_words_1 rfl rfl ?_
  refine z_getfR (k := 32) flRX12_73 rfl rfl dX12_words_2 ?_
  refine z_iload_n dX12_words_5 rfl rfl ?_
  have s1 : (0 : Int) ≤ a1 ∧ a1 < (4 : Int) := k1
  refine z_iald rfl s1.1 s1.2 dX12_words_6 ?_
  refine z_putI (k := 43) fpRX12_306 rfl rfl dX12_words_7 ?_
  refine z_iconst dX12_words_10 (by unfold zIn; decide) ?_
  refine z_istore (ls' := [zr 98, zi a1, zi a2, zi a3, zi 0, zu, zu, zu, zu, zu, zu]) dX12_words_11 (by decide) rfl ?_
  exact k2
set_option maxRecDepth 20000 in
set_option maxHeartbeats 1000000 in
theorem TX12_words_13 {G : zG} {σ : zS} {Q : Int → zS → Prop} {v1 v2 v3 v4 : Int}  (k1 : (σ 98 43 ≤ v4) → zR G MX12_words 56 [zr 98, zi v1, zi v2, zi v3, zr 126, zi 0, zu, zu, zu, zu, zu] [] σ Q) (k2 : (v4 < σ 98 43) → -2147483648 ≤ 80 * v1 ∧ 80 * v1 < (2147483648 : Int)) (k3 : (v4 < σ 98 43) → -2147483648 ≤ (80 * v1) + v4 ∧ (80 * v1) + v4 < (2147483648 : Int)) (k4 : (v4 < σ 98 43) → (0 : Int) ≤ (80 * v1) + v4 ∧ (80 * v1) + v4 < (320 : Int)) (k5 : (v4 < σ 98 43) → (0 : Int) ≤ v4 ∧ v4 < (300 : Int)) (k6 : (v4 < σ 98 43) → -2147483648 ≤ v4 + 1 ∧ v4 + 1 < (2147483648 : Int)) (k7 : (v4 < σ 98 43) → zR G MX12_words 13 [zr 98, zi v1, zi v2, zi v3, zi (v4 + 1), zu, zu, zu, zu, zu, zu] [] (zup σ 127 v4 (σ 117 ((80 * v1) + v4))) Q) : zR G MX12_words 13 [zr 98, zi v1, zi v2, zi v3, zi v4, zu, zu, zu, zu, zu, zu] [] σ Q := by
  refine z_iload dX12_words_13 rfl ?_
  refine z_aload_n dX12_words_15 rfl rfl ?_
  refine z_getfI (k := 43) flRX12_306 rfl rfl dX12_words_16 ?_
  refine z_icmp_ge dX12_words_19 (tgt := 47) (by decide) (fun h1 => ?_) (fun h1 => ?_)
  · skip
    refine z_aload_n dX12_words_47 rfl rfl ?_
    refine z_getfR (k := 40) flRX12_97 rfl rfl dX12_words_48 ?_
    refine z_astore (ls' := [zr 98, zi v1, zi v2, zi v3, zr 126, zu, zu, zu, zu, zu, zu]) dX12_words_51 (by decide) rfl ?_
    refine z_iconst dX12_words_53 (by unfold zIn; decide) ?_
    refine z_istore (ls' := [zr 98, zi v1, zi v2, zi v3, zr 126, zi 0, zu, zu, zu, zu, zu]) dX12_words_54 (by decide) rfl ?_
    exact k1 h1
  · skip
    refine z_aload_n dX12_words_22 rfl rfl ?_
    refine z_getfR (k := 41) flRX12_100 rfl rfl dX12_words_23 ?_
    refine z_iload dX12_words_26 rfl ?_
    refine z_aload_n dX12_words_28 rfl rfl ?_
    refine z_getfR (k := 31) flRX12_70 rfl rfl dX12_words_29 ?_
    refine z_bipush (x := 80) dX12_words_32 (by decide +kernel) (by unfold zIn; decide) ?_
    refine z_iload_n dX12_words_34 rfl rfl ?_
    have s2 : -2147483648 ≤ 80 * v1 ∧ 80 * v1 < (2147483648 : Int) := k2 h1
    refine z_imulN dX12_words_35 s2 ?_
    refine z_iload dX12_words_36 rfl ?_
    have s3 : -2147483648 ≤ (80 * v1) + v4 ∧ (80 * v1) + v4 < (2147483648 : Int) := k3 h1
    refine z_iaddN dX12_words_38 s3 ?_
    have s4 : (0 : Int) ≤ (80 * v1) + v4 ∧ (80 * v1) + v4 < (320 : Int) := k4 h1
    refine z_iald rfl s4.1 s4.2 dX12_words_39 ?_
    have s5 : (0 : Int) ≤ v4 ∧ v4 < (300 : Int) := k5 h1
    refine z_iast rfl s5.1 s5.2 dX12_words_40 ?_
    have s6 : -2147483648 ≤ v4 + 1 ∧ v4 + 1 < (2147483648 : Int) := k6 h1
    refine z_iincN (ls' := [zr 98, zi v1, zi v2, zi v3, zi (v4 + 1), zu, zu, zu, zu, zu, zu]) dX12_words_41 rfl (by decide) s6 rfl ?_
    refine z_goto dX12_words_44 (tgt := 13) (by decide) ?_
    exact k7 h1
set_option maxRecDepth 20000 in
set_option maxHeartbeats 1000000 in
theorem TX12_words_56 {G : zG} {σ : zS} {Q : Int → zS → Prop} {v1 v2 v3 v5 : Int}  (k1 : (12 ≤ v5) → zR G MX12_words 81 [zr 98, zi v1, zi v2, zi v3, zr 126, zi (-1), zi (-1), zu, zu, zu, zu] [] σ Q) (k2 : (v5 < 12) → (0 : Int) ≤ v5 ∧ v5 < (12 : Int)) (k3 : (v5 < 12) → -2147483648 ≤ v5 + 1 ∧ v5 + 1 < (2147483648 : Int)) (k4 : (v5 < 12) → zR G MX12_words 56 [zr 98, zi v1, zi v2, zi v3, zr 126, zi (v5 + 1), zu, zu, zu, zu, zu] [] (zup σ 126 v5 0) Q) : zR G MX12_words 56 [zr 98, zi v1, zi v2, zi v3, zr 126, zi v5, zu, zu, zu, zu, zu] [] σ Q := by
  refine z_iload dX12_words_56 rfl ?_
  refine z_bipush (x := 12) dX12_words_58 (by decide +kernel) (by unfold zIn; decide) ?_
  refine z_icmp_ge dX12_words_60 (tgt := 75) (by decide) (fun h1 => ?_) (fun h1 => ?_)
  · skip
    refine z_iconst dX12_words_75 (by unfold zIn; decide) ?_
    refine z_istore (ls' := [zr 98, zi v1, zi v2, zi v3, zr 126, zi (-1), zu, zu, zu, zu, zu]) dX12_words_76 (by decide) rfl ?_
    refine z_iconst dX12_words_78 (by unfold zIn; decide) ?_
    refine z_istore (ls' := [zr 98, zi v1, zi v2, zi v3, zr 126, zi (-1), zi (-1), zu, zu, zu, zu]) dX12_words_79 (by decide) rfl ?_
    exact k1 h1
  · skip
    refine z_aload dX12_words_63 rfl ?_
    refine z_iload dX12_words_65 rfl ?_
    refine z_iconst dX12_words_67 (by unfold zIn; decide) ?_
    have s2 : (0 : Int) ≤ v5 ∧ v5 < (12 : Int) := k2 h1
    refine z_bast rfl s2.1 s2.2 (by decide) dX12_words_68 ?_
    have s3 : -2147483648 ≤ v5 + 1 ∧ v5 + 1 < (2147483648 : Int) := k3 h1
    refine z_iincN (ls' := [zr 98, zi v1, zi v2, zi v3, zr 126, zi (v5 + 1), zu, zu, zu, zu, zu]) dX12_words_69 rfl (by decide) s3 rfl ?_
    refine z_goto dX12_words_72 (tgt := 56) (by decide) ?_
    exact k4 h1
set_option maxRecDepth 20000 in
set_option maxHeartbeats 1000000 in
theorem TX12_words_81 {G : zG} {σ : zS} {Q : Int → zS → Prop} {v1 v2 v3 v5 v6 : Int}  (k1 : zR G MX12_words 87 [zr 98, zi v1, zi v2, zi v3, zr 126, zi v5, zi v6, zi (-1), zi 0, zu, zu] [] σ Q) : zR G MX12_words 81 [zr 98, zi v1, zi v2, zi v3, zr 126, zi v5, zi v6, zu, zu, zu, zu] [] σ Q := by
  refine z_iconst dX12_words_81 (by unfold zIn; decide) ?_
  refine z_istore (ls' := [zr 98, zi v1, zi v2, zi v3, zr 126, zi v5, zi v6, zi (-1), zu, zu, zu]) dX12_words_82 (by decide) rfl ?_
  refine z_iconst dX12_words_84 (by unfold zIn; decide) ?_
  refine z_istore (ls' := [zr 98, zi v1, zi v2, zi v3, zr 126, zi v5, zi v6, zi (-1), zi 0, zu, zu]) dX12_words_85 (by decide) rfl ?_
  exact k1
set_option maxRecDepth 20000 in
set_option maxHeartbeats 1000000 in
theorem TX12_words_87 {G : zG} {σ : zS} {Q : Int → zS → Prop} {v1 v2 v3 v5 v6 v7 v8 : Int}  (k1 : (σ 98 3 ≤ v8) → (v7 ≠ (-1)) → (0 : Int) ≤ v7 ∧ v7 < (12 : Int)) (k2 : (σ 98 3 ≤ v8) → (v7 ≠ (-1)) → zO G MX12_placeOf [zr 98, zi v7] σ (fun rr σ' => zR G MX12_words 201 [zr 98, zi v1, zi v2, zi v3, zr 126, zi v7, zi (σ 120 v7), zi v7, zi v8, zu, zu] [zi rr] σ' Q)) (k3 : (σ 98 3 ≤ v8) → (v7 = (-1)) → Q 0 σ) (k4 : (v8 < σ 98 3) → (0 : Int) ≤ v8 ∧ v8 < (12 : Int)) (k5 : (v8 < σ 98 3) → ((σ 119 v8 = v1 ∧ σ 120 v8 ≤ v2 ∧ σ 121 v8 ≤ v3)) → (v6 ≤ σ 120 v8) → (σ 120 v8 ≠ v6 ∨ (σ 120 v8 = v6 ∧ v5 < v8)) → (v7 ≠ (-1)) → (0 : Int) ≤ v8 ∧ v8 < (12 : Int)) (k6 : (v8 < σ 98 3) → ((σ 119 v8 = v1 ∧ σ 120 v8 ≤ v2 ∧ σ 121 v8 ≤ v3)) → (v6 ≤ σ 120 v8) → (σ 120 v8 ≠ v6 ∨ (σ 120 v8 = v6 ∧ v5 < v8)) → (v7 ≠ (-1)) → (0 : Int) ≤ v7 ∧ v7 < (12 : Int)) (k7 : (v8 < σ 98 3) → ((¬ ((σ 119 v8 = v1 ∧ σ 120 v8 ≤ v2 ∧ σ 121 v8 ≤ v3))) ∨ (((σ 119 v8 = v1 ∧ σ 120 v8 ≤ v2 ∧ σ 121 v8 ≤ v3)) ∧ σ 120 v8 < v6) ∨ (((σ 119 v8 = v1 ∧ σ 120 v8 ≤ v2 ∧ σ 121 v8 ≤ v3)) ∧ v6 ≤ σ 120 v8 ∧ σ 120 v8 = v6 ∧ v8 ≤ v5) ∨ (((σ 119 v8 = v1 ∧ σ 120 v8 ≤ v2 ∧ σ 121 v8 ≤ v3)) ∧ v6 ≤ σ 120 v8 ∧ (σ 120 v8 ≠ v6 ∨ (σ 120 v8 = v6 ∧ v5 < v8)) ∧ v7 ≠ (-1) ∧ σ 120 v7 ≤ σ 120 v8)) → -2147483648 ≤ v8 + 1 ∧ v8 + 1 < (2147483648 : Int)) (k8 : (v8 < σ 98 3) → ((¬ ((σ 119 v8 = v1 ∧ σ 120 v8 ≤ v2 ∧ σ 121 v8 ≤ v3))) ∨ (((σ 119 v8 = v1 ∧ σ 120 v8 ≤ v2 ∧ σ 121 v8 ≤ v3)) ∧ σ 120 v8 < v6) ∨ (((σ 119 v8 = v1 ∧ σ 120 v8 ≤ v2 ∧ σ 121 v8 ≤ v3)) ∧ v6 ≤ σ 120 v8 ∧ σ 120 v8 = v6 ∧ v8 ≤ v5) ∨ (((σ 119 v8 = v1 ∧ σ 120 v8 ≤ v2 ∧ σ 121 v8 ≤ v3)) ∧ v6 ≤ σ 120 v8 ∧ (σ 120 v8 ≠ v6 ∨ (σ 120 v8 = v6 ∧ v5 < v8)) ∧ v7 ≠ (-1) ∧ σ 120 v7 ≤ σ 120 v8)) → zR G MX12_words 87 [zr 98, zi v1, zi v2, zi v3, zr 126, zi v5, zi v6, zi v7, zi (v8 + 1), zu, zu] [] σ Q) (k9 : (v8 < σ 98 3) → ((σ 119 v8 = v1 ∧ σ 120 v8 ≤ v2 ∧ σ 121 v8 ≤ v3)) → (v6 ≤ σ 120 v8) → (σ 120 v8 ≠ v6 ∨ (σ 120 v8 = v6 ∧ v5 < v8)) → (v7 = (-1) ∨ (v7 ≠ (-1) ∧ σ 120 v8 < σ 120 v7)) → -2147483648 ≤ v8 + 1 ∧ v8 + 1 < (2147483648 : Int)) (k10 : (v8 < σ 98 3) → ((σ 119 v8 = v1 ∧ σ 120 v8 ≤ v2 ∧ σ 121 v8 ≤ v3)) → (v6 ≤ σ 120 v8) → (σ 120 v8 ≠ v6 ∨ (σ 120 v8 = v6 ∧ v5 < v8)) → (v7 = (-1) ∨ (v7 ≠ (-1) ∧ σ 120 v8 < σ 120 v7)) → zR G MX12_words 87 [zr 98, zi v1, zi v2, zi v3, zr 126, zi v5, zi v6, zi v8, zi (v8 + 1), zu, zu] [] σ Q) : zR G MX12_words 87 [zr 98, zi v1, zi v2, zi v3, zr 126, zi v5, zi v6, zi v7, zi v8, zu, zu] [] σ Q := by
  have J169_1 : (v8 < σ 98 3) → ((σ 119 v8 = v1 ∧ σ 120 v8 ≤ v2 ∧ σ 121 v8 ≤ v3)) → (v6 ≤ σ 120 v8) → (σ 120 v8 ≠ v6 ∨ (σ 120 v8 = v6 ∧ v5 < v8)) → (v7 = (-1) ∨ (v7 ≠ (-1) ∧ σ 120 v8 < σ 120 v7)) → zR G MX12_words 169 [zr 98, zi v1, zi v2, zi v3, zr 126, zi v5, zi v6, zi v8, zi v8, zu, zu] [] σ Q := by
    intro h1 h3 h4 h7 h10
    have s9 : -2147483648 ≤ v8 + 1 ∧ v8 + 1 < (2147483648 : Int) := k9 h1 h3 h4 h7 h10
    refine z_iincN (ls' := [zr 98, zi v1, zi v2, zi v3, zr 126, zi v5, zi v6, zi v8, zi (v8 + 1), zu, zu]) dX12_words_169 rfl (by decide) s9 rfl ?_
    refine z_goto dX12_words_172 (tgt := 87) (by decide) ?_
    exact k10 h1 h3 h4 h7 h10
  have J169 : (v8 < σ 98 3) → ((¬ ((σ 119 v8 = v1 ∧ σ 120 v8 ≤ v2 ∧ σ 121 v8 ≤ v3))) ∨ (((σ 119 v8 = v1 ∧ σ 120 v8 ≤ v2 ∧ σ 121 v8 ≤ v3)) ∧ σ 120 v8 < v6) ∨ (((σ 119 v8 = v1 ∧ σ 120 v8 ≤ v2 ∧ σ 121 v8 ≤ v3)) ∧ v6 ≤ σ 120 v8 ∧ σ 120 v8 = v6 ∧ v8 ≤ v5) ∨ (((σ 119 v8 = v1 ∧ σ 120 v8 ≤ v2 ∧ σ 121 v8 ≤ v3)) ∧ v6 ≤ σ 120 v8 ∧ (σ 120 v8 ≠ v6 ∨ (σ 120 v8 = v6 ∧ v5 < v8)) ∧ v7 ≠ (-1) ∧ σ 120 v7 ≤ σ 120 v8)) → zR G MX12_words 169 [zr 98, zi v1, zi v2, zi v3, zr 126, zi v5, zi v6, zi v7, zi v8, zu, zu] [] σ Q := by
    intro h1 h11
    have s7 : -2147483648 ≤ v8 + 1 ∧ v8 + 1 < (2147483648 : Int) := k7 h1 h11
    refine z_iincN (ls' := [zr 98, zi v1, zi v2, zi v3, zr 126, zi v5, zi v6, zi v7, zi (v8 + 1), zu, zu]) dX12_words_169 rfl (by decide) s7 rfl ?_
    refine z_goto dX12_words_172 (tgt := 87) (by decide) ?_
    exact k8 h1 h11
  have J165 : (v8 < σ 98 3) → ((σ 119 v8 = v1 ∧ σ 120 v8 ≤ v2 ∧ σ 121 v8 ≤ v3)) → (v6 ≤ σ 120 v8) → (σ 120 v8 ≠ v6 ∨ (σ 120 v8 = v6 ∧ v5 < v8)) → (v7 = (-1) ∨ (v7 ≠ (-1) ∧ σ 120 v8 < σ 120 v7)) → zR G MX12_words 165 [zr 98, zi v1, zi v2, zi v3, zr 126, zi v5, zi v6, zi v7, zi v8, zu, zu] [] σ Q := by
    intro h1 h3 h4 h7 h10
    refine z_iload dX12_words_165 rfl ?_
    refine z_istore (ls' := [zr 98, zi v1, zi v2, zi v3, zr 126, zi v5, zi v6, zi v8, zi v8, zu, zu]) dX12_words_167 (by decide) rfl ?_
    exact J169_1 h1 h3 h4 h7 h10
  have J142 : (v8 < σ 98 3) → ((σ 119 v8 = v1 ∧ σ 120 v8 ≤ v2 ∧ σ 121 v8 ≤ v3)) → (v6 ≤ σ 120 v8) → (σ 120 v8 ≠ v6 ∨ (σ 120 v8 = v6 ∧ v5 < v8)) → zR G MX12_words 142 [zr 98, zi v1, zi v2, zi v3, zr 126, zi v5, zi v6, zi v7, zi v8, zu, zu] [] σ Q := by
    intro h1 h3 h4 h7
    refine z_iload dX12_words_142 rfl ?_
    refine z_iconst dX12_words_144 (by unfold zIn; decide) ?_
    refine z_icmp_eq dX12_words_145 (tgt := 165) (by decide) (fun h8 => ?_) (fun h8 => ?_)
    · skip
      exact J165 h1 h3 h4 h7 (Or.inl h8)
    · skip
      refine z_aload_n dX12_words_148 rfl rfl ?_
      refine z_getfR (k := 34) flRX12_79 rfl rfl dX12_words_149 ?_
      refine z_iload dX12_words_152 rfl ?_
      have s5 : (0 : Int) ≤ v8 ∧ v8 < (12 : Int) := k5 h1 h3 h4 h7 h8
      refine z_iald rfl s5.1 s5.2 dX12_words_154 ?_
      refine z_aload_n dX12_words_155 rfl rfl ?_
      refine z_getfR (k := 34) flRX12_79 rfl rfl dX12_words_156 ?_
      refine z_iload dX12_words_159 rfl ?_
      have s6 : (0 : Int) ≤ v7 ∧ v7 < (12 : Int) := k6 h1 h3 h4 h7 h8
      refine z_iald rfl s6.1 s6.2 dX12_words_161 ?_
      refine z_icmp_ge dX12_words_162 (tgt := 169) (by decide) (fun h9 => ?_) (fun h9 => ?_)
      · skip
        exact J169 h1 (Or.inr (Or.inr (Or.inr ⟨h3, h4, h7, h8, h9⟩)))
      · skip
        exact J165 h1 h3 h4 h7 (Or.inr ⟨h8, h9⟩)
  refine z_iload dX12_words_87 rfl ?_
  refine z_aload_n dX12_words_89 rfl rfl ?_
  refine z_getfI (k := 3) flRX12_303 rfl rfl dX12_words_90 ?_
  refine z_icmp_ge dX12_words_93 (tgt := 175) (by decide) (fun h1 => ?_) (fun h1 => ?_)
  · skip
    refine z_iload dX12_words_175 rfl ?_
    refine z_iconst dX12_words_177 (by unfold zIn; decide) ?_
    refine z_icmp_ne dX12_words_178 (tgt := 182) (by decide) (fun h2 => ?_) (fun h2 => ?_)
    · skip
      refine z_iload dX12_words_182 rfl ?_
      refine z_istore (ls' := [zr 98, zi v1, zi v2, zi v3, zr 126, zi v7, zi v6, zi v7, zi v8, zu, zu]) dX12_words_184 (by decide) rfl ?_
      refine z_aload_n dX12_words_186 rfl rfl ?_
      refine z_getfR (k := 34) flRX12_79 rfl rfl dX12_words_187 ?_
      refine z_iload dX12_words_190 rfl ?_
      have s1 : (0 : Int) ≤ v7 ∧ v7 < (12 : Int) := k1 h1 h2
      refine z_iald rfl s1.1 s1.2 dX12_words_192 ?_
      refine z_istore (ls' := [zr 98, zi v1, zi v2, zi v3, zr 126, zi v7, zi (σ 120 v7), zi v7, zi v8, zu, zu]) dX12_words_193 (by decide) rfl ?_
      refine z_aload_n dX12_words_195 rfl rfl ?_
      refine z_iload dX12_words_196 rfl ?_
      refine z_callv (as := [zi v7]) (st := []) mkX12_placeOf lkRX12_313 rfl rfl rfl (by decide) (Nat.le_of_ble_eq_true rfl) rfl dX12_words_198 (k2 h1 h2)
    · skip
      exact z_vret rfl dX12_words_181 (k3 h1 h2)
  · skip
    refine z_aload_n dX12_words_96 rfl rfl ?_
    refine z_iload dX12_words_97 rfl ?_
    refine z_iload_n dX12_words_99 rfl rfl ?_
    refine z_iload_n dX12_words_100 rfl rfl ?_
    refine z_iload_n dX12_words_101 rfl rfl ?_
    have s4 : (0 : Int) ≤ v8 ∧ v8 < (12 : Int) := k4 h1
    refine z_callv (as := [zi v8, zi v1, zi v2, zi v3]) (st := []) mkX12_isInForce lkRX12_309 rfl rfl rfl (by decide) (Nat.le_of_ble_eq_true rfl) rfl dX12_words_102 ?_
    refine SX12_isInForce s4 ?_
    show zR G MX12_words 105 [zr 98, zi v1, zi v2, zi v3, zr 126, zi v5, zi v6, zi v7, zi v8, zu, zu] [zi (if (σ 119 v8 = v1 ∧ σ 120 v8 ≤ v2 ∧ σ 121 v8 ≤ v3) then (1 : Int) else 0)] σ Q
    refine z_if_eq dX12_words_105 (tgt := 169) (by decide) (fun z => ?_) (fun z => ?_)
    · have h3 : ¬ ((σ 119 v8 = v1 ∧ σ 120 v8 ≤ v2 ∧ σ 121 v8 ≤ v3)) := zb0 z
      exact J169 h1 (Or.inl h3)
    · have h3 : (σ 119 v8 = v1 ∧ σ 120 v8 ≤ v2 ∧ σ 121 v8 ≤ v3) := zb1 z
      refine z_aload_n dX12_words_108 rfl rfl ?_
      refine z_getfR (k := 34) flRX12_79 rfl rfl dX12_words_109 ?_
      refine z_iload dX12_words_112 rfl ?_
      refine z_iald rfl s4.1 s4.2 dX12_words_114 ?_
      refine z_iload dX12_words_115 rfl ?_
      refine z_icmp_lt dX12_words_117 (tgt := 169) (by decide) (fun h4 => ?_) (fun h4 => ?_)
      · skip
        exact J169 h1 (Or.inr (Or.inl ⟨h3, h4⟩))
      · skip
        refine z_aload_n dX12_words_120 rfl rfl ?_
        refine z_getfR (k := 34) flRX12_79 rfl rfl dX12_words_121 ?_
        refine z_iload dX12_words_124 rfl ?_
        refine z_iald rfl s4.1 s4.2 dX12_words_126 ?_
        refine z_iload dX12_words_127 rfl ?_
        refine z_icmp_ne dX12_words_129 (tgt := 142) (by decide) (fun h5 => ?_) (fun h5 => ?_)
        · skip
          exact J142 h1 h3 h4 (Or.inl h5)
        · skip
          refine z_iload dX12_words_132 rfl ?_
          refine z_iload dX12_words_134 rfl ?_
          refine z_icmp_gt dX12_words_136 (tgt := 142) (by decide) (fun h6 => ?_) (fun h6 => ?_)
          · skip
            exact J142 h1 h3 h4 (Or.inr ⟨h5, h6⟩)
          · skip
            refine z_goto dX12_words_139 (tgt := 169) (by decide) ?_
            exact J169 h1 (Or.inr (Or.inr (Or.inl ⟨h3, h4, h5, h6⟩)))
set_option maxRecDepth 20000 in
set_option maxHeartbeats 1000000 in
theorem TX12_words_201 {G : zG} {σ : zS} {Q : Int → zS → Prop} {v1 v2 v3 v5 v6 v7 v8 r : Int}  (k1 : (r ≠ (-1)) → (0 : Int) ≤ v7 ∧ v7 < (12 : Int)) (k2 : (r ≠ (-1)) → -2147483648 ≤ σ 98 43 - σ 122 v7 ∧ σ 98 43 - σ 122 v7 < (2147483648 : Int)) (k3 : (r ≠ (-1)) → -2147483648 ≤ (σ 98 43 - σ 122 v7) + σ 123 v7 ∧ (σ 98 43 - σ 122 v7) + σ 123 v7 < (2147483648 : Int)) (k4 : (r ≠ (-1)) → ((σ 98 43 - σ 122 v7) + σ 123 v7 ≤ 200) → zR G MX12_words 250 [zr 98, zi v1, zi v2, zi v3, zr 126, zi v5, zi v6, zi v7, zi r, zi 0, zi 0] [] σ Q) (k5 : (r = (-1) ∨ (r ≠ (-1) ∧ 200 < (σ 98 43 - σ 122 v7) + σ 123 v7)) → (0 : Int) ≤ v7 ∧ v7 < (12 : Int)) (k6 : (r = (-1) ∨ (r ≠ (-1) ∧ 200 < (σ 98 43 - σ 122 v7) + σ 123 v7)) → zR G MX12_words 81 [zr 98, zi v1, zi v2, zi v3, zr 126, zi v5, zi v6, zu, zu, zu, zu] [] (zup σ 126 v7 1) Q) : zR G MX12_words 201 [zr 98, zi v1, zi v2, zi v3, zr 126, zi v5, zi v6, zi v7, zi v8, zu, zu] [zi r] σ Q := by
  have J235 : (r = (-1) ∨ (r ≠ (-1) ∧ 200 < (σ 98 43 - σ 122 v7) + σ 123 v7)) → zR G MX12_words 235 [zr 98, zi v1, zi v2, zi v3, zr 126, zi v5, zi v6, zi v7, zi r, zu, zu] [] σ Q := by
    intro h3
    refine z_aload dX12_words_235 rfl ?_
    refine z_iload dX12_words_237 rfl ?_
    refine z_iconst dX12_words_239 (by unfold zIn; decide) ?_
    have s5 : (0 : Int) ≤ v7 ∧ v7 < (12 : Int) := k5 h3
    refine z_bast rfl s5.1 s5.2 (by decide) dX12_words_240 ?_
    refine z_goto dX12_words_241 (tgt := 81) (by decide) ?_
    exact zR_fg [false, false, false, false, false, false, false, true, true, false, false] (k6 h3)
  refine z_istore (ls' := [zr 98, zi v1, zi v2, zi v3, zr 126, zi v5, zi v6, zi v7, zi r, zu, zu]) dX12_words_201 (by decide) rfl ?_
  refine z_iload dX12_words_203 rfl ?_
  refine z_iconst dX12_words_205 (by unfold zIn; decide) ?_
  refine z_icmp_eq dX12_words_206 (tgt := 235) (by decide) (fun h1 => ?_) (fun h1 => ?_)
  · skip
    exact J235 (Or.inl h1)
  · skip
    refine z_aload_n dX12_words_209 rfl rfl ?_
    refine z_getfI (k := 43) flRX12_306 rfl rfl dX12_words_210 ?_
    refine z_aload_n dX12_words_213 rfl rfl ?_
    refine z_getfR (k := 36) flRX12_85 rfl rfl dX12_words_214 ?_
    refine z_iload dX12_words_217 rfl ?_
    have s1 : (0 : Int) ≤ v7 ∧ v7 < (12 : Int) := k1 h1
    refine z_iald rfl s1.1 s1.2 dX12_words_219 ?_
    have s2 : -2147483648 ≤ σ 98 43 - σ 122 v7 ∧ σ 98 43 - σ 122 v7 < (2147483648 : Int) := k2 h1
    refine z_isubN dX12_words_220 s2 ?_
    refine z_aload_n dX12_words_221 rfl rfl ?_
    refine z_getfR (k := 37) flRX12_88 rfl rfl dX12_words_222 ?_
    refine z_iload dX12_words_225 rfl ?_
    refine z_iald rfl s1.1 s1.2 dX12_words_227 ?_
    have s3 : -2147483648 ≤ (σ 98 43 - σ 122 v7) + σ 123 v7 ∧ (σ 98 43 - σ 122 v7) + σ 123 v7 < (2147483648 : Int) := k3 h1
    refine z_iaddN dX12_words_228 s3 ?_
    refine z_sipush (x := 200) dX12_words_229 (by decide +kernel) (by unfold zIn; decide) ?_
    refine z_icmp_le dX12_words_232 (tgt := 244) (by decide) (fun h2 => ?_) (fun h2 => ?_)
    · skip
      refine z_iconst dX12_words_244 (by unfold zIn; decide) ?_
      refine z_istore (ls' := [zr 98, zi v1, zi v2, zi v3, zr 126, zi v5, zi v6, zi v7, zi r, zi 0, zu]) dX12_words_245 (by decide) rfl ?_
      refine z_iconst dX12_words_247 (by unfold zIn; decide) ?_
      refine z_istore (ls' := [zr 98, zi v1, zi v2, zi v3, zr 126, zi v5, zi v6, zi v7, zi r, zi 0, zi 0]) dX12_words_248 (by decide) rfl ?_
      exact k4 h1 h2
    · skip
      exact J235 (Or.inr ⟨h1, h2⟩)
set_option maxRecDepth 20000 in
set_option maxHeartbeats 1000000 in
theorem TX12_words_250 {G : zG} {σ : zS} {Q : Int → zS → Prop} {v1 v2 v3 v5 v6 v7 v8 v9 v10 : Int}  (k1 : (v8 ≤ v10) → zR G MX12_words 283 [zr 98, zi v1, zi v2, zi v3, zr 126, zi v5, zi v6, zi v7, zi v8, zi v9, zi 0] [] σ Q) (k2 : (v10 < v8) → -2147483648 ≤ v9 + 1 ∧ v9 + 1 < (2147483648 : Int)) (k3 : (v10 < v8) → (0 : Int) ≤ v10 ∧ v10 < (300 : Int)) (k4 : (v10 < v8) → (0 : Int) ≤ v9 ∧ v9 < (300 : Int)) (k5 : (v10 < v8) → -2147483648 ≤ v10 + 1 ∧ v10 + 1 < (2147483648 : Int)) (k6 : (v10 < v8) → zR G MX12_words 250 [zr 98, zi v1, zi v2, zi v3, zr 126, zi v5, zi v6, zi v7, zi v8, zi (v9 + 1), zi (v10 + 1)] [] (zup σ 128 v9 (σ 127 v10)) Q) : zR G MX12_words 250 [zr 98, zi v1, zi v2, zi v3, zr 126, zi v5, zi v6, zi v7, zi v8, zi v9, zi v10] [] σ Q := by
  refine z_iload dX12_words_250 rfl ?_
  refine z_iload dX12_words_252 rfl ?_
  refine z_icmp_ge dX12_words_254 (tgt := 280) (by decide) (fun h1 => ?_) (fun h1 => ?_)
  · skip
    refine z_iconst dX12_words_280 (by unfold zIn; decide) ?_
    refine z_istore (ls' := [zr 98, zi v1, zi v2, zi v3, zr 126, zi v5, zi v6, zi v7, zi v8, zi v9, zi 0]) dX12_words_281 (by decide) rfl ?_
    exact k1 h1
  · skip
    refine z_aload_n dX12_words_257 rfl rfl ?_
    refine z_getfR (k := 42) flRX12_103 rfl rfl dX12_words_258 ?_
    refine z_iload dX12_words_261 rfl ?_
    have s2 : -2147483648 ≤ v9 + 1 ∧ v9 + 1 < (2147483648 : Int) := k2 h1
    refine z_iincN (ls' := [zr 98, zi v1, zi v2, zi v3, zr 126, zi v5, zi v6, zi v7, zi v8, zi (v9 + 1), zi v10]) dX12_words_263 rfl (by decide) s2 rfl ?_
    refine z_aload_n dX12_words_266 rfl rfl ?_
    refine z_getfR (k := 41) flRX12_100 rfl rfl dX12_words_267 ?_
    refine z_iload dX12_words_270 rfl ?_
    have s3 : (0 : Int) ≤ v10 ∧ v10 < (300 : Int) := k3 h1
    refine z_iald rfl s3.1 s3.2 dX12_words_272 ?_
    have s4 : (0 : Int) ≤ v9 ∧ v9 < (300 : Int) := k4 h1
    refine z_iast rfl s4.1 s4.2 dX12_words_273 ?_
    have s5 : -2147483648 ≤ v10 + 1 ∧ v10 + 1 < (2147483648 : Int) := k5 h1
    refine z_iincN (ls' := [zr 98, zi v1, zi v2, zi v3, zr 126, zi v5, zi v6, zi v7, zi v8, zi (v9 + 1), zi (v10 + 1)]) dX12_words_274 rfl (by decide) s5 rfl ?_
    refine z_goto dX12_words_277 (tgt := 250) (by decide) ?_
    exact k6 h1
set_option maxRecDepth 20000 in
set_option maxHeartbeats 1000000 in
theorem TX12_words_283 {G : zG} {σ : zS} {Q : Int → zS → Prop} {v1 v2 v3 v5 v6 v7 v8 v9 v10 : Int}  (k1 : (0 : Int) ≤ v7 ∧ v7 < (12 : Int)) (k2 : (σ 123 v7 ≤ v10) → -2147483648 ≤ v8 + σ 122 v7 ∧ v8 + σ 122 v7 < (2147483648 : Int)) (k3 : (σ 123 v7 ≤ v10) → zR G MX12_words 336 [zr 98, zi v1, zi v2, zi v3, zr 126, zi v5, zi v6, zi v7, zi v8, zi v9, zi (v8 + σ 122 v7)] [] σ Q) (k4 : (v10 < σ 123 v7) → -2147483648 ≤ v9 + 1 ∧ v9 + 1 < (2147483648 : Int)) (k5 : (v10 < σ 123 v7) → -2147483648 ≤ 80 * v7 ∧ 80 * v7 < (2147483648 : Int)) (k6 : (v10 < σ 123 v7) → -2147483648 ≤ (80 * v7) + v10 ∧ (80 * v7) + v10 < (2147483648 : Int)) (k7 : (v10 < σ 123 v7) → (0 : Int) ≤ (80 * v7) + v10 ∧ (80 * v7) + v10 < (960 : Int)) (k8 : (v10 < σ 123 v7) → (0 : Int) ≤ v9 ∧ v9 < (300 : Int)) (k9 : (v10 < σ 123 v7) → -2147483648 ≤ v10 + 1 ∧ v10 + 1 < (2147483648 : Int)) (k10 : (v10 < σ 123 v7) → zR G MX12_words 283 [zr 98, zi v1, zi v2, zi v3, zr 126, zi v5, zi v6, zi v7, zi v8, zi (v9 + 1), zi (v10 + 1)] [] (zup σ 128 v9 (σ 125 ((80 * v7) + v10))) Q) : zR G MX12_words 283 [zr 98, zi v1, zi v2, zi v3, zr 126, zi v5, zi v6, zi v7, zi v8, zi v9, zi v10] [] σ Q := by
  refine z_iload dX12_words_283 rfl ?_
  refine z_aload_n dX12_words_285 rfl rfl ?_
  refine z_getfR (k := 37) flRX12_88 rfl rfl dX12_words_286 ?_
  refine z_iload dX12_words_289 rfl ?_
  have s1 : (0 : Int) ≤ v7 ∧ v7 < (12 : Int) := k1
  refine z_iald rfl s1.1 s1.2 dX12_words_291 ?_
  refine z_icmp_ge dX12_words_292 (tgt := 324) (by decide) (fun h1 => ?_) (fun h1 => ?_)
  · skip
    refine z_iload dX12_words_324 rfl ?_
    refine z_aload_n dX12_words_326 rfl rfl ?_
    refine z_getfR (k := 36) flRX12_85 rfl rfl dX12_words_327 ?_
    refine z_iload dX12_words_330 rfl ?_
    refine z_iald rfl s1.1 s1.2 dX12_words_332 ?_
    have s2 : -2147483648 ≤ v8 + σ 122 v7 ∧ v8 + σ 122 v7 < (2147483648 : Int) := k2 h1
    refine z_iaddN dX12_words_333 s2 ?_
    refine z_istore (ls' := [zr 98, zi v1, zi v2, zi v3, zr 126, zi v5, zi v6, zi v7, zi v8, zi v9, zi (v8 + σ 122 v7)]) dX12_words_334 (by decide) rfl ?_
    exact k3 h1
  · skip
    refine z_aload_n dX12_words_295 rfl rfl ?_
    refine z_getfR (k := 42) flRX12_103 rfl rfl dX12_words_296 ?_
    refine z_iload dX12_words_299 rfl ?_
    have s4 : -2147483648 ≤ v9 + 1 ∧ v9 + 1 < (2147483648 : Int) := k4 h1
    refine z_iincN (ls' := [zr 98, zi v1, zi v2, zi v3, zr 126, zi v5, zi v6, zi v7, zi v8, zi (v9 + 1), zi v10]) dX12_words_301 rfl (by decide) s4 rfl ?_
    refine z_aload_n dX12_words_304 rfl rfl ?_
    refine z_getfR (k := 39) flRX12_94 rfl rfl dX12_words_305 ?_
    refine z_bipush (x := 80) dX12_words_308 (by decide +kernel) (by unfold zIn; decide) ?_
    refine z_iload dX12_words_310 rfl ?_
    have s5 : -2147483648 ≤ 80 * v7 ∧ 80 * v7 < (2147483648 : Int) := k5 h1
    refine z_imulN dX12_words_312 s5 ?_
    refine z_iload dX12_words_313 rfl ?_
    have s6 : -2147483648 ≤ (80 * v7) + v10 ∧ (80 * v7) + v10 < (2147483648 : Int) := k6 h1
    refine z_iaddN dX12_words_315 s6 ?_
    have s7 : (0 : Int) ≤ (80 * v7) + v10 ∧ (80 * v7) + v10 < (960 : Int) := k7 h1
    refine z_iald rfl s7.1 s7.2 dX12_words_316 ?_
    have s8 : (0 : Int) ≤ v9 ∧ v9 < (300 : Int) := k8 h1
    refine z_iast rfl s8.1 s8.2 dX12_words_317 ?_
    have s9 : -2147483648 ≤ v10 + 1 ∧ v10 + 1 < (2147483648 : Int) := k9 h1
    refine z_iincN (ls' := [zr 98, zi v1, zi v2, zi v3, zr 126, zi v5, zi v6, zi v7, zi v8, zi (v9 + 1), zi (v10 + 1)]) dX12_words_318 rfl (by decide) s9 rfl ?_
    refine z_goto dX12_words_321 (tgt := 283) (by decide) ?_
    exact k10 h1
set_option maxRecDepth 20000 in
set_option maxHeartbeats 1000000 in
theorem TX12_words_336 {G : zG} {σ : zS} {Q : Int → zS → Prop} {v1 v2 v3 v5 v6 v7 v8 v9 v10 : Int}  (k1 : (σ 98 43 ≤ v10) → zR G MX12_words 377 [zr 98, zi v1, zi v2, zi v3, zr 126, zi v5, zi v6, zi v7, zi v8, zi v9, zi 0] [] (zup σ 98 43 v9) Q) (k2 : (v10 < σ 98 43) → -2147483648 ≤ v9 + 1 ∧ v9 + 1 < (2147483648 : Int)) (k3 : (v10 < σ 98 43) → (0 : Int) ≤ v10 ∧ v10 < (300 : Int)) (k4 : (v10 < σ 98 43) → (0 : Int) ≤ v9 ∧ v9 < (300 : Int)) (k5 : (v10 < σ 98 43) → -2147483648 ≤ v10 + 1 ∧ v10 + 1 < (2147483648 : Int)) (k6 : (v10 < σ 98 43) → zR G MX12_words 336 [zr 98, zi v1, zi v2, zi v3, zr 126, zi v5, zi v6, zi v7, zi v8, zi (v9 + 1), zi (v10 + 1)] [] (zup σ 128 v9 (σ 127 v10)) Q) : zR G MX12_words 336 [zr 98, zi v1, zi v2, zi v3, zr 126, zi v5, zi v6, zi v7, zi v8, zi v9, zi v10] [] σ Q := by
  refine z_iload dX12_words_336 rfl ?_
  refine z_aload_n dX12_words_338 rfl rfl ?_
  refine z_getfI (k := 43) flRX12_306 rfl rfl dX12_words_339 ?_
  refine z_icmp_ge dX12_words_342 (tgt := 368) (by decide) (fun h1 => ?_) (fun h1 => ?_)
  · skip
    refine z_aload_n dX12_words_368 rfl rfl ?_
    refine z_iload dX12_words_369 rfl ?_
    refine z_putI (k := 43) fpRX12_306 rfl rfl dX12_words_371 ?_
    refine z_iconst dX12_words_374 (by unfold zIn; decide) ?_
    refine z_istore (ls' := [zr 98, zi v1, zi v2, zi v3, zr 126, zi v5, zi v6, zi v7, zi v8, zi v9, zi 0]) dX12_words_375 (by decide) rfl ?_
    exact k1 h1
  · skip
    refine z_aload_n dX12_words_345 rfl rfl ?_
    refine z_getfR (k := 42) flRX12_103 rfl rfl dX12_words_346 ?_
    refine z_iload dX12_words_349 rfl ?_
    have s2 : -2147483648 ≤ v9 + 1 ∧ v9 + 1 < (2147483648 : Int) := k2 h1
    refine z_iincN (ls' := [zr 98, zi v1, zi v2, zi v3, zr 126, zi v5, zi v6, zi v7, zi v8, zi (v9 + 1), zi v10]) dX12_words_351 rfl (by decide) s2 rfl ?_
    refine z_aload_n dX12_words_354 rfl rfl ?_
    refine z_getfR (k := 41) flRX12_100 rfl rfl dX12_words_355 ?_
    refine z_iload dX12_words_358 rfl ?_
    have s3 : (0 : Int) ≤ v10 ∧ v10 < (300 : Int) := k3 h1
    refine z_iald rfl s3.1 s3.2 dX12_words_360 ?_
    have s4 : (0 : Int) ≤ v9 ∧ v9 < (300 : Int) := k4 h1
    refine z_iast rfl s4.1 s4.2 dX12_words_361 ?_
    have s5 : -2147483648 ≤ v10 + 1 ∧ v10 + 1 < (2147483648 : Int) := k5 h1
    refine z_iincN (ls' := [zr 98, zi v1, zi v2, zi v3, zr 126, zi v5, zi v6, zi v7, zi v8, zi (v9 + 1), zi (v10 + 1)]) dX12_words_362 rfl (by decide) s5 rfl ?_
    refine z_goto dX12_words_365 (tgt := 336) (by decide) ?_
    exact k6 h1
set_option maxRecDepth 20000 in
set_option maxHeartbeats 1000000 in
theorem TX12_words_377 {G : zG} {σ : zS} {Q : Int → zS → Prop} {v1 v2 v3 v5 v6 v7 v8 v9 v10 : Int}  (k1 : (v9 ≤ v10) → zR G MX12_words 81 [zr 98, zi v1, zi v2, zi v3, zr 126, zi v5, zi v6, zu, zu, zu, zu] [] σ Q) (k2 : (v10 < v9) → (0 : Int) ≤ v10 ∧ v10 < (300 : Int)) (k3 : (v10 < v9) → -2147483648 ≤ v10 + 1 ∧ v10 + 1 < (2147483648 : Int)) (k4 : (v10 < v9) → zR G MX12_words 377 [zr 98, zi v1, zi v2, zi v3, zr 126, zi v5, zi v6, zi v7, zi v8, zi v9, zi (v10 + 1)] [] (zup σ 127 v10 (σ 128 v10)) Q) : zR G MX12_words 377 [zr 98, zi v1, zi v2, zi v3, zr 126, zi v5, zi v6, zi v7, zi v8, zi v9, zi v10] [] σ Q := by
  refine z_iload dX12_words_377 rfl ?_
  refine z_iload dX12_words_379 rfl ?_
  refine z_icmp_ge dX12_words_381 (tgt := 404) (by decide) (fun h1 => ?_) (fun h1 => ?_)
  · skip
    refine z_goto dX12_words_404 (tgt := 81) (by decide) ?_
    exact zR_fg [false, false, false, false, false, false, false, true, true, true, true] (k1 h1)
  · skip
    refine z_aload_n dX12_words_384 rfl rfl ?_
    refine z_getfR (k := 41) flRX12_100 rfl rfl dX12_words_385 ?_
    refine z_iload dX12_words_388 rfl ?_
    refine z_aload_n dX12_words_390 rfl rfl ?_
    refine z_getfR (k := 42) flRX12_103 rfl rfl dX12_words_391 ?_
    refine z_iload dX12_words_394 rfl ?_
    have s2 : (0 : Int) ≤ v10 ∧ v10 < (300 : Int) := k2 h1
    refine z_iald rfl s2.1 s2.2 dX12_words_396 ?_
    refine z_iast rfl s2.1 s2.2 dX12_words_397 ?_
    have s3 : -2147483648 ≤ v10 + 1 ∧ v10 + 1 < (2147483648 : Int) := k3 h1
    refine z_iincN (ls' := [zr 98, zi v1, zi v2, zi v3, zr 126, zi v5, zi v6, zi v7, zi v8, zi v9, zi (v10 + 1)]) dX12_words_398 rfl (by decide) s3 rfl ?_
    refine z_goto dX12_words_401 (tgt := 377) (by decide) ?_
    exact k4 h1
set_option maxRecDepth 20000 in
set_option maxHeartbeats 1000000 in
theorem TX12_words_ {G : zG} {σ : zS} {Q : Int → zS → Prop} {a1 a2 a3 a4 : Int}  (k1 : ((0 ≤ a1 ∧ a1 < 4)) → zO G MX12_words [zr 98, zi a1, zi a2, zi a3] σ (fun rr σ' => zR G MX12_words_ 16 [zr 98, zi a1, zi a2, zi a3, zi a4] [] σ' Q)) (k2 : (¬ ((0 ≤ a1 ∧ a1 < 4))) → Q (-1) σ) : zO G MX12_words_ [zr 98, zi a1, zi a2, zi a3, zi a4] σ Q := by
  refine zO_of (ls0 := [zr 98, zi a1, zi a2, zi a3, zi a4]) (by decide) (Nat.le_of_ble_eq_true rfl) rfl ?_
  refine z_iload_n dX12_words__0 rfl rfl ?_
  refine z_calls (as := [zi a1]) (st := []) mkX12_isStatute lkRX12_297 rfl (by decide) (Nat.le_of_ble_eq_true rfl) rfl dX12_words__1 ?_
  refine SX12_isStatute ?_
  show zR G MX12_words_ 4 [zr 98, zi a1, zi a2, zi a3, zi a4] [zi (if (0 ≤ a1 ∧ a1 < 4) then (1 : Int) else 0)] σ Q
  refine z_if_ne dX12_words__4 (tgt := 9) (by decide) (fun z => ?_) (fun z => ?_)
  · have h1 : (0 ≤ a1 ∧ a1 < 4) := zb1 z
    refine z_aload_n dX12_words__9 rfl rfl ?_
    refine z_iload_n dX12_words__10 rfl rfl ?_
    refine z_iload_n dX12_words__11 rfl rfl ?_
    refine z_iload_n dX12_words__12 rfl rfl ?_
    refine z_callv (as := [zi a1, zi a2, zi a3]) (st := []) mkX12_words lkRX12_316 rfl rfl rfl (by decide) (Nat.le_of_ble_eq_true rfl) rfl dX12_words__13 (k1 h1)
  · have h1 : ¬ ((0 ≤ a1 ∧ a1 < 4)) := zb0 z
    refine z_iconst dX12_words__7 (by unfold zIn; decide) ?_
    exact z_ireti rfl dX12_words__8 (k2 h1)
set_option maxRecDepth 20000 in
set_option maxHeartbeats 1000000 in
theorem TX12_words__16 {G : zG} {σ : zS} {Q : Int → zS → Prop} {v1 v2 v3 v4 : Int}  (k1 : (v4 ≠ (-1)) → (0 ≤ v4) → (v4 < σ 98 43) → (0 : Int) ≤ v4 ∧ v4 < (300 : Int)) (k2 : (v4 ≠ (-1)) → (0 ≤ v4) → (v4 < σ 98 43) → Q (σ 127 v4) σ) (k3 : (v4 = (-1)) → Q (σ 98 43) σ) (k4 : (v4 ≠ (-1)) → (v4 < 0 ∨ (0 ≤ v4 ∧ σ 98 43 ≤ v4)) → Q (-1) σ) : zR G MX12_words_ 16 [zr 98, zi v1, zi v2, zi v3, zi v4] [] σ Q := by
  have J51 : (v4 ≠ (-1)) → (v4 < 0 ∨ (0 ≤ v4 ∧ σ 98 43 ≤ v4)) → zR G MX12_words_ 51 [zr 98, zi v1, zi v2, zi v3, zi v4] [] σ Q := by
    intro h1 h4
    refine z_iconst dX12_words__51 (by unfold zIn; decide) ?_
    exact z_ireti rfl dX12_words__52 (k4 h1 h4)
  refine z_iload dX12_words__16 rfl ?_
  refine z_iconst dX12_words__18 (by unfold zIn; decide) ?_
  refine z_icmp_ne dX12_words__19 (tgt := 27) (by decide) (fun h1 => ?_) (fun h1 => ?_)
  · skip
    refine z_iload dX12_words__27 rfl ?_
    refine z_if_lt dX12_words__29 (tgt := 51) (by decide) (fun h2 => ?_) (fun h2 => ?_)
    · skip
      exact J51 h1 (Or.inl h2)
    · skip
      refine z_iload dX12_words__32 rfl ?_
      refine z_aload_n dX12_words__34 rfl rfl ?_
      refine z_getfI (k := 43) flRX12_306 rfl rfl dX12_words__35 ?_
      refine z_icmp_ge dX12_words__38 (tgt := 51) (by decide) (fun h3 => ?_) (fun h3 => ?_)
      · skip
        exact J51 h1 (Or.inr ⟨h2, h3⟩)
      · skip
        refine z_aload_n dX12_words__41 rfl rfl ?_
        refine z_getfR (k := 41) flRX12_100 rfl rfl dX12_words__42 ?_
        refine z_iload dX12_words__45 rfl ?_
        have s1 : (0 : Int) ≤ v4 ∧ v4 < (300 : Int) := k1 h1 h2 h3
        refine z_iald rfl s1.1 s1.2 dX12_words__47 ?_
        refine z_goto dX12_words__48 (tgt := 52) (by decide) ?_
        exact z_ireti rfl dX12_words__52 (k2 h1 h2 h3)
  · skip
    refine z_aload_n dX12_words__22 rfl rfl ?_
    refine z_getfI (k := 43) flRX12_306 rfl rfl dX12_words__23 ?_
    exact z_ireti rfl dX12_words__26 (k3 h1)
set_option maxRecDepth 20000 in
set_option maxHeartbeats 1000000 in
theorem TX12_gone {G : zG} {σ : zS} {Q : Int → zS → Prop} {a1 a2 a3 : Int}  (k1 : (0 ≤ a1) → (a1 < σ 98 3) → (0 : Int) ≤ a1 ∧ a1 < (12 : Int)) (k2 : (0 ≤ a1) → (a1 < σ 98 3) → ((σ 119 a1 = (σ 119 a1) ∧ σ 120 a1 ≤ a2 ∧ σ 121 a1 ≤ a3)) → zO G MX12_words [zr 98, zi (σ 119 a1), zi a2, zi a3] σ (fun rr σ' => zR G MX12_gone 42 [zr 98, zi a1, zi a2, zi a3] [] σ' Q)) (k3 : (a1 < 0 ∨ (0 ≤ a1 ∧ σ 98 3 ≤ a1) ∨ (0 ≤ a1 ∧ a1 < σ 98 3 ∧ (¬ ((σ 119 a1 = (σ 119 a1) ∧ σ 120 a1 ≤ a2 ∧ σ 121 a1 ≤ a3))))) → Q (-1) σ) : zO G MX12_gone [zr 98, zi a1, zi a2, zi a3] σ Q := by
  refine zO_of (ls0 := [zr 98, zi a1, zi a2, zi a3]) (by decide) (Nat.le_of_ble_eq_true rfl) rfl ?_
  have J28 : (a1 < 0 ∨ (0 ≤ a1 ∧ σ 98 3 ≤ a1) ∨ (0 ≤ a1 ∧ a1 < σ 98 3 ∧ (¬ ((σ 119 a1 = (σ 119 a1) ∧ σ 120 a1 ≤ a2 ∧ σ 121 a1 ≤ a3))))) → zR G MX12_gone 28 [zr 98, zi a1, zi a2, zi a3] [] σ Q := by
    intro h4
    refine z_iconst dX12_gone_28 (by unfold zIn; decide) ?_
    exact z_ireti rfl dX12_gone_29 (k3 h4)
  refine z_iload_n dX12_gone_0 rfl rfl ?_
  refine z_if_lt dX12_gone_1 (tgt := 28) (by decide) (fun h1 => ?_) (fun h1 => ?_)
  · skip
    exact J28 (Or.inl h1)
  · skip
    refine z_iload_n dX12_gone_4 rfl rfl ?_
    refine z_aload_n dX12_gone_5 rfl rfl ?_
    refine z_getfI (k := 3) flRX12_303 rfl rfl dX12_gone_6 ?_
    refine z_icmp_ge dX12_gone_9 (tgt := 28) (by decide) (fun h2 => ?_) (fun h2 => ?_)
    · skip
      exact J28 (Or.inr (Or.inl ⟨h1, h2⟩))
    · skip
      refine z_aload_n dX12_gone_12 rfl rfl ?_
      refine z_iload_n dX12_gone_13 rfl rfl ?_
      refine z_aload_n dX12_gone_14 rfl rfl ?_
      refine z_getfR (k := 33) flRX12_76 rfl rfl dX12_gone_15 ?_
      refine z_iload_n dX12_gone_18 rfl rfl ?_
      have s1 : (0 : Int) ≤ a1 ∧ a1 < (12 : Int) := k1 h1 h2
      refine z_iald rfl s1.1 s1.2 dX12_gone_19 ?_
      refine z_iload_n dX12_gone_20 rfl rfl ?_
      refine z_iload_n dX12_gone_21 rfl rfl ?_
      refine z_callv (as := [zi a1, zi (σ 119 a1), zi a2, zi a3]) (st := []) mkX12_isInForce lkRX12_309 rfl rfl rfl (by decide) (Nat.le_of_ble_eq_true rfl) rfl dX12_gone_22 ?_
      refine SX12_isInForce s1 ?_
      show zR G MX12_gone 25 [zr 98, zi a1, zi a2, zi a3] [zi (if (σ 119 a1 = (σ 119 a1) ∧ σ 120 a1 ≤ a2 ∧ σ 121 a1 ≤ a3) then (1 : Int) else 0)] σ Q
      refine z_if_ne dX12_gone_25 (tgt := 30) (by decide) (fun z => ?_) (fun z => ?_)
      · have h3 : (σ 119 a1 = (σ 119 a1) ∧ σ 120 a1 ≤ a2 ∧ σ 121 a1 ≤ a3) := zb1 z
        refine z_aload_n dX12_gone_30 rfl rfl ?_
        refine z_aload_n dX12_gone_31 rfl rfl ?_
        refine z_getfR (k := 33) flRX12_76 rfl rfl dX12_gone_32 ?_
        refine z_iload_n dX12_gone_35 rfl rfl ?_
        refine z_iald rfl s1.1 s1.2 dX12_gone_36 ?_
        refine z_iload_n dX12_gone_37 rfl rfl ?_
        refine z_iload_n dX12_gone_38 rfl rfl ?_
        refine z_callv (as := [zi (σ 119 a1), zi a2, zi a3]) (st := []) mkX12_words lkRX12_316 rfl rfl rfl (by decide) (Nat.le_of_ble_eq_true rfl) rfl dX12_gone_39 (k2 h1 h2 h3)
      · have h3 : ¬ ((σ 119 a1 = (σ 119 a1) ∧ σ 120 a1 ≤ a2 ∧ σ 121 a1 ≤ a3)) := zb0 z
        exact J28 (Or.inr (Or.inr ⟨h1, h2, h3⟩))
set_option maxRecDepth 20000 in
set_option maxHeartbeats 1000000 in
theorem TX12_gone_42 {G : zG} {σ : zS} {Q : Int → zS → Prop} {v1 v2 v3 : Int}  (k1 : (0 : Int) ≤ v1 ∧ v1 < (12 : Int)) (k2 : (σ 126 v1 = 0) → Q 0 σ) (k3 : (σ 126 v1 ≠ 0) → Q 1 σ) : zR G MX12_gone 42 [zr 98, zi v1, zi v2, zi v3] [] σ Q := by
  refine z_aload_n dX12_gone_42 rfl rfl ?_
  refine z_getfR (k := 40) flRX12_97 rfl rfl dX12_gone_43 ?_
  refine z_iload_n dX12_gone_46 rfl rfl ?_
  have s1 : (0 : Int) ≤ v1 ∧ v1 < (12 : Int) := k1
  refine z_bald rfl s1.1 s1.2 dX12_gone_47 ?_
  refine z_if_eq dX12_gone_48 (tgt := 55) (by decide) (fun h1 => ?_) (fun h1 => ?_)
  · skip
    refine z_iconst dX12_gone_55 (by unfold zIn; decide) ?_
    exact z_ireti rfl dX12_gone_56 (k2 h1)
  · skip
    refine z_iconst dX12_gone_51 (by unfold zIn; decide) ?_
    refine z_goto dX12_gone_52 (tgt := 56) (by decide) ?_
    exact z_ireti rfl dX12_gone_56 (k3 h1)
