set_option maxRecDepth 20000 in
set_option maxHeartbeats 1000000 in
theorem TX6_isOutOfGrace {G : zG} {σ : zS} {Q : Int → zS → Prop} {a1 a2 : Int}  (k1 : (0 : Int) ≤ a1 ∧ a1 < (12 : Int)) (k2 : zO G MX3_weigh [zr 47, zi (σ 54 a1), zi (σ 53 a1), zi a2, zi a2, zi (-1)] σ (fun rr σ' => zR G MX6_isOutOfGrace 22 [zr 52, zi a1, zi a2] [zi rr] σ' Q)) : zO G MX6_isOutOfGrace [zr 52, zi a1, zi a2] σ Q := by
  refine zO_of (ls0 := [zr 52, zi a1, zi a2]) (by decide) (Nat.le_of_ble_eq_true rfl) rfl ?_
  refine z_aload_n dX6_isOutOfGrace_0 rfl rfl ?_
  refine z_getfR (k := 0) flRX6_37 rfl rfl dX6_isOutOfGrace_1 ?_
  refine z_aload_n dX6_isOutOfGrace_4 rfl rfl ?_
  refine z_getfR (k := 2) flRX6_15 rfl rfl dX6_isOutOfGrace_5 ?_
  refine z_iload_n dX6_isOutOfGrace_8 rfl rfl ?_
  have s1 : (0 : Int) ≤ a1 ∧ a1 < (12 : Int) := k1
  refine z_iald rfl s1.1 s1.2 dX6_isOutOfGrace_9 ?_
  refine z_aload_n dX6_isOutOfGrace_10 rfl rfl ?_
  refine z_getfR (k := 1) flRX6_11 rfl rfl dX6_isOutOfGrace_11 ?_
  refine z_iload_n dX6_isOutOfGrace_14 rfl rfl ?_
  refine z_iald rfl s1.1 s1.2 dX6_isOutOfGrace_15 ?_
  refine z_iload_n dX6_isOutOfGrace_16 rfl rfl ?_
  refine z_iload_n dX6_isOutOfGrace_17 rfl rfl ?_
  refine z_iconst dX6_isOutOfGrace_18 (by unfold zIn; decide) ?_
  refine z_callv (as := [zi (σ 54 a1), zi (σ 53 a1), zi a2, zi a2, zi (-1)]) (st := []) mkX3_weigh lkRX6_49 rfl rfl rfl (by decide) (Nat.le_of_ble_eq_true rfl) rfl dX6_isOutOfGrace_19 (k2)
set_option maxRecDepth 20000 in
set_option maxHeartbeats 1000000 in
theorem TX6_isOutOfGrace_22 {G : zG} {σ : zS} {Q : Int → zS → Prop} {v1 v2 r : Int}  (k1 : (r ≠ 1) → (0 : Int) ≤ v1 ∧ v1 < (12 : Int)) (k2 : (r = 1) → (0 : Int) ≤ v1 ∧ v1 < (12 : Int)) (k3 : (r = 1) → Q 0 (zup σ 56 v1 (-1))) (k4 : (r ≠ 1) → (σ 56 v1 ≠ (-1)) → (0 : Int) ≤ v1 ∧ v1 < (12 : Int)) (k5 : (r ≠ 1) → (σ 56 v1 ≠ (-1)) → -2147483648 ≤ v2 - σ 56 v1 ∧ v2 - σ 56 v1 < (2147483648 : Int)) (k6 : (r ≠ 1) → (σ 56 v1 ≠ (-1)) → (v2 - σ 56 v1 < σ 52 8) → Q 0 σ) (k7 : (r ≠ 1) → (σ 56 v1 ≠ (-1)) → (σ 52 8 ≤ v2 - σ 56 v1) → Q 1 σ) (k8 : (r ≠ 1) → (σ 56 v1 = (-1)) → (0 : Int) ≤ v1 ∧ v1 < (12 : Int)) (k9 : (r ≠ 1) → (σ 56 v1 = (-1)) → -2147483648 ≤ v2 - v2 ∧ v2 - v2 < (2147483648 : Int)) (k10 : (r ≠ 1) → (σ 56 v1 = (-1)) → (v2 - v2 < σ 52 8) → Q 0 (zup σ 56 v1 v2)) (k11 : (r ≠ 1) → (σ 56 v1 = (-1)) → (σ 52 8 ≤ v2 - v2) → Q 1 (zup σ 56 v1 v2)) : zR G MX6_isOutOfGrace 22 [zr 52, zi v1, zi v2] [zi r] σ Q := by
  have J52_1 : (r ≠ 1) → (σ 56 v1 = (-1)) → zR G MX6_isOutOfGrace 52 [zr 52, zi v1, zi v2] [] (zup σ 56 v1 v2) Q := by
    intro h1 h2
    refine z_iload_n dX6_isOutOfGrace_52 rfl rfl ?_
    refine z_aload_n dX6_isOutOfGrace_53 rfl rfl ?_
    refine z_getfR (k := 4) flRX6_21 rfl rfl dX6_isOutOfGrace_54 ?_
    refine z_iload_n dX6_isOutOfGrace_57 rfl rfl ?_
    have s8 : (0 : Int) ≤ v1 ∧ v1 < (12 : Int) := k8 h1 h2
    refine z_ialdE (v := v2) rfl s8.1 s8.2 (zup_same) dX6_isOutOfGrace_58 ?_
    have s9 : -2147483648 ≤ v2 - v2 ∧ v2 - v2 < (2147483648 : Int) := k9 h1 h2
    refine z_isubN dX6_isOutOfGrace_59 s9 ?_
    refine z_aload_n dX6_isOutOfGrace_60 rfl rfl ?_
    refine z_getfE (k := 8) (v := σ 52 8) flRX6_34 rfl rfl (zup_of (by decide)) dX6_isOutOfGrace_61 ?_
    refine z_icmp_lt dX6_isOutOfGrace_64 (tgt := 71) (by decide) (fun h4 => ?_) (fun h4 => ?_)
    · skip
      refine z_iconst dX6_isOutOfGrace_71 (by unfold zIn; decide) ?_
      exact z_iretz rfl (by decide) dX6_isOutOfGrace_72 (k10 h1 h2 h4)
    · skip
      refine z_iconst dX6_isOutOfGrace_67 (by unfold zIn; decide) ?_
      refine z_goto dX6_isOutOfGrace_68 (tgt := 72) (by decide) ?_
      exact z_iretz rfl (by decide) dX6_isOutOfGrace_72 (k11 h1 h2 h4)
  have J52 : (r ≠ 1) → (σ 56 v1 ≠ (-1)) → zR G MX6_isOutOfGrace 52 [zr 52, zi v1, zi v2] [] σ Q := by
    intro h1 h2
    refine z_iload_n dX6_isOutOfGrace_52 rfl rfl ?_
    refine z_aload_n dX6_isOutOfGrace_53 rfl rfl ?_
    refine z_getfR (k := 4) flRX6_21 rfl rfl dX6_isOutOfGrace_54 ?_
    refine z_iload_n dX6_isOutOfGrace_57 rfl rfl ?_
    have s4 : (0 : Int) ≤ v1 ∧ v1 < (12 : Int) := k4 h1 h2
    refine z_iald rfl s4.1 s4.2 dX6_isOutOfGrace_58 ?_
    have s5 : -2147483648 ≤ v2 - σ 56 v1 ∧ v2 - σ 56 v1 < (2147483648 : Int) := k5 h1 h2
    refine z_isubN dX6_isOutOfGrace_59 s5 ?_
    refine z_aload_n dX6_isOutOfGrace_60 rfl rfl ?_
    refine z_getfI (k := 8) flRX6_34 rfl rfl dX6_isOutOfGrace_61 ?_
    refine z_icmp_lt dX6_isOutOfGrace_64 (tgt := 71) (by decide) (fun h3 => ?_) (fun h3 => ?_)
    · skip
      refine z_iconst dX6_isOutOfGrace_71 (by unfold zIn; decide) ?_
      exact z_iretz rfl (by decide) dX6_isOutOfGrace_72 (k6 h1 h2 h3)
    · skip
      refine z_iconst dX6_isOutOfGrace_67 (by unfold zIn; decide) ?_
      refine z_goto dX6_isOutOfGrace_68 (tgt := 72) (by decide) ?_
      exact z_iretz rfl (by decide) dX6_isOutOfGrace_72 (k7 h1 h2 h3)
  refine z_iconst dX6_isOutOfGrace_22 (by unfold zIn; decide) ?_
  refine z_icmp_ne dX6_isOutOfGrace_23 (tgt := 35) (by decide) (fun h1 => ?_) (fun h1 => ?_)
  · skip
    refine z_aload_n dX6_isOutOfGrace_35 rfl rfl ?_
    refine z_getfR (k := 4) flRX6_21 rfl rfl dX6_isOutOfGrace_36 ?_
    refine z_iload_n dX6_isOutOfGrace_39 rfl rfl ?_
    have s1 : (0 : Int) ≤ v1 ∧ v1 < (12 : Int) := k1 h1
    refine z_iald rfl s1.1 s1.2 dX6_isOutOfGrace_40 ?_
    refine z_iconst dX6_isOutOfGrace_41 (by unfold zIn; decide) ?_
    refine z_icmp_ne dX6_isOutOfGrace_42 (tgt := 52) (by decide) (fun h2 => ?_) (fun h2 => ?_)
    · skip
      exact J52 h1 h2
    · skip
      refine z_aload_n dX6_isOutOfGrace_45 rfl rfl ?_
      refine z_getfR (k := 4) flRX6_21 rfl rfl dX6_isOutOfGrace_46 ?_
      refine z_iload_n dX6_isOutOfGrace_49 rfl rfl ?_
      refine z_iload_n dX6_isOutOfGrace_50 rfl rfl ?_
      refine z_iast rfl s1.1 s1.2 dX6_isOutOfGrace_51 ?_
      exact J52_1 h1 h2
  · skip
    refine z_aload_n dX6_isOutOfGrace_26 rfl rfl ?_
    refine z_getfR (k := 4) flRX6_21 rfl rfl dX6_isOutOfGrace_27 ?_
    refine z_iload_n dX6_isOutOfGrace_30 rfl rfl ?_
    refine z_iconst dX6_isOutOfGrace_31 (by unfold zIn; decide) ?_
    have s2 : (0 : Int) ≤ v1 ∧ v1 < (12 : Int) := k2 h1
    refine z_iast rfl s2.1 s2.2 dX6_isOutOfGrace_32 ?_
    refine z_iconst dX6_isOutOfGrace_33 (by unfold zIn; decide) ?_
    exact z_iretz rfl (by decide) dX6_isOutOfGrace_34 (k3 h1)
set_option maxRecDepth 20000 in
set_option maxHeartbeats 1000000 in
theorem TX6_hasSettledLiving {G : zG} {σ : zS} {Q : Int → zS → Prop} {a1 a2 : Int}  (k1 : zR G MX6_hasSettledLiving 2 [zr 52, zi a1, zi a2, zi 0] [] σ Q) : zO G MX6_hasSettledLiving [zr 52, zi a1, zi a2] σ Q := by
  refine zO_of (ls0 := [zr 52, zi a1, zi a2, zu]) (by decide) (Nat.le_of_ble_eq_true rfl) rfl ?_
  refine z_iconst dX6_hasSettledLiving_0 (by unfold zIn; decide) ?_
  refine z_istore_n (ls' := [zr 52, zi a1, zi a2, zi 0]) dX6_hasSettledLiving_1 rfl (by decide) rfl ?_
  exact k1
set_option maxRecDepth 20000 in
set_option maxHeartbeats 1000000 in
theorem TX6_hasSettledLiving_2 {G : zG} {σ : zS} {Q : Int → zS → Prop} {v1 v2 v3 : Int}  (k1 : (σ 52 7 ≤ v3) → Q 0 σ) (k2 : (v3 < σ 52 7) → (0 : Int) ≤ v3 ∧ v3 < (12 : Int)) (k3 : (v3 < σ 52 7) → (σ 53 v3 = 3) → (σ 54 v3 = v1) → -2147483648 ≤ v2 - σ 55 v3 ∧ v2 - σ 55 v3 < (2147483648 : Int)) (k4 : (v3 < σ 52 7) → (σ 53 v3 = 3) → (σ 54 v3 = v1) → (σ 52 8 ≤ v2 - σ 55 v3) → Q 1 σ) (k5 : (v3 < σ 52 7) → (σ 53 v3 ≠ 3 ∨ (σ 53 v3 = 3 ∧ σ 54 v3 ≠ v1) ∨ (σ 53 v3 = 3 ∧ σ 54 v3 = v1 ∧ v2 - σ 55 v3 < σ 52 8)) → -2147483648 ≤ v3 + 1 ∧ v3 + 1 < (2147483648 : Int)) (k6 : (v3 < σ 52 7) → (σ 53 v3 ≠ 3 ∨ (σ 53 v3 = 3 ∧ σ 54 v3 ≠ v1) ∨ (σ 53 v3 = 3 ∧ σ 54 v3 = v1 ∧ v2 - σ 55 v3 < σ 52 8)) → zR G MX6_hasSettledLiving 2 [zr 52, zi v1, zi v2, zi (v3 + 1)] [] σ Q) : zR G MX6_hasSettledLiving 2 [zr 52, zi v1, zi v2, zi v3] [] σ Q := by
  have J47 : (v3 < σ 52 7) → (σ 53 v3 ≠ 3 ∨ (σ 53 v3 = 3 ∧ σ 54 v3 ≠ v1) ∨ (σ 53 v3 = 3 ∧ σ 54 v3 = v1 ∧ v2 - σ 55 v3 < σ 52 8)) → zR G MX6_hasSettledLiving 47 [zr 52, zi v1, zi v2, zi v3] [] σ Q := by
    intro h1 h5
    have s5 : -2147483648 ≤ v3 + 1 ∧ v3 + 1 < (2147483648 : Int) := k5 h1 h5
    refine z_iincN (ls' := [zr 52, zi v1, zi v2, zi (v3 + 1)]) dX6_hasSettledLiving_47 rfl (by decide) s5 rfl ?_
    refine z_goto dX6_hasSettledLiving_50 (tgt := 2) (by decide) ?_
    exact k6 h1 h5
  refine z_iload_n dX6_hasSettledLiving_2 rfl rfl ?_
  refine z_aload_n dX6_hasSettledLiving_3 rfl rfl ?_
  refine z_getfI (k := 7) flRX6_30 rfl rfl dX6_hasSettledLiving_4 ?_
  refine z_icmp_ge dX6_hasSettledLiving_7 (tgt := 53) (by decide) (fun h1 => ?_) (fun h1 => ?_)
  · skip
    refine z_iconst dX6_hasSettledLiving_53 (by unfold zIn; decide) ?_
    exact z_iretz rfl (by decide) dX6_hasSettledLiving_54 (k1 h1)
  · skip
    refine z_aload_n dX6_hasSettledLiving_10 rfl rfl ?_
    refine z_getfR (k := 1) flRX6_11 rfl rfl dX6_hasSettledLiving_11 ?_
    refine z_iload_n dX6_hasSettledLiving_14 rfl rfl ?_
    have s2 : (0 : Int) ≤ v3 ∧ v3 < (12 : Int) := k2 h1
    refine z_iald rfl s2.1 s2.2 dX6_hasSettledLiving_15 ?_
    refine z_iconst dX6_hasSettledLiving_16 (by unfold zIn; decide) ?_
    refine z_icmp_ne dX6_hasSettledLiving_17 (tgt := 47) (by decide) (fun h2 => ?_) (fun h2 => ?_)
    · skip
      exact J47 h1 (Or.inl h2)
    · skip
      refine z_aload_n dX6_hasSettledLiving_20 rfl rfl ?_
      refine z_getfR (k := 2) flRX6_15 rfl rfl dX6_hasSettledLiving_21 ?_
      refine z_iload_n dX6_hasSettledLiving_24 rfl rfl ?_
      refine z_iald rfl s2.1 s2.2 dX6_hasSettledLiving_25 ?_
      refine z_iload_n dX6_hasSettledLiving_26 rfl rfl ?_
      refine z_icmp_ne dX6_hasSettledLiving_27 (tgt := 47) (by decide) (fun h3 => ?_) (fun h3 => ?_)
      · skip
        exact J47 h1 (Or.inr (Or.inl ⟨h2, h3⟩))
      · skip
        refine z_iload_n dX6_hasSettledLiving_30 rfl rfl ?_
        refine z_aload_n dX6_hasSettledLiving_31 rfl rfl ?_
        refine z_getfR (k := 3) flRX6_18 rfl rfl dX6_hasSettledLiving_32 ?_
        refine z_iload_n dX6_hasSettledLiving_35 rfl rfl ?_
        refine z_iald rfl s2.1 s2.2 dX6_hasSettledLiving_36 ?_
        have s3 : -2147483648 ≤ v2 - σ 55 v3 ∧ v2 - σ 55 v3 < (2147483648 : Int) := k3 h1 h2 h3
        refine z_isubN dX6_hasSettledLiving_37 s3 ?_
        refine z_aload_n dX6_hasSettledLiving_38 rfl rfl ?_
        refine z_getfI (k := 8) flRX6_34 rfl rfl dX6_hasSettledLiving_39 ?_
        refine z_icmp_lt dX6_hasSettledLiving_42 (tgt := 47) (by decide) (fun h4 => ?_) (fun h4 => ?_)
        · skip
          exact J47 h1 (Or.inr (Or.inr ⟨h2, h3, h4⟩))
        · skip
          refine z_iconst dX6_hasSettledLiving_45 (by unfold zIn; decide) ?_
          exact z_iretz rfl (by decide) dX6_hasSettledLiving_46 (k4 h1 h2 h3 h4)
set_option maxRecDepth 20000 in
set_option maxHeartbeats 1000000 in
theorem TX6_endThose {G : zG} {σ : zS} {Q : Int → zS → Prop} {a1 : Int}  (k1 : zR G MX6_endThose 4 [zr 52, zi a1, zi 0, zi 0] [] σ Q) : zO G MX6_endThose [zr 52, zi a1] σ Q := by
  refine zO_of (ls0 := [zr 52, zi a1, zu, zu]) (by decide) (Nat.le_of_ble_eq_true rfl) rfl ?_
  refine z_iconst dX6_endThose_0 (by unfold zIn; decide) ?_
  refine z_istore_n (ls' := [zr 52, zi a1, zi 0, zu]) dX6_endThose_1 rfl (by decide) rfl ?_
  refine z_iconst dX6_endThose_2 (by unfold zIn; decide) ?_
  refine z_istore_n (ls' := [zr 52, zi a1, zi 0, zi 0]) dX6_endThose_3 rfl (by decide) rfl ?_
  exact k1
set_option maxRecDepth 20000 in
set_option maxHeartbeats 1000000 in
theorem TX6_endThose_4 {G : zG} {σ : zS} {Q : Int → zS → Prop} {v1 v2 v3 : Int}  (k1 : (σ 52 7 ≤ v3) → zR G MX6_endThose 47 [zr 52, zi v1, zi v2, zi 0] [] σ Q) (k2 : (v3 < σ 52 7) → (0 : Int) ≤ v3 ∧ v3 < (12 : Int)) (k3 : (v3 < σ 52 7) → (σ 54 v3 ≠ (-1)) → zO G MX6_isOutOfGrace [zr 52, zi v3, zi v1] σ (fun rr σ' => zR G MX6_endThose 28 [zr 52, zi v1, zi v2, zi v3] [zi rr] σ' Q)) (k4 : (v3 < σ 52 7) → (σ 54 v3 = (-1)) → -2147483648 ≤ v3 + 1 ∧ v3 + 1 < (2147483648 : Int)) (k5 : (v3 < σ 52 7) → (σ 54 v3 = (-1)) → zR G MX6_endThose 4 [zr 52, zi v1, zi v2, zi (v3 + 1)] [] σ Q) : zR G MX6_endThose 4 [zr 52, zi v1, zi v2, zi v3] [] σ Q := by
  have J39 : (v3 < σ 52 7) → (σ 54 v3 = (-1)) → zR G MX6_endThose 39 [zr 52, zi v1, zi v2, zi v3] [] σ Q := by
    intro h1 h2
    have s4 : -2147483648 ≤ v3 + 1 ∧ v3 + 1 < (2147483648 : Int) := k4 h1 h2
    refine z_iincN (ls' := [zr 52, zi v1, zi v2, zi (v3 + 1)]) dX6_endThose_39 rfl (by decide) s4 rfl ?_
    refine z_goto dX6_endThose_42 (tgt := 4) (by decide) ?_
    exact k5 h1 h2
  refine z_iload_n dX6_endThose_4 rfl rfl ?_
  refine z_aload_n dX6_endThose_5 rfl rfl ?_
  refine z_getfI (k := 7) flRX6_30 rfl rfl dX6_endThose_6 ?_
  refine z_icmp_ge dX6_endThose_9 (tgt := 45) (by decide) (fun h1 => ?_) (fun h1 => ?_)
  · skip
    refine z_iconst dX6_endThose_45 (by unfold zIn; decide) ?_
    refine z_istore_n (ls' := [zr 52, zi v1, zi v2, zi 0]) dX6_endThose_46 rfl (by decide) rfl ?_
    exact k1 h1
  · skip
    refine z_aload_n dX6_endThose_12 rfl rfl ?_
    refine z_getfR (k := 2) flRX6_15 rfl rfl dX6_endThose_13 ?_
    refine z_iload_n dX6_endThose_16 rfl rfl ?_
    have s2 : (0 : Int) ≤ v3 ∧ v3 < (12 : Int) := k2 h1
    refine z_iald rfl s2.1 s2.2 dX6_endThose_17 ?_
    refine z_iconst dX6_endThose_18 (by unfold zIn; decide) ?_
    refine z_icmp_eq dX6_endThose_19 (tgt := 39) (by decide) (fun h2 => ?_) (fun h2 => ?_)
    · skip
      exact J39 h1 h2
    · skip
      refine z_aload_n dX6_endThose_22 rfl rfl ?_
      refine z_iload_n dX6_endThose_23 rfl rfl ?_
      refine z_iload_n dX6_endThose_24 rfl rfl ?_
      refine z_callv (as := [zi v3, zi v1]) (st := []) mkX6_isOutOfGrace lkRX6_55 rfl rfl rfl (by decide) (Nat.le_of_ble_eq_true rfl) rfl dX6_endThose_25 (k3 h1 h2)
set_option maxRecDepth 20000 in
set_option maxHeartbeats 1000000 in
theorem TX6_endThose_28 {G : zG} {σ : zS} {Q : Int → zS → Prop} {v1 v2 v3 r : Int}  (k1 : (r ≠ 0) → (0 : Int) ≤ v3 ∧ v3 < (12 : Int)) (k2 : (r ≠ 0) → -2147483648 ≤ v2 + 1 ∧ v2 + 1 < (2147483648 : Int)) (k3 : (r = 0) → -2147483648 ≤ v3 + 1 ∧ v3 + 1 < (2147483648 : Int)) (k4 : (r = 0) → zR G MX6_endThose 4 [zr 52, zi v1, zi v2, zi (v3 + 1)] [] σ Q) (k5 : (r ≠ 0) → -2147483648 ≤ v3 + 1 ∧ v3 + 1 < (2147483648 : Int)) (k6 : (r ≠ 0) → zR G MX6_endThose 4 [zr 52, zi v1, zi (v2 + 1), zi (v3 + 1)] [] (zup (zup (zup σ 54 v3 (-1)) 55 v3 (-1)) 56 v3 (-1)) Q) : zR G MX6_endThose 28 [zr 52, zi v1, zi v2, zi v3] [zi r] σ Q := by
  have J39_1 : (r ≠ 0) → zR G MX6_endThose 39 [zr 52, zi v1, zi (v2 + 1), zi v3] [] (zup (zup (zup σ 54 v3 (-1)) 55 v3 (-1)) 56 v3 (-1)) Q := by
    intro h1
    have s5 : -2147483648 ≤ v3 + 1 ∧ v3 + 1 < (2147483648 : Int) := k5 h1
    refine z_iincN (ls' := [zr 52, zi v1, zi (v2 + 1), zi (v3 + 1)]) dX6_endThose_39 rfl (by decide) s5 rfl ?_
    refine z_goto dX6_endThose_42 (tgt := 4) (by decide) ?_
    exact k6 h1
  have J39 : (r = 0) → zR G MX6_endThose 39 [zr 52, zi v1, zi v2, zi v3] [] σ Q := by
    intro h1
    have s3 : -2147483648 ≤ v3 + 1 ∧ v3 + 1 < (2147483648 : Int) := k3 h1
    refine z_iincN (ls' := [zr 52, zi v1, zi v2, zi (v3 + 1)]) dX6_endThose_39 rfl (by decide) s3 rfl ?_
    refine z_goto dX6_endThose_42 (tgt := 4) (by decide) ?_
    exact k4 h1
  refine z_if_eq dX6_endThose_28 (tgt := 39) (by decide) (fun h1 => ?_) (fun h1 => ?_)
  · skip
    exact J39 h1
  · skip
    refine z_aload_n dX6_endThose_31 rfl rfl ?_
    refine z_iload_n dX6_endThose_32 rfl rfl ?_
    have s1 : (0 : Int) ≤ v3 ∧ v3 < (12 : Int) := k1 h1
    refine z_callv (as := [zi v3]) (st := []) mkX6_empty lkRX6_41 rfl rfl rfl (by decide) (Nat.le_of_ble_eq_true rfl) rfl dX6_endThose_33 ?_
    refine SX6_empty s1 ?_
    show zR G MX6_endThose 36 [zr 52, zi v1, zi v2, zi v3] [] (zup (zup (zup σ 54 v3 (-1)) 55 v3 (-1)) 56 v3 (-1)) Q
    have s2 : -2147483648 ≤ v2 + 1 ∧ v2 + 1 < (2147483648 : Int) := k2 h1
    refine z_iincN (ls' := [zr 52, zi v1, zi (v2 + 1), zi v3]) dX6_endThose_36 rfl (by decide) s2 rfl ?_
    exact J39_1 h1
set_option maxRecDepth 20000 in
set_option maxHeartbeats 1000000 in
theorem TX6_endThose_47 {G : zG} {σ : zS} {Q : Int → zS → Prop} {v1 v2 v3 : Int}  (k1 : (σ 52 7 ≤ v3) → Q v2 σ) (k2 : (v3 < σ 52 7) → (0 : Int) ≤ v3 ∧ v3 < (12 : Int)) (k3 : (v3 < σ 52 7) → (σ 53 v3 = 1) → (σ 54 v3 ≠ (-1)) → zO G MX6_hasSettledLiving [zr 52, zi (σ 54 v3), zi v1] σ (fun rr σ' => zR G MX6_endThose 86 [zr 52, zi v1, zi v2, zi v3] [zi rr] σ' Q)) (k4 : (v3 < σ 52 7) → (σ 53 v3 ≠ 1 ∨ (σ 53 v3 = 1 ∧ σ 54 v3 = (-1))) → -2147483648 ≤ v3 + 1 ∧ v3 + 1 < (2147483648 : Int)) (k5 : (v3 < σ 52 7) → (σ 53 v3 ≠ 1 ∨ (σ 53 v3 = 1 ∧ σ 54 v3 = (-1))) → zR G MX6_endThose 47 [zr 52, zi v1, zi v2, zi (v3 + 1)] [] σ Q) : zR G MX6_endThose 47 [zr 52, zi v1, zi v2, zi v3] [] σ Q := by
  have J97 : (v3 < σ 52 7) → (σ 53 v3 ≠ 1 ∨ (σ 53 v3 = 1 ∧ σ 54 v3 = (-1))) → zR G MX6_endThose 97 [zr 52, zi v1, zi v2, zi v3] [] σ Q := by
    intro h1 h4
    have s4 : -2147483648 ≤ v3 + 1 ∧ v3 + 1 < (2147483648 : Int) := k4 h1 h4
    refine z_iincN (ls' := [zr 52, zi v1, zi v2, zi (v3 + 1)]) dX6_endThose_97 rfl (by decide) s4 rfl ?_
    refine z_goto dX6_endThose_100 (tgt := 47) (by decide) ?_
    exact k5 h1 h4
  refine z_iload_n dX6_endThose_47 rfl rfl ?_
  refine z_aload_n dX6_endThose_48 rfl rfl ?_
  refine z_getfI (k := 7) flRX6_30 rfl rfl dX6_endThose_49 ?_
  refine z_icmp_ge dX6_endThose_52 (tgt := 103) (by decide) (fun h1 => ?_) (fun h1 => ?_)
  · skip
    refine z_iload_n dX6_endThose_103 rfl rfl ?_
    exact z_ireti rfl dX6_endThose_104 (k1 h1)
  · skip
    refine z_aload_n dX6_endThose_55 rfl rfl ?_
    refine z_getfR (k := 1) flRX6_11 rfl rfl dX6_endThose_56 ?_
    refine z_iload_n dX6_endThose_59 rfl rfl ?_
    have s2 : (0 : Int) ≤ v3 ∧ v3 < (12 : Int) := k2 h1
    refine z_iald rfl s2.1 s2.2 dX6_endThose_60 ?_
    refine z_iconst dX6_endThose_61 (by unfold zIn; decide) ?_
    refine z_icmp_ne dX6_endThose_62 (tgt := 97) (by decide) (fun h2 => ?_) (fun h2 => ?_)
    · skip
      exact J97 h1 (Or.inl h2)
    · skip
      refine z_aload_n dX6_endThose_65 rfl rfl ?_
      refine z_getfR (k := 2) flRX6_15 rfl rfl dX6_endThose_66 ?_
      refine z_iload_n dX6_endThose_69 rfl rfl ?_
      refine z_iald rfl s2.1 s2.2 dX6_endThose_70 ?_
      refine z_iconst dX6_endThose_71 (by unfold zIn; decide) ?_
      refine z_icmp_eq dX6_endThose_72 (tgt := 97) (by decide) (fun h3 => ?_) (fun h3 => ?_)
      · skip
        exact J97 h1 (Or.inr ⟨h2, h3⟩)
      · skip
        refine z_aload_n dX6_endThose_75 rfl rfl ?_
        refine z_aload_n dX6_endThose_76 rfl rfl ?_
        refine z_getfR (k := 2) flRX6_15 rfl rfl dX6_endThose_77 ?_
        refine z_iload_n dX6_endThose_80 rfl rfl ?_
        refine z_iald rfl s2.1 s2.2 dX6_endThose_81 ?_
        refine z_iload_n dX6_endThose_82 rfl rfl ?_
        refine z_callv (as := [zi (σ 54 v3), zi v1]) (st := []) mkX6_hasSettledLiving lkRX6_59 rfl rfl rfl (by decide) (Nat.le_of_ble_eq_true rfl) rfl dX6_endThose_83 (k3 h1 h2 h3)
set_option maxRecDepth 20000 in
set_option maxHeartbeats 1000000 in
theorem TX6_endThose_86 {G : zG} {σ : zS} {Q : Int → zS → Prop} {v1 v2 v3 r : Int}  (k1 : (r ≠ 0) → (0 : Int) ≤ v3 ∧ v3 < (12 : Int)) (k2 : (r ≠ 0) → -2147483648 ≤ v2 + 1 ∧ v2 + 1 < (2147483648 : Int)) (k3 : (r = 0) → -2147483648 ≤ v3 + 1 ∧ v3 + 1 < (2147483648 : Int)) (k4 : (r = 0) → zR G MX6_endThose 47 [zr 52, zi v1, zi v2, zi (v3 + 1)] [] σ Q) (k5 : (r ≠ 0) → -2147483648 ≤ v3 + 1 ∧ v3 + 1 < (2147483648 : Int)) (k6 : (r ≠ 0) → zR G MX6_endThose 47 [zr 52, zi v1, zi (v2 + 1), zi (v3 + 1)] [] (zup (zup (zup σ 54 v3 (-1)) 55 v3 (-1)) 56 v3 (-1)) Q) : zR G MX6_endThose 86 [zr 52, zi v1, zi v2, zi v3] [zi r] σ Q := by
  have J97_1 : (r ≠ 0) → zR G MX6_endThose 97 [zr 52, zi v1, zi (v2 + 1), zi v3] [] (zup (zup (zup σ 54 v3 (-1)) 55 v3 (-1)) 56 v3 (-1)) Q := by
    intro h1
    have s5 : -2147483648 ≤ v3 + 1 ∧ v3 + 1 < (2147483648 : Int) := k5 h1
    refine z_iincN (ls' := [zr 52, zi v1, zi (v2 + 1), zi (v3 + 1)]) dX6_endThose_97 rfl (by decide) s5 rfl ?_
    refine z_goto dX6_endThose_100 (tgt := 47) (by decide) ?_
    exact k6 h1
  have J97 : (r = 0) → zR G MX6_endThose 97 [zr 52, zi v1, zi v2, zi v3] [] σ Q := by
    intro h1
    have s3 : -2147483648 ≤ v3 + 1 ∧ v3 + 1 < (2147483648 : Int) := k3 h1
    refine z_iincN (ls' := [zr 52, zi v1, zi v2, zi (v3 + 1)]) dX6_endThose_97 rfl (by decide) s3 rfl ?_
    refine z_goto dX6_endThose_100 (tgt := 47) (by decide) ?_
    exact k4 h1
  refine z_if_eq dX6_endThose_86 (tgt := 97) (by decide) (fun h1 => ?_) (fun h1 => ?_)
  · skip
    exact J97 h1
  · skip
    refine z_aload_n dX6_endThose_89 rfl rfl ?_
    refine z_iload_n dX6_endThose_90 rfl rfl ?_
    have s1 : (0 : Int) ≤ v3 ∧ v3 < (12 : Int) := k1 h1
    refine z_callv (as := [zi v3]) (st := []) mkX6_empty lkRX6_41 rfl rfl rfl (by decide) (Nat.le_of_ble_eq_true rfl) rfl dX6_endThose_91 ?_
    refine SX6_empty s1 ?_
    show zR G MX6_endThose 94 [zr 52, zi v1, zi v2, zi v3] [] (zup (zup (zup σ 54 v3 (-1)) 55 v3 (-1)) 56 v3 (-1)) Q
    have s2 : -2147483648 ≤ v2 + 1 ∧ v2 + 1 < (2147483648 : Int) := k2 h1
    refine z_iincN (ls' := [zr 52, zi v1, zi (v2 + 1), zi v3]) dX6_endThose_94 rfl (by decide) s2 rfl ?_
    exact J97_1 h1
set_option maxRecDepth 20000 in
set_option maxHeartbeats 1000000 in
theorem TX11_days {G : zG} {σ : zS} {Q : Int → zS → Prop} {a1 : Int}  (k1 : ((1 ≤ a1 ∧ a1 ≤ 4000)) → -2147483648 ≤ σ 0 13 + a1 ∧ σ 0 13 + a1 < (2147483648 : Int)) (k2 : ((1 ≤ a1 ∧ a1 ≤ 4000)) → (σ 0 13 + a1 ≤ 40000) → zO G MX6_endThose [zr 52, zi (σ 0 13 + a1)] (zup σ 0 13 (σ 0 13 + a1)) (fun rr σ' => zR G MX11_days 50 [zr 0, zi a1] [zi rr] σ' Q)) (k3 : ((¬ ((1 ≤ a1 ∧ a1 ≤ 4000))) ∨ (((1 ≤ a1 ∧ a1 ≤ 4000)) ∧ 40000 < σ 0 13 + a1)) → -2147483648 ≤ -(-6) ∧ -(-6) < (2147483648 : Int)) (k4 : ((¬ ((1 ≤ a1 ∧ a1 ≤ 4000))) ∨ (((1 ≤ a1 ∧ a1 ≤ 4000)) ∧ 40000 < σ 0 13 + a1)) → (0 : Int) ≤ -(-6) ∧ -(-6) < (8 : Int)) (k5 : ((¬ ((1 ≤ a1 ∧ a1 ≤ 4000))) ∨ (((1 ≤ a1 ∧ a1 ≤ 4000)) ∧ 40000 < σ 0 13 + a1)) → Q (-6) (zup σ 97 (-(-6)) (zW ((σ 97 (-(-6))) + 1)))) : zO G MX11_days [zr 0, zi a1] σ Q := by
  refine zO_of (ls0 := [zr 0, zi a1]) (by decide) (Nat.le_of_ble_eq_true rfl) rfl ?_
  have J22 : ((¬ ((1 ≤ a1 ∧ a1 ≤ 4000))) ∨ (((1 ≤ a1 ∧ a1 ≤ 4000)) ∧ 40000 < σ 0 13 + a1)) → zR G MX11_days 22 [zr 0, zi a1] [] σ Q := by
    intro h3
    refine z_aload_n dX11_days_22 rfl rfl ?_
    refine z_bipush (x := (-6)) dX11_days_23 (by decide +kernel) (by unfold zIn; decide) ?_
    have s3 : -2147483648 ≤ -(-6) ∧ -(-6) < (2147483648 : Int) := k3 h3
    have s4 : (0 : Int) ≤ -(-6) ∧ -(-6) < (8 : Int) := k4 h3
    refine z_callv (as := [zi (-6)]) (st := []) mkX11_refuse lkRX11_132 rfl rfl rfl (by decide) (Nat.le_of_ble_eq_true rfl) rfl dX11_days_25 ?_
    refine SX11_refuse s3 s4 ?_
    show zR G MX11_days 28 [zr 0, zi a1] [zi (-6)] (zup σ 97 (-(-6)) (zW ((σ 97 (-(-6))) + 1))) Q
    exact z_ireti rfl dX11_days_28 (k5 h3)
  refine z_iload_n dX11_days_0 rfl rfl ?_
  refine z_iconst dX11_days_1 (by unfold zIn; decide) ?_
  refine z_sipush (x := 4000) dX11_days_2 (by decide +kernel) (by unfold zIn; decide) ?_
  refine z_calls (as := [zi a1, zi 1, zi 4000]) (st := []) mkX11_within lkRX11_111 rfl (by decide) (Nat.le_of_ble_eq_true rfl) rfl dX11_days_5 ?_
  refine SX11_within ?_
  show zR G MX11_days 8 [zr 0, zi a1] [zi (if (1 ≤ a1 ∧ a1 ≤ 4000) then (1 : Int) else 0)] σ Q
  refine z_if_eq dX11_days_8 (tgt := 22) (by decide) (fun z => ?_) (fun z => ?_)
  · have h1 : ¬ ((1 ≤ a1 ∧ a1 ≤ 4000)) := zb0 z
    exact J22 (Or.inl h1)
  · have h1 : (1 ≤ a1 ∧ a1 ≤ 4000) := zb1 z
    refine z_aload_n dX11_days_11 rfl rfl ?_
    refine z_getfI (k := 13) flRX11_106 rfl rfl dX11_days_12 ?_
    refine z_iload_n dX11_days_15 rfl rfl ?_
    have s1 : -2147483648 ≤ σ 0 13 + a1 ∧ σ 0 13 + a1 < (2147483648 : Int) := k1 h1
    refine z_iaddN dX11_days_16 s1 ?_
    refine z_ldc (x := 40000) (zin_3 (List.mem_of_getElem? (i := 89) (by decide +kernel))) (by unfold zIn; decide) dX11_days_17 ?_
    refine z_icmp_le dX11_days_19 (tgt := 29) (by decide) (fun h2 => ?_) (fun h2 => ?_)
    · skip
      refine z_aload_n dX11_days_29 rfl rfl ?_
      refine z_dup dX11_days_30 rfl ?_
      refine z_getfI (k := 13) flRX11_106 rfl rfl dX11_days_31 ?_
      refine z_iload_n dX11_days_34 rfl rfl ?_
      refine z_iaddN dX11_days_35 s1 ?_
      refine z_putI (k := 13) fpRX11_106 rfl rfl dX11_days_36 ?_
      refine z_aload_n dX11_days_39 rfl rfl ?_
      refine z_getfR (k := 4) flRX11_43 rfl rfl dX11_days_40 ?_
      refine z_aload_n dX11_days_43 rfl rfl ?_
      refine z_getfE (k := 13) (v := σ 0 13 + a1) flRX11_106 rfl rfl (zup_same) dX11_days_44 ?_
      refine z_callv (as := [zi (σ 0 13 + a1)]) (st := []) mkX6_endThose lkRX11_136 rfl rfl rfl (by decide) (Nat.le_of_ble_eq_true rfl) rfl dX11_days_47 (k2 h1 h2)
    · skip
      exact J22 (Or.inr ⟨h1, h2⟩)
set_option maxRecDepth 20000 in
set_option maxHeartbeats 1000000 in
theorem TX11_days_50 {G : zG} {σ : zS} {Q : Int → zS → Prop} {v1 r : Int}  (k1 : Q r σ) : zR G MX11_days 50 [zr 0, zi v1] [zi r] σ Q := by
  exact z_ireti rfl dX11_days_50 (k1)
set_option maxRecDepth 20000 in
set_option maxHeartbeats 1000000 in
theorem TX11_person {G : zG} {σ : zS} {Q : Int → zS → Prop} {a1 : Int}  (k1 : (((-40000) ≤ a1 ∧ a1 ≤ 40000)) → (σ 22 12 ≠ 24) → (0 : Int) ≤ σ 22 12 ∧ σ 22 12 < (24 : Int)) (k2 : (((-40000) ≤ a1 ∧ a1 ≤ 40000)) → (σ 22 12 ≠ 24) → -2147483648 ≤ σ 22 12 + 1 ∧ σ 22 12 + 1 < (2147483648 : Int)) (k3 : (((-40000) ≤ a1 ∧ a1 ≤ 40000)) → (σ 22 12 ≠ 24) → Q (σ 22 12) (zup (zup σ 23 (σ 22 12) a1) 22 12 (σ 22 12 + 1))) (k4 : (((-40000) ≤ a1 ∧ a1 ≤ 40000)) → (σ 22 12 = 24) → -2147483648 ≤ -(-7) ∧ -(-7) < (2147483648 : Int)) (k5 : (((-40000) ≤ a1 ∧ a1 ≤ 40000)) → (σ 22 12 = 24) → (0 : Int) ≤ -(-7) ∧ -(-7) < (8 : Int)) (k6 : (((-40000) ≤ a1 ∧ a1 ≤ 40000)) → (σ 22 12 = 24) → Q (-7) (zup σ 97 (-(-7)) (zW ((σ 97 (-(-7))) + 1)))) (k7 : (¬ (((-40000) ≤ a1 ∧ a1 ≤ 40000))) → -2147483648 ≤ -(-6) ∧ -(-6) < (2147483648 : Int)) (k8 : (¬ (((-40000) ≤ a1 ∧ a1 ≤ 40000))) → (0 : Int) ≤ -(-6) ∧ -(-6) < (8 : Int)) (k9 : (¬ (((-40000) ≤ a1 ∧ a1 ≤ 40000))) → Q (-6) (zup σ 97 (-(-6)) (zW ((σ 97 (-(-6))) + 1)))) : zO G MX11_person [zr 0, zi a1] σ Q := by
  refine zO_of (ls0 := [zr 0, zi a1]) (by decide) (Nat.le_of_ble_eq_true rfl) rfl ?_
  refine z_iload_n dX11_person_0 rfl rfl ?_
  refine z_ldc (x := (-40000)) (zin_3 (List.mem_of_getElem? (i := 218) (by decide +kernel))) (by unfold zIn; decide) dX11_person_1 ?_
  refine z_ldc (x := 40000) (zin_3 (List.mem_of_getElem? (i := 89) (by decide +kernel))) (by unfold zIn; decide) dX11_person_3 ?_
  refine z_calls (as := [zi a1, zi (-40000), zi 40000]) (st := []) mkX11_within lkRX11_111 rfl (by decide) (Nat.le_of_ble_eq_true rfl) rfl dX11_person_5 ?_
  refine SX11_within ?_
  show zR G MX11_person 8 [zr 0, zi a1] [zi (if ((-40000) ≤ a1 ∧ a1 ≤ 40000) then (1 : Int) else 0)] σ Q
  refine z_if_ne dX11_person_8 (tgt := 18) (by decide) (fun z => ?_) (fun z => ?_)
  · have h1 : ((-40000) ≤ a1 ∧ a1 ≤ 40000) := zb1 z
    refine z_aload_n dX11_person_18 rfl rfl ?_
    refine z_getfR (k := 1) flRX11_18 rfl rfl dX11_person_19 ?_
    refine z_getfI (k := 12) flRX11_140 rfl rfl dX11_person_22 ?_
    refine z_bipush (x := 24) dX11_person_25 (by decide +kernel) (by unfold zIn; decide) ?_
    refine z_icmp_ne dX11_person_27 (tgt := 39) (by decide) (fun h2 => ?_) (fun h2 => ?_)
    · skip
      refine z_aload_n dX11_person_39 rfl rfl ?_
      refine z_getfR (k := 1) flRX11_18 rfl rfl dX11_person_40 ?_
      refine z_iload_n dX11_person_43 rfl rfl ?_
      have s1 : (0 : Int) ≤ σ 22 12 ∧ σ 22 12 < (24 : Int) := k1 h1 h2
      have s2 : -2147483648 ≤ σ 22 12 + 1 ∧ σ 22 12 + 1 < (2147483648 : Int) := k2 h1 h2
      refine z_callv (as := [zi a1]) (st := []) mkX5_add lkRX11_143 rfl rfl rfl (by decide) (Nat.le_of_ble_eq_true rfl) rfl dX11_person_44 ?_
      refine SX5_add s1 s2 ?_
      show zR G MX11_person 47 [zr 0, zi a1] [zi (σ 22 12)] (zup (zup σ 23 (σ 22 12) a1) 22 12 (σ 22 12 + 1)) Q
      exact z_ireti rfl dX11_person_47 (k3 h1 h2)
    · skip
      refine z_aload_n dX11_person_30 rfl rfl ?_
      refine z_bipush (x := (-7)) dX11_person_31 (by decide +kernel) (by unfold zIn; decide) ?_
      have s4 : -2147483648 ≤ -(-7) ∧ -(-7) < (2147483648 : Int) := k4 h1 h2
      have s5 : (0 : Int) ≤ -(-7) ∧ -(-7) < (8 : Int) := k5 h1 h2
      refine z_callv (as := [zi (-7)]) (st := []) mkX11_refuse lkRX11_132 rfl rfl rfl (by decide) (Nat.le_of_ble_eq_true rfl) rfl dX11_person_33 ?_
      refine SX11_refuse s4 s5 ?_
      show zR G MX11_person 36 [zr 0, zi a1] [zi (-7)] (zup σ 97 (-(-7)) (zW ((σ 97 (-(-7))) + 1))) Q
      refine z_goto dX11_person_36 (tgt := 47) (by decide) ?_
      exact z_ireti rfl dX11_person_47 (k6 h1 h2)
  · have h1 : ¬ (((-40000) ≤ a1 ∧ a1 ≤ 40000)) := zb0 z
    refine z_aload_n dX11_person_11 rfl rfl ?_
    refine z_bipush (x := (-6)) dX11_person_12 (by decide +kernel) (by unfold zIn; decide) ?_
    have s7 : -2147483648 ≤ -(-6) ∧ -(-6) < (2147483648 : Int) := k7 h1
    have s8 : (0 : Int) ≤ -(-6) ∧ -(-6) < (8 : Int) := k8 h1
    refine z_callv (as := [zi (-6)]) (st := []) mkX11_refuse lkRX11_132 rfl rfl rfl (by decide) (Nat.le_of_ble_eq_true rfl) rfl dX11_person_14 ?_
    refine SX11_refuse s7 s8 ?_
    show zR G MX11_person 17 [zr 0, zi a1] [zi (-6)] (zup σ 97 (-(-6)) (zW ((σ 97 (-(-6))) + 1))) Q
    exact z_ireti rfl dX11_person_17 (k9 h1)
set_option maxRecDepth 20000 in
set_option maxHeartbeats 1000000 in
theorem TX11_founder {G : zG} {σ : zS} {Q : Int → zS → Prop} {a1 : Int}  (k1 : ((0 ≤ a1 ∧ a1 < σ 22 12)) → (zor (σ 22 13) (zshl 1 a1) ≠ σ 22 13) → Q 1 (zup σ 22 13 (zor (σ 22 13) (zshl 1 a1)))) (k2 : ((0 ≤ a1 ∧ a1 < σ 22 12)) → (zor (σ 22 13) (zshl 1 a1) = σ 22 13) → Q 0 (zup σ 22 13 (zor (σ 22 13) (zshl 1 a1)))) (k3 : (¬ ((0 ≤ a1 ∧ a1 < σ 22 12))) → -2147483648 ≤ -(-1) ∧ -(-1) < (2147483648 : Int)) (k4 : (¬ ((0 ≤ a1 ∧ a1 < σ 22 12))) → (0 : Int) ≤ -(-1) ∧ -(-1) < (8 : Int)) (k5 : (¬ ((0 ≤ a1 ∧ a1 < σ 22 12))) → Q (-1) (zup σ 97 (-(-1)) (zW ((σ 97 (-(-1))) + 1)))) : zO G MX11_founder [zr 0, zi a1] σ Q := by
  refine zO_of (ls0 := [zr 0, zi a1, zu]) (by decide) (Nat.le_of_ble_eq_true rfl) rfl ?_
  refine z_aload_n dX11_founder_0 rfl rfl ?_
  refine z_getfR (k := 1) flRX11_18 rfl rfl dX11_founder_1 ?_
  refine z_iload_n dX11_founder_4 rfl rfl ?_
  refine z_callv (as := [zi a1]) (st := []) mkX5_has lkRX11_146 rfl rfl rfl (by decide) (Nat.le_of_ble_eq_true rfl) rfl dX11_founder_5 ?_
  refine SX5_has ?_
  show zR G MX11_founder 8 [zr 0, zi a1, zu] [zi (if (0 ≤ a1 ∧ a1 < σ 22 12) then (1 : Int) else 0)] σ Q
  refine z_if_ne dX11_founder_8 (tgt := 17) (by decide) (fun z => ?_) (fun z => ?_)
  · have h1 : (0 ≤ a1 ∧ a1 < σ 22 12) := zb1 z
    refine z_aload_n dX11_founder_17 rfl rfl ?_
    refine z_getfR (k := 1) flRX11_18 rfl rfl dX11_founder_18 ?_
    refine z_getfI (k := 13) flRX11_149 rfl rfl dX11_founder_21 ?_
    refine z_istore_n (ls' := [zr 0, zi a1, zi (σ 22 13)]) dX11_founder_24 rfl (by decide) rfl ?_
    refine z_aload_n dX11_founder_25 rfl rfl ?_
    refine z_getfR (k := 1) flRX11_18 rfl rfl dX11_founder_26 ?_
    refine z_dup dX11_founder_29 rfl ?_
    refine z_getfI (k := 13) flRX11_149 rfl rfl dX11_founder_30 ?_
    refine z_iconst dX11_founder_33 (by unfold zIn; decide) ?_
    refine z_iload_n dX11_founder_34 rfl rfl ?_
    refine z_ishl dX11_founder_35 ?_
    refine z_ior dX11_founder_36 ?_
    refine z_putI (k := 13) fpRX11_149 rfl rfl dX11_founder_37 ?_
    refine z_aload_n dX11_founder_40 rfl rfl ?_
    refine z_getfR (k := 1) flRX11_18 rfl rfl dX11_founder_41 ?_
    refine z_getfE (k := 13) (v := zor (σ 22 13) (zshl 1 a1)) flRX11_149 rfl rfl (zup_same) dX11_founder_44 ?_
    refine z_iload_n dX11_founder_47 rfl rfl ?_
    refine z_icmp_ne dX11_founder_48 (tgt := 55) (by decide) (fun h2 => ?_) (fun h2 => ?_)
    · skip
      refine z_iconst dX11_founder_55 (by unfold zIn; decide) ?_
      exact z_ireti rfl dX11_founder_56 (k1 h1 h2)
    · skip
      refine z_iconst dX11_founder_51 (by unfold zIn; decide) ?_
      refine z_goto dX11_founder_52 (tgt := 56) (by decide) ?_
      exact z_ireti rfl dX11_founder_56 (k2 h1 h2)
  · have h1 : ¬ ((0 ≤ a1 ∧ a1 < σ 22 12)) := zb0 z
    refine z_aload_n dX11_founder_11 rfl rfl ?_
    refine z_iconst dX11_founder_12 (by unfold zIn; decide) ?_
    have s3 : -2147483648 ≤ -(-1) ∧ -(-1) < (2147483648 : Int) := k3 h1
    have s4 : (0 : Int) ≤ -(-1) ∧ -(-1) < (8 : Int) := k4 h1
    refine z_callv (as := [zi (-1)]) (st := []) mkX11_refuse lkRX11_132 rfl rfl rfl (by decide) (Nat.le_of_ble_eq_true rfl) rfl dX11_founder_13 ?_
    refine SX11_refuse s3 s4 ?_
    show zR G MX11_founder 16 [zr 0, zi a1, zu] [zi (-1)] (zup σ 97 (-(-1)) (zW ((σ 97 (-(-1))) + 1))) Q
    exact z_ireti rfl dX11_founder_16 (k5 h1)
set_option maxRecDepth 20000 in
set_option maxHeartbeats 1000000 in
theorem TX5_canLead {G : zG} {σ : zS} {Q : Int → zS → Prop} {a1 a2 a3 a4 : Int}  (k1 : (a1 ≠ a3) → -2147483648 ≤ 2 * a1 ∧ 2 * a1 < (2147483648 : Int)) (k2 : (a1 ≠ a3) → -2147483648 ≤ (2 * a1) + a2 ∧ (2 * a1) + a2 < (2147483648 : Int)) (k3 : (a1 ≠ a3) → (0 : Int) ≤ (2 * a1) + a2 ∧ (2 * a1) + a2 < (48 : Int)) (k4 : (a1 ≠ a3) → (σ 25 ((2 * a1) + a2) = (-1)) → zO G MX5_climb [zr 22, zi (zshl 1 a3), zi a4, zr 32] σ (fun rr σ' => zR G MX5_canLead 34 [zr 22, zi a1, zi a2, zi a3, zi a4] [] σ' Q)) (k5 : (a1 = a3 ∨ (a1 ≠ a3 ∧ σ 25 ((2 * a1) + a2) ≠ (-1))) → Q 0 σ) : zO G MX5_canLead [zr 22, zi a1, zi a2, zi a3, zi a4] σ Q := by
  refine zO_of (ls0 := [zr 22, zi a1, zi a2, zi a3, zi a4]) (by decide) (Nat.le_of_ble_eq_true rfl) rfl ?_
  have J19 : (a1 = a3 ∨ (a1 ≠ a3 ∧ σ 25 ((2 * a1) + a2) ≠ (-1))) → zR G MX5_canLead 19 [zr 22, zi a1, zi a2, zi a3, zi a4] [] σ Q := by
    intro h3
    refine z_iconst dX5_canLead_19 (by unfold zIn; decide) ?_
    exact z_iretz rfl (by decide) dX5_canLead_20 (k5 h3)
  refine z_iload_n dX5_canLead_0 rfl rfl ?_
  refine z_iload_n dX5_canLead_1 rfl rfl ?_
  refine z_icmp_eq dX5_canLead_2 (tgt := 19) (by decide) (fun h1 => ?_) (fun h1 => ?_)
  · skip
    exact J19 (Or.inl h1)
  · skip
    refine z_aload_n dX5_canLead_5 rfl rfl ?_
    refine z_getfR (k := 2) flRX5_18 rfl rfl dX5_canLead_6 ?_
    refine z_iconst dX5_canLead_9 (by unfold zIn; decide) ?_
    refine z_iload_n dX5_canLead_10 rfl rfl ?_
    have s1 : -2147483648 ≤ 2 * a1 ∧ 2 * a1 < (2147483648 : Int) := k1 h1
    refine z_imulN dX5_canLead_11 s1 ?_
    refine z_iload_n dX5_canLead_12 rfl rfl ?_
    have s2 : -2147483648 ≤ (2 * a1) + a2 ∧ (2 * a1) + a2 < (2147483648 : Int) := k2 h1
    refine z_iaddN dX5_canLead_13 s2 ?_
    have s3 : (0 : Int) ≤ (2 * a1) + a2 ∧ (2 * a1) + a2 < (48 : Int) := k3 h1
    refine z_iald rfl s3.1 s3.2 dX5_canLead_14 ?_
    refine z_iconst dX5_canLead_15 (by unfold zIn; decide) ?_
    refine z_icmp_eq dX5_canLead_16 (tgt := 21) (by decide) (fun h2 => ?_) (fun h2 => ?_)
    · skip
      refine z_aload_n dX5_canLead_21 rfl rfl ?_
      refine z_iconst dX5_canLead_22 (by unfold zIn; decide) ?_
      refine z_iload_n dX5_canLead_23 rfl rfl ?_
      refine z_ishl dX5_canLead_24 ?_
      refine z_iload dX5_canLead_25 rfl ?_
      refine z_aload_n dX5_canLead_27 rfl rfl ?_
      refine z_getfR (k := 9) flRX5_39 rfl rfl dX5_canLead_28 ?_
      refine z_callv (as := [zi (zshl 1 a3), zi a4, zr 32]) (st := []) mkX5_climb lkRX5_70 rfl rfl rfl (by decide) (Nat.le_of_ble_eq_true rfl) rfl dX5_canLead_31 (k4 h1 h2)
    · skip
      exact J19 (Or.inr ⟨h1, h2⟩)
set_option maxRecDepth 20000 in
set_option maxHeartbeats 1000000 in
theorem TX5_canLead_34 {G : zG} {σ : zS} {Q : Int → zS → Prop} {v1 v2 v3 v4 : Int}  (k1 : (0 : Int) ≤ v1 ∧ v1 < (24 : Int)) (k2 : (σ 32 v1 ≠ 99) → Q 0 σ) (k3 : (σ 32 v1 = 99) → Q 1 σ) : zR G MX5_canLead 34 [zr 22, zi v1, zi v2, zi v3, zi v4] [] σ Q := by
  refine z_aload_n dX5_canLead_34 rfl rfl ?_
  refine z_getfR (k := 9) flRX5_39 rfl rfl dX5_canLead_35 ?_
  refine z_iload_n dX5_canLead_38 rfl rfl ?_
  have s1 : (0 : Int) ≤ v1 ∧ v1 < (24 : Int) := k1
  refine z_iald rfl s1.1 s1.2 dX5_canLead_39 ?_
  refine z_bipush (x := 99) dX5_canLead_40 (by decide +kernel) (by unfold zIn; decide) ?_
  refine z_icmp_ne dX5_canLead_42 (tgt := 49) (by decide) (fun h1 => ?_) (fun h1 => ?_)
  · skip
    refine z_iconst dX5_canLead_49 (by unfold zIn; decide) ?_
    exact z_iretz rfl (by decide) dX5_canLead_50 (k2 h1)
  · skip
    refine z_iconst dX5_canLead_45 (by unfold zIn; decide) ?_
    refine z_goto dX5_canLead_46 (tgt := 50) (by decide) ?_
    exact z_iretz rfl (by decide) dX5_canLead_50 (k3 h1)
set_option maxRecDepth 20000 in
set_option maxHeartbeats 1000000 in
theorem TX11_link {G : zG} {σ : zS} {Q : Int → zS → Prop} {a1 a2 a3 : Int}  (k1 : ((0 ≤ a1 ∧ a1 < σ 22 12)) → ((0 ≤ a3 ∧ a3 < σ 22 12)) → ((0 ≤ a2 ∧ a2 ≤ 1)) → zO G MX5_canLead [zr 22, zi a1, zi a2, zi a3, zi (σ 0 13)] σ (fun rr σ' => zR G MX11_link 51 [zr 0, zi a1, zi a2, zi a3] [zi rr] σ' Q)) (k2 : ((¬ ((0 ≤ a1 ∧ a1 < σ 22 12))) ∨ (((0 ≤ a1 ∧ a1 < σ 22 12)) ∧ (¬ ((0 ≤ a3 ∧ a3 < σ 22 12))))) → -2147483648 ≤ -(-1) ∧ -(-1) < (2147483648 : Int)) (k3 : ((¬ ((0 ≤ a1 ∧ a1 < σ 22 12))) ∨ (((0 ≤ a1 ∧ a1 < σ 22 12)) ∧ (¬ ((0 ≤ a3 ∧ a3 < σ 22 12))))) → (0 : Int) ≤ -(-1) ∧ -(-1) < (8 : Int)) (k4 : ((¬ ((0 ≤ a1 ∧ a1 < σ 22 12))) ∨ (((0 ≤ a1 ∧ a1 < σ 22 12)) ∧ (¬ ((0 ≤ a3 ∧ a3 < σ 22 12))))) → Q (-1) (zup σ 97 (-(-1)) (zW ((σ 97 (-(-1))) + 1)))) (k5 : ((0 ≤ a1 ∧ a1 < σ 22 12)) → ((0 ≤ a3 ∧ a3 < σ 22 12)) → (¬ ((0 ≤ a2 ∧ a2 ≤ 1))) → -2147483648 ≤ -(-6) ∧ -(-6) < (2147483648 : Int)) (k6 : ((0 ≤ a1 ∧ a1 < σ 22 12)) → ((0 ≤ a3 ∧ a3 < σ 22 12)) → (¬ ((0 ≤ a2 ∧ a2 ≤ 1))) → (0 : Int) ≤ -(-6) ∧ -(-6) < (8 : Int)) (k7 : ((0 ≤ a1 ∧ a1 < σ 22 12)) → ((0 ≤ a3 ∧ a3 < σ 22 12)) → (¬ ((0 ≤ a2 ∧ a2 ≤ 1))) → Q (-6) (zup σ 97 (-(-6)) (zW ((σ 97 (-(-6))) + 1)))) : zO G MX11_link [zr 0, zi a1, zi a2, zi a3] σ Q := by
  refine zO_of (ls0 := [zr 0, zi a1, zi a2, zi a3]) (by decide) (Nat.le_of_ble_eq_true rfl) rfl ?_
  have J54 : ((0 ≤ a1 ∧ a1 < σ 22 12)) → ((0 ≤ a3 ∧ a3 < σ 22 12)) → (¬ ((0 ≤ a2 ∧ a2 ≤ 1))) → zR G MX11_link 54 [zr 0, zi a1, zi a2, zi a3] [] σ Q := by
    intro h1 h2 h3
    refine z_aload_n dX11_link_54 rfl rfl ?_
    refine z_bipush (x := (-6)) dX11_link_55 (by decide +kernel) (by unfold zIn; decide) ?_
    have s5 : -2147483648 ≤ -(-6) ∧ -(-6) < (2147483648 : Int) := k5 h1 h2 h3
    have s6 : (0 : Int) ≤ -(-6) ∧ -(-6) < (8 : Int) := k6 h1 h2 h3
    refine z_callv (as := [zi (-6)]) (st := []) mkX11_refuse lkRX11_132 rfl rfl rfl (by decide) (Nat.le_of_ble_eq_true rfl) rfl dX11_link_57 ?_
    refine SX11_refuse s5 s6 ?_
    show zR G MX11_link 60 [zr 0, zi a1, zi a2, zi a3] [zi (-6)] (zup σ 97 (-(-6)) (zW ((σ 97 (-(-6))) + 1))) Q
    exact z_ireti rfl dX11_link_60 (k7 h1 h2 h3)
  have J22 : ((¬ ((0 ≤ a1 ∧ a1 < σ 22 12))) ∨ (((0 ≤ a1 ∧ a1 < σ 22 12)) ∧ (¬ ((0 ≤ a3 ∧ a3 < σ 22 12))))) → zR G MX11_link 22 [zr 0, zi a1, zi a2, zi a3] [] σ Q := by
    intro h4
    refine z_aload_n dX11_link_22 rfl rfl ?_
    refine z_iconst dX11_link_23 (by unfold zIn; decide) ?_
    have s2 : -2147483648 ≤ -(-1) ∧ -(-1) < (2147483648 : Int) := k2 h4
    have s3 : (0 : Int) ≤ -(-1) ∧ -(-1) < (8 : Int) := k3 h4
    refine z_callv (as := [zi (-1)]) (st := []) mkX11_refuse lkRX11_132 rfl rfl rfl (by decide) (Nat.le_of_ble_eq_true rfl) rfl dX11_link_24 ?_
    refine SX11_refuse s2 s3 ?_
    show zR G MX11_link 27 [zr 0, zi a1, zi a2, zi a3] [zi (-1)] (zup σ 97 (-(-1)) (zW ((σ 97 (-(-1))) + 1))) Q
    exact z_ireti rfl dX11_link_27 (k4 h4)
  refine z_aload_n dX11_link_0 rfl rfl ?_
  refine z_getfR (k := 1) flRX11_18 rfl rfl dX11_link_1 ?_
  refine z_iload_n dX11_link_4 rfl rfl ?_
  refine z_callv (as := [zi a1]) (st := []) mkX5_has lkRX11_146 rfl rfl rfl (by decide) (Nat.le_of_ble_eq_true rfl) rfl dX11_link_5 ?_
  refine SX5_has ?_
  show zR G MX11_link 8 [zr 0, zi a1, zi a2, zi a3] [zi (if (0 ≤ a1 ∧ a1 < σ 22 12) then (1 : Int) else 0)] σ Q
  refine z_if_eq dX11_link_8 (tgt := 22) (by decide) (fun z => ?_) (fun z => ?_)
  · have h1 : ¬ ((0 ≤ a1 ∧ a1 < σ 22 12)) := zb0 z
    exact J22 (Or.inl h1)
  · have h1 : (0 ≤ a1 ∧ a1 < σ 22 12) := zb1 z
    refine z_aload_n dX11_link_11 rfl rfl ?_
    refine z_getfR (k := 1) flRX11_18 rfl rfl dX11_link_12 ?_
    refine z_iload_n dX11_link_15 rfl rfl ?_
    refine z_callv (as := [zi a3]) (st := []) mkX5_has lkRX11_146 rfl rfl rfl (by decide) (Nat.le_of_ble_eq_true rfl) rfl dX11_link_16 ?_
    refine SX5_has ?_
    show zR G MX11_link 19 [zr 0, zi a1, zi a2, zi a3] [zi (if (0 ≤ a3 ∧ a3 < σ 22 12) then (1 : Int) else 0)] σ Q
    refine z_if_ne dX11_link_19 (tgt := 28) (by decide) (fun z => ?_) (fun z => ?_)
    · have h2 : (0 ≤ a3 ∧ a3 < σ 22 12) := zb1 z
      refine z_iload_n dX11_link_28 rfl rfl ?_
      refine z_iconst dX11_link_29 (by unfold zIn; decide) ?_
      refine z_iconst dX11_link_30 (by unfold zIn; decide) ?_
      refine z_calls (as := [zi a2, zi 0, zi 1]) (st := []) mkX11_within lkRX11_111 rfl (by decide) (Nat.le_of_ble_eq_true rfl) rfl dX11_link_31 ?_
      refine SX11_within ?_
      show zR G MX11_link 34 [zr 0, zi a1, zi a2, zi a3] [zi (if (0 ≤ a2 ∧ a2 ≤ 1) then (1 : Int) else 0)] σ Q
      refine z_if_eq dX11_link_34 (tgt := 54) (by decide) (fun z => ?_) (fun z => ?_)
      · have h3 : ¬ ((0 ≤ a2 ∧ a2 ≤ 1)) := zb0 z
        exact J54 h1 h2 h3
      · have h3 : (0 ≤ a2 ∧ a2 ≤ 1) := zb1 z
        refine z_aload_n dX11_link_37 rfl rfl ?_
        refine z_getfR (k := 1) flRX11_18 rfl rfl dX11_link_38 ?_
        refine z_iload_n dX11_link_41 rfl rfl ?_
        refine z_iload_n dX11_link_42 rfl rfl ?_
        refine z_iload_n dX11_link_43 rfl rfl ?_
        refine z_aload_n dX11_link_44 rfl rfl ?_
        refine z_getfI (k := 13) flRX11_106 rfl rfl dX11_link_45 ?_
        refine z_callv (as := [zi a1, zi a2, zi a3, zi (σ 0 13)]) (st := []) mkX5_canLead lkRX11_152 rfl rfl rfl (by decide) (Nat.le_of_ble_eq_true rfl) rfl dX11_link_48 (k1 h1 h2 h3)
    · have h2 : ¬ ((0 ≤ a3 ∧ a3 < σ 22 12)) := zb0 z
      exact J22 (Or.inr ⟨h1, h2⟩)
set_option maxRecDepth 20000 in
set_option maxHeartbeats 1000000 in
theorem TX11_link_51 {G : zG} {σ : zS} {Q : Int → zS → Prop} {v1 v2 v3 r : Int}  (k1 : (r ≠ 0) → -2147483648 ≤ 2 * v1 ∧ 2 * v1 < (2147483648 : Int)) (k2 : (r ≠ 0) → -2147483648 ≤ (2 * v1) + v2 ∧ (2 * v1) + v2 < (2147483648 : Int)) (k3 : (r ≠ 0) → (0 : Int) ≤ (2 * v1) + v2 ∧ (2 * v1) + v2 < (48 : Int)) (k4 : (r ≠ 0) → Q 1 (zup (zup σ 24 ((2 * v1) + v2) v3) 25 ((2 * v1) + v2) (σ 0 13))) (k5 : (r = 0) → -2147483648 ≤ -(-6) ∧ -(-6) < (2147483648 : Int)) (k6 : (r = 0) → (0 : Int) ≤ -(-6) ∧ -(-6) < (8 : Int)) (k7 : (r = 0) → Q (-6) (zup σ 97 (-(-6)) (zW ((σ 97 (-(-6))) + 1)))) : zR G MX11_link 51 [zr 0, zi v1, zi v2, zi v3] [zi r] σ Q := by
  have J54 : (r = 0) → zR G MX11_link 54 [zr 0, zi v1, zi v2, zi v3] [] σ Q := by
    intro h1
    refine z_aload_n dX11_link_54 rfl rfl ?_
    refine z_bipush (x := (-6)) dX11_link_55 (by decide +kernel) (by unfold zIn; decide) ?_
    have s5 : -2147483648 ≤ -(-6) ∧ -(-6) < (2147483648 : Int) := k5 h1
    have s6 : (0 : Int) ≤ -(-6) ∧ -(-6) < (8 : Int) := k6 h1
    refine z_callv (as := [zi (-6)]) (st := []) mkX11_refuse lkRX11_132 rfl rfl rfl (by decide) (Nat.le_of_ble_eq_true rfl) rfl dX11_link_57 ?_
    refine SX11_refuse s5 s6 ?_
    show zR G MX11_link 60 [zr 0, zi v1, zi v2, zi v3] [zi (-6)] (zup σ 97 (-(-6)) (zW ((σ 97 (-(-6))) + 1))) Q
    exact z_ireti rfl dX11_link_60 (k7 h1)
  refine z_if_ne dX11_link_51 (tgt := 61) (by decide) (fun h1 => ?_) (fun h1 => ?_)
  · skip
    refine z_aload_n dX11_link_61 rfl rfl ?_
    refine z_getfR (k := 1) flRX11_18 rfl rfl dX11_link_62 ?_
    refine z_getfR (k := 1) flRX11_156 rfl rfl dX11_link_65 ?_
    refine z_iconst dX11_link_68 (by unfold zIn; decide) ?_
    refine z_iload_n dX11_link_69 rfl rfl ?_
    have s1 : -2147483648 ≤ 2 * v1 ∧ 2 * v1 < (2147483648 : Int) := k1 h1
    refine z_imulN dX11_link_70 s1 ?_
    refine z_iload_n dX11_link_71 rfl rfl ?_
    have s2 : -2147483648 ≤ (2 * v1) + v2 ∧ (2 * v1) + v2 < (2147483648 : Int) := k2 h1
    refine z_iaddN dX11_link_72 s2 ?_
    refine z_iload_n dX11_link_73 rfl rfl ?_
    have s3 : (0 : Int) ≤ (2 * v1) + v2 ∧ (2 * v1) + v2 < (48 : Int) := k3 h1
    refine z_iast rfl s3.1 s3.2 dX11_link_74 ?_
    refine z_aload_n dX11_link_75 rfl rfl ?_
    refine z_getfR (k := 1) flRX11_18 rfl rfl dX11_link_76 ?_
    refine z_getfR (k := 2) flRX11_159 rfl rfl dX11_link_79 ?_
    refine z_iconst dX11_link_82 (by unfold zIn; decide) ?_
    refine z_iload_n dX11_link_83 rfl rfl ?_
    refine z_imulN dX11_link_84 s1 ?_
    refine z_iload_n dX11_link_85 rfl rfl ?_
    refine z_iaddN dX11_link_86 s2 ?_
    refine z_aload_n dX11_link_87 rfl rfl ?_
    refine z_getfE (k := 13) (v := σ 0 13) flRX11_106 rfl rfl (zup_of (by decide)) dX11_link_88 ?_
    refine z_iast rfl s3.1 s3.2 dX11_link_91 ?_
    refine z_iconst dX11_link_92 (by unfold zIn; decide) ?_
    exact z_ireti rfl dX11_link_93 (k4 h1)
  · skip
    exact J54 h1
set_option maxRecDepth 20000 in
set_option maxHeartbeats 1000000 in
theorem TX11_fact {G : zG} {σ : zS} {Q : Int → zS → Prop} {a1 a2 a3 a4 : Int}  (k1 : ((0 ≤ a1 ∧ a1 < σ 22 12)) → ((0 ≤ a2 ∧ a2 ≤ 3)) → ((0 ≤ a3 ∧ a3 ≤ 9999)) → (((-40000) ≤ a4 ∧ a4 ≤ 40000)) → (σ 22 14 ≠ 400) → -2147483648 ≤ 4 * a1 ∧ 4 * a1 < (2147483648 : Int)) (k2 : ((0 ≤ a1 ∧ a1 < σ 22 12)) → ((0 ≤ a2 ∧ a2 ≤ 3)) → ((0 ≤ a3 ∧ a3 ≤ 9999)) → (((-40000) ≤ a4 ∧ a4 ≤ 40000)) → (σ 22 14 ≠ 400) → -2147483648 ≤ (4 * a1) + a2 ∧ (4 * a1) + a2 < (2147483648 : Int)) (k3 : ((0 ≤ a1 ∧ a1 < σ 22 12)) → ((0 ≤ a2 ∧ a2 ≤ 3)) → ((0 ≤ a3 ∧ a3 ≤ 9999)) → (((-40000) ≤ a4 ∧ a4 ≤ 40000)) → (σ 22 14 ≠ 400) → (0 : Int) ≤ σ 22 14 ∧ σ 22 14 < (400 : Int)) (k4 : ((0 ≤ a1 ∧ a1 < σ 22 12)) → ((0 ≤ a2 ∧ a2 ≤ 3)) → ((0 ≤ a3 ∧ a3 ≤ 9999)) → (((-40000) ≤ a4 ∧ a4 ≤ 40000)) → (σ 22 14 ≠ 400) → -2147483648 ≤ σ 22 14 + 1 ∧ σ 22 14 + 1 < (2147483648 : Int)) (k5 : ((0 ≤ a1 ∧ a1 < σ 22 12)) → ((0 ≤ a2 ∧ a2 ≤ 3)) → ((0 ≤ a3 ∧ a3 ≤ 9999)) → (((-40000) ≤ a4 ∧ a4 ≤ 40000)) → (σ 22 14 ≠ 400) → Q (σ 22 14 + 1) (zup (zup (zup (zup (zup σ 28 (σ 22 14) ((4 * a1) + a2)) 29 (σ 22 14) a3) 30 (σ 22 14) a4) 31 (σ 22 14) (σ 0 13)) 22 14 (σ 22 14 + 1))) (k6 : ((0 ≤ a1 ∧ a1 < σ 22 12)) → ((0 ≤ a2 ∧ a2 ≤ 3)) → ((0 ≤ a3 ∧ a3 ≤ 9999)) → (((-40000) ≤ a4 ∧ a4 ≤ 40000)) → (σ 22 14 = 400) → -2147483648 ≤ -(-7) ∧ -(-7) < (2147483648 : Int)) (k7 : ((0 ≤ a1 ∧ a1 < σ 22 12)) → ((0 ≤ a2 ∧ a2 ≤ 3)) → ((0 ≤ a3 ∧ a3 ≤ 9999)) → (((-40000) ≤ a4 ∧ a4 ≤ 40000)) → (σ 22 14 = 400) → (0 : Int) ≤ -(-7) ∧ -(-7) < (8 : Int)) (k8 : ((0 ≤ a1 ∧ a1 < σ 22 12)) → ((0 ≤ a2 ∧ a2 ≤ 3)) → ((0 ≤ a3 ∧ a3 ≤ 9999)) → (((-40000) ≤ a4 ∧ a4 ≤ 40000)) → (σ 22 14 = 400) → Q (-7) (zup σ 97 (-(-7)) (zW ((σ 97 (-(-7))) + 1)))) (k9 : (¬ ((0 ≤ a1 ∧ a1 < σ 22 12))) → -2147483648 ≤ -(-1) ∧ -(-1) < (2147483648 : Int)) (k10 : (¬ ((0 ≤ a1 ∧ a1 < σ 22 12))) → (0 : Int) ≤ -(-1) ∧ -(-1) < (8 : Int)) (k11 : (¬ ((0 ≤ a1 ∧ a1 < σ 22 12))) → Q (-1) (zup σ 97 (-(-1)) (zW ((σ 97 (-(-1))) + 1)))) (k12 : ((0 ≤ a1 ∧ a1 < σ 22 12)) → ((¬ ((0 ≤ a2 ∧ a2 ≤ 3))) ∨ (((0 ≤ a2 ∧ a2 ≤ 3)) ∧ (¬ ((0 ≤ a3 ∧ a3 ≤ 9999)))) ∨ (((0 ≤ a2 ∧ a2 ≤ 3)) ∧ ((0 ≤ a3 ∧ a3 ≤ 9999)) ∧ (¬ (((-40000) ≤ a4 ∧ a4 ≤ 40000))))) → -2147483648 ≤ -(-6) ∧ -(-6) < (2147483648 : Int)) (k13 : ((0 ≤ a1 ∧ a1 < σ 22 12)) → ((¬ ((0 ≤ a2 ∧ a2 ≤ 3))) ∨ (((0 ≤ a2 ∧ a2 ≤ 3)) ∧ (¬ ((0 ≤ a3 ∧ a3 ≤ 9999)))) ∨ (((0 ≤ a2 ∧ a2 ≤ 3)) ∧ ((0 ≤ a3 ∧ a3 ≤ 9999)) ∧ (¬ (((-40000) ≤ a4 ∧ a4 ≤ 40000))))) → (0 : Int) ≤ -(-6) ∧ -(-6) < (8 : Int)) (k14 : ((0 ≤ a1 ∧ a1 < σ 22 12)) → ((¬ ((0 ≤ a2 ∧ a2 ≤ 3))) ∨ (((0 ≤ a2 ∧ a2 ≤ 3)) ∧ (¬ ((0 ≤ a3 ∧ a3 ≤ 9999)))) ∨ (((0 ≤ a2 ∧ a2 ≤ 3)) ∧ ((0 ≤ a3 ∧ a3 ≤ 9999)) ∧ (¬ (((-40000) ≤ a4 ∧ a4 ≤ 40000))))) → Q (-6) (zup σ 97 (-(-6)) (zW ((σ 97 (-(-6))) + 1)))) : zO G MX11_fact [zr 0, zi a1, zi a2, zi a3, zi a4] σ Q := by
  refine zO_of (ls0 := [zr 0, zi a1, zi a2, zi a3, zi a4]) (by decide) (Nat.le_of_ble_eq_true rfl) rfl ?_
  have J49 : ((0 ≤ a1 ∧ a1 < σ 22 12)) → ((¬ ((0 ≤ a2 ∧ a2 ≤ 3))) ∨ (((0 ≤ a2 ∧ a2 ≤ 3)) ∧ (¬ ((0 ≤ a3 ∧ a3 ≤ 9999)))) ∨ (((0 ≤ a2 ∧ a2 ≤ 3)) ∧ ((0 ≤ a3 ∧ a3 ≤ 9999)) ∧ (¬ (((-40000) ≤ a4 ∧ a4 ≤ 40000))))) → zR G MX11_fact 49 [zr 0, zi a1, zi a2, zi a3, zi a4] [] σ Q := by
    intro h1 h6
    refine z_aload_n dX11_fact_49 rfl rfl ?_
    refine z_bipush (x := (-6)) dX11_fact_50 (by decide +kernel) (by unfold zIn; decide) ?_
    have s12 : -2147483648 ≤ -(-6) ∧ -(-6) < (2147483648 : Int) := k12 h1 h6
    have s13 : (0 : Int) ≤ -(-6) ∧ -(-6) < (8 : Int) := k13 h1 h6
    refine z_callv (as := [zi (-6)]) (st := []) mkX11_refuse lkRX11_132 rfl rfl rfl (by decide) (Nat.le_of_ble_eq_true rfl) rfl dX11_fact_52 ?_
    refine SX11_refuse s12 s13 ?_
    show zR G MX11_fact 55 [zr 0, zi a1, zi a2, zi a3, zi a4] [zi (-6)] (zup σ 97 (-(-6)) (zW ((σ 97 (-(-6))) + 1))) Q
    exact z_ireti rfl dX11_fact_55 (k14 h1 h6)
  refine z_aload_n dX11_fact_0 rfl rfl ?_
  refine z_getfR (k := 1) flRX11_18 rfl rfl dX11_fact_1 ?_
  refine z_iload_n dX11_fact_4 rfl rfl ?_
  refine z_callv (as := [zi a1]) (st := []) mkX5_has lkRX11_146 rfl rfl rfl (by decide) (Nat.le_of_ble_eq_true rfl) rfl dX11_fact_5 ?_
  refine SX5_has ?_
  show zR G MX11_fact 8 [zr 0, zi a1, zi a2, zi a3, zi a4] [zi (if (0 ≤ a1 ∧ a1 < σ 22 12) then (1 : Int) else 0)] σ Q
  refine z_if_ne dX11_fact_8 (tgt := 17) (by decide) (fun z => ?_) (fun z => ?_)
  · have h1 : (0 ≤ a1 ∧ a1 < σ 22 12) := zb1 z
    refine z_iload_n dX11_fact_17 rfl rfl ?_
    refine z_iconst dX11_fact_18 (by unfold zIn; decide) ?_
    refine z_iconst dX11_fact_19 (by unfold zIn; decide) ?_
    refine z_calls (as := [zi a2, zi 0, zi 3]) (st := []) mkX11_within lkRX11_111 rfl (by decide) (Nat.le_of_ble_eq_true rfl) rfl dX11_fact_20 ?_
    refine SX11_within ?_
    show zR G MX11_fact 23 [zr 0, zi a1, zi a2, zi a3, zi a4] [zi (if (0 ≤ a2 ∧ a2 ≤ 3) then (1 : Int) else 0)] σ Q
    refine z_if_eq dX11_fact_23 (tgt := 49) (by decide) (fun z => ?_) (fun z => ?_)
    · have h2 : ¬ ((0 ≤ a2 ∧ a2 ≤ 3)) := zb0 z
      exact J49 h1 (Or.inl h2)
    · have h2 : (0 ≤ a2 ∧ a2 ≤ 3) := zb1 z
      refine z_iload_n dX11_fact_26 rfl rfl ?_
      refine z_iconst dX11_fact_27 (by unfold zIn; decide) ?_
      refine z_sipush (x := 9999) dX11_fact_28 (by decide +kernel) (by unfold zIn; decide) ?_
      refine z_calls (as := [zi a3, zi 0, zi 9999]) (st := []) mkX11_within lkRX11_111 rfl (by decide) (Nat.le_of_ble_eq_true rfl) rfl dX11_fact_31 ?_
      refine SX11_within ?_
      show zR G MX11_fact 34 [zr 0, zi a1, zi a2, zi a3, zi a4] [zi (if (0 ≤ a3 ∧ a3 ≤ 9999) then (1 : Int) else 0)] σ Q
      refine z_if_eq dX11_fact_34 (tgt := 49) (by decide) (fun z => ?_) (fun z => ?_)
      · have h3 : ¬ ((0 ≤ a3 ∧ a3 ≤ 9999)) := zb0 z
        exact J49 h1 (Or.inr (Or.inl ⟨h2, h3⟩))
      · have h3 : (0 ≤ a3 ∧ a3 ≤ 9999) := zb1 z
        refine z_iload dX11_fact_37 rfl ?_
        refine z_ldc (x := (-40000)) (zin_3 (List.mem_of_getElem? (i := 218) (by decide +kernel))) (by unfold zIn; decide) dX11_fact_39 ?_
        refine z_ldc (x := 40000) (zin_3 (List.mem_of_getElem? (i := 89) (by decide +kernel))) (by unfold zIn; decide) dX11_fact_41 ?_
        refine z_calls (as := [zi a4, zi (-40000), zi 40000]) (st := []) mkX11_within lkRX11_111 rfl (by decide) (Nat.le_of_ble_eq_true rfl) rfl dX11_fact_43 ?_
        refine SX11_within ?_
        show zR G MX11_fact 46 [zr 0, zi a1, zi a2, zi a3, zi a4] [zi (if ((-40000) ≤ a4 ∧ a4 ≤ 40000) then (1 : Int) else 0)] σ Q
        refine z_if_ne dX11_fact_46 (tgt := 56) (by decide) (fun z => ?_) (fun z => ?_)
        · have h4 : ((-40000) ≤ a4 ∧ a4 ≤ 40000) := zb1 z
          refine z_aload_n dX11_fact_56 rfl rfl ?_
          refine z_getfR (k := 1) flRX11_18 rfl rfl dX11_fact_57 ?_
          refine z_getfI (k := 14) flRX11_162 rfl rfl dX11_fact_60 ?_
          refine z_sipush (x := 400) dX11_fact_63 (by decide +kernel) (by unfold zIn; decide) ?_
          refine z_icmp_ne dX11_fact_66 (tgt := 76) (by decide) (fun h5 => ?_) (fun h5 => ?_)
          · skip
            refine z_aload_n dX11_fact_76 rfl rfl ?_
            refine z_getfR (k := 1) flRX11_18 rfl rfl dX11_fact_77 ?_
            refine z_iconst dX11_fact_80 (by unfold zIn; decide) ?_
            refine z_iload_n dX11_fact_81 rfl rfl ?_
            have s1 : -2147483648 ≤ 4 * a1 ∧ 4 * a1 < (2147483648 : Int) := k1 h1 h2 h3 h4 h5
            refine z_imulN dX11_fact_82 s1 ?_
            refine z_iload_n dX11_fact_83 rfl rfl ?_
            have s2 : -2147483648 ≤ (4 * a1) + a2 ∧ (4 * a1) + a2 < (2147483648 : Int) := k2 h1 h2 h3 h4 h5
            refine z_iaddN dX11_fact_84 s2 ?_
            refine z_iload_n dX11_fact_85 rfl rfl ?_
            refine z_iload dX11_fact_86 rfl ?_
            refine z_aload_n dX11_fact_88 rfl rfl ?_
            refine z_getfI (k := 13) flRX11_106 rfl rfl dX11_fact_89 ?_
            have s3 : (0 : Int) ≤ σ 22 14 ∧ σ 22 14 < (400 : Int) := k3 h1 h2 h3 h4 h5
            have s4 : -2147483648 ≤ σ 22 14 + 1 ∧ σ 22 14 + 1 < (2147483648 : Int) := k4 h1 h2 h3 h4 h5
            refine z_callv (as := [zi ((4 * a1) + a2), zi a3, zi a4, zi (σ 0 13)]) (st := []) mkX5_tellFact lkRX11_165 rfl rfl rfl (by decide) (Nat.le_of_ble_eq_true rfl) rfl dX11_fact_92 ?_
            refine SX5_tellFact s3 s4 ?_
            show zR G MX11_fact 95 [zr 0, zi a1, zi a2, zi a3, zi a4] [zi (σ 22 14 + 1)] (zup (zup (zup (zup (zup σ 28 (σ 22 14) ((4 * a1) + a2)) 29 (σ 22 14) a3) 30 (σ 22 14) a4) 31 (σ 22 14) (σ 0 13)) 22 14 (σ 22 14 + 1)) Q
            exact z_ireti rfl dX11_fact_95 (k5 h1 h2 h3 h4 h5)
          · skip
            refine z_aload_n dX11_fact_69 rfl rfl ?_
            refine z_bipush (x := (-7)) dX11_fact_70 (by decide +kernel) (by unfold zIn; decide) ?_
            have s6 : -2147483648 ≤ -(-7) ∧ -(-7) < (2147483648 : Int) := k6 h1 h2 h3 h4 h5
            have s7 : (0 : Int) ≤ -(-7) ∧ -(-7) < (8 : Int) := k7 h1 h2 h3 h4 h5
            refine z_callv (as := [zi (-7)]) (st := []) mkX11_refuse lkRX11_132 rfl rfl rfl (by decide) (Nat.le_of_ble_eq_true rfl) rfl dX11_fact_72 ?_
            refine SX11_refuse s6 s7 ?_
            show zR G MX11_fact 75 [zr 0, zi a1, zi a2, zi a3, zi a4] [zi (-7)] (zup σ 97 (-(-7)) (zW ((σ 97 (-(-7))) + 1))) Q
            exact z_ireti rfl dX11_fact_75 (k8 h1 h2 h3 h4 h5)
        · have h4 : ¬ (((-40000) ≤ a4 ∧ a4 ≤ 40000)) := zb0 z
          exact J49 h1 (Or.inr (Or.inr ⟨h2, h3, h4⟩))
  · have h1 : ¬ ((0 ≤ a1 ∧ a1 < σ 22 12)) := zb0 z
    refine z_aload_n dX11_fact_11 rfl rfl ?_
    refine z_iconst dX11_fact_12 (by unfold zIn; decide) ?_
    have s9 : -2147483648 ≤ -(-1) ∧ -(-1) < (2147483648 : Int) := k9 h1
    have s10 : (0 : Int) ≤ -(-1) ∧ -(-1) < (8 : Int) := k10 h1
    refine z_callv (as := [zi (-1)]) (st := []) mkX11_refuse lkRX11_132 rfl rfl rfl (by decide) (Nat.le_of_ble_eq_true rfl) rfl dX11_fact_13 ?_
    refine SX11_refuse s9 s10 ?_
    show zR G MX11_fact 16 [zr 0, zi a1, zi a2, zi a3, zi a4] [zi (-1)] (zup σ 97 (-(-1)) (zW ((σ 97 (-(-1))) + 1))) Q
    exact z_ireti rfl dX11_fact_16 (k11 h1)
set_option maxRecDepth 20000 in
set_option maxHeartbeats 1000000 in
theorem TX11_death {G : zG} {σ : zS} {Q : Int → zS → Prop} {a1 a2 : Int}  (k1 : ((0 ≤ a1 ∧ a1 < σ 22 12)) → (0 : Int) ≤ a1 ∧ a1 < (24 : Int)) (k2 : ((0 ≤ a1 ∧ a1 < σ 22 12)) → (σ 27 a1 = (-1)) → (σ 23 a1 ≤ a2) → (a2 ≤ σ 0 13) → Q 1 (zup (zup σ 26 a1 a2) 27 a1 (σ 0 13))) (k3 : (¬ ((0 ≤ a1 ∧ a1 < σ 22 12))) → -2147483648 ≤ -(-1) ∧ -(-1) < (2147483648 : Int)) (k4 : (¬ ((0 ≤ a1 ∧ a1 < σ 22 12))) → (0 : Int) ≤ -(-1) ∧ -(-1) < (8 : Int)) (k5 : (¬ ((0 ≤ a1 ∧ a1 < σ 22 12))) → Q (-1) (zup σ 97 (-(-1)) (zW ((σ 97 (-(-1))) + 1)))) (k6 : ((0 ≤ a1 ∧ a1 < σ 22 12)) → (σ 27 a1 ≠ (-1) ∨ (σ 27 a1 = (-1) ∧ a2 < σ 23 a1) ∨ (σ 27 a1 = (-1) ∧ σ 23 a1 ≤ a2 ∧ σ 0 13 < a2)) → -2147483648 ≤ -(-6) ∧ -(-6) < (2147483648 : Int)) (k7 : ((0 ≤ a1 ∧ a1 < σ 22 12)) → (σ 27 a1 ≠ (-1) ∨ (σ 27 a1 = (-1) ∧ a2 < σ 23 a1) ∨ (σ 27 a1 = (-1) ∧ σ 23 a1 ≤ a2 ∧ σ 0 13 < a2)) → (0 : Int) ≤ -(-6) ∧ -(-6) < (8 : Int)) (k8 : ((0 ≤ a1 ∧ a1 < σ 22 12)) → (σ 27 a1 ≠ (-1) ∨ (σ 27 a1 = (-1) ∧ a2 < σ 23 a1) ∨ (σ 27 a1 = (-1) ∧ σ 23 a1 ≤ a2 ∧ σ 0 13 < a2)) → Q (-6) (zup σ 97 (-(-6)) (zW ((σ 97 (-(-6))) + 1)))) : zO G MX11_death [zr 0, zi a1, zi a2] σ Q := by
  refine zO_of (ls0 := [zr 0, zi a1, zi a2]) (by decide) (Nat.le_of_ble_eq_true rfl) rfl ?_
  have J51 : ((0 ≤ a1 ∧ a1 < σ 22 12)) → (σ 27 a1 ≠ (-1) ∨ (σ 27 a1 = (-1) ∧ a2 < σ 23 a1) ∨ (σ 27 a1 = (-1) ∧ σ 23 a1 ≤ a2 ∧ σ 0 13 < a2)) → zR G MX11_death 51 [zr 0, zi a1, zi a2] [] σ Q := by
    intro h1 h5
    refine z_aload_n dX11_death_51 rfl rfl ?_
    refine z_bipush (x := (-6)) dX11_death_52 (by decide +kernel) (by unfold zIn; decide) ?_
    have s6 : -2147483648 ≤ -(-6) ∧ -(-6) < (2147483648 : Int) := k6 h1 h5
    have s7 : (0 : Int) ≤ -(-6) ∧ -(-6) < (8 : Int) := k7 h1 h5
    refine z_callv (as := [zi (-6)]) (st := []) mkX11_refuse lkRX11_132 rfl rfl rfl (by decide) (Nat.le_of_ble_eq_true rfl) rfl dX11_death_54 ?_
    refine SX11_refuse s6 s7 ?_
    show zR G MX11_death 57 [zr 0, zi a1, zi a2] [zi (-6)] (zup σ 97 (-(-6)) (zW ((σ 97 (-(-6))) + 1))) Q
    exact z_ireti rfl dX11_death_57 (k8 h1 h5)
  refine z_aload_n dX11_death_0 rfl rfl ?_
  refine z_getfR (k := 1) flRX11_18 rfl rfl dX11_death_1 ?_
  refine z_iload_n dX11_death_4 rfl rfl ?_
  refine z_callv (as := [zi a1]) (st := []) mkX5_has lkRX11_146 rfl rfl rfl (by decide) (Nat.le_of_ble_eq_true rfl) rfl dX11_death_5 ?_
  refine SX5_has ?_
  show zR G MX11_death 8 [zr 0, zi a1, zi a2] [zi (if (0 ≤ a1 ∧ a1 < σ 22 12) then (1 : Int) else 0)] σ Q
  refine z_if_ne dX11_death_8 (tgt := 17) (by decide) (fun z => ?_) (fun z => ?_)
  · have h1 : (0 ≤ a1 ∧ a1 < σ 22 12) := zb1 z
    refine z_aload_n dX11_death_17 rfl rfl ?_
    refine z_getfR (k := 1) flRX11_18 rfl rfl dX11_death_18 ?_
    refine z_getfR (k := 4) flRX11_169 rfl rfl dX11_death_21 ?_
    refine z_iload_n dX11_death_24 rfl rfl ?_
    have s1 : (0 : Int) ≤ a1 ∧ a1 < (24 : Int) := k1 h1
    refine z_iald rfl s1.1 s1.2 dX11_death_25 ?_
    refine z_iconst dX11_death_26 (by unfold zIn; decide) ?_
    refine z_icmp_ne dX11_death_27 (tgt := 51) (by decide) (fun h2 => ?_) (fun h2 => ?_)
    · skip
      exact J51 h1 (Or.inl h2)
    · skip
      refine z_iload_n dX11_death_30 rfl rfl ?_
      refine z_aload_n dX11_death_31 rfl rfl ?_
      refine z_getfR (k := 1) flRX11_18 rfl rfl dX11_death_32 ?_
      refine z_getfR (k := 0) flRX11_172 rfl rfl dX11_death_35 ?_
      refine z_iload_n dX11_death_38 rfl rfl ?_
      refine z_iald rfl s1.1 s1.2 dX11_death_39 ?_
      refine z_icmp_lt dX11_death_40 (tgt := 51) (by decide) (fun h3 => ?_) (fun h3 => ?_)
      · skip
        exact J51 h1 (Or.inr (Or.inl ⟨h2, h3⟩))
      · skip
        refine z_iload_n dX11_death_43 rfl rfl ?_
        refine z_aload_n dX11_death_44 rfl rfl ?_
        refine z_getfI (k := 13) flRX11_106 rfl rfl dX11_death_45 ?_
        refine z_icmp_le dX11_death_48 (tgt := 58) (by decide) (fun h4 => ?_) (fun h4 => ?_)
        · skip
          refine z_aload_n dX11_death_58 rfl rfl ?_
          refine z_getfR (k := 1) flRX11_18 rfl rfl dX11_death_59 ?_
          refine z_getfR (k := 3) flRX11_175 rfl rfl dX11_death_62 ?_
          refine z_iload_n dX11_death_65 rfl rfl ?_
          refine z_iload_n dX11_death_66 rfl rfl ?_
          refine z_iast rfl s1.1 s1.2 dX11_death_67 ?_
          refine z_aload_n dX11_death_68 rfl rfl ?_
          refine z_getfR (k := 1) flRX11_18 rfl rfl dX11_death_69 ?_
          refine z_getfR (k := 4) flRX11_169 rfl rfl dX11_death_72 ?_
          refine z_iload_n dX11_death_75 rfl rfl ?_
          refine z_aload_n dX11_death_76 rfl rfl ?_
          refine z_getfE (k := 13) (v := σ 0 13) flRX11_106 rfl rfl (zup_of (by decide)) dX11_death_77 ?_
          refine z_iast rfl s1.1 s1.2 dX11_death_80 ?_
          refine z_iconst dX11_death_81 (by unfold zIn; decide) ?_
          exact z_ireti rfl dX11_death_82 (k2 h1 h2 h3 h4)
        · skip
          exact J51 h1 (Or.inr (Or.inr ⟨h2, h3, h4⟩))
  · have h1 : ¬ ((0 ≤ a1 ∧ a1 < σ 22 12)) := zb0 z
    refine z_aload_n dX11_death_11 rfl rfl ?_
    refine z_iconst dX11_death_12 (by unfold zIn; decide) ?_
    have s3 : -2147483648 ≤ -(-1) ∧ -(-1) < (2147483648 : Int) := k3 h1
    have s4 : (0 : Int) ≤ -(-1) ∧ -(-1) < (8 : Int) := k4 h1
    refine z_callv (as := [zi (-1)]) (st := []) mkX11_refuse lkRX11_132 rfl rfl rfl (by decide) (Nat.le_of_ble_eq_true rfl) rfl dX11_death_13 ?_
    refine SX11_refuse s3 s4 ?_
    show zR G MX11_death 16 [zr 0, zi a1, zi a2] [zi (-1)] (zup σ 97 (-(-1)) (zW ((σ 97 (-(-1))) + 1))) Q
    exact z_ireti rfl dX11_death_16 (k5 h1)
set_option maxRecDepth 20000 in
set_option maxHeartbeats 1000000 in
theorem TX11_is {G : zG} {σ : zS} {Q : Int → zS → Prop} {a1 a2 a3 a4 : Int}  (k1 : ((0 ≤ a1 ∧ a1 < σ 22 12)) → ((0 ≤ a2 ∧ a2 ≤ 3)) → -2147483648 ≤ 4 * a1 ∧ 4 * a1 < (2147483648 : Int)) (k2 : ((0 ≤ a1 ∧ a1 < σ 22 12)) → ((0 ≤ a2 ∧ a2 ≤ 3)) → -2147483648 ≤ (4 * a1) + a2 ∧ (4 * a1) + a2 < (2147483648 : Int)) (k3 : ((0 ≤ a1 ∧ a1 < σ 22 12)) → ((0 ≤ a2 ∧ a2 ≤ 3)) → zO G MX5_valueOf [zr 22, zi ((4 * a1) + a2), zi a3, zi a4] σ (fun rr σ' => zR G MX11_is 37 [zr 0, zi a1, zi a2, zi a3, zi a4] [zi rr] σ' Q)) (k4 : ((¬ ((0 ≤ a1 ∧ a1 < σ 22 12))) ∨ (((0 ≤ a1 ∧ a1 < σ 22 12)) ∧ (¬ ((0 ≤ a2 ∧ a2 ≤ 3))))) → Q (-1) σ) : zO G MX11_is [zr 0, zi a1, zi a2, zi a3, zi a4] σ Q := by
  refine zO_of (ls0 := [zr 0, zi a1, zi a2, zi a3, zi a4]) (by decide) (Nat.le_of_ble_eq_true rfl) rfl ?_
  have J20 : ((¬ ((0 ≤ a1 ∧ a1 < σ 22 12))) ∨ (((0 ≤ a1 ∧ a1 < σ 22 12)) ∧ (¬ ((0 ≤ a2 ∧ a2 ≤ 3))))) → zR G MX11_is 20 [zr 0, zi a1, zi a2, zi a3, zi a4] [] σ Q := by
    intro h3
    refine z_iconst dX11_is_20 (by unfold zIn; decide) ?_
    exact z_ireti rfl dX11_is_21 (k4 h3)
  refine z_aload_n dX11_is_0 rfl rfl ?_
  refine z_getfR (k := 1) flRX11_18 rfl rfl dX11_is_1 ?_
  refine z_iload_n dX11_is_4 rfl rfl ?_
  refine z_callv (as := [zi a1]) (st := []) mkX5_has lkRX11_146 rfl rfl rfl (by decide) (Nat.le_of_ble_eq_true rfl) rfl dX11_is_5 ?_
  refine SX5_has ?_
  show zR G MX11_is 8 [zr 0, zi a1, zi a2, zi a3, zi a4] [zi (if (0 ≤ a1 ∧ a1 < σ 22 12) then (1 : Int) else 0)] σ Q
  refine z_if_eq dX11_is_8 (tgt := 20) (by decide) (fun z => ?_) (fun z => ?_)
  · have h1 : ¬ ((0 ≤ a1 ∧ a1 < σ 22 12)) := zb0 z
    exact J20 (Or.inl h1)
  · have h1 : (0 ≤ a1 ∧ a1 < σ 22 12) := zb1 z
    refine z_iload_n dX11_is_11 rfl rfl ?_
    refine z_iconst dX11_is_12 (by unfold zIn; decide) ?_
    refine z_iconst dX11_is_13 (by unfold zIn; decide) ?_
    refine z_calls (as := [zi a2, zi 0, zi 3]) (st := []) mkX11_within lkRX11_111 rfl (by decide) (Nat.le_of_ble_eq_true rfl) rfl dX11_is_14 ?_
    refine SX11_within ?_
    show zR G MX11_is 17 [zr 0, zi a1, zi a2, zi a3, zi a4] [zi (if (0 ≤ a2 ∧ a2 ≤ 3) then (1 : Int) else 0)] σ Q
    refine z_if_ne dX11_is_17 (tgt := 22) (by decide) (fun z => ?_) (fun z => ?_)
    · have h2 : (0 ≤ a2 ∧ a2 ≤ 3) := zb1 z
      refine z_aload_n dX11_is_22 rfl rfl ?_
      refine z_getfR (k := 1) flRX11_18 rfl rfl dX11_is_23 ?_
      refine z_iconst dX11_is_26 (by unfold zIn; decide) ?_
      refine z_iload_n dX11_is_27 rfl rfl ?_
      have s1 : -2147483648 ≤ 4 * a1 ∧ 4 * a1 < (2147483648 : Int) := k1 h1 h2
      refine z_imulN dX11_is_28 s1 ?_
      refine z_iload_n dX11_is_29 rfl rfl ?_
      have s2 : -2147483648 ≤ (4 * a1) + a2 ∧ (4 * a1) + a2 < (2147483648 : Int) := k2 h1 h2
      refine z_iaddN dX11_is_30 s2 ?_
      refine z_iload_n dX11_is_31 rfl rfl ?_
      refine z_iload dX11_is_32 rfl ?_
      refine z_callv (as := [zi ((4 * a1) + a2), zi a3, zi a4]) (st := []) mkX5_valueOf lkRX11_178 rfl rfl rfl (by decide) (Nat.le_of_ble_eq_true rfl) rfl dX11_is_34 (k3 h1 h2)
    · have h2 : ¬ ((0 ≤ a2 ∧ a2 ≤ 3)) := zb0 z
      exact J20 (Or.inr ⟨h1, h2⟩)
set_option maxRecDepth 20000 in
set_option maxHeartbeats 1000000 in
theorem TX11_is_37 {G : zG} {σ : zS} {Q : Int → zS → Prop} {v1 v2 v3 v4 r : Int}  (k1 : Q r σ) : zR G MX11_is 37 [zr 0, zi v1, zi v2, zi v3, zi v4] [zi r] σ Q := by
  exact z_ireti rfl dX11_is_37 (k1)
set_option maxRecDepth 20000 in
set_option maxHeartbeats 1000000 in
theorem TX11_kin {G : zG} {σ : zS} {Q : Int → zS → Prop} {a1 a2 a3 : Int}  (k1 : ((0 ≤ a1 ∧ a1 < σ 22 12)) → zO G MX5_measure [zr 22, zi a1, zi a3] σ (fun rr σ' => zR G MX11_kin 22 [zr 0, zi a1, zi a2, zi a3] [] σ' Q)) (k2 : (¬ ((0 ≤ a1 ∧ a1 < σ 22 12))) → Q (-1) σ) : zO G MX11_kin [zr 0, zi a1, zi a2, zi a3] σ Q := by
  refine zO_of (ls0 := [zr 0, zi a1, zi a2, zi a3]) (by decide) (Nat.le_of_ble_eq_true rfl) rfl ?_
  refine z_aload_n dX11_kin_0 rfl rfl ?_
  refine z_getfR (k := 1) flRX11_18 rfl rfl dX11_kin_1 ?_
  refine z_iload_n dX11_kin_4 rfl rfl ?_
  refine z_callv (as := [zi a1]) (st := []) mkX5_has lkRX11_146 rfl rfl rfl (by decide) (Nat.le_of_ble_eq_true rfl) rfl dX11_kin_5 ?_
  refine SX5_has ?_
  show zR G MX11_kin 8 [zr 0, zi a1, zi a2, zi a3] [zi (if (0 ≤ a1 ∧ a1 < σ 22 12) then (1 : Int) else 0)] σ Q
  refine z_if_ne dX11_kin_8 (tgt := 13) (by decide) (fun z => ?_) (fun z => ?_)
  · have h1 : (0 ≤ a1 ∧ a1 < σ 22 12) := zb1 z
    refine z_aload_n dX11_kin_13 rfl rfl ?_
    refine z_getfR (k := 1) flRX11_18 rfl rfl dX11_kin_14 ?_
    refine z_iload_n dX11_kin_17 rfl rfl ?_
    refine z_iload_n dX11_kin_18 rfl rfl ?_
    refine z_callv (as := [zi a1, zi a3]) (st := []) mkX5_measure lkRX11_182 rfl rfl rfl (by decide) (Nat.le_of_ble_eq_true rfl) rfl dX11_kin_19 (k1 h1)
  · have h1 : ¬ ((0 ≤ a1 ∧ a1 < σ 22 12)) := zb0 z
    refine z_iconst dX11_kin_11 (by unfold zIn; decide) ?_
    exact z_ireti rfl dX11_kin_12 (k2 h1)
set_option maxRecDepth 20000 in
set_option maxHeartbeats 1000000 in
theorem TX11_kin_22 {G : zG} {σ : zS} {Q : Int → zS → Prop} {v1 v2 v3 : Int}  (k1 : (v2 = 0) → Q (σ 22 15) σ) (k2 : (v2 ≠ 0) → Q (σ 22 16) σ) : zR G MX11_kin 22 [zr 0, zi v1, zi v2, zi v3] [] σ Q := by
  refine z_iload_n dX11_kin_22 rfl rfl ?_
  refine z_if_eq dX11_kin_23 (tgt := 36) (by decide) (fun h1 => ?_) (fun h1 => ?_)
  · skip
    refine z_aload_n dX11_kin_36 rfl rfl ?_
    refine z_getfR (k := 1) flRX11_18 rfl rfl dX11_kin_37 ?_
    refine z_getfI (k := 15) flRX11_189 rfl rfl dX11_kin_40 ?_
    exact z_ireti rfl dX11_kin_43 (k1 h1)
  · skip
    refine z_aload_n dX11_kin_26 rfl rfl ?_
    refine z_getfR (k := 1) flRX11_18 rfl rfl dX11_kin_27 ?_
    refine z_getfI (k := 16) flRX11_186 rfl rfl dX11_kin_30 ?_
    refine z_goto dX11_kin_33 (tgt := 43) (by decide) ?_
    exact z_ireti rfl dX11_kin_43 (k2 h1)
set_option maxRecDepth 20000 in
set_option maxHeartbeats 1000000 in
theorem TX5_settlingLink {G : zG} {σ : zS} {Q : Int → zS → Prop} {a1 a2 : Int}  (k1 : zO G MX5_measure [zr 22, zi a1, zi a2] σ (fun rr σ' => zR G MX5_settlingLink 6 [zr 22, zi a1, zi a2, zu] [] σ' Q)) : zO G MX5_settlingLink [zr 22, zi a1, zi a2] σ Q := by
  refine zO_of (ls0 := [zr 22, zi a1, zi a2, zu]) (by decide) (Nat.le_of_ble_eq_true rfl) rfl ?_
  refine z_aload_n dX5_settlingLink_0 rfl rfl ?_
  refine z_iload_n dX5_settlingLink_1 rfl rfl ?_
  refine z_iload_n dX5_settlingLink_2 rfl rfl ?_
  refine z_callv (as := [zi a1, zi a2]) (st := []) mkX5_measure lkRX5_84 rfl rfl rfl (by decide) (Nat.le_of_ble_eq_true rfl) rfl dX5_settlingLink_3 (k1)
set_option maxRecDepth 20000 in
set_option maxHeartbeats 1000000 in
theorem TX5_settlingLink_6 {G : zG} {σ : zS} {Q : Int → zS → Prop} {v1 v2 : Int}  (k1 : (σ 22 16 ≠ σ 22 15) → zR G MX5_settlingLink 21 [zr 22, zi v1, zi v2, zi 0] [] σ Q) (k2 : (σ 22 16 = σ 22 15) → Q (-1) σ) : zR G MX5_settlingLink 6 [zr 22, zi v1, zi v2, zu] [] σ Q := by
  refine z_aload_n dX5_settlingLink_6 rfl rfl ?_
  refine z_getfI (k := 16) flRX5_61 rfl rfl dX5_settlingLink_7 ?_
  refine z_aload_n dX5_settlingLink_10 rfl rfl ?_
  refine z_getfI (k := 15) flRX5_58 rfl rfl dX5_settlingLink_11 ?_
  refine z_icmp_ne dX5_settlingLink_14 (tgt := 19) (by decide) (fun h1 => ?_) (fun h1 => ?_)
  · skip
    refine z_iconst dX5_settlingLink_19 (by unfold zIn; decide) ?_
    refine z_istore_n (ls' := [zr 22, zi v1, zi v2, zi 0]) dX5_settlingLink_20 rfl (by decide) rfl ?_
    exact k1 h1
  · skip
    refine z_iconst dX5_settlingLink_17 (by unfold zIn; decide) ?_
    exact z_ireti rfl dX5_settlingLink_18 (k2 h1)
set_option maxRecDepth 20000 in
set_option maxHeartbeats 1000000 in
theorem TX5_settlingLink_21 {G : zG} {σ : zS} {Q : Int → zS → Prop} {v1 v2 v3 : Int}  (k1 : -2147483648 ≤ 2 * σ 22 12 ∧ 2 * σ 22 12 < (2147483648 : Int)) (k2 : (2 * σ 22 12 ≤ v3) → Q (-1) σ) (k3 : (v3 < 2 * σ 22 12) → (0 : Int) ≤ zdiv v3 2 ∧ zdiv v3 2 < (24 : Int)) (k4 : (v3 < 2 * σ 22 12) → -2147483648 ≤ σ 32 (zdiv v3 2) + 1 ∧ σ 32 (zdiv v3 2) + 1 < (2147483648 : Int)) (k5 : (v3 < 2 * σ 22 12) → (σ 32 (zdiv v3 2) + 1 = σ 22 16) → (0 : Int) ≤ v3 ∧ v3 < (48 : Int)) (k6 : (v3 < 2 * σ 22 12) → (σ 32 (zdiv v3 2) + 1 = σ 22 16) → (¬ ((σ 25 v3 ≠ (-1) ∧ σ 25 v3 ≤ v2))) → Q v3 σ) (k7 : (v3 < 2 * σ 22 12) → (σ 32 (zdiv v3 2) + 1 ≠ σ 22 16 ∨ (σ 32 (zdiv v3 2) + 1 = σ 22 16 ∧ ((σ 25 v3 ≠ (-1) ∧ σ 25 v3 ≤ v2)))) → -2147483648 ≤ v3 + 1 ∧ v3 + 1 < (2147483648 : Int)) (k8 : (v3 < 2 * σ 22 12) → (σ 32 (zdiv v3 2) + 1 ≠ σ 22 16 ∨ (σ 32 (zdiv v3 2) + 1 = σ 22 16 ∧ ((σ 25 v3 ≠ (-1) ∧ σ 25 v3 ≤ v2)))) → zR G MX5_settlingLink 21 [zr 22, zi v1, zi v2, zi (v3 + 1)] [] σ Q) : zR G MX5_settlingLink 21 [zr 22, zi v1, zi v2, zi v3] [] σ Q := by
  have J59 : (v3 < 2 * σ 22 12) → (σ 32 (zdiv v3 2) + 1 ≠ σ 22 16 ∨ (σ 32 (zdiv v3 2) + 1 = σ 22 16 ∧ ((σ 25 v3 ≠ (-1) ∧ σ 25 v3 ≤ v2)))) → zR G MX5_settlingLink 59 [zr 22, zi v1, zi v2, zi v3] [] σ Q := by
    intro h1 h4
    have s7 : -2147483648 ≤ v3 + 1 ∧ v3 + 1 < (2147483648 : Int) := k7 h1 h4
    refine z_iincN (ls' := [zr 22, zi v1, zi v2, zi (v3 + 1)]) dX5_settlingLink_59 rfl (by decide) s7 rfl ?_
    refine z_goto dX5_settlingLink_62 (tgt := 21) (by decide) ?_
    exact k8 h1 h4
  refine z_iload_n dX5_settlingLink_21 rfl rfl ?_
  refine z_iconst dX5_settlingLink_22 (by unfold zIn; decide) ?_
  refine z_aload_n dX5_settlingLink_23 rfl rfl ?_
  refine z_getfI (k := 12) flRX5_48 rfl rfl dX5_settlingLink_24 ?_
  have s1 : -2147483648 ≤ 2 * σ 22 12 ∧ 2 * σ 22 12 < (2147483648 : Int) := k1
  refine z_imulN dX5_settlingLink_27 s1 ?_
  refine z_icmp_ge dX5_settlingLink_28 (tgt := 65) (by decide) (fun h1 => ?_) (fun h1 => ?_)
  · skip
    refine z_iconst dX5_settlingLink_65 (by unfold zIn; decide) ?_
    exact z_ireti rfl dX5_settlingLink_66 (k2 h1)
  · skip
    refine z_aload_n dX5_settlingLink_31 rfl rfl ?_
    refine z_getfR (k := 9) flRX5_39 rfl rfl dX5_settlingLink_32 ?_
    refine z_iload_n dX5_settlingLink_35 rfl rfl ?_
    refine z_iconst dX5_settlingLink_36 (by unfold zIn; decide) ?_
    refine z_idiv dX5_settlingLink_37 (by decide) ?_
    have s3 : (0 : Int) ≤ zdiv v3 2 ∧ zdiv v3 2 < (24 : Int) := k3 h1
    refine z_iald rfl s3.1 s3.2 dX5_settlingLink_38 ?_
    refine z_iconst dX5_settlingLink_39 (by unfold zIn; decide) ?_
    have s4 : -2147483648 ≤ σ 32 (zdiv v3 2) + 1 ∧ σ 32 (zdiv v3 2) + 1 < (2147483648 : Int) := k4 h1
    refine z_iaddN dX5_settlingLink_40 s4 ?_
    refine z_aload_n dX5_settlingLink_41 rfl rfl ?_
    refine z_getfI (k := 16) flRX5_61 rfl rfl dX5_settlingLink_42 ?_
    refine z_icmp_ne dX5_settlingLink_45 (tgt := 59) (by decide) (fun h2 => ?_) (fun h2 => ?_)
    · skip
      exact J59 h1 (Or.inl h2)
    · skip
      refine z_aload_n dX5_settlingLink_48 rfl rfl ?_
      refine z_iload_n dX5_settlingLink_49 rfl rfl ?_
      refine z_iload_n dX5_settlingLink_50 rfl rfl ?_
      have s5 : (0 : Int) ≤ v3 ∧ v3 < (48 : Int) := k5 h1 h2
      refine z_callv (as := [zi v3, zi v2]) (st := []) mkX5_isKnown lkRX5_74 rfl rfl rfl (by decide) (Nat.le_of_ble_eq_true rfl) rfl dX5_settlingLink_51 ?_
      refine SX5_isKnown s5 ?_
      show zR G MX5_settlingLink 54 [zr 22, zi v1, zi v2, zi v3] [zi (if (σ 25 v3 ≠ (-1) ∧ σ 25 v3 ≤ v2) then (1 : Int) else 0)] σ Q
      refine z_if_ne dX5_settlingLink_54 (tgt := 59) (by decide) (fun z => ?_) (fun z => ?_)
      · have h3 : (σ 25 v3 ≠ (-1) ∧ σ 25 v3 ≤ v2) := zb1 z
        exact J59 h1 (Or.inr ⟨h2, h3⟩)
      · have h3 : ¬ ((σ 25 v3 ≠ (-1) ∧ σ 25 v3 ≤ v2)) := zb0 z
        refine z_iload_n dX5_settlingLink_57 rfl rfl ?_
        exact z_ireti rfl dX5_settlingLink_58 (k6 h1 h2 h3)
set_option maxRecDepth 20000 in
set_option maxHeartbeats 1000000 in
theorem TX11_settles {G : zG} {σ : zS} {Q : Int → zS → Prop} {a1 : Int}  (k1 : (¬ ((0 ≤ a1 ∧ a1 < σ 22 12))) → Q (-1) σ) (k2 : ((0 ≤ a1 ∧ a1 < σ 22 12)) → zO G MX5_settlingLink [zr 22, zi a1, zi (σ 0 13)] σ (fun rr σ' => zR G MX11_settles 23 [zr 0, zi a1] [zi rr] σ' Q)) : zO G MX11_settles [zr 0, zi a1] σ Q := by
  refine zO_of (ls0 := [zr 0, zi a1]) (by decide) (Nat.le_of_ble_eq_true rfl) rfl ?_
  refine z_aload_n dX11_settles_0 rfl rfl ?_
  refine z_getfR (k := 1) flRX11_18 rfl rfl dX11_settles_1 ?_
  refine z_iload_n dX11_settles_4 rfl rfl ?_
  refine z_callv (as := [zi a1]) (st := []) mkX5_has lkRX11_146 rfl rfl rfl (by decide) (Nat.le_of_ble_eq_true rfl) rfl dX11_settles_5 ?_
  refine SX5_has ?_
  show zR G MX11_settles 8 [zr 0, zi a1] [zi (if (0 ≤ a1 ∧ a1 < σ 22 12) then (1 : Int) else 0)] σ Q
  refine z_if_eq dX11_settles_8 (tgt := 26) (by decide) (fun z => ?_) (fun z => ?_)
  · have h1 : ¬ ((0 ≤ a1 ∧ a1 < σ 22 12)) := zb0 z
    refine z_iconst dX11_settles_26 (by unfold zIn; decide) ?_
    exact z_ireti rfl dX11_settles_27 (k1 h1)
  · have h1 : (0 ≤ a1 ∧ a1 < σ 22 12) := zb1 z
    refine z_aload_n dX11_settles_11 rfl rfl ?_
    refine z_getfR (k := 1) flRX11_18 rfl rfl dX11_settles_12 ?_
    refine z_iload_n dX11_settles_15 rfl rfl ?_
    refine z_aload_n dX11_settles_16 rfl rfl ?_
    refine z_getfI (k := 13) flRX11_106 rfl rfl dX11_settles_17 ?_
    refine z_callv (as := [zi a1, zi (σ 0 13)]) (st := []) mkX5_settlingLink lkRX11_192 rfl rfl rfl (by decide) (Nat.le_of_ble_eq_true rfl) rfl dX11_settles_20 (k2 h1)
set_option maxRecDepth 20000 in
set_option maxHeartbeats 1000000 in
theorem TX11_settles_23 {G : zG} {σ : zS} {Q : Int → zS → Prop} {v1 r : Int}  (k1 : Q r σ) : zR G MX11_settles 23 [zr 0, zi v1] [zi r] σ Q := by
  refine z_goto dX11_settles_23 (tgt := 27) (by decide) ?_
  exact z_ireti rfl dX11_settles_27 (k1)
set_option maxRecDepth 20000 in
set_option maxHeartbeats 1000000 in
theorem TX9_takeRow {G : zG} {σ : zS} {Q : Int → zS → Prop} {a1 a2 : Int} {t te : Nat} (ht : zsh t = (4, 9, [some te, none, none, none])) (hte : zsh te = (2, 80, [])) (k1 : zO G MJ7_fill_d0a16 [zr te, zl 0] σ (fun rr σ' => zR G MX9_takeRow 8 [zr t, zi a1, zi a2] [] σ' Q)) : zO G MX9_takeRow [zr t, zi a1, zi a2] σ Q := by
  refine zO_of (ls0 := [zr t, zi a1, zi a2]) (by decide) (Nat.le_of_ble_eq_true rfl) rfl ?_
  refine z_aload_n dX9_takeRow_0 rfl rfl ?_
  refine z_getfR (k := 0) flRX9_9 ht rfl dX9_takeRow_1 ?_
  refine z_lconst (x := 0) dX9_takeRow_4 (by decide +kernel) (by unfold zLn; decide) ?_
  refine z_calls (as := [zr te, zl 0]) (st := []) mkJ7_fill_d0a16 lkRX9_25 rfl (by decide) (Nat.le_of_ble_eq_true rfl) rfl dX9_takeRow_5 (k1)
set_option maxRecDepth 20000 in
set_option maxHeartbeats 1000000 in
theorem TX9_takeRow_8 {G : zG} {σ : zS} {Q : Int → zS → Prop} {v1 v2 : Int} {t te : Nat} (ht : zsh t = (4, 9, [some te, none, none, none])) (hte : zsh te = (2, 80, [])) (k1 : Q 0 (zup (zup (zup σ t 1 v1) t 2 v2) t 3 (-1))) : zR G MX9_takeRow 8 [zr t, zi v1, zi v2] [] σ Q := by
  refine z_aload_n dX9_takeRow_8 rfl rfl ?_
  refine z_iload_n dX9_takeRow_9 rfl rfl ?_
  refine z_putI (k := 1) fpRX9_15 ht rfl dX9_takeRow_10 ?_
  refine z_aload_n dX9_takeRow_13 rfl rfl ?_
  refine z_iload_n dX9_takeRow_14 rfl rfl ?_
  refine z_putI (k := 2) fpRX9_19 ht rfl dX9_takeRow_15 ?_
  refine z_aload_n dX9_takeRow_18 rfl rfl ?_
  refine z_iconst dX9_takeRow_19 (by unfold zIn; decide) ?_
  refine z_putI (k := 3) fpRX9_22 ht rfl dX9_takeRow_20 ?_
  exact z_vret rfl dX9_takeRow_23 (k1)
set_option maxRecDepth 20000 in
set_option maxHeartbeats 1000000 in
theorem TX11_row {G : zG} {σ : zS} {Q : Int → zS → Prop} {a1 a2 a3 : Int}  (k1 : ((0 ≤ a1 ∧ a1 ≤ 9)) → (0 ≤ a3) → ((0 ≤ a2 ∧ a2 ≤ 3)) → (a3 ≤ 80) → (0 : Int) ≤ a1 ∧ a1 < (10 : Int)) (k2 : ((0 ≤ a1 ∧ a1 ≤ 9)) → (0 ≤ a3) → ((0 ≤ a2 ∧ a2 ≤ 3)) → (a3 ≤ 80) → zO G MX9_takeRow [zr (2 + 2 * a1.toNat), zi a2, zi a3] σ (fun rr σ' => zR G MX11_row 64 [zr 0, zi a1, zi a2, zi a3] [] σ' Q)) (k3 : ((0 ≤ a1 ∧ a1 ≤ 9)) → (0 ≤ a3) → ((0 ≤ a2 ∧ a2 ≤ 3)) → (80 < a3) → -2147483648 ≤ -(-7) ∧ -(-7) < (2147483648 : Int)) (k4 : ((0 ≤ a1 ∧ a1 ≤ 9)) → (0 ≤ a3) → ((0 ≤ a2 ∧ a2 ≤ 3)) → (80 < a3) → (0 : Int) ≤ -(-7) ∧ -(-7) < (8 : Int)) (k5 : ((0 ≤ a1 ∧ a1 ≤ 9)) → (0 ≤ a3) → ((0 ≤ a2 ∧ a2 ≤ 3)) → (80 < a3) → Q (-7) (zup σ 97 (-(-7)) (zW ((σ 97 (-(-7))) + 1)))) (k6 : ((0 ≤ a1 ∧ a1 ≤ 9)) → (0 ≤ a3) → (¬ ((0 ≤ a2 ∧ a2 ≤ 3))) → -2147483648 ≤ -(-6) ∧ -(-6) < (2147483648 : Int)) (k7 : ((0 ≤ a1 ∧ a1 ≤ 9)) → (0 ≤ a3) → (¬ ((0 ≤ a2 ∧ a2 ≤ 3))) → (0 : Int) ≤ -(-6) ∧ -(-6) < (8 : Int)) (k8 : ((0 ≤ a1 ∧ a1 ≤ 9)) → (0 ≤ a3) → (¬ ((0 ≤ a2 ∧ a2 ≤ 3))) → Q (-6) (zup σ 97 (-(-6)) (zW ((σ 97 (-(-6))) + 1)))) (k9 : ((0 ≤ a1 ∧ a1 ≤ 9)) → (a3 < 0) → -2147483648 ≤ -(-4) ∧ -(-4) < (2147483648 : Int)) (k10 : ((0 ≤ a1 ∧ a1 ≤ 9)) → (a3 < 0) → (0 : Int) ≤ -(-4) ∧ -(-4) < (8 : Int)) (k11 : ((0 ≤ a1 ∧ a1 ≤ 9)) → (a3 < 0) → Q (-4) (zup σ 97 (-(-4)) (zW ((σ 97 (-(-4))) + 1)))) (k12 : (¬ ((0 ≤ a1 ∧ a1 ≤ 9))) → -2147483648 ≤ -(-1) ∧ -(-1) < (2147483648 : Int)) (k13 : (¬ ((0 ≤ a1 ∧ a1 ≤ 9))) → (0 : Int) ≤ -(-1) ∧ -(-1) < (8 : Int)) (k14 : (¬ ((0 ≤ a1 ∧ a1 ≤ 9))) → Q (-1) (zup σ 97 (-(-1)) (zW ((σ 97 (-(-1))) + 1)))) : zO G MX11_row [zr 0, zi a1, zi a2, zi a3] σ Q := by
  refine zO_of (ls0 := [zr 0, zi a1, zi a2, zi a3]) (by decide) (Nat.le_of_ble_eq_true rfl) rfl ?_
  refine z_iload_n dX11_row_0 rfl rfl ?_
  refine z_calls (as := [zi a1]) (st := []) mkX11_isShelf lkRX11_115 rfl (by decide) (Nat.le_of_ble_eq_true rfl) rfl dX11_row_1 ?_
  refine SX11_isShelf ?_
  show zR G MX11_row 4 [zr 0, zi a1, zi a2, zi a3] [zi (if (0 ≤ a1 ∧ a1 ≤ 9) then (1 : Int) else 0)] σ Q
  refine z_if_ne dX11_row_4 (tgt := 13) (by decide) (fun z => ?_) (fun z => ?_)
  · have h1 : (0 ≤ a1 ∧ a1 ≤ 9) := zb1 z
    refine z_iload_n dX11_row_13 rfl rfl ?_
    refine z_if_ge dX11_row_14 (tgt := 24) (by decide) (fun h2 => ?_) (fun h2 => ?_)
    · skip
      refine z_iload_n dX11_row_24 rfl rfl ?_
      refine z_iconst dX11_row_25 (by unfold zIn; decide) ?_
      refine z_iconst dX11_row_26 (by unfold zIn; decide) ?_
      refine z_calls (as := [zi a2, zi 0, zi 3]) (st := []) mkX11_within lkRX11_111 rfl (by decide) (Nat.le_of_ble_eq_true rfl) rfl dX11_row_27 ?_
      refine SX11_within ?_
      show zR G MX11_row 30 [zr 0, zi a1, zi a2, zi a3] [zi (if (0 ≤ a2 ∧ a2 ≤ 3) then (1 : Int) else 0)] σ Q
      refine z_if_ne dX11_row_30 (tgt := 40) (by decide) (fun z => ?_) (fun z => ?_)
      · have h3 : (0 ≤ a2 ∧ a2 ≤ 3) := zb1 z
        refine z_iload_n dX11_row_40 rfl rfl ?_
        refine z_bipush (x := 80) dX11_row_41 (by decide +kernel) (by unfold zIn; decide) ?_
        refine z_icmp_le dX11_row_43 (tgt := 53) (by decide) (fun h4 => ?_) (fun h4 => ?_)
        · skip
          refine z_aload_n dX11_row_53 rfl rfl ?_
          refine z_getfR (k := 0) flRX11_11 rfl rfl dX11_row_54 ?_
          refine z_iload_n dX11_row_57 rfl rfl ?_
          have s1 : (0 : Int) ≤ a1 ∧ a1 < (10 : Int) := k1 h1 h2 h3 h4
          refine z_aald (r := 2 + 2 * a1.toNat) rfl s1.1 s1.2 (zsh_v s1.1 s1.2) dX11_row_58 ?_
          refine z_iload_n dX11_row_59 rfl rfl ?_
          refine z_iload_n dX11_row_60 rfl rfl ?_
          refine z_callv (as := [zi a2, zi a3]) (st := []) mkX9_takeRow lkRX11_195 rfl (zsh_o s1.1 s1.2) rfl (by decide) (Nat.le_of_ble_eq_true rfl) rfl dX11_row_61 (k2 h1 h2 h3 h4)
        · skip
          refine z_aload_n dX11_row_46 rfl rfl ?_
          refine z_bipush (x := (-7)) dX11_row_47 (by decide +kernel) (by unfold zIn; decide) ?_
          have s3 : -2147483648 ≤ -(-7) ∧ -(-7) < (2147483648 : Int) := k3 h1 h2 h3 h4
          have s4 : (0 : Int) ≤ -(-7) ∧ -(-7) < (8 : Int) := k4 h1 h2 h3 h4
          refine z_callv (as := [zi (-7)]) (st := []) mkX11_refuse lkRX11_132 rfl rfl rfl (by decide) (Nat.le_of_ble_eq_true rfl) rfl dX11_row_49 ?_
          refine SX11_refuse s3 s4 ?_
          show zR G MX11_row 52 [zr 0, zi a1, zi a2, zi a3] [zi (-7)] (zup σ 97 (-(-7)) (zW ((σ 97 (-(-7))) + 1))) Q
          exact z_ireti rfl dX11_row_52 (k5 h1 h2 h3 h4)
      · have h3 : ¬ ((0 ≤ a2 ∧ a2 ≤ 3)) := zb0 z
        refine z_aload_n dX11_row_33 rfl rfl ?_
        refine z_bipush (x := (-6)) dX11_row_34 (by decide +kernel) (by unfold zIn; decide) ?_
        have s6 : -2147483648 ≤ -(-6) ∧ -(-6) < (2147483648 : Int) := k6 h1 h2 h3
        have s7 : (0 : Int) ≤ -(-6) ∧ -(-6) < (8 : Int) := k7 h1 h2 h3
        refine z_callv (as := [zi (-6)]) (st := []) mkX11_refuse lkRX11_132 rfl rfl rfl (by decide) (Nat.le_of_ble_eq_true rfl) rfl dX11_row_36 ?_
        refine SX11_refuse s6 s7 ?_
        show zR G MX11_row 39 [zr 0, zi a1, zi a2, zi a3] [zi (-6)] (zup σ 97 (-(-6)) (zW ((σ 97 (-(-6))) + 1))) Q
        exact z_ireti rfl dX11_row_39 (k8 h1 h2 h3)
    · skip
      refine z_aload_n dX11_row_17 rfl rfl ?_
      refine z_bipush (x := (-4)) dX11_row_18 (by decide +kernel) (by unfold zIn; decide) ?_
      have s9 : -2147483648 ≤ -(-4) ∧ -(-4) < (2147483648 : Int) := k9 h1 h2
      have s10 : (0 : Int) ≤ -(-4) ∧ -(-4) < (8 : Int) := k10 h1 h2
      refine z_callv (as := [zi (-4)]) (st := []) mkX11_refuse lkRX11_132 rfl rfl rfl (by decide) (Nat.le_of_ble_eq_true rfl) rfl dX11_row_20 ?_
      refine SX11_refuse s9 s10 ?_
      show zR G MX11_row 23 [zr 0, zi a1, zi a2, zi a3] [zi (-4)] (zup σ 97 (-(-4)) (zW ((σ 97 (-(-4))) + 1))) Q
      exact z_ireti rfl dX11_row_23 (k11 h1 h2)
  · have h1 : ¬ ((0 ≤ a1 ∧ a1 ≤ 9)) := zb0 z
    refine z_aload_n dX11_row_7 rfl rfl ?_
    refine z_iconst dX11_row_8 (by unfold zIn; decide) ?_
    have s12 : -2147483648 ≤ -(-1) ∧ -(-1) < (2147483648 : Int) := k12 h1
    have s13 : (0 : Int) ≤ -(-1) ∧ -(-1) < (8 : Int) := k13 h1
    refine z_callv (as := [zi (-1)]) (st := []) mkX11_refuse lkRX11_132 rfl rfl rfl (by decide) (Nat.le_of_ble_eq_true rfl) rfl dX11_row_9 ?_
    refine SX11_refuse s12 s13 ?_
    show zR G MX11_row 12 [zr 0, zi a1, zi a2, zi a3] [zi (-1)] (zup σ 97 (-(-1)) (zW ((σ 97 (-(-1))) + 1))) Q
    exact z_ireti rfl dX11_row_12 (k14 h1)
set_option maxRecDepth 20000 in
set_option maxHeartbeats 1000000 in
theorem TX11_row_64 {G : zG} {σ : zS} {Q : Int → zS → Prop} {v1 v2 v3 : Int}  (k1 : Q 1 σ) : zR G MX11_row 64 [zr 0, zi v1, zi v2, zi v3] [] σ Q := by
  refine z_iconst dX11_row_64 (by unfold zIn; decide) ?_
  exact z_ireti rfl dX11_row_65 (k1)
set_option maxRecDepth 20000 in
set_option maxHeartbeats 1000000 in
theorem TX9_put {G : zG} {σ : zS} {Q : Int → zS → Prop} {a1 a2 : Int} {t te : Nat} (ht : zsh t = (4, 9, [some te, none, none, none])) (hte : zsh te = (2, 80, [])) (k1 : (σ t 1 < 0 ∨ 2 < σ t 1) → (0 : Int) ≤ a1 ∧ a1 < (80 : Int)) (k2 : (σ t 1 = 0) → (0 : Int) ≤ a1 ∧ a1 < (80 : Int)) (k3 : (σ t 1 = 1) → (0 : Int) ≤ a1 ∧ a1 < (80 : Int)) (k4 : (σ t 1 = 2) → (0 : Int) ≤ a1 ∧ a1 < (80 : Int)) (k5 : (σ t 1 < 0 ∨ 2 < σ t 1) → Q 0 (zup σ te a1 a2)) (k6 : (σ t 1 = 0) → Q 0 (zup σ te a1 (zi2b (zW a2)))) (k7 : (σ t 1 = 1) → Q 0 (zup σ te a1 (zi2s (zW a2)))) (k8 : (σ t 1 = 2) → Q 0 (zup σ te a1 (zW a2))) : zO G MX9_put [zr t, zi a1, zl a2] σ Q := by
  refine zO_of (ls0 := [zr t, zi a1, zl a2, zu]) (by decide) (Nat.le_of_ble_eq_true rfl) rfl ?_
  have J77_3 : (σ t 1 = 2) → zR G MX9_put 77 [zr t, zi a1, zl a2, zu] [] (zup σ te a1 (zW a2)) Q := by
    intro h1
    exact z_vret rfl dX9_put_77 (k8 h1)
  have J77_2 : (σ t 1 = 1) → zR G MX9_put 77 [zr t, zi a1, zl a2, zu] [] (zup σ te a1 (zi2s (zW a2))) Q := by
    intro h1
    exact z_vret rfl dX9_put_77 (k7 h1)
  have J77_1 : (σ t 1 = 0) → zR G MX9_put 77 [zr t, zi a1, zl a2, zu] [] (zup σ te a1 (zi2b (zW a2))) Q := by
    intro h1
    exact z_vret rfl dX9_put_77 (k6 h1)
  have J77 : (σ t 1 < 0 ∨ 2 < σ t 1) → zR G MX9_put 77 [zr t, zi a1, zl a2, zu] [] (zup σ te a1 a2) Q := by
    intro h1
    exact z_vret rfl dX9_put_77 (k5 h1)
  refine z_aload_n dX9_put_0 rfl rfl ?_
  refine z_getfI (k := 1) flRX9_15 ht rfl dX9_put_1 ?_
  show zR G MX9_put 4 [zr t, zi a1, zl a2, zu] [zi (σ t 1)] σ Q
  by_cases h1 : σ t 1 < 0 ∨ 2 < σ t 1
  · refine z_tabOut dX9_put_4 h1 (tgt := 70) (by decide) ?_
    refine z_aload_n dX9_put_70 rfl rfl ?_
    refine z_getfR (k := 0) flRX9_9 ht rfl dX9_put_71 ?_
    refine z_iload_n dX9_put_74 rfl rfl ?_
    refine z_lload_n dX9_put_75 rfl rfl ?_
    have s1 : (0 : Int) ≤ a1 ∧ a1 < (80 : Int) := k1 h1
    refine z_last hte s1.1 s1.2 dX9_put_76 ?_
    exact J77 h1
  have h1 : σ t 1 = 0 ∨ σ t 1 = 1 ∨ σ t 1 = 2 := by omega
  rcases h1 with h1 | h1 | h1
  · refine z_tabIn dX9_put_4 (by omega) (by omega) (by rw [h1]; rfl) (tgt := 32) (by decide) ?_
    refine z_aload_n dX9_put_32 rfl rfl ?_
    refine z_getfR (k := 0) flRX9_9 ht rfl dX9_put_33 ?_
    refine z_iload_n dX9_put_36 rfl rfl ?_
    refine z_lload_n dX9_put_37 rfl rfl ?_
    refine z_l2i dX9_put_38 ?_
    refine z_i2b dX9_put_39 ?_
    refine z_i2l dX9_put_40 ?_
    have s2 : (0 : Int) ≤ a1 ∧ a1 < (80 : Int) := k2 h1
    refine z_last hte s2.1 s2.2 dX9_put_41 ?_
    refine z_goto dX9_put_42 (tgt := 77) (by decide) ?_
    exact J77_1 h1
  · refine z_tabIn dX9_put_4 (by omega) (by omega) (by rw [h1]; rfl) (tgt := 45) (by decide) ?_
    refine z_aload_n dX9_put_45 rfl rfl ?_
    refine z_getfR (k := 0) flRX9_9 ht rfl dX9_put_46 ?_
    refine z_iload_n dX9_put_49 rfl rfl ?_
    refine z_lload_n dX9_put_50 rfl rfl ?_
    refine z_l2i dX9_put_51 ?_
    refine z_i2s dX9_put_52 ?_
    refine z_i2l dX9_put_53 ?_
    have s3 : (0 : Int) ≤ a1 ∧ a1 < (80 : Int) := k3 h1
    refine z_last hte s3.1 s3.2 dX9_put_54 ?_
    refine z_goto dX9_put_55 (tgt := 77) (by decide) ?_
    exact J77_2 h1
  · refine z_tabIn dX9_put_4 (by omega) (by omega) (by rw [h1]; rfl) (tgt := 58) (by decide) ?_
    refine z_aload_n dX9_put_58 rfl rfl ?_
    refine z_getfR (k := 0) flRX9_9 ht rfl dX9_put_59 ?_
    refine z_iload_n dX9_put_62 rfl rfl ?_
    refine z_lload_n dX9_put_63 rfl rfl ?_
    refine z_l2i dX9_put_64 ?_
    refine z_i2l dX9_put_65 ?_
    have s4 : (0 : Int) ≤ a1 ∧ a1 < (80 : Int) := k4 h1
    refine z_last hte s4.1 s4.2 dX9_put_66 ?_
    refine z_goto dX9_put_67 (tgt := 77) (by decide) ?_
    exact J77_3 h1
set_option maxRecDepth 20000 in
set_option maxHeartbeats 1000000 in
theorem TX11_set {G : zG} {σ : zS} {Q : Int → zS → Prop} {a1 a2 a3 : Int}  (k1 : zO G MX11_rowTrouble [zr 0, zi a1] σ (fun rr σ' => zR G MX11_set 5 [zr 0, zi a1, zi a2, zl a3, zu, zu] [zi rr] σ' Q)) : zO G MX11_set [zr 0, zi a1, zi a2, zl a3] σ Q := by
  refine zO_of (ls0 := [zr 0, zi a1, zi a2, zl a3, zu, zu]) (by decide) (Nat.le_of_ble_eq_true rfl) rfl ?_
  refine z_aload_n dX11_set_0 rfl rfl ?_
  refine z_iload_n dX11_set_1 rfl rfl ?_
  refine z_callv (as := [zi a1]) (st := []) mkX11_rowTrouble lkRX11_198 rfl rfl rfl (by decide) (Nat.le_of_ble_eq_true rfl) rfl dX11_set_2 (k1)
set_option maxRecDepth 20000 in
set_option maxHeartbeats 1000000 in
theorem TX11_set_5 {G : zG} {σ : zS} {Q : Int → zS → Prop} {v1 v2 v3 r : Int}  (k1 : (r = 0) → (0 : Int) ≤ v1 ∧ v1 < (10 : Int)) (k2 : (r = 0) → ((0 ≤ v2 ∧ v2 < σ (2 + 2 * v1.toNat) 2)) → zO G MX9_put [zr (2 + 2 * v1.toNat), zi v2, zl v3] σ (fun rr σ' => zR G MX11_set 50 [zr 0, zi v1, zi v2, zl v3, zu, zi r] [] σ' Q)) (k3 : (r = 0) → (¬ ((0 ≤ v2 ∧ v2 < σ (2 + 2 * v1.toNat) 2))) → -2147483648 ≤ -(-5) ∧ -(-5) < (2147483648 : Int)) (k4 : (r = 0) → (¬ ((0 ≤ v2 ∧ v2 < σ (2 + 2 * v1.toNat) 2))) → (0 : Int) ≤ -(-5) ∧ -(-5) < (8 : Int)) (k5 : (r = 0) → (¬ ((0 ≤ v2 ∧ v2 < σ (2 + 2 * v1.toNat) 2))) → Q (-5) (zup σ 97 (-(-5)) (zW ((σ 97 (-(-5))) + 1)))) (k6 : (r ≠ 0) → -2147483648 ≤ -r ∧ -r < (2147483648 : Int)) (k7 : (r ≠ 0) → (0 : Int) ≤ -r ∧ -r < (8 : Int)) (k8 : (r ≠ 0) → Q r (zup σ 97 (-r) (zW ((σ 97 (-r)) + 1)))) : zR G MX11_set 5 [zr 0, zi v1, zi v2, zl v3, zu, zu] [zi r] σ Q := by
  refine z_istore (ls' := [zr 0, zi v1, zi v2, zl v3, zu, zi r]) dX11_set_5 (by decide) rfl ?_
  refine z_iload dX11_set_7 rfl ?_
  refine z_if_eq dX11_set_9 (tgt := 19) (by decide) (fun h1 => ?_) (fun h1 => ?_)
  · skip
    refine z_aload_n dX11_set_19 rfl rfl ?_
    refine z_getfR (k := 0) flRX11_11 rfl rfl dX11_set_20 ?_
    refine z_iload_n dX11_set_23 rfl rfl ?_
    have s1 : (0 : Int) ≤ v1 ∧ v1 < (10 : Int) := k1 h1
    refine z_aald (r := 2 + 2 * v1.toNat) rfl s1.1 s1.2 (zsh_v s1.1 s1.2) dX11_set_24 ?_
    refine z_iload_n dX11_set_25 rfl rfl ?_
    refine z_callv (as := [zi v2]) (st := []) mkX9_hasElement lkRX11_201 rfl (zsh_o s1.1 s1.2) rfl (by decide) (Nat.le_of_ble_eq_true rfl) rfl dX11_set_26 ?_
    refine SX9_hasElement (zsh_o s1.1 s1.2) (zsh_e s1.1 s1.2) ?_
    show zR G MX11_set 29 [zr 0, zi v1, zi v2, zl v3, zu, zi r] [zi (if (0 ≤ v2 ∧ v2 < σ (2 + 2 * v1.toNat) 2) then (1 : Int) else 0)] σ Q
    refine z_if_ne dX11_set_29 (tgt := 39) (by decide) (fun z => ?_) (fun z => ?_)
    · have h2 : (0 ≤ v2 ∧ v2 < σ (2 + 2 * v1.toNat) 2) := zb1 z
      refine z_aload_n dX11_set_39 rfl rfl ?_
      refine z_getfR (k := 0) flRX11_11 rfl rfl dX11_set_40 ?_
      refine z_iload_n dX11_set_43 rfl rfl ?_
      refine z_aald (r := 2 + 2 * v1.toNat) rfl s1.1 s1.2 (zsh_v s1.1 s1.2) dX11_set_44 ?_
      refine z_iload_n dX11_set_45 rfl rfl ?_
      refine z_lload_n dX11_set_46 rfl rfl ?_
      refine z_callv (as := [zi v2, zl v3]) (st := []) mkX9_put lkRX11_204 rfl (zsh_o s1.1 s1.2) rfl (by decide) (Nat.le_of_ble_eq_true rfl) rfl dX11_set_47 (k2 h1 h2)
    · have h2 : ¬ ((0 ≤ v2 ∧ v2 < σ (2 + 2 * v1.toNat) 2)) := zb0 z
      refine z_aload_n dX11_set_32 rfl rfl ?_
      refine z_bipush (x := (-5)) dX11_set_33 (by decide +kernel) (by unfold zIn; decide) ?_
      have s3 : -2147483648 ≤ -(-5) ∧ -(-5) < (2147483648 : Int) := k3 h1 h2
      have s4 : (0 : Int) ≤ -(-5) ∧ -(-5) < (8 : Int) := k4 h1 h2
      refine z_callv (as := [zi (-5)]) (st := []) mkX11_refuse lkRX11_132 rfl rfl rfl (by decide) (Nat.le_of_ble_eq_true rfl) rfl dX11_set_35 ?_
      refine SX11_refuse s3 s4 ?_
      show zR G MX11_set 38 [zr 0, zi v1, zi v2, zl v3, zu, zi r] [zi (-5)] (zup σ 97 (-(-5)) (zW ((σ 97 (-(-5))) + 1))) Q
      exact z_ireti rfl dX11_set_38 (k5 h1 h2)
  · skip
    refine z_aload_n dX11_set_12 rfl rfl ?_
    refine z_iload dX11_set_13 rfl ?_
    have s6 : -2147483648 ≤ -r ∧ -r < (2147483648 : Int) := k6 h1
    have s7 : (0 : Int) ≤ -r ∧ -r < (8 : Int) := k7 h1
    refine z_callv (as := [zi r]) (st := []) mkX11_refuse lkRX11_132 rfl rfl rfl (by decide) (Nat.le_of_ble_eq_true rfl) rfl dX11_set_15 ?_
    refine SX11_refuse s6 s7 ?_
    show zR G MX11_set 18 [zr 0, zi v1, zi v2, zl v3, zu, zi r] [zi r] (zup σ 97 (-r) (zW ((σ 97 (-r)) + 1))) Q
    exact z_ireti rfl dX11_set_18 (k8 h1)
set_option maxRecDepth 20000 in
set_option maxHeartbeats 1000000 in
theorem TX11_set_50 {G : zG} {σ : zS} {Q : Int → zS → Prop} {v1 v2 v3 v5 : Int}  (k1 : Q 1 σ) : zR G MX11_set 50 [zr 0, zi v1, zi v2, zl v3, zu, zi v5] [] σ Q := by
  refine z_iconst dX11_set_50 (by unfold zIn; decide) ?_
  exact z_ireti rfl dX11_set_51 (k1)
