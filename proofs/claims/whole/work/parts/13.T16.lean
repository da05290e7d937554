set_option maxRecDepth 20000 in
set_option maxHeartbeats 1000000 in
theorem TX12_head {G : zG} {σ : zS} {Q : Int → zS → Prop} {a1 a2 : Int}  (k1 : (0 ≤ a1) → (a1 ≤ 3) → zR G MX12_head 18 [zr 98, zi a1, zi a2, zi 0, zi 0] [] σ Q) (k2 : (a1 < 0 ∨ (0 ≤ a1 ∧ 3 < a1)) → Q (-1000001) σ) : zO G MX12_head [zr 98, zi a1, zi a2] σ Q := by
  refine zO_of (ls0 := [zr 98, zi a1, zi a2, zu, zu]) (by decide) (Nat.le_of_ble_eq_true rfl) rfl ?_
  have J9 : (a1 < 0 ∨ (0 ≤ a1 ∧ 3 < a1)) → zR G MX12_head 9 [zr 98, zi a1, zi a2, zu, zu] [] σ Q := by
    intro h3
    refine z_ldcw (x := (-1000001)) (zin_9 (List.mem_of_getElem? (i := 70) (by decide +kernel))) (by unfold zIn; decide) dX12_head_9 ?_
    exact z_ireti rfl dX12_head_12 (k2 h3)
  refine z_iload_n dX12_head_0 rfl rfl ?_
  refine z_if_lt dX12_head_1 (tgt := 9) (by decide) (fun h1 => ?_) (fun h1 => ?_)
  · skip
    exact J9 (Or.inl h1)
  · skip
    refine z_iload_n dX12_head_4 rfl rfl ?_
    refine z_iconst dX12_head_5 (by unfold zIn; decide) ?_
    refine z_icmp_le dX12_head_6 (tgt := 13) (by decide) (fun h2 => ?_) (fun h2 => ?_)
    · skip
      refine z_iconst dX12_head_13 (by unfold zIn; decide) ?_
      refine z_istore_n (ls' := [zr 98, zi a1, zi a2, zi 0, zu]) dX12_head_14 rfl (by decide) rfl ?_
      refine z_iconst dX12_head_15 (by unfold zIn; decide) ?_
      refine z_istore (ls' := [zr 98, zi a1, zi a2, zi 0, zi 0]) dX12_head_16 (by decide) rfl ?_
      exact k1 h1 h2
    · skip
      exact J9 (Or.inr ⟨h1, h2⟩)
set_option maxRecDepth 20000 in
set_option maxHeartbeats 1000000 in
theorem TX12_head_18 {G : zG} {σ : zS} {Q : Int → zS → Prop} {v1 v2 v3 v4 : Int}  (k1 : (σ 98 7 ≤ v4) → Q v3 σ) (k2 : (v4 < σ 98 7) → (0 : Int) ≤ v4 ∧ v4 < (400 : Int)) (k3 : (v4 < σ 98 7) → (σ 149 v4 = v1) → (σ 148 v4 = v2) → -2147483648 ≤ v3 + σ 150 v4 ∧ v3 + σ 150 v4 < (2147483648 : Int)) (k4 : (v4 < σ 98 7) → (σ 149 v4 ≠ v1 ∨ (σ 149 v4 = v1 ∧ σ 148 v4 ≠ v2)) → -2147483648 ≤ v4 + 1 ∧ v4 + 1 < (2147483648 : Int)) (k5 : (v4 < σ 98 7) → (σ 149 v4 ≠ v1 ∨ (σ 149 v4 = v1 ∧ σ 148 v4 ≠ v2)) → zR G MX12_head 18 [zr 98, zi v1, zi v2, zi v3, zi (v4 + 1)] [] σ Q) (k6 : (v4 < σ 98 7) → (σ 149 v4 = v1) → (σ 148 v4 = v2) → -2147483648 ≤ v4 + 1 ∧ v4 + 1 < (2147483648 : Int)) (k7 : (v4 < σ 98 7) → (σ 149 v4 = v1) → (σ 148 v4 = v2) → zR G MX12_head 18 [zr 98, zi v1, zi v2, zi (v3 + σ 150 v4), zi (v4 + 1)] [] σ Q) : zR G MX12_head 18 [zr 98, zi v1, zi v2, zi v3, zi v4] [] σ Q := by
  have J59_1 : (v4 < σ 98 7) → (σ 149 v4 = v1) → (σ 148 v4 = v2) → zR G MX12_head 59 [zr 98, zi v1, zi v2, zi (v3 + σ 150 v4), zi v4] [] σ Q := by
    intro h1 h2 h3
    have s6 : -2147483648 ≤ v4 + 1 ∧ v4 + 1 < (2147483648 : Int) := k6 h1 h2 h3
    refine z_iincN (ls' := [zr 98, zi v1, zi v2, zi (v3 + σ 150 v4), zi (v4 + 1)]) dX12_head_59 rfl (by decide) s6 rfl ?_
    refine z_goto dX12_head_62 (tgt := 18) (by decide) ?_
    exact k7 h1 h2 h3
  have J59 : (v4 < σ 98 7) → (σ 149 v4 ≠ v1 ∨ (σ 149 v4 = v1 ∧ σ 148 v4 ≠ v2)) → zR G MX12_head 59 [zr 98, zi v1, zi v2, zi v3, zi v4] [] σ Q := by
    intro h1 h4
    have s4 : -2147483648 ≤ v4 + 1 ∧ v4 + 1 < (2147483648 : Int) := k4 h1 h4
    refine z_iincN (ls' := [zr 98, zi v1, zi v2, zi v3, zi (v4 + 1)]) dX12_head_59 rfl (by decide) s4 rfl ?_
    refine z_goto dX12_head_62 (tgt := 18) (by decide) ?_
    exact k5 h1 h4
  refine z_iload dX12_head_18 rfl ?_
  refine z_aload_n dX12_head_20 rfl rfl ?_
  refine z_getfI (k := 7) flRX12_447 rfl rfl dX12_head_21 ?_
  refine z_icmp_ge dX12_head_24 (tgt := 65) (by decide) (fun h1 => ?_) (fun h1 => ?_)
  · skip
    refine z_iload_n dX12_head_65 rfl rfl ?_
    exact z_ireti rfl dX12_head_66 (k1 h1)
  · skip
    refine z_aload_n dX12_head_27 rfl rfl ?_
    refine z_getfR (k := 65) flRX12_166 rfl rfl dX12_head_28 ?_
    refine z_iload dX12_head_31 rfl ?_
    have s2 : (0 : Int) ≤ v4 ∧ v4 < (400 : Int) := k2 h1
    refine z_iald rfl s2.1 s2.2 dX12_head_33 ?_
    refine z_iload_n dX12_head_34 rfl rfl ?_
    refine z_icmp_ne dX12_head_35 (tgt := 59) (by decide) (fun h2 => ?_) (fun h2 => ?_)
    · skip
      exact J59 h1 (Or.inl h2)
    · skip
      refine z_aload_n dX12_head_38 rfl rfl ?_
      refine z_getfR (k := 64) flRX12_163 rfl rfl dX12_head_39 ?_
      refine z_iload dX12_head_42 rfl ?_
      refine z_iald rfl s2.1 s2.2 dX12_head_44 ?_
      refine z_iload_n dX12_head_45 rfl rfl ?_
      refine z_icmp_ne dX12_head_46 (tgt := 59) (by decide) (fun h3 => ?_) (fun h3 => ?_)
      · skip
        exact J59 h1 (Or.inr ⟨h2, h3⟩)
      · skip
        refine z_iload_n dX12_head_49 rfl rfl ?_
        refine z_aload_n dX12_head_50 rfl rfl ?_
        refine z_getfR (k := 66) flRX12_169 rfl rfl dX12_head_51 ?_
        refine z_iload dX12_head_54 rfl ?_
        refine z_iald rfl s2.1 s2.2 dX12_head_56 ?_
        have s3 : -2147483648 ≤ v3 + σ 150 v4 ∧ v3 + σ 150 v4 < (2147483648 : Int) := k3 h1 h2 h3
        refine z_iaddN dX12_head_57 s3 ?_
        refine z_istore_n (ls' := [zr 98, zi v1, zi v2, zi (v3 + σ 150 v4), zi v4]) dX12_head_58 rfl (by decide) rfl ?_
        exact J59_1 h1 h2 h3
set_option maxRecDepth 20000 in
set_option maxHeartbeats 1000000 in
theorem TX12_roof {G : zG} {σ : zS} {Q : Int → zS → Prop} {a1 a2 : Int}  (k1 : (1 ≤ a1) → (a1 ≤ 99999) → (0 ≤ a2) → (a2 ≤ 9999) → (σ 98 10 ≠ 2) → (0 : Int) ≤ σ 98 10 ∧ σ 98 10 < (2 : Int)) (k2 : (1 ≤ a1) → (a1 ≤ 99999) → (0 ≤ a2) → (a2 ≤ 9999) → (σ 98 10 ≠ 2) → -2147483648 ≤ σ 98 10 + 1 ∧ σ 98 10 + 1 < (2147483648 : Int)) (k3 : (1 ≤ a1) → (a1 ≤ 99999) → (0 ≤ a2) → (a2 ≤ 9999) → (σ 98 10 ≠ 2) → Q (σ 98 10) (zup (zup (zup σ 155 (σ 98 10) a1) 156 (σ 98 10) a2) 98 10 (σ 98 10 + 1))) (k4 : (1 ≤ a1) → (a1 ≤ 99999) → (0 ≤ a2) → (a2 ≤ 9999) → (σ 98 10 = 2) → -2147483648 ≤ -(-7) ∧ -(-7) < (2147483648 : Int)) (k5 : (1 ≤ a1) → (a1 ≤ 99999) → (0 ≤ a2) → (a2 ≤ 9999) → (σ 98 10 = 2) → (0 : Int) ≤ -(-7) ∧ -(-7) < (8 : Int)) (k6 : (1 ≤ a1) → (a1 ≤ 99999) → (0 ≤ a2) → (a2 ≤ 9999) → (σ 98 10 = 2) → Q (-7) (zup σ 157 (-(-7)) (zW ((σ 157 (-(-7))) + 1)))) (k7 : (a1 < 1 ∨ (1 ≤ a1 ∧ 99999 < a1) ∨ (1 ≤ a1 ∧ a1 ≤ 99999 ∧ a2 < 0) ∨ (1 ≤ a1 ∧ a1 ≤ 99999 ∧ 0 ≤ a2 ∧ 9999 < a2)) → -2147483648 ≤ -(-6) ∧ -(-6) < (2147483648 : Int)) (k8 : (a1 < 1 ∨ (1 ≤ a1 ∧ 99999 < a1) ∨ (1 ≤ a1 ∧ a1 ≤ 99999 ∧ a2 < 0) ∨ (1 ≤ a1 ∧ a1 ≤ 99999 ∧ 0 ≤ a2 ∧ 9999 < a2)) → (0 : Int) ≤ -(-6) ∧ -(-6) < (8 : Int)) (k9 : (a1 < 1 ∨ (1 ≤ a1 ∧ 99999 < a1) ∨ (1 ≤ a1 ∧ a1 ≤ 99999 ∧ a2 < 0) ∨ (1 ≤ a1 ∧ a1 ≤ 99999 ∧ 0 ≤ a2 ∧ 9999 < a2)) → Q (-6) (zup σ 157 (-(-6)) (zW ((σ 157 (-(-6))) + 1)))) : zO G MX12_roof [zr 98, zi a1, zi a2] σ Q := by
  refine zO_of (ls0 := [zr 98, zi a1, zi a2]) (by decide) (Nat.le_of_ble_eq_true rfl) rfl ?_
  have J23 : (a1 < 1 ∨ (1 ≤ a1 ∧ 99999 < a1) ∨ (1 ≤ a1 ∧ a1 ≤ 99999 ∧ a2 < 0) ∨ (1 ≤ a1 ∧ a1 ≤ 99999 ∧ 0 ≤ a2 ∧ 9999 < a2)) → zR G MX12_roof 23 [zr 98, zi a1, zi a2] [] σ Q := by
    intro h6
    refine z_aload_n dX12_roof_23 rfl rfl ?_
    refine z_bipush (x := (-6)) dX12_roof_24 (by decide +kernel) (by unfold zIn; decide) ?_
    have s7 : -2147483648 ≤ -(-6) ∧ -(-6) < (2147483648 : Int) := k7 h6
    have s8 : (0 : Int) ≤ -(-6) ∧ -(-6) < (8 : Int) := k8 h6
    refine z_callv (as := [zi (-6)]) (st := []) mkX12_no lkRX12_267 rfl rfl rfl (by decide) (Nat.le_of_ble_eq_true rfl) rfl dX12_roof_26 ?_
    refine SX12_no s7 s8 ?_
    show zR G MX12_roof 29 [zr 98, zi a1, zi a2] [zi (-6)] (zup σ 157 (-(-6)) (zW ((σ 157 (-(-6))) + 1))) Q
    exact z_ireti rfl dX12_roof_29 (k9 h6)
  refine z_iload_n dX12_roof_0 rfl rfl ?_
  refine z_iconst dX12_roof_1 (by unfold zIn; decide) ?_
  refine z_icmp_lt dX12_roof_2 (tgt := 23) (by decide) (fun h1 => ?_) (fun h1 => ?_)
  · skip
    exact J23 (Or.inl h1)
  · skip
    refine z_iload_n dX12_roof_5 rfl rfl ?_
    refine z_ldcw (x := 99999) (zin_9 (List.mem_of_getElem? (i := 65) (by decide +kernel))) (by unfold zIn; decide) dX12_roof_6 ?_
    refine z_icmp_gt dX12_roof_9 (tgt := 23) (by decide) (fun h2 => ?_) (fun h2 => ?_)
    · skip
      exact J23 (Or.inr (Or.inl ⟨h1, h2⟩))
    · skip
      refine z_iload_n dX12_roof_12 rfl rfl ?_
      refine z_if_lt dX12_roof_13 (tgt := 23) (by decide) (fun h3 => ?_) (fun h3 => ?_)
      · skip
        exact J23 (Or.inr (Or.inr (Or.inl ⟨h1, h2, h3⟩)))
      · skip
        refine z_iload_n dX12_roof_16 rfl rfl ?_
        refine z_sipush (x := 9999) dX12_roof_17 (by decide +kernel) (by unfold zIn; decide) ?_
        refine z_icmp_le dX12_roof_20 (tgt := 30) (by decide) (fun h4 => ?_) (fun h4 => ?_)
        · skip
          refine z_aload_n dX12_roof_30 rfl rfl ?_
          refine z_getfI (k := 10) flRX12_471 rfl rfl dX12_roof_31 ?_
          refine z_iconst dX12_roof_34 (by unfold zIn; decide) ?_
          refine z_icmp_ne dX12_roof_35 (tgt := 45) (by decide) (fun h5 => ?_) (fun h5 => ?_)
          · skip
            refine z_aload_n dX12_roof_45 rfl rfl ?_
            refine z_getfR (k := 71) flRX12_184 rfl rfl dX12_roof_46 ?_
            refine z_aload_n dX12_roof_49 rfl rfl ?_
            refine z_getfI (k := 10) flRX12_471 rfl rfl dX12_roof_50 ?_
            refine z_iload_n dX12_roof_53 rfl rfl ?_
            have s1 : (0 : Int) ≤ σ 98 10 ∧ σ 98 10 < (2 : Int) := k1 h1 h2 h3 h4 h5
            refine z_iast rfl s1.1 s1.2 dX12_roof_54 ?_
            refine z_aload_n dX12_roof_55 rfl rfl ?_
            refine z_getfR (k := 72) flRX12_187 rfl rfl dX12_roof_56 ?_
            refine z_aload_n dX12_roof_59 rfl rfl ?_
            refine z_getfE (k := 10) (v := σ 98 10) flRX12_471 rfl rfl (zup_of (by decide)) dX12_roof_60 ?_
            refine z_iload_n dX12_roof_63 rfl rfl ?_
            refine z_iast rfl s1.1 s1.2 dX12_roof_64 ?_
            refine z_aload_n dX12_roof_65 rfl rfl ?_
            refine z_dup dX12_roof_66 rfl ?_
            refine z_getfE (k := 10) (v := σ 98 10) flRX12_471 rfl rfl ((zup_of (by decide)).trans (zup_of (by decide))) dX12_roof_67 ?_
            refine z_dup_x1 dX12_roof_70 rfl rfl ?_
            refine z_iconst dX12_roof_71 (by unfold zIn; decide) ?_
            have s2 : -2147483648 ≤ σ 98 10 + 1 ∧ σ 98 10 + 1 < (2147483648 : Int) := k2 h1 h2 h3 h4 h5
            refine z_iaddN dX12_roof_72 s2 ?_
            refine z_putI (k := 10) fpRX12_471 rfl rfl dX12_roof_73 ?_
            exact z_ireti rfl dX12_roof_76 (k3 h1 h2 h3 h4 h5)
          · skip
            refine z_aload_n dX12_roof_38 rfl rfl ?_
            refine z_bipush (x := (-7)) dX12_roof_39 (by decide +kernel) (by unfold zIn; decide) ?_
            have s4 : -2147483648 ≤ -(-7) ∧ -(-7) < (2147483648 : Int) := k4 h1 h2 h3 h4 h5
            have s5 : (0 : Int) ≤ -(-7) ∧ -(-7) < (8 : Int) := k5 h1 h2 h3 h4 h5
            refine z_callv (as := [zi (-7)]) (st := []) mkX12_no lkRX12_267 rfl rfl rfl (by decide) (Nat.le_of_ble_eq_true rfl) rfl dX12_roof_41 ?_
            refine SX12_no s4 s5 ?_
            show zR G MX12_roof 44 [zr 98, zi a1, zi a2] [zi (-7)] (zup σ 157 (-(-7)) (zW ((σ 157 (-(-7))) + 1))) Q
            exact z_ireti rfl dX12_roof_44 (k6 h1 h2 h3 h4 h5)
        · skip
          exact J23 (Or.inr (Or.inr (Or.inr ⟨h1, h2, h3, h4⟩)))
set_option maxRecDepth 20000 in
set_option maxHeartbeats 1000000 in
theorem TX12_endsIn {G : zG} {σ : zS} {Q : Int → zS → Prop} {a1 a2 : Int}  (k1 : (0 : Int) ≤ a1 ∧ a1 < (8 : Int)) (k2 : (σ 145 a1 = 0) → (zdiv (σ 98 0) 365 ≤ σ 144 a1) → -2147483648 ≤ zdiv (σ 98 0) 365 + a2 ∧ zdiv (σ 98 0) 365 + a2 < (2147483648 : Int)) (k3 : (σ 145 a1 = 0) → (zdiv (σ 98 0) 365 ≤ σ 144 a1) → (σ 144 a1 < zdiv (σ 98 0) 365 + a2) → Q 1 σ) (k4 : (σ 145 a1 ≠ 0 ∨ (σ 145 a1 = 0 ∧ σ 144 a1 < zdiv (σ 98 0) 365) ∨ (σ 145 a1 = 0 ∧ zdiv (σ 98 0) 365 ≤ σ 144 a1 ∧ zdiv (σ 98 0) 365 + a2 ≤ σ 144 a1)) → Q 0 σ) : zO G MX12_endsIn [zr 98, zi a1, zi a2] σ Q := by
  refine zO_of (ls0 := [zr 98, zi a1, zi a2]) (by decide) (Nat.le_of_ble_eq_true rfl) rfl ?_
  have J41 : (σ 145 a1 ≠ 0 ∨ (σ 145 a1 = 0 ∧ σ 144 a1 < zdiv (σ 98 0) 365) ∨ (σ 145 a1 = 0 ∧ zdiv (σ 98 0) 365 ≤ σ 144 a1 ∧ zdiv (σ 98 0) 365 + a2 ≤ σ 144 a1)) → zR G MX12_endsIn 41 [zr 98, zi a1, zi a2] [] σ Q := by
    intro h4
    refine z_iconst dX12_endsIn_41 (by unfold zIn; decide) ?_
    exact z_iretz rfl (by decide) dX12_endsIn_42 (k4 h4)
  refine z_aload_n dX12_endsIn_0 rfl rfl ?_
  refine z_getfR (k := 60) flRX12_154 rfl rfl dX12_endsIn_1 ?_
  refine z_iload_n dX12_endsIn_4 rfl rfl ?_
  have s1 : (0 : Int) ≤ a1 ∧ a1 < (8 : Int) := k1
  refine z_iald rfl s1.1 s1.2 dX12_endsIn_5 ?_
  refine z_if_ne dX12_endsIn_6 (tgt := 41) (by decide) (fun h1 => ?_) (fun h1 => ?_)
  · skip
    exact J41 (Or.inl h1)
  · skip
    refine z_aload_n dX12_endsIn_9 rfl rfl ?_
    refine z_getfR (k := 59) flRX12_151 rfl rfl dX12_endsIn_10 ?_
    refine z_iload_n dX12_endsIn_13 rfl rfl ?_
    refine z_iald rfl s1.1 s1.2 dX12_endsIn_14 ?_
    refine z_aload_n dX12_endsIn_15 rfl rfl ?_
    refine z_callv (as := []) (st := [zi (σ 144 a1)]) mkX12_year lkRX12_450 rfl rfl rfl (by decide) (Nat.le_of_ble_eq_true rfl) rfl dX12_endsIn_16 ?_
    refine SX12_year ?_
    show zR G MX12_endsIn 19 [zr 98, zi a1, zi a2] [zi (zdiv (σ 98 0) 365), zi (σ 144 a1)] σ Q
    refine z_icmp_lt dX12_endsIn_19 (tgt := 41) (by decide) (fun h2 => ?_) (fun h2 => ?_)
    · skip
      exact J41 (Or.inr (Or.inl ⟨h1, h2⟩))
    · skip
      refine z_aload_n dX12_endsIn_22 rfl rfl ?_
      refine z_getfR (k := 59) flRX12_151 rfl rfl dX12_endsIn_23 ?_
      refine z_iload_n dX12_endsIn_26 rfl rfl ?_
      refine z_iald rfl s1.1 s1.2 dX12_endsIn_27 ?_
      refine z_aload_n dX12_endsIn_28 rfl rfl ?_
      refine z_callv (as := []) (st := [zi (σ 144 a1)]) mkX12_year lkRX12_450 rfl rfl rfl (by decide) (Nat.le_of_ble_eq_true rfl) rfl dX12_endsIn_29 ?_
      refine SX12_year ?_
      show zR G MX12_endsIn 32 [zr 98, zi a1, zi a2] [zi (zdiv (σ 98 0) 365), zi (σ 144 a1)] σ Q
      refine z_iload_n dX12_endsIn_32 rfl rfl ?_
      have s2 : -2147483648 ≤ zdiv (σ 98 0) 365 + a2 ∧ zdiv (σ 98 0) 365 + a2 < (2147483648 : Int) := k2 h1 h2
      refine z_iaddN dX12_endsIn_33 s2 ?_
      refine z_icmp_ge dX12_endsIn_34 (tgt := 41) (by decide) (fun h3 => ?_) (fun h3 => ?_)
      · skip
        exact J41 (Or.inr (Or.inr ⟨h1, h2, h3⟩))
      · skip
        refine z_iconst dX12_endsIn_37 (by unfold zIn; decide) ?_
        refine z_goto dX12_endsIn_38 (tgt := 42) (by decide) ?_
        exact z_iretz rfl (by decide) dX12_endsIn_42 (k3 h1 h2 h3)
set_option maxRecDepth 20000 in
set_option maxHeartbeats 1000000 in
theorem TX12_holds_ {G : zG} {σ : zS} {Q : Int → zS → Prop} {a1 a2 a3 a4 : Int}  (k1 : zR G MX12_holds_ 10 [zr 98, zi a1, zi a2, zi a3, zi a4, zl (σ 98 8), zu, zi 0, zu, zu, zu] [] σ Q) : zO G MX12_holds_ [zr 98, zi a1, zi a2, zi a3, zi a4] σ Q := by
  refine zO_of (ls0 := [zr 98, zi a1, zi a2, zi a3, zi a4, zu, zu, zu, zu, zu, zu]) (by decide) (Nat.le_of_ble_eq_true rfl) rfl ?_
  refine z_aload_n dX12_holds__0 rfl rfl ?_
  refine z_getfI (k := 8) flRX12_453 rfl rfl dX12_holds__1 ?_
  refine z_i2l dX12_holds__4 ?_
  refine z_lstore (ls' := [zr 98, zi a1, zi a2, zi a3, zi a4, zl (σ 98 8), zu, zu, zu, zu, zu]) dX12_holds__5 (by decide) rfl ?_
  refine z_iconst dX12_holds__7 (by unfold zIn; decide) ?_
  refine z_istore (ls' := [zr 98, zi a1, zi a2, zi a3, zi a4, zl (σ 98 8), zu, zi 0, zu, zu, zu]) dX12_holds__8 (by decide) rfl ?_
  exact k1
set_option maxRecDepth 20000 in
set_option maxHeartbeats 1000000 in
theorem TX12_holds__10 {G : zG} {σ : zS} {Q : Int → zS → Prop} {v1 v2 v3 v4 v5 v7 : Int}  (k1 : (v2 ≤ v7) → zR G MX12_holds_ 227 [zr 98, zi v1, zi v2, zi v3, zi v4, zl v5, zu, zi 0, zu, zu, zu] [] σ Q) (k2 : (v7 < v2) → -2147483648 ≤ zdiv (σ 98 0) 365 + v7 ∧ zdiv (σ 98 0) 365 + v7 < (2147483648 : Int)) (k3 : (v7 < v2) → zR G MX12_holds_ 28 [zr 98, zi v1, zi v2, zi v3, zi v4, zl v5, zu, zi v7, zi (zdiv (σ 98 0) 365 + v7), zi 0, zu] [] σ Q) : zR G MX12_holds_ 10 [zr 98, zi v1, zi v2, zi v3, zi v4, zl v5, zu, zi v7, zu, zu, zu] [] σ Q := by
  refine z_iload dX12_holds__10 rfl ?_
  refine z_iload_n dX12_holds__12 rfl rfl ?_
  refine z_icmp_ge dX12_holds__13 (tgt := 224) (by decide) (fun h1 => ?_) (fun h1 => ?_)
  · skip
    refine z_iconst dX12_holds__224 (by unfold zIn; decide) ?_
    refine z_istore (ls' := [zr 98, zi v1, zi v2, zi v3, zi v4, zl v5, zu, zi 0, zu, zu, zu]) dX12_holds__225 (by decide) rfl ?_
    exact k1 h1
  · skip
    refine z_aload_n dX12_holds__16 rfl rfl ?_
    refine z_callv (as := []) (st := []) mkX12_year lkRX12_450 rfl rfl rfl (by decide) (Nat.le_of_ble_eq_true rfl) rfl dX12_holds__17 ?_
    refine SX12_year ?_
    show zR G MX12_holds_ 20 [zr 98, zi v1, zi v2, zi v3, zi v4, zl v5, zu, zi v7, zu, zu, zu] [zi (zdiv (σ 98 0) 365)] σ Q
    refine z_iload dX12_holds__20 rfl ?_
    have s2 : -2147483648 ≤ zdiv (σ 98 0) 365 + v7 ∧ zdiv (σ 98 0) 365 + v7 < (2147483648 : Int) := k2 h1
    refine z_iaddN dX12_holds__22 s2 ?_
    refine z_istore (ls' := [zr 98, zi v1, zi v2, zi v3, zi v4, zl v5, zu, zi v7, zi (zdiv (σ 98 0) 365 + v7), zu, zu]) dX12_holds__23 (by decide) rfl ?_
    refine z_iconst dX12_holds__25 (by unfold zIn; decide) ?_
    refine z_istore (ls' := [zr 98, zi v1, zi v2, zi v3, zi v4, zl v5, zu, zi v7, zi (zdiv (σ 98 0) 365 + v7), zi 0, zu]) dX12_holds__26 (by decide) rfl ?_
    exact k3 h1
set_option maxRecDepth 20000 in
set_option maxHeartbeats 1000000 in
theorem TX12_holds__28 {G : zG} {σ : zS} {Q : Int → zS → Prop} {v1 v2 v3 v4 v5 v7 v8 v9 : Int}  (k1 : (σ 98 5 ≤ v9) → -9223372036854775808 ≤ v5 - v4 ∧ v5 - v4 < (9223372036854775808 : Int)) (k2 : (σ 98 5 ≤ v9) → zR G MX12_holds_ 162 [zr 98, zi v1, zi v2, zi v3, zi v4, zl (v5 - v4), zu, zi v7, zi v8, zi 0, zu] [] σ Q) (k3 : (v9 < σ 98 5) → (zand (zshr v1 v9) 1 = 1) → (0 : Int) ≤ v9 ∧ v9 < (8 : Int)) (k4 : (v9 < σ 98 5) → (zand (zshr v1 v9) 1 = 1) → (σ 144 v9 ≤ v8) → (v8 = σ 144 v9) → zO G MX12_fine [zr 98, zi v9, zi 0] σ (fun rr σ' => zR G MX12_holds_ 92 [zr 98, zi v1, zi v2, zi v3, zi v4, zl v5, zu, zi v7, zi v8, zi v9, zi 1] [zi rr, zl v5] σ' Q)) (k5 : (v9 < σ 98 5) → (zand (zshr v1 v9) 1 = 1) → (σ 144 v9 ≤ v8) → (v8 ≠ σ 144 v9) → (v7 = 0) → (0 : Int) ≤ v8 ∧ v8 < (120 : Int)) (k6 : (v9 < σ 98 5) → (zand (zshr v1 v9) 1 ≠ 1 ∨ (zand (zshr v1 v9) 1 = 1 ∧ v8 < σ 144 v9)) → (v7 = 0) → (0 : Int) ≤ v8 ∧ v8 < (120 : Int)) (k7 : (v9 < σ 98 5) → (zand (zshr v1 v9) 1 = 1) → (σ 144 v9 ≤ v8) → (v8 ≠ σ 144 v9) → (v7 ≠ 0 ∨ (v7 = 0 ∧ σ 151 v8 = 0)) → zO G MX12_asBefore [zr 98, zi v9, zi v8] σ (fun rr σ' => zR G MX12_holds_ 129 [zr 98, zi v1, zi v2, zi v3, zi v4, zl v5, zu, zi v7, zi v8, zi v9, zi 1] [zi rr, zl v5] σ' Q)) (k8 : (v9 < σ 98 5) → (zand (zshr v1 v9) 1 ≠ 1 ∨ (zand (zshr v1 v9) 1 = 1 ∧ v8 < σ 144 v9)) → (v7 ≠ 0 ∨ (v7 = 0 ∧ σ 151 v8 = 0)) → zO G MX12_rentOf [zr 98, zi v9, zi v8] σ (fun rr σ' => zR G MX12_holds_ 141 [zr 98, zi v1, zi v2, zi v3, zi v4, zl v5, zu, zi v7, zi v8, zi v9, zi 0] [zi rr, zl v5] σ' Q)) (k9 : (v9 < σ 98 5) → (zand (zshr v1 v9) 1 = 1) → (σ 144 v9 ≤ v8) → (v8 ≠ σ 144 v9) → (v7 = 0) → (σ 151 v8 ≠ 0) → -2147483648 ≤ v9 + 1 ∧ v9 + 1 < (2147483648 : Int)) (k10 : (v9 < σ 98 5) → (zand (zshr v1 v9) 1 = 1) → (σ 144 v9 ≤ v8) → (v8 ≠ σ 144 v9) → (v7 = 0) → (σ 151 v8 ≠ 0) → zR G MX12_holds_ 28 [zr 98, zi v1, zi v2, zi v3, zi v4, zl v5, zu, zi v7, zi v8, zi (v9 + 1), zu] [] σ Q) (k11 : (v9 < σ 98 5) → (zand (zshr v1 v9) 1 ≠ 1 ∨ (zand (zshr v1 v9) 1 = 1 ∧ v8 < σ 144 v9)) → (v7 = 0) → (σ 151 v8 ≠ 0) → -2147483648 ≤ v9 + 1 ∧ v9 + 1 < (2147483648 : Int)) (k12 : (v9 < σ 98 5) → (zand (zshr v1 v9) 1 ≠ 1 ∨ (zand (zshr v1 v9) 1 = 1 ∧ v8 < σ 144 v9)) → (v7 = 0) → (σ 151 v8 ≠ 0) → zR G MX12_holds_ 28 [zr 98, zi v1, zi v2, zi v3, zi v4, zl v5, zu, zi v7, zi v8, zi (v9 + 1), zu] [] σ Q) : zR G MX12_holds_ 28 [zr 98, zi v1, zi v2, zi v3, zi v4, zl v5, zu, zi v7, zi v8, zi v9, zu] [] σ Q := by
  have J145_1 : (v9 < σ 98 5) → (zand (zshr v1 v9) 1 ≠ 1 ∨ (zand (zshr v1 v9) 1 = 1 ∧ v8 < σ 144 v9)) → (v7 = 0) → (σ 151 v8 ≠ 0) → zR G MX12_holds_ 145 [zr 98, zi v1, zi v2, zi v3, zi v4, zl v5, zu, zi v7, zi v8, zi v9, zi 0] [] σ Q := by
    intro h1 h6 h10 h11
    have s11 : -2147483648 ≤ v9 + 1 ∧ v9 + 1 < (2147483648 : Int) := k11 h1 h6 h10 h11
    refine z_iincN (ls' := [zr 98, zi v1, zi v2, zi v3, zi v4, zl v5, zu, zi v7, zi v8, zi (v9 + 1), zi 0]) dX12_holds__145 rfl (by decide) s11 rfl ?_
    refine z_goto dX12_holds__148 (tgt := 28) (by decide) ?_
    exact zR_fg [false, false, false, false, false, false, false, false, false, false, true] (k12 h1 h6 h10 h11)
  have J145 : (v9 < σ 98 5) → (zand (zshr v1 v9) 1 = 1) → (σ 144 v9 ≤ v8) → (v8 ≠ σ 144 v9) → (v7 = 0) → (σ 151 v8 ≠ 0) → zR G MX12_holds_ 145 [zr 98, zi v1, zi v2, zi v3, zi v4, zl v5, zu, zi v7, zi v8, zi v9, zi 1] [] σ Q := by
    intro h1 h2 h3 h5 h8 h9
    have s9 : -2147483648 ≤ v9 + 1 ∧ v9 + 1 < (2147483648 : Int) := k9 h1 h2 h3 h5 h8 h9
    refine z_iincN (ls' := [zr 98, zi v1, zi v2, zi v3, zi v4, zl v5, zu, zi v7, zi v8, zi (v9 + 1), zi 1]) dX12_holds__145 rfl (by decide) s9 rfl ?_
    refine z_goto dX12_holds__148 (tgt := 28) (by decide) ?_
    exact zR_fg [false, false, false, false, false, false, false, false, false, false, true] (k10 h1 h2 h3 h5 h8 h9)
  have J114_1 : (v9 < σ 98 5) → (zand (zshr v1 v9) 1 ≠ 1 ∨ (zand (zshr v1 v9) 1 = 1 ∧ v8 < σ 144 v9)) → (v7 ≠ 0 ∨ (v7 = 0 ∧ σ 151 v8 = 0)) → zR G MX12_holds_ 114 [zr 98, zi v1, zi v2, zi v3, zi v4, zl v5, zu, zi v7, zi v8, zi v9, zi 0] [] σ Q := by
    intro h1 h6 h14
    refine z_lload dX12_holds__114 rfl ?_
    refine z_iload dX12_holds__116 rfl ?_
    refine z_if_eq dX12_holds__118 (tgt := 133) (by decide) (fun z => ?_) (fun z => absurd z (by decide))
    refine z_aload_n dX12_holds__133 rfl rfl ?_
    refine z_iload dX12_holds__134 rfl ?_
    refine z_iload dX12_holds__136 rfl ?_
    refine z_callv (as := [zi v9, zi v8]) (st := [zl v5]) mkX12_rentOf lkRX12_438 rfl rfl rfl (by decide) (Nat.le_of_ble_eq_true rfl) rfl dX12_holds__138 (k8 h1 h6 h14)
  have J114 : (v9 < σ 98 5) → (zand (zshr v1 v9) 1 = 1) → (σ 144 v9 ≤ v8) → (v8 ≠ σ 144 v9) → (v7 ≠ 0 ∨ (v7 = 0 ∧ σ 151 v8 = 0)) → zR G MX12_holds_ 114 [zr 98, zi v1, zi v2, zi v3, zi v4, zl v5, zu, zi v7, zi v8, zi v9, zi 1] [] σ Q := by
    intro h1 h2 h3 h5 h12
    refine z_lload dX12_holds__114 rfl ?_
    refine z_iload dX12_holds__116 rfl ?_
    refine z_if_eq dX12_holds__118 (tgt := 133) (by decide) (fun z => absurd z (by decide)) (fun z => ?_)
    refine z_aload_n dX12_holds__121 rfl rfl ?_
    refine z_iload dX12_holds__122 rfl ?_
    refine z_iload dX12_holds__124 rfl ?_
    refine z_callv (as := [zi v9, zi v8]) (st := [zl v5]) mkX12_asBefore lkRX12_435 rfl rfl rfl (by decide) (Nat.le_of_ble_eq_true rfl) rfl dX12_holds__126 (k7 h1 h2 h3 h5 h12)
  have J96_1 : (v9 < σ 98 5) → (zand (zshr v1 v9) 1 ≠ 1 ∨ (zand (zshr v1 v9) 1 = 1 ∧ v8 < σ 144 v9)) → zR G MX12_holds_ 96 [zr 98, zi v1, zi v2, zi v3, zi v4, zl v5, zu, zi v7, zi v8, zi v9, zi 0] [] σ Q := by
    intro h1 h6
    refine z_iload dX12_holds__96 rfl ?_
    refine z_if_ne dX12_holds__98 (tgt := 114) (by decide) (fun h10 => ?_) (fun h10 => ?_)
    · skip
      exact J114_1 h1 h6 (Or.inl h10)
    · skip
      refine z_aload_n dX12_holds__101 rfl rfl ?_
      refine z_getfR (k := 67) flRX12_172 rfl rfl dX12_holds__102 ?_
      refine z_iload dX12_holds__105 rfl ?_
      have s6 : (0 : Int) ≤ v8 ∧ v8 < (120 : Int) := k6 h1 h6 h10
      refine z_bald rfl s6.1 s6.2 dX12_holds__107 ?_
      refine z_if_eq dX12_holds__108 (tgt := 114) (by decide) (fun h11 => ?_) (fun h11 => ?_)
      · skip
        exact J114_1 h1 h6 (Or.inr ⟨h10, h11⟩)
      · skip
        refine z_goto dX12_holds__111 (tgt := 145) (by decide) ?_
        exact J145_1 h1 h6 h10 h11
  have J96 : (v9 < σ 98 5) → (zand (zshr v1 v9) 1 = 1) → (σ 144 v9 ≤ v8) → (v8 ≠ σ 144 v9) → zR G MX12_holds_ 96 [zr 98, zi v1, zi v2, zi v3, zi v4, zl v5, zu, zi v7, zi v8, zi v9, zi 1] [] σ Q := by
    intro h1 h2 h3 h5
    refine z_iload dX12_holds__96 rfl ?_
    refine z_if_ne dX12_holds__98 (tgt := 114) (by decide) (fun h8 => ?_) (fun h8 => ?_)
    · skip
      exact J114 h1 h2 h3 h5 (Or.inl h8)
    · skip
      refine z_aload_n dX12_holds__101 rfl rfl ?_
      refine z_getfR (k := 67) flRX12_172 rfl rfl dX12_holds__102 ?_
      refine z_iload dX12_holds__105 rfl ?_
      have s5 : (0 : Int) ≤ v8 ∧ v8 < (120 : Int) := k5 h1 h2 h3 h5 h8
      refine z_bald rfl s5.1 s5.2 dX12_holds__107 ?_
      refine z_if_eq dX12_holds__108 (tgt := 114) (by decide) (fun h9 => ?_) (fun h9 => ?_)
      · skip
        exact J114 h1 h2 h3 h5 (Or.inr ⟨h8, h9⟩)
      · skip
        refine z_goto dX12_holds__111 (tgt := 145) (by decide) ?_
        exact J145 h1 h2 h3 h5 h8 h9
  have J63 : (v9 < σ 98 5) → (zand (zshr v1 v9) 1 ≠ 1 ∨ (zand (zshr v1 v9) 1 = 1 ∧ v8 < σ 144 v9)) → zR G MX12_holds_ 63 [zr 98, zi v1, zi v2, zi v3, zi v4, zl v5, zu, zi v7, zi v8, zi v9, zu] [] σ Q := by
    intro h1 h6
    refine z_iconst dX12_holds__63 (by unfold zIn; decide) ?_
    refine z_istore (ls' := [zr 98, zi v1, zi v2, zi v3, zi v4, zl v5, zu, zi v7, zi v8, zi v9, zi 0]) dX12_holds__64 (by decide) rfl ?_
    refine z_iload dX12_holds__66 rfl ?_
    refine z_if_eq dX12_holds__68 (tgt := 96) (by decide) (fun z => ?_) (fun z => absurd z (by decide))
    exact J96_1 h1 h6
  refine z_iload dX12_holds__28 rfl ?_
  refine z_aload_n dX12_holds__30 rfl rfl ?_
  refine z_getfI (k := 5) flRX12_415 rfl rfl dX12_holds__31 ?_
  refine z_icmp_ge dX12_holds__34 (tgt := 151) (by decide) (fun h1 => ?_) (fun h1 => ?_)
  · skip
    refine z_lload dX12_holds__151 rfl ?_
    refine z_iload dX12_holds__153 rfl ?_
    refine z_i2l dX12_holds__155 ?_
    have s1 : -9223372036854775808 ≤ v5 - v4 ∧ v5 - v4 < (9223372036854775808 : Int) := k1 h1
    refine z_lsubN dX12_holds__156 s1 ?_
    refine z_lstore (ls' := [zr 98, zi v1, zi v2, zi v3, zi v4, zl (v5 - v4), zu, zi v7, zi v8, zi v9, zu]) dX12_holds__157 (by decide) rfl ?_
    refine z_iconst dX12_holds__159 (by unfold zIn; decide) ?_
    refine z_istore (ls' := [zr 98, zi v1, zi v2, zi v3, zi v4, zl (v5 - v4), zu, zi v7, zi v8, zi 0, zu]) dX12_holds__160 (by decide) rfl ?_
    exact k2 h1
  · skip
    refine z_iload_n dX12_holds__37 rfl rfl ?_
    refine z_iload dX12_holds__38 rfl ?_
    refine z_ishr dX12_holds__40 ?_
    refine z_iconst dX12_holds__41 (by unfold zIn; decide) ?_
    refine z_iand dX12_holds__42 ?_
    refine z_iconst dX12_holds__43 (by unfold zIn; decide) ?_
    refine z_icmp_ne dX12_holds__44 (tgt := 63) (by decide) (fun h2 => ?_) (fun h2 => ?_)
    · skip
      exact J63 h1 (Or.inl h2)
    · skip
      refine z_iload dX12_holds__47 rfl ?_
      refine z_aload_n dX12_holds__49 rfl rfl ?_
      refine z_getfR (k := 59) flRX12_151 rfl rfl dX12_holds__50 ?_
      refine z_iload dX12_holds__53 rfl ?_
      have s3 : (0 : Int) ≤ v9 ∧ v9 < (8 : Int) := k3 h1 h2
      refine z_iald rfl s3.1 s3.2 dX12_holds__55 ?_
      refine z_icmp_lt dX12_holds__56 (tgt := 63) (by decide) (fun h3 => ?_) (fun h3 => ?_)
      · skip
        exact J63 h1 (Or.inr ⟨h2, h3⟩)
      · skip
        refine z_iconst dX12_holds__59 (by unfold zIn; decide) ?_
        refine z_goto dX12_holds__60 (tgt := 64) (by decide) ?_
        refine z_istore (ls' := [zr 98, zi v1, zi v2, zi v3, zi v4, zl v5, zu, zi v7, zi v8, zi v9, zi 1]) dX12_holds__64 (by decide) rfl ?_
        refine z_iload dX12_holds__66 rfl ?_
        refine z_if_eq dX12_holds__68 (tgt := 96) (by decide) (fun z => absurd z (by decide)) (fun z => ?_)
        refine z_iload dX12_holds__71 rfl ?_
        refine z_aload_n dX12_holds__73 rfl rfl ?_
        refine z_getfR (k := 59) flRX12_151 rfl rfl dX12_holds__74 ?_
        refine z_iload dX12_holds__77 rfl ?_
        refine z_iald rfl s3.1 s3.2 dX12_holds__79 ?_
        refine z_icmp_ne dX12_holds__80 (tgt := 96) (by decide) (fun h5 => ?_) (fun h5 => ?_)
        · skip
          exact J96 h1 h2 h3 h5
        · skip
          refine z_lload dX12_holds__83 rfl ?_
          refine z_aload_n dX12_holds__85 rfl rfl ?_
          refine z_iload dX12_holds__86 rfl ?_
          refine z_iconst dX12_holds__88 (by unfold zIn; decide) ?_
          refine z_callv (as := [zi v9, zi 0]) (st := [zl v5]) mkX12_fine lkRX12_456 rfl rfl rfl (by decide) (Nat.le_of_ble_eq_true rfl) rfl dX12_holds__89 (k4 h1 h2 h3 h5)
set_option maxRecDepth 20000 in
set_option maxHeartbeats 1000000 in
theorem TX12_holds__92 {G : zG} {σ : zS} {Q : Int → zS → Prop} {v1 v2 v3 v4 v5 v7 v8 v9 v10 r t1 : Int}  (k1 : -9223372036854775808 ≤ t1 + r ∧ t1 + r < (9223372036854775808 : Int)) (k2 : (v7 = 0) → (0 : Int) ≤ v8 ∧ v8 < (120 : Int)) (k3 : (v7 ≠ 0 ∨ (v7 = 0 ∧ σ 151 v8 = 0)) → (v10 = 0) → zO G MX12_rentOf [zr 98, zi v9, zi v8] σ (fun rr σ' => zR G MX12_holds_ 141 [zr 98, zi v1, zi v2, zi v3, zi v4, zl (t1 + r), zu, zi v7, zi v8, zi v9, zi v10] [zi rr, zl (t1 + r)] σ' Q)) (k4 : (v7 ≠ 0 ∨ (v7 = 0 ∧ σ 151 v8 = 0)) → (v10 ≠ 0) → zO G MX12_asBefore [zr 98, zi v9, zi v8] σ (fun rr σ' => zR G MX12_holds_ 129 [zr 98, zi v1, zi v2, zi v3, zi v4, zl (t1 + r), zu, zi v7, zi v8, zi v9, zi v10] [zi rr, zl (t1 + r)] σ' Q)) (k5 : (v7 = 0) → (σ 151 v8 ≠ 0) → -2147483648 ≤ v9 + 1 ∧ v9 + 1 < (2147483648 : Int)) (k6 : (v7 = 0) → (σ 151 v8 ≠ 0) → zR G MX12_holds_ 28 [zr 98, zi v1, zi v2, zi v3, zi v4, zl (t1 + r), zu, zi v7, zi v8, zi (v9 + 1), zu] [] σ Q) : zR G MX12_holds_ 92 [zr 98, zi v1, zi v2, zi v3, zi v4, zl v5, zu, zi v7, zi v8, zi v9, zi v10] [zi r, zl t1] σ Q := by
  have J145 : (v7 = 0) → (σ 151 v8 ≠ 0) → zR G MX12_holds_ 145 [zr 98, zi v1, zi v2, zi v3, zi v4, zl (t1 + r), zu, zi v7, zi v8, zi v9, zi v10] [] σ Q := by
    intro h1 h2
    have s5 : -2147483648 ≤ v9 + 1 ∧ v9 + 1 < (2147483648 : Int) := k5 h1 h2
    refine z_iincN (ls' := [zr 98, zi v1, zi v2, zi v3, zi v4, zl (t1 + r), zu, zi v7, zi v8, zi (v9 + 1), zi v10]) dX12_holds__145 rfl (by decide) s5 rfl ?_
    refine z_goto dX12_holds__148 (tgt := 28) (by decide) ?_
    exact zR_fg [false, false, false, false, false, false, false, false, false, false, true] (k6 h1 h2)
  have J114 : (v7 ≠ 0 ∨ (v7 = 0 ∧ σ 151 v8 = 0)) → zR G MX12_holds_ 114 [zr 98, zi v1, zi v2, zi v3, zi v4, zl (t1 + r), zu, zi v7, zi v8, zi v9, zi v10] [] σ Q := by
    intro h3
    refine z_lload dX12_holds__114 rfl ?_
    refine z_iload dX12_holds__116 rfl ?_
    refine z_if_eq dX12_holds__118 (tgt := 133) (by decide) (fun h4 => ?_) (fun h4 => ?_)
    · skip
      refine z_aload_n dX12_holds__133 rfl rfl ?_
      refine z_iload dX12_holds__134 rfl ?_
      refine z_iload dX12_holds__136 rfl ?_
      refine z_callv (as := [zi v9, zi v8]) (st := [zl (t1 + r)]) mkX12_rentOf lkRX12_438 rfl rfl rfl (by decide) (Nat.le_of_ble_eq_true rfl) rfl dX12_holds__138 (k3 h3 h4)
    · skip
      refine z_aload_n dX12_holds__121 rfl rfl ?_
      refine z_iload dX12_holds__122 rfl ?_
      refine z_iload dX12_holds__124 rfl ?_
      refine z_callv (as := [zi v9, zi v8]) (st := [zl (t1 + r)]) mkX12_asBefore lkRX12_435 rfl rfl rfl (by decide) (Nat.le_of_ble_eq_true rfl) rfl dX12_holds__126 (k4 h3 h4)
  have J96 : zR G MX12_holds_ 96 [zr 98, zi v1, zi v2, zi v3, zi v4, zl (t1 + r), zu, zi v7, zi v8, zi v9, zi v10] [] σ Q := by
    refine z_iload dX12_holds__96 rfl ?_
    refine z_if_ne dX12_holds__98 (tgt := 114) (by decide) (fun h1 => ?_) (fun h1 => ?_)
    · skip
      exact J114 (Or.inl h1)
    · skip
      refine z_aload_n dX12_holds__101 rfl rfl ?_
      refine z_getfR (k := 67) flRX12_172 rfl rfl dX12_holds__102 ?_
      refine z_iload dX12_holds__105 rfl ?_
      have s2 : (0 : Int) ≤ v8 ∧ v8 < (120 : Int) := k2 h1
      refine z_bald rfl s2.1 s2.2 dX12_holds__107 ?_
      refine z_if_eq dX12_holds__108 (tgt := 114) (by decide) (fun h2 => ?_) (fun h2 => ?_)
      · skip
        exact J114 (Or.inr ⟨h1, h2⟩)
      · skip
        refine z_goto dX12_holds__111 (tgt := 145) (by decide) ?_
        exact J145 h1 h2
  refine z_i2l dX12_holds__92 ?_
  have s1 : -9223372036854775808 ≤ t1 + r ∧ t1 + r < (9223372036854775808 : Int) := k1
  refine z_laddN dX12_holds__93 s1 ?_
  refine z_lstore (ls' := [zr 98, zi v1, zi v2, zi v3, zi v4, zl (t1 + r), zu, zi v7, zi v8, zi v9, zi v10]) dX12_holds__94 (by decide) rfl ?_
  exact J96
set_option maxRecDepth 20000 in
set_option maxHeartbeats 1000000 in
theorem TX12_holds__129 {G : zG} {σ : zS} {Q : Int → zS → Prop} {v1 v2 v3 v4 v5 v7 v8 v9 v10 r t1 : Int}  (k1 : -9223372036854775808 ≤ t1 + r ∧ t1 + r < (9223372036854775808 : Int)) (k2 : -2147483648 ≤ v9 + 1 ∧ v9 + 1 < (2147483648 : Int)) (k3 : zR G MX12_holds_ 28 [zr 98, zi v1, zi v2, zi v3, zi v4, zl (t1 + r), zu, zi v7, zi v8, zi (v9 + 1), zu] [] σ Q) : zR G MX12_holds_ 129 [zr 98, zi v1, zi v2, zi v3, zi v4, zl v5, zu, zi v7, zi v8, zi v9, zi v10] [zi r, zl t1] σ Q := by
  have J145 : zR G MX12_holds_ 145 [zr 98, zi v1, zi v2, zi v3, zi v4, zl (t1 + r), zu, zi v7, zi v8, zi v9, zi v10] [] σ Q := by
    have s2 : -2147483648 ≤ v9 + 1 ∧ v9 + 1 < (2147483648 : Int) := k2
    refine z_iincN (ls' := [zr 98, zi v1, zi v2, zi v3, zi v4, zl (t1 + r), zu, zi v7, zi v8, zi (v9 + 1), zi v10]) dX12_holds__145 rfl (by decide) s2 rfl ?_
    refine z_goto dX12_holds__148 (tgt := 28) (by decide) ?_
    exact zR_fg [false, false, false, false, false, false, false, false, false, false, true] (k3)
  refine z_i2l dX12_holds__129 ?_
  refine z_goto dX12_holds__130 (tgt := 142) (by decide) ?_
  have s1 : -9223372036854775808 ≤ t1 + r ∧ t1 + r < (9223372036854775808 : Int) := k1
  refine z_laddN dX12_holds__142 s1 ?_
  refine z_lstore (ls' := [zr 98, zi v1, zi v2, zi v3, zi v4, zl (t1 + r), zu, zi v7, zi v8, zi v9, zi v10]) dX12_holds__143 (by decide) rfl ?_
  exact J145
set_option maxRecDepth 20000 in
set_option maxHeartbeats 1000000 in
theorem TX12_holds__141 {G : zG} {σ : zS} {Q : Int → zS → Prop} {v1 v2 v3 v4 v5 v7 v8 v9 v10 r t1 : Int}  (k1 : -9223372036854775808 ≤ t1 + r ∧ t1 + r < (9223372036854775808 : Int)) (k2 : -2147483648 ≤ v9 + 1 ∧ v9 + 1 < (2147483648 : Int)) (k3 : zR G MX12_holds_ 28 [zr 98, zi v1, zi v2, zi v3, zi v4, zl (t1 + r), zu, zi v7, zi v8, zi (v9 + 1), zu] [] σ Q) : zR G MX12_holds_ 141 [zr 98, zi v1, zi v2, zi v3, zi v4, zl v5, zu, zi v7, zi v8, zi v9, zi v10] [zi r, zl t1] σ Q := by
  have J145 : zR G MX12_holds_ 145 [zr 98, zi v1, zi v2, zi v3, zi v4, zl (t1 + r), zu, zi v7, zi v8, zi v9, zi v10] [] σ Q := by
    have s2 : -2147483648 ≤ v9 + 1 ∧ v9 + 1 < (2147483648 : Int) := k2
    refine z_iincN (ls' := [zr 98, zi v1, zi v2, zi v3, zi v4, zl (t1 + r), zu, zi v7, zi v8, zi (v9 + 1), zi v10]) dX12_holds__145 rfl (by decide) s2 rfl ?_
    refine z_goto dX12_holds__148 (tgt := 28) (by decide) ?_
    exact zR_fg [false, false, false, false, false, false, false, false, false, false, true] (k3)
  refine z_i2l dX12_holds__141 ?_
  have s1 : -9223372036854775808 ≤ t1 + r ∧ t1 + r < (9223372036854775808 : Int) := k1
  refine z_laddN dX12_holds__142 s1 ?_
  refine z_lstore (ls' := [zr 98, zi v1, zi v2, zi v3, zi v4, zl (t1 + r), zu, zi v7, zi v8, zi v9, zi v10]) dX12_holds__143 (by decide) rfl ?_
  exact J145
set_option maxRecDepth 20000 in
set_option maxHeartbeats 1000000 in
theorem TX12_holds__162 {G : zG} {σ : zS} {Q : Int → zS → Prop} {v1 v2 v3 v4 v5 v7 v8 v9 : Int}  (k1 : (σ 98 10 ≤ v9) → (0 ≤ zlcmp v5 v3) → -2147483648 ≤ v7 + 1 ∧ v7 + 1 < (2147483648 : Int)) (k2 : (σ 98 10 ≤ v9) → (0 ≤ zlcmp v5 v3) → zR G MX12_holds_ 10 [zr 98, zi v1, zi v2, zi v3, zi v4, zl v5, zu, zi (v7 + 1), zu, zu, zu] [] σ Q) (k3 : (σ 98 10 ≤ v9) → (zlcmp v5 v3 < 0) → Q 0 (zup σ 98 104 v7)) (k4 : (v9 < σ 98 10) → (0 : Int) ≤ v9 ∧ v9 < (2 : Int)) (k5 : (v9 < σ 98 10) → (σ 175 v9 = v7) → -9223372036854775808 ≤ v5 - σ 155 v9 ∧ v5 - σ 155 v9 < (9223372036854775808 : Int)) (k6 : (v9 < σ 98 10) → (σ 175 v9 ≠ v7) → -2147483648 ≤ v9 + 1 ∧ v9 + 1 < (2147483648 : Int)) (k7 : (v9 < σ 98 10) → (σ 175 v9 ≠ v7) → zR G MX12_holds_ 162 [zr 98, zi v1, zi v2, zi v3, zi v4, zl v5, zu, zi v7, zi v8, zi (v9 + 1), zu] [] σ Q) (k8 : (v9 < σ 98 10) → (σ 175 v9 = v7) → -2147483648 ≤ v9 + 1 ∧ v9 + 1 < (2147483648 : Int)) (k9 : (v9 < σ 98 10) → (σ 175 v9 = v7) → zR G MX12_holds_ 162 [zr 98, zi v1, zi v2, zi v3, zi v4, zl (v5 - σ 155 v9), zu, zi v7, zi v8, zi (v9 + 1), zu] [] σ Q) : zR G MX12_holds_ 162 [zr 98, zi v1, zi v2, zi v3, zi v4, zl v5, zu, zi v7, zi v8, zi v9, zu] [] σ Q := by
  have J196_1 : (v9 < σ 98 10) → (σ 175 v9 = v7) → zR G MX12_holds_ 196 [zr 98, zi v1, zi v2, zi v3, zi v4, zl (v5 - σ 155 v9), zu, zi v7, zi v8, zi v9, zu] [] σ Q := by
    intro h1 h3
    have s8 : -2147483648 ≤ v9 + 1 ∧ v9 + 1 < (2147483648 : Int) := k8 h1 h3
    refine z_iincN (ls' := [zr 98, zi v1, zi v2, zi v3, zi v4, zl (v5 - σ 155 v9), zu, zi v7, zi v8, zi (v9 + 1), zu]) dX12_holds__196 rfl (by decide) s8 rfl ?_
    refine z_goto dX12_holds__199 (tgt := 162) (by decide) ?_
    exact k9 h1 h3
  have J196 : (v9 < σ 98 10) → (σ 175 v9 ≠ v7) → zR G MX12_holds_ 196 [zr 98, zi v1, zi v2, zi v3, zi v4, zl v5, zu, zi v7, zi v8, zi v9, zu] [] σ Q := by
    intro h1 h3
    have s6 : -2147483648 ≤ v9 + 1 ∧ v9 + 1 < (2147483648 : Int) := k6 h1 h3
    refine z_iincN (ls' := [zr 98, zi v1, zi v2, zi v3, zi v4, zl v5, zu, zi v7, zi v8, zi (v9 + 1), zu]) dX12_holds__196 rfl (by decide) s6 rfl ?_
    refine z_goto dX12_holds__199 (tgt := 162) (by decide) ?_
    exact k7 h1 h3
  refine z_iload dX12_holds__162 rfl ?_
  refine z_aload_n dX12_holds__164 rfl rfl ?_
  refine z_getfI (k := 10) flRX12_471 rfl rfl dX12_holds__165 ?_
  refine z_icmp_ge dX12_holds__168 (tgt := 202) (by decide) (fun h1 => ?_) (fun h1 => ?_)
  · skip
    refine z_lload dX12_holds__202 rfl ?_
    refine z_iload_n dX12_holds__204 rfl rfl ?_
    refine z_i2l dX12_holds__205 ?_
    refine z_lcmp dX12_holds__206 ?_
    refine z_if_ge dX12_holds__207 (tgt := 218) (by decide) (fun h2 => ?_) (fun h2 => ?_)
    · skip
      have s1 : -2147483648 ≤ v7 + 1 ∧ v7 + 1 < (2147483648 : Int) := k1 h1 h2
      refine z_iincN (ls' := [zr 98, zi v1, zi v2, zi v3, zi v4, zl v5, zu, zi (v7 + 1), zi v8, zi v9, zu]) dX12_holds__218 rfl (by decide) s1 rfl ?_
      refine z_goto dX12_holds__221 (tgt := 10) (by decide) ?_
      exact zR_fg [false, false, false, false, false, false, false, false, true, true, false] (k2 h1 h2)
    · skip
      refine z_aload_n dX12_holds__210 rfl rfl ?_
      refine z_iload dX12_holds__211 rfl ?_
      refine z_putI (k := 104) fpRX12_474 rfl rfl dX12_holds__213 ?_
      refine z_iconst dX12_holds__216 (by unfold zIn; decide) ?_
      exact z_iretz rfl (by decide) dX12_holds__217 (k3 h1 h2)
  · skip
    refine z_aload_n dX12_holds__171 rfl rfl ?_
    refine z_getfR (k := 103) flRX12_244 rfl rfl dX12_holds__172 ?_
    refine z_iload dX12_holds__175 rfl ?_
    have s4 : (0 : Int) ≤ v9 ∧ v9 < (2 : Int) := k4 h1
    refine z_iald rfl s4.1 s4.2 dX12_holds__177 ?_
    refine z_iload dX12_holds__178 rfl ?_
    refine z_icmp_ne dX12_holds__180 (tgt := 196) (by decide) (fun h3 => ?_) (fun h3 => ?_)
    · skip
      exact J196 h1 h3
    · skip
      refine z_lload dX12_holds__183 rfl ?_
      refine z_aload_n dX12_holds__185 rfl rfl ?_
      refine z_getfR (k := 71) flRX12_184 rfl rfl dX12_holds__186 ?_
      refine z_iload dX12_holds__189 rfl ?_
      refine z_iald rfl s4.1 s4.2 dX12_holds__191 ?_
      refine z_i2l dX12_holds__192 ?_
      have s5 : -9223372036854775808 ≤ v5 - σ 155 v9 ∧ v5 - σ 155 v9 < (9223372036854775808 : Int) := k5 h1 h3
      refine z_lsubN dX12_holds__193 s5 ?_
      refine z_lstore (ls' := [zr 98, zi v1, zi v2, zi v3, zi v4, zl (v5 - σ 155 v9), zu, zi v7, zi v8, zi v9, zu]) dX12_holds__194 (by decide) rfl ?_
      exact J196_1 h1 h3
set_option maxRecDepth 20000 in
set_option maxHeartbeats 1000000 in
theorem TX12_holds__227 {G : zG} {σ : zS} {Q : Int → zS → Prop} {v1 v2 v3 v4 v5 v7 : Int}  (k1 : (σ 98 10 ≤ v7) → Q 1 (zup σ 98 105 (zW v5))) (k2 : (v7 < σ 98 10) → (0 : Int) ≤ v7 ∧ v7 < (2 : Int)) (k3 : (v7 < σ 98 10) → (σ 175 v7 ≠ (-1)) → -2147483648 ≤ v2 - σ 175 v7 ∧ v2 - σ 175 v7 < (2147483648 : Int)) (k4 : (v7 < σ 98 10) → (σ 175 v7 ≠ (-1)) → -9223372036854775808 ≤ σ 156 v7 * (v2 - σ 175 v7) ∧ σ 156 v7 * (v2 - σ 175 v7) < (9223372036854775808 : Int)) (k5 : (v7 < σ 98 10) → (σ 175 v7 ≠ (-1)) → -9223372036854775808 ≤ v5 + (σ 156 v7 * (v2 - σ 175 v7)) ∧ v5 + (σ 156 v7 * (v2 - σ 175 v7)) < (9223372036854775808 : Int)) (k6 : (v7 < σ 98 10) → (σ 175 v7 = (-1)) → -2147483648 ≤ v7 + 1 ∧ v7 + 1 < (2147483648 : Int)) (k7 : (v7 < σ 98 10) → (σ 175 v7 = (-1)) → zR G MX12_holds_ 227 [zr 98, zi v1, zi v2, zi v3, zi v4, zl v5, zu, zi (v7 + 1), zu, zu, zu] [] σ Q) (k8 : (v7 < σ 98 10) → (σ 175 v7 ≠ (-1)) → -2147483648 ≤ v7 + 1 ∧ v7 + 1 < (2147483648 : Int)) (k9 : (v7 < σ 98 10) → (σ 175 v7 ≠ (-1)) → zR G MX12_holds_ 227 [zr 98, zi v1, zi v2, zi v3, zi v4, zl (v5 + (σ 156 v7 * (v2 - σ 175 v7))), zu, zi (v7 + 1), zu, zu, zu] [] σ Q) : zR G MX12_holds_ 227 [zr 98, zi v1, zi v2, zi v3, zi v4, zl v5, zu, zi v7, zu, zu, zu] [] σ Q := by
  have J271_1 : (v7 < σ 98 10) → (σ 175 v7 ≠ (-1)) → zR G MX12_holds_ 271 [zr 98, zi v1, zi v2, zi v3, zi v4, zl (v5 + (σ 156 v7 * (v2 - σ 175 v7))), zu, zi v7, zu, zu, zu] [] σ Q := by
    intro h1 h2
    have s8 : -2147483648 ≤ v7 + 1 ∧ v7 + 1 < (2147483648 : Int) := k8 h1 h2
    refine z_iincN (ls' := [zr 98, zi v1, zi v2, zi v3, zi v4, zl (v5 + (σ 156 v7 * (v2 - σ 175 v7))), zu, zi (v7 + 1), zu, zu, zu]) dX12_holds__271 rfl (by decide) s8 rfl ?_
    refine z_goto dX12_holds__274 (tgt := 227) (by decide) ?_
    exact k9 h1 h2
  have J271 : (v7 < σ 98 10) → (σ 175 v7 = (-1)) → zR G MX12_holds_ 271 [zr 98, zi v1, zi v2, zi v3, zi v4, zl v5, zu, zi v7, zu, zu, zu] [] σ Q := by
    intro h1 h2
    have s6 : -2147483648 ≤ v7 + 1 ∧ v7 + 1 < (2147483648 : Int) := k6 h1 h2
    refine z_iincN (ls' := [zr 98, zi v1, zi v2, zi v3, zi v4, zl v5, zu, zi (v7 + 1), zu, zu, zu]) dX12_holds__271 rfl (by decide) s6 rfl ?_
    refine z_goto dX12_holds__274 (tgt := 227) (by decide) ?_
    exact k7 h1 h2
  refine z_iload dX12_holds__227 rfl ?_
  refine z_aload_n dX12_holds__229 rfl rfl ?_
  refine z_getfI (k := 10) flRX12_471 rfl rfl dX12_holds__230 ?_
  refine z_icmp_ge dX12_holds__233 (tgt := 277) (by decide) (fun h1 => ?_) (fun h1 => ?_)
  · skip
    refine z_aload_n dX12_holds__277 rfl rfl ?_
    refine z_lload dX12_holds__278 rfl ?_
    refine z_l2i dX12_holds__280 ?_
    refine z_putI (k := 105) fpRX12_477 rfl rfl dX12_holds__281 ?_
    refine z_iconst dX12_holds__284 (by unfold zIn; decide) ?_
    exact z_iretz rfl (by decide) dX12_holds__285 (k1 h1)
  · skip
    refine z_aload_n dX12_holds__236 rfl rfl ?_
    refine z_getfR (k := 103) flRX12_244 rfl rfl dX12_holds__237 ?_
    refine z_iload dX12_holds__240 rfl ?_
    have s2 : (0 : Int) ≤ v7 ∧ v7 < (2 : Int) := k2 h1
    refine z_iald rfl s2.1 s2.2 dX12_holds__242 ?_
    refine z_iconst dX12_holds__243 (by unfold zIn; decide) ?_
    refine z_icmp_eq dX12_holds__244 (tgt := 271) (by decide) (fun h2 => ?_) (fun h2 => ?_)
    · skip
      exact J271 h1 h2
    · skip
      refine z_lload dX12_holds__247 rfl ?_
      refine z_aload_n dX12_holds__249 rfl rfl ?_
      refine z_getfR (k := 72) flRX12_187 rfl rfl dX12_holds__250 ?_
      refine z_iload dX12_holds__253 rfl ?_
      refine z_iald rfl s2.1 s2.2 dX12_holds__255 ?_
      refine z_i2l dX12_holds__256 ?_
      refine z_iload_n dX12_holds__257 rfl rfl ?_
      refine z_aload_n dX12_holds__258 rfl rfl ?_
      refine z_getfR (k := 103) flRX12_244 rfl rfl dX12_holds__259 ?_
      refine z_iload dX12_holds__262 rfl ?_
      refine z_iald rfl s2.1 s2.2 dX12_holds__264 ?_
      have s3 : -2147483648 ≤ v2 - σ 175 v7 ∧ v2 - σ 175 v7 < (2147483648 : Int) := k3 h1 h2
      refine z_isubN dX12_holds__265 s3 ?_
      refine z_i2l dX12_holds__266 ?_
      have s4 : -9223372036854775808 ≤ σ 156 v7 * (v2 - σ 175 v7) ∧ σ 156 v7 * (v2 - σ 175 v7) < (9223372036854775808 : Int) := k4 h1 h2
      refine z_lmulN dX12_holds__267 s4 ?_
      have s5 : -9223372036854775808 ≤ v5 + (σ 156 v7 * (v2 - σ 175 v7)) ∧ v5 + (σ 156 v7 * (v2 - σ 175 v7)) < (9223372036854775808 : Int) := k5 h1 h2
      refine z_laddN dX12_holds__268 s5 ?_
      refine z_lstore (ls' := [zr 98, zi v1, zi v2, zi v3, zi v4, zl (v5 + (σ 156 v7 * (v2 - σ 175 v7))), zu, zi v7, zu, zu, zu]) dX12_holds__269 (by decide) rfl ?_
      exact J271_1 h1 h2
set_option maxRecDepth 20000 in
set_option maxHeartbeats 1000000 in
theorem TX12_isPlan {G : zG} {σ : zS} {Q : Int → zS → Prop} {a1 a2 a3 : Int}  (k1 : (1 ≤ a1) → (a1 ≤ 10) → (0 ≤ a2) → (a2 ≤ 99999) → (0 ≤ a3) → (a3 ≤ 99999) → Q 1 σ) (k2 : (a1 < 1 ∨ (1 ≤ a1 ∧ 10 < a1) ∨ (1 ≤ a1 ∧ a1 ≤ 10 ∧ a2 < 0) ∨ (1 ≤ a1 ∧ a1 ≤ 10 ∧ 0 ≤ a2 ∧ 99999 < a2) ∨ (1 ≤ a1 ∧ a1 ≤ 10 ∧ 0 ≤ a2 ∧ a2 ≤ 99999 ∧ a3 < 0) ∨ (1 ≤ a1 ∧ a1 ≤ 10 ∧ 0 ≤ a2 ∧ a2 ≤ 99999 ∧ 0 ≤ a3 ∧ 99999 < a3)) → Q 0 σ) : zO G MX12_isPlan [zi a1, zi a2, zi a3] σ Q := by
  refine zO_of (ls0 := [zi a1, zi a2, zi a3]) (by decide) (Nat.le_of_ble_eq_true rfl) rfl ?_
  have J37 : (a1 < 1 ∨ (1 ≤ a1 ∧ 10 < a1) ∨ (1 ≤ a1 ∧ a1 ≤ 10 ∧ a2 < 0) ∨ (1 ≤ a1 ∧ a1 ≤ 10 ∧ 0 ≤ a2 ∧ 99999 < a2) ∨ (1 ≤ a1 ∧ a1 ≤ 10 ∧ 0 ≤ a2 ∧ a2 ≤ 99999 ∧ a3 < 0) ∨ (1 ≤ a1 ∧ a1 ≤ 10 ∧ 0 ≤ a2 ∧ a2 ≤ 99999 ∧ 0 ≤ a3 ∧ 99999 < a3)) → zR G MX12_isPlan 37 [zi a1, zi a2, zi a3] [] σ Q := by
    intro h7
    refine z_iconst dX12_isPlan_37 (by unfold zIn; decide) ?_
    exact z_iretz rfl (by decide) dX12_isPlan_38 (k2 h7)
  refine z_iload_n dX12_isPlan_0 rfl rfl ?_
  refine z_iconst dX12_isPlan_1 (by unfold zIn; decide) ?_
  refine z_icmp_lt dX12_isPlan_2 (tgt := 37) (by decide) (fun h1 => ?_) (fun h1 => ?_)
  · skip
    exact J37 (Or.inl h1)
  · skip
    refine z_iload_n dX12_isPlan_5 rfl rfl ?_
    refine z_bipush (x := 10) dX12_isPlan_6 (by decide +kernel) (by unfold zIn; decide) ?_
    refine z_icmp_gt dX12_isPlan_8 (tgt := 37) (by decide) (fun h2 => ?_) (fun h2 => ?_)
    · skip
      exact J37 (Or.inr (Or.inl ⟨h1, h2⟩))
    · skip
      refine z_iload_n dX12_isPlan_11 rfl rfl ?_
      refine z_if_lt dX12_isPlan_12 (tgt := 37) (by decide) (fun h3 => ?_) (fun h3 => ?_)
      · skip
        exact J37 (Or.inr (Or.inr (Or.inl ⟨h1, h2, h3⟩)))
      · skip
        refine z_iload_n dX12_isPlan_15 rfl rfl ?_
        refine z_ldcw (x := 99999) (zin_9 (List.mem_of_getElem? (i := 65) (by decide +kernel))) (by unfold zIn; decide) dX12_isPlan_16 ?_
        refine z_icmp_gt dX12_isPlan_19 (tgt := 37) (by decide) (fun h4 => ?_) (fun h4 => ?_)
        · skip
          exact J37 (Or.inr (Or.inr (Or.inr (Or.inl ⟨h1, h2, h3, h4⟩))))
        · skip
          refine z_iload_n dX12_isPlan_22 rfl rfl ?_
          refine z_if_lt dX12_isPlan_23 (tgt := 37) (by decide) (fun h5 => ?_) (fun h5 => ?_)
          · skip
            exact J37 (Or.inr (Or.inr (Or.inr (Or.inr (Or.inl ⟨h1, h2, h3, h4, h5⟩)))))
          · skip
            refine z_iload_n dX12_isPlan_26 rfl rfl ?_
            refine z_ldcw (x := 99999) (zin_9 (List.mem_of_getElem? (i := 65) (by decide +kernel))) (by unfold zIn; decide) dX12_isPlan_27 ?_
            refine z_icmp_gt dX12_isPlan_30 (tgt := 37) (by decide) (fun h6 => ?_) (fun h6 => ?_)
            · skip
              exact J37 (Or.inr (Or.inr (Or.inr (Or.inr (Or.inr ⟨h1, h2, h3, h4, h5, h6⟩)))))
            · skip
              refine z_iconst dX12_isPlan_33 (by unfold zIn; decide) ?_
              refine z_goto dX12_isPlan_34 (tgt := 38) (by decide) ?_
              exact z_iretz rfl (by decide) dX12_isPlan_38 (k1 h1 h2 h3 h4 h5 h6)
set_option maxRecDepth 20000 in
set_option maxHeartbeats 1000000 in
theorem TX12_plan {G : zG} {σ : zS} {Q : Int → zS → Prop} {a1 a2 a3 : Int}  (k1 : zO G MX12_isPlan [zi a1, zi a2, zi a3] σ (fun rr σ' => zR G MX12_plan 6 [zr 98, zi a1, zi a2, zi a3, zu, zu, zu, zu, zu, zu, zu, zu, zu, zu] [zi rr] σ' Q)) : zO G MX12_plan [zr 98, zi a1, zi a2, zi a3] σ Q := by
  refine zO_of (ls0 := [zr 98, zi a1, zi a2, zi a3, zu, zu, zu, zu, zu, zu, zu, zu, zu, zu]) (by decide) (Nat.le_of_ble_eq_true rfl) rfl ?_
  refine z_iload_n dX12_plan_0 rfl rfl ?_
  refine z_iload_n dX12_plan_1 rfl rfl ?_
  refine z_iload_n dX12_plan_2 rfl rfl ?_
  refine z_calls (as := [zi a1, zi a2, zi a3]) (st := []) mkX12_isPlan lkRX12_480 rfl (by decide) (Nat.le_of_ble_eq_true rfl) rfl dX12_plan_3 (k1)
set_option maxRecDepth 20000 in
set_option maxHeartbeats 1000000 in
theorem TX12_plan_6 {G : zG} {σ : zS} {Q : Int → zS → Prop} {v1 v2 v3 r : Int}  (k1 : (r ≠ 0) → zR G MX12_plan 22 [zr 98, zi v1, zi v2, zi v3, zi 0, zi 0, zu, zu, zu, zu, zu, zu, zu, zu] [] σ Q) (k2 : (r = 0) → -2147483648 ≤ -(-6) ∧ -(-6) < (2147483648 : Int)) (k3 : (r = 0) → (0 : Int) ≤ -(-6) ∧ -(-6) < (8 : Int)) (k4 : (r = 0) → Q (-6) (zup σ 157 (-(-6)) (zW ((σ 157 (-(-6))) + 1)))) : zR G MX12_plan 6 [zr 98, zi v1, zi v2, zi v3, zu, zu, zu, zu, zu, zu, zu, zu, zu, zu] [zi r] σ Q := by
  refine z_if_ne dX12_plan_6 (tgt := 16) (by decide) (fun h1 => ?_) (fun h1 => ?_)
  · skip
    refine z_iconst dX12_plan_16 (by unfold zIn; decide) ?_
    refine z_istore (ls' := [zr 98, zi v1, zi v2, zi v3, zi 0, zu, zu, zu, zu, zu, zu, zu, zu, zu]) dX12_plan_17 (by decide) rfl ?_
    refine z_iconst dX12_plan_19 (by unfold zIn; decide) ?_
    refine z_istore (ls' := [zr 98, zi v1, zi v2, zi v3, zi 0, zi 0, zu, zu, zu, zu, zu, zu, zu, zu]) dX12_plan_20 (by decide) rfl ?_
    exact k1 h1
  · skip
    refine z_aload_n dX12_plan_9 rfl rfl ?_
    refine z_bipush (x := (-6)) dX12_plan_10 (by decide +kernel) (by unfold zIn; decide) ?_
    have s2 : -2147483648 ≤ -(-6) ∧ -(-6) < (2147483648 : Int) := k2 h1
    have s3 : (0 : Int) ≤ -(-6) ∧ -(-6) < (8 : Int) := k3 h1
    refine z_callv (as := [zi (-6)]) (st := []) mkX12_no lkRX12_267 rfl rfl rfl (by decide) (Nat.le_of_ble_eq_true rfl) rfl dX12_plan_12 ?_
    refine SX12_no s2 s3 ?_
    show zR G MX12_plan 15 [zr 98, zi v1, zi v2, zi v3, zu, zu, zu, zu, zu, zu, zu, zu, zu, zu] [zi (-6)] (zup σ 157 (-(-6)) (zW ((σ 157 (-(-6))) + 1))) Q
    exact z_ireti rfl dX12_plan_15 (k4 h1)
set_option maxRecDepth 20000 in
set_option maxHeartbeats 1000000 in
theorem TX12_plan_22 {G : zG} {σ : zS} {Q : Int → zS → Prop} {v1 v2 v3 v4 v5 : Int}  (k1 : (σ 98 5 ≤ v5) → -2147483648 ≤ v1 + 1 ∧ v1 + 1 < (2147483648 : Int)) (k2 : (σ 98 5 ≤ v5) → zR G MX12_plan 79 [zr 98, zi v1, zi v2, zi v3, zi v4, zi 0, zi 0, zi 0, zi 0, zi 0, zi (v1 + 1), zi 0, zu, zu] [] σ Q) (k3 : (v5 < σ 98 5) → zO G MX12_endsIn [zr 98, zi v5, zi v1] σ (fun rr σ' => zR G MX12_plan 38 [zr 98, zi v1, zi v2, zi v3, zi v4, zi v5, zu, zu, zu, zu, zu, zu, zu, zu] [zi rr] σ' Q)) : zR G MX12_plan 22 [zr 98, zi v1, zi v2, zi v3, zi v4, zi v5, zu, zu, zu, zu, zu, zu, zu, zu] [] σ Q := by
  refine z_iload dX12_plan_22 rfl ?_
  refine z_aload_n dX12_plan_24 rfl rfl ?_
  refine z_getfI (k := 5) flRX12_415 rfl rfl dX12_plan_25 ?_
  refine z_icmp_ge dX12_plan_28 (tgt := 56) (by decide) (fun h1 => ?_) (fun h1 => ?_)
  · skip
    refine z_iconst dX12_plan_56 (by unfold zIn; decide) ?_
    refine z_istore (ls' := [zr 98, zi v1, zi v2, zi v3, zi v4, zi 0, zu, zu, zu, zu, zu, zu, zu, zu]) dX12_plan_57 (by decide) rfl ?_
    refine z_iconst dX12_plan_59 (by unfold zIn; decide) ?_
    refine z_istore (ls' := [zr 98, zi v1, zi v2, zi v3, zi v4, zi 0, zi 0, zu, zu, zu, zu, zu, zu, zu]) dX12_plan_60 (by decide) rfl ?_
    refine z_iconst dX12_plan_62 (by unfold zIn; decide) ?_
    refine z_istore (ls' := [zr 98, zi v1, zi v2, zi v3, zi v4, zi 0, zi 0, zi 0, zu, zu, zu, zu, zu, zu]) dX12_plan_63 (by decide) rfl ?_
    refine z_iconst dX12_plan_65 (by unfold zIn; decide) ?_
    refine z_istore (ls' := [zr 98, zi v1, zi v2, zi v3, zi v4, zi 0, zi 0, zi 0, zi 0, zu, zu, zu, zu, zu]) dX12_plan_66 (by decide) rfl ?_
    refine z_iconst dX12_plan_68 (by unfold zIn; decide) ?_
    refine z_istore (ls' := [zr 98, zi v1, zi v2, zi v3, zi v4, zi 0, zi 0, zi 0, zi 0, zi 0, zu, zu, zu, zu]) dX12_plan_69 (by decide) rfl ?_
    refine z_iload_n dX12_plan_71 rfl rfl ?_
    refine z_iconst dX12_plan_72 (by unfold zIn; decide) ?_
    have s1 : -2147483648 ≤ v1 + 1 ∧ v1 + 1 < (2147483648 : Int) := k1 h1
    refine z_iaddN dX12_plan_73 s1 ?_
    refine z_istore (ls' := [zr 98, zi v1, zi v2, zi v3, zi v4, zi 0, zi 0, zi 0, zi 0, zi 0, zi (v1 + 1), zu, zu, zu]) dX12_plan_74 (by decide) rfl ?_
    refine z_iconst dX12_plan_76 (by unfold zIn; decide) ?_
    refine z_istore (ls' := [zr 98, zi v1, zi v2, zi v3, zi v4, zi 0, zi 0, zi 0, zi 0, zi 0, zi (v1 + 1), zi 0, zu, zu]) dX12_plan_77 (by decide) rfl ?_
    exact k2 h1
  · skip
    refine z_aload_n dX12_plan_31 rfl rfl ?_
    refine z_iload dX12_plan_32 rfl ?_
    refine z_iload_n dX12_plan_34 rfl rfl ?_
    refine z_callv (as := [zi v5, zi v1]) (st := []) mkX12_endsIn lkRX12_484 rfl rfl rfl (by decide) (Nat.le_of_ble_eq_true rfl) rfl dX12_plan_35 (k3 h1)
set_option maxRecDepth 20000 in
set_option maxHeartbeats 1000000 in
theorem TX12_plan_38 {G : zG} {σ : zS} {Q : Int → zS → Prop} {v1 v2 v3 v4 v5 r : Int}  (k1 : (r = 0) → -2147483648 ≤ v5 + 1 ∧ v5 + 1 < (2147483648 : Int)) (k2 : (r = 0) → zR G MX12_plan 22 [zr 98, zi v1, zi v2, zi v3, zi v4, zi (v5 + 1), zu, zu, zu, zu, zu, zu, zu, zu] [] σ Q) (k3 : (r ≠ 0) → -2147483648 ≤ v5 + 1 ∧ v5 + 1 < (2147483648 : Int)) (k4 : (r ≠ 0) → zR G MX12_plan 22 [zr 98, zi v1, zi v2, zi v3, zi (zor v4 (zshl 1 v5)), zi (v5 + 1), zu, zu, zu, zu, zu, zu, zu, zu] [] σ Q) : zR G MX12_plan 38 [zr 98, zi v1, zi v2, zi v3, zi v4, zi v5, zu, zu, zu, zu, zu, zu, zu, zu] [zi r] σ Q := by
  have J50_1 : (r ≠ 0) → zR G MX12_plan 50 [zr 98, zi v1, zi v2, zi v3, zi (zor v4 (zshl 1 v5)), zi v5, zu, zu, zu, zu, zu, zu, zu, zu] [] σ Q := by
    intro h1
    have s3 : -2147483648 ≤ v5 + 1 ∧ v5 + 1 < (2147483648 : Int) := k3 h1
    refine z_iincN (ls' := [zr 98, zi v1, zi v2, zi v3, zi (zor v4 (zshl 1 v5)), zi (v5 + 1), zu, zu, zu, zu, zu, zu, zu, zu]) dX12_plan_50 rfl (by decide) s3 rfl ?_
    refine z_goto dX12_plan_53 (tgt := 22) (by decide) ?_
    exact k4 h1
  have J50 : (r = 0) → zR G MX12_plan 50 [zr 98, zi v1, zi v2, zi v3, zi v4, zi v5, zu, zu, zu, zu, zu, zu, zu, zu] [] σ Q := by
    intro h1
    have s1 : -2147483648 ≤ v5 + 1 ∧ v5 + 1 < (2147483648 : Int) := k1 h1
    refine z_iincN (ls' := [zr 98, zi v1, zi v2, zi v3, zi v4, zi (v5 + 1), zu, zu, zu, zu, zu, zu, zu, zu]) dX12_plan_50 rfl (by decide) s1 rfl ?_
    refine z_goto dX12_plan_53 (tgt := 22) (by decide) ?_
    exact k2 h1
  refine z_if_eq dX12_plan_38 (tgt := 50) (by decide) (fun h1 => ?_) (fun h1 => ?_)
  · skip
    exact J50 h1
  · skip
    refine z_iload dX12_plan_41 rfl ?_
    refine z_iconst dX12_plan_43 (by unfold zIn; decide) ?_
    refine z_iload dX12_plan_44 rfl ?_
    refine z_ishl dX12_plan_46 ?_
    refine z_ior dX12_plan_47 ?_
    refine z_istore (ls' := [zr 98, zi v1, zi v2, zi v3, zi (zor v4 (zshl 1 v5)), zi v5, zu, zu, zu, zu, zu, zu, zu, zu]) dX12_plan_48 (by decide) rfl ?_
    exact J50_1 h1
set_option maxRecDepth 20000 in
set_option maxHeartbeats 1000000 in
theorem TX12_plan_79 {G : zG} {σ : zS} {Q : Int → zS → Prop} {v1 v2 v3 v4 v5 v6 v7 v8 v9 v10 v11 : Int}  (k1 : (zshl 1 (σ 98 5) ≤ v11) → (v5 ≠ 0) → Q v6 (zup (zup (zup (zup (zup σ 98 99 1) 98 100 v7) 174 0 v8) 174 1 v9) 98 101 (σ 98 10))) (k2 : (zshl 1 (σ 98 5) ≤ v11) → (v5 = 0) → -2147483648 ≤ -(-6) ∧ -(-6) < (2147483648 : Int)) (k3 : (zshl 1 (σ 98 5) ≤ v11) → (v5 = 0) → (0 : Int) ≤ -(-6) ∧ -(-6) < (8 : Int)) (k4 : (zshl 1 (σ 98 5) ≤ v11) → (v5 = 0) → Q (-6) (zup σ 157 (-(-6)) (zW ((σ 157 (-(-6))) + 1)))) (k5 : (v11 < zshl 1 (σ 98 5)) → (zand v11 (zxor v4 (-1)) = 0) → zR G MX12_plan 106 [zr 98, zi v1, zi v2, zi v3, zi v4, zi v5, zi v6, zi v7, zi v8, zi v9, zi v10, zi v11, zi 0, zu] [] σ Q) (k6 : (v11 < zshl 1 (σ 98 5)) → (zand v11 (zxor v4 (-1)) ≠ 0) → -2147483648 ≤ v11 + 1 ∧ v11 + 1 < (2147483648 : Int)) (k7 : (v11 < zshl 1 (σ 98 5)) → (zand v11 (zxor v4 (-1)) ≠ 0) → zR G MX12_plan 79 [zr 98, zi v1, zi v2, zi v3, zi v4, zi v5, zi v6, zi v7, zi v8, zi v9, zi v10, zi (v11 + 1), zu, zu] [] σ Q) : zR G MX12_plan 79 [zr 98, zi v1, zi v2, zi v3, zi v4, zi v5, zi v6, zi v7, zi v8, zi v9, zi v10, zi v11, zu, zu] [] σ Q := by
  have J267 : (v11 < zshl 1 (σ 98 5)) → (zand v11 (zxor v4 (-1)) ≠ 0) → zR G MX12_plan 267 [zr 98, zi v1, zi v2, zi v3, zi v4, zi v5, zi v6, zi v7, zi v8, zi v9, zi v10, zi v11, zu, zu] [] σ Q := by
    intro h1 h3
    have s6 : -2147483648 ≤ v11 + 1 ∧ v11 + 1 < (2147483648 : Int) := k6 h1 h3
    refine z_iincN (ls' := [zr 98, zi v1, zi v2, zi v3, zi v4, zi v5, zi v6, zi v7, zi v8, zi v9, zi v10, zi (v11 + 1), zu, zu]) dX12_plan_267 rfl (by decide) s6 rfl ?_
    refine z_goto dX12_plan_270 (tgt := 79) (by decide) ?_
    exact k7 h1 h3
  refine z_iload dX12_plan_79 rfl ?_
  refine z_iconst dX12_plan_81 (by unfold zIn; decide) ?_
  refine z_aload_n dX12_plan_82 rfl rfl ?_
  refine z_getfI (k := 5) flRX12_415 rfl rfl dX12_plan_83 ?_
  refine z_ishl dX12_plan_86 ?_
  refine z_icmp_ge dX12_plan_87 (tgt := 273) (by decide) (fun h1 => ?_) (fun h1 => ?_)
  · skip
    refine z_iload dX12_plan_273 rfl ?_
    refine z_if_ne dX12_plan_275 (tgt := 285) (by decide) (fun h2 => ?_) (fun h2 => ?_)
    · skip
      refine z_aload_n dX12_plan_285 rfl rfl ?_
      refine z_iconst dX12_plan_286 (by unfold zIn; decide) ?_
      refine z_putZ (k := 99) fpRX12_490 rfl rfl (by decide) dX12_plan_287 ?_
      refine z_aload_n dX12_plan_290 rfl rfl ?_
      refine z_iload dX12_plan_291 rfl ?_
      refine z_putI (k := 100) fpRX12_493 rfl rfl dX12_plan_293 ?_
      refine z_aload_n dX12_plan_296 rfl rfl ?_
      refine z_getfR (k := 102) flRX12_241 rfl rfl dX12_plan_297 ?_
      refine z_iconst dX12_plan_300 (by unfold zIn; decide) ?_
      refine z_iload dX12_plan_301 rfl ?_
      refine z_iast rfl (by decide) (by decide) dX12_plan_303 ?_
      refine z_aload_n dX12_plan_304 rfl rfl ?_
      refine z_getfR (k := 102) flRX12_241 rfl rfl dX12_plan_305 ?_
      refine z_iconst dX12_plan_308 (by unfold zIn; decide) ?_
      refine z_iload dX12_plan_309 rfl ?_
      refine z_iast rfl (by decide) (by decide) dX12_plan_311 ?_
      refine z_aload_n dX12_plan_312 rfl rfl ?_
      refine z_aload_n dX12_plan_313 rfl rfl ?_
      refine z_getfE (k := 10) (v := σ 98 10) flRX12_471 rfl rfl ((zup_of (by decide)).trans ((zup_of (by decide)).trans ((zup_oi (by decide)).trans (zup_oi (by decide))))) dX12_plan_314 ?_
      refine z_putI (k := 101) fpRX12_496 rfl rfl dX12_plan_317 ?_
      refine z_iload dX12_plan_320 rfl ?_
      exact z_ireti rfl dX12_plan_322 (k1 h1 h2)
    · skip
      refine z_aload_n dX12_plan_278 rfl rfl ?_
      refine z_bipush (x := (-6)) dX12_plan_279 (by decide +kernel) (by unfold zIn; decide) ?_
      have s2 : -2147483648 ≤ -(-6) ∧ -(-6) < (2147483648 : Int) := k2 h1 h2
      have s3 : (0 : Int) ≤ -(-6) ∧ -(-6) < (8 : Int) := k3 h1 h2
      refine z_callv (as := [zi (-6)]) (st := []) mkX12_no lkRX12_267 rfl rfl rfl (by decide) (Nat.le_of_ble_eq_true rfl) rfl dX12_plan_281 ?_
      refine SX12_no s2 s3 ?_
      show zR G MX12_plan 284 [zr 98, zi v1, zi v2, zi v3, zi v4, zi v5, zi v6, zi v7, zi v8, zi v9, zi v10, zi v11, zu, zu] [zi (-6)] (zup σ 157 (-(-6)) (zW ((σ 157 (-(-6))) + 1))) Q
      exact z_ireti rfl dX12_plan_284 (k4 h1 h2)
  · skip
    refine z_iload dX12_plan_90 rfl ?_
    refine z_iload dX12_plan_92 rfl ?_
    refine z_iconst dX12_plan_94 (by unfold zIn; decide) ?_
    refine z_ixor dX12_plan_95 ?_
    refine z_iand dX12_plan_96 ?_
    refine z_if_eq dX12_plan_97 (tgt := 103) (by decide) (fun h3 => ?_) (fun h3 => ?_)
    · skip
      refine z_iconst dX12_plan_103 (by unfold zIn; decide) ?_
      refine z_istore (ls' := [zr 98, zi v1, zi v2, zi v3, zi v4, zi v5, zi v6, zi v7, zi v8, zi v9, zi v10, zi v11, zi 0, zu]) dX12_plan_104 (by decide) rfl ?_
      exact k5 h1 h3
    · skip
      refine z_goto dX12_plan_100 (tgt := 267) (by decide) ?_
      exact J267 h1 h3
set_option maxRecDepth 20000 in
set_option maxHeartbeats 1000000 in
theorem TX12_plan_106 {G : zG} {σ : zS} {Q : Int → zS → Prop} {v1 v2 v3 v4 v5 v6 v7 v8 v9 v10 v11 v12 : Int}  (k1 : (σ 98 10 ≤ 0) → (v12 < 1) → zR G MX12_plan 127 [zr 98, zi v1, zi v2, zi v3, zi v4, zi v5, zi v6, zi v7, zi v8, zi v9, zi v10, zi v11, zi v12, zi 0] [] σ Q) (k2 : (0 < σ 98 10) → (v12 < v10) → zR G MX12_plan 127 [zr 98, zi v1, zi v2, zi v3, zi v4, zi v5, zi v6, zi v7, zi v8, zi v9, zi v10, zi v11, zi v12, zi 0] [] σ Q) (k3 : ((σ 98 10 ≤ 0 ∧ 1 ≤ v12) ∨ (0 < σ 98 10 ∧ v10 ≤ v12)) → -2147483648 ≤ v11 + 1 ∧ v11 + 1 < (2147483648 : Int)) (k4 : ((σ 98 10 ≤ 0 ∧ 1 ≤ v12) ∨ (0 < σ 98 10 ∧ v10 ≤ v12)) → zR G MX12_plan 79 [zr 98, zi v1, zi v2, zi v3, zi v4, zi v5, zi v6, zi v7, zi v8, zi v9, zi v10, zi (v11 + 1), zu, zu] [] σ Q) : zR G MX12_plan 106 [zr 98, zi v1, zi v2, zi v3, zi v4, zi v5, zi v6, zi v7, zi v8, zi v9, zi v10, zi v11, zi v12, zu] [] σ Q := by
  have J267 : ((σ 98 10 ≤ 0 ∧ 1 ≤ v12) ∨ (0 < σ 98 10 ∧ v10 ≤ v12)) → zR G MX12_plan 267 [zr 98, zi v1, zi v2, zi v3, zi v4, zi v5, zi v6, zi v7, zi v8, zi v9, zi v10, zi v11, zi v12, zu] [] σ Q := by
    intro h4
    have s3 : -2147483648 ≤ v11 + 1 ∧ v11 + 1 < (2147483648 : Int) := k3 h4
    refine z_iincN (ls' := [zr 98, zi v1, zi v2, zi v3, zi v4, zi v5, zi v6, zi v7, zi v8, zi v9, zi v10, zi (v11 + 1), zi v12, zu]) dX12_plan_267 rfl (by decide) s3 rfl ?_
    refine z_goto dX12_plan_270 (tgt := 79) (by decide) ?_
    exact zR_fg [false, false, false, false, false, false, false, false, false, false, false, false, true, false] (k4 h4)
  refine z_iload dX12_plan_106 rfl ?_
  refine z_aload_n dX12_plan_108 rfl rfl ?_
  refine z_getfI (k := 10) flRX12_471 rfl rfl dX12_plan_109 ?_
  refine z_if_le dX12_plan_112 (tgt := 120) (by decide) (fun h1 => ?_) (fun h1 => ?_)
  · skip
    refine z_iconst dX12_plan_120 (by unfold zIn; decide) ?_
    refine z_icmp_ge dX12_plan_121 (tgt := 267) (by decide) (fun h2 => ?_) (fun h2 => ?_)
    · skip
      exact J267 (Or.inl ⟨h1, h2⟩)
    · skip
      refine z_iconst dX12_plan_124 (by unfold zIn; decide) ?_
      refine z_istore (ls' := [zr 98, zi v1, zi v2, zi v3, zi v4, zi v5, zi v6, zi v7, zi v8, zi v9, zi v10, zi v11, zi v12, zi 0]) dX12_plan_125 (by decide) rfl ?_
      exact k1 h1 h2
  · skip
    refine z_iload dX12_plan_115 rfl ?_
    refine z_goto dX12_plan_117 (tgt := 121) (by decide) ?_
    refine z_icmp_ge dX12_plan_121 (tgt := 267) (by decide) (fun h3 => ?_) (fun h3 => ?_)
    · skip
      exact J267 (Or.inr ⟨h1, h3⟩)
    · skip
      refine z_iconst dX12_plan_124 (by unfold zIn; decide) ?_
      refine z_istore (ls' := [zr 98, zi v1, zi v2, zi v3, zi v4, zi v5, zi v6, zi v7, zi v8, zi v9, zi v10, zi v11, zi v12, zi 0]) dX12_plan_125 (by decide) rfl ?_
      exact k2 h1 h3
set_option maxRecDepth 20000 in
set_option maxHeartbeats 1000000 in
theorem TX12_plan_127 {G : zG} {σ : zS} {Q : Int → zS → Prop} {v1 v2 v3 v4 v5 v6 v7 v8 v9 v10 v11 v12 v13 : Int}  (k1 : (σ 98 10 ≤ 1) → (1 ≤ v13) → -2147483648 ≤ v12 + 1 ∧ v12 + 1 < (2147483648 : Int)) (k2 : (σ 98 10 ≤ 1) → (1 ≤ v13) → zR G MX12_plan 106 [zr 98, zi v1, zi v2, zi v3, zi v4, zi v5, zi v6, zi v7, zi v8, zi v9, zi v10, zi v11, zi (v12 + 1), zu] [] σ Q) (k3 : (σ 98 10 ≤ 1) → (v13 < 1) → (σ 98 10 ≤ 0) → (σ 98 10 ≤ 1) → zO G MX12_holds_ [zr 98, zi v11, zi v1, zi v2, zi v3] (zup (zup σ 175 0 (-1)) 175 1 (-1)) (fun rr σ' => zR G MX12_plan 206 [zr 98, zi v1, zi v2, zi v3, zi v4, zi v5, zi v6, zi v7, zi v8, zi v9, zi v10, zi v11, zi v12, zi v13] [zi rr] σ' Q)) (k4 : (σ 98 10 ≤ 1) → (v13 < 1) → (σ 98 10 ≤ 0) → (1 < σ 98 10) → (v1 ≤ v13) → zO G MX12_holds_ [zr 98, zi v11, zi v1, zi v2, zi v3] (zup (zup σ 175 0 (-1)) 175 1 (-1)) (fun rr σ' => zR G MX12_plan 206 [zr 98, zi v1, zi v2, zi v3, zi v4, zi v5, zi v6, zi v7, zi v8, zi v9, zi v10, zi v11, zi v12, zi v13] [zi rr] σ' Q)) (k5 : (σ 98 10 ≤ 1) → (v13 < 1) → (σ 98 10 ≤ 0) → (1 < σ 98 10) → (v13 < v1) → zO G MX12_holds_ [zr 98, zi v11, zi v1, zi v2, zi v3] (zup (zup σ 175 0 (-1)) 175 1 v13) (fun rr σ' => zR G MX12_plan 206 [zr 98, zi v1, zi v2, zi v3, zi v4, zi v5, zi v6, zi v7, zi v8, zi v9, zi v10, zi v11, zi v12, zi v13] [zi rr] σ' Q)) (k6 : (σ 98 10 ≤ 1) → (v13 < 1) → (0 < σ 98 10) → (v1 ≤ v12) → (σ 98 10 ≤ 1) → zO G MX12_holds_ [zr 98, zi v11, zi v1, zi v2, zi v3] (zup (zup σ 175 0 (-1)) 175 1 (-1)) (fun rr σ' => zR G MX12_plan 206 [zr 98, zi v1, zi v2, zi v3, zi v4, zi v5, zi v6, zi v7, zi v8, zi v9, zi v10, zi v11, zi v12, zi v13] [zi rr] σ' Q)) (k7 : (σ 98 10 ≤ 1) → (v13 < 1) → (0 < σ 98 10) → (v1 ≤ v12) → (1 < σ 98 10) → (v1 ≤ v13) → zO G MX12_holds_ [zr 98, zi v11, zi v1, zi v2, zi v3] (zup (zup σ 175 0 (-1)) 175 1 (-1)) (fun rr σ' => zR G MX12_plan 206 [zr 98, zi v1, zi v2, zi v3, zi v4, zi v5, zi v6, zi v7, zi v8, zi v9, zi v10, zi v11, zi v12, zi v13] [zi rr] σ' Q)) (k8 : (σ 98 10 ≤ 1) → (v13 < 1) → (0 < σ 98 10) → (v1 ≤ v12) → (1 < σ 98 10) → (v13 < v1) → zO G MX12_holds_ [zr 98, zi v11, zi v1, zi v2, zi v3] (zup (zup σ 175 0 (-1)) 175 1 v13) (fun rr σ' => zR G MX12_plan 206 [zr 98, zi v1, zi v2, zi v3, zi v4, zi v5, zi v6, zi v7, zi v8, zi v9, zi v10, zi v11, zi v12, zi v13] [zi rr] σ' Q)) (k9 : (σ 98 10 ≤ 1) → (v13 < 1) → (0 < σ 98 10) → (v12 < v1) → (σ 98 10 ≤ 1) → zO G MX12_holds_ [zr 98, zi v11, zi v1, zi v2, zi v3] (zup (zup σ 175 0 v12) 175 1 (-1)) (fun rr σ' => zR G MX12_plan 206 [zr 98, zi v1, zi v2, zi v3, zi v4, zi v5, zi v6, zi v7, zi v8, zi v9, zi v10, zi v11, zi v12, zi v13] [zi rr] σ' Q)) (k10 : (σ 98 10 ≤ 1) → (v13 < 1) → (0 < σ 98 10) → (v12 < v1) → (1 < σ 98 10) → (v1 ≤ v13) → zO G MX12_holds_ [zr 98, zi v11, zi v1, zi v2, zi v3] (zup (zup σ 175 0 v12) 175 1 (-1)) (fun rr σ' => zR G MX12_plan 206 [zr 98, zi v1, zi v2, zi v3, zi v4, zi v5, zi v6, zi v7, zi v8, zi v9, zi v10, zi v11, zi v12, zi v13] [zi rr] σ' Q)) (k11 : (σ 98 10 ≤ 1) → (v13 < 1) → (0 < σ 98 10) → (v12 < v1) → (1 < σ 98 10) → (v13 < v1) → zO G MX12_holds_ [zr 98, zi v11, zi v1, zi v2, zi v3] (zup (zup σ 175 0 v12) 175 1 v13) (fun rr σ' => zR G MX12_plan 206 [zr 98, zi v1, zi v2, zi v3, zi v4, zi v5, zi v6, zi v7, zi v8, zi v9, zi v10, zi v11, zi v12, zi v13] [zi rr] σ' Q)) (k12 : (1 < σ 98 10) → (v10 ≤ v13) → -2147483648 ≤ v12 + 1 ∧ v12 + 1 < (2147483648 : Int)) (k13 : (1 < σ 98 10) → (v10 ≤ v13) → zR G MX12_plan 106 [zr 98, zi v1, zi v2, zi v3, zi v4, zi v5, zi v6, zi v7, zi v8, zi v9, zi v10, zi v11, zi (v12 + 1), zu] [] σ Q) (k14 : (1 < σ 98 10) → (v13 < v10) → (σ 98 10 ≤ 0) → (σ 98 10 ≤ 1) → zO G MX12_holds_ [zr 98, zi v11, zi v1, zi v2, zi v3] (zup (zup σ 175 0 (-1)) 175 1 (-1)) (fun rr σ' => zR G MX12_plan 206 [zr 98, zi v1, zi v2, zi v3, zi v4, zi v5, zi v6, zi v7, zi v8, zi v9, zi v10, zi v11, zi v12, zi v13] [zi rr] σ' Q)) (k15 : (1 < σ 98 10) → (v13 < v10) → (σ 98 10 ≤ 0) → (1 < σ 98 10) → (v1 ≤ v13) → zO G MX12_holds_ [zr 98, zi v11, zi v1, zi v2, zi v3] (zup (zup σ 175 0 (-1)) 175 1 (-1)) (fun rr σ' => zR G MX12_plan 206 [zr 98, zi v1, zi v2, zi v3, zi v4, zi v5, zi v6, zi v7, zi v8, zi v9, zi v10, zi v11, zi v12, zi v13] [zi rr] σ' Q)) (k16 : (1 < σ 98 10) → (v13 < v10) → (σ 98 10 ≤ 0) → (1 < σ 98 10) → (v13 < v1) → zO G MX12_holds_ [zr 98, zi v11, zi v1, zi v2, zi v3] (zup (zup σ 175 0 (-1)) 175 1 v13) (fun rr σ' => zR G MX12_plan 206 [zr 98, zi v1, zi v2, zi v3, zi v4, zi v5, zi v6, zi v7, zi v8, zi v9, zi v10, zi v11, zi v12, zi v13] [zi rr] σ' Q)) (k17 : (1 < σ 98 10) → (v13 < v10) → (0 < σ 98 10) → (v1 ≤ v12) → (σ 98 10 ≤ 1) → zO G MX12_holds_ [zr 98, zi v11, zi v1, zi v2, zi v3] (zup (zup σ 175 0 (-1)) 175 1 (-1)) (fun rr σ' => zR G MX12_plan 206 [zr 98, zi v1, zi v2, zi v3, zi v4, zi v5, zi v6, zi v7, zi v8, zi v9, zi v10, zi v11, zi v12, zi v13] [zi rr] σ' Q)) (k18 : (1 < σ 98 10) → (v13 < v10) → (0 < σ 98 10) → (v1 ≤ v12) → (1 < σ 98 10) → (v1 ≤ v13) → zO G MX12_holds_ [zr 98, zi v11, zi v1, zi v2, zi v3] (zup (zup σ 175 0 (-1)) 175 1 (-1)) (fun rr σ' => zR G MX12_plan 206 [zr 98, zi v1, zi v2, zi v3, zi v4, zi v5, zi v6, zi v7, zi v8, zi v9, zi v10, zi v11, zi v12, zi v13] [zi rr] σ' Q)) (k19 : (1 < σ 98 10) → (v13 < v10) → (0 < σ 98 10) → (v1 ≤ v12) → (1 < σ 98 10) → (v13 < v1) → zO G MX12_holds_ [zr 98, zi v11, zi v1, zi v2, zi v3] (zup (zup σ 175 0 (-1)) 175 1 v13) (fun rr σ' => zR G MX12_plan 206 [zr 98, zi v1, zi v2, zi v3, zi v4, zi v5, zi v6, zi v7, zi v8, zi v9, zi v10, zi v11, zi v12, zi v13] [zi rr] σ' Q)) (k20 : (1 < σ 98 10) → (v13 < v10) → (0 < σ 98 10) → (v12 < v1) → (σ 98 10 ≤ 1) → zO G MX12_holds_ [zr 98, zi v11, zi v1, zi v2, zi v3] (zup (zup σ 175 0 v12) 175 1 (-1)) (fun rr σ' => zR G MX12_plan 206 [zr 98, zi v1, zi v2, zi v3, zi v4, zi v5, zi v6, zi v7, zi v8, zi v9, zi v10, zi v11, zi v12, zi v13] [zi rr] σ' Q)) (k21 : (1 < σ 98 10) → (v13 < v10) → (0 < σ 98 10) → (v12 < v1) → (1 < σ 98 10) → (v1 ≤ v13) → zO G MX12_holds_ [zr 98, zi v11, zi v1, zi v2, zi v3] (zup (zup σ 175 0 v12) 175 1 (-1)) (fun rr σ' => zR G MX12_plan 206 [zr 98, zi v1, zi v2, zi v3, zi v4, zi v5, zi v6, zi v7, zi v8, zi v9, zi v10, zi v11, zi v12, zi v13] [zi rr] σ' Q)) (k22 : (1 < σ 98 10) → (v13 < v10) → (0 < σ 98 10) → (v12 < v1) → (1 < σ 98 10) → (v13 < v1) → zO G MX12_holds_ [zr 98, zi v11, zi v1, zi v2, zi v3] (zup (zup σ 175 0 v12) 175 1 v13) (fun rr σ' => zR G MX12_plan 206 [zr 98, zi v1, zi v2, zi v3, zi v4, zi v5, zi v6, zi v7, zi v8, zi v9, zi v10, zi v11, zi v12, zi v13] [zi rr] σ' Q)) : zR G MX12_plan 127 [zr 98, zi v1, zi v2, zi v3, zi v4, zi v5, zi v6, zi v7, zi v8, zi v9, zi v10, zi v11, zi v12, zi v13] [] σ Q := by
  refine z_iload dX12_plan_127 rfl ?_
  refine z_aload_n dX12_plan_129 rfl rfl ?_
  refine z_getfI (k := 10) flRX12_471 rfl rfl dX12_plan_130 ?_
  refine z_iconst dX12_plan_133 (by unfold zIn; decide) ?_
  refine z_icmp_le dX12_plan_134 (tgt := 142) (by decide) (fun h1 => ?_) (fun h1 => ?_)
  · skip
    refine z_iconst dX12_plan_142 (by unfold zIn; decide) ?_
    refine z_icmp_ge dX12_plan_143 (tgt := 261) (by decide) (fun h2 => ?_) (fun h2 => ?_)
    · skip
      have s1 : -2147483648 ≤ v12 + 1 ∧ v12 + 1 < (2147483648 : Int) := k1 h1 h2
      refine z_iincN (ls' := [zr 98, zi v1, zi v2, zi v3, zi v4, zi v5, zi v6, zi v7, zi v8, zi v9, zi v10, zi v11, zi (v12 + 1), zi v13]) dX12_plan_261 rfl (by decide) s1 rfl ?_
      refine z_goto dX12_plan_264 (tgt := 106) (by decide) ?_
      exact zR_fg [false, false, false, false, false, false, false, false, false, false, false, false, false, true] (k2 h1 h2)
    · skip
      refine z_aload_n dX12_plan_146 rfl rfl ?_
      refine z_getfR (k := 103) flRX12_244 rfl rfl dX12_plan_147 ?_
      refine z_iconst dX12_plan_150 (by unfold zIn; decide) ?_
      refine z_aload_n dX12_plan_151 rfl rfl ?_
      refine z_getfI (k := 10) flRX12_471 rfl rfl dX12_plan_152 ?_
      refine z_if_le dX12_plan_155 (tgt := 169) (by decide) (fun h3 => ?_) (fun h3 => ?_)
      · skip
        refine z_iconst dX12_plan_169 (by unfold zIn; decide) ?_
        refine z_iast rfl (by decide) (by decide) dX12_plan_170 ?_
        refine z_aload_n dX12_plan_171 rfl rfl ?_
        refine z_getfR (k := 103) flRX12_244 rfl rfl dX12_plan_172 ?_
        refine z_iconst dX12_plan_175 (by unfold zIn; decide) ?_
        refine z_aload_n dX12_plan_176 rfl rfl ?_
        refine z_getfE (k := 10) (v := σ 98 10) flRX12_471 rfl rfl (zup_of (by decide)) dX12_plan_177 ?_
        refine z_iconst dX12_plan_180 (by unfold zIn; decide) ?_
        refine z_icmp_le dX12_plan_181 (tgt := 195) (by decide) (fun h4 => ?_) (fun h4 => ?_)
        · skip
          refine z_iconst dX12_plan_195 (by unfold zIn; decide) ?_
          refine z_iast rfl (by decide) (by decide) dX12_plan_196 ?_
          refine z_aload_n dX12_plan_197 rfl rfl ?_
          refine z_iload dX12_plan_198 rfl ?_
          refine z_iload_n dX12_plan_200 rfl rfl ?_
          refine z_iload_n dX12_plan_201 rfl rfl ?_
          refine z_iload_n dX12_plan_202 rfl rfl ?_
          refine z_callv (as := [zi v11, zi v1, zi v2, zi v3]) (st := []) mkX12_holds_ lkRX12_487 rfl rfl rfl (by decide) (Nat.le_of_ble_eq_true rfl) rfl dX12_plan_203 (k3 h1 h2 h3 h4)
        · skip
          refine z_iload dX12_plan_184 rfl ?_
          refine z_iload_n dX12_plan_186 rfl rfl ?_
          refine z_icmp_ge dX12_plan_187 (tgt := 195) (by decide) (fun h5 => ?_) (fun h5 => ?_)
          · skip
            refine z_iconst dX12_plan_195 (by unfold zIn; decide) ?_
            refine z_iast rfl (by decide) (by decide) dX12_plan_196 ?_
            refine z_aload_n dX12_plan_197 rfl rfl ?_
            refine z_iload dX12_plan_198 rfl ?_
            refine z_iload_n dX12_plan_200 rfl rfl ?_
            refine z_iload_n dX12_plan_201 rfl rfl ?_
            refine z_iload_n dX12_plan_202 rfl rfl ?_
            refine z_callv (as := [zi v11, zi v1, zi v2, zi v3]) (st := []) mkX12_holds_ lkRX12_487 rfl rfl rfl (by decide) (Nat.le_of_ble_eq_true rfl) rfl dX12_plan_203 (k4 h1 h2 h3 h4 h5)
          · skip
            refine z_iload dX12_plan_190 rfl ?_
            refine z_goto dX12_plan_192 (tgt := 196) (by decide) ?_
            refine z_iast rfl (by decide) (by decide) dX12_plan_196 ?_
            refine z_aload_n dX12_plan_197 rfl rfl ?_
            refine z_iload dX12_plan_198 rfl ?_
            refine z_iload_n dX12_plan_200 rfl rfl ?_
            refine z_iload_n dX12_plan_201 rfl rfl ?_
            refine z_iload_n dX12_plan_202 rfl rfl ?_
            refine z_callv (as := [zi v11, zi v1, zi v2, zi v3]) (st := []) mkX12_holds_ lkRX12_487 rfl rfl rfl (by decide) (Nat.le_of_ble_eq_true rfl) rfl dX12_plan_203 (k5 h1 h2 h3 h4 h5)
      · skip
        refine z_iload dX12_plan_158 rfl ?_
        refine z_iload_n dX12_plan_160 rfl rfl ?_
        refine z_icmp_ge dX12_plan_161 (tgt := 169) (by decide) (fun h6 => ?_) (fun h6 => ?_)
        · skip
          refine z_iconst dX12_plan_169 (by unfold zIn; decide) ?_
          refine z_iast rfl (by decide) (by decide) dX12_plan_170 ?_
          refine z_aload_n dX12_plan_171 rfl rfl ?_
          refine z_getfR (k := 103) flRX12_244 rfl rfl dX12_plan_172 ?_
          refine z_iconst dX12_plan_175 (by unfold zIn; decide) ?_
          refine z_aload_n dX12_plan_176 rfl rfl ?_
          refine z_getfE (k := 10) (v := σ 98 10) flRX12_471 rfl rfl (zup_of (by decide)) dX12_plan_177 ?_
          refine z_iconst dX12_plan_180 (by unfold zIn; decide) ?_
          refine z_icmp_le dX12_plan_181 (tgt := 195) (by decide) (fun h7 => ?_) (fun h7 => ?_)
          · skip
            refine z_iconst dX12_plan_195 (by unfold zIn; decide) ?_
            refine z_iast rfl (by decide) (by decide) dX12_plan_196 ?_
            refine z_aload_n dX12_plan_197 rfl rfl ?_
            refine z_iload dX12_plan_198 rfl ?_
            refine z_iload_n dX12_plan_200 rfl rfl ?_
            refine z_iload_n dX12_plan_201 rfl rfl ?_
            refine z_iload_n dX12_plan_202 rfl rfl ?_
            refine z_callv (as := [zi v11, zi v1, zi v2, zi v3]) (st := []) mkX12_holds_ lkRX12_487 rfl rfl rfl (by decide) (Nat.le_of_ble_eq_true rfl) rfl dX12_plan_203 (k6 h1 h2 h3 h6 h7)
          · skip
            refine z_iload dX12_plan_184 rfl ?_
            refine z_iload_n dX12_plan_186 rfl rfl ?_
            refine z_icmp_ge dX12_plan_187 (tgt := 195) (by decide) (fun h8 => ?_) (fun h8 => ?_)
            · skip
              refine z_iconst dX12_plan_195 (by unfold zIn; decide) ?_
              refine z_iast rfl (by decide) (by decide) dX12_plan_196 ?_
              refine z_aload_n dX12_plan_197 rfl rfl ?_
              refine z_iload dX12_plan_198 rfl ?_
              refine z_iload_n dX12_plan_200 rfl rfl ?_
              refine z_iload_n dX12_plan_201 rfl rfl ?_
              refine z_iload_n dX12_plan_202 rfl rfl ?_
              refine z_callv (as := [zi v11, zi v1, zi v2, zi v3]) (st := []) mkX12_holds_ lkRX12_487 rfl rfl rfl (by decide) (Nat.le_of_ble_eq_true rfl) rfl dX12_plan_203 (k7 h1 h2 h3 h6 h7 h8)
            · skip
              refine z_iload dX12_plan_190 rfl ?_
              refine z_goto dX12_plan_192 (tgt := 196) (by decide) ?_
              refine z_iast rfl (by decide) (by decide) dX12_plan_196 ?_
              refine z_aload_n dX12_plan_197 rfl rfl ?_
              refine z_iload dX12_plan_198 rfl ?_
              refine z_iload_n dX12_plan_200 rfl rfl ?_
              refine z_iload_n dX12_plan_201 rfl rfl ?_
              refine z_iload_n dX12_plan_202 rfl rfl ?_
              refine z_callv (as := [zi v11, zi v1, zi v2, zi v3]) (st := []) mkX12_holds_ lkRX12_487 rfl rfl rfl (by decide) (Nat.le_of_ble_eq_true rfl) rfl dX12_plan_203 (k8 h1 h2 h3 h6 h7 h8)
        · skip
          refine z_iload dX12_plan_164 rfl ?_
          refine z_goto dX12_plan_166 (tgt := 170) (by decide) ?_
          refine z_iast rfl (by decide) (by decide) dX12_plan_170 ?_
          refine z_aload_n dX12_plan_171 rfl rfl ?_
          refine z_getfR (k := 103) flRX12_244 rfl rfl dX12_plan_172 ?_
          refine z_iconst dX12_plan_175 (by unfold zIn; decide) ?_
          refine z_aload_n dX12_plan_176 rfl rfl ?_
          refine z_getfE (k := 10) (v := σ 98 10) flRX12_471 rfl rfl (zup_of (by decide)) dX12_plan_177 ?_
          refine z_iconst dX12_plan_180 (by unfold zIn; decide) ?_
          refine z_icmp_le dX12_plan_181 (tgt := 195) (by decide) (fun h9 => ?_) (fun h9 => ?_)
          · skip
            refine z_iconst dX12_plan_195 (by unfold zIn; decide) ?_
            refine z_iast rfl (by decide) (by decide) dX12_plan_196 ?_
            refine z_aload_n dX12_plan_197 rfl rfl ?_
            refine z_iload dX12_plan_198 rfl ?_
            refine z_iload_n dX12_plan_200 rfl rfl ?_
            refine z_iload_n dX12_plan_201 rfl rfl ?_
            refine z_iload_n dX12_plan_202 rfl rfl ?_
            refine z_callv (as := [zi v11, zi v1, zi v2, zi v3]) (st := []) mkX12_holds_ lkRX12_487 rfl rfl rfl (by decide) (Nat.le_of_ble_eq_true rfl) rfl dX12_plan_203 (k9 h1 h2 h3 h6 h9)
          · skip
            refine z_iload dX12_plan_184 rfl ?_
            refine z_iload_n dX12_plan_186 rfl rfl ?_
            refine z_icmp_ge dX12_plan_187 (tgt := 195) (by decide) (fun h10 => ?_) (fun h10 => ?_)
            · skip
              refine z_iconst dX12_plan_195 (by unfold zIn; decide) ?_
              refine z_iast rfl (by decide) (by decide) dX12_plan_196 ?_
              refine z_aload_n dX12_plan_197 rfl rfl ?_
              refine z_iload dX12_plan_198 rfl ?_
              refine z_iload_n dX12_plan_200 rfl rfl ?_
              refine z_iload_n dX12_plan_201 rfl rfl ?_
              refine z_iload_n dX12_plan_202 rfl rfl ?_
              refine z_callv (as := [zi v11, zi v1, zi v2, zi v3]) (st := []) mkX12_holds_ lkRX12_487 rfl rfl rfl (by decide) (Nat.le_of_ble_eq_true rfl) rfl dX12_plan_203 (k10 h1 h2 h3 h6 h9 h10)
            · skip
              refine z_iload dX12_plan_190 rfl ?_
              refine z_goto dX12_plan_192 (tgt := 196) (by decide) ?_
              refine z_iast rfl (by decide) (by decide) dX12_plan_196 ?_
              refine z_aload_n dX12_plan_197 rfl rfl ?_
              refine z_iload dX12_plan_198 rfl ?_
              refine z_iload_n dX12_plan_200 rfl rfl ?_
              refine z_iload_n dX12_plan_201 rfl rfl ?_
              refine z_iload_n dX12_plan_202 rfl rfl ?_
              refine z_callv (as := [zi v11, zi v1, zi v2, zi v3]) (st := []) mkX12_holds_ lkRX12_487 rfl rfl rfl (by decide) (Nat.le_of_ble_eq_true rfl) rfl dX12_plan_203 (k11 h1 h2 h3 h6 h9 h10)
  · skip
    refine z_iload dX12_plan_137 rfl ?_
    refine z_goto dX12_plan_139 (tgt := 143) (by decide) ?_
    refine z_icmp_ge dX12_plan_143 (tgt := 261) (by decide) (fun h11 => ?_) (fun h11 => ?_)
    · skip
      have s12 : -2147483648 ≤ v12 + 1 ∧ v12 + 1 < (2147483648 : Int) := k12 h1 h11
      refine z_iincN (ls' := [zr 98, zi v1, zi v2, zi v3, zi v4, zi v5, zi v6, zi v7, zi v8, zi v9, zi v10, zi v11, zi (v12 + 1), zi v13]) dX12_plan_261 rfl (by decide) s12 rfl ?_
      refine z_goto dX12_plan_264 (tgt := 106) (by decide) ?_
      exact zR_fg [false, false, false, false, false, false, false, false, false, false, false, false, false, true] (k13 h1 h11)
    · skip
      refine z_aload_n dX12_plan_146 rfl rfl ?_
      refine z_getfR (k := 103) flRX12_244 rfl rfl dX12_plan_147 ?_
      refine z_iconst dX12_plan_150 (by unfold zIn; decide) ?_
      refine z_aload_n dX12_plan_151 rfl rfl ?_
      refine z_getfI (k := 10) flRX12_471 rfl rfl dX12_plan_152 ?_
      refine z_if_le dX12_plan_155 (tgt := 169) (by decide) (fun h12 => ?_) (fun h12 => ?_)
      · skip
        refine z_iconst dX12_plan_169 (by unfold zIn; decide) ?_
        refine z_iast rfl (by decide) (by decide) dX12_plan_170 ?_
        refine z_aload_n dX12_plan_171 rfl rfl ?_
        refine z_getfR (k := 103) flRX12_244 rfl rfl dX12_plan_172 ?_
        refine z_iconst dX12_plan_175 (by unfold zIn; decide) ?_
        refine z_aload_n dX12_plan_176 rfl rfl ?_
        refine z_getfE (k := 10) (v := σ 98 10) flRX12_471 rfl rfl (zup_of (by decide)) dX12_plan_177 ?_
        refine z_iconst dX12_plan_180 (by unfold zIn; decide) ?_
        refine z_icmp_le dX12_plan_181 (tgt := 195) (by decide) (fun h13 => ?_) (fun h13 => ?_)
        · skip
          refine z_iconst dX12_plan_195 (by unfold zIn; decide) ?_
          refine z_iast rfl (by decide) (by decide) dX12_plan_196 ?_
          refine z_aload_n dX12_plan_197 rfl rfl ?_
          refine z_iload dX12_plan_198 rfl ?_
          refine z_iload_n dX12_plan_200 rfl rfl ?_
          refine z_iload_n dX12_plan_201 rfl rfl ?_
          refine z_iload_n dX12_plan_202 rfl rfl ?_
          refine z_callv (as := [zi v11, zi v1, zi v2, zi v3]) (st := []) mkX12_holds_ lkRX12_487 rfl rfl rfl (by decide) (Nat.le_of_ble_eq_true rfl) rfl dX12_plan_203 (k14 h1 h11 h12 h13)
        · skip
          refine z_iload dX12_plan_184 rfl ?_
          refine z_iload_n dX12_plan_186 rfl rfl ?_
          refine z_icmp_ge dX12_plan_187 (tgt := 195) (by decide) (fun h14 => ?_) (fun h14 => ?_)
          · skip
            refine z_iconst dX12_plan_195 (by unfold zIn; decide) ?_
            refine z_iast rfl (by decide) (by decide) dX12_plan_196 ?_
            refine z_aload_n dX12_plan_197 rfl rfl ?_
            refine z_iload dX12_plan_198 rfl ?_
            refine z_iload_n dX12_plan_200 rfl rfl ?_
            refine z_iload_n dX12_plan_201 rfl rfl ?_
            refine z_iload_n dX12_plan_202 rfl rfl ?_
            refine z_callv (as := [zi v11, zi v1, zi v2, zi v3]) (st := []) mkX12_holds_ lkRX12_487 rfl rfl rfl (by decide) (Nat.le_of_ble_eq_true rfl) rfl dX12_plan_203 (k15 h1 h11 h12 h13 h14)
          · skip
            refine z_iload dX12_plan_190 rfl ?_
            refine z_goto dX12_plan_192 (tgt := 196) (by decide) ?_
            refine z_iast rfl (by decide) (by decide) dX12_plan_196 ?_
            refine z_aload_n dX12_plan_197 rfl rfl ?_
            refine z_iload dX12_plan_198 rfl ?_
            refine z_iload_n dX12_plan_200 rfl rfl ?_
            refine z_iload_n dX12_plan_201 rfl rfl ?_
            refine z_iload_n dX12_plan_202 rfl rfl ?_
            refine z_callv (as := [zi v11, zi v1, zi v2, zi v3]) (st := []) mkX12_holds_ lkRX12_487 rfl rfl rfl (by decide) (Nat.le_of_ble_eq_true rfl) rfl dX12_plan_203 (k16 h1 h11 h12 h13 h14)
      · skip
        refine z_iload dX12_plan_158 rfl ?_
        refine z_iload_n dX12_plan_160 rfl rfl ?_
        refine z_icmp_ge dX12_plan_161 (tgt := 169) (by decide) (fun h15 => ?_) (fun h15 => ?_)
        · skip
          refine z_iconst dX12_plan_169 (by unfold zIn; decide) ?_
          refine z_iast rfl (by decide) (by decide) dX12_plan_170 ?_
          refine z_aload_n dX12_plan_171 rfl rfl ?_
          refine z_getfR (k := 103) flRX12_244 rfl rfl dX12_plan_172 ?_
          refine z_iconst dX12_plan_175 (by unfold zIn; decide) ?_
          refine z_aload_n dX12_plan_176 rfl rfl ?_
          refine z_getfE (k := 10) (v := σ 98 10) flRX12_471 rfl rfl (zup_of (by decide)) dX12_plan_177 ?_
          refine z_iconst dX12_plan_180 (by unfold zIn; decide) ?_
          refine z_icmp_le dX12_plan_181 (tgt := 195) (by decide) (fun h16 => ?_) (fun h16 => ?_)
          · skip
            refine z_iconst dX12_plan_195 (by unfold zIn; decide) ?_
            refine z_iast rfl (by decide) (by decide) dX12_plan_196 ?_
            refine z_aload_n dX12_plan_197 rfl rfl ?_
            refine z_iload dX12_plan_198 rfl ?_
            refine z_iload_n dX12_plan_200 rfl rfl ?_
            refine z_iload_n dX12_plan_201 rfl rfl ?_
            refine z_iload_n dX12_plan_202 rfl rfl ?_
            refine z_callv (as := [zi v11, zi v1, zi v2, zi v3]) (st := []) mkX12_holds_ lkRX12_487 rfl rfl rfl (by decide) (Nat.le_of_ble_eq_true rfl) rfl dX12_plan_203 (k17 h1 h11 h12 h15 h16)
          · skip
            refine z_iload dX12_plan_184 rfl ?_
            refine z_iload_n dX12_plan_186 rfl rfl ?_
            refine z_icmp_ge dX12_plan_187 (tgt := 195) (by decide) (fun h17 => ?_) (fun h17 => ?_)
            · skip
              refine z_iconst dX12_plan_195 (by unfold zIn; decide) ?_
              refine z_iast rfl (by decide) (by decide) dX12_plan_196 ?_
              refine z_aload_n dX12_plan_197 rfl rfl ?_
              refine z_iload dX12_plan_198 rfl ?_
              refine z_iload_n dX12_plan_200 rfl rfl ?_
              refine z_iload_n dX12_plan_201 rfl rfl ?_
              refine z_iload_n dX12_plan_202 rfl rfl ?_
              refine z_callv (as := [zi v11, zi v1, zi v2, zi v3]) (st := []) mkX12_holds_ lkRX12_487 rfl rfl rfl (by decide) (Nat.le_of_ble_eq_true rfl) rfl dX12_plan_203 (k18 h1 h11 h12 h15 h16 h17)
            · skip
              refine z_iload dX12_plan_190 rfl ?_
              refine z_goto dX12_plan_192 (tgt := 196) (by decide) ?_
              refine z_iast rfl (by decide) (by decide) dX12_plan_196 ?_
              refine z_aload_n dX12_plan_197 rfl rfl ?_
              refine z_iload dX12_plan_198 rfl ?_
              refine z_iload_n dX12_plan_200 rfl rfl ?_
              refine z_iload_n dX12_plan_201 rfl rfl ?_
              refine z_iload_n dX12_plan_202 rfl rfl ?_
              refine z_callv (as := [zi v11, zi v1, zi v2, zi v3]) (st := []) mkX12_holds_ lkRX12_487 rfl rfl rfl (by decide) (Nat.le_of_ble_eq_true rfl) rfl dX12_plan_203 (k19 h1 h11 h12 h15 h16 h17)
        · skip
          refine z_iload dX12_plan_164 rfl ?_
          refine z_goto dX12_plan_166 (tgt := 170) (by decide) ?_
          refine z_iast rfl (by decide) (by decide) dX12_plan_170 ?_
          refine z_aload_n dX12_plan_171 rfl rfl ?_
          refine z_getfR (k := 103) flRX12_244 rfl rfl dX12_plan_172 ?_
          refine z_iconst dX12_plan_175 (by unfold zIn; decide) ?_
          refine z_aload_n dX12_plan_176 rfl rfl ?_
          refine z_getfE (k := 10) (v := σ 98 10) flRX12_471 rfl rfl (zup_of (by decide)) dX12_plan_177 ?_
          refine z_iconst dX12_plan_180 (by unfold zIn; decide) ?_
          refine z_icmp_le dX12_plan_181 (tgt := 195) (by decide) (fun h18 => ?_) (fun h18 => ?_)
          · skip
            refine z_iconst dX12_plan_195 (by unfold zIn; decide) ?_
            refine z_iast rfl (by decide) (by decide) dX12_plan_196 ?_
            refine z_aload_n dX12_plan_197 rfl rfl ?_
            refine z_iload dX12_plan_198 rfl ?_
            refine z_iload_n dX12_plan_200 rfl rfl ?_
            refine z_iload_n dX12_plan_201 rfl rfl ?_
            refine z_iload_n dX12_plan_202 rfl rfl ?_
            refine z_callv (as := [zi v11, zi v1, zi v2, zi v3]) (st := []) mkX12_holds_ lkRX12_487 rfl rfl rfl (by decide) (Nat.le_of_ble_eq_true rfl) rfl dX12_plan_203 (k20 h1 h11 h12 h15 h18)
          · skip
            refine z_iload dX12_plan_184 rfl ?_
            refine z_iload_n dX12_plan_186 rfl rfl ?_
            refine z_icmp_ge dX12_plan_187 (tgt := 195) (by decide) (fun h19 => ?_) (fun h19 => ?_)
            · skip
              refine z_iconst dX12_plan_195 (by unfold zIn; decide) ?_
              refine z_iast rfl (by decide) (by decide) dX12_plan_196 ?_
              refine z_aload_n dX12_plan_197 rfl rfl ?_
              refine z_iload dX12_plan_198 rfl ?_
              refine z_iload_n dX12_plan_200 rfl rfl ?_
              refine z_iload_n dX12_plan_201 rfl rfl ?_
              refine z_iload_n dX12_plan_202 rfl rfl ?_
              refine z_callv (as := [zi v11, zi v1, zi v2, zi v3]) (st := []) mkX12_holds_ lkRX12_487 rfl rfl rfl (by decide) (Nat.le_of_ble_eq_true rfl) rfl dX12_plan_203 (k21 h1 h11 h12 h15 h18 h19)
            · skip
              refine z_iload dX12_plan_190 rfl ?_
              refine z_goto dX12_plan_192 (tgt := 196) (by decide) ?_
              refine z_iast rfl (by decide) (by decide) dX12_plan_196 ?_
              refine z_aload_n dX12_plan_197 rfl rfl ?_
              refine z_iload dX12_plan_198 rfl ?_
              refine z_iload_n dX12_plan_200 rfl rfl ?_
              refine z_iload_n dX12_plan_201 rfl rfl ?_
              refine z_iload_n dX12_plan_202 rfl rfl ?_
              refine z_callv (as := [zi v11, zi v1, zi v2, zi v3]) (st := []) mkX12_holds_ lkRX12_487 rfl rfl rfl (by decide) (Nat.le_of_ble_eq_true rfl) rfl dX12_plan_203 (k22 h1 h11 h12 h15 h18 h19)
set_option maxRecDepth 20000 in
set_option maxHeartbeats 1000000 in
theorem TX12_plan_206 {G : zG} {σ : zS} {Q : Int → zS → Prop} {v1 v2 v3 v4 v5 v6 v7 v8 v9 v10 v11 v12 v13 r : Int}  (k1 : (r = 0 ∨ (r ≠ 0 ∧ v5 ≠ 0 ∧ σ 98 105 ≤ v6)) → -2147483648 ≤ v13 + 1 ∧ v13 + 1 < (2147483648 : Int)) (k2 : (r = 0 ∨ (r ≠ 0 ∧ v5 ≠ 0 ∧ σ 98 105 ≤ v6)) → zR G MX12_plan 127 [zr 98, zi v1, zi v2, zi v3, zi v4, zi v5, zi v6, zi v7, zi v8, zi v9, zi v10, zi v11, zi v12, zi (v13 + 1)] [] σ Q) (k3 : (r ≠ 0) → (v5 = 0 ∨ (v5 ≠ 0 ∧ v6 < σ 98 105)) → -2147483648 ≤ v13 + 1 ∧ v13 + 1 < (2147483648 : Int)) (k4 : (r ≠ 0) → (v5 = 0 ∨ (v5 ≠ 0 ∧ v6 < σ 98 105)) → zR G MX12_plan 127 [zr 98, zi v1, zi v2, zi v3, zi v4, zi 1, zi (σ 98 105), zi v11, zi (σ 175 0), zi (σ 175 1), zi v10, zi v11, zi v12, zi (v13 + 1)] [] σ Q) : zR G MX12_plan 206 [zr 98, zi v1, zi v2, zi v3, zi v4, zi v5, zi v6, zi v7, zi v8, zi v9, zi v10, zi v11, zi v12, zi v13] [zi r] σ Q := by
  have J255_1 : (r ≠ 0) → (v5 = 0 ∨ (v5 ≠ 0 ∧ v6 < σ 98 105)) → zR G MX12_plan 255 [zr 98, zi v1, zi v2, zi v3, zi v4, zi 1, zi (σ 98 105), zi v11, zi (σ 175 0), zi (σ 175 1), zi v10, zi v11, zi v12, zi v13] [] σ Q := by
    intro h1 h4
    have s3 : -2147483648 ≤ v13 + 1 ∧ v13 + 1 < (2147483648 : Int) := k3 h1 h4
    refine z_iincN (ls' := [zr 98, zi v1, zi v2, zi v3, zi v4, zi 1, zi (σ 98 105), zi v11, zi (σ 175 0), zi (σ 175 1), zi v10, zi v11, zi v12, zi (v13 + 1)]) dX12_plan_255 rfl (by decide) s3 rfl ?_
    refine z_goto dX12_plan_258 (tgt := 127) (by decide) ?_
    exact k4 h1 h4
  have J255 : (r = 0 ∨ (r ≠ 0 ∧ v5 ≠ 0 ∧ σ 98 105 ≤ v6)) → zR G MX12_plan 255 [zr 98, zi v1, zi v2, zi v3, zi v4, zi v5, zi v6, zi v7, zi v8, zi v9, zi v10, zi v11, zi v12, zi v13] [] σ Q := by
    intro h5
    have s1 : -2147483648 ≤ v13 + 1 ∧ v13 + 1 < (2147483648 : Int) := k1 h5
    refine z_iincN (ls' := [zr 98, zi v1, zi v2, zi v3, zi v4, zi v5, zi v6, zi v7, zi v8, zi v9, zi v10, zi v11, zi v12, zi (v13 + 1)]) dX12_plan_255 rfl (by decide) s1 rfl ?_
    refine z_goto dX12_plan_258 (tgt := 127) (by decide) ?_
    exact k2 h5
  have J226 : (r ≠ 0) → (v5 = 0 ∨ (v5 ≠ 0 ∧ v6 < σ 98 105)) → zR G MX12_plan 226 [zr 98, zi v1, zi v2, zi v3, zi v4, zi v5, zi v6, zi v7, zi v8, zi v9, zi v10, zi v11, zi v12, zi v13] [] σ Q := by
    intro h1 h4
    refine z_iconst dX12_plan_226 (by unfold zIn; decide) ?_
    refine z_istore (ls' := [zr 98, zi v1, zi v2, zi v3, zi v4, zi 1, zi v6, zi v7, zi v8, zi v9, zi v10, zi v11, zi v12, zi v13]) dX12_plan_227 (by decide) rfl ?_
    refine z_aload_n dX12_plan_229 rfl rfl ?_
    refine z_getfI (k := 105) flRX12_477 rfl rfl dX12_plan_230 ?_
    refine z_istore (ls' := [zr 98, zi v1, zi v2, zi v3, zi v4, zi 1, zi (σ 98 105), zi v7, zi v8, zi v9, zi v10, zi v11, zi v12, zi v13]) dX12_plan_233 (by decide) rfl ?_
    refine z_iload dX12_plan_235 rfl ?_
    refine z_istore (ls' := [zr 98, zi v1, zi v2, zi v3, zi v4, zi 1, zi (σ 98 105), zi v11, zi v8, zi v9, zi v10, zi v11, zi v12, zi v13]) dX12_plan_237 (by decide) rfl ?_
    refine z_aload_n dX12_plan_239 rfl rfl ?_
    refine z_getfR (k := 103) flRX12_244 rfl rfl dX12_plan_240 ?_
    refine z_iconst dX12_plan_243 (by unfold zIn; decide) ?_
    refine z_iald rfl (by decide) (by decide) dX12_plan_244 ?_
    refine z_istore (ls' := [zr 98, zi v1, zi v2, zi v3, zi v4, zi 1, zi (σ 98 105), zi v11, zi (σ 175 0), zi v9, zi v10, zi v11, zi v12, zi v13]) dX12_plan_245 (by decide) rfl ?_
    refine z_aload_n dX12_plan_247 rfl rfl ?_
    refine z_getfR (k := 103) flRX12_244 rfl rfl dX12_plan_248 ?_
    refine z_iconst dX12_plan_251 (by unfold zIn; decide) ?_
    refine z_iald rfl (by decide) (by decide) dX12_plan_252 ?_
    refine z_istore (ls' := [zr 98, zi v1, zi v2, zi v3, zi v4, zi 1, zi (σ 98 105), zi v11, zi (σ 175 0), zi (σ 175 1), zi v10, zi v11, zi v12, zi v13]) dX12_plan_253 (by decide) rfl ?_
    exact J255_1 h1 h4
  refine z_if_eq dX12_plan_206 (tgt := 255) (by decide) (fun h1 => ?_) (fun h1 => ?_)
  · skip
    exact J255 (Or.inl h1)
  · skip
    refine z_iload dX12_plan_209 rfl ?_
    refine z_if_eq dX12_plan_211 (tgt := 226) (by decide) (fun h2 => ?_) (fun h2 => ?_)
    · skip
      exact J226 h1 (Or.inl h2)
    · skip
      refine z_aload_n dX12_plan_214 rfl rfl ?_
      refine z_getfI (k := 105) flRX12_477 rfl rfl dX12_plan_215 ?_
      refine z_iload dX12_plan_218 rfl ?_
      refine z_icmp_gt dX12_plan_220 (tgt := 226) (by decide) (fun h3 => ?_) (fun h3 => ?_)
      · skip
        exact J226 h1 (Or.inr ⟨h2, h3⟩)
      · skip
        refine z_goto dX12_plan_223 (tgt := 255) (by decide) ?_
        exact J255 (Or.inr ⟨h1, h2, h3⟩)
