set_option maxRecDepth 20000 in
set_option maxHeartbeats 1000000 in
theorem TX12_price {G : zG} {σ : zS} {Q : Int → zS → Prop} {a1 a2 a3 : Int}  (k1 : (0 ≤ a1) → (a1 ≤ 200) → (0 ≤ a2) → (a2 ≤ 51) → (0 ≤ a3) → (a3 ≤ 999) → -2147483648 ≤ 52 * a1 ∧ 52 * a1 < (2147483648 : Int)) (k2 : (0 ≤ a1) → (a1 ≤ 200) → (0 ≤ a2) → (a2 ≤ 51) → (0 ≤ a3) → (a3 ≤ 999) → -2147483648 ≤ (52 * a1) + a2 ∧ (52 * a1) + a2 < (2147483648 : Int)) (k3 : (0 ≤ a1) → (a1 ≤ 200) → (0 ≤ a2) → (a2 ≤ 51) → (0 ≤ a3) → (a3 ≤ 999) → (0 : Int) ≤ (52 * a1) + a2 ∧ (52 * a1) + a2 < (10452 : Int)) (k4 : (0 ≤ a1) → (a1 ≤ 200) → (0 ≤ a2) → (a2 ≤ 51) → (0 ≤ a3) → (a3 ≤ 999) → (σ 146 ((52 * a1) + a2) = (-1)) → (σ 98 6 ≠ 200) → -2147483648 ≤ σ 98 6 + 1 ∧ σ 98 6 + 1 < (2147483648 : Int)) (k5 : (0 ≤ a1) → (a1 ≤ 200) → (0 ≤ a2) → (a2 ≤ 51) → (0 ≤ a3) → (a3 ≤ 999) → (σ 146 ((52 * a1) + a2) = (-1)) → (σ 98 6 ≠ 200) → Q (σ 98 6 + 1) (zup (zup σ 146 ((52 * a1) + a2) a3) 98 6 (σ 98 6 + 1))) (k6 : (0 ≤ a1) → (a1 ≤ 200) → (0 ≤ a2) → (a2 ≤ 51) → (0 ≤ a3) → (a3 ≤ 999) → (σ 146 ((52 * a1) + a2) = (-1)) → (σ 98 6 = 200) → -2147483648 ≤ -(-7) ∧ -(-7) < (2147483648 : Int)) (k7 : (0 ≤ a1) → (a1 ≤ 200) → (0 ≤ a2) → (a2 ≤ 51) → (0 ≤ a3) → (a3 ≤ 999) → (σ 146 ((52 * a1) + a2) = (-1)) → (σ 98 6 = 200) → (0 : Int) ≤ -(-7) ∧ -(-7) < (8 : Int)) (k8 : (0 ≤ a1) → (a1 ≤ 200) → (0 ≤ a2) → (a2 ≤ 51) → (0 ≤ a3) → (a3 ≤ 999) → (σ 146 ((52 * a1) + a2) = (-1)) → (σ 98 6 = 200) → Q (-7) (zup σ 157 (-(-7)) (zW ((σ 157 (-(-7))) + 1)))) (k9 : (a1 < 0 ∨ (0 ≤ a1 ∧ 200 < a1) ∨ (0 ≤ a1 ∧ a1 ≤ 200 ∧ a2 < 0) ∨ (0 ≤ a1 ∧ a1 ≤ 200 ∧ 0 ≤ a2 ∧ 51 < a2) ∨ (0 ≤ a1 ∧ a1 ≤ 200 ∧ 0 ≤ a2 ∧ a2 ≤ 51 ∧ a3 < 0) ∨ (0 ≤ a1 ∧ a1 ≤ 200 ∧ 0 ≤ a2 ∧ a2 ≤ 51 ∧ 0 ≤ a3 ∧ 999 < a3) ∨ (0 ≤ a1 ∧ a1 ≤ 200 ∧ 0 ≤ a2 ∧ a2 ≤ 51 ∧ 0 ≤ a3 ∧ a3 ≤ 999 ∧ σ 146 ((52 * a1) + a2) ≠ (-1))) → -2147483648 ≤ -(-6) ∧ -(-6) < (2147483648 : Int)) (k10 : (a1 < 0 ∨ (0 ≤ a1 ∧ 200 < a1) ∨ (0 ≤ a1 ∧ a1 ≤ 200 ∧ a2 < 0) ∨ (0 ≤ a1 ∧ a1 ≤ 200 ∧ 0 ≤ a2 ∧ 51 < a2) ∨ (0 ≤ a1 ∧ a1 ≤ 200 ∧ 0 ≤ a2 ∧ a2 ≤ 51 ∧ a3 < 0) ∨ (0 ≤ a1 ∧ a1 ≤ 200 ∧ 0 ≤ a2 ∧ a2 ≤ 51 ∧ 0 ≤ a3 ∧ 999 < a3) ∨ (0 ≤ a1 ∧ a1 ≤ 200 ∧ 0 ≤ a2 ∧ a2 ≤ 51 ∧ 0 ≤ a3 ∧ a3 ≤ 999 ∧ σ 146 ((52 * a1) + a2) ≠ (-1))) → (0 : Int) ≤ -(-6) ∧ -(-6) < (8 : Int)) (k11 : (a1 < 0 ∨ (0 ≤ a1 ∧ 200 < a1) ∨ (0 ≤ a1 ∧ a1 ≤ 200 ∧ a2 < 0) ∨ (0 ≤ a1 ∧ a1 ≤ 200 ∧ 0 ≤ a2 ∧ 51 < a2) ∨ (0 ≤ a1 ∧ a1 ≤ 200 ∧ 0 ≤ a2 ∧ a2 ≤ 51 ∧ a3 < 0) ∨ (0 ≤ a1 ∧ a1 ≤ 200 ∧ 0 ≤ a2 ∧ a2 ≤ 51 ∧ 0 ≤ a3 ∧ 999 < a3) ∨ (0 ≤ a1 ∧ a1 ≤ 200 ∧ 0 ≤ a2 ∧ a2 ≤ 51 ∧ 0 ≤ a3 ∧ a3 ≤ 999 ∧ σ 146 ((52 * a1) + a2) ≠ (-1))) → Q (-6) (zup σ 157 (-(-6)) (zW ((σ 157 (-(-6))) + 1)))) : zO G MX12_price [zr 98, zi a1, zi a2, zi a3] σ Q := by
  refine zO_of (ls0 := [zr 98, zi a1, zi a2, zi a3]) (by decide) (Nat.le_of_ble_eq_true rfl) rfl ?_
  have J47 : (a1 < 0 ∨ (0 ≤ a1 ∧ 200 < a1) ∨ (0 ≤ a1 ∧ a1 ≤ 200 ∧ a2 < 0) ∨ (0 ≤ a1 ∧ a1 ≤ 200 ∧ 0 ≤ a2 ∧ 51 < a2) ∨ (0 ≤ a1 ∧ a1 ≤ 200 ∧ 0 ≤ a2 ∧ a2 ≤ 51 ∧ a3 < 0) ∨ (0 ≤ a1 ∧ a1 ≤ 200 ∧ 0 ≤ a2 ∧ a2 ≤ 51 ∧ 0 ≤ a3 ∧ 999 < a3) ∨ (0 ≤ a1 ∧ a1 ≤ 200 ∧ 0 ≤ a2 ∧ a2 ≤ 51 ∧ 0 ≤ a3 ∧ a3 ≤ 999 ∧ σ 146 ((52 * a1) + a2) ≠ (-1))) → zR G MX12_price 47 [zr 98, zi a1, zi a2, zi a3] [] σ Q := by
    intro h9
    refine z_aload_n dX12_price_47 rfl rfl ?_
    refine z_bipush (x := (-6)) dX12_price_48 (by decide +kernel) (by unfold zIn; decide) ?_
    have s9 : -2147483648 ≤ -(-6) ∧ -(-6) < (2147483648 : Int) := k9 h9
    have s10 : (0 : Int) ≤ -(-6) ∧ -(-6) < (8 : Int) := k10 h9
    refine z_callv (as := [zi (-6)]) (st := []) mkX12_no lkRX12_267 rfl rfl rfl (by decide) (Nat.le_of_ble_eq_true rfl) rfl dX12_price_50 ?_
    refine SX12_no s9 s10 ?_
    show zR G MX12_price 53 [zr 98, zi a1, zi a2, zi a3] [zi (-6)] (zup σ 157 (-(-6)) (zW ((σ 157 (-(-6))) + 1))) Q
    exact z_ireti rfl dX12_price_53 (k11 h9)
  refine z_iload_n dX12_price_0 rfl rfl ?_
  refine z_if_lt dX12_price_1 (tgt := 47) (by decide) (fun h1 => ?_) (fun h1 => ?_)
  · skip
    exact J47 (Or.inl h1)
  · skip
    refine z_iload_n dX12_price_4 rfl rfl ?_
    refine z_sipush (x := 200) dX12_price_5 (by decide +kernel) (by unfold zIn; decide) ?_
    refine z_icmp_gt dX12_price_8 (tgt := 47) (by decide) (fun h2 => ?_) (fun h2 => ?_)
    · skip
      exact J47 (Or.inr (Or.inl ⟨h1, h2⟩))
    · skip
      refine z_iload_n dX12_price_11 rfl rfl ?_
      refine z_if_lt dX12_price_12 (tgt := 47) (by decide) (fun h3 => ?_) (fun h3 => ?_)
      · skip
        exact J47 (Or.inr (Or.inr (Or.inl ⟨h1, h2, h3⟩)))
      · skip
        refine z_iload_n dX12_price_15 rfl rfl ?_
        refine z_bipush (x := 51) dX12_price_16 (by decide +kernel) (by unfold zIn; decide) ?_
        refine z_icmp_gt dX12_price_18 (tgt := 47) (by decide) (fun h4 => ?_) (fun h4 => ?_)
        · skip
          exact J47 (Or.inr (Or.inr (Or.inr (Or.inl ⟨h1, h2, h3, h4⟩))))
        · skip
          refine z_iload_n dX12_price_21 rfl rfl ?_
          refine z_if_lt dX12_price_22 (tgt := 47) (by decide) (fun h5 => ?_) (fun h5 => ?_)
          · skip
            exact J47 (Or.inr (Or.inr (Or.inr (Or.inr (Or.inl ⟨h1, h2, h3, h4, h5⟩)))))
          · skip
            refine z_iload_n dX12_price_25 rfl rfl ?_
            refine z_sipush (x := 999) dX12_price_26 (by decide +kernel) (by unfold zIn; decide) ?_
            refine z_icmp_gt dX12_price_29 (tgt := 47) (by decide) (fun h6 => ?_) (fun h6 => ?_)
            · skip
              exact J47 (Or.inr (Or.inr (Or.inr (Or.inr (Or.inr (Or.inl ⟨h1, h2, h3, h4, h5, h6⟩))))))
            · skip
              refine z_aload_n dX12_price_32 rfl rfl ?_
              refine z_getfR (k := 61) flRX12_157 rfl rfl dX12_price_33 ?_
              refine z_bipush (x := 52) dX12_price_36 (by decide +kernel) (by unfold zIn; decide) ?_
              refine z_iload_n dX12_price_38 rfl rfl ?_
              have s1 : -2147483648 ≤ 52 * a1 ∧ 52 * a1 < (2147483648 : Int) := k1 h1 h2 h3 h4 h5 h6
              refine z_imulN dX12_price_39 s1 ?_
              refine z_iload_n dX12_price_40 rfl rfl ?_
              have s2 : -2147483648 ≤ (52 * a1) + a2 ∧ (52 * a1) + a2 < (2147483648 : Int) := k2 h1 h2 h3 h4 h5 h6
              refine z_iaddN dX12_price_41 s2 ?_
              have s3 : (0 : Int) ≤ (52 * a1) + a2 ∧ (52 * a1) + a2 < (10452 : Int) := k3 h1 h2 h3 h4 h5 h6
              refine z_iald rfl s3.1 s3.2 dX12_price_42 ?_
              refine z_iconst dX12_price_43 (by unfold zIn; decide) ?_
              refine z_icmp_eq dX12_price_44 (tgt := 54) (by decide) (fun h7 => ?_) (fun h7 => ?_)
              · skip
                refine z_aload_n dX12_price_54 rfl rfl ?_
                refine z_getfI (k := 6) flRX12_428 rfl rfl dX12_price_55 ?_
                refine z_sipush (x := 200) dX12_price_58 (by decide +kernel) (by unfold zIn; decide) ?_
                refine z_icmp_ne dX12_price_61 (tgt := 71) (by decide) (fun h8 => ?_) (fun h8 => ?_)
                · skip
                  refine z_aload_n dX12_price_71 rfl rfl ?_
                  refine z_getfR (k := 61) flRX12_157 rfl rfl dX12_price_72 ?_
                  refine z_bipush (x := 52) dX12_price_75 (by decide +kernel) (by unfold zIn; decide) ?_
                  refine z_iload_n dX12_price_77 rfl rfl ?_
                  refine z_imulN dX12_price_78 s1 ?_
                  refine z_iload_n dX12_price_79 rfl rfl ?_
                  refine z_iaddN dX12_price_80 s2 ?_
                  refine z_iload_n dX12_price_81 rfl rfl ?_
                  refine z_iast rfl s3.1 s3.2 dX12_price_82 ?_
                  refine z_aload_n dX12_price_83 rfl rfl ?_
                  refine z_dup dX12_price_84 rfl ?_
                  refine z_getfE (k := 6) (v := σ 98 6) flRX12_428 rfl rfl (zup_of (by decide)) dX12_price_85 ?_
                  refine z_iconst dX12_price_88 (by unfold zIn; decide) ?_
                  have s4 : -2147483648 ≤ σ 98 6 + 1 ∧ σ 98 6 + 1 < (2147483648 : Int) := k4 h1 h2 h3 h4 h5 h6 h7 h8
                  refine z_iaddN dX12_price_89 s4 ?_
                  refine z_dup_x1 dX12_price_90 rfl rfl ?_
                  refine z_putI (k := 6) fpRX12_428 rfl rfl dX12_price_91 ?_
                  exact z_ireti rfl dX12_price_94 (k5 h1 h2 h3 h4 h5 h6 h7 h8)
                · skip
                  refine z_aload_n dX12_price_64 rfl rfl ?_
                  refine z_bipush (x := (-7)) dX12_price_65 (by decide +kernel) (by unfold zIn; decide) ?_
                  have s6 : -2147483648 ≤ -(-7) ∧ -(-7) < (2147483648 : Int) := k6 h1 h2 h3 h4 h5 h6 h7 h8
                  have s7 : (0 : Int) ≤ -(-7) ∧ -(-7) < (8 : Int) := k7 h1 h2 h3 h4 h5 h6 h7 h8
                  refine z_callv (as := [zi (-7)]) (st := []) mkX12_no lkRX12_267 rfl rfl rfl (by decide) (Nat.le_of_ble_eq_true rfl) rfl dX12_price_67 ?_
                  refine SX12_no s6 s7 ?_
                  show zR G MX12_price 70 [zr 98, zi a1, zi a2, zi a3] [zi (-7)] (zup σ 157 (-(-7)) (zW ((σ 157 (-(-7))) + 1))) Q
                  exact z_ireti rfl dX12_price_70 (k8 h1 h2 h3 h4 h5 h6 h7 h8)
              · skip
                exact J47 (Or.inr (Or.inr (Or.inr (Or.inr (Or.inr (Or.inr ⟨h1, h2, h3, h4, h5, h6, h7⟩))))))
set_option maxRecDepth 20000 in
set_option maxHeartbeats 1000000 in
theorem TX12_endOf {G : zG} {σ : zS} {Q : Int → zS → Prop} {a1 : Int}  (k1 : (0 : Int) ≤ a1 ∧ a1 < (8 : Int)) (k2 : (σ 145 a1 ≠ 0) → zR G MX12_endOf 22 [zr 98, zi a1, zi (-50000), zi 0] [] σ Q) (k3 : (σ 145 a1 = 0) → Q (σ 144 a1) σ) : zO G MX12_endOf [zr 98, zi a1] σ Q := by
  refine zO_of (ls0 := [zr 98, zi a1, zu, zu]) (by decide) (Nat.le_of_ble_eq_true rfl) rfl ?_
  refine z_aload_n dX12_endOf_0 rfl rfl ?_
  refine z_getfR (k := 60) flRX12_154 rfl rfl dX12_endOf_1 ?_
  refine z_iload_n dX12_endOf_4 rfl rfl ?_
  have s1 : (0 : Int) ≤ a1 ∧ a1 < (8 : Int) := k1
  refine z_iald rfl s1.1 s1.2 dX12_endOf_5 ?_
  refine z_if_ne dX12_endOf_6 (tgt := 16) (by decide) (fun h1 => ?_) (fun h1 => ?_)
  · skip
    refine z_ldcw (x := (-50000)) (zin_9 (List.mem_of_getElem? (i := 3) (by decide +kernel))) (by unfold zIn; decide) dX12_endOf_16 ?_
    refine z_istore_n (ls' := [zr 98, zi a1, zi (-50000), zu]) dX12_endOf_19 rfl (by decide) rfl ?_
    refine z_iconst dX12_endOf_20 (by unfold zIn; decide) ?_
    refine z_istore_n (ls' := [zr 98, zi a1, zi (-50000), zi 0]) dX12_endOf_21 rfl (by decide) rfl ?_
    exact k2 h1
  · skip
    refine z_aload_n dX12_endOf_9 rfl rfl ?_
    refine z_getfR (k := 59) flRX12_151 rfl rfl dX12_endOf_10 ?_
    refine z_iload_n dX12_endOf_13 rfl rfl ?_
    refine z_iald rfl s1.1 s1.2 dX12_endOf_14 ?_
    exact z_ireti rfl dX12_endOf_15 (k3 h1)
set_option maxRecDepth 20000 in
set_option maxHeartbeats 1000000 in
theorem TX12_endOf_22 {G : zG} {σ : zS} {Q : Int → zS → Prop} {v1 v2 v3 : Int}  (k1 : (σ 98 1 ≤ v3) → Q (zdiv v2 365) σ) (k2 : (v3 < σ 98 1) → (0 : Int) ≤ v1 ∧ v1 < (8 : Int)) (k3 : (v3 < σ 98 1) → (zand (zshr (σ 145 v1) v3) 1 ≠ 0) → (0 : Int) ≤ v3 ∧ v3 < (24 : Int)) (k4 : (v3 < σ 98 1) → (zand (zshr (σ 145 v1) v3) 1 ≠ 0) → (σ 105 v3 = 0) → Q 1000 σ) (k5 : (v3 < σ 98 1) → ((zand (zshr (σ 145 v1) v3) 1 ≠ 0 ∧ σ 105 v3 ≠ 0 ∧ σ 100 v3 ≤ v2) ∨ zand (zshr (σ 145 v1) v3) 1 = 0) → -2147483648 ≤ v3 + 1 ∧ v3 + 1 < (2147483648 : Int)) (k6 : (v3 < σ 98 1) → ((zand (zshr (σ 145 v1) v3) 1 ≠ 0 ∧ σ 105 v3 ≠ 0 ∧ σ 100 v3 ≤ v2) ∨ zand (zshr (σ 145 v1) v3) 1 = 0) → zR G MX12_endOf 22 [zr 98, zi v1, zi v2, zi (v3 + 1)] [] σ Q) (k7 : (v3 < σ 98 1) → (zand (zshr (σ 145 v1) v3) 1 ≠ 0) → (σ 105 v3 ≠ 0) → (v2 < σ 100 v3) → -2147483648 ≤ v3 + 1 ∧ v3 + 1 < (2147483648 : Int)) (k8 : (v3 < σ 98 1) → (zand (zshr (σ 145 v1) v3) 1 ≠ 0) → (σ 105 v3 ≠ 0) → (v2 < σ 100 v3) → zR G MX12_endOf 22 [zr 98, zi v1, zi (σ 100 v3), zi (v3 + 1)] [] σ Q) : zR G MX12_endOf 22 [zr 98, zi v1, zi v2, zi v3] [] σ Q := by
  have J76_1 : (v3 < σ 98 1) → (zand (zshr (σ 145 v1) v3) 1 ≠ 0) → (σ 105 v3 ≠ 0) → (v2 < σ 100 v3) → zR G MX12_endOf 76 [zr 98, zi v1, zi (σ 100 v3), zi v3] [] σ Q := by
    intro h1 h2 h3 h4
    have s7 : -2147483648 ≤ v3 + 1 ∧ v3 + 1 < (2147483648 : Int) := k7 h1 h2 h3 h4
    refine z_iincN (ls' := [zr 98, zi v1, zi (σ 100 v3), zi (v3 + 1)]) dX12_endOf_76 rfl (by decide) s7 rfl ?_
    refine z_goto dX12_endOf_79 (tgt := 22) (by decide) ?_
    exact k8 h1 h2 h3 h4
  have J76 : (v3 < σ 98 1) → ((zand (zshr (σ 145 v1) v3) 1 ≠ 0 ∧ σ 105 v3 ≠ 0 ∧ σ 100 v3 ≤ v2) ∨ zand (zshr (σ 145 v1) v3) 1 = 0) → zR G MX12_endOf 76 [zr 98, zi v1, zi v2, zi v3] [] σ Q := by
    intro h1 h5
    have s5 : -2147483648 ≤ v3 + 1 ∧ v3 + 1 < (2147483648 : Int) := k5 h1 h5
    refine z_iincN (ls' := [zr 98, zi v1, zi v2, zi (v3 + 1)]) dX12_endOf_76 rfl (by decide) s5 rfl ?_
    refine z_goto dX12_endOf_79 (tgt := 22) (by decide) ?_
    exact k6 h1 h5
  refine z_iload_n dX12_endOf_22 rfl rfl ?_
  refine z_aload_n dX12_endOf_23 rfl rfl ?_
  refine z_getfI (k := 1) flRX12_256 rfl rfl dX12_endOf_24 ?_
  refine z_icmp_ge dX12_endOf_27 (tgt := 82) (by decide) (fun h1 => ?_) (fun h1 => ?_)
  · skip
    refine z_iload_n dX12_endOf_82 rfl rfl ?_
    refine z_sipush (x := 365) dX12_endOf_83 (by decide +kernel) (by unfold zIn; decide) ?_
    refine z_idiv dX12_endOf_86 (by decide) ?_
    exact z_ireti rfl dX12_endOf_87 (k1 h1)
  · skip
    refine z_aload_n dX12_endOf_30 rfl rfl ?_
    refine z_getfR (k := 60) flRX12_154 rfl rfl dX12_endOf_31 ?_
    refine z_iload_n dX12_endOf_34 rfl rfl ?_
    have s2 : (0 : Int) ≤ v1 ∧ v1 < (8 : Int) := k2 h1
    refine z_iald rfl s2.1 s2.2 dX12_endOf_35 ?_
    refine z_iload_n dX12_endOf_36 rfl rfl ?_
    refine z_ishr dX12_endOf_37 ?_
    refine z_iconst dX12_endOf_38 (by unfold zIn; decide) ?_
    refine z_iand dX12_endOf_39 ?_
    refine z_if_ne dX12_endOf_40 (tgt := 46) (by decide) (fun h2 => ?_) (fun h2 => ?_)
    · skip
      refine z_aload_n dX12_endOf_46 rfl rfl ?_
      refine z_getfR (k := 19) flRX12_33 rfl rfl dX12_endOf_47 ?_
      refine z_iload_n dX12_endOf_50 rfl rfl ?_
      have s3 : (0 : Int) ≤ v3 ∧ v3 < (24 : Int) := k3 h1 h2
      refine z_bald rfl s3.1 s3.2 dX12_endOf_51 ?_
      refine z_if_ne dX12_endOf_52 (tgt := 59) (by decide) (fun h3 => ?_) (fun h3 => ?_)
      · skip
        refine z_aload_n dX12_endOf_59 rfl rfl ?_
        refine z_getfR (k := 14) flRX12_17 rfl rfl dX12_endOf_60 ?_
        refine z_iload_n dX12_endOf_63 rfl rfl ?_
        refine z_iald rfl s3.1 s3.2 dX12_endOf_64 ?_
        refine z_iload_n dX12_endOf_65 rfl rfl ?_
        refine z_icmp_le dX12_endOf_66 (tgt := 76) (by decide) (fun h4 => ?_) (fun h4 => ?_)
        · skip
          exact J76 h1 (Or.inl ⟨h2, h3, h4⟩)
        · skip
          refine z_aload_n dX12_endOf_69 rfl rfl ?_
          refine z_getfR (k := 14) flRX12_17 rfl rfl dX12_endOf_70 ?_
          refine z_iload_n dX12_endOf_73 rfl rfl ?_
          refine z_iald rfl s3.1 s3.2 dX12_endOf_74 ?_
          refine z_istore_n (ls' := [zr 98, zi v1, zi (σ 100 v3), zi v3]) dX12_endOf_75 rfl (by decide) rfl ?_
          exact J76_1 h1 h2 h3 h4
      · skip
        refine z_sipush (x := 1000) dX12_endOf_55 (by decide +kernel) (by unfold zIn; decide) ?_
        exact z_ireti rfl dX12_endOf_58 (k4 h1 h2 h3)
    · skip
      refine z_goto dX12_endOf_43 (tgt := 76) (by decide) ?_
      exact J76 h1 (Or.inr h2)
set_option maxRecDepth 20000 in
set_option maxHeartbeats 1000000 in
theorem TX12_ends_ {G : zG} {σ : zS} {Q : Int → zS → Prop} {a1 : Int}  (k1 : (0 ≤ a1) → (a1 < σ 98 5) → zO G MX12_endOf [zr 98, zi a1] σ (fun rr σ' => zR G MX12_ends_ 17 [zr 98, zi a1] [zi rr] σ' Q)) (k2 : (a1 < 0 ∨ (0 ≤ a1 ∧ σ 98 5 ≤ a1)) → Q (-1) σ) : zO G MX12_ends_ [zr 98, zi a1] σ Q := by
  refine zO_of (ls0 := [zr 98, zi a1]) (by decide) (Nat.le_of_ble_eq_true rfl) rfl ?_
  have J20 : (a1 < 0 ∨ (0 ≤ a1 ∧ σ 98 5 ≤ a1)) → zR G MX12_ends_ 20 [zr 98, zi a1] [] σ Q := by
    intro h3
    refine z_iconst dX12_ends__20 (by unfold zIn; decide) ?_
    exact z_ireti rfl dX12_ends__21 (k2 h3)
  refine z_iload_n dX12_ends__0 rfl rfl ?_
  refine z_if_lt dX12_ends__1 (tgt := 20) (by decide) (fun h1 => ?_) (fun h1 => ?_)
  · skip
    exact J20 (Or.inl h1)
  · skip
    refine z_iload_n dX12_ends__4 rfl rfl ?_
    refine z_aload_n dX12_ends__5 rfl rfl ?_
    refine z_getfI (k := 5) flRX12_415 rfl rfl dX12_ends__6 ?_
    refine z_icmp_ge dX12_ends__9 (tgt := 20) (by decide) (fun h2 => ?_) (fun h2 => ?_)
    · skip
      exact J20 (Or.inr ⟨h1, h2⟩)
    · skip
      refine z_aload_n dX12_ends__12 rfl rfl ?_
      refine z_iload_n dX12_ends__13 rfl rfl ?_
      refine z_callv (as := [zi a1]) (st := []) mkX12_endOf lkRX12_432 rfl rfl rfl (by decide) (Nat.le_of_ble_eq_true rfl) rfl dX12_ends__14 (k1 h1 h2)
set_option maxRecDepth 20000 in
set_option maxHeartbeats 1000000 in
theorem TX12_ends__17 {G : zG} {σ : zS} {Q : Int → zS → Prop} {v1 r : Int}  (k1 : Q r σ) : zR G MX12_ends_ 17 [zr 98, zi v1] [zi r] σ Q := by
  refine z_goto dX12_ends__17 (tgt := 21) (by decide) ?_
  exact z_ireti rfl dX12_ends__21 (k1)
set_option maxRecDepth 20000 in
set_option maxHeartbeats 1000000 in
theorem TX12_asBefore {G : zG} {σ : zS} {Q : Int → zS → Prop} {a1 a2 : Int}  (k1 : -2147483648 ≤ 52 * a2 ∧ 52 * a2 < (2147483648 : Int)) (k2 : (0 : Int) ≤ a1 ∧ a1 < (8 : Int)) (k3 : -2147483648 ≤ (52 * a2) + σ 142 a1 ∧ (52 * a2) + σ 142 a1 < (2147483648 : Int)) (k4 : zR G MX12_asBefore 12 [zr 98, zi a1, zi a2, zi ((52 * a2) + σ 142 a1)] [] σ Q) : zO G MX12_asBefore [zr 98, zi a1, zi a2] σ Q := by
  refine zO_of (ls0 := [zr 98, zi a1, zi a2, zu]) (by decide) (Nat.le_of_ble_eq_true rfl) rfl ?_
  refine z_bipush (x := 52) dX12_asBefore_0 (by decide +kernel) (by unfold zIn; decide) ?_
  refine z_iload_n dX12_asBefore_2 rfl rfl ?_
  have s1 : -2147483648 ≤ 52 * a2 ∧ 52 * a2 < (2147483648 : Int) := k1
  refine z_imulN dX12_asBefore_3 s1 ?_
  refine z_aload_n dX12_asBefore_4 rfl rfl ?_
  refine z_getfR (k := 57) flRX12_145 rfl rfl dX12_asBefore_5 ?_
  refine z_iload_n dX12_asBefore_8 rfl rfl ?_
  have s2 : (0 : Int) ≤ a1 ∧ a1 < (8 : Int) := k2
  refine z_iald rfl s2.1 s2.2 dX12_asBefore_9 ?_
  have s3 : -2147483648 ≤ (52 * a2) + σ 142 a1 ∧ (52 * a2) + σ 142 a1 < (2147483648 : Int) := k3
  refine z_iaddN dX12_asBefore_10 s3 ?_
  refine z_istore_n (ls' := [zr 98, zi a1, zi a2, zi ((52 * a2) + σ 142 a1)]) dX12_asBefore_11 rfl (by decide) rfl ?_
  exact k4
set_option maxRecDepth 20000 in
set_option maxHeartbeats 1000000 in
theorem TX12_asBefore_12 {G : zG} {σ : zS} {Q : Int → zS → Prop} {v1 v2 v3 : Int}  (k1 : (0 ≤ v3) → (0 : Int) ≤ v3 ∧ v3 < (10452 : Int)) (k2 : (0 ≤ v3) → (σ 146 v3 = (-1)) → -2147483648 ≤ v3 + (-1) ∧ v3 + (-1) < (2147483648 : Int)) (k3 : (0 ≤ v3) → (σ 146 v3 = (-1)) → zR G MX12_asBefore 12 [zr 98, zi v1, zi v2, zi (v3 + (-1))] [] σ Q) (k4 : (v3 < 0 ∨ (0 ≤ v3 ∧ σ 146 v3 ≠ (-1))) → (0 : Int) ≤ v1 ∧ v1 < (8 : Int)) (k5 : (v3 < 0 ∨ (0 ≤ v3 ∧ σ 146 v3 ≠ (-1))) → (0 ≤ v3) → (0 : Int) ≤ v3 ∧ v3 < (10452 : Int)) (k6 : (v3 < 0 ∨ (0 ≤ v3 ∧ σ 146 v3 ≠ (-1))) → (0 ≤ v3) → -2147483648 ≤ σ 141 v1 * σ 146 v3 ∧ σ 141 v1 * σ 146 v3 < (2147483648 : Int)) (k7 : (v3 < 0 ∨ (0 ≤ v3 ∧ σ 146 v3 ≠ (-1))) → (0 ≤ v3) → -2147483648 ≤ σ 140 v1 + (zdiv (σ 141 v1 * σ 146 v3) 10) ∧ σ 140 v1 + (zdiv (σ 141 v1 * σ 146 v3) 10) < (2147483648 : Int)) (k8 : (v3 < 0 ∨ (0 ≤ v3 ∧ σ 146 v3 ≠ (-1))) → (0 ≤ v3) → Q (σ 140 v1 + (zdiv (σ 141 v1 * σ 146 v3) 10)) σ) (k9 : (v3 < 0 ∨ (0 ≤ v3 ∧ σ 146 v3 ≠ (-1))) → (v3 < 0) → -2147483648 ≤ σ 140 v1 + 0 ∧ σ 140 v1 + 0 < (2147483648 : Int)) (k10 : (v3 < 0 ∨ (0 ≤ v3 ∧ σ 146 v3 ≠ (-1))) → (v3 < 0) → Q (σ 140 v1 + 0) σ) : zR G MX12_asBefore 12 [zr 98, zi v1, zi v2, zi v3] [] σ Q := by
  have J32 : (v3 < 0 ∨ (0 ≤ v3 ∧ σ 146 v3 ≠ (-1))) → zR G MX12_asBefore 32 [zr 98, zi v1, zi v2, zi v3] [] σ Q := by
    intro h3
    refine z_aload_n dX12_asBefore_32 rfl rfl ?_
    refine z_getfR (k := 55) flRX12_139 rfl rfl dX12_asBefore_33 ?_
    refine z_iload_n dX12_asBefore_36 rfl rfl ?_
    have s4 : (0 : Int) ≤ v1 ∧ v1 < (8 : Int) := k4 h3
    refine z_iald rfl s4.1 s4.2 dX12_asBefore_37 ?_
    refine z_iload_n dX12_asBefore_38 rfl rfl ?_
    refine z_if_ge dX12_asBefore_39 (tgt := 46) (by decide) (fun h4 => ?_) (fun h4 => ?_)
    · skip
      refine z_aload_n dX12_asBefore_46 rfl rfl ?_
      refine z_getfR (k := 56) flRX12_142 rfl rfl dX12_asBefore_47 ?_
      refine z_iload_n dX12_asBefore_50 rfl rfl ?_
      refine z_iald rfl s4.1 s4.2 dX12_asBefore_51 ?_
      refine z_aload_n dX12_asBefore_52 rfl rfl ?_
      refine z_getfR (k := 61) flRX12_157 rfl rfl dX12_asBefore_53 ?_
      refine z_iload_n dX12_asBefore_56 rfl rfl ?_
      have s5 : (0 : Int) ≤ v3 ∧ v3 < (10452 : Int) := k5 h3 h4
      refine z_iald rfl s5.1 s5.2 dX12_asBefore_57 ?_
      have s6 : -2147483648 ≤ σ 141 v1 * σ 146 v3 ∧ σ 141 v1 * σ 146 v3 < (2147483648 : Int) := k6 h3 h4
      refine z_imulN dX12_asBefore_58 s6 ?_
      refine z_bipush (x := 10) dX12_asBefore_59 (by decide +kernel) (by unfold zIn; decide) ?_
      refine z_idiv dX12_asBefore_61 (by decide) ?_
      have s7 : -2147483648 ≤ σ 140 v1 + (zdiv (σ 141 v1 * σ 146 v3) 10) ∧ σ 140 v1 + (zdiv (σ 141 v1 * σ 146 v3) 10) < (2147483648 : Int) := k7 h3 h4
      refine z_iaddN dX12_asBefore_62 s7 ?_
      exact z_ireti rfl dX12_asBefore_63 (k8 h3 h4)
    · skip
      refine z_iconst dX12_asBefore_42 (by unfold zIn; decide) ?_
      refine z_goto dX12_asBefore_43 (tgt := 62) (by decide) ?_
      have s9 : -2147483648 ≤ σ 140 v1 + 0 ∧ σ 140 v1 + 0 < (2147483648 : Int) := k9 h3 h4
      refine z_iaddN dX12_asBefore_62 s9 ?_
      exact z_ireti rfl dX12_asBefore_63 (k10 h3 h4)
  refine z_iload_n dX12_asBefore_12 rfl rfl ?_
  refine z_if_lt dX12_asBefore_13 (tgt := 32) (by decide) (fun h1 => ?_) (fun h1 => ?_)
  · skip
    exact J32 (Or.inl h1)
  · skip
    refine z_aload_n dX12_asBefore_16 rfl rfl ?_
    refine z_getfR (k := 61) flRX12_157 rfl rfl dX12_asBefore_17 ?_
    refine z_iload_n dX12_asBefore_20 rfl rfl ?_
    have s1 : (0 : Int) ≤ v3 ∧ v3 < (10452 : Int) := k1 h1
    refine z_iald rfl s1.1 s1.2 dX12_asBefore_21 ?_
    refine z_iconst dX12_asBefore_22 (by unfold zIn; decide) ?_
    refine z_icmp_ne dX12_asBefore_23 (tgt := 32) (by decide) (fun h2 => ?_) (fun h2 => ?_)
    · skip
      exact J32 (Or.inr ⟨h1, h2⟩)
    · skip
      have s2 : -2147483648 ≤ v3 + (-1) ∧ v3 + (-1) < (2147483648 : Int) := k2 h1 h2
      refine z_iincN (ls' := [zr 98, zi v1, zi v2, zi (v3 + (-1))]) dX12_asBefore_26 rfl (by decide) s2 rfl ?_
      refine z_goto dX12_asBefore_29 (tgt := 12) (by decide) ?_
      exact k3 h1 h2
set_option maxRecDepth 20000 in
set_option maxHeartbeats 1000000 in
theorem TX12_rentOf {G : zG} {σ : zS} {Q : Int → zS → Prop} {a1 a2 : Int}  (k1 : zO G MX12_endOf [zr 98, zi a1] σ (fun rr σ' => zR G MX12_rentOf 6 [zr 98, zi a1, zi a2] [zi rr, zi a2] σ' Q)) : zO G MX12_rentOf [zr 98, zi a1, zi a2] σ Q := by
  refine zO_of (ls0 := [zr 98, zi a1, zi a2]) (by decide) (Nat.le_of_ble_eq_true rfl) rfl ?_
  refine z_iload_n dX12_rentOf_0 rfl rfl ?_
  refine z_aload_n dX12_rentOf_1 rfl rfl ?_
  refine z_iload_n dX12_rentOf_2 rfl rfl ?_
  refine z_callv (as := [zi a1]) (st := [zi a2]) mkX12_endOf lkRX12_432 rfl rfl rfl (by decide) (Nat.le_of_ble_eq_true rfl) rfl dX12_rentOf_3 (k1)
set_option maxRecDepth 20000 in
set_option maxHeartbeats 1000000 in
theorem TX12_rentOf_6 {G : zG} {σ : zS} {Q : Int → zS → Prop} {v1 v2 r t1 : Int}  (k1 : (t1 ≤ r) → zO G MX12_asBefore [zr 98, zi v1, zi v2] σ (fun rr σ' => zR G MX12_rentOf 24 [zr 98, zi v1, zi v2] [zi rr] σ' Q)) (k2 : (r < t1) → (0 : Int) ≤ v1 ∧ v1 < (8 : Int)) (k3 : (r < t1) → Q (σ 139 v1) σ) : zR G MX12_rentOf 6 [zr 98, zi v1, zi v2] [zi r, zi t1] σ Q := by
  refine z_icmp_le dX12_rentOf_6 (tgt := 18) (by decide) (fun h1 => ?_) (fun h1 => ?_)
  · skip
    refine z_aload_n dX12_rentOf_18 rfl rfl ?_
    refine z_iload_n dX12_rentOf_19 rfl rfl ?_
    refine z_iload_n dX12_rentOf_20 rfl rfl ?_
    refine z_callv (as := [zi v1, zi v2]) (st := []) mkX12_asBefore lkRX12_435 rfl rfl rfl (by decide) (Nat.le_of_ble_eq_true rfl) rfl dX12_rentOf_21 (k1 h1)
  · skip
    refine z_aload_n dX12_rentOf_9 rfl rfl ?_
    refine z_getfR (k := 54) flRX12_136 rfl rfl dX12_rentOf_10 ?_
    refine z_iload_n dX12_rentOf_13 rfl rfl ?_
    have s2 : (0 : Int) ≤ v1 ∧ v1 < (8 : Int) := k2 h1
    refine z_iald rfl s2.1 s2.2 dX12_rentOf_14 ?_
    refine z_goto dX12_rentOf_15 (tgt := 24) (by decide) ?_
    exact z_ireti rfl dX12_rentOf_24 (k3 h1)
set_option maxRecDepth 20000 in
set_option maxHeartbeats 1000000 in
theorem TX12_rentOf_24 {G : zG} {σ : zS} {Q : Int → zS → Prop} {v1 v2 r : Int}  (k1 : Q r σ) : zR G MX12_rentOf 24 [zr 98, zi v1, zi v2] [zi r] σ Q := by
  exact z_ireti rfl dX12_rentOf_24 (k1)
set_option maxRecDepth 20000 in
set_option maxHeartbeats 1000000 in
theorem TX12_rent {G : zG} {σ : zS} {Q : Int → zS → Prop} {a1 a2 : Int}  (k1 : (0 ≤ a1) → (a1 < σ 98 5) → (0 ≤ a2) → (a2 ≤ 200) → zO G MX12_rentOf [zr 98, zi a1, zi a2] σ (fun rr σ' => zR G MX12_rent 29 [zr 98, zi a1, zi a2] [zi rr] σ' Q)) (k2 : (a1 < 0 ∨ (0 ≤ a1 ∧ σ 98 5 ≤ a1) ∨ (0 ≤ a1 ∧ a1 < σ 98 5 ∧ a2 < 0) ∨ (0 ≤ a1 ∧ a1 < σ 98 5 ∧ 0 ≤ a2 ∧ 200 < a2)) → Q (-1) σ) : zO G MX12_rent [zr 98, zi a1, zi a2] σ Q := by
  refine zO_of (ls0 := [zr 98, zi a1, zi a2]) (by decide) (Nat.le_of_ble_eq_true rfl) rfl ?_
  have J32 : (a1 < 0 ∨ (0 ≤ a1 ∧ σ 98 5 ≤ a1) ∨ (0 ≤ a1 ∧ a1 < σ 98 5 ∧ a2 < 0) ∨ (0 ≤ a1 ∧ a1 < σ 98 5 ∧ 0 ≤ a2 ∧ 200 < a2)) → zR G MX12_rent 32 [zr 98, zi a1, zi a2] [] σ Q := by
    intro h5
    refine z_iconst dX12_rent_32 (by unfold zIn; decide) ?_
    exact z_ireti rfl dX12_rent_33 (k2 h5)
  refine z_iload_n dX12_rent_0 rfl rfl ?_
  refine z_if_lt dX12_rent_1 (tgt := 32) (by decide) (fun h1 => ?_) (fun h1 => ?_)
  · skip
    exact J32 (Or.inl h1)
  · skip
    refine z_iload_n dX12_rent_4 rfl rfl ?_
    refine z_aload_n dX12_rent_5 rfl rfl ?_
    refine z_getfI (k := 5) flRX12_415 rfl rfl dX12_rent_6 ?_
    refine z_icmp_ge dX12_rent_9 (tgt := 32) (by decide) (fun h2 => ?_) (fun h2 => ?_)
    · skip
      exact J32 (Or.inr (Or.inl ⟨h1, h2⟩))
    · skip
      refine z_iload_n dX12_rent_12 rfl rfl ?_
      refine z_if_lt dX12_rent_13 (tgt := 32) (by decide) (fun h3 => ?_) (fun h3 => ?_)
      · skip
        exact J32 (Or.inr (Or.inr (Or.inl ⟨h1, h2, h3⟩)))
      · skip
        refine z_iload_n dX12_rent_16 rfl rfl ?_
        refine z_sipush (x := 200) dX12_rent_17 (by decide +kernel) (by unfold zIn; decide) ?_
        refine z_icmp_gt dX12_rent_20 (tgt := 32) (by decide) (fun h4 => ?_) (fun h4 => ?_)
        · skip
          exact J32 (Or.inr (Or.inr (Or.inr ⟨h1, h2, h3, h4⟩)))
        · skip
          refine z_aload_n dX12_rent_23 rfl rfl ?_
          refine z_iload_n dX12_rent_24 rfl rfl ?_
          refine z_iload_n dX12_rent_25 rfl rfl ?_
          refine z_callv (as := [zi a1, zi a2]) (st := []) mkX12_rentOf lkRX12_438 rfl rfl rfl (by decide) (Nat.le_of_ble_eq_true rfl) rfl dX12_rent_26 (k1 h1 h2 h3 h4)
set_option maxRecDepth 20000 in
set_option maxHeartbeats 1000000 in
theorem TX12_rent_29 {G : zG} {σ : zS} {Q : Int → zS → Prop} {v1 v2 r : Int}  (k1 : Q r σ) : zR G MX12_rent 29 [zr 98, zi v1, zi v2] [zi r] σ Q := by
  refine z_goto dX12_rent_29 (tgt := 33) (by decide) ?_
  exact z_ireti rfl dX12_rent_33 (k1)
set_option maxRecDepth 20000 in
set_option maxHeartbeats 1000000 in
theorem TX12_table {G : zG} {σ : zS} {Q : Int → zS → Prop} {a1 : Int}  (k1 : zO G MX12_wants [zr 98, zi a1] σ (fun rr σ' => zR G MX12_table 5 [zr 98, zi a1, zu, zu, zu] [zi rr] σ' Q)) : zO G MX12_table [zr 98, zi a1] σ Q := by
  refine zO_of (ls0 := [zr 98, zi a1, zu, zu, zu]) (by decide) (Nat.le_of_ble_eq_true rfl) rfl ?_
  refine z_aload_n dX12_table_0 rfl rfl ?_
  refine z_iload_n dX12_table_1 rfl rfl ?_
  refine z_callv (as := [zi a1]) (st := []) mkX12_wants lkRX12_300 rfl rfl rfl (by decide) (Nat.le_of_ble_eq_true rfl) rfl dX12_table_2 (k1)
set_option maxRecDepth 20000 in
set_option maxHeartbeats 1000000 in
theorem TX12_table_5 {G : zG} {σ : zS} {Q : Int → zS → Prop} {v1 r : Int}  (k1 : (r = 0) → zR G MX12_table 18 [zr 98, zi v1, zi r, zi 0, zu] [] σ Q) (k2 : (r ≠ 0) → -2147483648 ≤ -r ∧ -r < (2147483648 : Int)) (k3 : (r ≠ 0) → (0 : Int) ≤ -r ∧ -r < (8 : Int)) (k4 : (r ≠ 0) → Q r (zup σ 157 (-r) (zW ((σ 157 (-r)) + 1)))) : zR G MX12_table 5 [zr 98, zi v1, zu, zu, zu] [zi r] σ Q := by
  refine z_istore_n (ls' := [zr 98, zi v1, zi r, zu, zu]) dX12_table_5 rfl (by decide) rfl ?_
  refine z_iload_n dX12_table_6 rfl rfl ?_
  refine z_if_eq dX12_table_7 (tgt := 16) (by decide) (fun h1 => ?_) (fun h1 => ?_)
  · skip
    refine z_iconst dX12_table_16 (by unfold zIn; decide) ?_
    refine z_istore_n (ls' := [zr 98, zi v1, zi r, zi 0, zu]) dX12_table_17 rfl (by decide) rfl ?_
    exact k1 h1
  · skip
    refine z_aload_n dX12_table_10 rfl rfl ?_
    refine z_iload_n dX12_table_11 rfl rfl ?_
    have s2 : -2147483648 ≤ -r ∧ -r < (2147483648 : Int) := k2 h1
    have s3 : (0 : Int) ≤ -r ∧ -r < (8 : Int) := k3 h1
    refine z_callv (as := [zi r]) (st := []) mkX12_no lkRX12_267 rfl rfl rfl (by decide) (Nat.le_of_ble_eq_true rfl) rfl dX12_table_12 ?_
    refine SX12_no s2 s3 ?_
    show zR G MX12_table 15 [zr 98, zi v1, zi r, zu, zu] [zi r] (zup σ 157 (-r) (zW ((σ 157 (-r)) + 1))) Q
    exact z_ireti rfl dX12_table_15 (k4 h1)
set_option maxRecDepth 20000 in
set_option maxHeartbeats 1000000 in
theorem TX12_table_18 {G : zG} {σ : zS} {Q : Int → zS → Prop} {v1 v2 v3 : Int}  (k1 : (0 : Int) ≤ v1 ∧ v1 < (10 : Int)) (k2 : (σ 113 v1 ≤ v3) → zR G MX12_table 80 [zr 98, zi v1, zi v2, zi 0, zu] [] (zup σ 98 63 (σ 113 v1)) Q) (k3 : (v3 < σ 113 v1) → -2147483648 ≤ 80 * v1 ∧ 80 * v1 < (2147483648 : Int)) (k4 : (v3 < σ 113 v1) → -2147483648 ≤ (80 * v1) + v3 ∧ (80 * v1) + v3 < (2147483648 : Int)) (k5 : (v3 < σ 113 v1) → (0 : Int) ≤ (80 * v1) + v3 ∧ (80 * v1) + v3 < (800 : Int)) (k6 : (v3 < σ 113 v1) → (0 ≤ zW (σ 115 ((80 * v1) + v3))) → (zW (σ 115 ((80 * v1) + v3)) ≤ 10000) → -2147483648 ≤ v3 + 1 ∧ v3 + 1 < (2147483648 : Int)) (k7 : (v3 < σ 113 v1) → (0 ≤ zW (σ 115 ((80 * v1) + v3))) → (zW (σ 115 ((80 * v1) + v3)) ≤ 10000) → zR G MX12_table 18 [zr 98, zi v1, zi v2, zi (v3 + 1), zu] [] σ Q) (k8 : (v3 < σ 113 v1) → (zW (σ 115 ((80 * v1) + v3)) < 0 ∨ (0 ≤ zW (σ 115 ((80 * v1) + v3)) ∧ 10000 < zW (σ 115 ((80 * v1) + v3)))) → -2147483648 ≤ -(-6) ∧ -(-6) < (2147483648 : Int)) (k9 : (v3 < σ 113 v1) → (zW (σ 115 ((80 * v1) + v3)) < 0 ∨ (0 ≤ zW (σ 115 ((80 * v1) + v3)) ∧ 10000 < zW (σ 115 ((80 * v1) + v3)))) → (0 : Int) ≤ -(-6) ∧ -(-6) < (8 : Int)) (k10 : (v3 < σ 113 v1) → (zW (σ 115 ((80 * v1) + v3)) < 0 ∨ (0 ≤ zW (σ 115 ((80 * v1) + v3)) ∧ 10000 < zW (σ 115 ((80 * v1) + v3)))) → Q (-6) (zup σ 157 (-(-6)) (zW ((σ 157 (-(-6))) + 1)))) : zR G MX12_table 18 [zr 98, zi v1, zi v2, zi v3, zu] [] σ Q := by
  have J55 : (v3 < σ 113 v1) → (zW (σ 115 ((80 * v1) + v3)) < 0 ∨ (0 ≤ zW (σ 115 ((80 * v1) + v3)) ∧ 10000 < zW (σ 115 ((80 * v1) + v3)))) → zR G MX12_table 55 [zr 98, zi v1, zi v2, zi v3, zi (zW (σ 115 ((80 * v1) + v3)))] [] σ Q := by
    intro h1 h4
    refine z_aload_n dX12_table_55 rfl rfl ?_
    refine z_bipush (x := (-6)) dX12_table_56 (by decide +kernel) (by unfold zIn; decide) ?_
    have s8 : -2147483648 ≤ -(-6) ∧ -(-6) < (2147483648 : Int) := k8 h1 h4
    have s9 : (0 : Int) ≤ -(-6) ∧ -(-6) < (8 : Int) := k9 h1 h4
    refine z_callv (as := [zi (-6)]) (st := []) mkX12_no lkRX12_267 rfl rfl rfl (by decide) (Nat.le_of_ble_eq_true rfl) rfl dX12_table_58 ?_
    refine SX12_no s8 s9 ?_
    show zR G MX12_table 61 [zr 98, zi v1, zi v2, zi v3, zi (zW (σ 115 ((80 * v1) + v3)))] [zi (-6)] (zup σ 157 (-(-6)) (zW ((σ 157 (-(-6))) + 1))) Q
    exact z_ireti rfl dX12_table_61 (k10 h1 h4)
  refine z_iload_n dX12_table_18 rfl rfl ?_
  refine z_aload_n dX12_table_19 rfl rfl ?_
  refine z_getfR (k := 27) flRX12_57 rfl rfl dX12_table_20 ?_
  refine z_iload_n dX12_table_23 rfl rfl ?_
  have s1 : (0 : Int) ≤ v1 ∧ v1 < (10 : Int) := k1
  refine z_iald rfl s1.1 s1.2 dX12_table_24 ?_
  refine z_icmp_ge dX12_table_25 (tgt := 68) (by decide) (fun h1 => ?_) (fun h1 => ?_)
  · skip
    refine z_aload_n dX12_table_68 rfl rfl ?_
    refine z_aload_n dX12_table_69 rfl rfl ?_
    refine z_getfR (k := 27) flRX12_57 rfl rfl dX12_table_70 ?_
    refine z_iload_n dX12_table_73 rfl rfl ?_
    refine z_iald rfl s1.1 s1.2 dX12_table_74 ?_
    refine z_putI (k := 63) fpRX12_441 rfl rfl dX12_table_75 ?_
    refine z_iconst dX12_table_78 (by unfold zIn; decide) ?_
    refine z_istore_n (ls' := [zr 98, zi v1, zi v2, zi 0, zu]) dX12_table_79 rfl (by decide) rfl ?_
    exact k2 h1
  · skip
    refine z_aload_n dX12_table_28 rfl rfl ?_
    refine z_getfR (k := 29) flRX12_63 rfl rfl dX12_table_29 ?_
    refine z_bipush (x := 80) dX12_table_32 (by decide +kernel) (by unfold zIn; decide) ?_
    refine z_iload_n dX12_table_34 rfl rfl ?_
    have s3 : -2147483648 ≤ 80 * v1 ∧ 80 * v1 < (2147483648 : Int) := k3 h1
    refine z_imulN dX12_table_35 s3 ?_
    refine z_iload_n dX12_table_36 rfl rfl ?_
    have s4 : -2147483648 ≤ (80 * v1) + v3 ∧ (80 * v1) + v3 < (2147483648 : Int) := k4 h1
    refine z_iaddN dX12_table_37 s4 ?_
    have s5 : (0 : Int) ≤ (80 * v1) + v3 ∧ (80 * v1) + v3 < (800 : Int) := k5 h1
    refine z_lald rfl s5.1 s5.2 dX12_table_38 ?_
    refine z_l2i dX12_table_39 ?_
    refine z_istore (ls' := [zr 98, zi v1, zi v2, zi v3, zi (zW (σ 115 ((80 * v1) + v3)))]) dX12_table_40 (by decide) rfl ?_
    refine z_iload dX12_table_42 rfl ?_
    refine z_if_lt dX12_table_44 (tgt := 55) (by decide) (fun h2 => ?_) (fun h2 => ?_)
    · skip
      exact J55 h1 (Or.inl h2)
    · skip
      refine z_iload dX12_table_47 rfl ?_
      refine z_sipush (x := 10000) dX12_table_49 (by decide +kernel) (by unfold zIn; decide) ?_
      refine z_icmp_le dX12_table_52 (tgt := 62) (by decide) (fun h3 => ?_) (fun h3 => ?_)
      · skip
        have s6 : -2147483648 ≤ v3 + 1 ∧ v3 + 1 < (2147483648 : Int) := k6 h1 h2 h3
        refine z_iincN (ls' := [zr 98, zi v1, zi v2, zi (v3 + 1), zi (zW (σ 115 ((80 * v1) + v3)))]) dX12_table_62 rfl (by decide) s6 rfl ?_
        refine z_goto dX12_table_65 (tgt := 18) (by decide) ?_
        exact zR_fg [false, false, false, false, true] (k7 h1 h2 h3)
      · skip
        exact J55 h1 (Or.inr ⟨h2, h3⟩)
set_option maxRecDepth 20000 in
set_option maxHeartbeats 1000000 in
theorem TX12_table_80 {G : zG} {σ : zS} {Q : Int → zS → Prop} {v1 v2 v3 : Int}  (k1 : (σ 98 63 ≤ v3) → Q (σ 98 63) σ) (k2 : (v3 < σ 98 63) → -2147483648 ≤ 80 * v1 ∧ 80 * v1 < (2147483648 : Int)) (k3 : (v3 < σ 98 63) → -2147483648 ≤ (80 * v1) + v3 ∧ (80 * v1) + v3 < (2147483648 : Int)) (k4 : (v3 < σ 98 63) → (0 : Int) ≤ (80 * v1) + v3 ∧ (80 * v1) + v3 < (800 : Int)) (k5 : (v3 < σ 98 63) → (0 : Int) ≤ v3 ∧ v3 < (80 : Int)) (k6 : (v3 < σ 98 63) → -2147483648 ≤ v3 + 1 ∧ v3 + 1 < (2147483648 : Int)) (k7 : (v3 < σ 98 63) → zR G MX12_table 80 [zr 98, zi v1, zi v2, zi (v3 + 1), zu] [] (zup σ 147 v3 (zW (σ 115 ((80 * v1) + v3)))) Q) : zR G MX12_table 80 [zr 98, zi v1, zi v2, zi v3, zu] [] σ Q := by
  refine z_iload_n dX12_table_80 rfl rfl ?_
  refine z_aload_n dX12_table_81 rfl rfl ?_
  refine z_getfI (k := 63) flRX12_441 rfl rfl dX12_table_82 ?_
  refine z_icmp_ge dX12_table_85 (tgt := 112) (by decide) (fun h1 => ?_) (fun h1 => ?_)
  · skip
    refine z_aload_n dX12_table_112 rfl rfl ?_
    refine z_getfI (k := 63) flRX12_441 rfl rfl dX12_table_113 ?_
    exact z_ireti rfl dX12_table_116 (k1 h1)
  · skip
    refine z_aload_n dX12_table_88 rfl rfl ?_
    refine z_getfR (k := 62) flRX12_160 rfl rfl dX12_table_89 ?_
    refine z_iload_n dX12_table_92 rfl rfl ?_
    refine z_aload_n dX12_table_93 rfl rfl ?_
    refine z_getfR (k := 29) flRX12_63 rfl rfl dX12_table_94 ?_
    refine z_bipush (x := 80) dX12_table_97 (by decide +kernel) (by unfold zIn; decide) ?_
    refine z_iload_n dX12_table_99 rfl rfl ?_
    have s2 : -2147483648 ≤ 80 * v1 ∧ 80 * v1 < (2147483648 : Int) := k2 h1
    refine z_imulN dX12_table_100 s2 ?_
    refine z_iload_n dX12_table_101 rfl rfl ?_
    have s3 : -2147483648 ≤ (80 * v1) + v3 ∧ (80 * v1) + v3 < (2147483648 : Int) := k3 h1
    refine z_iaddN dX12_table_102 s3 ?_
    have s4 : (0 : Int) ≤ (80 * v1) + v3 ∧ (80 * v1) + v3 < (800 : Int) := k4 h1
    refine z_lald rfl s4.1 s4.2 dX12_table_103 ?_
    refine z_l2i dX12_table_104 ?_
    have s5 : (0 : Int) ≤ v3 ∧ v3 < (80 : Int) := k5 h1
    refine z_iast rfl s5.1 s5.2 dX12_table_105 ?_
    have s6 : -2147483648 ≤ v3 + 1 ∧ v3 + 1 < (2147483648 : Int) := k6 h1
    refine z_iincN (ls' := [zr 98, zi v1, zi v2, zi (v3 + 1), zu]) dX12_table_106 rfl (by decide) s6 rfl ?_
    refine z_goto dX12_table_109 (tgt := 80) (by decide) ?_
    exact k7 h1
set_option maxRecDepth 20000 in
set_option maxHeartbeats 1000000 in
theorem TX12_tableAt {G : zG} {σ : zS} {Q : Int → zS → Prop} {a1 : Int}  (k1 : (σ 98 63 ≠ 0) → (σ 98 63 ≤ a1) → -2147483648 ≤ σ 98 63 - 1 ∧ σ 98 63 - 1 < (2147483648 : Int)) (k2 : (σ 98 63 ≠ 0) → (σ 98 63 ≤ a1) → (0 : Int) ≤ σ 98 63 - 1 ∧ σ 98 63 - 1 < (80 : Int)) (k3 : (σ 98 63 ≠ 0) → (σ 98 63 ≤ a1) → Q (σ 147 (σ 98 63 - 1)) σ) (k4 : (σ 98 63 ≠ 0) → (a1 < σ 98 63) → (0 : Int) ≤ a1 ∧ a1 < (80 : Int)) (k5 : (σ 98 63 ≠ 0) → (a1 < σ 98 63) → Q (σ 147 a1) σ) (k6 : (σ 98 63 = 0) → Q 0 σ) : zO G MX12_tableAt [zr 98, zi a1] σ Q := by
  refine zO_of (ls0 := [zr 98, zi a1]) (by decide) (Nat.le_of_ble_eq_true rfl) rfl ?_
  refine z_aload_n dX12_tableAt_0 rfl rfl ?_
  refine z_getfI (k := 63) flRX12_441 rfl rfl dX12_tableAt_1 ?_
  refine z_if_ne dX12_tableAt_4 (tgt := 11) (by decide) (fun h1 => ?_) (fun h1 => ?_)
  · skip
    refine z_aload_n dX12_tableAt_11 rfl rfl ?_
    refine z_getfR (k := 62) flRX12_160 rfl rfl dX12_tableAt_12 ?_
    refine z_iload_n dX12_tableAt_15 rfl rfl ?_
    refine z_aload_n dX12_tableAt_16 rfl rfl ?_
    refine z_getfI (k := 63) flRX12_441 rfl rfl dX12_tableAt_17 ?_
    refine z_icmp_ge dX12_tableAt_20 (tgt := 27) (by decide) (fun h2 => ?_) (fun h2 => ?_)
    · skip
      refine z_aload_n dX12_tableAt_27 rfl rfl ?_
      refine z_getfI (k := 63) flRX12_441 rfl rfl dX12_tableAt_28 ?_
      refine z_iconst dX12_tableAt_31 (by unfold zIn; decide) ?_
      have s1 : -2147483648 ≤ σ 98 63 - 1 ∧ σ 98 63 - 1 < (2147483648 : Int) := k1 h1 h2
      refine z_isubN dX12_tableAt_32 s1 ?_
      have s2 : (0 : Int) ≤ σ 98 63 - 1 ∧ σ 98 63 - 1 < (80 : Int) := k2 h1 h2
      refine z_iald rfl s2.1 s2.2 dX12_tableAt_33 ?_
      exact z_ireti rfl dX12_tableAt_34 (k3 h1 h2)
    · skip
      refine z_iload_n dX12_tableAt_23 rfl rfl ?_
      refine z_goto dX12_tableAt_24 (tgt := 33) (by decide) ?_
      have s4 : (0 : Int) ≤ a1 ∧ a1 < (80 : Int) := k4 h1 h2
      refine z_iald rfl s4.1 s4.2 dX12_tableAt_33 ?_
      exact z_ireti rfl dX12_tableAt_34 (k5 h1 h2)
  · skip
    refine z_iconst dX12_tableAt_7 (by unfold zIn; decide) ?_
    refine z_goto dX12_tableAt_8 (tgt := 34) (by decide) ?_
    exact z_ireti rfl dX12_tableAt_34 (k6 h1)
set_option maxRecDepth 20000 in
set_option maxHeartbeats 1000000 in
theorem TX12_fine {G : zG} {σ : zS} {Q : Int → zS → Prop} {a1 a2 : Int}  (k1 : (0 : Int) ≤ a1 ∧ a1 < (8 : Int)) (k2 : zO G MX12_tableAt [zr 98, zi (σ 143 a1)] σ (fun rr σ' => zR G MX12_fine 16 [zr 98, zi a1, zi a2, zu] [zi rr, zi (σ 139 a1)] σ' Q)) : zO G MX12_fine [zr 98, zi a1, zi a2] σ Q := by
  refine zO_of (ls0 := [zr 98, zi a1, zi a2, zu]) (by decide) (Nat.le_of_ble_eq_true rfl) rfl ?_
  refine z_aload_n dX12_fine_0 rfl rfl ?_
  refine z_getfR (k := 54) flRX12_136 rfl rfl dX12_fine_1 ?_
  refine z_iload_n dX12_fine_4 rfl rfl ?_
  have s1 : (0 : Int) ≤ a1 ∧ a1 < (8 : Int) := k1
  refine z_iald rfl s1.1 s1.2 dX12_fine_5 ?_
  refine z_aload_n dX12_fine_6 rfl rfl ?_
  refine z_aload_n dX12_fine_7 rfl rfl ?_
  refine z_getfR (k := 58) flRX12_148 rfl rfl dX12_fine_8 ?_
  refine z_iload_n dX12_fine_11 rfl rfl ?_
  refine z_iald rfl s1.1 s1.2 dX12_fine_12 ?_
  refine z_callv (as := [zi (σ 143 a1)]) (st := [zi (σ 139 a1)]) mkX12_tableAt lkRX12_444 rfl rfl rfl (by decide) (Nat.le_of_ble_eq_true rfl) rfl dX12_fine_13 (k2)
set_option maxRecDepth 20000 in
set_option maxHeartbeats 1000000 in
theorem TX12_fine_16 {G : zG} {σ : zS} {Q : Int → zS → Prop} {v1 v2 r t1 : Int}  (k1 : zO G MX12_tableAt [zr 98, zi v2] σ (fun rr σ' => zR G MX12_fine 21 [zr 98, zi v1, zi v2, zu] [zi rr, zi r, zi t1] σ' Q)) : zR G MX12_fine 16 [zr 98, zi v1, zi v2, zu] [zi r, zi t1] σ Q := by
  refine z_aload_n dX12_fine_16 rfl rfl ?_
  refine z_iload_n dX12_fine_17 rfl rfl ?_
  refine z_callv (as := [zi v2]) (st := [zi r, zi t1]) mkX12_tableAt lkRX12_444 rfl rfl rfl (by decide) (Nat.le_of_ble_eq_true rfl) rfl dX12_fine_18 (k1)
set_option maxRecDepth 20000 in
set_option maxHeartbeats 1000000 in
theorem TX12_fine_21 {G : zG} {σ : zS} {Q : Int → zS → Prop} {v1 v2 r t1 t2 : Int}  (k1 : -2147483648 ≤ t1 - r ∧ t1 - r < (2147483648 : Int)) (k2 : -2147483648 ≤ t2 * (t1 - r) ∧ t2 * (t1 - r) < (2147483648 : Int)) (k3 : (0 ≤ zdiv (t2 * (t1 - r)) 100) → Q (zdiv (t2 * (t1 - r)) 100) σ) (k4 : (zdiv (t2 * (t1 - r)) 100 < 0) → Q 0 σ) : zR G MX12_fine 21 [zr 98, zi v1, zi v2, zu] [zi r, zi t1, zi t2] σ Q := by
  have s1 : -2147483648 ≤ t1 - r ∧ t1 - r < (2147483648 : Int) := k1
  refine z_isubN dX12_fine_21 s1 ?_
  have s2 : -2147483648 ≤ t2 * (t1 - r) ∧ t2 * (t1 - r) < (2147483648 : Int) := k2
  refine z_imulN dX12_fine_22 s2 ?_
  refine z_bipush (x := 100) dX12_fine_23 (by decide +kernel) (by unfold zIn; decide) ?_
  refine z_idiv dX12_fine_25 (by decide) ?_
  refine z_istore_n (ls' := [zr 98, zi v1, zi v2, zi (zdiv (t2 * (t1 - r)) 100)]) dX12_fine_26 rfl (by decide) rfl ?_
  refine z_iload_n dX12_fine_27 rfl rfl ?_
  refine z_if_ge dX12_fine_28 (tgt := 35) (by decide) (fun h1 => ?_) (fun h1 => ?_)
  · skip
    refine z_iload_n dX12_fine_35 rfl rfl ?_
    exact z_ireti rfl dX12_fine_36 (k3 h1)
  · skip
    refine z_iconst dX12_fine_31 (by unfold zIn; decide) ?_
    refine z_goto dX12_fine_32 (tgt := 36) (by decide) ?_
    exact z_ireti rfl dX12_fine_36 (k4 h1)
set_option maxRecDepth 20000 in
set_option maxHeartbeats 1000000 in
theorem TX12_renew {G : zG} {σ : zS} {Q : Int → zS → Prop} {a1 : Int}  (k1 : (0 ≤ a1) → (a1 < σ 98 5) → (0 : Int) ≤ a1 ∧ a1 < (8 : Int)) (k2 : (0 ≤ a1) → (a1 < σ 98 5) → (σ 145 a1 = 0) → (zdiv (σ 98 0) 365 ≤ σ 144 a1) → (σ 98 7 ≠ 400) → -2147483648 ≤ σ 144 a1 - zdiv (σ 98 0) 365 ∧ σ 144 a1 - zdiv (σ 98 0) 365 < (2147483648 : Int)) (k3 : (0 ≤ a1) → (a1 < σ 98 5) → (σ 145 a1 = 0) → (zdiv (σ 98 0) 365 ≤ σ 144 a1) → (σ 98 7 ≠ 400) → zO G MX12_fine [zr 98, zi a1, zi (σ 144 a1 - zdiv (σ 98 0) 365)] σ (fun rr σ' => zR G MX12_renew 80 [zr 98, zi a1, zu] [zi rr] σ' Q)) (k4 : (0 ≤ a1) → (a1 < σ 98 5) → (σ 145 a1 = 0) → (zdiv (σ 98 0) 365 ≤ σ 144 a1) → (σ 98 7 = 400) → -2147483648 ≤ -(-7) ∧ -(-7) < (2147483648 : Int)) (k5 : (0 ≤ a1) → (a1 < σ 98 5) → (σ 145 a1 = 0) → (zdiv (σ 98 0) 365 ≤ σ 144 a1) → (σ 98 7 = 400) → (0 : Int) ≤ -(-7) ∧ -(-7) < (8 : Int)) (k6 : (0 ≤ a1) → (a1 < σ 98 5) → (σ 145 a1 = 0) → (zdiv (σ 98 0) 365 ≤ σ 144 a1) → (σ 98 7 = 400) → Q (-7) (zup σ 157 (-(-7)) (zW ((σ 157 (-(-7))) + 1)))) (k7 : (a1 < 0 ∨ (0 ≤ a1 ∧ σ 98 5 ≤ a1)) → -2147483648 ≤ -(-1) ∧ -(-1) < (2147483648 : Int)) (k8 : (a1 < 0 ∨ (0 ≤ a1 ∧ σ 98 5 ≤ a1)) → (0 : Int) ≤ -(-1) ∧ -(-1) < (8 : Int)) (k9 : (a1 < 0 ∨ (0 ≤ a1 ∧ σ 98 5 ≤ a1)) → Q (-1) (zup σ 157 (-(-1)) (zW ((σ 157 (-(-1))) + 1)))) (k10 : (0 ≤ a1) → (a1 < σ 98 5) → (σ 145 a1 ≠ 0 ∨ (σ 145 a1 = 0 ∧ σ 144 a1 < zdiv (σ 98 0) 365)) → -2147483648 ≤ -(-6) ∧ -(-6) < (2147483648 : Int)) (k11 : (0 ≤ a1) → (a1 < σ 98 5) → (σ 145 a1 ≠ 0 ∨ (σ 145 a1 = 0 ∧ σ 144 a1 < zdiv (σ 98 0) 365)) → (0 : Int) ≤ -(-6) ∧ -(-6) < (8 : Int)) (k12 : (0 ≤ a1) → (a1 < σ 98 5) → (σ 145 a1 ≠ 0 ∨ (σ 145 a1 = 0 ∧ σ 144 a1 < zdiv (σ 98 0) 365)) → Q (-6) (zup σ 157 (-(-6)) (zW ((σ 157 (-(-6))) + 1)))) : zO G MX12_renew [zr 98, zi a1] σ Q := by
  refine zO_of (ls0 := [zr 98, zi a1, zu]) (by decide) (Nat.le_of_ble_eq_true rfl) rfl ?_
  have J40 : (0 ≤ a1) → (a1 < σ 98 5) → (σ 145 a1 ≠ 0 ∨ (σ 145 a1 = 0 ∧ σ 144 a1 < zdiv (σ 98 0) 365)) → zR G MX12_renew 40 [zr 98, zi a1, zu] [] σ Q := by
    intro h1 h2 h7
    refine z_aload_n dX12_renew_40 rfl rfl ?_
    refine z_bipush (x := (-6)) dX12_renew_41 (by decide +kernel) (by unfold zIn; decide) ?_
    have s10 : -2147483648 ≤ -(-6) ∧ -(-6) < (2147483648 : Int) := k10 h1 h2 h7
    have s11 : (0 : Int) ≤ -(-6) ∧ -(-6) < (8 : Int) := k11 h1 h2 h7
    refine z_callv (as := [zi (-6)]) (st := []) mkX12_no lkRX12_267 rfl rfl rfl (by decide) (Nat.le_of_ble_eq_true rfl) rfl dX12_renew_43 ?_
    refine SX12_no s10 s11 ?_
    show zR G MX12_renew 46 [zr 98, zi a1, zu] [zi (-6)] (zup σ 157 (-(-6)) (zW ((σ 157 (-(-6))) + 1))) Q
    exact z_ireti rfl dX12_renew_46 (k12 h1 h2 h7)
  have J12 : (a1 < 0 ∨ (0 ≤ a1 ∧ σ 98 5 ≤ a1)) → zR G MX12_renew 12 [zr 98, zi a1, zu] [] σ Q := by
    intro h6
    refine z_aload_n dX12_renew_12 rfl rfl ?_
    refine z_iconst dX12_renew_13 (by unfold zIn; decide) ?_
    have s7 : -2147483648 ≤ -(-1) ∧ -(-1) < (2147483648 : Int) := k7 h6
    have s8 : (0 : Int) ≤ -(-1) ∧ -(-1) < (8 : Int) := k8 h6
    refine z_callv (as := [zi (-1)]) (st := []) mkX12_no lkRX12_267 rfl rfl rfl (by decide) (Nat.le_of_ble_eq_true rfl) rfl dX12_renew_14 ?_
    refine SX12_no s7 s8 ?_
    show zR G MX12_renew 17 [zr 98, zi a1, zu] [zi (-1)] (zup σ 157 (-(-1)) (zW ((σ 157 (-(-1))) + 1))) Q
    exact z_ireti rfl dX12_renew_17 (k9 h6)
  refine z_iload_n dX12_renew_0 rfl rfl ?_
  refine z_if_lt dX12_renew_1 (tgt := 12) (by decide) (fun h1 => ?_) (fun h1 => ?_)
  · skip
    exact J12 (Or.inl h1)
  · skip
    refine z_iload_n dX12_renew_4 rfl rfl ?_
    refine z_aload_n dX12_renew_5 rfl rfl ?_
    refine z_getfI (k := 5) flRX12_415 rfl rfl dX12_renew_6 ?_
    refine z_icmp_lt dX12_renew_9 (tgt := 18) (by decide) (fun h2 => ?_) (fun h2 => ?_)
    · skip
      refine z_aload_n dX12_renew_18 rfl rfl ?_
      refine z_getfR (k := 60) flRX12_154 rfl rfl dX12_renew_19 ?_
      refine z_iload_n dX12_renew_22 rfl rfl ?_
      have s1 : (0 : Int) ≤ a1 ∧ a1 < (8 : Int) := k1 h1 h2
      refine z_iald rfl s1.1 s1.2 dX12_renew_23 ?_
      refine z_if_ne dX12_renew_24 (tgt := 40) (by decide) (fun h3 => ?_) (fun h3 => ?_)
      · skip
        exact J40 h1 h2 (Or.inl h3)
      · skip
        refine z_aload_n dX12_renew_27 rfl rfl ?_
        refine z_getfR (k := 59) flRX12_151 rfl rfl dX12_renew_28 ?_
        refine z_iload_n dX12_renew_31 rfl rfl ?_
        refine z_iald rfl s1.1 s1.2 dX12_renew_32 ?_
        refine z_aload_n dX12_renew_33 rfl rfl ?_
        refine z_callv (as := []) (st := [zi (σ 144 a1)]) mkX12_year lkRX12_450 rfl rfl rfl (by decide) (Nat.le_of_ble_eq_true rfl) rfl dX12_renew_34 ?_
        refine SX12_year ?_
        show zR G MX12_renew 37 [zr 98, zi a1, zu] [zi (zdiv (σ 98 0) 365), zi (σ 144 a1)] σ Q
        refine z_icmp_ge dX12_renew_37 (tgt := 47) (by decide) (fun h4 => ?_) (fun h4 => ?_)
        · skip
          refine z_aload_n dX12_renew_47 rfl rfl ?_
          refine z_getfI (k := 7) flRX12_447 rfl rfl dX12_renew_48 ?_
          refine z_sipush (x := 400) dX12_renew_51 (by decide +kernel) (by unfold zIn; decide) ?_
          refine z_icmp_ne dX12_renew_54 (tgt := 64) (by decide) (fun h5 => ?_) (fun h5 => ?_)
          · skip
            refine z_aload_n dX12_renew_64 rfl rfl ?_
            refine z_iload_n dX12_renew_65 rfl rfl ?_
            refine z_aload_n dX12_renew_66 rfl rfl ?_
            refine z_getfR (k := 59) flRX12_151 rfl rfl dX12_renew_67 ?_
            refine z_iload_n dX12_renew_70 rfl rfl ?_
            refine z_iald rfl s1.1 s1.2 dX12_renew_71 ?_
            refine z_aload_n dX12_renew_72 rfl rfl ?_
            refine z_callv (as := []) (st := [zi (σ 144 a1), zi a1, zr 98]) mkX12_year lkRX12_450 rfl rfl rfl (by decide) (Nat.le_of_ble_eq_true rfl) rfl dX12_renew_73 ?_
            refine SX12_year ?_
            show zR G MX12_renew 76 [zr 98, zi a1, zu] [zi (zdiv (σ 98 0) 365), zi (σ 144 a1), zi a1, zr 98] σ Q
            have s2 : -2147483648 ≤ σ 144 a1 - zdiv (σ 98 0) 365 ∧ σ 144 a1 - zdiv (σ 98 0) 365 < (2147483648 : Int) := k2 h1 h2 h3 h4 h5
            refine z_isubN dX12_renew_76 s2 ?_
            refine z_callv (as := [zi a1, zi (σ 144 a1 - zdiv (σ 98 0) 365)]) (st := []) mkX12_fine lkRX12_456 rfl rfl rfl (by decide) (Nat.le_of_ble_eq_true rfl) rfl dX12_renew_77 (k3 h1 h2 h3 h4 h5)
          · skip
            refine z_aload_n dX12_renew_57 rfl rfl ?_
            refine z_bipush (x := (-7)) dX12_renew_58 (by decide +kernel) (by unfold zIn; decide) ?_
            have s4 : -2147483648 ≤ -(-7) ∧ -(-7) < (2147483648 : Int) := k4 h1 h2 h3 h4 h5
            have s5 : (0 : Int) ≤ -(-7) ∧ -(-7) < (8 : Int) := k5 h1 h2 h3 h4 h5
            refine z_callv (as := [zi (-7)]) (st := []) mkX12_no lkRX12_267 rfl rfl rfl (by decide) (Nat.le_of_ble_eq_true rfl) rfl dX12_renew_60 ?_
            refine SX12_no s4 s5 ?_
            show zR G MX12_renew 63 [zr 98, zi a1, zu] [zi (-7)] (zup σ 157 (-(-7)) (zW ((σ 157 (-(-7))) + 1))) Q
            exact z_ireti rfl dX12_renew_63 (k6 h1 h2 h3 h4 h5)
        · skip
          exact J40 h1 h2 (Or.inr ⟨h3, h4⟩)
    · skip
      exact J12 (Or.inr ⟨h1, h2⟩)
set_option maxRecDepth 20000 in
set_option maxHeartbeats 1000000 in
theorem TX12_renew_80 {G : zG} {σ : zS} {Q : Int → zS → Prop} {v1 r : Int}  (k1 : (0 : Int) ≤ σ 98 7 ∧ σ 98 7 < (400 : Int)) (k2 : -2147483648 ≤ σ 98 7 + 1 ∧ σ 98 7 + 1 < (2147483648 : Int)) (k3 : -2147483648 ≤ σ 98 8 + r ∧ σ 98 8 + r < (2147483648 : Int)) (k4 : (0 : Int) ≤ v1 ∧ v1 < (8 : Int)) (k5 : -2147483648 ≤ (zdiv ((zup (zup (zup (zup (zup σ 148 (σ 98 7) (zdiv (σ 98 0) 365)) 149 (σ 98 7) 1) 98 7 (σ 98 7 + 1)) 150 (σ 98 7) r) 98 8 (σ 98 8 + r)) 98 0) 365) + σ 143 v1 ∧ (zdiv ((zup (zup (zup (zup (zup σ 148 (σ 98 7) (zdiv (σ 98 0) 365)) 149 (σ 98 7) 1) 98 7 (σ 98 7 + 1)) 150 (σ 98 7) r) 98 8 (σ 98 8 + r)) 98 0) 365) + σ 143 v1 < (2147483648 : Int)) (k6 : Q r (zup (zup (zup (zup (zup (zup σ 148 (σ 98 7) (zdiv (σ 98 0) 365)) 149 (σ 98 7) 1) 98 7 (σ 98 7 + 1)) 150 (σ 98 7) r) 98 8 (σ 98 8 + r)) 144 v1 ((zdiv ((zup (zup (zup (zup (zup σ 148 (σ 98 7) (zdiv (σ 98 0) 365)) 149 (σ 98 7) 1) 98 7 (σ 98 7 + 1)) 150 (σ 98 7) r) 98 8 (σ 98 8 + r)) 98 0) 365) + σ 143 v1))) : zR G MX12_renew 80 [zr 98, zi v1, zu] [zi r] σ Q := by
  refine z_istore_n (ls' := [zr 98, zi v1, zi r]) dX12_renew_80 rfl (by decide) rfl ?_
  refine z_aload_n dX12_renew_81 rfl rfl ?_
  refine z_iconst dX12_renew_82 (by unfold zIn; decide) ?_
  refine z_iload_n dX12_renew_83 rfl rfl ?_
  have s1 : (0 : Int) ≤ σ 98 7 ∧ σ 98 7 < (400 : Int) := k1
  have s2 : -2147483648 ≤ σ 98 7 + 1 ∧ σ 98 7 + 1 < (2147483648 : Int) := k2
  have s3 : -2147483648 ≤ σ 98 8 + r ∧ σ 98 8 + r < (2147483648 : Int) := k3
  refine z_callv (as := [zi 1, zi r]) (st := []) mkX12_enters lkRX12_459 rfl rfl rfl (by decide) (Nat.le_of_ble_eq_true rfl) rfl dX12_renew_84 ?_
  refine SX12_enters s1 s2 s3 ?_
  show zR G MX12_renew 87 [zr 98, zi v1, zi r] [] (zup (zup (zup (zup (zup σ 148 (σ 98 7) (zdiv (σ 98 0) 365)) 149 (σ 98 7) 1) 98 7 (σ 98 7 + 1)) 150 (σ 98 7) r) 98 8 (σ 98 8 + r)) Q
  refine z_aload_n dX12_renew_87 rfl rfl ?_
  refine z_getfR (k := 59) flRX12_151 rfl rfl dX12_renew_88 ?_
  refine z_iload_n dX12_renew_91 rfl rfl ?_
  refine z_aload_n dX12_renew_92 rfl rfl ?_
  refine z_callv (as := []) (st := [zi v1, zr 144]) mkX12_year lkRX12_450 rfl rfl rfl (by decide) (Nat.le_of_ble_eq_true rfl) rfl dX12_renew_93 ?_
  refine SX12_year ?_
  show zR G MX12_renew 96 [zr 98, zi v1, zi r] [zi (zdiv ((zup (zup (zup (zup (zup σ 148 (σ 98 7) (zdiv (σ 98 0) 365)) 149 (σ 98 7) 1) 98 7 (σ 98 7 + 1)) 150 (σ 98 7) r) 98 8 (σ 98 8 + r)) 98 0) 365), zi v1, zr 144] (zup (zup (zup (zup (zup σ 148 (σ 98 7) (zdiv (σ 98 0) 365)) 149 (σ 98 7) 1) 98 7 (σ 98 7 + 1)) 150 (σ 98 7) r) 98 8 (σ 98 8 + r)) Q
  refine z_aload_n dX12_renew_96 rfl rfl ?_
  refine z_getfR (k := 58) flRX12_148 rfl rfl dX12_renew_97 ?_
  refine z_iload_n dX12_renew_100 rfl rfl ?_
  have s4 : (0 : Int) ≤ v1 ∧ v1 < (8 : Int) := k4
  refine z_ialdE (v := σ 143 v1) rfl s4.1 s4.2 ((zup_of (by decide)).trans ((zup_of (by decide)).trans ((zup_of (by decide)).trans ((zup_of (by decide)).trans (zup_of (by decide)))))) dX12_renew_101 ?_
  have s5 : -2147483648 ≤ (zdiv ((zup (zup (zup (zup (zup σ 148 (σ 98 7) (zdiv (σ 98 0) 365)) 149 (σ 98 7) 1) 98 7 (σ 98 7 + 1)) 150 (σ 98 7) r) 98 8 (σ 98 8 + r)) 98 0) 365) + σ 143 v1 ∧ (zdiv ((zup (zup (zup (zup (zup σ 148 (σ 98 7) (zdiv (σ 98 0) 365)) 149 (σ 98 7) 1) 98 7 (σ 98 7 + 1)) 150 (σ 98 7) r) 98 8 (σ 98 8 + r)) 98 0) 365) + σ 143 v1 < (2147483648 : Int) := k5
  refine z_iaddN dX12_renew_102 s5 ?_
  refine z_iast rfl s4.1 s4.2 dX12_renew_103 ?_
  refine z_iload_n dX12_renew_104 rfl rfl ?_
  exact z_ireti rfl dX12_renew_105 (k6)
set_option maxRecDepth 20000 in
set_option maxHeartbeats 1000000 in
theorem TX12_rents {G : zG} {σ : zS} {Q : Int → zS → Prop}  (k1 : (0 : Int) ≤ zdiv (σ 98 0) 365 ∧ zdiv (σ 98 0) 365 < (120 : Int)) (k2 : (σ 151 (zdiv (σ 98 0) 365) = 0) → (σ 98 7 ≠ 400) → zR G MX12_rents 40 [zr 98, zi 0, zi 0] [] σ Q) (k3 : (σ 151 (zdiv (σ 98 0) 365) = 0) → (σ 98 7 = 400) → -2147483648 ≤ -(-7) ∧ -(-7) < (2147483648 : Int)) (k4 : (σ 151 (zdiv (σ 98 0) 365) = 0) → (σ 98 7 = 400) → (0 : Int) ≤ -(-7) ∧ -(-7) < (8 : Int)) (k5 : (σ 151 (zdiv (σ 98 0) 365) = 0) → (σ 98 7 = 400) → Q (-7) (zup σ 157 (-(-7)) (zW ((σ 157 (-(-7))) + 1)))) (k6 : (σ 151 (zdiv (σ 98 0) 365) ≠ 0) → -2147483648 ≤ -(-6) ∧ -(-6) < (2147483648 : Int)) (k7 : (σ 151 (zdiv (σ 98 0) 365) ≠ 0) → (0 : Int) ≤ -(-6) ∧ -(-6) < (8 : Int)) (k8 : (σ 151 (zdiv (σ 98 0) 365) ≠ 0) → Q (-6) (zup σ 157 (-(-6)) (zW ((σ 157 (-(-6))) + 1)))) : zO G MX12_rents [zr 98] σ Q := by
  refine zO_of (ls0 := [zr 98, zu, zu]) (by decide) (Nat.le_of_ble_eq_true rfl) rfl ?_
  refine z_aload_n dX12_rents_0 rfl rfl ?_
  refine z_getfR (k := 67) flRX12_172 rfl rfl dX12_rents_1 ?_
  refine z_aload_n dX12_rents_4 rfl rfl ?_
  refine z_callv (as := []) (st := [zr 151]) mkX12_year lkRX12_450 rfl rfl rfl (by decide) (Nat.le_of_ble_eq_true rfl) rfl dX12_rents_5 ?_
  refine SX12_year ?_
  show zR G MX12_rents 8 [zr 98, zu, zu] [zi (zdiv (σ 98 0) 365), zr 151] σ Q
  have s1 : (0 : Int) ≤ zdiv (σ 98 0) 365 ∧ zdiv (σ 98 0) 365 < (120 : Int) := k1
  refine z_bald rfl s1.1 s1.2 dX12_rents_8 ?_
  refine z_if_eq dX12_rents_9 (tgt := 19) (by decide) (fun h1 => ?_) (fun h1 => ?_)
  · skip
    refine z_aload_n dX12_rents_19 rfl rfl ?_
    refine z_getfI (k := 7) flRX12_447 rfl rfl dX12_rents_20 ?_
    refine z_sipush (x := 400) dX12_rents_23 (by decide +kernel) (by unfold zIn; decide) ?_
    refine z_icmp_ne dX12_rents_26 (tgt := 36) (by decide) (fun h2 => ?_) (fun h2 => ?_)
    · skip
      refine z_iconst dX12_rents_36 (by unfold zIn; decide) ?_
      refine z_istore_n (ls' := [zr 98, zi 0, zu]) dX12_rents_37 rfl (by decide) rfl ?_
      refine z_iconst dX12_rents_38 (by unfold zIn; decide) ?_
      refine z_istore_n (ls' := [zr 98, zi 0, zi 0]) dX12_rents_39 rfl (by decide) rfl ?_
      exact k2 h1 h2
    · skip
      refine z_aload_n dX12_rents_29 rfl rfl ?_
      refine z_bipush (x := (-7)) dX12_rents_30 (by decide +kernel) (by unfold zIn; decide) ?_
      have s3 : -2147483648 ≤ -(-7) ∧ -(-7) < (2147483648 : Int) := k3 h1 h2
      have s4 : (0 : Int) ≤ -(-7) ∧ -(-7) < (8 : Int) := k4 h1 h2
      refine z_callv (as := [zi (-7)]) (st := []) mkX12_no lkRX12_267 rfl rfl rfl (by decide) (Nat.le_of_ble_eq_true rfl) rfl dX12_rents_32 ?_
      refine SX12_no s3 s4 ?_
      show zR G MX12_rents 35 [zr 98, zu, zu] [zi (-7)] (zup σ 157 (-(-7)) (zW ((σ 157 (-(-7))) + 1))) Q
      exact z_ireti rfl dX12_rents_35 (k5 h1 h2)
  · skip
    refine z_aload_n dX12_rents_12 rfl rfl ?_
    refine z_bipush (x := (-6)) dX12_rents_13 (by decide +kernel) (by unfold zIn; decide) ?_
    have s6 : -2147483648 ≤ -(-6) ∧ -(-6) < (2147483648 : Int) := k6 h1
    have s7 : (0 : Int) ≤ -(-6) ∧ -(-6) < (8 : Int) := k7 h1
    refine z_callv (as := [zi (-6)]) (st := []) mkX12_no lkRX12_267 rfl rfl rfl (by decide) (Nat.le_of_ble_eq_true rfl) rfl dX12_rents_15 ?_
    refine SX12_no s6 s7 ?_
    show zR G MX12_rents 18 [zr 98, zu, zu] [zi (-6)] (zup σ 157 (-(-6)) (zW ((σ 157 (-(-6))) + 1))) Q
    exact z_ireti rfl dX12_rents_18 (k8 h1)
set_option maxRecDepth 20000 in
set_option maxHeartbeats 1000000 in
theorem TX12_rents_40 {G : zG} {σ : zS} {Q : Int → zS → Prop} {v1 v2 : Int}  (k1 : (σ 98 5 ≤ v2) → (0 : Int) ≤ zdiv (σ 98 0) 365 ∧ zdiv (σ 98 0) 365 < (120 : Int)) (k2 : (σ 98 5 ≤ v2) → (0 : Int) ≤ (zup σ 151 (zdiv (σ 98 0) 365) 1) 98 7 ∧ (zup σ 151 (zdiv (σ 98 0) 365) 1) 98 7 < (400 : Int)) (k3 : (σ 98 5 ≤ v2) → -2147483648 ≤ (zup σ 151 (zdiv (σ 98 0) 365) 1) 98 7 + 1 ∧ (zup σ 151 (zdiv (σ 98 0) 365) 1) 98 7 + 1 < (2147483648 : Int)) (k4 : (σ 98 5 ≤ v2) → -2147483648 ≤ (zup σ 151 (zdiv (σ 98 0) 365) 1) 98 8 + v1 ∧ (zup σ 151 (zdiv (σ 98 0) 365) 1) 98 8 + v1 < (2147483648 : Int)) (k5 : (σ 98 5 ≤ v2) → Q v1 (zup (zup (zup (zup (zup (zup σ 151 (zdiv (σ 98 0) 365) 1) 148 ((zup σ 151 (zdiv (σ 98 0) 365) 1) 98 7) (zdiv ((zup σ 151 (zdiv (σ 98 0) 365) 1) 98 0) 365)) 149 ((zup σ 151 (zdiv (σ 98 0) 365) 1) 98 7) 0) 98 7 ((zup σ 151 (zdiv (σ 98 0) 365) 1) 98 7 + 1)) 150 ((zup σ 151 (zdiv (σ 98 0) 365) 1) 98 7) v1) 98 8 ((zup σ 151 (zdiv (σ 98 0) 365) 1) 98 8 + v1))) (k6 : (v2 < σ 98 5) → zO G MX12_rentOf [zr 98, zi v2, zi (zdiv (σ 98 0) 365)] σ (fun rr σ' => zR G MX12_rents 58 [zr 98, zi v1, zi v2] [zi rr, zi v1] σ' Q)) : zR G MX12_rents 40 [zr 98, zi v1, zi v2] [] σ Q := by
  refine z_iload_n dX12_rents_40 rfl rfl ?_
  refine z_aload_n dX12_rents_41 rfl rfl ?_
  refine z_getfI (k := 5) flRX12_415 rfl rfl dX12_rents_42 ?_
  refine z_icmp_ge dX12_rents_45 (tgt := 66) (by decide) (fun h1 => ?_) (fun h1 => ?_)
  · skip
    refine z_aload_n dX12_rents_66 rfl rfl ?_
    refine z_getfR (k := 67) flRX12_172 rfl rfl dX12_rents_67 ?_
    refine z_aload_n dX12_rents_70 rfl rfl ?_
    refine z_callv (as := []) (st := [zr 151]) mkX12_year lkRX12_450 rfl rfl rfl (by decide) (Nat.le_of_ble_eq_true rfl) rfl dX12_rents_71 ?_
    refine SX12_year ?_
    show zR G MX12_rents 74 [zr 98, zi v1, zi v2] [zi (zdiv (σ 98 0) 365), zr 151] σ Q
    refine z_iconst dX12_rents_74 (by unfold zIn; decide) ?_
    have s1 : (0 : Int) ≤ zdiv (σ 98 0) 365 ∧ zdiv (σ 98 0) 365 < (120 : Int) := k1 h1
    refine z_bast rfl s1.1 s1.2 (by decide) dX12_rents_75 ?_
    refine z_aload_n dX12_rents_76 rfl rfl ?_
    refine z_iconst dX12_rents_77 (by unfold zIn; decide) ?_
    refine z_iload_n dX12_rents_78 rfl rfl ?_
    have s2 : (0 : Int) ≤ (zup σ 151 (zdiv (σ 98 0) 365) 1) 98 7 ∧ (zup σ 151 (zdiv (σ 98 0) 365) 1) 98 7 < (400 : Int) := k2 h1
    have s3 : -2147483648 ≤ (zup σ 151 (zdiv (σ 98 0) 365) 1) 98 7 + 1 ∧ (zup σ 151 (zdiv (σ 98 0) 365) 1) 98 7 + 1 < (2147483648 : Int) := k3 h1
    have s4 : -2147483648 ≤ (zup σ 151 (zdiv (σ 98 0) 365) 1) 98 8 + v1 ∧ (zup σ 151 (zdiv (σ 98 0) 365) 1) 98 8 + v1 < (2147483648 : Int) := k4 h1
    refine z_callv (as := [zi 0, zi v1]) (st := []) mkX12_enters lkRX12_459 rfl rfl rfl (by decide) (Nat.le_of_ble_eq_true rfl) rfl dX12_rents_79 ?_
    refine SX12_enters s2 s3 s4 ?_
    show zR G MX12_rents 82 [zr 98, zi v1, zi v2] [] (zup (zup (zup (zup (zup (zup σ 151 (zdiv (σ 98 0) 365) 1) 148 ((zup σ 151 (zdiv (σ 98 0) 365) 1) 98 7) (zdiv ((zup σ 151 (zdiv (σ 98 0) 365) 1) 98 0) 365)) 149 ((zup σ 151 (zdiv (σ 98 0) 365) 1) 98 7) 0) 98 7 ((zup σ 151 (zdiv (σ 98 0) 365) 1) 98 7 + 1)) 150 ((zup σ 151 (zdiv (σ 98 0) 365) 1) 98 7) v1) 98 8 ((zup σ 151 (zdiv (σ 98 0) 365) 1) 98 8 + v1)) Q
    refine z_iload_n dX12_rents_82 rfl rfl ?_
    exact z_ireti rfl dX12_rents_83 (k5 h1)
  · skip
    refine z_iload_n dX12_rents_48 rfl rfl ?_
    refine z_aload_n dX12_rents_49 rfl rfl ?_
    refine z_iload_n dX12_rents_50 rfl rfl ?_
    refine z_aload_n dX12_rents_51 rfl rfl ?_
    refine z_callv (as := []) (st := [zi v2, zr 98, zi v1]) mkX12_year lkRX12_450 rfl rfl rfl (by decide) (Nat.le_of_ble_eq_true rfl) rfl dX12_rents_52 ?_
    refine SX12_year ?_
    show zR G MX12_rents 55 [zr 98, zi v1, zi v2] [zi (zdiv (σ 98 0) 365), zi v2, zr 98, zi v1] σ Q
    refine z_callv (as := [zi v2, zi (zdiv (σ 98 0) 365)]) (st := [zi v1]) mkX12_rentOf lkRX12_438 rfl rfl rfl (by decide) (Nat.le_of_ble_eq_true rfl) rfl dX12_rents_55 (k6 h1)
set_option maxRecDepth 20000 in
set_option maxHeartbeats 1000000 in
theorem TX12_rents_58 {G : zG} {σ : zS} {Q : Int → zS → Prop} {v1 v2 r t1 : Int}  (k1 : -2147483648 ≤ t1 + r ∧ t1 + r < (2147483648 : Int)) (k2 : -2147483648 ≤ v2 + 1 ∧ v2 + 1 < (2147483648 : Int)) (k3 : zR G MX12_rents 40 [zr 98, zi (t1 + r), zi (v2 + 1)] [] σ Q) : zR G MX12_rents 58 [zr 98, zi v1, zi v2] [zi r, zi t1] σ Q := by
  have s1 : -2147483648 ≤ t1 + r ∧ t1 + r < (2147483648 : Int) := k1
  refine z_iaddN dX12_rents_58 s1 ?_
  refine z_istore_n (ls' := [zr 98, zi (t1 + r), zi v2]) dX12_rents_59 rfl (by decide) rfl ?_
  have s2 : -2147483648 ≤ v2 + 1 ∧ v2 + 1 < (2147483648 : Int) := k2
  refine z_iincN (ls' := [zr 98, zi (t1 + r), zi (v2 + 1)]) dX12_rents_60 rfl (by decide) s2 rfl ?_
  refine z_goto dX12_rents_63 (tgt := 40) (by decide) ?_
  exact k3
set_option maxRecDepth 20000 in
set_option maxHeartbeats 1000000 in
theorem TX12_newYear {G : zG} {σ : zS} {Q : Int → zS → Prop}  (k1 : (σ 98 12 ≠ zdiv (σ 98 0) 365) → zR G MX12_newYear 22 [zr 98, zi 0] [] (zup σ 98 12 (zdiv (σ 98 0) 365)) Q) (k2 : (σ 98 12 = zdiv (σ 98 0) 365) → Q 0 σ) : zO G MX12_newYear [zr 98] σ Q := by
  refine zO_of (ls0 := [zr 98, zu]) (by decide) (Nat.le_of_ble_eq_true rfl) rfl ?_
  refine z_aload_n dX12_newYear_0 rfl rfl ?_
  refine z_getfI (k := 12) flRX12_462 rfl rfl dX12_newYear_1 ?_
  refine z_aload_n dX12_newYear_4 rfl rfl ?_
  refine z_callv (as := []) (st := [zi (σ 98 12)]) mkX12_year lkRX12_450 rfl rfl rfl (by decide) (Nat.le_of_ble_eq_true rfl) rfl dX12_newYear_5 ?_
  refine SX12_year ?_
  show zR G MX12_newYear 8 [zr 98, zu] [zi (zdiv (σ 98 0) 365), zi (σ 98 12)] σ Q
  refine z_icmp_ne dX12_newYear_8 (tgt := 12) (by decide) (fun h1 => ?_) (fun h1 => ?_)
  · skip
    refine z_aload_n dX12_newYear_12 rfl rfl ?_
    refine z_aload_n dX12_newYear_13 rfl rfl ?_
    refine z_callv (as := []) (st := [zr 98]) mkX12_year lkRX12_450 rfl rfl rfl (by decide) (Nat.le_of_ble_eq_true rfl) rfl dX12_newYear_14 ?_
    refine SX12_year ?_
    show zR G MX12_newYear 17 [zr 98, zu] [zi (zdiv (σ 98 0) 365), zr 98] σ Q
    refine z_putI (k := 12) fpRX12_462 rfl rfl dX12_newYear_17 ?_
    refine z_iconst dX12_newYear_20 (by unfold zIn; decide) ?_
    refine z_istore_n (ls' := [zr 98, zi 0]) dX12_newYear_21 rfl (by decide) rfl ?_
    exact k1 h1
  · skip
    exact z_vret rfl dX12_newYear_11 (k2 h1)
set_option maxRecDepth 20000 in
set_option maxHeartbeats 1000000 in
theorem TX12_newYear_22 {G : zG} {σ : zS} {Q : Int → zS → Prop} {v1 : Int}  (k1 : (24 ≤ v1) → Q 0 σ) (k2 : (v1 < 24) → (0 : Int) ≤ v1 ∧ v1 < (24 : Int)) (k3 : (v1 < 24) → -2147483648 ≤ v1 + 1 ∧ v1 + 1 < (2147483648 : Int)) (k4 : (v1 < 24) → zR G MX12_newYear 22 [zr 98, zi (v1 + 1)] [] (zup σ 153 v1 0) Q) : zR G MX12_newYear 22 [zr 98, zi v1] [] σ Q := by
  refine z_iload_n dX12_newYear_22 rfl rfl ?_
  refine z_bipush (x := 24) dX12_newYear_23 (by decide +kernel) (by unfold zIn; decide) ?_
  refine z_icmp_ge dX12_newYear_25 (tgt := 41) (by decide) (fun h1 => ?_) (fun h1 => ?_)
  · skip
    exact z_vret rfl dX12_newYear_41 (k1 h1)
  · skip
    refine z_aload_n dX12_newYear_28 rfl rfl ?_
    refine z_getfR (k := 69) flRX12_178 rfl rfl dX12_newYear_29 ?_
    refine z_iload_n dX12_newYear_32 rfl rfl ?_
    refine z_iconst dX12_newYear_33 (by unfold zIn; decide) ?_
    have s2 : (0 : Int) ≤ v1 ∧ v1 < (24 : Int) := k2 h1
    refine z_iast rfl s2.1 s2.2 dX12_newYear_34 ?_
    have s3 : -2147483648 ≤ v1 + 1 ∧ v1 + 1 < (2147483648 : Int) := k3 h1
    refine z_iincN (ls' := [zr 98, zi (v1 + 1)]) dX12_newYear_35 rfl (by decide) s3 rfl ?_
    refine z_goto dX12_newYear_38 (tgt := 22) (by decide) ?_
    exact k4 h1
set_option maxRecDepth 20000 in
set_option maxHeartbeats 1000000 in
theorem TX12_kept {G : zG} {σ : zS} {Q : Int → zS → Prop} {a1 a2 : Int}  (k1 : ((0 ≤ a1 ∧ a1 < σ 98 1)) → (0 ≤ a2) → (a2 ≤ 365) → zO G MX12_newYear [zr 98] σ (fun rr σ' => zR G MX12_kept 36 [zr 98, zi a1, zi a2, zu] [] σ' Q)) (k2 : (¬ ((0 ≤ a1 ∧ a1 < σ 98 1))) → -2147483648 ≤ -(-1) ∧ -(-1) < (2147483648 : Int)) (k3 : (¬ ((0 ≤ a1 ∧ a1 < σ 98 1))) → (0 : Int) ≤ -(-1) ∧ -(-1) < (8 : Int)) (k4 : (¬ ((0 ≤ a1 ∧ a1 < σ 98 1))) → Q (-1) (zup σ 157 (-(-1)) (zW ((σ 157 (-(-1))) + 1)))) (k5 : ((0 ≤ a1 ∧ a1 < σ 98 1)) → (a2 < 0 ∨ (0 ≤ a2 ∧ 365 < a2)) → -2147483648 ≤ -(-6) ∧ -(-6) < (2147483648 : Int)) (k6 : ((0 ≤ a1 ∧ a1 < σ 98 1)) → (a2 < 0 ∨ (0 ≤ a2 ∧ 365 < a2)) → (0 : Int) ≤ -(-6) ∧ -(-6) < (8 : Int)) (k7 : ((0 ≤ a1 ∧ a1 < σ 98 1)) → (a2 < 0 ∨ (0 ≤ a2 ∧ 365 < a2)) → Q (-6) (zup σ 157 (-(-6)) (zW ((σ 157 (-(-6))) + 1)))) : zO G MX12_kept [zr 98, zi a1, zi a2] σ Q := by
  refine zO_of (ls0 := [zr 98, zi a1, zi a2, zu]) (by decide) (Nat.le_of_ble_eq_true rfl) rfl ?_
  have J25 : ((0 ≤ a1 ∧ a1 < σ 98 1)) → (a2 < 0 ∨ (0 ≤ a2 ∧ 365 < a2)) → zR G MX12_kept 25 [zr 98, zi a1, zi a2, zu] [] σ Q := by
    intro h1 h4
    refine z_aload_n dX12_kept_25 rfl rfl ?_
    refine z_bipush (x := (-6)) dX12_kept_26 (by decide +kernel) (by unfold zIn; decide) ?_
    have s5 : -2147483648 ≤ -(-6) ∧ -(-6) < (2147483648 : Int) := k5 h1 h4
    have s6 : (0 : Int) ≤ -(-6) ∧ -(-6) < (8 : Int) := k6 h1 h4
    refine z_callv (as := [zi (-6)]) (st := []) mkX12_no lkRX12_267 rfl rfl rfl (by decide) (Nat.le_of_ble_eq_true rfl) rfl dX12_kept_28 ?_
    refine SX12_no s5 s6 ?_
    show zR G MX12_kept 31 [zr 98, zi a1, zi a2, zu] [zi (-6)] (zup σ 157 (-(-6)) (zW ((σ 157 (-(-6))) + 1))) Q
    exact z_ireti rfl dX12_kept_31 (k7 h1 h4)
  refine z_aload_n dX12_kept_0 rfl rfl ?_
  refine z_iload_n dX12_kept_1 rfl rfl ?_
  refine z_callv (as := [zi a1]) (st := []) mkX12_isOne lkRX12_271 rfl rfl rfl (by decide) (Nat.le_of_ble_eq_true rfl) rfl dX12_kept_2 ?_
  refine SX12_isOne ?_
  show zR G MX12_kept 5 [zr 98, zi a1, zi a2, zu] [zi (if (0 ≤ a1 ∧ a1 < σ 98 1) then (1 : Int) else 0)] σ Q
  refine z_if_ne dX12_kept_5 (tgt := 14) (by decide) (fun z => ?_) (fun z => ?_)
  · have h1 : (0 ≤ a1 ∧ a1 < σ 98 1) := zb1 z
    refine z_iload_n dX12_kept_14 rfl rfl ?_
    refine z_if_lt dX12_kept_15 (tgt := 25) (by decide) (fun h2 => ?_) (fun h2 => ?_)
    · skip
      exact J25 h1 (Or.inl h2)
    · skip
      refine z_iload_n dX12_kept_18 rfl rfl ?_
      refine z_sipush (x := 365) dX12_kept_19 (by decide +kernel) (by unfold zIn; decide) ?_
      refine z_icmp_le dX12_kept_22 (tgt := 32) (by decide) (fun h3 => ?_) (fun h3 => ?_)
      · skip
        refine z_aload_n dX12_kept_32 rfl rfl ?_
        refine z_callv (as := []) (st := []) mkX12_newYear lkRX12_465 rfl rfl rfl (by decide) (Nat.le_of_ble_eq_true rfl) rfl dX12_kept_33 (k1 h1 h2 h3)
      · skip
        exact J25 h1 (Or.inr ⟨h2, h3⟩)
  · have h1 : ¬ ((0 ≤ a1 ∧ a1 < σ 98 1)) := zb0 z
    refine z_aload_n dX12_kept_8 rfl rfl ?_
    refine z_iconst dX12_kept_9 (by unfold zIn; decide) ?_
    have s2 : -2147483648 ≤ -(-1) ∧ -(-1) < (2147483648 : Int) := k2 h1
    have s3 : (0 : Int) ≤ -(-1) ∧ -(-1) < (8 : Int) := k3 h1
    refine z_callv (as := [zi (-1)]) (st := []) mkX12_no lkRX12_267 rfl rfl rfl (by decide) (Nat.le_of_ble_eq_true rfl) rfl dX12_kept_10 ?_
    refine SX12_no s2 s3 ?_
    show zR G MX12_kept 13 [zr 98, zi a1, zi a2, zu] [zi (-1)] (zup σ 157 (-(-1)) (zW ((σ 157 (-(-1))) + 1))) Q
    exact z_ireti rfl dX12_kept_13 (k4 h1)
set_option maxRecDepth 20000 in
set_option maxHeartbeats 1000000 in
theorem TX12_kept_36 {G : zG} {σ : zS} {Q : Int → zS → Prop} {v1 v2 : Int}  (k1 : (0 : Int) ≤ v1 ∧ v1 < (24 : Int)) (k2 : Q (σ 153 v1) (zup σ 153 v1 v2)) : zR G MX12_kept 36 [zr 98, zi v1, zi v2, zu] [] σ Q := by
  refine z_aload_n dX12_kept_36 rfl rfl ?_
  refine z_getfR (k := 69) flRX12_178 rfl rfl dX12_kept_37 ?_
  refine z_iload_n dX12_kept_40 rfl rfl ?_
  have s1 : (0 : Int) ≤ v1 ∧ v1 < (24 : Int) := k1
  refine z_iald rfl s1.1 s1.2 dX12_kept_41 ?_
  refine z_istore_n (ls' := [zr 98, zi v1, zi v2, zi (σ 153 v1)]) dX12_kept_42 rfl (by decide) rfl ?_
  refine z_aload_n dX12_kept_43 rfl rfl ?_
  refine z_getfR (k := 69) flRX12_178 rfl rfl dX12_kept_44 ?_
  refine z_iload_n dX12_kept_47 rfl rfl ?_
  refine z_iload_n dX12_kept_48 rfl rfl ?_
  refine z_iast rfl s1.1 s1.2 dX12_kept_49 ?_
  refine z_iload_n dX12_kept_50 rfl rfl ?_
  exact z_ireti rfl dX12_kept_51 (k2)
set_option maxRecDepth 20000 in
set_option maxHeartbeats 1000000 in
theorem TX12_dividend {G : zG} {σ : zS} {Q : Int → zS → Prop} {a1 : Int}  (k1 : (0 ≤ a1) → (a1 ≤ σ 98 8) → (0 : Int) ≤ zdiv (σ 98 0) 365 ∧ zdiv (σ 98 0) 365 < (120 : Int)) (k2 : (0 ≤ a1) → (a1 ≤ σ 98 8) → (σ 152 (zdiv (σ 98 0) 365) = 0) → (σ 98 7 ≠ 400) → zO G MX12_newYear [zr 98] σ (fun rr σ' => zR G MX12_dividend 52 [zr 98, zi a1, zu, zu, zu, zu] [] σ' Q)) (k3 : (0 ≤ a1) → (a1 ≤ σ 98 8) → (σ 152 (zdiv (σ 98 0) 365) = 0) → (σ 98 7 = 400) → -2147483648 ≤ -(-7) ∧ -(-7) < (2147483648 : Int)) (k4 : (0 ≤ a1) → (a1 ≤ σ 98 8) → (σ 152 (zdiv (σ 98 0) 365) = 0) → (σ 98 7 = 400) → (0 : Int) ≤ -(-7) ∧ -(-7) < (8 : Int)) (k5 : (0 ≤ a1) → (a1 ≤ σ 98 8) → (σ 152 (zdiv (σ 98 0) 365) = 0) → (σ 98 7 = 400) → Q (-7) (zup σ 157 (-(-7)) (zW ((σ 157 (-(-7))) + 1)))) (k6 : (a1 < 0 ∨ (0 ≤ a1 ∧ σ 98 8 < a1) ∨ (0 ≤ a1 ∧ a1 ≤ σ 98 8 ∧ σ 152 (zdiv (σ 98 0) 365) ≠ 0)) → -2147483648 ≤ -(-6) ∧ -(-6) < (2147483648 : Int)) (k7 : (a1 < 0 ∨ (0 ≤ a1 ∧ σ 98 8 < a1) ∨ (0 ≤ a1 ∧ a1 ≤ σ 98 8 ∧ σ 152 (zdiv (σ 98 0) 365) ≠ 0)) → (0 : Int) ≤ -(-6) ∧ -(-6) < (8 : Int)) (k8 : (a1 < 0 ∨ (0 ≤ a1 ∧ σ 98 8 < a1) ∨ (0 ≤ a1 ∧ a1 ≤ σ 98 8 ∧ σ 152 (zdiv (σ 98 0) 365) ≠ 0)) → Q (-6) (zup σ 157 (-(-6)) (zW ((σ 157 (-(-6))) + 1)))) : zO G MX12_dividend [zr 98, zi a1] σ Q := by
  refine zO_of (ls0 := [zr 98, zi a1, zu, zu, zu, zu]) (by decide) (Nat.le_of_ble_eq_true rfl) rfl ?_
  have J24 : (a1 < 0 ∨ (0 ≤ a1 ∧ σ 98 8 < a1) ∨ (0 ≤ a1 ∧ a1 ≤ σ 98 8 ∧ σ 152 (zdiv (σ 98 0) 365) ≠ 0)) → zR G MX12_dividend 24 [zr 98, zi a1, zu, zu, zu, zu] [] σ Q := by
    intro h5
    refine z_aload_n dX12_dividend_24 rfl rfl ?_
    refine z_bipush (x := (-6)) dX12_dividend_25 (by decide +kernel) (by unfold zIn; decide) ?_
    have s6 : -2147483648 ≤ -(-6) ∧ -(-6) < (2147483648 : Int) := k6 h5
    have s7 : (0 : Int) ≤ -(-6) ∧ -(-6) < (8 : Int) := k7 h5
    refine z_callv (as := [zi (-6)]) (st := []) mkX12_no lkRX12_267 rfl rfl rfl (by decide) (Nat.le_of_ble_eq_true rfl) rfl dX12_dividend_27 ?_
    refine SX12_no s6 s7 ?_
    show zR G MX12_dividend 30 [zr 98, zi a1, zu, zu, zu, zu] [zi (-6)] (zup σ 157 (-(-6)) (zW ((σ 157 (-(-6))) + 1))) Q
    exact z_ireti rfl dX12_dividend_30 (k8 h5)
  refine z_iload_n dX12_dividend_0 rfl rfl ?_
  refine z_if_lt dX12_dividend_1 (tgt := 24) (by decide) (fun h1 => ?_) (fun h1 => ?_)
  · skip
    exact J24 (Or.inl h1)
  · skip
    refine z_iload_n dX12_dividend_4 rfl rfl ?_
    refine z_aload_n dX12_dividend_5 rfl rfl ?_
    refine z_getfI (k := 8) flRX12_453 rfl rfl dX12_dividend_6 ?_
    refine z_icmp_gt dX12_dividend_9 (tgt := 24) (by decide) (fun h2 => ?_) (fun h2 => ?_)
    · skip
      exact J24 (Or.inr (Or.inl ⟨h1, h2⟩))
    · skip
      refine z_aload_n dX12_dividend_12 rfl rfl ?_
      refine z_getfR (k := 68) flRX12_175 rfl rfl dX12_dividend_13 ?_
      refine z_aload_n dX12_dividend_16 rfl rfl ?_
      refine z_callv (as := []) (st := [zr 152]) mkX12_year lkRX12_450 rfl rfl rfl (by decide) (Nat.le_of_ble_eq_true rfl) rfl dX12_dividend_17 ?_
      refine SX12_year ?_
      show zR G MX12_dividend 20 [zr 98, zi a1, zu, zu, zu, zu] [zi (zdiv (σ 98 0) 365), zr 152] σ Q
      have s1 : (0 : Int) ≤ zdiv (σ 98 0) 365 ∧ zdiv (σ 98 0) 365 < (120 : Int) := k1 h1 h2
      refine z_bald rfl s1.1 s1.2 dX12_dividend_20 ?_
      refine z_if_eq dX12_dividend_21 (tgt := 31) (by decide) (fun h3 => ?_) (fun h3 => ?_)
      · skip
        refine z_aload_n dX12_dividend_31 rfl rfl ?_
        refine z_getfI (k := 7) flRX12_447 rfl rfl dX12_dividend_32 ?_
        refine z_sipush (x := 400) dX12_dividend_35 (by decide +kernel) (by unfold zIn; decide) ?_
        refine z_icmp_ne dX12_dividend_38 (tgt := 48) (by decide) (fun h4 => ?_) (fun h4 => ?_)
        · skip
          refine z_aload_n dX12_dividend_48 rfl rfl ?_
          refine z_callv (as := []) (st := []) mkX12_newYear lkRX12_465 rfl rfl rfl (by decide) (Nat.le_of_ble_eq_true rfl) rfl dX12_dividend_49 (k2 h1 h2 h3 h4)
        · skip
          refine z_aload_n dX12_dividend_41 rfl rfl ?_
          refine z_bipush (x := (-7)) dX12_dividend_42 (by decide +kernel) (by unfold zIn; decide) ?_
          have s3 : -2147483648 ≤ -(-7) ∧ -(-7) < (2147483648 : Int) := k3 h1 h2 h3 h4
          have s4 : (0 : Int) ≤ -(-7) ∧ -(-7) < (8 : Int) := k4 h1 h2 h3 h4
          refine z_callv (as := [zi (-7)]) (st := []) mkX12_no lkRX12_267 rfl rfl rfl (by decide) (Nat.le_of_ble_eq_true rfl) rfl dX12_dividend_44 ?_
          refine SX12_no s3 s4 ?_
          show zR G MX12_dividend 47 [zr 98, zi a1, zu, zu, zu, zu] [zi (-7)] (zup σ 157 (-(-7)) (zW ((σ 157 (-(-7))) + 1))) Q
          exact z_ireti rfl dX12_dividend_47 (k5 h1 h2 h3 h4)
      · skip
        exact J24 (Or.inr (Or.inr ⟨h1, h2, h3⟩))
set_option maxRecDepth 20000 in
set_option maxHeartbeats 1000000 in
theorem TX12_dividend_52 {G : zG} {σ : zS} {Q : Int → zS → Prop} {v1 : Int}  (k1 : zR G MX12_dividend 56 [zr 98, zi v1, zi 0, zi 0, zu, zu] [] σ Q) : zR G MX12_dividend 52 [zr 98, zi v1, zu, zu, zu, zu] [] σ Q := by
  refine z_iconst dX12_dividend_52 (by unfold zIn; decide) ?_
  refine z_istore_n (ls' := [zr 98, zi v1, zi 0, zu, zu, zu]) dX12_dividend_53 rfl (by decide) rfl ?_
  refine z_iconst dX12_dividend_54 (by unfold zIn; decide) ?_
  refine z_istore_n (ls' := [zr 98, zi v1, zi 0, zi 0, zu, zu]) dX12_dividend_55 rfl (by decide) rfl ?_
  exact k1
set_option maxRecDepth 20000 in
set_option maxHeartbeats 1000000 in
theorem TX12_dividend_56 {G : zG} {σ : zS} {Q : Int → zS → Prop} {v1 v2 v3 : Int}  (k1 : (σ 98 4 ≤ v3) → zR G MX12_dividend 109 [zr 98, zi v1, zi v2, zi 0, zi 0, zu] [] σ Q) (k2 : (v3 < σ 98 4) → (0 : Int) ≤ v3 ∧ v3 < (12 : Int)) (k3 : (v3 < σ 98 4) → (σ 129 v3 = 1) → (σ 130 v3 ≠ (-1)) → (0 : Int) ≤ σ 130 v3 ∧ σ 130 v3 < (24 : Int)) (k4 : (v3 < σ 98 4) → (σ 129 v3 = 1) → (σ 130 v3 ≠ (-1)) → -2147483648 ≤ v2 + σ 153 (σ 130 v3) ∧ v2 + σ 153 (σ 130 v3) < (2147483648 : Int)) (k5 : (v3 < σ 98 4) → (σ 129 v3 ≠ 1 ∨ (σ 129 v3 = 1 ∧ σ 130 v3 = (-1))) → -2147483648 ≤ v3 + 1 ∧ v3 + 1 < (2147483648 : Int)) (k6 : (v3 < σ 98 4) → (σ 129 v3 ≠ 1 ∨ (σ 129 v3 = 1 ∧ σ 130 v3 = (-1))) → zR G MX12_dividend 56 [zr 98, zi v1, zi v2, zi (v3 + 1), zu, zu] [] σ Q) (k7 : (v3 < σ 98 4) → (σ 129 v3 = 1) → (σ 130 v3 ≠ (-1)) → -2147483648 ≤ v3 + 1 ∧ v3 + 1 < (2147483648 : Int)) (k8 : (v3 < σ 98 4) → (σ 129 v3 = 1) → (σ 130 v3 ≠ (-1)) → zR G MX12_dividend 56 [zr 98, zi v1, zi (v2 + σ 153 (σ 130 v3)), zi (v3 + 1), zu, zu] [] σ Q) : zR G MX12_dividend 56 [zr 98, zi v1, zi v2, zi v3, zu, zu] [] σ Q := by
  have J98_1 : (v3 < σ 98 4) → (σ 129 v3 = 1) → (σ 130 v3 ≠ (-1)) → zR G MX12_dividend 98 [zr 98, zi v1, zi (v2 + σ 153 (σ 130 v3)), zi v3, zu, zu] [] σ Q := by
    intro h1 h2 h3
    have s7 : -2147483648 ≤ v3 + 1 ∧ v3 + 1 < (2147483648 : Int) := k7 h1 h2 h3
    refine z_iincN (ls' := [zr 98, zi v1, zi (v2 + σ 153 (σ 130 v3)), zi (v3 + 1), zu, zu]) dX12_dividend_98 rfl (by decide) s7 rfl ?_
    refine z_goto dX12_dividend_101 (tgt := 56) (by decide) ?_
    exact k8 h1 h2 h3
  have J98 : (v3 < σ 98 4) → (σ 129 v3 ≠ 1 ∨ (σ 129 v3 = 1 ∧ σ 130 v3 = (-1))) → zR G MX12_dividend 98 [zr 98, zi v1, zi v2, zi v3, zu, zu] [] σ Q := by
    intro h1 h4
    have s5 : -2147483648 ≤ v3 + 1 ∧ v3 + 1 < (2147483648 : Int) := k5 h1 h4
    refine z_iincN (ls' := [zr 98, zi v1, zi v2, zi (v3 + 1), zu, zu]) dX12_dividend_98 rfl (by decide) s5 rfl ?_
    refine z_goto dX12_dividend_101 (tgt := 56) (by decide) ?_
    exact k6 h1 h4
  refine z_iload_n dX12_dividend_56 rfl rfl ?_
  refine z_aload_n dX12_dividend_57 rfl rfl ?_
  refine z_getfI (k := 4) flRX12_259 rfl rfl dX12_dividend_58 ?_
  refine z_icmp_ge dX12_dividend_61 (tgt := 104) (by decide) (fun h1 => ?_) (fun h1 => ?_)
  · skip
    refine z_iconst dX12_dividend_104 (by unfold zIn; decide) ?_
    refine z_istore_n (ls' := [zr 98, zi v1, zi v2, zi 0, zu, zu]) dX12_dividend_105 rfl (by decide) rfl ?_
    refine z_iconst dX12_dividend_106 (by unfold zIn; decide) ?_
    refine z_istore (ls' := [zr 98, zi v1, zi v2, zi 0, zi 0, zu]) dX12_dividend_107 (by decide) rfl ?_
    exact k1 h1
  · skip
    refine z_aload_n dX12_dividend_64 rfl rfl ?_
    refine z_getfR (k := 44) flRX12_106 rfl rfl dX12_dividend_65 ?_
    refine z_iload_n dX12_dividend_68 rfl rfl ?_
    have s2 : (0 : Int) ≤ v3 ∧ v3 < (12 : Int) := k2 h1
    refine z_iald rfl s2.1 s2.2 dX12_dividend_69 ?_
    refine z_iconst dX12_dividend_70 (by unfold zIn; decide) ?_
    refine z_icmp_ne dX12_dividend_71 (tgt := 98) (by decide) (fun h2 => ?_) (fun h2 => ?_)
    · skip
      exact J98 h1 (Or.inl h2)
    · skip
      refine z_aload_n dX12_dividend_74 rfl rfl ?_
      refine z_getfR (k := 45) flRX12_109 rfl rfl dX12_dividend_75 ?_
      refine z_iload_n dX12_dividend_78 rfl rfl ?_
      refine z_iald rfl s2.1 s2.2 dX12_dividend_79 ?_
      refine z_iconst dX12_dividend_80 (by unfold zIn; decide) ?_
      refine z_icmp_eq dX12_dividend_81 (tgt := 98) (by decide) (fun h3 => ?_) (fun h3 => ?_)
      · skip
        exact J98 h1 (Or.inr ⟨h2, h3⟩)
      · skip
        refine z_iload_n dX12_dividend_84 rfl rfl ?_
        refine z_aload_n dX12_dividend_85 rfl rfl ?_
        refine z_getfR (k := 69) flRX12_178 rfl rfl dX12_dividend_86 ?_
        refine z_aload_n dX12_dividend_89 rfl rfl ?_
        refine z_getfR (k := 45) flRX12_109 rfl rfl dX12_dividend_90 ?_
        refine z_iload_n dX12_dividend_93 rfl rfl ?_
        refine z_iald rfl s2.1 s2.2 dX12_dividend_94 ?_
        have s3 : (0 : Int) ≤ σ 130 v3 ∧ σ 130 v3 < (24 : Int) := k3 h1 h2 h3
        refine z_iald rfl s3.1 s3.2 dX12_dividend_95 ?_
        have s4 : -2147483648 ≤ v2 + σ 153 (σ 130 v3) ∧ v2 + σ 153 (σ 130 v3) < (2147483648 : Int) := k4 h1 h2 h3
        refine z_iaddN dX12_dividend_96 s4 ?_
        refine z_istore_n (ls' := [zr 98, zi v1, zi (v2 + σ 153 (σ 130 v3)), zi v3, zu, zu]) dX12_dividend_97 rfl (by decide) rfl ?_
        exact J98_1 h1 h2 h3
set_option maxRecDepth 20000 in
set_option maxHeartbeats 1000000 in
theorem TX12_dividend_109 {G : zG} {σ : zS} {Q : Int → zS → Prop} {v1 v2 v3 v4 : Int}  (k1 : (v4 < σ 98 4) → (0 < v2) → (0 : Int) ≤ v4 ∧ v4 < (12 : Int)) (k2 : (v4 < σ 98 4) → (0 < v2) → (σ 129 v4 = 1) → (σ 130 v4 ≠ (-1)) → (0 : Int) ≤ σ 130 v4 ∧ σ 130 v4 < (24 : Int)) (k3 : (v4 < σ 98 4) → (0 < v2) → (σ 129 v4 = 1) → (σ 130 v4 ≠ (-1)) → -9223372036854775808 ≤ v1 * σ 153 (σ 130 v4) ∧ v1 * σ 153 (σ 130 v4) < (9223372036854775808 : Int)) (k4 : (v4 < σ 98 4) → (0 < v2) → (σ 129 v4 = 1) → (σ 130 v4 ≠ (-1)) → v2 ≠ 0) (k5 : (v4 < σ 98 4) → (0 < v2) → (σ 129 v4 = 1) → (σ 130 v4 ≠ (-1)) → -2147483648 ≤ v3 + (zW (zldiv (v1 * σ 153 (σ 130 v4)) v2)) ∧ v3 + (zW (zldiv (v1 * σ 153 (σ 130 v4)) v2)) < (2147483648 : Int)) (k6 : (v4 < σ 98 4) → (0 < v2) → (σ 129 v4 ≠ 1 ∨ (σ 129 v4 = 1 ∧ σ 130 v4 = (-1))) → -2147483648 ≤ v4 + 1 ∧ v4 + 1 < (2147483648 : Int)) (k7 : (v4 < σ 98 4) → (0 < v2) → (σ 129 v4 ≠ 1 ∨ (σ 129 v4 = 1 ∧ σ 130 v4 = (-1))) → zR G MX12_dividend 109 [zr 98, zi v1, zi v2, zi v3, zi (v4 + 1), zu] [] σ Q) (k8 : (v4 < σ 98 4) → (0 < v2) → (σ 129 v4 = 1) → (σ 130 v4 ≠ (-1)) → -2147483648 ≤ v4 + 1 ∧ v4 + 1 < (2147483648 : Int)) (k9 : (v4 < σ 98 4) → (0 < v2) → (σ 129 v4 = 1) → (σ 130 v4 ≠ (-1)) → zR G MX12_dividend 109 [zr 98, zi v1, zi v2, zi (v3 + (zW (zldiv (v1 * σ 153 (σ 130 v4)) v2))), zi (v4 + 1), zu] [] (zup σ 154 (σ 130 v4) (zW (σ 154 (σ 130 v4) + (zW (zldiv (v1 * σ 153 (σ 130 v4)) v2))))) Q) (k10 : (σ 98 4 ≤ v4 ∨ (v4 < σ 98 4 ∧ v2 ≤ 0)) → (0 : Int) ≤ zdiv (σ 98 0) 365 ∧ zdiv (σ 98 0) 365 < (120 : Int)) (k11 : (σ 98 4 ≤ v4 ∨ (v4 < σ 98 4 ∧ v2 ≤ 0)) → -2147483648 ≤ -v3 ∧ -v3 < (2147483648 : Int)) (k12 : (σ 98 4 ≤ v4 ∨ (v4 < σ 98 4 ∧ v2 ≤ 0)) → (0 : Int) ≤ (zup σ 152 (zdiv (σ 98 0) 365) 1) 98 7 ∧ (zup σ 152 (zdiv (σ 98 0) 365) 1) 98 7 < (400 : Int)) (k13 : (σ 98 4 ≤ v4 ∨ (v4 < σ 98 4 ∧ v2 ≤ 0)) → -2147483648 ≤ (zup σ 152 (zdiv (σ 98 0) 365) 1) 98 7 + 1 ∧ (zup σ 152 (zdiv (σ 98 0) 365) 1) 98 7 + 1 < (2147483648 : Int)) (k14 : (σ 98 4 ≤ v4 ∨ (v4 < σ 98 4 ∧ v2 ≤ 0)) → -2147483648 ≤ (zup σ 152 (zdiv (σ 98 0) 365) 1) 98 8 + (-v3) ∧ (zup σ 152 (zdiv (σ 98 0) 365) 1) 98 8 + (-v3) < (2147483648 : Int)) (k15 : (σ 98 4 ≤ v4 ∨ (v4 < σ 98 4 ∧ v2 ≤ 0)) → Q v3 (zup (zup (zup (zup (zup (zup σ 152 (zdiv (σ 98 0) 365) 1) 148 ((zup σ 152 (zdiv (σ 98 0) 365) 1) 98 7) (zdiv ((zup σ 152 (zdiv (σ 98 0) 365) 1) 98 0) 365)) 149 ((zup σ 152 (zdiv (σ 98 0) 365) 1) 98 7) 2) 98 7 ((zup σ 152 (zdiv (σ 98 0) 365) 1) 98 7 + 1)) 150 ((zup σ 152 (zdiv (σ 98 0) 365) 1) 98 7) (-v3)) 98 8 ((zup σ 152 (zdiv (σ 98 0) 365) 1) 98 8 + (-v3)))) : zR G MX12_dividend 109 [zr 98, zi v1, zi v2, zi v3, zi v4, zu] [] σ Q := by
  have J197 : (σ 98 4 ≤ v4 ∨ (v4 < σ 98 4 ∧ v2 ≤ 0)) → zR G MX12_dividend 197 [zr 98, zi v1, zi v2, zi v3, zi v4, zu] [] σ Q := by
    intro h6
    refine z_aload_n dX12_dividend_197 rfl rfl ?_
    refine z_getfR (k := 68) flRX12_175 rfl rfl dX12_dividend_198 ?_
    refine z_aload_n dX12_dividend_201 rfl rfl ?_
    refine z_callv (as := []) (st := [zr 152]) mkX12_year lkRX12_450 rfl rfl rfl (by decide) (Nat.le_of_ble_eq_true rfl) rfl dX12_dividend_202 ?_
    refine SX12_year ?_
    show zR G MX12_dividend 205 [zr 98, zi v1, zi v2, zi v3, zi v4, zu] [zi (zdiv (σ 98 0) 365), zr 152] σ Q
    refine z_iconst dX12_dividend_205 (by unfold zIn; decide) ?_
    have s10 : (0 : Int) ≤ zdiv (σ 98 0) 365 ∧ zdiv (σ 98 0) 365 < (120 : Int) := k10 h6
    refine z_bast rfl s10.1 s10.2 (by decide) dX12_dividend_206 ?_
    refine z_aload_n dX12_dividend_207 rfl rfl ?_
    refine z_iconst dX12_dividend_208 (by unfold zIn; decide) ?_
    refine z_iload_n dX12_dividend_209 rfl rfl ?_
    have s11 : -2147483648 ≤ -v3 ∧ -v3 < (2147483648 : Int) := k11 h6
    refine z_inegN dX12_dividend_210 s11 ?_
    have s12 : (0 : Int) ≤ (zup σ 152 (zdiv (σ 98 0) 365) 1) 98 7 ∧ (zup σ 152 (zdiv (σ 98 0) 365) 1) 98 7 < (400 : Int) := k12 h6
    have s13 : -2147483648 ≤ (zup σ 152 (zdiv (σ 98 0) 365) 1) 98 7 + 1 ∧ (zup σ 152 (zdiv (σ 98 0) 365) 1) 98 7 + 1 < (2147483648 : Int) := k13 h6
    have s14 : -2147483648 ≤ (zup σ 152 (zdiv (σ 98 0) 365) 1) 98 8 + (-v3) ∧ (zup σ 152 (zdiv (σ 98 0) 365) 1) 98 8 + (-v3) < (2147483648 : Int) := k14 h6
    refine z_callv (as := [zi 2, zi (-v3)]) (st := []) mkX12_enters lkRX12_459 rfl rfl rfl (by decide) (Nat.le_of_ble_eq_true rfl) rfl dX12_dividend_211 ?_
    refine SX12_enters s12 s13 s14 ?_
    show zR G MX12_dividend 214 [zr 98, zi v1, zi v2, zi v3, zi v4, zu] [] (zup (zup (zup (zup (zup (zup σ 152 (zdiv (σ 98 0) 365) 1) 148 ((zup σ 152 (zdiv (σ 98 0) 365) 1) 98 7) (zdiv ((zup σ 152 (zdiv (σ 98 0) 365) 1) 98 0) 365)) 149 ((zup σ 152 (zdiv (σ 98 0) 365) 1) 98 7) 2) 98 7 ((zup σ 152 (zdiv (σ 98 0) 365) 1) 98 7 + 1)) 150 ((zup σ 152 (zdiv (σ 98 0) 365) 1) 98 7) (-v3)) 98 8 ((zup σ 152 (zdiv (σ 98 0) 365) 1) 98 8 + (-v3))) Q
    refine z_iload_n dX12_dividend_214 rfl rfl ?_
    exact z_ireti rfl dX12_dividend_215 (k15 h6)
  have J191_1 : (v4 < σ 98 4) → (0 < v2) → (σ 129 v4 = 1) → (σ 130 v4 ≠ (-1)) → zR G MX12_dividend 191 [zr 98, zi v1, zi v2, zi (v3 + (zW (zldiv (v1 * σ 153 (σ 130 v4)) v2))), zi v4, zi (zW (zldiv (v1 * σ 153 (σ 130 v4)) v2))] [] (zup σ 154 (σ 130 v4) (zW (σ 154 (σ 130 v4) + (zW (zldiv (v1 * σ 153 (σ 130 v4)) v2))))) Q := by
    intro h1 h2 h3 h4
    have s8 : -2147483648 ≤ v4 + 1 ∧ v4 + 1 < (2147483648 : Int) := k8 h1 h2 h3 h4
    refine z_iincN (ls' := [zr 98, zi v1, zi v2, zi (v3 + (zW (zldiv (v1 * σ 153 (σ 130 v4)) v2))), zi (v4 + 1), zi (zW (zldiv (v1 * σ 153 (σ 130 v4)) v2))]) dX12_dividend_191 rfl (by decide) s8 rfl ?_
    refine z_goto dX12_dividend_194 (tgt := 109) (by decide) ?_
    exact zR_fg [false, false, false, false, false, true] (k9 h1 h2 h3 h4)
  have J191 : (v4 < σ 98 4) → (0 < v2) → (σ 129 v4 ≠ 1 ∨ (σ 129 v4 = 1 ∧ σ 130 v4 = (-1))) → zR G MX12_dividend 191 [zr 98, zi v1, zi v2, zi v3, zi v4, zu] [] σ Q := by
    intro h1 h2 h5
    have s6 : -2147483648 ≤ v4 + 1 ∧ v4 + 1 < (2147483648 : Int) := k6 h1 h2 h5
    refine z_iincN (ls' := [zr 98, zi v1, zi v2, zi v3, zi (v4 + 1), zu]) dX12_dividend_191 rfl (by decide) s6 rfl ?_
    refine z_goto dX12_dividend_194 (tgt := 109) (by decide) ?_
    exact k7 h1 h2 h5
  refine z_iload dX12_dividend_109 rfl ?_
  refine z_aload_n dX12_dividend_111 rfl rfl ?_
  refine z_getfI (k := 4) flRX12_259 rfl rfl dX12_dividend_112 ?_
  refine z_icmp_ge dX12_dividend_115 (tgt := 197) (by decide) (fun h1 => ?_) (fun h1 => ?_)
  · skip
    exact J197 (Or.inl h1)
  · skip
    refine z_iload_n dX12_dividend_118 rfl rfl ?_
    refine z_if_le dX12_dividend_119 (tgt := 197) (by decide) (fun h2 => ?_) (fun h2 => ?_)
    · skip
      exact J197 (Or.inr ⟨h1, h2⟩)
    · skip
      refine z_aload_n dX12_dividend_122 rfl rfl ?_
      refine z_getfR (k := 44) flRX12_106 rfl rfl dX12_dividend_123 ?_
      refine z_iload dX12_dividend_126 rfl ?_
      have s1 : (0 : Int) ≤ v4 ∧ v4 < (12 : Int) := k1 h1 h2
      refine z_iald rfl s1.1 s1.2 dX12_dividend_128 ?_
      refine z_iconst dX12_dividend_129 (by unfold zIn; decide) ?_
      refine z_icmp_ne dX12_dividend_130 (tgt := 191) (by decide) (fun h3 => ?_) (fun h3 => ?_)
      · skip
        exact J191 h1 h2 (Or.inl h3)
      · skip
        refine z_aload_n dX12_dividend_133 rfl rfl ?_
        refine z_getfR (k := 45) flRX12_109 rfl rfl dX12_dividend_134 ?_
        refine z_iload dX12_dividend_137 rfl ?_
        refine z_iald rfl s1.1 s1.2 dX12_dividend_139 ?_
        refine z_iconst dX12_dividend_140 (by unfold zIn; decide) ?_
        refine z_icmp_ne dX12_dividend_141 (tgt := 147) (by decide) (fun h4 => ?_) (fun h4 => ?_)
        · skip
          refine z_iload_n dX12_dividend_147 rfl rfl ?_
          refine z_i2l dX12_dividend_148 ?_
          refine z_aload_n dX12_dividend_149 rfl rfl ?_
          refine z_getfR (k := 69) flRX12_178 rfl rfl dX12_dividend_150 ?_
          refine z_aload_n dX12_dividend_153 rfl rfl ?_
          refine z_getfR (k := 45) flRX12_109 rfl rfl dX12_dividend_154 ?_
          refine z_iload dX12_dividend_157 rfl ?_
          refine z_iald rfl s1.1 s1.2 dX12_dividend_159 ?_
          have s2 : (0 : Int) ≤ σ 130 v4 ∧ σ 130 v4 < (24 : Int) := k2 h1 h2 h3 h4
          refine z_iald rfl s2.1 s2.2 dX12_dividend_160 ?_
          refine z_i2l dX12_dividend_161 ?_
          have s3 : -9223372036854775808 ≤ v1 * σ 153 (σ 130 v4) ∧ v1 * σ 153 (σ 130 v4) < (9223372036854775808 : Int) := k3 h1 h2 h3 h4
          refine z_lmulN dX12_dividend_162 s3 ?_
          refine z_iload_n dX12_dividend_163 rfl rfl ?_
          refine z_i2l dX12_dividend_164 ?_
          have s4 : v2 ≠ 0 := k4 h1 h2 h3 h4
          refine z_ldiv dX12_dividend_165 s4 ?_
          refine z_l2i dX12_dividend_166 ?_
          refine z_istore (ls' := [zr 98, zi v1, zi v2, zi v3, zi v4, zi (zW (zldiv (v1 * σ 153 (σ 130 v4)) v2))]) dX12_dividend_167 (by decide) rfl ?_
          refine z_aload_n dX12_dividend_169 rfl rfl ?_
          refine z_getfR (k := 70) flRX12_181 rfl rfl dX12_dividend_170 ?_
          refine z_aload_n dX12_dividend_173 rfl rfl ?_
          refine z_getfR (k := 45) flRX12_109 rfl rfl dX12_dividend_174 ?_
          refine z_iload dX12_dividend_177 rfl ?_
          refine z_iald rfl s1.1 s1.2 dX12_dividend_179 ?_
          refine z_dup2 dX12_dividend_180 rfl rfl ?_
          refine z_iald rfl s2.1 s2.2 dX12_dividend_181 ?_
          refine z_iload dX12_dividend_182 rfl ?_
          refine z_iadd dX12_dividend_184 ?_
          refine z_iast rfl s2.1 s2.2 dX12_dividend_185 ?_
          refine z_iload_n dX12_dividend_186 rfl rfl ?_
          refine z_iload dX12_dividend_187 rfl ?_
          have s5 : -2147483648 ≤ v3 + (zW (zldiv (v1 * σ 153 (σ 130 v4)) v2)) ∧ v3 + (zW (zldiv (v1 * σ 153 (σ 130 v4)) v2)) < (2147483648 : Int) := k5 h1 h2 h3 h4
          refine z_iaddN dX12_dividend_189 s5 ?_
          refine z_istore_n (ls' := [zr 98, zi v1, zi v2, zi (v3 + (zW (zldiv (v1 * σ 153 (σ 130 v4)) v2))), zi v4, zi (zW (zldiv (v1 * σ 153 (σ 130 v4)) v2))]) dX12_dividend_190 rfl (by decide) rfl ?_
          exact J191_1 h1 h2 h3 h4
        · skip
          refine z_goto dX12_dividend_144 (tgt := 191) (by decide) ?_
          exact J191 h1 h2 (Or.inr ⟨h3, h4⟩)
set_option maxRecDepth 20000 in
set_option maxHeartbeats 1000000 in
theorem TX12_got {G : zG} {σ : zS} {Q : Int → zS → Prop} {a1 : Int}  (k1 : (¬ ((0 ≤ a1 ∧ a1 < σ 98 1))) → Q (-1) σ) (k2 : ((0 ≤ a1 ∧ a1 < σ 98 1)) → (0 : Int) ≤ a1 ∧ a1 < (24 : Int)) (k3 : ((0 ≤ a1 ∧ a1 < σ 98 1)) → Q (σ 154 a1) σ) : zO G MX12_got [zr 98, zi a1] σ Q := by
  refine zO_of (ls0 := [zr 98, zi a1]) (by decide) (Nat.le_of_ble_eq_true rfl) rfl ?_
  refine z_aload_n dX12_got_0 rfl rfl ?_
  refine z_iload_n dX12_got_1 rfl rfl ?_
  refine z_callv (as := [zi a1]) (st := []) mkX12_isOne lkRX12_271 rfl rfl rfl (by decide) (Nat.le_of_ble_eq_true rfl) rfl dX12_got_2 ?_
  refine SX12_isOne ?_
  show zR G MX12_got 5 [zr 98, zi a1] [zi (if (0 ≤ a1 ∧ a1 < σ 98 1) then (1 : Int) else 0)] σ Q
  refine z_if_eq dX12_got_5 (tgt := 17) (by decide) (fun z => ?_) (fun z => ?_)
  · have h1 : ¬ ((0 ≤ a1 ∧ a1 < σ 98 1)) := zb0 z
    refine z_iconst dX12_got_17 (by unfold zIn; decide) ?_
    exact z_ireti rfl dX12_got_18 (k1 h1)
  · have h1 : (0 ≤ a1 ∧ a1 < σ 98 1) := zb1 z
    refine z_aload_n dX12_got_8 rfl rfl ?_
    refine z_getfR (k := 70) flRX12_181 rfl rfl dX12_got_9 ?_
    refine z_iload_n dX12_got_12 rfl rfl ?_
    have s2 : (0 : Int) ≤ a1 ∧ a1 < (24 : Int) := k2 h1
    refine z_iald rfl s2.1 s2.2 dX12_got_13 ?_
    refine z_goto dX12_got_14 (tgt := 18) (by decide) ?_
    exact z_ireti rfl dX12_got_18 (k3 h1)
set_option maxRecDepth 20000 in
set_option maxHeartbeats 1000000 in
theorem TX12_other {G : zG} {σ : zS} {Q : Int → zS → Prop} {a1 : Int}  (k1 : ((-99999) ≤ a1) → (a1 ≤ 99999) → -2147483648 ≤ σ 98 8 + a1 ∧ σ 98 8 + a1 < (2147483648 : Int)) (k2 : ((-99999) ≤ a1) → (a1 ≤ 99999) → (0 ≤ σ 98 8 + a1) → (σ 98 7 ≠ 400) → (0 : Int) ≤ σ 98 7 ∧ σ 98 7 < (400 : Int)) (k3 : ((-99999) ≤ a1) → (a1 ≤ 99999) → (0 ≤ σ 98 8 + a1) → (σ 98 7 ≠ 400) → -2147483648 ≤ σ 98 7 + 1 ∧ σ 98 7 + 1 < (2147483648 : Int)) (k4 : ((-99999) ≤ a1) → (a1 ≤ 99999) → (0 ≤ σ 98 8 + a1) → (σ 98 7 ≠ 400) → Q (σ 98 8 + a1) (zup (zup (zup (zup (zup σ 148 (σ 98 7) (zdiv (σ 98 0) 365)) 149 (σ 98 7) 3) 98 7 (σ 98 7 + 1)) 150 (σ 98 7) a1) 98 8 (σ 98 8 + a1))) (k5 : ((-99999) ≤ a1) → (a1 ≤ 99999) → (0 ≤ σ 98 8 + a1) → (σ 98 7 = 400) → -2147483648 ≤ -(-7) ∧ -(-7) < (2147483648 : Int)) (k6 : ((-99999) ≤ a1) → (a1 ≤ 99999) → (0 ≤ σ 98 8 + a1) → (σ 98 7 = 400) → (0 : Int) ≤ -(-7) ∧ -(-7) < (8 : Int)) (k7 : ((-99999) ≤ a1) → (a1 ≤ 99999) → (0 ≤ σ 98 8 + a1) → (σ 98 7 = 400) → Q (-7) (zup σ 157 (-(-7)) (zW ((σ 157 (-(-7))) + 1)))) (k8 : (a1 < (-99999) ∨ ((-99999) ≤ a1 ∧ 99999 < a1) ∨ ((-99999) ≤ a1 ∧ a1 ≤ 99999 ∧ σ 98 8 + a1 < 0)) → -2147483648 ≤ -(-6) ∧ -(-6) < (2147483648 : Int)) (k9 : (a1 < (-99999) ∨ ((-99999) ≤ a1 ∧ 99999 < a1) ∨ ((-99999) ≤ a1 ∧ a1 ≤ 99999 ∧ σ 98 8 + a1 < 0)) → (0 : Int) ≤ -(-6) ∧ -(-6) < (8 : Int)) (k10 : (a1 < (-99999) ∨ ((-99999) ≤ a1 ∧ 99999 < a1) ∨ ((-99999) ≤ a1 ∧ a1 ≤ 99999 ∧ σ 98 8 + a1 < 0)) → Q (-6) (zup σ 157 (-(-6)) (zW ((σ 157 (-(-6))) + 1)))) : zO G MX12_other [zr 98, zi a1] σ Q := by
  refine zO_of (ls0 := [zr 98, zi a1]) (by decide) (Nat.le_of_ble_eq_true rfl) rfl ?_
  have J23 : (a1 < (-99999) ∨ ((-99999) ≤ a1 ∧ 99999 < a1) ∨ ((-99999) ≤ a1 ∧ a1 ≤ 99999 ∧ σ 98 8 + a1 < 0)) → zR G MX12_other 23 [zr 98, zi a1] [] σ Q := by
    intro h5
    refine z_aload_n dX12_other_23 rfl rfl ?_
    refine z_bipush (x := (-6)) dX12_other_24 (by decide +kernel) (by unfold zIn; decide) ?_
    have s8 : -2147483648 ≤ -(-6) ∧ -(-6) < (2147483648 : Int) := k8 h5
    have s9 : (0 : Int) ≤ -(-6) ∧ -(-6) < (8 : Int) := k9 h5
    refine z_callv (as := [zi (-6)]) (st := []) mkX12_no lkRX12_267 rfl rfl rfl (by decide) (Nat.le_of_ble_eq_true rfl) rfl dX12_other_26 ?_
    refine SX12_no s8 s9 ?_
    show zR G MX12_other 29 [zr 98, zi a1] [zi (-6)] (zup σ 157 (-(-6)) (zW ((σ 157 (-(-6))) + 1))) Q
    exact z_ireti rfl dX12_other_29 (k10 h5)
  refine z_iload_n dX12_other_0 rfl rfl ?_
  refine z_ldcw (x := (-99999)) (zin_9 (List.mem_of_getElem? (i := 64) (by decide +kernel))) (by unfold zIn; decide) dX12_other_1 ?_
  refine z_icmp_lt dX12_other_4 (tgt := 23) (by decide) (fun h1 => ?_) (fun h1 => ?_)
  · skip
    exact J23 (Or.inl h1)
  · skip
    refine z_iload_n dX12_other_7 rfl rfl ?_
    refine z_ldcw (x := 99999) (zin_9 (List.mem_of_getElem? (i := 65) (by decide +kernel))) (by unfold zIn; decide) dX12_other_8 ?_
    refine z_icmp_gt dX12_other_11 (tgt := 23) (by decide) (fun h2 => ?_) (fun h2 => ?_)
    · skip
      exact J23 (Or.inr (Or.inl ⟨h1, h2⟩))
    · skip
      refine z_aload_n dX12_other_14 rfl rfl ?_
      refine z_getfI (k := 8) flRX12_453 rfl rfl dX12_other_15 ?_
      refine z_iload_n dX12_other_18 rfl rfl ?_
      have s1 : -2147483648 ≤ σ 98 8 + a1 ∧ σ 98 8 + a1 < (2147483648 : Int) := k1 h1 h2
      refine z_iaddN dX12_other_19 s1 ?_
      refine z_if_ge dX12_other_20 (tgt := 30) (by decide) (fun h3 => ?_) (fun h3 => ?_)
      · skip
        refine z_aload_n dX12_other_30 rfl rfl ?_
        refine z_getfI (k := 7) flRX12_447 rfl rfl dX12_other_31 ?_
        refine z_sipush (x := 400) dX12_other_34 (by decide +kernel) (by unfold zIn; decide) ?_
        refine z_icmp_ne dX12_other_37 (tgt := 47) (by decide) (fun h4 => ?_) (fun h4 => ?_)
        · skip
          refine z_aload_n dX12_other_47 rfl rfl ?_
          refine z_iconst dX12_other_48 (by unfold zIn; decide) ?_
          refine z_iload_n dX12_other_49 rfl rfl ?_
          have s2 : (0 : Int) ≤ σ 98 7 ∧ σ 98 7 < (400 : Int) := k2 h1 h2 h3 h4
          have s3 : -2147483648 ≤ σ 98 7 + 1 ∧ σ 98 7 + 1 < (2147483648 : Int) := k3 h1 h2 h3 h4
          refine z_callv (as := [zi 3, zi a1]) (st := []) mkX12_enters lkRX12_459 rfl rfl rfl (by decide) (Nat.le_of_ble_eq_true rfl) rfl dX12_other_50 ?_
          refine SX12_enters s2 s3 s1 ?_
          show zR G MX12_other 53 [zr 98, zi a1] [] (zup (zup (zup (zup (zup σ 148 (σ 98 7) (zdiv (σ 98 0) 365)) 149 (σ 98 7) 3) 98 7 (σ 98 7 + 1)) 150 (σ 98 7) a1) 98 8 (σ 98 8 + a1)) Q
          refine z_aload_n dX12_other_53 rfl rfl ?_
          refine z_getfE (k := 8) (v := σ 98 8 + a1) flRX12_453 rfl rfl (zup_same) dX12_other_54 ?_
          exact z_ireti rfl dX12_other_57 (k4 h1 h2 h3 h4)
        · skip
          refine z_aload_n dX12_other_40 rfl rfl ?_
          refine z_bipush (x := (-7)) dX12_other_41 (by decide +kernel) (by unfold zIn; decide) ?_
          have s5 : -2147483648 ≤ -(-7) ∧ -(-7) < (2147483648 : Int) := k5 h1 h2 h3 h4
          have s6 : (0 : Int) ≤ -(-7) ∧ -(-7) < (8 : Int) := k6 h1 h2 h3 h4
          refine z_callv (as := [zi (-7)]) (st := []) mkX12_no lkRX12_267 rfl rfl rfl (by decide) (Nat.le_of_ble_eq_true rfl) rfl dX12_other_43 ?_
          refine SX12_no s5 s6 ?_
          show zR G MX12_other 46 [zr 98, zi a1] [zi (-7)] (zup σ 157 (-(-7)) (zW ((σ 157 (-(-7))) + 1))) Q
          exact z_ireti rfl dX12_other_46 (k7 h1 h2 h3 h4)
      · skip
        exact J23 (Or.inr (Or.inr ⟨h1, h2, h3⟩))
