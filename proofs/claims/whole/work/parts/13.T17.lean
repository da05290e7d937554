set_option maxRecDepth 20000 in
set_option maxHeartbeats 1000000 in
theorem TX12_dividend {G : zG} {σ : zS} {Q : Int → zS → Prop} {a1 : Int}  (k1 : (0 ≤ a1) → (a1 ≤ σ 98 8) → (0 : Int) ≤ zdiv (σ 98 0) 365 ∧ zdiv (σ 98 0) 365 < (120 : Int)) (k2 : (0 ≤ a1) → (a1 ≤ σ 98 8) → (σ 152 (zdiv (σ 98 0) 365) = 0) → (σ 98 7 ≠ 400) → zO G MX12_newYear [zr 98] σ (fun rr σ' => zR G MX12_dividend 52 [zr 98, zi a1, zu, zu, zu, zu] [] σ' Q)) (k3 : (0 ≤ a1) → (a1 ≤ σ 98 8) → (σ 152 (zdiv (σ 98 0) 365) = 0) → (σ 98 7 = 400) → -2147483648 ≤ -(-7) ∧ -(-7) < (2147483648 : Int)) (k4 : (0 ≤ a1) → (a1 ≤ σ 98 8) → (σ 152 (zdiv (σ 98 0) 365) = 0) → (σ 98 7 = 400) → (0 : Int) ≤ -(-7) ∧ -(-7) < (8 : Int)) (k5 : (0 ≤ a1) → (a1 ≤ σ 98 8) → (σ 152 (zdiv (σ 98 0) 365) = 0) → (σ 98 7 = 400) → -2147483648 ≤ (σ 157 (-(-7))) + 1 ∧ (σ 157 (-(-7))) + 1 < (2147483648 : Int)) (k6 : (0 ≤ a1) → (a1 ≤ σ 98 8) → (σ 152 (zdiv (σ 98 0) 365) = 0) → (σ 98 7 = 400) → Q (-7) (zup σ 157 (-(-7)) ((σ 157 (-(-7))) + 1))) (k7 : (a1 < 0 ∨ (0 ≤ a1 ∧ σ 98 8 < a1) ∨ (0 ≤ a1 ∧ a1 ≤ σ 98 8 ∧ σ 152 (zdiv (σ 98 0) 365) ≠ 0)) → -2147483648 ≤ -(-6) ∧ -(-6) < (2147483648 : Int)) (k8 : (a1 < 0 ∨ (0 ≤ a1 ∧ σ 98 8 < a1) ∨ (0 ≤ a1 ∧ a1 ≤ σ 98 8 ∧ σ 152 (zdiv (σ 98 0) 365) ≠ 0)) → (0 : Int) ≤ -(-6) ∧ -(-6) < (8 : Int)) (k9 : (a1 < 0 ∨ (0 ≤ a1 ∧ σ 98 8 < a1) ∨ (0 ≤ a1 ∧ a1 ≤ σ 98 8 ∧ σ 152 (zdiv (σ 98 0) 365) ≠ 0)) → -2147483648 ≤ (σ 157 (-(-6))) + 1 ∧ (σ 157 (-(-6))) + 1 < (2147483648 : Int)) (k10 : (a1 < 0 ∨ (0 ≤ a1 ∧ σ 98 8 < a1) ∨ (0 ≤ a1 ∧ a1 ≤ σ 98 8 ∧ σ 152 (zdiv (σ 98 0) 365) ≠ 0)) → Q (-6) (zup σ 157 (-(-6)) ((σ 157 (-(-6))) + 1))) : zO G MX12_dividend [zr 98, zi a1] σ Q := by
  refine zO_of (ls0 := [zr 98, zi a1, zu, zu, zu, zu]) (by decide) (Nat.le_of_ble_eq_true rfl) rfl ?_
  have J24 : (a1 < 0 ∨ (0 ≤ a1 ∧ σ 98 8 < a1) ∨ (0 ≤ a1 ∧ a1 ≤ σ 98 8 ∧ σ 152 (zdiv (σ 98 0) 365) ≠ 0)) → zR G MX12_dividend 24 [zr 98, zi a1, zu, zu, zu, zu] [] σ Q := by
    intro h5
    refine z_aload_n dX12_dividend_24 rfl rfl ?_
    refine z_bipush (x := (-6)) dX12_dividend_25 (by decide +kernel) (by unfold zIn; decide) ?_
    have s7 : -2147483648 ≤ -(-6) ∧ -(-6) < (2147483648 : Int) := k7 h5
    have s8 : (0 : Int) ≤ -(-6) ∧ -(-6) < (8 : Int) := k8 h5
    have s9 : -2147483648 ≤ (σ 157 (-(-6))) + 1 ∧ (σ 157 (-(-6))) + 1 < (2147483648 : Int) := k9 h5
    refine z_callv (as := [zi (-6)]) (st := []) mkX12_no lkRX12_267 rfl rfl rfl (by decide) (Nat.le_of_ble_eq_true rfl) rfl dX12_dividend_27 ?_
    refine SX12_no s7 s8 s9 ?_
    show zR G MX12_dividend 30 [zr 98, zi a1, zu, zu, zu, zu] [zi (-6)] (zup σ 157 (-(-6)) ((σ 157 (-(-6))) + 1)) Q
    exact z_ireti rfl dX12_dividend_30 (k10 h5)
  refine z_iload_n dX12_dividend_0 rfl rfl ?_
  refine z_if_lt dX12_dividend_1 (tgt := 24) (by decide) (fun h1 => ?_) (fun h1 => ?_)
  · skip
    exact J24 (Or.inl h1)
  · skip
    refine z_iload_n dX12_dividend_4 rfl rfl ?_
    refine z_aload_n dX12_dividend_5 rfl rfl ?_
    refine z_getfI (k := 8) flRX12_453 rfl rfl dX12_dividend_6 ?_
    refine z_icmp_gt dX12_dividend_9 (tgt := 24) (by decide) (fun h2 => ?_) (fun h2 => ?_)
    · skip
      exact J24 (Or.inr (Or.inl ⟨h1, h2⟩))
    · skip
      refine z_aload_n dX12_dividend_12 rfl rfl ?_
      refine z_getfR (k := 68) flRX12_175 rfl rfl dX12_dividend_13 ?_
      refine z_aload_n dX12_dividend_16 rfl rfl ?_
      refine z_callv (as := []) (st := [zr 152]) mkX12_year lkRX12_450 rfl rfl rfl (by decide) (Nat.le_of_ble_eq_true rfl) rfl dX12_dividend_17 ?_
      refine SX12_year ?_
      show zR G MX12_dividend 20 [zr 98, zi a1, zu, zu, zu, zu] [zi (zdiv (σ 98 0) 365), zr 152] σ Q
      have s1 : (0 : Int) ≤ zdiv (σ 98 0) 365 ∧ zdiv (σ 98 0) 365 < (120 : Int) := k1 h1 h2
      refine z_bald rfl s1.1 s1.2 dX12_dividend_20 ?_
      refine z_if_eq dX12_dividend_21 (tgt := 31) (by decide) (fun h3 => ?_) (fun h3 => ?_)
      · skip
        refine z_aload_n dX12_dividend_31 rfl rfl ?_
        refine z_getfI (k := 7) flRX12_447 rfl rfl dX12_dividend_32 ?_
        refine z_sipush (x := 400) dX12_dividend_35 (by decide +kernel) (by unfold zIn; decide) ?_
        refine z_icmp_ne dX12_dividend_38 (tgt := 48) (by decide) (fun h4 => ?_) (fun h4 => ?_)
        · skip
          refine z_aload_n dX12_dividend_48 rfl rfl ?_
          refine z_callv (as := []) (st := []) mkX12_newYear lkRX12_465 rfl rfl rfl (by decide) (Nat.le_of_ble_eq_true rfl) rfl dX12_dividend_49 (k2 h1 h2 h3 h4)
        · skip
          refine z_aload_n dX12_dividend_41 rfl rfl ?_
          refine z_bipush (x := (-7)) dX12_dividend_42 (by decide +kernel) (by unfold zIn; decide) ?_
          have s3 : -2147483648 ≤ -(-7) ∧ -(-7) < (2147483648 : Int) := k3 h1 h2 h3 h4
          have s4 : (0 : Int) ≤ -(-7) ∧ -(-7) < (8 : Int) := k4 h1 h2 h3 h4
          have s5 : -2147483648 ≤ (σ 157 (-(-7))) + 1 ∧ (σ 157 (-(-7))) + 1 < (2147483648 : Int) := k5 h1 h2 h3 h4
          refine z_callv (as := [zi (-7)]) (st := []) mkX12_no lkRX12_267 rfl rfl rfl (by decide) (Nat.le_of_ble_eq_true rfl) rfl dX12_dividend_44 ?_
          refine SX12_no s3 s4 s5 ?_
          show zR G MX12_dividend 47 [zr 98, zi a1, zu, zu, zu, zu] [zi (-7)] (zup σ 157 (-(-7)) ((σ 157 (-(-7))) + 1)) Q
          exact z_ireti rfl dX12_dividend_47 (k6 h1 h2 h3 h4)
      · skip
        exact J24 (Or.inr (Or.inr ⟨h1, h2, h3⟩))
set_option maxRecDepth 20000 in
set_option maxHeartbeats 1000000 in
theorem TX12_dividend_52 {G : zG} {σ : zS} {Q : Int → zS → Prop} {v1 : Int}  (k1 : zR G MX12_dividend 56 [zr 98, zi v1, zi 0, zi 0, zu, zu] [] σ Q) : zR G MX12_dividend 52 [zr 98, zi v1, zu, zu, zu, zu] [] σ Q := by
  refine z_iconst dX12_dividend_52 (by unfold zIn; decide) ?_
  refine z_istore_n (ls' := [zr 98, zi v1, zi 0, zu, zu, zu]) dX12_dividend_53 rfl (by decide) rfl ?_
  refine z_iconst dX12_dividend_54 (by unfold zIn; decide) ?_
  refine z_istore_n (ls' := [zr 98, zi v1, zi 0, zi 0, zu, zu]) dX12_dividend_55 rfl (by decide) rfl ?_
  exact k1
set_option maxRecDepth 20000 in
set_option maxHeartbeats 1000000 in
theorem TX12_dividend_56 {G : zG} {σ : zS} {Q : Int → zS → Prop} {v1 v2 v3 : Int}  (k1 : (σ 98 4 ≤ v3) → zR G MX12_dividend 109 [zr 98, zi v1, zi v2, zi 0, zi 0, zu] [] σ Q) (k2 : (v3 < σ 98 4) → (0 : Int) ≤ v3 ∧ v3 < (12 : Int)) (k3 : (v3 < σ 98 4) → (σ 129 v3 = 1) → (σ 130 v3 ≠ (-1)) → (0 : Int) ≤ σ 130 v3 ∧ σ 130 v3 < (24 : Int)) (k4 : (v3 < σ 98 4) → (σ 129 v3 = 1) → (σ 130 v3 ≠ (-1)) → -2147483648 ≤ v2 + σ 153 (σ 130 v3) ∧ v2 + σ 153 (σ 130 v3) < (2147483648 : Int)) (k5 : (v3 < σ 98 4) → (σ 129 v3 ≠ 1 ∨ (σ 129 v3 = 1 ∧ σ 130 v3 = (-1))) → -2147483648 ≤ v3 + 1 ∧ v3 + 1 < (2147483648 : Int)) (k6 : (v3 < σ 98 4) → (σ 129 v3 ≠ 1 ∨ (σ 129 v3 = 1 ∧ σ 130 v3 = (-1))) → zR G MX12_dividend 56 [zr 98, zi v1, zi v2, zi (v3 + 1), zu, zu] [] σ Q) (k7 : (v3 < σ 98 4) → (σ 129 v3 = 1) → (σ 130 v3 ≠ (-1)) → -2147483648 ≤ v3 + 1 ∧ v3 + 1 < (2147483648 : Int)) (k8 : (v3 < σ 98 4) → (σ 129 v3 = 1) → (σ 130 v3 ≠ (-1)) → zR G MX12_dividend 56 [zr 98, zi v1, zi (v2 + σ 153 (σ 130 v3)), zi (v3 + 1), zu, zu] [] σ Q) : zR G MX12_dividend 56 [zr 98, zi v1, zi v2, zi v3, zu, zu] [] σ Q := by
  have J98_1 : (v3 < σ 98 4) → (σ 129 v3 = 1) → (σ 130 v3 ≠ (-1)) → zR G MX12_dividend 98 [zr 98, zi v1, zi (v2 + σ 153 (σ 130 v3)), zi v3, zu, zu] [] σ Q := by
    intro h1 h2 h3
    have s7 : -2147483648 ≤ v3 + 1 ∧ v3 + 1 < (2147483648 : Int) := k7 h1 h2 h3
    refine z_iincN (ls' := [zr 98, zi v1, zi (v2 + σ 153 (σ 130 v3)), zi (v3 + 1), zu, zu]) dX12_dividend_98 rfl (by decide) s7 rfl ?_
    refine z_goto dX12_dividend_101 (tgt := 56) (by decide) ?_
    exact k8 h1 h2 h3
  have J98 : (v3 < σ 98 4) → (σ 129 v3 ≠ 1 ∨ (σ 129 v3 = 1 ∧ σ 130 v3 = (-1))) → zR G MX12_dividend 98 [zr 98, zi v1, zi v2, zi v3, zu, zu] [] σ Q := by
    intro h1 h4
    have s5 : -2147483648 ≤ v3 + 1 ∧ v3 + 1 < (2147483648 : Int) := k5 h1 h4
    refine z_iincN (ls' := [zr 98, zi v1, zi v2, zi (v3 + 1), zu, zu]) dX12_dividend_98 rfl (by decide) s5 rfl ?_
    refine z_goto dX12_dividend_101 (tgt := 56) (by decide) ?_
    exact k6 h1 h4
  refine z_iload_n dX12_dividend_56 rfl rfl ?_
  refine z_aload_n dX12_dividend_57 rfl rfl ?_
  refine z_getfI (k := 4) flRX12_259 rfl rfl dX12_dividend_58 ?_
  refine z_icmp_ge dX12_dividend_61 (tgt := 104) (by decide) (fun h1 => ?_) (fun h1 => ?_)
  · skip
    refine z_iconst dX12_dividend_104 (by unfold zIn; decide) ?_
    refine z_istore_n (ls' := [zr 98, zi v1, zi v2, zi 0, zu, zu]) dX12_dividend_105 rfl (by decide) rfl ?_
    refine z_iconst dX12_dividend_106 (by unfold zIn; decide) ?_
    refine z_istore (ls' := [zr 98, zi v1, zi v2, zi 0, zi 0, zu]) dX12_dividend_107 (by decide) rfl ?_
    exact k1 h1
  · skip
    refine z_aload_n dX12_dividend_64 rfl rfl ?_
    refine z_getfR (k := 44) flRX12_106 rfl rfl dX12_dividend_65 ?_
    refine z_iload_n dX12_dividend_68 rfl rfl ?_
    have s2 : (0 : Int) ≤ v3 ∧ v3 < (12 : Int) := k2 h1
    refine z_iald rfl s2.1 s2.2 dX12_dividend_69 ?_
    refine z_iconst dX12_dividend_70 (by unfold zIn; decide) ?_
    refine z_icmp_ne dX12_dividend_71 (tgt := 98) (by decide) (fun h2 => ?_) (fun h2 => ?_)
    · skip
      exact J98 h1 (Or.inl h2)
    · skip
      refine z_aload_n dX12_dividend_74 rfl rfl ?_
      refine z_getfR (k := 45) flRX12_109 rfl rfl dX12_dividend_75 ?_
      refine z_iload_n dX12_dividend_78 rfl rfl ?_
      refine z_iald rfl s2.1 s2.2 dX12_dividend_79 ?_
      refine z_iconst dX12_dividend_80 (by unfold zIn; decide) ?_
      refine z_icmp_eq dX12_dividend_81 (tgt := 98) (by decide) (fun h3 => ?_) (fun h3 => ?_)
      · skip
        exact J98 h1 (Or.inr ⟨h2, h3⟩)
      · skip
        refine z_iload_n dX12_dividend_84 rfl rfl ?_
        refine z_aload_n dX12_dividend_85 rfl rfl ?_
        refine z_getfR (k := 69) flRX12_178 rfl rfl dX12_dividend_86 ?_
        refine z_aload_n dX12_dividend_89 rfl rfl ?_
        refine z_getfR (k := 45) flRX12_109 rfl rfl dX12_dividend_90 ?_
        refine z_iload_n dX12_dividend_93 rfl rfl ?_
        refine z_iald rfl s2.1 s2.2 dX12_dividend_94 ?_
        have s3 : (0 : Int) ≤ σ 130 v3 ∧ σ 130 v3 < (24 : Int) := k3 h1 h2 h3
        refine z_iald rfl s3.1 s3.2 dX12_dividend_95 ?_
        have s4 : -2147483648 ≤ v2 + σ 153 (σ 130 v3) ∧ v2 + σ 153 (σ 130 v3) < (2147483648 : Int) := k4 h1 h2 h3
        refine z_iaddN dX12_dividend_96 s4 ?_
        refine z_istore_n (ls' := [zr 98, zi v1, zi (v2 + σ 153 (σ 130 v3)), zi v3, zu, zu]) dX12_dividend_97 rfl (by decide) rfl ?_
        exact J98_1 h1 h2 h3
set_option maxRecDepth 20000 in
set_option maxHeartbeats 1000000 in
theorem TX12_dividend_109 {G : zG} {σ : zS} {Q : Int → zS → Prop} {v1 v2 v3 v4 : Int}  (k1 : (v4 < σ 98 4) → (0 < v2) → (0 : Int) ≤ v4 ∧ v4 < (12 : Int)) (k2 : (v4 < σ 98 4) → (0 < v2) → (σ 129 v4 = 1) → (σ 130 v4 ≠ (-1)) → (0 : Int) ≤ σ 130 v4 ∧ σ 130 v4 < (24 : Int)) (k3 : (v4 < σ 98 4) → (0 < v2) → (σ 129 v4 = 1) → (σ 130 v4 ≠ (-1)) → -9223372036854775808 ≤ v1 * σ 153 (σ 130 v4) ∧ v1 * σ 153 (σ 130 v4) < (9223372036854775808 : Int)) (k4 : (v4 < σ 98 4) → (0 < v2) → (σ 129 v4 = 1) → (σ 130 v4 ≠ (-1)) → v2 ≠ 0) (k5 : (v4 < σ 98 4) → (0 < v2) → (σ 129 v4 = 1) → (σ 130 v4 ≠ (-1)) → -2147483648 ≤ σ 154 (σ 130 v4) + (zW (zldiv (v1 * σ 153 (σ 130 v4)) v2)) ∧ σ 154 (σ 130 v4) + (zW (zldiv (v1 * σ 153 (σ 130 v4)) v2)) < (2147483648 : Int)) (k6 : (v4 < σ 98 4) → (0 < v2) → (σ 129 v4 = 1) → (σ 130 v4 ≠ (-1)) → -2147483648 ≤ v3 + (zW (zldiv (v1 * σ 153 (σ 130 v4)) v2)) ∧ v3 + (zW (zldiv (v1 * σ 153 (σ 130 v4)) v2)) < (2147483648 : Int)) (k7 : (v4 < σ 98 4) → (0 < v2) → (σ 129 v4 ≠ 1 ∨ (σ 129 v4 = 1 ∧ σ 130 v4 = (-1))) → -2147483648 ≤ v4 + 1 ∧ v4 + 1 < (2147483648 : Int)) (k8 : (v4 < σ 98 4) → (0 < v2) → (σ 129 v4 ≠ 1 ∨ (σ 129 v4 = 1 ∧ σ 130 v4 = (-1))) → zR G MX12_dividend 109 [zr 98, zi v1, zi v2, zi v3, zi (v4 + 1), zu] [] σ Q) (k9 : (v4 < σ 98 4) → (0 < v2) → (σ 129 v4 = 1) → (σ 130 v4 ≠ (-1)) → -2147483648 ≤ v4 + 1 ∧ v4 + 1 < (2147483648 : Int)) (k10 : (v4 < σ 98 4) → (0 < v2) → (σ 129 v4 = 1) → (σ 130 v4 ≠ (-1)) → zR G MX12_dividend 109 [zr 98, zi v1, zi v2, zi (v3 + (zW (zldiv (v1 * σ 153 (σ 130 v4)) v2))), zi (v4 + 1), zu] [] (zup σ 154 (σ 130 v4) (σ 154 (σ 130 v4) + (zW (zldiv (v1 * σ 153 (σ 130 v4)) v2)))) Q) (k11 : (σ 98 4 ≤ v4 ∨ (v4 < σ 98 4 ∧ v2 ≤ 0)) → (0 : Int) ≤ zdiv (σ 98 0) 365 ∧ zdiv (σ 98 0) 365 < (120 : Int)) (k12 : (σ 98 4 ≤ v4 ∨ (v4 < σ 98 4 ∧ v2 ≤ 0)) → -2147483648 ≤ -v3 ∧ -v3 < (2147483648 : Int)) (k13 : (σ 98 4 ≤ v4 ∨ (v4 < σ 98 4 ∧ v2 ≤ 0)) → (0 : Int) ≤ (zup σ 152 (zdiv (σ 98 0) 365) 1) 98 7 ∧ (zup σ 152 (zdiv (σ 98 0) 365) 1) 98 7 < (400 : Int)) (k14 : (σ 98 4 ≤ v4 ∨ (v4 < σ 98 4 ∧ v2 ≤ 0)) → (0 : Int) ≤ (zup (zup σ 152 (zdiv (σ 98 0) 365) 1) 148 ((zup σ 152 (zdiv (σ 98 0) 365) 1) 98 7) (zdiv ((zup σ 152 (zdiv (σ 98 0) 365) 1) 98 0) 365)) 98 7 ∧ (zup (zup σ 152 (zdiv (σ 98 0) 365) 1) 148 ((zup σ 152 (zdiv (σ 98 0) 365) 1) 98 7) (zdiv ((zup σ 152 (zdiv (σ 98 0) 365) 1) 98 0) 365)) 98 7 < (400 : Int)) (k15 : (σ 98 4 ≤ v4 ∨ (v4 < σ 98 4 ∧ v2 ≤ 0)) → -2147483648 ≤ (zup (zup (zup σ 152 (zdiv (σ 98 0) 365) 1) 148 ((zup σ 152 (zdiv (σ 98 0) 365) 1) 98 7) (zdiv ((zup σ 152 (zdiv (σ 98 0) 365) 1) 98 0) 365)) 149 ((zup (zup σ 152 (zdiv (σ 98 0) 365) 1) 148 ((zup σ 152 (zdiv (σ 98 0) 365) 1) 98 7) (zdiv ((zup σ 152 (zdiv (σ 98 0) 365) 1) 98 0) 365)) 98 7) 2) 98 7 + 1 ∧ (zup (zup (zup σ 152 (zdiv (σ 98 0) 365) 1) 148 ((zup σ 152 (zdiv (σ 98 0) 365) 1) 98 7) (zdiv ((zup σ 152 (zdiv (σ 98 0) 365) 1) 98 0) 365)) 149 ((zup (zup σ 152 (zdiv (σ 98 0) 365) 1) 148 ((zup σ 152 (zdiv (σ 98 0) 365) 1) 98 7) (zdiv ((zup σ 152 (zdiv (σ 98 0) 365) 1) 98 0) 365)) 98 7) 2) 98 7 + 1 < (2147483648 : Int)) (k16 : (σ 98 4 ≤ v4 ∨ (v4 < σ 98 4 ∧ v2 ≤ 0)) → (0 : Int) ≤ (zup (zup (zup σ 152 (zdiv (σ 98 0) 365) 1) 148 ((zup σ 152 (zdiv (σ 98 0) 365) 1) 98 7) (zdiv ((zup σ 152 (zdiv (σ 98 0) 365) 1) 98 0) 365)) 149 ((zup (zup σ 152 (zdiv (σ 98 0) 365) 1) 148 ((zup σ 152 (zdiv (σ 98 0) 365) 1) 98 7) (zdiv ((zup σ 152 (zdiv (σ 98 0) 365) 1) 98 0) 365)) 98 7) 2) 98 7 ∧ (zup (zup (zup σ 152 (zdiv (σ 98 0) 365) 1) 148 ((zup σ 152 (zdiv (σ 98 0) 365) 1) 98 7) (zdiv ((zup σ 152 (zdiv (σ 98 0) 365) 1) 98 0) 365)) 149 ((zup (zup σ 152 (zdiv (σ 98 0) 365) 1) 148 ((zup σ 152 (zdiv (σ 98 0) 365) 1) 98 7) (zdiv ((zup σ 152 (zdiv (σ 98 0) 365) 1) 98 0) 365)) 98 7) 2) 98 7 < (400 : Int)) (k17 : (σ 98 4 ≤ v4 ∨ (v4 < σ 98 4 ∧ v2 ≤ 0)) → -2147483648 ≤ ((zup (zup (zup (zup (zup σ 152 (zdiv (σ 98 0) 365) 1) 148 ((zup σ 152 (zdiv (σ 98 0) 365) 1) 98 7) (zdiv ((zup σ 152 (zdiv (σ 98 0) 365) 1) 98 0) 365)) 149 ((zup (zup σ 152 (zdiv (σ 98 0) 365) 1) 148 ((zup σ 152 (zdiv (σ 98 0) 365) 1) 98 7) (zdiv ((zup σ 152 (zdiv (σ 98 0) 365) 1) 98 0) 365)) 98 7) 2) 98 7 ((zup (zup (zup σ 152 (zdiv (σ 98 0) 365) 1) 148 ((zup σ 152 (zdiv (σ 98 0) 365) 1) 98 7) (zdiv ((zup σ 152 (zdiv (σ 98 0) 365) 1) 98 0) 365)) 149 ((zup (zup σ 152 (zdiv (σ 98 0) 365) 1) 148 ((zup σ 152 (zdiv (σ 98 0) 365) 1) 98 7) (zdiv ((zup σ 152 (zdiv (σ 98 0) 365) 1) 98 0) 365)) 98 7) 2) 98 7 + 1)) 150 ((zup (zup (zup σ 152 (zdiv (σ 98 0) 365) 1) 148 ((zup σ 152 (zdiv (σ 98 0) 365) 1) 98 7) (zdiv ((zup σ 152 (zdiv (σ 98 0) 365) 1) 98 0) 365)) 149 ((zup (zup σ 152 (zdiv (σ 98 0) 365) 1) 148 ((zup σ 152 (zdiv (σ 98 0) 365) 1) 98 7) (zdiv ((zup σ 152 (zdiv (σ 98 0) 365) 1) 98 0) 365)) 98 7) 2) 98 7) (-v3)) 98 8) + (-v3) ∧ ((zup (zup (zup (zup (zup σ 152 (zdiv (σ 98 0) 365) 1) 148 ((zup σ 152 (zdiv (σ 98 0) 365) 1) 98 7) (zdiv ((zup σ 152 (zdiv (σ 98 0) 365) 1) 98 0) 365)) 149 ((zup (zup σ 152 (zdiv (σ 98 0) 365) 1) 148 ((zup σ 152 (zdiv (σ 98 0) 365) 1) 98 7) (zdiv ((zup σ 152 (zdiv (σ 98 0) 365) 1) 98 0) 365)) 98 7) 2) 98 7 ((zup (zup (zup σ 152 (zdiv (σ 98 0) 365) 1) 148 ((zup σ 152 (zdiv (σ 98 0) 365) 1) 98 7) (zdiv ((zup σ 152 (zdiv (σ 98 0) 365) 1) 98 0) 365)) 149 ((zup (zup σ 152 (zdiv (σ 98 0) 365) 1) 148 ((zup σ 152 (zdiv (σ 98 0) 365) 1) 98 7) (zdiv ((zup σ 152 (zdiv (σ 98 0) 365) 1) 98 0) 365)) 98 7) 2) 98 7 + 1)) 150 ((zup (zup (zup σ 152 (zdiv (σ 98 0) 365) 1) 148 ((zup σ 152 (zdiv (σ 98 0) 365) 1) 98 7) (zdiv ((zup σ 152 (zdiv (σ 98 0) 365) 1) 98 0) 365)) 149 ((zup (zup σ 152 (zdiv (σ 98 0) 365) 1) 148 ((zup σ 152 (zdiv (σ 98 0) 365) 1) 98 7) (zdiv ((zup σ 152 (zdiv (σ 98 0) 365) 1) 98 0) 365)) 98 7) 2) 98 7) (-v3)) 98 8) + (-v3) < (2147483648 : Int)) (k18 : (σ 98 4 ≤ v4 ∨ (v4 < σ 98 4 ∧ v2 ≤ 0)) → Q v3 (zup (zup (zup (zup (zup (zup σ 152 (zdiv (σ 98 0) 365) 1) 148 ((zup σ 152 (zdiv (σ 98 0) 365) 1) 98 7) (zdiv ((zup σ 152 (zdiv (σ 98 0) 365) 1) 98 0) 365)) 149 ((zup (zup σ 152 (zdiv (σ 98 0) 365) 1) 148 ((zup σ 152 (zdiv (σ 98 0) 365) 1) 98 7) (zdiv ((zup σ 152 (zdiv (σ 98 0) 365) 1) 98 0) 365)) 98 7) 2) 98 7 ((zup (zup (zup σ 152 (zdiv (σ 98 0) 365) 1) 148 ((zup σ 152 (zdiv (σ 98 0) 365) 1) 98 7) (zdiv ((zup σ 152 (zdiv (σ 98 0) 365) 1) 98 0) 365)) 149 ((zup (zup σ 152 (zdiv (σ 98 0) 365) 1) 148 ((zup σ 152 (zdiv (σ 98 0) 365) 1) 98 7) (zdiv ((zup σ 152 (zdiv (σ 98 0) 365) 1) 98 0) 365)) 98 7) 2) 98 7 + 1)) 150 ((zup (zup (zup σ 152 (zdiv (σ 98 0) 365) 1) 148 ((zup σ 152 (zdiv (σ 98 0) 365) 1) 98 7) (zdiv ((zup σ 152 (zdiv (σ 98 0) 365) 1) 98 0) 365)) 149 ((zup (zup σ 152 (zdiv (σ 98 0) 365) 1) 148 ((zup σ 152 (zdiv (σ 98 0) 365) 1) 98 7) (zdiv ((zup σ 152 (zdiv (σ 98 0) 365) 1) 98 0) 365)) 98 7) 2) 98 7) (-v3)) 98 8 (((zup (zup (zup (zup (zup σ 152 (zdiv (σ 98 0) 365) 1) 148 ((zup σ 152 (zdiv (σ 98 0) 365) 1) 98 7) (zdiv ((zup σ 152 (zdiv (σ 98 0) 365) 1) 98 0) 365)) 149 ((zup (zup σ 152 (zdiv (σ 98 0) 365) 1) 148 ((zup σ 152 (zdiv (σ 98 0) 365) 1) 98 7) (zdiv ((zup σ 152 (zdiv (σ 98 0) 365) 1) 98 0) 365)) 98 7) 2) 98 7 ((zup (zup (zup σ 152 (zdiv (σ 98 0) 365) 1) 148 ((zup σ 152 (zdiv (σ 98 0) 365) 1) 98 7) (zdiv ((zup σ 152 (zdiv (σ 98 0) 365) 1) 98 0) 365)) 149 ((zup (zup σ 152 (zdiv (σ 98 0) 365) 1) 148 ((zup σ 152 (zdiv (σ 98 0) 365) 1) 98 7) (zdiv ((zup σ 152 (zdiv (σ 98 0) 365) 1) 98 0) 365)) 98 7) 2) 98 7 + 1)) 150 ((zup (zup (zup σ 152 (zdiv (σ 98 0) 365) 1) 148 ((zup σ 152 (zdiv (σ 98 0) 365) 1) 98 7) (zdiv ((zup σ 152 (zdiv (σ 98 0) 365) 1) 98 0) 365)) 149 ((zup (zup σ 152 (zdiv (σ 98 0) 365) 1) 148 ((zup σ 152 (zdiv (σ 98 0) 365) 1) 98 7) (zdiv ((zup σ 152 (zdiv (σ 98 0) 365) 1) 98 0) 365)) 98 7) 2) 98 7) (-v3)) 98 8) + (-v3)))) : zR G MX12_dividend 109 [zr 98, zi v1, zi v2, zi v3, zi v4, zu] [] σ Q := by
  have J197 : (σ 98 4 ≤ v4 ∨ (v4 < σ 98 4 ∧ v2 ≤ 0)) → zR G MX12_dividend 197 [zr 98, zi v1, zi v2, zi v3, zi v4, zu] [] σ Q := by
    intro h6
    refine z_aload_n dX12_dividend_197 rfl rfl ?_
    refine z_getfR (k := 68) flRX12_175 rfl rfl dX12_dividend_198 ?_
    refine z_aload_n dX12_dividend_201 rfl rfl ?_
    refine z_callv (as := []) (st := [zr 152]) mkX12_year lkRX12_450 rfl rfl rfl (by decide) (Nat.le_of_ble_eq_true rfl) rfl dX12_dividend_202 ?_
    refine SX12_year ?_
    show zR G MX12_dividend 205 [zr 98, zi v1, zi v2, zi v3, zi v4, zu] [zi (zdiv (σ 98 0) 365), zr 152] σ Q
    refine z_iconst dX12_dividend_205 (by unfold zIn; decide) ?_
    have s11 : (0 : Int) ≤ zdiv (σ 98 0) 365 ∧ zdiv (σ 98 0) 365 < (120 : Int) := k11 h6
    refine z_bast rfl s11.1 s11.2 (by decide) dX12_dividend_206 ?_
    refine z_aload_n dX12_dividend_207 rfl rfl ?_
    refine z_iconst dX12_dividend_208 (by unfold zIn; decide) ?_
    refine z_iload_n dX12_dividend_209 rfl rfl ?_
    have s12 : -2147483648 ≤ -v3 ∧ -v3 < (2147483648 : Int) := k12 h6
    refine z_inegN dX12_dividend_210 s12 ?_
    have s13 : (0 : Int) ≤ (zup σ 152 (zdiv (σ 98 0) 365) 1) 98 7 ∧ (zup σ 152 (zdiv (σ 98 0) 365) 1) 98 7 < (400 : Int) := k13 h6
    have s14 : (0 : Int) ≤ (zup (zup σ 152 (zdiv (σ 98 0) 365) 1) 148 ((zup σ 152 (zdiv (σ 98 0) 365) 1) 98 7) (zdiv ((zup σ 152 (zdiv (σ 98 0) 365) 1) 98 0) 365)) 98 7 ∧ (zup (zup σ 152 (zdiv (σ 98 0) 365) 1) 148 ((zup σ 152 (zdiv (σ 98 0) 365) 1) 98 7) (zdiv ((zup σ 152 (zdiv (σ 98 0) 365) 1) 98 0) 365)) 98 7 < (400 : Int) := k14 h6
    have s15 : -2147483648 ≤ (zup (zup (zup σ 152 (zdiv (σ 98 0) 365) 1) 148 ((zup σ 152 (zdiv (σ 98 0) 365) 1) 98 7) (zdiv ((zup σ 152 (zdiv (σ 98 0) 365) 1) 98 0) 365)) 149 ((zup (zup σ 152 (zdiv (σ 98 0) 365) 1) 148 ((zup σ 152 (zdiv (σ 98 0) 365) 1) 98 7) (zdiv ((zup σ 152 (zdiv (σ 98 0) 365) 1) 98 0) 365)) 98 7) 2) 98 7 + 1 ∧ (zup (zup (zup σ 152 (zdiv (σ 98 0) 365) 1) 148 ((zup σ 152 (zdiv (σ 98 0) 365) 1) 98 7) (zdiv ((zup σ 152 (zdiv (σ 98 0) 365) 1) 98 0) 365)) 149 ((zup (zup σ 152 (zdiv (σ 98 0) 365) 1) 148 ((zup σ 152 (zdiv (σ 98 0) 365) 1) 98 7) (zdiv ((zup σ 152 (zdiv (σ 98 0) 365) 1) 98 0) 365)) 98 7) 2) 98 7 + 1 < (2147483648 : Int) := k15 h6
    have s16 : (0 : Int) ≤ (zup (zup (zup σ 152 (zdiv (σ 98 0) 365) 1) 148 ((zup σ 152 (zdiv (σ 98 0) 365) 1) 98 7) (zdiv ((zup σ 152 (zdiv (σ 98 0) 365) 1) 98 0) 365)) 149 ((zup (zup σ 152 (zdiv (σ 98 0) 365) 1) 148 ((zup σ 152 (zdiv (σ 98 0) 365) 1) 98 7) (zdiv ((zup σ 152 (zdiv (σ 98 0) 365) 1) 98 0) 365)) 98 7) 2) 98 7 ∧ (zup (zup (zup σ 152 (zdiv (σ 98 0) 365) 1) 148 ((zup σ 152 (zdiv (σ 98 0) 365) 1) 98 7) (zdiv ((zup σ 152 (zdiv (σ 98 0) 365) 1) 98 0) 365)) 149 ((zup (zup σ 152 (zdiv (σ 98 0) 365) 1) 148 ((zup σ 152 (zdiv (σ 98 0) 365) 1) 98 7) (zdiv ((zup σ 152 (zdiv (σ 98 0) 365) 1) 98 0) 365)) 98 7) 2) 98 7 < (400 : Int) := k16 h6
    have s17 : -2147483648 ≤ ((zup (zup (zup (zup (zup σ 152 (zdiv (σ 98 0) 365) 1) 148 ((zup σ 152 (zdiv (σ 98 0) 365) 1) 98 7) (zdiv ((zup σ 152 (zdiv (σ 98 0) 365) 1) 98 0) 365)) 149 ((zup (zup σ 152 (zdiv (σ 98 0) 365) 1) 148 ((zup σ 152 (zdiv (σ 98 0) 365) 1) 98 7) (zdiv ((zup σ 152 (zdiv (σ 98 0) 365) 1) 98 0) 365)) 98 7) 2) 98 7 ((zup (zup (zup σ 152 (zdiv (σ 98 0) 365) 1) 148 ((zup σ 152 (zdiv (σ 98 0) 365) 1) 98 7) (zdiv ((zup σ 152 (zdiv (σ 98 0) 365) 1) 98 0) 365)) 149 ((zup (zup σ 152 (zdiv (σ 98 0) 365) 1) 148 ((zup σ 152 (zdiv (σ 98 0) 365) 1) 98 7) (zdiv ((zup σ 152 (zdiv (σ 98 0) 365) 1) 98 0) 365)) 98 7) 2) 98 7 + 1)) 150 ((zup (zup (zup σ 152 (zdiv (σ 98 0) 365) 1) 148 ((zup σ 152 (zdiv (σ 98 0) 365) 1) 98 7) (zdiv ((zup σ 152 (zdiv (σ 98 0) 365) 1) 98 0) 365)) 149 ((zup (zup σ 152 (zdiv (σ 98 0) 365) 1) 148 ((zup σ 152 (zdiv (σ 98 0) 365) 1) 98 7) (zdiv ((zup σ 152 (zdiv (σ 98 0) 365) 1) 98 0) 365)) 98 7) 2) 98 7) (-v3)) 98 8) + (-v3) ∧ ((zup (zup (zup (zup (zup σ 152 (zdiv (σ 98 0) 365) 1) 148 ((zup σ 152 (zdiv (σ 98 0) 365) 1) 98 7) (zdiv ((zup σ 152 (zdiv (σ 98 0) 365) 1) 98 0) 365)) 149 ((zup (zup σ 152 (zdiv (σ 98 0) 365) 1) 148 ((zup σ 152 (zdiv (σ 98 0) 365) 1) 98 7) (zdiv ((zup σ 152 (zdiv (σ 98 0) 365) 1) 98 0) 365)) 98 7) 2) 98 7 ((zup (zup (zup σ 152 (zdiv (σ 98 0) 365) 1) 148 ((zup σ 152 (zdiv (σ 98 0) 365) 1) 98 7) (zdiv ((zup σ 152 (zdiv (σ 98 0) 365) 1) 98 0) 365)) 149 ((zup (zup σ 152 (zdiv (σ 98 0) 365) 1) 148 ((zup σ 152 (zdiv (σ 98 0) 365) 1) 98 7) (zdiv ((zup σ 152 (zdiv (σ 98 0) 365) 1) 98 0) 365)) 98 7) 2) 98 7 + 1)) 150 ((zup (zup (zup σ 152 (zdiv (σ 98 0) 365) 1) 148 ((zup σ 152 (zdiv (σ 98 0) 365) 1) 98 7) (zdiv ((zup σ 152 (zdiv (σ 98 0) 365) 1) 98 0) 365)) 149 ((zup (zup σ 152 (zdiv (σ 98 0) 365) 1) 148 ((zup σ 152 (zdiv (σ 98 0) 365) 1) 98 7) (zdiv ((zup σ 152 (zdiv (σ 98 0) 365) 1) 98 0) 365)) 98 7) 2) 98 7) (-v3)) 98 8) + (-v3) < (2147483648 : Int) := k17 h6
    refine z_callv (as := [zi 2, zi (-v3)]) (st := []) mkX12_enters lkRX12_459 rfl rfl rfl (by decide) (Nat.le_of_ble_eq_true rfl) rfl dX12_dividend_211 ?_
    refine SX12_enters s13 s14 s15 s16 s17 ?_
    show zR G MX12_dividend 214 [zr 98, zi v1, zi v2, zi v3, zi v4, zu] [] (zup (zup (zup (zup (zup (zup σ 152 (zdiv (σ 98 0) 365) 1) 148 ((zup σ 152 (zdiv (σ 98 0) 365) 1) 98 7) (zdiv ((zup σ 152 (zdiv (σ 98 0) 365) 1) 98 0) 365)) 149 ((zup (zup σ 152 (zdiv (σ 98 0) 365) 1) 148 ((zup σ 152 (zdiv (σ 98 0) 365) 1) 98 7) (zdiv ((zup σ 152 (zdiv (σ 98 0) 365) 1) 98 0) 365)) 98 7) 2) 98 7 ((zup (zup (zup σ 152 (zdiv (σ 98 0) 365) 1) 148 ((zup σ 152 (zdiv (σ 98 0) 365) 1) 98 7) (zdiv ((zup σ 152 (zdiv (σ 98 0) 365) 1) 98 0) 365)) 149 ((zup (zup σ 152 (zdiv (σ 98 0) 365) 1) 148 ((zup σ 152 (zdiv (σ 98 0) 365) 1) 98 7) (zdiv ((zup σ 152 (zdiv (σ 98 0) 365) 1) 98 0) 365)) 98 7) 2) 98 7 + 1)) 150 ((zup (zup (zup σ 152 (zdiv (σ 98 0) 365) 1) 148 ((zup σ 152 (zdiv (σ 98 0) 365) 1) 98 7) (zdiv ((zup σ 152 (zdiv (σ 98 0) 365) 1) 98 0) 365)) 149 ((zup (zup σ 152 (zdiv (σ 98 0) 365) 1) 148 ((zup σ 152 (zdiv (σ 98 0) 365) 1) 98 7) (zdiv ((zup σ 152 (zdiv (σ 98 0) 365) 1) 98 0) 365)) 98 7) 2) 98 7) (-v3)) 98 8 (((zup (zup (zup (zup (zup σ 152 (zdiv (σ 98 0) 365) 1) 148 ((zup σ 152 (zdiv (σ 98 0) 365) 1) 98 7) (zdiv ((zup σ 152 (zdiv (σ 98 0) 365) 1) 98 0) 365)) 149 ((zup (zup σ 152 (zdiv (σ 98 0) 365) 1) 148 ((zup σ 152 (zdiv (σ 98 0) 365) 1) 98 7) (zdiv ((zup σ 152 (zdiv (σ 98 0) 365) 1) 98 0) 365)) 98 7) 2) 98 7 ((zup (zup (zup σ 152 (zdiv (σ 98 0) 365) 1) 148 ((zup σ 152 (zdiv (σ 98 0) 365) 1) 98 7) (zdiv ((zup σ 152 (zdiv (σ 98 0) 365) 1) 98 0) 365)) 149 ((zup (zup σ 152 (zdiv (σ 98 0) 365) 1) 148 ((zup σ 152 (zdiv (σ 98 0) 365) 1) 98 7) (zdiv ((zup σ 152 (zdiv (σ 98 0) 365) 1) 98 0) 365)) 98 7) 2) 98 7 + 1)) 150 ((zup (zup (zup σ 152 (zdiv (σ 98 0) 365) 1) 148 ((zup σ 152 (zdiv (σ 98 0) 365) 1) 98 7) (zdiv ((zup σ 152 (zdiv (σ 98 0) 365) 1) 98 0) 365)) 149 ((zup (zup σ 152 (zdiv (σ 98 0) 365) 1) 148 ((zup σ 152 (zdiv (σ 98 0) 365) 1) 98 7) (zdiv ((zup σ 152 (zdiv (σ 98 0) 365) 1) 98 0) 365)) 98 7) 2) 98 7) (-v3)) 98 8) + (-v3))) Q
    refine z_iload_n dX12_dividend_214 rfl rfl ?_
    exact z_ireti rfl dX12_dividend_215 (k18 h6)
  have J191_1 : (v4 < σ 98 4) → (0 < v2) → (σ 129 v4 = 1) → (σ 130 v4 ≠ (-1)) → zR G MX12_dividend 191 [zr 98, zi v1, zi v2, zi (v3 + (zW (zldiv (v1 * σ 153 (σ 130 v4)) v2))), zi v4, zi (zW (zldiv (v1 * σ 153 (σ 130 v4)) v2))] [] (zup σ 154 (σ 130 v4) (σ 154 (σ 130 v4) + (zW (zldiv (v1 * σ 153 (σ 130 v4)) v2)))) Q := by
    intro h1 h2 h3 h4
    have s9 : -2147483648 ≤ v4 + 1 ∧ v4 + 1 < (2147483648 : Int) := k9 h1 h2 h3 h4
    refine z_iincN (ls' := [zr 98, zi v1, zi v2, zi (v3 + (zW (zldiv (v1 * σ 153 (σ 130 v4)) v2))), zi (v4 + 1), zi (zW (zldiv (v1 * σ 153 (σ 130 v4)) v2))]) dX12_dividend_191 rfl (by decide) s9 rfl ?_
    refine z_goto dX12_dividend_194 (tgt := 109) (by decide) ?_
    exact zR_fg [false, false, false, false, false, true] (k10 h1 h2 h3 h4)
  have J191 : (v4 < σ 98 4) → (0 < v2) → (σ 129 v4 ≠ 1 ∨ (σ 129 v4 = 1 ∧ σ 130 v4 = (-1))) → zR G MX12_dividend 191 [zr 98, zi v1, zi v2, zi v3, zi v4, zu] [] σ Q := by
    intro h1 h2 h5
    have s7 : -2147483648 ≤ v4 + 1 ∧ v4 + 1 < (2147483648 : Int) := k7 h1 h2 h5
    refine z_iincN (ls' := [zr 98, zi v1, zi v2, zi v3, zi (v4 + 1), zu]) dX12_dividend_191 rfl (by decide) s7 rfl ?_
    refine z_goto dX12_dividend_194 (tgt := 109) (by decide) ?_
    exact k8 h1 h2 h5
  refine z_iload dX12_dividend_109 rfl ?_
  refine z_aload_n dX12_dividend_111 rfl rfl ?_
  refine z_getfI (k := 4) flRX12_259 rfl rfl dX12_dividend_112 ?_
  refine z_icmp_ge dX12_dividend_115 (tgt := 197) (by decide) (fun h1 => ?_) (fun h1 => ?_)
  · skip
    exact J197 (Or.inl h1)
  · skip
    refine z_iload_n dX12_dividend_118 rfl rfl ?_
    refine z_if_le dX12_dividend_119 (tgt := 197) (by decide) (fun h2 => ?_) (fun h2 => ?_)
    · skip
      exact J197 (Or.inr ⟨h1, h2⟩)
    · skip
      refine z_aload_n dX12_dividend_122 rfl rfl ?_
      refine z_getfR (k := 44) flRX12_106 rfl rfl dX12_dividend_123 ?_
      refine z_iload dX12_dividend_126 rfl ?_
      have s1 : (0 : Int) ≤ v4 ∧ v4 < (12 : Int) := k1 h1 h2
      refine z_iald rfl s1.1 s1.2 dX12_dividend_128 ?_
      refine z_iconst dX12_dividend_129 (by unfold zIn; decide) ?_
      refine z_icmp_ne dX12_dividend_130 (tgt := 191) (by decide) (fun h3 => ?_) (fun h3 => ?_)
      · skip
        exact J191 h1 h2 (Or.inl h3)
      · skip
        refine z_aload_n dX12_dividend_133 rfl rfl ?_
        refine z_getfR (k := 45) flRX12_109 rfl rfl dX12_dividend_134 ?_
        refine z_iload dX12_dividend_137 rfl ?_
        refine z_iald rfl s1.1 s1.2 dX12_dividend_139 ?_
        refine z_iconst dX12_dividend_140 (by unfold zIn; decide) ?_
        refine z_icmp_ne dX12_dividend_141 (tgt := 147) (by decide) (fun h4 => ?_) (fun h4 => ?_)
        · skip
          refine z_iload_n dX12_dividend_147 rfl rfl ?_
          refine z_i2l dX12_dividend_148 ?_
          refine z_aload_n dX12_dividend_149 rfl rfl ?_
          refine z_getfR (k := 69) flRX12_178 rfl rfl dX12_dividend_150 ?_
          refine z_aload_n dX12_dividend_153 rfl rfl ?_
          refine z_getfR (k := 45) flRX12_109 rfl rfl dX12_dividend_154 ?_
          refine z_iload dX12_dividend_157 rfl ?_
          refine z_iald rfl s1.1 s1.2 dX12_dividend_159 ?_
          have s2 : (0 : Int) ≤ σ 130 v4 ∧ σ 130 v4 < (24 : Int) := k2 h1 h2 h3 h4
          refine z_iald rfl s2.1 s2.2 dX12_dividend_160 ?_
          refine z_i2l dX12_dividend_161 ?_
          have s3 : -9223372036854775808 ≤ v1 * σ 153 (σ 130 v4) ∧ v1 * σ 153 (σ 130 v4) < (9223372036854775808 : Int) := k3 h1 h2 h3 h4
          refine z_lmulN dX12_dividend_162 s3 ?_
          refine z_iload_n dX12_dividend_163 rfl rfl ?_
          refine z_i2l dX12_dividend_164 ?_
          have s4 : v2 ≠ 0 := k4 h1 h2 h3 h4
          refine z_ldiv dX12_dividend_165 s4 ?_
          refine z_l2i dX12_dividend_166 ?_
          refine z_istore (ls' := [zr 98, zi v1, zi v2, zi v3, zi v4, zi (zW (zldiv (v1 * σ 153 (σ 130 v4)) v2))]) dX12_dividend_167 (by decide) rfl ?_
          refine z_aload_n dX12_dividend_169 rfl rfl ?_
          refine z_getfR (k := 70) flRX12_181 rfl rfl dX12_dividend_170 ?_
          refine z_aload_n dX12_dividend_173 rfl rfl ?_
          refine z_getfR (k := 45) flRX12_109 rfl rfl dX12_dividend_174 ?_
          refine z_iload dX12_dividend_177 rfl ?_
          refine z_iald rfl s1.1 s1.2 dX12_dividend_179 ?_
          refine z_dup2 dX12_dividend_180 rfl rfl ?_
          refine z_iald rfl s2.1 s2.2 dX12_dividend_181 ?_
          refine z_iload dX12_dividend_182 rfl ?_
          have s5 : -2147483648 ≤ σ 154 (σ 130 v4) + (zW (zldiv (v1 * σ 153 (σ 130 v4)) v2)) ∧ σ 154 (σ 130 v4) + (zW (zldiv (v1 * σ 153 (σ 130 v4)) v2)) < (2147483648 : Int) := k5 h1 h2 h3 h4
          refine z_iaddN dX12_dividend_184 s5 ?_
          refine z_iast rfl s2.1 s2.2 dX12_dividend_185 ?_
          refine z_iload_n dX12_dividend_186 rfl rfl ?_
          refine z_iload dX12_dividend_187 rfl ?_
          have s6 : -2147483648 ≤ v3 + (zW (zldiv (v1 * σ 153 (σ 130 v4)) v2)) ∧ v3 + (zW (zldiv (v1 * σ 153 (σ 130 v4)) v2)) < (2147483648 : Int) := k6 h1 h2 h3 h4
          refine z_iaddN dX12_dividend_189 s6 ?_
          refine z_istore_n (ls' := [zr 98, zi v1, zi v2, zi (v3 + (zW (zldiv (v1 * σ 153 (σ 130 v4)) v2))), zi v4, zi (zW (zldiv (v1 * σ 153 (σ 130 v4)) v2))]) dX12_dividend_190 rfl (by decide) rfl ?_
          exact J191_1 h1 h2 h3 h4
        · skip
          refine z_goto dX12_dividend_144 (tgt := 191) (by decide) ?_
          exact J191 h1 h2 (Or.inr ⟨h3, h4⟩)
set_option maxRecDepth 20000 in
set_option maxHeartbeats 1000000 in
theorem TX12_got {G : zG} {σ : zS} {Q : Int → zS → Prop} {a1 : Int}  (k1 : (¬ ((0 ≤ a1 ∧ a1 < σ 98 1))) → Q (-1) σ) (k2 : ((0 ≤ a1 ∧ a1 < σ 98 1)) → (0 : Int) ≤ a1 ∧ a1 < (24 : Int)) (k3 : ((0 ≤ a1 ∧ a1 < σ 98 1)) → Q (σ 154 a1) σ) : zO G MX12_got [zr 98, zi a1] σ Q := by
  refine zO_of (ls0 := [zr 98, zi a1]) (by decide) (Nat.le_of_ble_eq_true rfl) rfl ?_
  refine z_aload_n dX12_got_0 rfl rfl ?_
  refine z_iload_n dX12_got_1 rfl rfl ?_
  refine z_callv (as := [zi a1]) (st := []) mkX12_isOne lkRX12_271 rfl rfl rfl (by decide) (Nat.le_of_ble_eq_true rfl) rfl dX12_got_2 ?_
  refine SX12_isOne ?_
  show zR G MX12_got 5 [zr 98, zi a1] [zi (if (0 ≤ a1 ∧ a1 < σ 98 1) then (1 : Int) else 0)] σ Q
  refine z_if_eq dX12_got_5 (tgt := 17) (by decide) (fun z => ?_) (fun z => ?_)
  · have h1 : ¬ ((0 ≤ a1 ∧ a1 < σ 98 1)) := zb0 z
    refine z_iconst dX12_got_17 (by unfold zIn; decide) ?_
    exact z_ireti rfl dX12_got_18 (k1 h1)
  · have h1 : (0 ≤ a1 ∧ a1 < σ 98 1) := zb1 z
    refine z_aload_n dX12_got_8 rfl rfl ?_
    refine z_getfR (k := 70) flRX12_181 rfl rfl dX12_got_9 ?_
    refine z_iload_n dX12_got_12 rfl rfl ?_
    have s2 : (0 : Int) ≤ a1 ∧ a1 < (24 : Int) := k2 h1
    refine z_iald rfl s2.1 s2.2 dX12_got_13 ?_
    refine z_goto dX12_got_14 (tgt := 18) (by decide) ?_
    exact z_ireti rfl dX12_got_18 (k3 h1)
set_option maxRecDepth 20000 in
set_option maxHeartbeats 1000000 in
theorem TX12_other {G : zG} {σ : zS} {Q : Int → zS → Prop} {a1 : Int}  (k1 : ((-99999) ≤ a1) → (a1 ≤ 99999) → -2147483648 ≤ σ 98 8 + a1 ∧ σ 98 8 + a1 < (2147483648 : Int)) (k2 : ((-99999) ≤ a1) → (a1 ≤ 99999) → (0 ≤ σ 98 8 + a1) → (σ 98 7 ≠ 400) → (0 : Int) ≤ σ 98 7 ∧ σ 98 7 < (400 : Int)) (k3 : ((-99999) ≤ a1) → (a1 ≤ 99999) → (0 ≤ σ 98 8 + a1) → (σ 98 7 ≠ 400) → (0 : Int) ≤ (zup σ 148 (σ 98 7) (zdiv (σ 98 0) 365)) 98 7 ∧ (zup σ 148 (σ 98 7) (zdiv (σ 98 0) 365)) 98 7 < (400 : Int)) (k4 : ((-99999) ≤ a1) → (a1 ≤ 99999) → (0 ≤ σ 98 8 + a1) → (σ 98 7 ≠ 400) → -2147483648 ≤ (zup (zup σ 148 (σ 98 7) (zdiv (σ 98 0) 365)) 149 ((zup σ 148 (σ 98 7) (zdiv (σ 98 0) 365)) 98 7) 3) 98 7 + 1 ∧ (zup (zup σ 148 (σ 98 7) (zdiv (σ 98 0) 365)) 149 ((zup σ 148 (σ 98 7) (zdiv (σ 98 0) 365)) 98 7) 3) 98 7 + 1 < (2147483648 : Int)) (k5 : ((-99999) ≤ a1) → (a1 ≤ 99999) → (0 ≤ σ 98 8 + a1) → (σ 98 7 ≠ 400) → (0 : Int) ≤ (zup (zup σ 148 (σ 98 7) (zdiv (σ 98 0) 365)) 149 ((zup σ 148 (σ 98 7) (zdiv (σ 98 0) 365)) 98 7) 3) 98 7 ∧ (zup (zup σ 148 (σ 98 7) (zdiv (σ 98 0) 365)) 149 ((zup σ 148 (σ 98 7) (zdiv (σ 98 0) 365)) 98 7) 3) 98 7 < (400 : Int)) (k6 : ((-99999) ≤ a1) → (a1 ≤ 99999) → (0 ≤ σ 98 8 + a1) → (σ 98 7 ≠ 400) → -2147483648 ≤ ((zup (zup (zup (zup σ 148 (σ 98 7) (zdiv (σ 98 0) 365)) 149 ((zup σ 148 (σ 98 7) (zdiv (σ 98 0) 365)) 98 7) 3) 98 7 ((zup (zup σ 148 (σ 98 7) (zdiv (σ 98 0) 365)) 149 ((zup σ 148 (σ 98 7) (zdiv (σ 98 0) 365)) 98 7) 3) 98 7 + 1)) 150 ((zup (zup σ 148 (σ 98 7) (zdiv (σ 98 0) 365)) 149 ((zup σ 148 (σ 98 7) (zdiv (σ 98 0) 365)) 98 7) 3) 98 7) a1) 98 8) + a1 ∧ ((zup (zup (zup (zup σ 148 (σ 98 7) (zdiv (σ 98 0) 365)) 149 ((zup σ 148 (σ 98 7) (zdiv (σ 98 0) 365)) 98 7) 3) 98 7 ((zup (zup σ 148 (σ 98 7) (zdiv (σ 98 0) 365)) 149 ((zup σ 148 (σ 98 7) (zdiv (σ 98 0) 365)) 98 7) 3) 98 7 + 1)) 150 ((zup (zup σ 148 (σ 98 7) (zdiv (σ 98 0) 365)) 149 ((zup σ 148 (σ 98 7) (zdiv (σ 98 0) 365)) 98 7) 3) 98 7) a1) 98 8) + a1 < (2147483648 : Int)) (k7 : ((-99999) ≤ a1) → (a1 ≤ 99999) → (0 ≤ σ 98 8 + a1) → (σ 98 7 ≠ 400) → Q ((zup (zup (zup (zup (zup σ 148 (σ 98 7) (zdiv (σ 98 0) 365)) 149 ((zup σ 148 (σ 98 7) (zdiv (σ 98 0) 365)) 98 7) 3) 98 7 ((zup (zup σ 148 (σ 98 7) (zdiv (σ 98 0) 365)) 149 ((zup σ 148 (σ 98 7) (zdiv (σ 98 0) 365)) 98 7) 3) 98 7 + 1)) 150 ((zup (zup σ 148 (σ 98 7) (zdiv (σ 98 0) 365)) 149 ((zup σ 148 (σ 98 7) (zdiv (σ 98 0) 365)) 98 7) 3) 98 7) a1) 98 8 (((zup (zup (zup (zup σ 148 (σ 98 7) (zdiv (σ 98 0) 365)) 149 ((zup σ 148 (σ 98 7) (zdiv (σ 98 0) 365)) 98 7) 3) 98 7 ((zup (zup σ 148 (σ 98 7) (zdiv (σ 98 0) 365)) 149 ((zup σ 148 (σ 98 7) (zdiv (σ 98 0) 365)) 98 7) 3) 98 7 + 1)) 150 ((zup (zup σ 148 (σ 98 7) (zdiv (σ 98 0) 365)) 149 ((zup σ 148 (σ 98 7) (zdiv (σ 98 0) 365)) 98 7) 3) 98 7) a1) 98 8) + a1)) 98 8) (zup (zup (zup (zup (zup σ 148 (σ 98 7) (zdiv (σ 98 0) 365)) 149 ((zup σ 148 (σ 98 7) (zdiv (σ 98 0) 365)) 98 7) 3) 98 7 ((zup (zup σ 148 (σ 98 7) (zdiv (σ 98 0) 365)) 149 ((zup σ 148 (σ 98 7) (zdiv (σ 98 0) 365)) 98 7) 3) 98 7 + 1)) 150 ((zup (zup σ 148 (σ 98 7) (zdiv (σ 98 0) 365)) 149 ((zup σ 148 (σ 98 7) (zdiv (σ 98 0) 365)) 98 7) 3) 98 7) a1) 98 8 (((zup (zup (zup (zup σ 148 (σ 98 7) (zdiv (σ 98 0) 365)) 149 ((zup σ 148 (σ 98 7) (zdiv (σ 98 0) 365)) 98 7) 3) 98 7 ((zup (zup σ 148 (σ 98 7) (zdiv (σ 98 0) 365)) 149 ((zup σ 148 (σ 98 7) (zdiv (σ 98 0) 365)) 98 7) 3) 98 7 + 1)) 150 ((zup (zup σ 148 (σ 98 7) (zdiv (σ 98 0) 365)) 149 ((zup σ 148 (σ 98 7) (zdiv (σ 98 0) 365)) 98 7) 3) 98 7) a1) 98 8) + a1))) (k8 : ((-99999) ≤ a1) → (a1 ≤ 99999) → (0 ≤ σ 98 8 + a1) → (σ 98 7 = 400) → -2147483648 ≤ -(-7) ∧ -(-7) < (2147483648 : Int)) (k9 : ((-99999) ≤ a1) → (a1 ≤ 99999) → (0 ≤ σ 98 8 + a1) → (σ 98 7 = 400) → (0 : Int) ≤ -(-7) ∧ -(-7) < (8 : Int)) (k10 : ((-99999) ≤ a1) → (a1 ≤ 99999) → (0 ≤ σ 98 8 + a1) → (σ 98 7 = 400) → -2147483648 ≤ (σ 157 (-(-7))) + 1 ∧ (σ 157 (-(-7))) + 1 < (2147483648 : Int)) (k11 : ((-99999) ≤ a1) → (a1 ≤ 99999) → (0 ≤ σ 98 8 + a1) → (σ 98 7 = 400) → Q (-7) (zup σ 157 (-(-7)) ((σ 157 (-(-7))) + 1))) (k12 : (a1 < (-99999) ∨ ((-99999) ≤ a1 ∧ 99999 < a1) ∨ ((-99999) ≤ a1 ∧ a1 ≤ 99999 ∧ σ 98 8 + a1 < 0)) → -2147483648 ≤ -(-6) ∧ -(-6) < (2147483648 : Int)) (k13 : (a1 < (-99999) ∨ ((-99999) ≤ a1 ∧ 99999 < a1) ∨ ((-99999) ≤ a1 ∧ a1 ≤ 99999 ∧ σ 98 8 + a1 < 0)) → (0 : Int) ≤ -(-6) ∧ -(-6) < (8 : Int)) (k14 : (a1 < (-99999) ∨ ((-99999) ≤ a1 ∧ 99999 < a1) ∨ ((-99999) ≤ a1 ∧ a1 ≤ 99999 ∧ σ 98 8 + a1 < 0)) → -2147483648 ≤ (σ 157 (-(-6))) + 1 ∧ (σ 157 (-(-6))) + 1 < (2147483648 : Int)) (k15 : (a1 < (-99999) ∨ ((-99999) ≤ a1 ∧ 99999 < a1) ∨ ((-99999) ≤ a1 ∧ a1 ≤ 99999 ∧ σ 98 8 + a1 < 0)) → Q (-6) (zup σ 157 (-(-6)) ((σ 157 (-(-6))) + 1))) : zO G MX12_other [zr 98, zi a1] σ Q := by
  refine zO_of (ls0 := [zr 98, zi a1]) (by decide) (Nat.le_of_ble_eq_true rfl) rfl ?_
  have J23 : (a1 < (-99999) ∨ ((-99999) ≤ a1 ∧ 99999 < a1) ∨ ((-99999) ≤ a1 ∧ a1 ≤ 99999 ∧ σ 98 8 + a1 < 0)) → zR G MX12_other 23 [zr 98, zi a1] [] σ Q := by
    intro h5
    refine z_aload_n dX12_other_23 rfl rfl ?_
    refine z_bipush (x := (-6)) dX12_other_24 (by decide +kernel) (by unfold zIn; decide) ?_
    have s12 : -2147483648 ≤ -(-6) ∧ -(-6) < (2147483648 : Int) := k12 h5
    have s13 : (0 : Int) ≤ -(-6) ∧ -(-6) < (8 : Int) := k13 h5
    have s14 : -2147483648 ≤ (σ 157 (-(-6))) + 1 ∧ (σ 157 (-(-6))) + 1 < (2147483648 : Int) := k14 h5
    refine z_callv (as := [zi (-6)]) (st := []) mkX12_no lkRX12_267 rfl rfl rfl (by decide) (Nat.le_of_ble_eq_true rfl) rfl dX12_other_26 ?_
    refine SX12_no s12 s13 s14 ?_
    show zR G MX12_other 29 [zr 98, zi a1] [zi (-6)] (zup σ 157 (-(-6)) ((σ 157 (-(-6))) + 1)) Q
    exact z_ireti rfl dX12_other_29 (k15 h5)
  refine z_iload_n dX12_other_0 rfl rfl ?_
  refine z_ldcw (x := (-99999)) (zin_9 (List.mem_of_getElem? (i := 64) (by decide +kernel))) (by unfold zIn; decide) dX12_other_1 ?_
  refine z_icmp_lt dX12_other_4 (tgt := 23) (by decide) (fun h1 => ?_) (fun h1 => ?_)
  · skip
    exact J23 (Or.inl h1)
  · skip
    refine z_iload_n dX12_other_7 rfl rfl ?_
    refine z_ldcw (x := 99999) (zin_9 (List.mem_of_getElem? (i := 65) (by decide +kernel))) (by unfold zIn; decide) dX12_other_8 ?_
    refine z_icmp_gt dX12_other_11 (tgt := 23) (by decide) (fun h2 => ?_) (fun h2 => ?_)
    · skip
      exact J23 (Or.inr (Or.inl ⟨h1, h2⟩))
    · skip
      refine z_aload_n dX12_other_14 rfl rfl ?_
      refine z_getfI (k := 8) flRX12_453 rfl rfl dX12_other_15 ?_
      refine z_iload_n dX12_other_18 rfl rfl ?_
      have s1 : -2147483648 ≤ σ 98 8 + a1 ∧ σ 98 8 + a1 < (2147483648 : Int) := k1 h1 h2
      refine z_iaddN dX12_other_19 s1 ?_
      refine z_if_ge dX12_other_20 (tgt := 30) (by decide) (fun h3 => ?_) (fun h3 => ?_)
      · skip
        refine z_aload_n dX12_other_30 rfl rfl ?_
        refine z_getfI (k := 7) flRX12_447 rfl rfl dX12_other_31 ?_
        refine z_sipush (x := 400) dX12_other_34 (by decide +kernel) (by unfold zIn; decide) ?_
        refine z_icmp_ne dX12_other_37 (tgt := 47) (by decide) (fun h4 => ?_) (fun h4 => ?_)
        · skip
          refine z_aload_n dX12_other_47 rfl rfl ?_
          refine z_iconst dX12_other_48 (by unfold zIn; decide) ?_
          refine z_iload_n dX12_other_49 rfl rfl ?_
          have s2 : (0 : Int) ≤ σ 98 7 ∧ σ 98 7 < (400 : Int) := k2 h1 h2 h3 h4
          have s3 : (0 : Int) ≤ (zup σ 148 (σ 98 7) (zdiv (σ 98 0) 365)) 98 7 ∧ (zup σ 148 (σ 98 7) (zdiv (σ 98 0) 365)) 98 7 < (400 : Int) := k3 h1 h2 h3 h4
          have s4 : -2147483648 ≤ (zup (zup σ 148 (σ 98 7) (zdiv (σ 98 0) 365)) 149 ((zup σ 148 (σ 98 7) (zdiv (σ 98 0) 365)) 98 7) 3) 98 7 + 1 ∧ (zup (zup σ 148 (σ 98 7) (zdiv (σ 98 0) 365)) 149 ((zup σ 148 (σ 98 7) (zdiv (σ 98 0) 365)) 98 7) 3) 98 7 + 1 < (2147483648 : Int) := k4 h1 h2 h3 h4
          have s5 : (0 : Int) ≤ (zup (zup σ 148 (σ 98 7) (zdiv (σ 98 0) 365)) 149 ((zup σ 148 (σ 98 7) (zdiv (σ 98 0) 365)) 98 7) 3) 98 7 ∧ (zup (zup σ 148 (σ 98 7) (zdiv (σ 98 0) 365)) 149 ((zup σ 148 (σ 98 7) (zdiv (σ 98 0) 365)) 98 7) 3) 98 7 < (400 : Int) := k5 h1 h2 h3 h4
          have s6 : -2147483648 ≤ ((zup (zup (zup (zup σ 148 (σ 98 7) (zdiv (σ 98 0) 365)) 149 ((zup σ 148 (σ 98 7) (zdiv (σ 98 0) 365)) 98 7) 3) 98 7 ((zup (zup σ 148 (σ 98 7) (zdiv (σ 98 0) 365)) 149 ((zup σ 148 (σ 98 7) (zdiv (σ 98 0) 365)) 98 7) 3) 98 7 + 1)) 150 ((zup (zup σ 148 (σ 98 7) (zdiv (σ 98 0) 365)) 149 ((zup σ 148 (σ 98 7) (zdiv (σ 98 0) 365)) 98 7) 3) 98 7) a1) 98 8) + a1 ∧ ((zup (zup (zup (zup σ 148 (σ 98 7) (zdiv (σ 98 0) 365)) 149 ((zup σ 148 (σ 98 7) (zdiv (σ 98 0) 365)) 98 7) 3) 98 7 ((zup (zup σ 148 (σ 98 7) (zdiv (σ 98 0) 365)) 149 ((zup σ 148 (σ 98 7) (zdiv (σ 98 0) 365)) 98 7) 3) 98 7 + 1)) 150 ((zup (zup σ 148 (σ 98 7) (zdiv (σ 98 0) 365)) 149 ((zup σ 148 (σ 98 7) (zdiv (σ 98 0) 365)) 98 7) 3) 98 7) a1) 98 8) + a1 < (2147483648 : Int) := k6 h1 h2 h3 h4
          refine z_callv (as := [zi 3, zi a1]) (st := []) mkX12_enters lkRX12_459 rfl rfl rfl (by decide) (Nat.le_of_ble_eq_true rfl) rfl dX12_other_50 ?_
          refine SX12_enters s2 s3 s4 s5 s6 ?_
          show zR G MX12_other 53 [zr 98, zi a1] [] (zup (zup (zup (zup (zup σ 148 (σ 98 7) (zdiv (σ 98 0) 365)) 149 ((zup σ 148 (σ 98 7) (zdiv (σ 98 0) 365)) 98 7) 3) 98 7 ((zup (zup σ 148 (σ 98 7) (zdiv (σ 98 0) 365)) 149 ((zup σ 148 (σ 98 7) (zdiv (σ 98 0) 365)) 98 7) 3) 98 7 + 1)) 150 ((zup (zup σ 148 (σ 98 7) (zdiv (σ 98 0) 365)) 149 ((zup σ 148 (σ 98 7) (zdiv (σ 98 0) 365)) 98 7) 3) 98 7) a1) 98 8 (((zup (zup (zup (zup σ 148 (σ 98 7) (zdiv (σ 98 0) 365)) 149 ((zup σ 148 (σ 98 7) (zdiv (σ 98 0) 365)) 98 7) 3) 98 7 ((zup (zup σ 148 (σ 98 7) (zdiv (σ 98 0) 365)) 149 ((zup σ 148 (σ 98 7) (zdiv (σ 98 0) 365)) 98 7) 3) 98 7 + 1)) 150 ((zup (zup σ 148 (σ 98 7) (zdiv (σ 98 0) 365)) 149 ((zup σ 148 (σ 98 7) (zdiv (σ 98 0) 365)) 98 7) 3) 98 7) a1) 98 8) + a1)) Q
          refine z_aload_n dX12_other_53 rfl rfl ?_
          refine z_getfI (k := 8) flRX12_453 rfl rfl dX12_other_54 ?_
          exact z_ireti rfl dX12_other_57 (k7 h1 h2 h3 h4)
        · skip
          refine z_aload_n dX12_other_40 rfl rfl ?_
          refine z_bipush (x := (-7)) dX12_other_41 (by decide +kernel) (by unfold zIn; decide) ?_
          have s8 : -2147483648 ≤ -(-7) ∧ -(-7) < (2147483648 : Int) := k8 h1 h2 h3 h4
          have s9 : (0 : Int) ≤ -(-7) ∧ -(-7) < (8 : Int) := k9 h1 h2 h3 h4
          have s10 : -2147483648 ≤ (σ 157 (-(-7))) + 1 ∧ (σ 157 (-(-7))) + 1 < (2147483648 : Int) := k10 h1 h2 h3 h4
          refine z_callv (as := [zi (-7)]) (st := []) mkX12_no lkRX12_267 rfl rfl rfl (by decide) (Nat.le_of_ble_eq_true rfl) rfl dX12_other_43 ?_
          refine SX12_no s8 s9 s10 ?_
          show zR G MX12_other 46 [zr 98, zi a1] [zi (-7)] (zup σ 157 (-(-7)) ((σ 157 (-(-7))) + 1)) Q
          exact z_ireti rfl dX12_other_46 (k11 h1 h2 h3 h4)
      · skip
        exact J23 (Or.inr (Or.inr ⟨h1, h2, h3⟩))
set_option maxRecDepth 20000 in
set_option maxHeartbeats 1000000 in
theorem TX12_head {G : zG} {σ : zS} {Q : Int → zS → Prop} {a1 a2 : Int}  (k1 : (0 ≤ a1) → (a1 ≤ 3) → zR G MX12_head 18 [zr 98, zi a1, zi a2, zi 0, zi 0] [] σ Q) (k2 : (a1 < 0 ∨ (0 ≤ a1 ∧ 3 < a1)) → Q (-1000001) σ) : zO G MX12_head [zr 98, zi a1, zi a2] σ Q := by
  refine zO_of (ls0 := [zr 98, zi a1, zi a2, zu, zu]) (by decide) (Nat.le_of_ble_eq_true rfl) rfl ?_
  have J9 : (a1 < 0 ∨ (0 ≤ a1 ∧ 3 < a1)) → zR G MX12_head 9 [zr 98, zi a1, zi a2, zu, zu] [] σ Q := by
    intro h3
    refine z_ldcw (x := (-1000001)) (zin_9 (List.mem_of_getElem? (i := 70) (by decide +kernel))) (by unfold zIn; decide) dX12_head_9 ?_
    exact z_ireti rfl dX12_head_12 (k2 h3)
  refine z_iload_n dX12_head_0 rfl rfl ?_
  refine z_if_lt dX12_head_1 (tgt := 9) (by decide) (fun h1 => ?_) (fun h1 => ?_)
  · skip
    exact J9 (Or.inl h1)
  · skip
    refine z_iload_n dX12_head_4 rfl rfl ?_
    refine z_iconst dX12_head_5 (by unfold zIn; decide) ?_
    refine z_icmp_le dX12_head_6 (tgt := 13) (by decide) (fun h2 => ?_) (fun h2 => ?_)
    · skip
      refine z_iconst dX12_head_13 (by unfold zIn; decide) ?_
      refine z_istore_n (ls' := [zr 98, zi a1, zi a2, zi 0, zu]) dX12_head_14 rfl (by decide) rfl ?_
      refine z_iconst dX12_head_15 (by unfold zIn; decide) ?_
      refine z_istore (ls' := [zr 98, zi a1, zi a2, zi 0, zi 0]) dX12_head_16 (by decide) rfl ?_
      exact k1 h1 h2
    · skip
      exact J9 (Or.inr ⟨h1, h2⟩)
set_option maxRecDepth 20000 in
set_option maxHeartbeats 1000000 in
theorem TX12_head_18 {G : zG} {σ : zS} {Q : Int → zS → Prop} {v1 v2 v3 v4 : Int}  (k1 : (σ 98 7 ≤ v4) → Q v3 σ) (k2 : (v4 < σ 98 7) → (0 : Int) ≤ v4 ∧ v4 < (400 : Int)) (k3 : (v4 < σ 98 7) → (σ 149 v4 = v1) → (σ 148 v4 = v2) → -2147483648 ≤ v3 + σ 150 v4 ∧ v3 + σ 150 v4 < (2147483648 : Int)) (k4 : (v4 < σ 98 7) → (σ 149 v4 ≠ v1 ∨ (σ 149 v4 = v1 ∧ σ 148 v4 ≠ v2)) → -2147483648 ≤ v4 + 1 ∧ v4 + 1 < (2147483648 : Int)) (k5 : (v4 < σ 98 7) → (σ 149 v4 ≠ v1 ∨ (σ 149 v4 = v1 ∧ σ 148 v4 ≠ v2)) → zR G MX12_head 18 [zr 98, zi v1, zi v2, zi v3, zi (v4 + 1)] [] σ Q) (k6 : (v4 < σ 98 7) → (σ 149 v4 = v1) → (σ 148 v4 = v2) → -2147483648 ≤ v4 + 1 ∧ v4 + 1 < (2147483648 : Int)) (k7 : (v4 < σ 98 7) → (σ 149 v4 = v1) → (σ 148 v4 = v2) → zR G MX12_head 18 [zr 98, zi v1, zi v2, zi (v3 + σ 150 v4), zi (v4 + 1)] [] σ Q) : zR G MX12_head 18 [zr 98, zi v1, zi v2, zi v3, zi v4] [] σ Q := by
  have J59_1 : (v4 < σ 98 7) → (σ 149 v4 = v1) → (σ 148 v4 = v2) → zR G MX12_head 59 [zr 98, zi v1, zi v2, zi (v3 + σ 150 v4), zi v4] [] σ Q := by
    intro h1 h2 h3
    have s6 : -2147483648 ≤ v4 + 1 ∧ v4 + 1 < (2147483648 : Int) := k6 h1 h2 h3
    refine z_iincN (ls' := [zr 98, zi v1, zi v2, zi (v3 + σ 150 v4), zi (v4 + 1)]) dX12_head_59 rfl (by decide) s6 rfl ?_
    refine z_goto dX12_head_62 (tgt := 18) (by decide) ?_
    exact k7 h1 h2 h3
  have J59 : (v4 < σ 98 7) → (σ 149 v4 ≠ v1 ∨ (σ 149 v4 = v1 ∧ σ 148 v4 ≠ v2)) → zR G MX12_head 59 [zr 98, zi v1, zi v2, zi v3, zi v4] [] σ Q := by
    intro h1 h4
    have s4 : -2147483648 ≤ v4 + 1 ∧ v4 + 1 < (2147483648 : Int) := k4 h1 h4
    refine z_iincN (ls' := [zr 98, zi v1, zi v2, zi v3, zi (v4 + 1)]) dX12_head_59 rfl (by decide) s4 rfl ?_
    refine z_goto dX12_head_62 (tgt := 18) (by decide) ?_
    exact k5 h1 h4
  refine z_iload dX12_head_18 rfl ?_
  refine z_aload_n dX12_head_20 rfl rfl ?_
  refine z_getfI (k := 7) flRX12_447 rfl rfl dX12_head_21 ?_
  refine z_icmp_ge dX12_head_24 (tgt := 65) (by decide) (fun h1 => ?_) (fun h1 => ?_)
  · skip
    refine z_iload_n dX12_head_65 rfl rfl ?_
    exact z_ireti rfl dX12_head_66 (k1 h1)
  · skip
    refine z_aload_n dX12_head_27 rfl rfl ?_
    refine z_getfR (k := 65) flRX12_166 rfl rfl dX12_head_28 ?_
    refine z_iload dX12_head_31 rfl ?_
    have s2 : (0 : Int) ≤ v4 ∧ v4 < (400 : Int) := k2 h1
    refine z_iald rfl s2.1 s2.2 dX12_head_33 ?_
    refine z_iload_n dX12_head_34 rfl rfl ?_
    refine z_icmp_ne dX12_head_35 (tgt := 59) (by decide) (fun h2 => ?_) (fun h2 => ?_)
    · skip
      exact J59 h1 (Or.inl h2)
    · skip
      refine z_aload_n dX12_head_38 rfl rfl ?_
      refine z_getfR (k := 64) flRX12_163 rfl rfl dX12_head_39 ?_
      refine z_iload dX12_head_42 rfl ?_
      refine z_iald rfl s2.1 s2.2 dX12_head_44 ?_
      refine z_iload_n dX12_head_45 rfl rfl ?_
      refine z_icmp_ne dX12_head_46 (tgt := 59) (by decide) (fun h3 => ?_) (fun h3 => ?_)
      · skip
        exact J59 h1 (Or.inr ⟨h2, h3⟩)
      · skip
        refine z_iload_n dX12_head_49 rfl rfl ?_
        refine z_aload_n dX12_head_50 rfl rfl ?_
        refine z_getfR (k := 66) flRX12_169 rfl rfl dX12_head_51 ?_
        refine z_iload dX12_head_54 rfl ?_
        refine z_iald rfl s2.1 s2.2 dX12_head_56 ?_
        have s3 : -2147483648 ≤ v3 + σ 150 v4 ∧ v3 + σ 150 v4 < (2147483648 : Int) := k3 h1 h2 h3
        refine z_iaddN dX12_head_57 s3 ?_
        refine z_istore_n (ls' := [zr 98, zi v1, zi v2, zi (v3 + σ 150 v4), zi v4]) dX12_head_58 rfl (by decide) rfl ?_
        exact J59_1 h1 h2 h3
set_option maxRecDepth 20000 in
set_option maxHeartbeats 1000000 in
theorem TX12_roof {G : zG} {σ : zS} {Q : Int → zS → Prop} {a1 a2 : Int}  (k1 : (1 ≤ a1) → (a1 ≤ 99999) → (0 ≤ a2) → (a2 ≤ 9999) → (σ 98 10 ≠ 2) → (0 : Int) ≤ σ 98 10 ∧ σ 98 10 < (2 : Int)) (k2 : (1 ≤ a1) → (a1 ≤ 99999) → (0 ≤ a2) → (a2 ≤ 9999) → (σ 98 10 ≠ 2) → (0 : Int) ≤ (zup σ 155 (σ 98 10) a1) 98 10 ∧ (zup σ 155 (σ 98 10) a1) 98 10 < (2 : Int)) (k3 : (1 ≤ a1) → (a1 ≤ 99999) → (0 ≤ a2) → (a2 ≤ 9999) → (σ 98 10 ≠ 2) → -2147483648 ≤ (zup (zup σ 155 (σ 98 10) a1) 156 ((zup σ 155 (σ 98 10) a1) 98 10) a2) 98 10 + 1 ∧ (zup (zup σ 155 (σ 98 10) a1) 156 ((zup σ 155 (σ 98 10) a1) 98 10) a2) 98 10 + 1 < (2147483648 : Int)) (k4 : (1 ≤ a1) → (a1 ≤ 99999) → (0 ≤ a2) → (a2 ≤ 9999) → (σ 98 10 ≠ 2) → Q ((zup (zup σ 155 (σ 98 10) a1) 156 ((zup σ 155 (σ 98 10) a1) 98 10) a2) 98 10) (zup (zup (zup σ 155 (σ 98 10) a1) 156 ((zup σ 155 (σ 98 10) a1) 98 10) a2) 98 10 ((zup (zup σ 155 (σ 98 10) a1) 156 ((zup σ 155 (σ 98 10) a1) 98 10) a2) 98 10 + 1))) (k5 : (1 ≤ a1) → (a1 ≤ 99999) → (0 ≤ a2) → (a2 ≤ 9999) → (σ 98 10 = 2) → -2147483648 ≤ -(-7) ∧ -(-7) < (2147483648 : Int)) (k6 : (1 ≤ a1) → (a1 ≤ 99999) → (0 ≤ a2) → (a2 ≤ 9999) → (σ 98 10 = 2) → (0 : Int) ≤ -(-7) ∧ -(-7) < (8 : Int)) (k7 : (1 ≤ a1) → (a1 ≤ 99999) → (0 ≤ a2) → (a2 ≤ 9999) → (σ 98 10 = 2) → -2147483648 ≤ (σ 157 (-(-7))) + 1 ∧ (σ 157 (-(-7))) + 1 < (2147483648 : Int)) (k8 : (1 ≤ a1) → (a1 ≤ 99999) → (0 ≤ a2) → (a2 ≤ 9999) → (σ 98 10 = 2) → Q (-7) (zup σ 157 (-(-7)) ((σ 157 (-(-7))) + 1))) (k9 : (a1 < 1 ∨ (1 ≤ a1 ∧ 99999 < a1) ∨ (1 ≤ a1 ∧ a1 ≤ 99999 ∧ a2 < 0) ∨ (1 ≤ a1 ∧ a1 ≤ 99999 ∧ 0 ≤ a2 ∧ 9999 < a2)) → -2147483648 ≤ -(-6) ∧ -(-6) < (2147483648 : Int)) (k10 : (a1 < 1 ∨ (1 ≤ a1 ∧ 99999 < a1) ∨ (1 ≤ a1 ∧ a1 ≤ 99999 ∧ a2 < 0) ∨ (1 ≤ a1 ∧ a1 ≤ 99999 ∧ 0 ≤ a2 ∧ 9999 < a2)) → (0 : Int) ≤ -(-6) ∧ -(-6) < (8 : Int)) (k11 : (a1 < 1 ∨ (1 ≤ a1 ∧ 99999 < a1) ∨ (1 ≤ a1 ∧ a1 ≤ 99999 ∧ a2 < 0) ∨ (1 ≤ a1 ∧ a1 ≤ 99999 ∧ 0 ≤ a2 ∧ 9999 < a2)) → -2147483648 ≤ (σ 157 (-(-6))) + 1 ∧ (σ 157 (-(-6))) + 1 < (2147483648 : Int)) (k12 : (a1 < 1 ∨ (1 ≤ a1 ∧ 99999 < a1) ∨ (1 ≤ a1 ∧ a1 ≤ 99999 ∧ a2 < 0) ∨ (1 ≤ a1 ∧ a1 ≤ 99999 ∧ 0 ≤ a2 ∧ 9999 < a2)) → Q (-6) (zup σ 157 (-(-6)) ((σ 157 (-(-6))) + 1))) : zO G MX12_roof [zr 98, zi a1, zi a2] σ Q := by
  refine zO_of (ls0 := [zr 98, zi a1, zi a2]) (by decide) (Nat.le_of_ble_eq_true rfl) rfl ?_
  have J23 : (a1 < 1 ∨ (1 ≤ a1 ∧ 99999 < a1) ∨ (1 ≤ a1 ∧ a1 ≤ 99999 ∧ a2 < 0) ∨ (1 ≤ a1 ∧ a1 ≤ 99999 ∧ 0 ≤ a2 ∧ 9999 < a2)) → zR G MX12_roof 23 [zr 98, zi a1, zi a2] [] σ Q := by
    intro h6
    refine z_aload_n dX12_roof_23 rfl rfl ?_
    refine z_bipush (x := (-6)) dX12_roof_24 (by decide +kernel) (by unfold zIn; decide) ?_
    have s9 : -2147483648 ≤ -(-6) ∧ -(-6) < (2147483648 : Int) := k9 h6
    have s10 : (0 : Int) ≤ -(-6) ∧ -(-6) < (8 : Int) := k10 h6
    have s11 : -2147483648 ≤ (σ 157 (-(-6))) + 1 ∧ (σ 157 (-(-6))) + 1 < (2147483648 : Int) := k11 h6
    refine z_callv (as := [zi (-6)]) (st := []) mkX12_no lkRX12_267 rfl rfl rfl (by decide) (Nat.le_of_ble_eq_true rfl) rfl dX12_roof_26 ?_
    refine SX12_no s9 s10 s11 ?_
    show zR G MX12_roof 29 [zr 98, zi a1, zi a2] [zi (-6)] (zup σ 157 (-(-6)) ((σ 157 (-(-6))) + 1)) Q
    exact z_ireti rfl dX12_roof_29 (k12 h6)
  refine z_iload_n dX12_roof_0 rfl rfl ?_
  refine z_iconst dX12_roof_1 (by unfold zIn; decide) ?_
  refine z_icmp_lt dX12_roof_2 (tgt := 23) (by decide) (fun h1 => ?_) (fun h1 => ?_)
  · skip
    exact J23 (Or.inl h1)
  · skip
    refine z_iload_n dX12_roof_5 rfl rfl ?_
    refine z_ldcw (x := 99999) (zin_9 (List.mem_of_getElem? (i := 65) (by decide +kernel))) (by unfold zIn; decide) dX12_roof_6 ?_
    refine z_icmp_gt dX12_roof_9 (tgt := 23) (by decide) (fun h2 => ?_) (fun h2 => ?_)
    · skip
      exact J23 (Or.inr (Or.inl ⟨h1, h2⟩))
    · skip
      refine z_iload_n dX12_roof_12 rfl rfl ?_
      refine z_if_lt dX12_roof_13 (tgt := 23) (by decide) (fun h3 => ?_) (fun h3 => ?_)
      · skip
        exact J23 (Or.inr (Or.inr (Or.inl ⟨h1, h2, h3⟩)))
      · skip
        refine z_iload_n dX12_roof_16 rfl rfl ?_
        refine z_sipush (x := 9999) dX12_roof_17 (by decide +kernel) (by unfold zIn; decide) ?_
        refine z_icmp_le dX12_roof_20 (tgt := 30) (by decide) (fun h4 => ?_) (fun h4 => ?_)
        · skip
          refine z_aload_n dX12_roof_30 rfl rfl ?_
          refine z_getfI (k := 10) flRX12_471 rfl rfl dX12_roof_31 ?_
          refine z_iconst dX12_roof_34 (by unfold zIn; decide) ?_
          refine z_icmp_ne dX12_roof_35 (tgt := 45) (by decide) (fun h5 => ?_) (fun h5 => ?_)
          · skip
            refine z_aload_n dX12_roof_45 rfl rfl ?_
            refine z_getfR (k := 71) flRX12_184 rfl rfl dX12_roof_46 ?_
            refine z_aload_n dX12_roof_49 rfl rfl ?_
            refine z_getfI (k := 10) flRX12_471 rfl rfl dX12_roof_50 ?_
            refine z_iload_n dX12_roof_53 rfl rfl ?_
            have s1 : (0 : Int) ≤ σ 98 10 ∧ σ 98 10 < (2 : Int) := k1 h1 h2 h3 h4 h5
            refine z_iast rfl s1.1 s1.2 dX12_roof_54 ?_
            refine z_aload_n dX12_roof_55 rfl rfl ?_
            refine z_getfR (k := 72) flRX12_187 rfl rfl dX12_roof_56 ?_
            refine z_aload_n dX12_roof_59 rfl rfl ?_
            refine z_getfI (k := 10) flRX12_471 rfl rfl dX12_roof_60 ?_
            refine z_iload_n dX12_roof_63 rfl rfl ?_
            have s2 : (0 : Int) ≤ (zup σ 155 (σ 98 10) a1) 98 10 ∧ (zup σ 155 (σ 98 10) a1) 98 10 < (2 : Int) := k2 h1 h2 h3 h4 h5
            refine z_iast rfl s2.1 s2.2 dX12_roof_64 ?_
            refine z_aload_n dX12_roof_65 rfl rfl ?_
            refine z_dup dX12_roof_66 rfl ?_
            refine z_getfI (k := 10) flRX12_471 rfl rfl dX12_roof_67 ?_
            refine z_dup_x1 dX12_roof_70 rfl rfl ?_
            refine z_iconst dX12_roof_71 (by unfold zIn; decide) ?_
            have s3 : -2147483648 ≤ (zup (zup σ 155 (σ 98 10) a1) 156 ((zup σ 155 (σ 98 10) a1) 98 10) a2) 98 10 + 1 ∧ (zup (zup σ 155 (σ 98 10) a1) 156 ((zup σ 155 (σ 98 10) a1) 98 10) a2) 98 10 + 1 < (2147483648 : Int) := k3 h1 h2 h3 h4 h5
            refine z_iaddN dX12_roof_72 s3 ?_
            refine z_putI (k := 10) fpRX12_471 rfl rfl dX12_roof_73 ?_
            exact z_ireti rfl dX12_roof_76 (k4 h1 h2 h3 h4 h5)
          · skip
            refine z_aload_n dX12_roof_38 rfl rfl ?_
            refine z_bipush (x := (-7)) dX12_roof_39 (by decide +kernel) (by unfold zIn; decide) ?_
            have s5 : -2147483648 ≤ -(-7) ∧ -(-7) < (2147483648 : Int) := k5 h1 h2 h3 h4 h5
            have s6 : (0 : Int) ≤ -(-7) ∧ -(-7) < (8 : Int) := k6 h1 h2 h3 h4 h5
            have s7 : -2147483648 ≤ (σ 157 (-(-7))) + 1 ∧ (σ 157 (-(-7))) + 1 < (2147483648 : Int) := k7 h1 h2 h3 h4 h5
            refine z_callv (as := [zi (-7)]) (st := []) mkX12_no lkRX12_267 rfl rfl rfl (by decide) (Nat.le_of_ble_eq_true rfl) rfl dX12_roof_41 ?_
            refine SX12_no s5 s6 s7 ?_
            show zR G MX12_roof 44 [zr 98, zi a1, zi a2] [zi (-7)] (zup σ 157 (-(-7)) ((σ 157 (-(-7))) + 1)) Q
            exact z_ireti rfl dX12_roof_44 (k8 h1 h2 h3 h4 h5)
        · skip
          exact J23 (Or.inr (Or.inr (Or.inr ⟨h1, h2, h3, h4⟩)))
set_option maxRecDepth 20000 in
set_option maxHeartbeats 1000000 in
theorem TX12_endsIn {G : zG} {σ : zS} {Q : Int → zS → Prop} {a1 a2 : Int}  (k1 : (0 : Int) ≤ a1 ∧ a1 < (8 : Int)) (k2 : (σ 145 a1 = 0) → (zdiv (σ 98 0) 365 ≤ σ 144 a1) → -2147483648 ≤ zdiv (σ 98 0) 365 + a2 ∧ zdiv (σ 98 0) 365 + a2 < (2147483648 : Int)) (k3 : (σ 145 a1 = 0) → (zdiv (σ 98 0) 365 ≤ σ 144 a1) → (σ 144 a1 < zdiv (σ 98 0) 365 + a2) → Q 1 σ) (k4 : (σ 145 a1 ≠ 0 ∨ (σ 145 a1 = 0 ∧ σ 144 a1 < zdiv (σ 98 0) 365) ∨ (σ 145 a1 = 0 ∧ zdiv (σ 98 0) 365 ≤ σ 144 a1 ∧ zdiv (σ 98 0) 365 + a2 ≤ σ 144 a1)) → Q 0 σ) : zO G MX12_endsIn [zr 98, zi a1, zi a2] σ Q := by
  refine zO_of (ls0 := [zr 98, zi a1, zi a2]) (by decide) (Nat.le_of_ble_eq_true rfl) rfl ?_
  have J41 : (σ 145 a1 ≠ 0 ∨ (σ 145 a1 = 0 ∧ σ 144 a1 < zdiv (σ 98 0) 365) ∨ (σ 145 a1 = 0 ∧ zdiv (σ 98 0) 365 ≤ σ 144 a1 ∧ zdiv (σ 98 0) 365 + a2 ≤ σ 144 a1)) → zR G MX12_endsIn 41 [zr 98, zi a1, zi a2] [] σ Q := by
    intro h4
    refine z_iconst dX12_endsIn_41 (by unfold zIn; decide) ?_
    exact z_iretz rfl (by decide) dX12_endsIn_42 (k4 h4)
  refine z_aload_n dX12_endsIn_0 rfl rfl ?_
  refine z_getfR (k := 60) flRX12_154 rfl rfl dX12_endsIn_1 ?_
  refine z_iload_n dX12_endsIn_4 rfl rfl ?_
  have s1 : (0 : Int) ≤ a1 ∧ a1 < (8 : Int) := k1
  refine z_iald rfl s1.1 s1.2 dX12_endsIn_5 ?_
  refine z_if_ne dX12_endsIn_6 (tgt := 41) (by decide) (fun h1 => ?_) (fun h1 => ?_)
  · skip
    exact J41 (Or.inl h1)
  · skip
    refine z_aload_n dX12_endsIn_9 rfl rfl ?_
    refine z_getfR (k := 59) flRX12_151 rfl rfl dX12_endsIn_10 ?_
    refine z_iload_n dX12_endsIn_13 rfl rfl ?_
    refine z_iald rfl s1.1 s1.2 dX12_endsIn_14 ?_
    refine z_aload_n dX12_endsIn_15 rfl rfl ?_
    refine z_callv (as := []) (st := [zi (σ 144 a1)]) mkX12_year lkRX12_450 rfl rfl rfl (by decide) (Nat.le_of_ble_eq_true rfl) rfl dX12_endsIn_16 ?_
    refine SX12_year ?_
    show zR G MX12_endsIn 19 [zr 98, zi a1, zi a2] [zi (zdiv (σ 98 0) 365), zi (σ 144 a1)] σ Q
    refine z_icmp_lt dX12_endsIn_19 (tgt := 41) (by decide) (fun h2 => ?_) (fun h2 => ?_)
    · skip
      exact J41 (Or.inr (Or.inl ⟨h1, h2⟩))
    · skip
      refine z_aload_n dX12_endsIn_22 rfl rfl ?_
      refine z_getfR (k := 59) flRX12_151 rfl rfl dX12_endsIn_23 ?_
      refine z_iload_n dX12_endsIn_26 rfl rfl ?_
      refine z_iald rfl s1.1 s1.2 dX12_endsIn_27 ?_
      refine z_aload_n dX12_endsIn_28 rfl rfl ?_
      refine z_callv (as := []) (st := [zi (σ 144 a1)]) mkX12_year lkRX12_450 rfl rfl rfl (by decide) (Nat.le_of_ble_eq_true rfl) rfl dX12_endsIn_29 ?_
      refine SX12_year ?_
      show zR G MX12_endsIn 32 [zr 98, zi a1, zi a2] [zi (zdiv (σ 98 0) 365), zi (σ 144 a1)] σ Q
      refine z_iload_n dX12_endsIn_32 rfl rfl ?_
      have s2 : -2147483648 ≤ zdiv (σ 98 0) 365 + a2 ∧ zdiv (σ 98 0) 365 + a2 < (2147483648 : Int) := k2 h1 h2
      refine z_iaddN dX12_endsIn_33 s2 ?_
      refine z_icmp_ge dX12_endsIn_34 (tgt := 41) (by decide) (fun h3 => ?_) (fun h3 => ?_)
      · skip
        exact J41 (Or.inr (Or.inr ⟨h1, h2, h3⟩))
      · skip
        refine z_iconst dX12_endsIn_37 (by unfold zIn; decide) ?_
        refine z_goto dX12_endsIn_38 (tgt := 42) (by decide) ?_
        exact z_iretz rfl (by decide) dX12_endsIn_42 (k3 h1 h2 h3)
set_option maxRecDepth 20000 in
set_option maxHeartbeats 1000000 in
theorem TX12_holds_ {G : zG} {σ : zS} {Q : Int → zS → Prop} {a1 a2 a3 a4 : Int}  (k1 : zR G MX12_holds_ 10 [zr 98, zi a1, zi a2, zi a3, zi a4, zl (σ 98 8), zu, zi 0, zu, zu, zu] [] σ Q) : zO G MX12_holds_ [zr 98, zi a1, zi a2, zi a3, zi a4] σ Q := by
  refine zO_of (ls0 := [zr 98, zi a1, zi a2, zi a3, zi a4, zu, zu, zu, zu, zu, zu]) (by decide) (Nat.le_of_ble_eq_true rfl) rfl ?_
  refine z_aload_n dX12_holds__0 rfl rfl ?_
  refine z_getfI (k := 8) flRX12_453 rfl rfl dX12_holds__1 ?_
  refine z_i2l dX12_holds__4 ?_
  refine z_lstore (ls' := [zr 98, zi a1, zi a2, zi a3, zi a4, zl (σ 98 8), zu, zu, zu, zu, zu]) dX12_holds__5 (by decide) rfl ?_
  refine z_iconst dX12_holds__7 (by unfold zIn; decide) ?_
  refine z_istore (ls' := [zr 98, zi a1, zi a2, zi a3, zi a4, zl (σ 98 8), zu, zi 0, zu, zu, zu]) dX12_holds__8 (by decide) rfl ?_
  exact k1
set_option maxRecDepth 20000 in
set_option maxHeartbeats 1000000 in
theorem TX12_holds__10 {G : zG} {σ : zS} {Q : Int → zS → Prop} {v1 v2 v3 v4 v5 v7 : Int}  (k1 : (v2 ≤ v7) → zR G MX12_holds_ 227 [zr 98, zi v1, zi v2, zi v3, zi v4, zl v5, zu, zi 0, zu, zu, zu] [] σ Q) (k2 : (v7 < v2) → -2147483648 ≤ zdiv (σ 98 0) 365 + v7 ∧ zdiv (σ 98 0) 365 + v7 < (2147483648 : Int)) (k3 : (v7 < v2) → zR G MX12_holds_ 28 [zr 98, zi v1, zi v2, zi v3, zi v4, zl v5, zu, zi v7, zi (zdiv (σ 98 0) 365 + v7), zi 0, zu] [] σ Q) : zR G MX12_holds_ 10 [zr 98, zi v1, zi v2, zi v3, zi v4, zl v5, zu, zi v7, zu, zu, zu] [] σ Q := by
  refine z_iload dX12_holds__10 rfl ?_
  refine z_iload_n dX12_holds__12 rfl rfl ?_
  refine z_icmp_ge dX12_holds__13 (tgt := 224) (by decide) (fun h1 => ?_) (fun h1 => ?_)
  · skip
    refine z_iconst dX12_holds__224 (by unfold zIn; decide) ?_
    refine z_istore (ls' := [zr 98, zi v1, zi v2, zi v3, zi v4, zl v5, zu, zi 0, zu, zu, zu]) dX12_holds__225 (by decide) rfl ?_
    exact k1 h1
  · skip
    refine z_aload_n dX12_holds__16 rfl rfl ?_
    refine z_callv (as := []) (st := []) mkX12_year lkRX12_450 rfl rfl rfl (by decide) (Nat.le_of_ble_eq_true rfl) rfl dX12_holds__17 ?_
    refine SX12_year ?_
    show zR G MX12_holds_ 20 [zr 98, zi v1, zi v2, zi v3, zi v4, zl v5, zu, zi v7, zu, zu, zu] [zi (zdiv (σ 98 0) 365)] σ Q
    refine z_iload dX12_holds__20 rfl ?_
    have s2 : -2147483648 ≤ zdiv (σ 98 0) 365 + v7 ∧ zdiv (σ 98 0) 365 + v7 < (2147483648 : Int) := k2 h1
    refine z_iaddN dX12_holds__22 s2 ?_
    refine z_istore (ls' := [zr 98, zi v1, zi v2, zi v3, zi v4, zl v5, zu, zi v7, zi (zdiv (σ 98 0) 365 + v7), zu, zu]) dX12_holds__23 (by decide) rfl ?_
    refine z_iconst dX12_holds__25 (by unfold zIn; decide) ?_
    refine z_istore (ls' := [zr 98, zi v1, zi v2, zi v3, zi v4, zl v5, zu, zi v7, zi (zdiv (σ 98 0) 365 + v7), zi 0, zu]) dX12_holds__26 (by decide) rfl ?_
    exact k3 h1
set_option maxRecDepth 20000 in
set_option maxHeartbeats 1000000 in
theorem TX12_holds__28 {G : zG} {σ : zS} {Q : Int → zS → Prop} {v1 v2 v3 v4 v5 v7 v8 v9 : Int}  (k1 : (σ 98 5 ≤ v9) → -9223372036854775808 ≤ v5 - v4 ∧ v5 - v4 < (9223372036854775808 : Int)) (k2 : (σ 98 5 ≤ v9) → zR G MX12_holds_ 162 [zr 98, zi v1, zi v2, zi v3, zi v4, zl (v5 - v4), zu, zi v7, zi v8, zi 0, zu] [] σ Q) (k3 : (v9 < σ 98 5) → (zand (zshr v1 v9) 1 = 1) → (0 : Int) ≤ v9 ∧ v9 < (8 : Int)) (k4 : (v9 < σ 98 5) → (zand (zshr v1 v9) 1 = 1) → (σ 144 v9 ≤ v8) → (v8 = σ 144 v9) → zO G MX12_fine [zr 98, zi v9, zi 0] σ (fun rr σ' => zR G MX12_holds_ 92 [zr 98, zi v1, zi v2, zi v3, zi v4, zl v5, zu, zi v7, zi v8, zi v9, zi 1] [zi rr, zl v5] σ' Q)) (k5 : (v9 < σ 98 5) → (zand (zshr v1 v9) 1 = 1) → (σ 144 v9 ≤ v8) → (v8 ≠ σ 144 v9) → (v7 = 0) → (0 : Int) ≤ v8 ∧ v8 < (120 : Int)) (k6 : (v9 < σ 98 5) → (zand (zshr v1 v9) 1 ≠ 1 ∨ (zand (zshr v1 v9) 1 = 1 ∧ v8 < σ 144 v9)) → (v7 = 0) → (0 : Int) ≤ v8 ∧ v8 < (120 : Int)) (k7 : (v9 < σ 98 5) → (zand (zshr v1 v9) 1 = 1) → (σ 144 v9 ≤ v8) → (v8 ≠ σ 144 v9) → (v7 ≠ 0 ∨ (v7 = 0 ∧ σ 151 v8 = 0)) → zO G MX12_asBefore [zr 98, zi v9, zi v8] σ (fun rr σ' => zR G MX12_holds_ 129 [zr 98, zi v1, zi v2, zi v3, zi v4, zl v5, zu, zi v7, zi v8, zi v9, zi 1] [zi rr, zl v5] σ' Q)) (k8 : (v9 < σ 98 5) → (zand (zshr v1 v9) 1 ≠ 1 ∨ (zand (zshr v1 v9) 1 = 1 ∧ v8 < σ 144 v9)) → (v7 ≠ 0 ∨ (v7 = 0 ∧ σ 151 v8 = 0)) → zO G MX12_rentOf [zr 98, zi v9, zi v8] σ (fun rr σ' => zR G MX12_holds_ 141 [zr 98, zi v1, zi v2, zi v3, zi v4, zl v5, zu, zi v7, zi v8, zi v9, zi 0] [zi rr, zl v5] σ' Q)) (k9 : (v9 < σ 98 5) → (zand (zshr v1 v9) 1 = 1) → (σ 144 v9 ≤ v8) → (v8 ≠ σ 144 v9) → (v7 = 0) → (σ 151 v8 ≠ 0) → -2147483648 ≤ v9 + 1 ∧ v9 + 1 < (2147483648 : Int)) (k10 : (v9 < σ 98 5) → (zand (zshr v1 v9) 1 = 1) → (σ 144 v9 ≤ v8) → (v8 ≠ σ 144 v9) → (v7 = 0) → (σ 151 v8 ≠ 0) → zR G MX12_holds_ 28 [zr 98, zi v1, zi v2, zi v3, zi v4, zl v5, zu, zi v7, zi v8, zi (v9 + 1), zu] [] σ Q) (k11 : (v9 < σ 98 5) → (zand (zshr v1 v9) 1 ≠ 1 ∨ (zand (zshr v1 v9) 1 = 1 ∧ v8 < σ 144 v9)) → (v7 = 0) → (σ 151 v8 ≠ 0) → -2147483648 ≤ v9 + 1 ∧ v9 + 1 < (2147483648 : Int)) (k12 : (v9 < σ 98 5) → (zand (zshr v1 v9) 1 ≠ 1 ∨ (zand (zshr v1 v9) 1 = 1 ∧ v8 < σ 144 v9)) → (v7 = 0) → (σ 151 v8 ≠ 0) → zR G MX12_holds_ 28 [zr 98, zi v1, zi v2, zi v3, zi v4, zl v5, zu, zi v7, zi v8, zi (v9 + 1), zu] [] σ Q) : zR G MX12_holds_ 28 [zr 98, zi v1, zi v2, zi v3, zi v4, zl v5, zu, zi v7, zi v8, zi v9, zu] [] σ Q := by
  have J145_1 : (v9 < σ 98 5) → (zand (zshr v1 v9) 1 ≠ 1 ∨ (zand (zshr v1 v9) 1 = 1 ∧ v8 < σ 144 v9)) → (v7 = 0) → (σ 151 v8 ≠ 0) → zR G MX12_holds_ 145 [zr 98, zi v1, zi v2, zi v3, zi v4, zl v5, zu, zi v7, zi v8, zi v9, zi 0] [] σ Q := by
    intro h1 h6 h10 h11
    have s11 : -2147483648 ≤ v9 + 1 ∧ v9 + 1 < (2147483648 : Int) := k11 h1 h6 h10 h11
    refine z_iincN (ls' := [zr 98, zi v1, zi v2, zi v3, zi v4, zl v5, zu, zi v7, zi v8, zi (v9 + 1), zi 0]) dX12_holds__145 rfl (by decide) s11 rfl ?_
    refine z_goto dX12_holds__148 (tgt := 28) (by decide) ?_
    exact zR_fg [false, false, false, false, false, false, false, false, false, false, true] (k12 h1 h6 h10 h11)
  have J145 : (v9 < σ 98 5) → (zand (zshr v1 v9) 1 = 1) → (σ 144 v9 ≤ v8) → (v8 ≠ σ 144 v9) → (v7 = 0) → (σ 151 v8 ≠ 0) → zR G MX12_holds_ 145 [zr 98, zi v1, zi v2, zi v3, zi v4, zl v5, zu, zi v7, zi v8, zi v9, zi 1] [] σ Q := by
    intro h1 h2 h3 h5 h8 h9
    have s9 : -2147483648 ≤ v9 + 1 ∧ v9 + 1 < (2147483648 : Int) := k9 h1 h2 h3 h5 h8 h9
    refine z_iincN (ls' := [zr 98, zi v1, zi v2, zi v3, zi v4, zl v5, zu, zi v7, zi v8, zi (v9 + 1), zi 1]) dX12_holds__145 rfl (by decide) s9 rfl ?_
    refine z_goto dX12_holds__148 (tgt := 28) (by decide) ?_
    exact zR_fg [false, false, false, false, false, false, false, false, false, false, true] (k10 h1 h2 h3 h5 h8 h9)
  have J114_1 : (v9 < σ 98 5) → (zand (zshr v1 v9) 1 ≠ 1 ∨ (zand (zshr v1 v9) 1 = 1 ∧ v8 < σ 144 v9)) → (v7 ≠ 0 ∨ (v7 = 0 ∧ σ 151 v8 = 0)) → zR G MX12_holds_ 114 [zr 98, zi v1, zi v2, zi v3, zi v4, zl v5, zu, zi v7, zi v8, zi v9, zi 0] [] σ Q := by
    intro h1 h6 h14
    refine z_lload dX12_holds__114 rfl ?_
    refine z_iload dX12_holds__116 rfl ?_
    refine z_if_eq dX12_holds__118 (tgt := 133) (by decide) (fun z => ?_) (fun z => absurd z (by decide))
    refine z_aload_n dX12_holds__133 rfl rfl ?_
    refine z_iload dX12_holds__134 rfl ?_
    refine z_iload dX12_holds__136 rfl ?_
    refine z_callv (as := [zi v9, zi v8]) (st := [zl v5]) mkX12_rentOf lkRX12_438 rfl rfl rfl (by decide) (Nat.le_of_ble_eq_true rfl) rfl dX12_holds__138 (k8 h1 h6 h14)
  have J114 : (v9 < σ 98 5) → (zand (zshr v1 v9) 1 = 1) → (σ 144 v9 ≤ v8) → (v8 ≠ σ 144 v9) → (v7 ≠ 0 ∨ (v7 = 0 ∧ σ 151 v8 = 0)) → zR G MX12_holds_ 114 [zr 98, zi v1, zi v2, zi v3, zi v4, zl v5, zu, zi v7, zi v8, zi v9, zi 1] [] σ Q := by
    intro h1 h2 h3 h5 h12
    refine z_lload dX12_holds__114 rfl ?_
    refine z_iload dX12_holds__116 rfl ?_
    refine z_if_eq dX12_holds__118 (tgt := 133) (by decide) (fun z => absurd z (by decide)) (fun z => ?_)
    refine z_aload_n dX12_holds__121 rfl rfl ?_
    refine z_iload dX12_holds__122 rfl ?_
    refine z_iload dX12_holds__124 rfl ?_
    refine z_callv (as := [zi v9, zi v8]) (st := [zl v5]) mkX12_asBefore lkRX12_435 rfl rfl rfl (by decide) (Nat.le_of_ble_eq_true rfl) rfl dX12_holds__126 (k7 h1 h2 h3 h5 h12)
  have J96_1 : (v9 < σ 98 5) → (zand (zshr v1 v9) 1 ≠ 1 ∨ (zand (zshr v1 v9) 1 = 1 ∧ v8 < σ 144 v9)) → zR G MX12_holds_ 96 [zr 98, zi v1, zi v2, zi v3, zi v4, zl v5, zu, zi v7, zi v8, zi v9, zi 0] [] σ Q := by
    intro h1 h6
    refine z_iload dX12_holds__96 rfl ?_
    refine z_if_ne dX12_holds__98 (tgt := 114) (by decide) (fun h10 => ?_) (fun h10 => ?_)
    · skip
      exact J114_1 h1 h6 (Or.inl h10)
    · skip
      refine z_aload_n dX12_holds__101 rfl rfl ?_
      refine z_getfR (k := 67) flRX12_172 rfl rfl dX12_holds__102 ?_
      refine z_iload dX12_holds__105 rfl ?_
      have s6 : (0 : Int) ≤ v8 ∧ v8 < (120 : Int) := k6 h1 h6 h10
      refine z_bald rfl s6.1 s6.2 dX12_holds__107 ?_
      refine z_if_eq dX12_holds__108 (tgt := 114) (by decide) (fun h11 => ?_) (fun h11 => ?_)
      · skip
        exact J114_1 h1 h6 (Or.inr ⟨h10, h11⟩)
      · skip
        refine z_goto dX12_holds__111 (tgt := 145) (by decide) ?_
        exact J145_1 h1 h6 h10 h11
  have J96 : (v9 < σ 98 5) → (zand (zshr v1 v9) 1 = 1) → (σ 144 v9 ≤ v8) → (v8 ≠ σ 144 v9) → zR G MX12_holds_ 96 [zr 98, zi v1, zi v2, zi v3, zi v4, zl v5, zu, zi v7, zi v8, zi v9, zi 1] [] σ Q := by
    intro h1 h2 h3 h5
    refine z_iload dX12_holds__96 rfl ?_
    refine z_if_ne dX12_holds__98 (tgt := 114) (by decide) (fun h8 => ?_) (fun h8 => ?_)
    · skip
      exact J114 h1 h2 h3 h5 (Or.inl h8)
    · skip
      refine z_aload_n dX12_holds__101 rfl rfl ?_
      refine z_getfR (k := 67) flRX12_172 rfl rfl dX12_holds__102 ?_
      refine z_iload dX12_holds__105 rfl ?_
      have s5 : (0 : Int) ≤ v8 ∧ v8 < (120 : Int) := k5 h1 h2 h3 h5 h8
      refine z_bald rfl s5.1 s5.2 dX12_holds__107 ?_
      refine z_if_eq dX12_holds__108 (tgt := 114) (by decide) (fun h9 => ?_) (fun h9 => ?_)
      · skip
        exact J114 h1 h2 h3 h5 (Or.inr ⟨h8, h9⟩)
      · skip
        refine z_goto dX12_holds__111 (tgt := 145) (by decide) ?_
        exact J145 h1 h2 h3 h5 h8 h9
  have J63 : (v9 < σ 98 5) → (zand (zshr v1 v9) 1 ≠ 1 ∨ (zand (zshr v1 v9) 1 = 1 ∧ v8 < σ 144 v9)) → zR G MX12_holds_ 63 [zr 98, zi v1, zi v2, zi v3, zi v4, zl v5, zu, zi v7, zi v8, zi v9, zu] [] σ Q := by
    intro h1 h6
    refine z_iconst dX12_holds__63 (by unfold zIn; decide) ?_
    refine z_istore (ls' := [zr 98, zi v1, zi v2, zi v3, zi v4, zl v5, zu, zi v7, zi v8, zi v9, zi 0]) dX12_holds__64 (by decide) rfl ?_
    refine z_iload dX12_holds__66 rfl ?_
    refine z_if_eq dX12_holds__68 (tgt := 96) (by decide) (fun z => ?_) (fun z => absurd z (by decide))
    exact J96_1 h1 h6
  refine z_iload dX12_holds__28 rfl ?_
  refine z_aload_n dX12_holds__30 rfl rfl ?_
  refine z_getfI (k := 5) flRX12_415 rfl rfl dX12_holds__31 ?_
  refine z_icmp_ge dX12_holds__34 (tgt := 151) (by decide) (fun h1 => ?_) (fun h1 => ?_)
  · skip
    refine z_lload dX12_holds__151 rfl ?_
    refine z_iload dX12_holds__153 rfl ?_
    refine z_i2l dX12_holds__155 ?_
    have s1 : -9223372036854775808 ≤ v5 - v4 ∧ v5 - v4 < (9223372036854775808 : Int) := k1 h1
    refine z_lsubN dX12_holds__156 s1 ?_
    refine z_lstore (ls' := [zr 98, zi v1, zi v2, zi v3, zi v4, zl (v5 - v4), zu, zi v7, zi v8, zi v9, zu]) dX12_holds__157 (by decide) rfl ?_
    refine z_iconst dX12_holds__159 (by unfold zIn; decide) ?_
    refine z_istore (ls' := [zr 98, zi v1, zi v2, zi v3, zi v4, zl (v5 - v4), zu, zi v7, zi v8, zi 0, zu]) dX12_holds__160 (by decide) rfl ?_
    exact k2 h1
  · skip
    refine z_iload_n dX12_holds__37 rfl rfl ?_
    refine z_iload dX12_holds__38 rfl ?_
    refine z_ishr dX12_holds__40 ?_
    refine z_iconst dX12_holds__41 (by unfold zIn; decide) ?_
    refine z_iand dX12_holds__42 ?_
    refine z_iconst dX12_holds__43 (by unfold zIn; decide) ?_
    refine z_icmp_ne dX12_holds__44 (tgt := 63) (by decide) (fun h2 => ?_) (fun h2 => ?_)
    · skip
      exact J63 h1 (Or.inl h2)
    · skip
      refine z_iload dX12_holds__47 rfl ?_
      refine z_aload_n dX12_holds__49 rfl rfl ?_
      refine z_getfR (k := 59) flRX12_151 rfl rfl dX12_holds__50 ?_
      refine z_iload dX12_holds__53 rfl ?_
      have s3 : (0 : Int) ≤ v9 ∧ v9 < (8 : Int) := k3 h1 h2
      refine z_iald rfl s3.1 s3.2 dX12_holds__55 ?_
      refine z_icmp_lt dX12_holds__56 (tgt := 63) (by decide) (fun h3 => ?_) (fun h3 => ?_)
      · skip
        exact J63 h1 (Or.inr ⟨h2, h3⟩)
      · skip
        refine z_iconst dX12_holds__59 (by unfold zIn; decide) ?_
        refine z_goto dX12_holds__60 (tgt := 64) (by decide) ?_
        refine z_istore (ls' := [zr 98, zi v1, zi v2, zi v3, zi v4, zl v5, zu, zi v7, zi v8, zi v9, zi 1]) dX12_holds__64 (by decide) rfl ?_
        refine z_iload dX12_holds__66 rfl ?_
        refine z_if_eq dX12_holds__68 (tgt := 96) (by decide) (fun z => absurd z (by decide)) (fun z => ?_)
        refine z_iload dX12_holds__71 rfl ?_
        refine z_aload_n dX12_holds__73 rfl rfl ?_
        refine z_getfR (k := 59) flRX12_151 rfl rfl dX12_holds__74 ?_
        refine z_iload dX12_holds__77 rfl ?_
        refine z_iald rfl s3.1 s3.2 dX12_holds__79 ?_
        refine z_icmp_ne dX12_holds__80 (tgt := 96) (by decide) (fun h5 => ?_) (fun h5 => ?_)
        · skip
          exact J96 h1 h2 h3 h5
        · skip
          refine z_lload dX12_holds__83 rfl ?_
          refine z_aload_n dX12_holds__85 rfl rfl ?_
          refine z_iload dX12_holds__86 rfl ?_
          refine z_iconst dX12_holds__88 (by unfold zIn; decide) ?_
          refine z_callv (as := [zi v9, zi 0]) (st := [zl v5]) mkX12_fine lkRX12_456 rfl rfl rfl (by decide) (Nat.le_of_ble_eq_true rfl) rfl dX12_holds__89 (k4 h1 h2 h3 h5)
set_option maxRecDepth 20000 in
set_option maxHeartbeats 1000000 in
theorem TX12_holds__92 {G : zG} {σ : zS} {Q : Int → zS → Prop} {v1 v2 v3 v4 v5 v7 v8 v9 v10 r t1 : Int}  (k1 : -9223372036854775808 ≤ t1 + r ∧ t1 + r < (9223372036854775808 : Int)) (k2 : (v7 = 0) → (0 : Int) ≤ v8 ∧ v8 < (120 : Int)) (k3 : (v7 ≠ 0 ∨ (v7 = 0 ∧ σ 151 v8 = 0)) → (v10 = 0) → zO G MX12_rentOf [zr 98, zi v9, zi v8] σ (fun rr σ' => zR G MX12_holds_ 141 [zr 98, zi v1, zi v2, zi v3, zi v4, zl (t1 + r), zu, zi v7, zi v8, zi v9, zi v10] [zi rr, zl (t1 + r)] σ' Q)) (k4 : (v7 ≠ 0 ∨ (v7 = 0 ∧ σ 151 v8 = 0)) → (v10 ≠ 0) → zO G MX12_asBefore [zr 98, zi v9, zi v8] σ (fun rr σ' => zR G MX12_holds_ 129 [zr 98, zi v1, zi v2, zi v3, zi v4, zl (t1 + r), zu, zi v7, zi v8, zi v9, zi v10] [zi rr, zl (t1 + r)] σ' Q)) (k5 : (v7 = 0) → (σ 151 v8 ≠ 0) → -2147483648 ≤ v9 + 1 ∧ v9 + 1 < (2147483648 : Int)) (k6 : (v7 = 0) → (σ 151 v8 ≠ 0) → zR G MX12_holds_ 28 [zr 98, zi v1, zi v2, zi v3, zi v4, zl (t1 + r), zu, zi v7, zi v8, zi (v9 + 1), zu] [] σ Q) : zR G MX12_holds_ 92 [zr 98, zi v1, zi v2, zi v3, zi v4, zl v5, zu, zi v7, zi v8, zi v9, zi v10] [zi r, zl t1] σ Q := by
  have J145 : (v7 = 0) → (σ 151 v8 ≠ 0) → zR G MX12_holds_ 145 [zr 98, zi v1, zi v2, zi v3, zi v4, zl (t1 + r), zu, zi v7, zi v8, zi v9, zi v10] [] σ Q := by
    intro h1 h2
    have s5 : -2147483648 ≤ v9 + 1 ∧ v9 + 1 < (2147483648 : Int) := k5 h1 h2
    refine z_iincN (ls' := [zr 98, zi v1, zi v2, zi v3, zi v4, zl (t1 + r), zu, zi v7, zi v8, zi (v9 + 1), zi v10]) dX12_holds__145 rfl (by decide) s5 rfl ?_
    refine z_goto dX12_holds__148 (tgt := 28) (by decide) ?_
    exact zR_fg [false, false, false, false, false, false, false, false, false, false, true] (k6 h1 h2)
  have J114 : (v7 ≠ 0 ∨ (v7 = 0 ∧ σ 151 v8 = 0)) → zR G MX12_holds_ 114 [zr 98, zi v1, zi v2, zi v3, zi v4, zl (t1 + r), zu, zi v7, zi v8, zi v9, zi v10] [] σ Q := by
    intro h3
    refine z_lload dX12_holds__114 rfl ?_
    refine z_iload dX12_holds__116 rfl ?_
    refine z_if_eq dX12_holds__118 (tgt := 133) (by decide) (fun h4 => ?_) (fun h4 => ?_)
    · skip
      refine z_aload_n dX12_holds__133 rfl rfl ?_
      refine z_iload dX12_holds__134 rfl ?_
      refine z_iload dX12_holds__136 rfl ?_
      refine z_callv (as := [zi v9, zi v8]) (st := [zl (t1 + r)]) mkX12_rentOf lkRX12_438 rfl rfl rfl (by decide) (Nat.le_of_ble_eq_true rfl) rfl dX12_holds__138 (k3 h3 h4)
    · skip
      refine z_aload_n dX12_holds__121 rfl rfl ?_
      refine z_iload dX12_holds__122 rfl ?_
      refine z_iload dX12_holds__124 rfl ?_
      refine z_callv (as := [zi v9, zi v8]) (st := [zl (t1 + r)]) mkX12_asBefore lkRX12_435 rfl rfl rfl (by decide) (Nat.le_of_ble_eq_true rfl) rfl dX12_holds__126 (k4 h3 h4)
  have J96 : zR G MX12_holds_ 96 [zr 98, zi v1, zi v2, zi v3, zi v4, zl (t1 + r), zu, zi v7, zi v8, zi v9, zi v10] [] σ Q := by
    refine z_iload dX12_holds__96 rfl ?_
    refine z_if_ne dX12_holds__98 (tgt := 114) (by decide) (fun h1 => ?_) (fun h1 => ?_)
    · skip
      exact J114 (Or.inl h1)
    · skip
      refine z_aload_n dX12_holds__101 rfl rfl ?_
      refine z_getfR (k := 67) flRX12_172 rfl rfl dX12_holds__102 ?_
      refine z_iload dX12_holds__105 rfl ?_
      have s2 : (0 : Int) ≤ v8 ∧ v8 < (120 : Int) := k2 h1
      refine z_bald rfl s2.1 s2.2 dX12_holds__107 ?_
      refine z_if_eq dX12_holds__108 (tgt := 114) (by decide) (fun h2 => ?_) (fun h2 => ?_)
      · skip
        exact J114 (Or.inr ⟨h1, h2⟩)
      · skip
        refine z_goto dX12_holds__111 (tgt := 145) (by decide) ?_
        exact J145 h1 h2
  refine z_i2l dX12_holds__92 ?_
  have s1 : -9223372036854775808 ≤ t1 + r ∧ t1 + r < (9223372036854775808 : Int) := k1
  refine z_laddN dX12_holds__93 s1 ?_
  refine z_lstore (ls' := [zr 98, zi v1, zi v2, zi v3, zi v4, zl (t1 + r), zu, zi v7, zi v8, zi v9, zi v10]) dX12_holds__94 (by decide) rfl ?_
  exact J96
set_option maxRecDepth 20000 in
set_option maxHeartbeats 1000000 in
theorem TX12_holds__129 {G : zG} {σ : zS} {Q : Int → zS → Prop} {v1 v2 v3 v4 v5 v7 v8 v9 v10 r t1 : Int}  (k1 : -9223372036854775808 ≤ t1 + r ∧ t1 + r < (9223372036854775808 : Int)) (k2 : -2147483648 ≤ v9 + 1 ∧ v9 + 1 < (2147483648 : Int)) (k3 : zR G MX12_holds_ 28 [zr 98, zi v1, zi v2, zi v3, zi v4, zl (t1 + r), zu, zi v7, zi v8, zi (v9 + 1), zu] [] σ Q) : zR G MX12_holds_ 129 [zr 98, zi v1, zi v2, zi v3, zi v4, zl v5, zu, zi v7, zi v8, zi v9, zi v10] [zi r, zl t1] σ Q := by
  have J145 : zR G MX12_holds_ 145 [zr 98, zi v1, zi v2, zi v3, zi v4, zl (t1 + r), zu, zi v7, zi v8, zi v9, zi v10] [] σ Q := by
    have s2 : -2147483648 ≤ v9 + 1 ∧ v9 + 1 < (2147483648 : Int) := k2
    refine z_iincN (ls' := [zr 98, zi v1, zi v2, zi v3, zi v4, zl (t1 + r), zu, zi v7, zi v8, zi (v9 + 1), zi v10]) dX12_holds__145 rfl (by decide) s2 rfl ?_
    refine z_goto dX12_holds__148 (tgt := 28) (by decide) ?_
    exact zR_fg [false, false, false, false, false, false, false, false, false, false, true] (k3)
  refine z_i2l dX12_holds__129 ?_
  refine z_goto dX12_holds__130 (tgt := 142) (by decide) ?_
  have s1 : -9223372036854775808 ≤ t1 + r ∧ t1 + r < (9223372036854775808 : Int) := k1
  refine z_laddN dX12_holds__142 s1 ?_
  refine z_lstore (ls' := [zr 98, zi v1, zi v2, zi v3, zi v4, zl (t1 + r), zu, zi v7, zi v8, zi v9, zi v10]) dX12_holds__143 (by decide) rfl ?_
  exact J145
set_option maxRecDepth 20000 in
set_option maxHeartbeats 1000000 in
theorem TX12_holds__141 {G : zG} {σ : zS} {Q : Int → zS → Prop} {v1 v2 v3 v4 v5 v7 v8 v9 v10 r t1 : Int}  (k1 : -9223372036854775808 ≤ t1 + r ∧ t1 + r < (9223372036854775808 : Int)) (k2 : -2147483648 ≤ v9 + 1 ∧ v9 + 1 < (2147483648 : Int)) (k3 : zR G MX12_holds_ 28 [zr 98, zi v1, zi v2, zi v3, zi v4, zl (t1 + r), zu, zi v7, zi v8, zi (v9 + 1), zu] [] σ Q) : zR G MX12_holds_ 141 [zr 98, zi v1, zi v2, zi v3, zi v4, zl v5, zu, zi v7, zi v8, zi v9, zi v10] [zi r, zl t1] σ Q := by
  have J145 : zR G MX12_holds_ 145 [zr 98, zi v1, zi v2, zi v3, zi v4, zl (t1 + r), zu, zi v7, zi v8, zi v9, zi v10] [] σ Q := by
    have s2 : -2147483648 ≤ v9 + 1 ∧ v9 + 1 < (2147483648 : Int) := k2
    refine z_iincN (ls' := [zr 98, zi v1, zi v2, zi v3, zi v4, zl (t1 + r), zu, zi v7, zi v8, zi (v9 + 1), zi v10]) dX12_holds__145 rfl (by decide) s2 rfl ?_
    refine z_goto dX12_holds__148 (tgt := 28) (by decide) ?_
    exact zR_fg [false, false, false, false, false, false, false, false, false, false, true] (k3)
  refine z_i2l dX12_holds__141 ?_
  have s1 : -9223372036854775808 ≤ t1 + r ∧ t1 + r < (9223372036854775808 : Int) := k1
  refine z_laddN dX12_holds__142 s1 ?_
  refine z_lstore (ls' := [zr 98, zi v1, zi v2, zi v3, zi v4, zl (t1 + r), zu, zi v7, zi v8, zi v9, zi v10]) dX12_holds__143 (by decide) rfl ?_
  exact J145
set_option maxRecDepth 20000 in
set_option maxHeartbeats 1000000 in
theorem TX12_holds__162 {G : zG} {σ : zS} {Q : Int → zS → Prop} {v1 v2 v3 v4 v5 v7 v8 v9 : Int}  (k1 : (σ 98 10 ≤ v9) → (0 ≤ zlcmp v5 v3) → -2147483648 ≤ v7 + 1 ∧ v7 + 1 < (2147483648 : Int)) (k2 : (σ 98 10 ≤ v9) → (0 ≤ zlcmp v5 v3) → zR G MX12_holds_ 10 [zr 98, zi v1, zi v2, zi v3, zi v4, zl v5, zu, zi (v7 + 1), zu, zu, zu] [] σ Q) (k3 : (σ 98 10 ≤ v9) → (zlcmp v5 v3 < 0) → Q 0 (zup σ 98 104 v7)) (k4 : (v9 < σ 98 10) → (0 : Int) ≤ v9 ∧ v9 < (2 : Int)) (k5 : (v9 < σ 98 10) → (σ 175 v9 = v7) → -9223372036854775808 ≤ v5 - σ 155 v9 ∧ v5 - σ 155 v9 < (9223372036854775808 : Int)) (k6 : (v9 < σ 98 10) → (σ 175 v9 ≠ v7) → -2147483648 ≤ v9 + 1 ∧ v9 + 1 < (2147483648 : Int)) (k7 : (v9 < σ 98 10) → (σ 175 v9 ≠ v7) → zR G MX12_holds_ 162 [zr 98, zi v1, zi v2, zi v3, zi v4, zl v5, zu, zi v7, zi v8, zi (v9 + 1), zu] [] σ Q) (k8 : (v9 < σ 98 10) → (σ 175 v9 = v7) → -2147483648 ≤ v9 + 1 ∧ v9 + 1 < (2147483648 : Int)) (k9 : (v9 < σ 98 10) → (σ 175 v9 = v7) → zR G MX12_holds_ 162 [zr 98, zi v1, zi v2, zi v3, zi v4, zl (v5 - σ 155 v9), zu, zi v7, zi v8, zi (v9 + 1), zu] [] σ Q) : zR G MX12_holds_ 162 [zr 98, zi v1, zi v2, zi v3, zi v4, zl v5, zu, zi v7, zi v8, zi v9, zu] [] σ Q := by
  have J196_1 : (v9 < σ 98 10) → (σ 175 v9 = v7) → zR G MX12_holds_ 196 [zr 98, zi v1, zi v2, zi v3, zi v4, zl (v5 - σ 155 v9), zu, zi v7, zi v8, zi v9, zu] [] σ Q := by
    intro h1 h3
    have s8 : -2147483648 ≤ v9 + 1 ∧ v9 + 1 < (2147483648 : Int) := k8 h1 h3
    refine z_iincN (ls' := [zr 98, zi v1, zi v2, zi v3, zi v4, zl (v5 - σ 155 v9), zu, zi v7, zi v8, zi (v9 + 1), zu]) dX12_holds__196 rfl (by decide) s8 rfl ?_
    refine z_goto dX12_holds__199 (tgt := 162) (by decide) ?_
    exact k9 h1 h3
  have J196 : (v9 < σ 98 10) → (σ 175 v9 ≠ v7) → zR G MX12_holds_ 196 [zr 98, zi v1, zi v2, zi v3, zi v4, zl v5, zu, zi v7, zi v8, zi v9, zu] [] σ Q := by
    intro h1 h3
    have s6 : -2147483648 ≤ v9 + 1 ∧ v9 + 1 < (2147483648 : Int) := k6 h1 h3
    refine z_iincN (ls' := [zr 98, zi v1, zi v2, zi v3, zi v4, zl v5, zu, zi v7, zi v8, zi (v9 + 1), zu]) dX12_holds__196 rfl (by decide) s6 rfl ?_
    refine z_goto dX12_holds__199 (tgt := 162) (by decide) ?_
    exact k7 h1 h3
  refine z_iload dX12_holds__162 rfl ?_
  refine z_aload_n dX12_holds__164 rfl rfl ?_
  refine z_getfI (k := 10) flRX12_471 rfl rfl dX12_holds__165 ?_
  refine z_icmp_ge dX12_holds__168 (tgt := 202) (by decide) (fun h1 => ?_) (fun h1 => ?_)
  · skip
    refine z_lload dX12_holds__202 rfl ?_
    refine z_iload_n dX12_holds__204 rfl rfl ?_
    refine z_i2l dX12_holds__205 ?_
    refine z_lcmp dX12_holds__206 ?_
    refine z_if_ge dX12_holds__207 (tgt := 218) (by decide) (fun h2 => ?_) (fun h2 => ?_)
    · skip
      have s1 : -2147483648 ≤ v7 + 1 ∧ v7 + 1 < (2147483648 : Int) := k1 h1 h2
      refine z_iincN (ls' := [zr 98, zi v1, zi v2, zi v3, zi v4, zl v5, zu, zi (v7 + 1), zi v8, zi v9, zu]) dX12_holds__218 rfl (by decide) s1 rfl ?_
      refine z_goto dX12_holds__221 (tgt := 10) (by decide) ?_
      exact zR_fg [false, false, false, false, false, false, false, false, true, true, false] (k2 h1 h2)
    · skip
      refine z_aload_n dX12_holds__210 rfl rfl ?_
      refine z_iload dX12_holds__211 rfl ?_
      refine z_putI (k := 104) fpRX12_474 rfl rfl dX12_holds__213 ?_
      refine z_iconst dX12_holds__216 (by unfold zIn; decide) ?_
      exact z_iretz rfl (by decide) dX12_holds__217 (k3 h1 h2)
  · skip
    refine z_aload_n dX12_holds__171 rfl rfl ?_
    refine z_getfR (k := 103) flRX12_244 rfl rfl dX12_holds__172 ?_
    refine z_iload dX12_holds__175 rfl ?_
    have s4 : (0 : Int) ≤ v9 ∧ v9 < (2 : Int) := k4 h1
    refine z_iald rfl s4.1 s4.2 dX12_holds__177 ?_
    refine z_iload dX12_holds__178 rfl ?_
    refine z_icmp_ne dX12_holds__180 (tgt := 196) (by decide) (fun h3 => ?_) (fun h3 => ?_)
    · skip
      exact J196 h1 h3
    · skip
      refine z_lload dX12_holds__183 rfl ?_
      refine z_aload_n dX12_holds__185 rfl rfl ?_
      refine z_getfR (k := 71) flRX12_184 rfl rfl dX12_holds__186 ?_
      refine z_iload dX12_holds__189 rfl ?_
      refine z_iald rfl s4.1 s4.2 dX12_holds__191 ?_
      refine z_i2l dX12_holds__192 ?_
      have s5 : -9223372036854775808 ≤ v5 - σ 155 v9 ∧ v5 - σ 155 v9 < (9223372036854775808 : Int) := k5 h1 h3
      refine z_lsubN dX12_holds__193 s5 ?_
      refine z_lstore (ls' := [zr 98, zi v1, zi v2, zi v3, zi v4, zl (v5 - σ 155 v9), zu, zi v7, zi v8, zi v9, zu]) dX12_holds__194 (by decide) rfl ?_
      exact J196_1 h1 h3
set_option maxRecDepth 20000 in
set_option maxHeartbeats 1000000 in
theorem TX12_holds__227 {G : zG} {σ : zS} {Q : Int → zS → Prop} {v1 v2 v3 v4 v5 v7 : Int}  (k1 : (σ 98 10 ≤ v7) → Q 1 (zup σ 98 105 (zW v5))) (k2 : (v7 < σ 98 10) → (0 : Int) ≤ v7 ∧ v7 < (2 : Int)) (k3 : (v7 < σ 98 10) → (σ 175 v7 ≠ (-1)) → -2147483648 ≤ v2 - σ 175 v7 ∧ v2 - σ 175 v7 < (2147483648 : Int)) (k4 : (v7 < σ 98 10) → (σ 175 v7 ≠ (-1)) → -9223372036854775808 ≤ σ 156 v7 * (v2 - σ 175 v7) ∧ σ 156 v7 * (v2 - σ 175 v7) < (9223372036854775808 : Int)) (k5 : (v7 < σ 98 10) → (σ 175 v7 ≠ (-1)) → -9223372036854775808 ≤ v5 + (σ 156 v7 * (v2 - σ 175 v7)) ∧ v5 + (σ 156 v7 * (v2 - σ 175 v7)) < (9223372036854775808 : Int)) (k6 : (v7 < σ 98 10) → (σ 175 v7 = (-1)) → -2147483648 ≤ v7 + 1 ∧ v7 + 1 < (2147483648 : Int)) (k7 : (v7 < σ 98 10) → (σ 175 v7 = (-1)) → zR G MX12_holds_ 227 [zr 98, zi v1, zi v2, zi v3, zi v4, zl v5, zu, zi (v7 + 1), zu, zu, zu] [] σ Q) (k8 : (v7 < σ 98 10) → (σ 175 v7 ≠ (-1)) → -2147483648 ≤ v7 + 1 ∧ v7 + 1 < (2147483648 : Int)) (k9 : (v7 < σ 98 10) → (σ 175 v7 ≠ (-1)) → zR G MX12_holds_ 227 [zr 98, zi v1, zi v2, zi v3, zi v4, zl (v5 + (σ 156 v7 * (v2 - σ 175 v7))), zu, zi (v7 + 1), zu, zu, zu] [] σ Q) : zR G MX12_holds_ 227 [zr 98, zi v1, zi v2, zi v3, zi v4, zl v5, zu, zi v7, zu, zu, zu] [] σ Q := by
  have J271_1 : (v7 < σ 98 10) → (σ 175 v7 ≠ (-1)) → zR G MX12_holds_ 271 [zr 98, zi v1, zi v2, zi v3, zi v4, zl (v5 + (σ 156 v7 * (v2 - σ 175 v7))), zu, zi v7, zu, zu, zu] [] σ Q := by
    intro h1 h2
    have s8 : -2147483648 ≤ v7 + 1 ∧ v7 + 1 < (2147483648 : Int) := k8 h1 h2
    refine z_iincN (ls' := [zr 98, zi v1, zi v2, zi v3, zi v4, zl (v5 + (σ 156 v7 * (v2 - σ 175 v7))), zu, zi (v7 + 1), zu, zu, zu]) dX12_holds__271 rfl (by decide) s8 rfl ?_
    refine z_goto dX12_holds__274 (tgt := 227) (by decide) ?_
    exact k9 h1 h2
  have J271 : (v7 < σ 98 10) → (σ 175 v7 = (-1)) → zR G MX12_holds_ 271 [zr 98, zi v1, zi v2, zi v3, zi v4, zl v5, zu, zi v7, zu, zu, zu] [] σ Q := by
    intro h1 h2
    have s6 : -2147483648 ≤ v7 + 1 ∧ v7 + 1 < (2147483648 : Int) := k6 h1 h2
    refine z_iincN (ls' := [zr 98, zi v1, zi v2, zi v3, zi v4, zl v5, zu, zi (v7 + 1), zu, zu, zu]) dX12_holds__271 rfl (by decide) s6 rfl ?_
    refine z_goto dX12_holds__274 (tgt := 227) (by decide) ?_
    exact k7 h1 h2
  refine z_iload dX12_holds__227 rfl ?_
  refine z_aload_n dX12_holds__229 rfl rfl ?_
  refine z_getfI (k := 10) flRX12_471 rfl rfl dX12_holds__230 ?_
  refine z_icmp_ge dX12_holds__233 (tgt := 277) (by decide) (fun h1 => ?_) (fun h1 => ?_)
  · skip
    refine z_aload_n dX12_holds__277 rfl rfl ?_
    refine z_lload dX12_holds__278 rfl ?_
    refine z_l2i dX12_holds__280 ?_
    refine z_putI (k := 105) fpRX12_477 rfl rfl dX12_holds__281 ?_
    refine z_iconst dX12_holds__284 (by unfold zIn; decide) ?_
    exact z_iretz rfl (by decide) dX12_holds__285 (k1 h1)
  · skip
    refine z_aload_n dX12_holds__236 rfl rfl ?_
    refine z_getfR (k := 103) flRX12_244 rfl rfl dX12_holds__237 ?_
    refine z_iload dX12_holds__240 rfl ?_
    have s2 : (0 : Int) ≤ v7 ∧ v7 < (2 : Int) := k2 h1
    refine z_iald rfl s2.1 s2.2 dX12_holds__242 ?_
    refine z_iconst dX12_holds__243 (by unfold zIn; decide) ?_
    refine z_icmp_eq dX12_holds__244 (tgt := 271) (by decide) (fun h2 => ?_) (fun h2 => ?_)
    · skip
      exact J271 h1 h2
    · skip
      refine z_lload dX12_holds__247 rfl ?_
      refine z_aload_n dX12_holds__249 rfl rfl ?_
      refine z_getfR (k := 72) flRX12_187 rfl rfl dX12_holds__250 ?_
      refine z_iload dX12_holds__253 rfl ?_
      refine z_iald rfl s2.1 s2.2 dX12_holds__255 ?_
      refine z_i2l dX12_holds__256 ?_
      refine z_iload_n dX12_holds__257 rfl rfl ?_
      refine z_aload_n dX12_holds__258 rfl rfl ?_
      refine z_getfR (k := 103) flRX12_244 rfl rfl dX12_holds__259 ?_
      refine z_iload dX12_holds__262 rfl ?_
      refine z_iald rfl s2.1 s2.2 dX12_holds__264 ?_
      have s3 : -2147483648 ≤ v2 - σ 175 v7 ∧ v2 - σ 175 v7 < (2147483648 : Int) := k3 h1 h2
      refine z_isubN dX12_holds__265 s3 ?_
      refine z_i2l dX12_holds__266 ?_
      have s4 : -9223372036854775808 ≤ σ 156 v7 * (v2 - σ 175 v7) ∧ σ 156 v7 * (v2 - σ 175 v7) < (9223372036854775808 : Int) := k4 h1 h2
      refine z_lmulN dX12_holds__267 s4 ?_
      have s5 : -9223372036854775808 ≤ v5 + (σ 156 v7 * (v2 - σ 175 v7)) ∧ v5 + (σ 156 v7 * (v2 - σ 175 v7)) < (9223372036854775808 : Int) := k5 h1 h2
      refine z_laddN dX12_holds__268 s5 ?_
      refine z_lstore (ls' := [zr 98, zi v1, zi v2, zi v3, zi v4, zl (v5 + (σ 156 v7 * (v2 - σ 175 v7))), zu, zi v7, zu, zu, zu]) dX12_holds__269 (by decide) rfl ?_
      exact J271_1 h1 h2
set_option maxRecDepth 20000 in
set_option maxHeartbeats 1000000 in
theorem TX12_isPlan {G : zG} {σ : zS} {Q : Int → zS → Prop} {a1 a2 a3 : Int}  (k1 : (1 ≤ a1) → (a1 ≤ 10) → (0 ≤ a2) → (a2 ≤ 99999) → (0 ≤ a3) → (a3 ≤ 99999) → Q 1 σ) (k2 : (a1 < 1 ∨ (1 ≤ a1 ∧ 10 < a1) ∨ (1 ≤ a1 ∧ a1 ≤ 10 ∧ a2 < 0) ∨ (1 ≤ a1 ∧ a1 ≤ 10 ∧ 0 ≤ a2 ∧ 99999 < a2) ∨ (1 ≤ a1 ∧ a1 ≤ 10 ∧ 0 ≤ a2 ∧ a2 ≤ 99999 ∧ a3 < 0) ∨ (1 ≤ a1 ∧ a1 ≤ 10 ∧ 0 ≤ a2 ∧ a2 ≤ 99999 ∧ 0 ≤ a3 ∧ 99999 < a3)) → Q 0 σ) : zO G MX12_isPlan [zi a1, zi a2, zi a3] σ Q := by
  refine zO_of (ls0 := [zi a1, zi a2, zi a3]) (by decide) (Nat.le_of_ble_eq_true rfl) rfl ?_
  have J37 : (a1 < 1 ∨ (1 ≤ a1 ∧ 10 < a1) ∨ (1 ≤ a1 ∧ a1 ≤ 10 ∧ a2 < 0) ∨ (1 ≤ a1 ∧ a1 ≤ 10 ∧ 0 ≤ a2 ∧ 99999 < a2) ∨ (1 ≤ a1 ∧ a1 ≤ 10 ∧ 0 ≤ a2 ∧ a2 ≤ 99999 ∧ a3 < 0) ∨ (1 ≤ a1 ∧ a1 ≤ 10 ∧ 0 ≤ a2 ∧ a2 ≤ 99999 ∧ 0 ≤ a3 ∧ 99999 < a3)) → zR G MX12_isPlan 37 [zi a1, zi a2, zi a3] [] σ Q := by
    intro h7
    refine z_iconst dX12_isPlan_37 (by unfold zIn; decide) ?_
    exact z_iretz rfl (by decide) dX12_isPlan_38 (k2 h7)
  refine z_iload_n dX12_isPlan_0 rfl rfl ?_
  refine z_iconst dX12_isPlan_1 (by unfold zIn; decide) ?_
  refine z_icmp_lt dX12_isPlan_2 (tgt := 37) (by decide) (fun h1 => ?_) (fun h1 => ?_)
  · skip
    exact J37 (Or.inl h1)
  · skip
    refine z_iload_n dX12_isPlan_5 rfl rfl ?_
    refine z_bipush (x := 10) dX12_isPlan_6 (by decide +kernel) (by unfold zIn; decide) ?_
    refine z_icmp_gt dX12_isPlan_8 (tgt := 37) (by decide) (fun h2 => ?_) (fun h2 => ?_)
    · skip
      exact J37 (Or.inr (Or.inl ⟨h1, h2⟩))
    · skip
      refine z_iload_n dX12_isPlan_11 rfl rfl ?_
      refine z_if_lt dX12_isPlan_12 (tgt := 37) (by decide) (fun h3 => ?_) (fun h3 => ?_)
      · skip
        exact J37 (Or.inr (Or.inr (Or.inl ⟨h1, h2, h3⟩)))
      · skip
        refine z_iload_n dX12_isPlan_15 rfl rfl ?_
        refine z_ldcw (x := 99999) (zin_9 (List.mem_of_getElem? (i := 65) (by decide +kernel))) (by unfold zIn; decide) dX12_isPlan_16 ?_
        refine z_icmp_gt dX12_isPlan_19 (tgt := 37) (by decide) (fun h4 => ?_) (fun h4 => ?_)
        · skip
          exact J37 (Or.inr (Or.inr (Or.inr (Or.inl ⟨h1, h2, h3, h4⟩))))
        · skip
          refine z_iload_n dX12_isPlan_22 rfl rfl ?_
          refine z_if_lt dX12_isPlan_23 (tgt := 37) (by decide) (fun h5 => ?_) (fun h5 => ?_)
          · skip
            exact J37 (Or.inr (Or.inr (Or.inr (Or.inr (Or.inl ⟨h1, h2, h3, h4, h5⟩)))))
          · skip
            refine z_iload_n dX12_isPlan_26 rfl rfl ?_
            refine z_ldcw (x := 99999) (zin_9 (List.mem_of_getElem? (i := 65) (by decide +kernel))) (by unfold zIn; decide) dX12_isPlan_27 ?_
            refine z_icmp_gt dX12_isPlan_30 (tgt := 37) (by decide) (fun h6 => ?_) (fun h6 => ?_)
            · skip
              exact J37 (Or.inr (Or.inr (Or.inr (Or.inr (Or.inr ⟨h1, h2, h3, h4, h5, h6⟩)))))
            · skip
              refine z_iconst dX12_isPlan_33 (by unfold zIn; decide) ?_
              refine z_goto dX12_isPlan_34 (tgt := 38) (by decide) ?_
              exact z_iretz rfl (by decide) dX12_isPlan_38 (k1 h1 h2 h3 h4 h5 h6)
