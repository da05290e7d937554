set_option maxRecDepth 20000 in
set_option maxHeartbeats 1000000 in
theorem TX12_words {G : zG} {σ : zS} {Q : Int → zS → Prop} {a1 a2 a3 : Int}  (k1 : (0 : Int) ≤ a1 ∧ a1 < (4 : Int)) (k2 : zR G MX12_words 13 [zr 98, zi a1, zi a2, zi a3, zi 0, zu, zu, zu, zu, zu, zu] [] (zup σ 98 43 (σ 118 a1)) Q) : zO G MX12_words [zr 98, zi a1, zi a2, zi a3] σ Q := by
  refine zO_of (ls0 := [zr 98, zi a1, zi a2, zi a3, zu, zu, zu, zu, zu, zu, zu]) (by decide) (Nat.le_of_ble_eq_true rfl) rfl ?_
  refine z_aload_n dX12_words_0 rfl rfl ?_
  refine z_aload_n dX12_words_1 rfl rfl ?_
  refine z_getfR (k := 32) flRX12_73 rfl rfl dX12_words_2 ?_
  refine z_iload_n dX12_words_5 rfl rfl ?_
  have s1 : (0 : Int) ≤ a1 ∧ a1 < (4 : Int) := k1
  refine z_iald rfl s1.1 s1.2 dX12_words_6 ?_
  refine z_putI (k := 43) fpRX12_306 rfl rfl dX12_words_7 ?_
  refine z_iconst dX12_words_10 (by unfold zIn; decide) ?_
  refine z_istore (ls' := [zr 98, zi a1, zi a2, zi a3, zi 0, zu, zu, zu, zu, zu, zu]) dX12_words_11 (by decide) rfl ?_
  exact k2
set_option maxRecDepth 20000 in
set_option maxHeartbeats 1000000 in
theorem TX12_words_13 {G : zG} {σ : zS} {Q : Int → zS → Prop} {v1 v2 v3 v4 : Int}  (k1 : (σ 98 43 ≤ v4) → zR G MX12_words 56 [zr 98, zi v1, zi v2, zi v3, zr 126, zi 0, zu, zu, zu, zu, zu] [] σ Q) (k2 : (v4 < σ 98 43) → -2147483648 ≤ 80 * v1 ∧ 80 * v1 < (2147483648 : Int)) (k3 : (v4 < σ 98 43) → -2147483648 ≤ (80 * v1) + v4 ∧ (80 * v1) + v4 < (2147483648 : Int)) (k4 : (v4 < σ 98 43) → (0 : Int) ≤ (80 * v1) + v4 ∧ (80 * v1) + v4 < (320 : Int)) (k5 : (v4 < σ 98 43) → (0 : Int) ≤ v4 ∧ v4 < (300 : Int)) (k6 : (v4 < σ 98 43) → -2147483648 ≤ v4 + 1 ∧ v4 + 1 < (2147483648 : Int)) (k7 : (v4 < σ 98 43) → zR G MX12_words 13 [zr 98, zi v1, zi v2, zi v3, zi (v4 + 1), zu, zu, zu, zu, zu, zu] [] (zup σ 127 v4 (σ 117 ((80 * v1) + v4))) Q) : zR G MX12_words 13 [zr 98, zi v1, zi v2, zi v3, zi v4, zu, zu, zu, zu, zu, zu] [] σ Q := by
  refine z_iload dX12_words_13 rfl ?_
  refine z_aload_n dX12_words_15 rfl rfl ?_
  refine z_getfI (k := 43) flRX12_306 rfl rfl dX12_words_16 ?_
  refine z_icmp_ge dX12_words_19 (tgt := 47) (by decide) (fun h1 => ?_) (fun h1 => ?_)
  · skip
    refine z_aload_n dX12_words_47 rfl rfl ?_
    refine z_getfR (k := 40) flRX12_97 rfl rfl dX12_words_48 ?_
    refine z_astore (ls' := [zr 98, zi v1, zi v2, zi v3, zr 126, zu, zu, zu, zu, zu, zu]) dX12_words_51 (by decide) rfl ?_
    refine z_iconst dX12_words_53 (by unfold zIn; decide) ?_
    refine z_istore (ls' := [zr 98, zi v1, zi v2, zi v3, zr 126, zi 0, zu, zu, zu, zu, zu]) dX12_words_54 (by decide) rfl ?_
    exact k1 h1
  · skip
    refine z_aload_n dX12_words_22 rfl rfl ?_
    refine z_getfR (k := 41) flRX12_100 rfl rfl dX12_words_23 ?_
    refine z_iload dX12_words_26 rfl ?_
    refine z_aload_n dX12_words_28 rfl rfl ?_
    refine z_getfR (k := 31) flRX12_70 rfl rfl dX12_words_29 ?_
    refine z_bipush (x := 80) dX12_words_32 (by decide +kernel) (by unfold zIn; decide) ?_
    refine z_iload_n dX12_words_34 rfl rfl ?_
    have s2 : -2147483648 ≤ 80 * v1 ∧ 80 * v1 < (2147483648 : Int) := k2 h1
    refine z_imulN dX12_words_35 s2 ?_
    refine z_iload dX12_words_36 rfl ?_
    have s3 : -2147483648 ≤ (80 * v1) + v4 ∧ (80 * v1) + v4 < (2147483648 : Int) := k3 h1
    refine z_iaddN dX12_words_38 s3 ?_
    have s4 : (0 : Int) ≤ (80 * v1) + v4 ∧ (80 * v1) + v4 < (320 : Int) := k4 h1
    refine z_iald rfl s4.1 s4.2 dX12_words_39 ?_
    have s5 : (0 : Int) ≤ v4 ∧ v4 < (300 : Int) := k5 h1
    refine z_iast rfl s5.1 s5.2 dX12_words_40 ?_
    have s6 : -2147483648 ≤ v4 + 1 ∧ v4 + 1 < (2147483648 : Int) := k6 h1
    refine z_iincN (ls' := [zr 98, zi v1, zi v2, zi v3, zi (v4 + 1), zu, zu, zu, zu, zu, zu]) dX12_words_41 rfl (by decide) s6 rfl ?_
    refine z_goto dX12_words_44 (tgt := 13) (by decide) ?_
    exact k7 h1
set_option maxRecDepth 20000 in
set_option maxHeartbeats 1000000 in
theorem TX12_words_56 {G : zG} {σ : zS} {Q : Int → zS → Prop} {v1 v2 v3 v5 : Int}  (k1 : (12 ≤ v5) → zR G MX12_words 81 [zr 98, zi v1, zi v2, zi v3, zr 126, zi (-1), zi (-1), zu, zu, zu, zu] [] σ Q) (k2 : (v5 < 12) → (0 : Int) ≤ v5 ∧ v5 < (12 : Int)) (k3 : (v5 < 12) → -2147483648 ≤ v5 + 1 ∧ v5 + 1 < (2147483648 : Int)) (k4 : (v5 < 12) → zR G MX12_words 56 [zr 98, zi v1, zi v2, zi v3, zr 126, zi (v5 + 1), zu, zu, zu, zu, zu] [] (zup σ 126 v5 0) Q) : zR G MX12_words 56 [zr 98, zi v1, zi v2, zi v3, zr 126, zi v5, zu, zu, zu, zu, zu] [] σ Q := by
  refine z_iload dX12_words_56 rfl ?_
  refine z_bipush (x := 12) dX12_words_58 (by decide +kernel) (by unfold zIn; decide) ?_
  refine z_icmp_ge dX12_words_60 (tgt := 75) (by decide) (fun h1 => ?_) (fun h1 => ?_)
  · skip
    refine z_iconst dX12_words_75 (by unfold zIn; decide) ?_
    refine z_istore (ls' := [zr 98, zi v1, zi v2, zi v3, zr 126, zi (-1), zu, zu, zu, zu, zu]) dX12_words_76 (by decide) rfl ?_
    refine z_iconst dX12_words_78 (by unfold zIn; decide) ?_
    refine z_istore (ls' := [zr 98, zi v1, zi v2, zi v3, zr 126, zi (-1), zi (-1), zu, zu, zu, zu]) dX12_words_79 (by decide) rfl ?_
    exact k1 h1
  · skip
    refine z_aload dX12_words_63 rfl ?_
    refine z_iload dX12_words_65 rfl ?_
    refine z_iconst dX12_words_67 (by unfold zIn; decide) ?_
    have s2 : (0 : Int) ≤ v5 ∧ v5 < (12 : Int) := k2 h1
    refine z_bast rfl s2.1 s2.2 (by decide) dX12_words_68 ?_
    have s3 : -2147483648 ≤ v5 + 1 ∧ v5 + 1 < (2147483648 : Int) := k3 h1
    refine z_iincN (ls' := [zr 98, zi v1, zi v2, zi v3, zr 126, zi (v5 + 1), zu, zu, zu, zu, zu]) dX12_words_69 rfl (by decide) s3 rfl ?_
    refine z_goto dX12_words_72 (tgt := 56) (by decide) ?_
    exact k4 h1
set_option maxRecDepth 20000 in
set_option maxHeartbeats 1000000 in
theorem TX12_words_81 {G : zG} {σ : zS} {Q : Int → zS → Prop} {v1 v2 v3 v5 v6 : Int}  (k1 : zR G MX12_words 87 [zr 98, zi v1, zi v2, zi v3, zr 126, zi v5, zi v6, zi (-1), zi 0, zu, zu] [] σ Q) : zR G MX12_words 81 [zr 98, zi v1, zi v2, zi v3, zr 126, zi v5, zi v6, zu, zu, zu, zu] [] σ Q := by
  refine z_iconst dX12_words_81 (by unfold zIn; decide) ?_
  refine z_istore (ls' := [zr 98, zi v1, zi v2, zi v3, zr 126, zi v5, zi v6, zi (-1), zu, zu, zu]) dX12_words_82 (by decide) rfl ?_
  refine z_iconst dX12_words_84 (by unfold zIn; decide) ?_
  refine z_istore (ls' := [zr 98, zi v1, zi v2, zi v3, zr 126, zi v5, zi v6, zi (-1), zi 0, zu, zu]) dX12_words_85 (by decide) rfl ?_
  exact k1
set_option maxRecDepth 20000 in
set_option maxHeartbeats 1000000 in
theorem TX12_words_87 {G : zG} {σ : zS} {Q : Int → zS → Prop} {v1 v2 v3 v5 v6 v7 v8 : Int}  (k1 : (σ 98 3 ≤ v8) → (v7 ≠ (-1)) → (0 : Int) ≤ v7 ∧ v7 < (12 : Int)) (k2 : (σ 98 3 ≤ v8) → (v7 ≠ (-1)) → zO G MX12_placeOf [zr 98, zi v7] σ (fun rr σ' => zR G MX12_words 201 [zr 98, zi v1, zi v2, zi v3, zr 126, zi v7, zi (σ 120 v7), zi v7, zi v8, zu, zu] [zi rr] σ' Q)) (k3 : (σ 98 3 ≤ v8) → (v7 = (-1)) → Q 0 σ) (k4 : (v8 < σ 98 3) → (0 : Int) ≤ v8 ∧ v8 < (12 : Int)) (k5 : (v8 < σ 98 3) → ((σ 119 v8 = v1 ∧ σ 120 v8 ≤ v2 ∧ σ 121 v8 ≤ v3)) → (v6 ≤ σ 120 v8) → (σ 120 v8 ≠ v6 ∨ (σ 120 v8 = v6 ∧ v5 < v8)) → (v7 ≠ (-1)) → (0 : Int) ≤ v8 ∧ v8 < (12 : Int)) (k6 : (v8 < σ 98 3) → ((σ 119 v8 = v1 ∧ σ 120 v8 ≤ v2 ∧ σ 121 v8 ≤ v3)) → (v6 ≤ σ 120 v8) → (σ 120 v8 ≠ v6 ∨ (σ 120 v8 = v6 ∧ v5 < v8)) → (v7 ≠ (-1)) → (0 : Int) ≤ v7 ∧ v7 < (12 : Int)) (k7 : (v8 < σ 98 3) → ((¬ ((σ 119 v8 = v1 ∧ σ 120 v8 ≤ v2 ∧ σ 121 v8 ≤ v3))) ∨ (((σ 119 v8 = v1 ∧ σ 120 v8 ≤ v2 ∧ σ 121 v8 ≤ v3)) ∧ σ 120 v8 < v6) ∨ (((σ 119 v8 = v1 ∧ σ 120 v8 ≤ v2 ∧ σ 121 v8 ≤ v3)) ∧ v6 ≤ σ 120 v8 ∧ σ 120 v8 = v6 ∧ v8 ≤ v5) ∨ (((σ 119 v8 = v1 ∧ σ 120 v8 ≤ v2 ∧ σ 121 v8 ≤ v3)) ∧ v6 ≤ σ 120 v8 ∧ (σ 120 v8 ≠ v6 ∨ (σ 120 v8 = v6 ∧ v5 < v8)) ∧ v7 ≠ (-1) ∧ σ 120 v7 ≤ σ 120 v8)) → -2147483648 ≤ v8 + 1 ∧ v8 + 1 < (2147483648 : Int)) (k8 : (v8 < σ 98 3) → ((¬ ((σ 119 v8 = v1 ∧ σ 120 v8 ≤ v2 ∧ σ 121 v8 ≤ v3))) ∨ (((σ 119 v8 = v1 ∧ σ 120 v8 ≤ v2 ∧ σ 121 v8 ≤ v3)) ∧ σ 120 v8 < v6) ∨ (((σ 119 v8 = v1 ∧ σ 120 v8 ≤ v2 ∧ σ 121 v8 ≤ v3)) ∧ v6 ≤ σ 120 v8 ∧ σ 120 v8 = v6 ∧ v8 ≤ v5) ∨ (((σ 119 v8 = v1 ∧ σ 120 v8 ≤ v2 ∧ σ 121 v8 ≤ v3)) ∧ v6 ≤ σ 120 v8 ∧ (σ 120 v8 ≠ v6 ∨ (σ 120 v8 = v6 ∧ v5 < v8)) ∧ v7 ≠ (-1) ∧ σ 120 v7 ≤ σ 120 v8)) → zR G MX12_words 87 [zr 98, zi v1, zi v2, zi v3, zr 126, zi v5, zi v6, zi v7, zi (v8 + 1), zu, zu] [] σ Q) (k9 : (v8 < σ 98 3) → ((σ 119 v8 = v1 ∧ σ 120 v8 ≤ v2 ∧ σ 121 v8 ≤ v3)) → (v6 ≤ σ 120 v8) → (σ 120 v8 ≠ v6 ∨ (σ 120 v8 = v6 ∧ v5 < v8)) → (v7 = (-1) ∨ (v7 ≠ (-1) ∧ σ 120 v8 < σ 120 v7)) → -2147483648 ≤ v8 + 1 ∧ v8 + 1 < (2147483648 : Int)) (k10 : (v8 < σ 98 3) → ((σ 119 v8 = v1 ∧ σ 120 v8 ≤ v2 ∧ σ 121 v8 ≤ v3)) → (v6 ≤ σ 120 v8) → (σ 120 v8 ≠ v6 ∨ (σ 120 v8 = v6 ∧ v5 < v8)) → (v7 = (-1) ∨ (v7 ≠ (-1) ∧ σ 120 v8 < σ 120 v7)) → zR G MX12_words 87 [zr 98, zi v1, zi v2, zi v3, zr 126, zi v5, zi v6, zi v8, zi (v8 + 1), zu, zu] [] σ Q) : zR G MX12_words 87 [zr 98, zi v1, zi v2, zi v3, zr 126, zi v5, zi v6, zi v7, zi v8, zu, zu] [] σ Q := by
  have J169_1 : (v8 < σ 98 3) → ((σ 119 v8 = v1 ∧ σ 120 v8 ≤ v2 ∧ σ 121 v8 ≤ v3)) → (v6 ≤ σ 120 v8) → (σ 120 v8 ≠ v6 ∨ (σ 120 v8 = v6 ∧ v5 < v8)) → (v7 = (-1) ∨ (v7 ≠ (-1) ∧ σ 120 v8 < σ 120 v7)) → zR G MX12_words 169 [zr 98, zi v1, zi v2, zi v3, zr 126, zi v5, zi v6, zi v8, zi v8, zu, zu] [] σ Q := by
    intro h1 h3 h4 h7 h10
    have s9 : -2147483648 ≤ v8 + 1 ∧ v8 + 1 < (2147483648 : Int) := k9 h1 h3 h4 h7 h10
    refine z_iincN (ls' := [zr 98, zi v1, zi v2, zi v3, zr 126, zi v5, zi v6, zi v8, zi (v8 + 1), zu, zu]) dX12_words_169 rfl (by decide) s9 rfl ?_
    refine z_goto dX12_words_172 (tgt := 87) (by decide) ?_
    exact k10 h1 h3 h4 h7 h10
  have J169 : (v8 < σ 98 3) → ((¬ ((σ 119 v8 = v1 ∧ σ 120 v8 ≤ v2 ∧ σ 121 v8 ≤ v3))) ∨ (((σ 119 v8 = v1 ∧ σ 120 v8 ≤ v2 ∧ σ 121 v8 ≤ v3)) ∧ σ 120 v8 < v6) ∨ (((σ 119 v8 = v1 ∧ σ 120 v8 ≤ v2 ∧ σ 121 v8 ≤ v3)) ∧ v6 ≤ σ 120 v8 ∧ σ 120 v8 = v6 ∧ v8 ≤ v5) ∨ (((σ 119 v8 = v1 ∧ σ 120 v8 ≤ v2 ∧ σ 121 v8 ≤ v3)) ∧ v6 ≤ σ 120 v8 ∧ (σ 120 v8 ≠ v6 ∨ (σ 120 v8 = v6 ∧ v5 < v8)) ∧ v7 ≠ (-1) ∧ σ 120 v7 ≤ σ 120 v8)) → zR G MX12_words 169 [zr 98, zi v1, zi v2, zi v3, zr 126, zi v5, zi v6, zi v7, zi v8, zu, zu] [] σ Q := by
    intro h1 h11
    have s7 : -2147483648 ≤ v8 + 1 ∧ v8 + 1 < (2147483648 : Int) := k7 h1 h11
    refine z_iincN (ls' := [zr 98, zi v1, zi v2, zi v3, zr 126, zi v5, zi v6, zi v7, zi (v8 + 1), zu, zu]) dX12_words_169 rfl (by decide) s7 rfl ?_
    refine z_goto dX12_words_172 (tgt := 87) (by decide) ?_
    exact k8 h1 h11
  have J165 : (v8 < σ 98 3) → ((σ 119 v8 = v1 ∧ σ 120 v8 ≤ v2 ∧ σ 121 v8 ≤ v3)) → (v6 ≤ σ 120 v8) → (σ 120 v8 ≠ v6 ∨ (σ 120 v8 = v6 ∧ v5 < v8)) → (v7 = (-1) ∨ (v7 ≠ (-1) ∧ σ 120 v8 < σ 120 v7)) → zR G MX12_words 165 [zr 98, zi v1, zi v2, zi v3, zr 126, zi v5, zi v6, zi v7, zi v8, zu, zu] [] σ Q := by
    intro h1 h3 h4 h7 h10
    refine z_iload dX12_words_165 rfl ?_
    refine z_istore (ls' := [zr 98, zi v1, zi v2, zi v3, zr 126, zi v5, zi v6, zi v8, zi v8, zu, zu]) dX12_words_167 (by decide) rfl ?_
    exact J169_1 h1 h3 h4 h7 h10
  have J142 : (v8 < σ 98 3) → ((σ 119 v8 = v1 ∧ σ 120 v8 ≤ v2 ∧ σ 121 v8 ≤ v3)) → (v6 ≤ σ 120 v8) → (σ 120 v8 ≠ v6 ∨ (σ 120 v8 = v6 ∧ v5 < v8)) → zR G MX12_words 142 [zr 98, zi v1, zi v2, zi v3, zr 126, zi v5, zi v6, zi v7, zi v8, zu, zu] [] σ Q := by
    intro h1 h3 h4 h7
    refine z_iload dX12_words_142 rfl ?_
    refine z_iconst dX12_words_144 (by unfold zIn; decide) ?_
    refine z_icmp_eq dX12_words_145 (tgt := 165) (by decide) (fun h8 => ?_) (fun h8 => ?_)
    · skip
      exact J165 h1 h3 h4 h7 (Or.inl h8)
    · skip
      refine z_aload_n dX12_words_148 rfl rfl ?_
      refine z_getfR (k := 34) flRX12_79 rfl rfl dX12_words_149 ?_
      refine z_iload dX12_words_152 rfl ?_
      have s5 : (0 : Int) ≤ v8 ∧ v8 < (12 : Int) := k5 h1 h3 h4 h7 h8
      refine z_iald rfl s5.1 s5.2 dX12_words_154 ?_
      refine z_aload_n dX12_words_155 rfl rfl ?_
      refine z_getfR (k := 34) flRX12_79 rfl rfl dX12_words_156 ?_
      refine z_iload dX12_words_159 rfl ?_
      have s6 : (0 : Int) ≤ v7 ∧ v7 < (12 : Int) := k6 h1 h3 h4 h7 h8
      refine z_iald rfl s6.1 s6.2 dX12_words_161 ?_
      refine z_icmp_ge dX12_words_162 (tgt := 169) (by decide) (fun h9 => ?_) (fun h9 => ?_)
      · skip
        exact J169 h1 (Or.inr (Or.inr (Or.inr ⟨h3, h4, h7, h8, h9⟩)))
      · skip
        exact J165 h1 h3 h4 h7 (Or.inr ⟨h8, h9⟩)
  refine z_iload dX12_words_87 rfl ?_
  refine z_aload_n dX12_words_89 rfl rfl ?_
  refine z_getfI (k := 3) flRX12_303 rfl rfl dX12_words_90 ?_
  refine z_icmp_ge dX12_words_93 (tgt := 175) (by decide) (fun h1 => ?_) (fun h1 => ?_)
  · skip
    refine z_iload dX12_words_175 rfl ?_
    refine z_iconst dX12_words_177 (by unfold zIn; decide) ?_
    refine z_icmp_ne dX12_words_178 (tgt := 182) (by decide) (fun h2 => ?_) (fun h2 => ?_)
    · skip
      refine z_iload dX12_words_182 rfl ?_
      refine z_istore (ls' := [zr 98, zi v1, zi v2, zi v3, zr 126, zi v7, zi v6, zi v7, zi v8, zu, zu]) dX12_words_184 (by decide) rfl ?_
      refine z_aload_n dX12_words_186 rfl rfl ?_
      refine z_getfR (k := 34) flRX12_79 rfl rfl dX12_words_187 ?_
      refine z_iload dX12_words_190 rfl ?_
      have s1 : (0 : Int) ≤ v7 ∧ v7 < (12 : Int) := k1 h1 h2
      refine z_iald rfl s1.1 s1.2 dX12_words_192 ?_
      refine z_istore (ls' := [zr 98, zi v1, zi v2, zi v3, zr 126, zi v7, zi (σ 120 v7), zi v7, zi v8, zu, zu]) dX12_words_193 (by decide) rfl ?_
      refine z_aload_n dX12_words_195 rfl rfl ?_
      refine z_iload dX12_words_196 rfl ?_
      refine z_callv (as := [zi v7]) (st := []) mkX12_placeOf lkRX12_313 rfl rfl rfl (by decide) (Nat.le_of_ble_eq_true rfl) rfl dX12_words_198 (k2 h1 h2)
    · skip
      exact z_vret rfl dX12_words_181 (k3 h1 h2)
  · skip
    refine z_aload_n dX12_words_96 rfl rfl ?_
    refine z_iload dX12_words_97 rfl ?_
    refine z_iload_n dX12_words_99 rfl rfl ?_
    refine z_iload_n dX12_words_100 rfl rfl ?_
    refine z_iload_n dX12_words_101 rfl rfl ?_
    have s4 : (0 : Int) ≤ v8 ∧ v8 < (12 : Int) := k4 h1
    refine z_callv (as := [zi v8, zi v1, zi v2, zi v3]) (st := []) mkX12_isInForce lkRX12_309 rfl rfl rfl (by decide) (Nat.le_of_ble_eq_true rfl) rfl dX12_words_102 ?_
    refine SX12_isInForce s4 ?_
    show zR G MX12_words 105 [zr 98, zi v1, zi v2, zi v3, zr 126, zi v5, zi v6, zi v7, zi v8, zu, zu] [zi (if (σ 119 v8 = v1 ∧ σ 120 v8 ≤ v2 ∧ σ 121 v8 ≤ v3) then (1 : Int) else 0)] σ Q
    refine z_if_eq dX12_words_105 (tgt := 169) (by decide) (fun z => ?_) (fun z => ?_)
    · have h3 : ¬ ((σ 119 v8 = v1 ∧ σ 120 v8 ≤ v2 ∧ σ 121 v8 ≤ v3)) := zb0 z
      exact J169 h1 (Or.inl h3)
    · have h3 : (σ 119 v8 = v1 ∧ σ 120 v8 ≤ v2 ∧ σ 121 v8 ≤ v3) := zb1 z
      refine z_aload_n dX12_words_108 rfl rfl ?_
      refine z_getfR (k := 34) flRX12_79 rfl rfl dX12_words_109 ?_
      refine z_iload dX12_words_112 rfl ?_
      refine z_iald rfl s4.1 s4.2 dX12_words_114 ?_
      refine z_iload dX12_words_115 rfl ?_
      refine z_icmp_lt dX12_words_117 (tgt := 169) (by decide) (fun h4 => ?_) (fun h4 => ?_)
      · skip
        exact J169 h1 (Or.inr (Or.inl ⟨h3, h4⟩))
      · skip
        refine z_aload_n dX12_words_120 rfl rfl ?_
        refine z_getfR (k := 34) flRX12_79 rfl rfl dX12_words_121 ?_
        refine z_iload dX12_words_124 rfl ?_
        refine z_iald rfl s4.1 s4.2 dX12_words_126 ?_
        refine z_iload dX12_words_127 rfl ?_
        refine z_icmp_ne dX12_words_129 (tgt := 142) (by decide) (fun h5 => ?_) (fun h5 => ?_)
        · skip
          exact J142 h1 h3 h4 (Or.inl h5)
        · skip
          refine z_iload dX12_words_132 rfl ?_
          refine z_iload dX12_words_134 rfl ?_
          refine z_icmp_gt dX12_words_136 (tgt := 142) (by decide) (fun h6 => ?_) (fun h6 => ?_)
          · skip
            exact J142 h1 h3 h4 (Or.inr ⟨h5, h6⟩)
          · skip
            refine z_goto dX12_words_139 (tgt := 169) (by decide) ?_
            exact J169 h1 (Or.inr (Or.inr (Or.inl ⟨h3, h4, h5, h6⟩)))
set_option maxRecDepth 20000 in
set_option maxHeartbeats 1000000 in
theorem TX12_words_201 {G : zG} {σ : zS} {Q : Int → zS → Prop} {v1 v2 v3 v5 v6 v7 v8 r : Int}  (k1 : (r ≠ (-1)) → (0 : Int) ≤ v7 ∧ v7 < (12 : Int)) (k2 : (r ≠ (-1)) → -2147483648 ≤ σ 98 43 - σ 122 v7 ∧ σ 98 43 - σ 122 v7 < (2147483648 : Int)) (k3 : (r ≠ (-1)) → -2147483648 ≤ (σ 98 43 - σ 122 v7) + σ 123 v7 ∧ (σ 98 43 - σ 122 v7) + σ 123 v7 < (2147483648 : Int)) (k4 : (r ≠ (-1)) → ((σ 98 43 - σ 122 v7) + σ 123 v7 ≤ 200) → zR G MX12_words 250 [zr 98, zi v1, zi v2, zi v3, zr 126, zi v5, zi v6, zi v7, zi r, zi 0, zi 0] [] σ Q) (k5 : (r = (-1) ∨ (r ≠ (-1) ∧ 200 < (σ 98 43 - σ 122 v7) + σ 123 v7)) → (0 : Int) ≤ v7 ∧ v7 < (12 : Int)) (k6 : (r = (-1) ∨ (r ≠ (-1) ∧ 200 < (σ 98 43 - σ 122 v7) + σ 123 v7)) → zR G MX12_words 81 [zr 98, zi v1, zi v2, zi v3, zr 126, zi v5, zi v6, zu, zu, zu, zu] [] (zup σ 126 v7 1) Q) : zR G MX12_words 201 [zr 98, zi v1, zi v2, zi v3, zr 126, zi v5, zi v6, zi v7, zi v8, zu, zu] [zi r] σ Q := by
  have J235 : (r = (-1) ∨ (r ≠ (-1) ∧ 200 < (σ 98 43 - σ 122 v7) + σ 123 v7)) → zR G MX12_words 235 [zr 98, zi v1, zi v2, zi v3, zr 126, zi v5, zi v6, zi v7, zi r, zu, zu] [] σ Q := by
    intro h3
    refine z_aload dX12_words_235 rfl ?_
    refine z_iload dX12_words_237 rfl ?_
    refine z_iconst dX12_words_239 (by unfold zIn; decide) ?_
    have s5 : (0 : Int) ≤ v7 ∧ v7 < (12 : Int) := k5 h3
    refine z_bast rfl s5.1 s5.2 (by decide) dX12_words_240 ?_
    refine z_goto dX12_words_241 (tgt := 81) (by decide) ?_
    exact zR_fg [false, false, false, false, false, false, false, true, true, false, false] (k6 h3)
  refine z_istore (ls' := [zr 98, zi v1, zi v2, zi v3, zr 126, zi v5, zi v6, zi v7, zi r, zu, zu]) dX12_words_201 (by decide) rfl ?_
  refine z_iload dX12_words_203 rfl ?_
  refine z_iconst dX12_words_205 (by unfold zIn; decide) ?_
  refine z_icmp_eq dX12_words_206 (tgt := 235) (by decide) (fun h1 => ?_) (fun h1 => ?_)
  · skip
    exact J235 (Or.inl h1)
  · skip
    refine z_aload_n dX12_words_209 rfl rfl ?_
    refine z_getfI (k := 43) flRX12_306 rfl rfl dX12_words_210 ?_
    refine z_aload_n dX12_words_213 rfl rfl ?_
    refine z_getfR (k := 36) flRX12_85 rfl rfl dX12_words_214 ?_
    refine z_iload dX12_words_217 rfl ?_
    have s1 : (0 : Int) ≤ v7 ∧ v7 < (12 : Int) := k1 h1
    refine z_iald rfl s1.1 s1.2 dX12_words_219 ?_
    have s2 : -2147483648 ≤ σ 98 43 - σ 122 v7 ∧ σ 98 43 - σ 122 v7 < (2147483648 : Int) := k2 h1
    refine z_isubN dX12_words_220 s2 ?_
    refine z_aload_n dX12_words_221 rfl rfl ?_
    refine z_getfR (k := 37) flRX12_88 rfl rfl dX12_words_222 ?_
    refine z_iload dX12_words_225 rfl ?_
    refine z_iald rfl s1.1 s1.2 dX12_words_227 ?_
    have s3 : -2147483648 ≤ (σ 98 43 - σ 122 v7) + σ 123 v7 ∧ (σ 98 43 - σ 122 v7) + σ 123 v7 < (2147483648 : Int) := k3 h1
    refine z_iaddN dX12_words_228 s3 ?_
    refine z_sipush (x := 200) dX12_words_229 (by decide +kernel) (by unfold zIn; decide) ?_
    refine z_icmp_le dX12_words_232 (tgt := 244) (by decide) (fun h2 => ?_) (fun h2 => ?_)
    · skip
      refine z_iconst dX12_words_244 (by unfold zIn; decide) ?_
      refine z_istore (ls' := [zr 98, zi v1, zi v2, zi v3, zr 126, zi v5, zi v6, zi v7, zi r, zi 0, zu]) dX12_words_245 (by decide) rfl ?_
      refine z_iconst dX12_words_247 (by unfold zIn; decide) ?_
      refine z_istore (ls' := [zr 98, zi v1, zi v2, zi v3, zr 126, zi v5, zi v6, zi v7, zi r, zi 0, zi 0]) dX12_words_248 (by decide) rfl ?_
      exact k4 h1 h2
    · skip
      exact J235 (Or.inr ⟨h1, h2⟩)
set_option maxRecDepth 20000 in
set_option maxHeartbeats 1000000 in
theorem TX12_words_250 {G : zG} {σ : zS} {Q : Int → zS → Prop} {v1 v2 v3 v5 v6 v7 v8 v9 v10 : Int}  (k1 : (v8 ≤ v10) → zR G MX12_words 283 [zr 98, zi v1, zi v2, zi v3, zr 126, zi v5, zi v6, zi v7, zi v8, zi v9, zi 0] [] σ Q) (k2 : (v10 < v8) → -2147483648 ≤ v9 + 1 ∧ v9 + 1 < (2147483648 : Int)) (k3 : (v10 < v8) → (0 : Int) ≤ v10 ∧ v10 < (300 : Int)) (k4 : (v10 < v8) → (0 : Int) ≤ v9 ∧ v9 < (300 : Int)) (k5 : (v10 < v8) → -2147483648 ≤ v10 + 1 ∧ v10 + 1 < (2147483648 : Int)) (k6 : (v10 < v8) → zR G MX12_words 250 [zr 98, zi v1, zi v2, zi v3, zr 126, zi v5, zi v6, zi v7, zi v8, zi (v9 + 1), zi (v10 + 1)] [] (zup σ 128 v9 (σ 127 v10)) Q) : zR G MX12_words 250 [zr 98, zi v1, zi v2, zi v3, zr 126, zi v5, zi v6, zi v7, zi v8, zi v9, zi v10] [] σ Q := by
  refine z_iload dX12_words_250 rfl ?_
  refine z_iload dX12_words_252 rfl ?_
  refine z_icmp_ge dX12_words_254 (tgt := 280) (by decide) (fun h1 => ?_) (fun h1 => ?_)
  · skip
    refine z_iconst dX12_words_280 (by unfold zIn; decide) ?_
    refine z_istore (ls' := [zr 98, zi v1, zi v2, zi v3, zr 126, zi v5, zi v6, zi v7, zi v8, zi v9, zi 0]) dX12_words_281 (by decide) rfl ?_
    exact k1 h1
  · skip
    refine z_aload_n dX12_words_257 rfl rfl ?_
    refine z_getfR (k := 42) flRX12_103 rfl rfl dX12_words_258 ?_
    refine z_iload dX12_words_261 rfl ?_
    have s2 : -2147483648 ≤ v9 + 1 ∧ v9 + 1 < (2147483648 : Int) := k2 h1
    refine z_iincN (ls' := [zr 98, zi v1, zi v2, zi v3, zr 126, zi v5, zi v6, zi v7, zi v8, zi (v9 + 1), zi v10]) dX12_words_263 rfl (by decide) s2 rfl ?_
    refine z_aload_n dX12_words_266 rfl rfl ?_
    refine z_getfR (k := 41) flRX12_100 rfl rfl dX12_words_267 ?_
    refine z_iload dX12_words_270 rfl ?_
    have s3 : (0 : Int) ≤ v10 ∧ v10 < (300 : Int) := k3 h1
    refine z_iald rfl s3.1 s3.2 dX12_words_272 ?_
    have s4 : (0 : Int) ≤ v9 ∧ v9 < (300 : Int) := k4 h1
    refine z_iast rfl s4.1 s4.2 dX12_words_273 ?_
    have s5 : -2147483648 ≤ v10 + 1 ∧ v10 + 1 < (2147483648 : Int) := k5 h1
    refine z_iincN (ls' := [zr 98, zi v1, zi v2, zi v3, zr 126, zi v5, zi v6, zi v7, zi v8, zi (v9 + 1), zi (v10 + 1)]) dX12_words_274 rfl (by decide) s5 rfl ?_
    refine z_goto dX12_words_277 (tgt := 250) (by decide) ?_
    exact k6 h1
set_option maxRecDepth 20000 in
set_option maxHeartbeats 1000000 in
theorem TX12_words_283 {G : zG} {σ : zS} {Q : Int → zS → Prop} {v1 v2 v3 v5 v6 v7 v8 v9 v10 : Int}  (k1 : (0 : Int) ≤ v7 ∧ v7 < (12 : Int)) (k2 : (σ 123 v7 ≤ v10) → -2147483648 ≤ v8 + σ 122 v7 ∧ v8 + σ 122 v7 < (2147483648 : Int)) (k3 : (σ 123 v7 ≤ v10) → zR G MX12_words 336 [zr 98, zi v1, zi v2, zi v3, zr 126, zi v5, zi v6, zi v7, zi v8, zi v9, zi (v8 + σ 122 v7)] [] σ Q) (k4 : (v10 < σ 123 v7) → -2147483648 ≤ v9 + 1 ∧ v9 + 1 < (2147483648 : Int)) (k5 : (v10 < σ 123 v7) → -2147483648 ≤ 80 * v7 ∧ 80 * v7 < (2147483648 : Int)) (k6 : (v10 < σ 123 v7) → -2147483648 ≤ (80 * v7) + v10 ∧ (80 * v7) + v10 < (2147483648 : Int)) (k7 : (v10 < σ 123 v7) → (0 : Int) ≤ (80 * v7) + v10 ∧ (80 * v7) + v10 < (960 : Int)) (k8 : (v10 < σ 123 v7) → (0 : Int) ≤ v9 ∧ v9 < (300 : Int)) (k9 : (v10 < σ 123 v7) → -2147483648 ≤ v10 + 1 ∧ v10 + 1 < (2147483648 : Int)) (k10 : (v10 < σ 123 v7) → zR G MX12_words 283 [zr 98, zi v1, zi v2, zi v3, zr 126, zi v5, zi v6, zi v7, zi v8, zi (v9 + 1), zi (v10 + 1)] [] (zup σ 128 v9 (σ 125 ((80 * v7) + v10))) Q) : zR G MX12_words 283 [zr 98, zi v1, zi v2, zi v3, zr 126, zi v5, zi v6, zi v7, zi v8, zi v9, zi v10] [] σ Q := by
  refine z_iload dX12_words_283 rfl ?_
  refine z_aload_n dX12_words_285 rfl rfl ?_
  refine z_getfR (k := 37) flRX12_88 rfl rfl dX12_words_286 ?_
  refine z_iload dX12_words_289 rfl ?_
  have s1 : (0 : Int) ≤ v7 ∧ v7 < (12 : Int) := k1
  refine z_iald rfl s1.1 s1.2 dX12_words_291 ?_
  refine z_icmp_ge dX12_words_292 (tgt := 324) (by decide) (fun h1 => ?_) (fun h1 => ?_)
  · skip
    refine z_iload dX12_words_324 rfl ?_
    refine z_aload_n dX12_words_326 rfl rfl ?_
    refine z_getfR (k := 36) flRX12_85 rfl rfl dX12_words_327 ?_
    refine z_iload dX12_words_330 rfl ?_
    refine z_iald rfl s1.1 s1.2 dX12_words_332 ?_
    have s2 : -2147483648 ≤ v8 + σ 122 v7 ∧ v8 + σ 122 v7 < (2147483648 : Int) := k2 h1
    refine z_iaddN dX12_words_333 s2 ?_
    refine z_istore (ls' := [zr 98, zi v1, zi v2, zi v3, zr 126, zi v5, zi v6, zi v7, zi v8, zi v9, zi (v8 + σ 122 v7)]) dX12_words_334 (by decide) rfl ?_
    exact k3 h1
  · skip
    refine z_aload_n dX12_words_295 rfl rfl ?_
    refine z_getfR (k := 42) flRX12_103 rfl rfl dX12_words_296 ?_
    refine z_iload dX12_words_299 rfl ?_
    have s4 : -2147483648 ≤ v9 + 1 ∧ v9 + 1 < (2147483648 : Int) := k4 h1
    refine z_iincN (ls' := [zr 98, zi v1, zi v2, zi v3, zr 126, zi v5, zi v6, zi v7, zi v8, zi (v9 + 1), zi v10]) dX12_words_301 rfl (by decide) s4 rfl ?_
    refine z_aload_n dX12_words_304 rfl rfl ?_
    refine z_getfR (k := 39) flRX12_94 rfl rfl dX12_words_305 ?_
    refine z_bipush (x := 80) dX12_words_308 (by decide +kernel) (by unfold zIn; decide) ?_
    refine z_iload dX12_words_310 rfl ?_
    have s5 : -2147483648 ≤ 80 * v7 ∧ 80 * v7 < (2147483648 : Int) := k5 h1
    refine z_imulN dX12_words_312 s5 ?_
    refine z_iload dX12_words_313 rfl ?_
    have s6 : -2147483648 ≤ (80 * v7) + v10 ∧ (80 * v7) + v10 < (2147483648 : Int) := k6 h1
    refine z_iaddN dX12_words_315 s6 ?_
    have s7 : (0 : Int) ≤ (80 * v7) + v10 ∧ (80 * v7) + v10 < (960 : Int) := k7 h1
    refine z_iald rfl s7.1 s7.2 dX12_words_316 ?_
    have s8 : (0 : Int) ≤ v9 ∧ v9 < (300 : Int) := k8 h1
    refine z_iast rfl s8.1 s8.2 dX12_words_317 ?_
    have s9 : -2147483648 ≤ v10 + 1 ∧ v10 + 1 < (2147483648 : Int) := k9 h1
    refine z_iincN (ls' := [zr 98, zi v1, zi v2, zi v3, zr 126, zi v5, zi v6, zi v7, zi v8, zi (v9 + 1), zi (v10 + 1)]) dX12_words_318 rfl (by decide) s9 rfl ?_
    refine z_goto dX12_words_321 (tgt := 283) (by decide) ?_
    exact k10 h1
set_option maxRecDepth 20000 in
set_option maxHeartbeats 1000000 in
theorem TX12_words_336 {G : zG} {σ : zS} {Q : Int → zS → Prop} {v1 v2 v3 v5 v6 v7 v8 v9 v10 : Int}  (k1 : (σ 98 43 ≤ v10) → zR G MX12_words 377 [zr 98, zi v1, zi v2, zi v3, zr 126, zi v5, zi v6, zi v7, zi v8, zi v9, zi 0] [] (zup σ 98 43 v9) Q) (k2 : (v10 < σ 98 43) → -2147483648 ≤ v9 + 1 ∧ v9 + 1 < (2147483648 : Int)) (k3 : (v10 < σ 98 43) → (0 : Int) ≤ v10 ∧ v10 < (300 : Int)) (k4 : (v10 < σ 98 43) → (0 : Int) ≤ v9 ∧ v9 < (300 : Int)) (k5 : (v10 < σ 98 43) → -2147483648 ≤ v10 + 1 ∧ v10 + 1 < (2147483648 : Int)) (k6 : (v10 < σ 98 43) → zR G MX12_words 336 [zr 98, zi v1, zi v2, zi v3, zr 126, zi v5, zi v6, zi v7, zi v8, zi (v9 + 1), zi (v10 + 1)] [] (zup σ 128 v9 (σ 127 v10)) Q) : zR G MX12_words 336 [zr 98, zi v1, zi v2, zi v3, zr 126, zi v5, zi v6, zi v7, zi v8, zi v9, zi v10] [] σ Q := by
  refine z_iload dX12_words_336 rfl ?_
  refine z_aload_n dX12_words_338 rfl rfl ?_
  refine z_getfI (k := 43) flRX12_306 rfl rfl dX12_words_339 ?_
  refine z_icmp_ge dX12_words_342 (tgt := 368) (by decide) (fun h1 => ?_) (fun h1 => ?_)
  · skip
    refine z_aload_n dX12_words_368 rfl rfl ?_
    refine z_iload dX12_words_369 rfl ?_
    refine z_putI (k := 43) fpRX12_306 rfl rfl dX12_words_371 ?_
    refine z_iconst dX12_words_374 (by unfold zIn; decide) ?_
    refine z_istore (ls' := [zr 98, zi v1, zi v2, zi v3, zr 126, zi v5, zi v6, zi v7, zi v8, zi v9, zi 0]) dX12_words_375 (by decide) rfl ?_
    exact k1 h1
  · skip
    refine z_aload_n dX12_words_345 rfl rfl ?_
    refine z_getfR (k := 42) flRX12_103 rfl rfl dX12_words_346 ?_
    refine z_iload dX12_words_349 rfl ?_
    have s2 : -2147483648 ≤ v9 + 1 ∧ v9 + 1 < (2147483648 : Int) := k2 h1
    refine z_iincN (ls' := [zr 98, zi v1, zi v2, zi v3, zr 126, zi v5, zi v6, zi v7, zi v8, zi (v9 + 1), zi v10]) dX12_words_351 rfl (by decide) s2 rfl ?_
    refine z_aload_n dX12_words_354 rfl rfl ?_
    refine z_getfR (k := 41) flRX12_100 rfl rfl dX12_words_355 ?_
    refine z_iload dX12_words_358 rfl ?_
    have s3 : (0 : Int) ≤ v10 ∧ v10 < (300 : Int) := k3 h1
    refine z_iald rfl s3.1 s3.2 dX12_words_360 ?_
    have s4 : (0 : Int) ≤ v9 ∧ v9 < (300 : Int) := k4 h1
    refine z_iast rfl s4.1 s4.2 dX12_words_361 ?_
    have s5 : -2147483648 ≤ v10 + 1 ∧ v10 + 1 < (2147483648 : Int) := k5 h1
    refine z_iincN (ls' := [zr 98, zi v1, zi v2, zi v3, zr 126, zi v5, zi v6, zi v7, zi v8, zi (v9 + 1), zi (v10 + 1)]) dX12_words_362 rfl (by decide) s5 rfl ?_
    refine z_goto dX12_words_365 (tgt := 336) (by decide) ?_
    exact k6 h1
set_option maxRecDepth 20000 in
set_option maxHeartbeats 1000000 in
theorem TX12_words_377 {G : zG} {σ : zS} {Q : Int → zS → Prop} {v1 v2 v3 v5 v6 v7 v8 v9 v10 : Int}  (k1 : (v9 ≤ v10) → zR G MX12_words 81 [zr 98, zi v1, zi v2, zi v3, zr 126, zi v5, zi v6, zu, zu, zu, zu] [] σ Q) (k2 : (v10 < v9) → (0 : Int) ≤ v10 ∧ v10 < (300 : Int)) (k3 : (v10 < v9) → -2147483648 ≤ v10 + 1 ∧ v10 + 1 < (2147483648 : Int)) (k4 : (v10 < v9) → zR G MX12_words 377 [zr 98, zi v1, zi v2, zi v3, zr 126, zi v5, zi v6, zi v7, zi v8, zi v9, zi (v10 + 1)] [] (zup σ 127 v10 (σ 128 v10)) Q) : zR G MX12_words 377 [zr 98, zi v1, zi v2, zi v3, zr 126, zi v5, zi v6, zi v7, zi v8, zi v9, zi v10] [] σ Q := by
  refine z_iload dX12_words_377 rfl ?_
  refine z_iload dX12_words_379 rfl ?_
  refine z_icmp_ge dX12_words_381 (tgt := 404) (by decide) (fun h1 => ?_) (fun h1 => ?_)
  · skip
    refine z_goto dX12_words_404 (tgt := 81) (by decide) ?_
    exact zR_fg [false, false, false, false, false, false, false, true, true, true, true] (k1 h1)
  · skip
    refine z_aload_n dX12_words_384 rfl rfl ?_
    refine z_getfR (k := 41) flRX12_100 rfl rfl dX12_words_385 ?_
    refine z_iload dX12_words_388 rfl ?_
    refine z_aload_n dX12_words_390 rfl rfl ?_
    refine z_getfR (k := 42) flRX12_103 rfl rfl dX12_words_391 ?_
    refine z_iload dX12_words_394 rfl ?_
    have s2 : (0 : Int) ≤ v10 ∧ v10 < (300 : Int) := k2 h1
    refine z_iald rfl s2.1 s2.2 dX12_words_396 ?_
    refine z_iast rfl s2.1 s2.2 dX12_words_397 ?_
    have s3 : -2147483648 ≤ v10 + 1 ∧ v10 + 1 < (2147483648 : Int) := k3 h1
    refine z_iincN (ls' := [zr 98, zi v1, zi v2, zi v3, zr 126, zi v5, zi v6, zi v7, zi v8, zi v9, zi (v10 + 1)]) dX12_words_398 rfl (by decide) s3 rfl ?_
    refine z_goto dX12_words_401 (tgt := 377) (by decide) ?_
    exact k4 h1
set_option maxRecDepth 20000 in
set_option maxHeartbeats 1000000 in
theorem TX12_words_ {G : zG} {σ : zS} {Q : Int → zS → Prop} {a1 a2 a3 a4 : Int}  (k1 : ((0 ≤ a1 ∧ a1 < 4)) → zO G MX12_words [zr 98, zi a1, zi a2, zi a3] σ (fun rr σ' => zR G MX12_words_ 16 [zr 98, zi a1, zi a2, zi a3, zi a4] [] σ' Q)) (k2 : (¬ ((0 ≤ a1 ∧ a1 < 4))) → Q (-1) σ) : zO G MX12_words_ [zr 98, zi a1, zi a2, zi a3, zi a4] σ Q := by
  refine zO_of (ls0 := [zr 98, zi a1, zi a2, zi a3, zi a4]) (by decide) (Nat.le_of_ble_eq_true rfl) rfl ?_
  refine z_iload_n dX12_words__0 rfl rfl ?_
  refine z_calls (as := [zi a1]) (st := []) mkX12_isStatute lkRX12_297 rfl (by decide) (Nat.le_of_ble_eq_true rfl) rfl dX12_words__1 ?_
  refine SX12_isStatute ?_
  show zR G MX12_words_ 4 [zr 98, zi a1, zi a2, zi a3, zi a4] [zi (if (0 ≤ a1 ∧ a1 < 4) then (1 : Int) else 0)] σ Q
  refine z_if_ne dX12_words__4 (tgt := 9) (by decide) (fun z => ?_) (fun z => ?_)
  · have h1 : (0 ≤ a1 ∧ a1 < 4) := zb1 z
    refine z_aload_n dX12_words__9 rfl rfl ?_
    refine z_iload_n dX12_words__10 rfl rfl ?_
    refine z_iload_n dX12_words__11 rfl rfl ?_
    refine z_iload_n dX12_words__12 rfl rfl ?_
    refine z_callv (as := [zi a1, zi a2, zi a3]) (st := []) mkX12_words lkRX12_316 rfl rfl rfl (by decide) (Nat.le_of_ble_eq_true rfl) rfl dX12_words__13 (k1 h1)
  · have h1 : ¬ ((0 ≤ a1 ∧ a1 < 4)) := zb0 z
    refine z_iconst dX12_words__7 (by unfold zIn; decide) ?_
    exact z_ireti rfl dX12_words__8 (k2 h1)
set_option maxRecDepth 20000 in
set_option maxHeartbeats 1000000 in
theorem TX12_words__16 {G : zG} {σ : zS} {Q : Int → zS → Prop} {v1 v2 v3 v4 : Int}  (k1 : (v4 ≠ (-1)) → (0 ≤ v4) → (v4 < σ 98 43) → (0 : Int) ≤ v4 ∧ v4 < (300 : Int)) (k2 : (v4 ≠ (-1)) → (0 ≤ v4) → (v4 < σ 98 43) → Q (σ 127 v4) σ) (k3 : (v4 = (-1)) → Q (σ 98 43) σ) (k4 : (v4 ≠ (-1)) → (v4 < 0 ∨ (0 ≤ v4 ∧ σ 98 43 ≤ v4)) → Q (-1) σ) : zR G MX12_words_ 16 [zr 98, zi v1, zi v2, zi v3, zi v4] [] σ Q := by
  have J51 : (v4 ≠ (-1)) → (v4 < 0 ∨ (0 ≤ v4 ∧ σ 98 43 ≤ v4)) → zR G MX12_words_ 51 [zr 98, zi v1, zi v2, zi v3, zi v4] [] σ Q := by
    intro h1 h4
    refine z_iconst dX12_words__51 (by unfold zIn; decide) ?_
    exact z_ireti rfl dX12_words__52 (k4 h1 h4)
  refine z_iload dX12_words__16 rfl ?_
  refine z_iconst dX12_words__18 (by unfold zIn; decide) ?_
  refine z_icmp_ne dX12_words__19 (tgt := 27) (by decide) (fun h1 => ?_) (fun h1 => ?_)
  · skip
    refine z_iload dX12_words__27 rfl ?_
    refine z_if_lt dX12_words__29 (tgt := 51) (by decide) (fun h2 => ?_) (fun h2 => ?_)
    · skip
      exact J51 h1 (Or.inl h2)
    · skip
      refine z_iload dX12_words__32 rfl ?_
      refine z_aload_n dX12_words__34 rfl rfl ?_
      refine z_getfI (k := 43) flRX12_306 rfl rfl dX12_words__35 ?_
      refine z_icmp_ge dX12_words__38 (tgt := 51) (by decide) (fun h3 => ?_) (fun h3 => ?_)
      · skip
        exact J51 h1 (Or.inr ⟨h2, h3⟩)
      · skip
        refine z_aload_n dX12_words__41 rfl rfl ?_
        refine z_getfR (k := 41) flRX12_100 rfl rfl dX12_words__42 ?_
        refine z_iload dX12_words__45 rfl ?_
        have s1 : (0 : Int) ≤ v4 ∧ v4 < (300 : Int) := k1 h1 h2 h3
        refine z_iald rfl s1.1 s1.2 dX12_words__47 ?_
        refine z_goto dX12_words__48 (tgt := 52) (by decide) ?_
        exact z_ireti rfl dX12_words__52 (k2 h1 h2 h3)
  · skip
    refine z_aload_n dX12_words__22 rfl rfl ?_
    refine z_getfI (k := 43) flRX12_306 rfl rfl dX12_words__23 ?_
    exact z_ireti rfl dX12_words__26 (k3 h1)
set_option maxRecDepth 20000 in
set_option maxHeartbeats 1000000 in
theorem TX12_gone {G : zG} {σ : zS} {Q : Int → zS → Prop} {a1 a2 a3 : Int}  (k1 : (0 ≤ a1) → (a1 < σ 98 3) → (0 : Int) ≤ a1 ∧ a1 < (12 : Int)) (k2 : (0 ≤ a1) → (a1 < σ 98 3) → ((σ 119 a1 = (σ 119 a1) ∧ σ 120 a1 ≤ a2 ∧ σ 121 a1 ≤ a3)) → zO G MX12_words [zr 98, zi (σ 119 a1), zi a2, zi a3] σ (fun rr σ' => zR G MX12_gone 42 [zr 98, zi a1, zi a2, zi a3] [] σ' Q)) (k3 : (a1 < 0 ∨ (0 ≤ a1 ∧ σ 98 3 ≤ a1) ∨ (0 ≤ a1 ∧ a1 < σ 98 3 ∧ (¬ ((σ 119 a1 = (σ 119 a1) ∧ σ 120 a1 ≤ a2 ∧ σ 121 a1 ≤ a3))))) → Q (-1) σ) : zO G MX12_gone [zr 98, zi a1, zi a2, zi a3] σ Q := by
  refine zO_of (ls0 := [zr 98, zi a1, zi a2, zi a3]) (by decide) (Nat.le_of_ble_eq_true rfl) rfl ?_
  have J28 : (a1 < 0 ∨ (0 ≤ a1 ∧ σ 98 3 ≤ a1) ∨ (0 ≤ a1 ∧ a1 < σ 98 3 ∧ (¬ ((σ 119 a1 = (σ 119 a1) ∧ σ 120 a1 ≤ a2 ∧ σ 121 a1 ≤ a3))))) → zR G MX12_gone 28 [zr 98, zi a1, zi a2, zi a3] [] σ Q := by
    intro h4
    refine z_iconst dX12_gone_28 (by unfold zIn; decide) ?_
    exact z_ireti rfl dX12_gone_29 (k3 h4)
  refine z_iload_n dX12_gone_0 rfl rfl ?_
  refine z_if_lt dX12_gone_1 (tgt := 28) (by decide) (fun h1 => ?_) (fun h1 => ?_)
  · skip
    exact J28 (Or.inl h1)
  · skip
    refine z_iload_n dX12_gone_4 rfl rfl ?_
    refine z_aload_n dX12_gone_5 rfl rfl ?_
    refine z_getfI (k := 3) flRX12_303 rfl rfl dX12_gone_6 ?_
    refine z_icmp_ge dX12_gone_9 (tgt := 28) (by decide) (fun h2 => ?_) (fun h2 => ?_)
    · skip
      exact J28 (Or.inr (Or.inl ⟨h1, h2⟩))
    · skip
      refine z_aload_n dX12_gone_12 rfl rfl ?_
      refine z_iload_n dX12_gone_13 rfl rfl ?_
      refine z_aload_n dX12_gone_14 rfl rfl ?_
      refine z_getfR (k := 33) flRX12_76 rfl rfl dX12_gone_15 ?_
      refine z_iload_n dX12_gone_18 rfl rfl ?_
      have s1 : (0 : Int) ≤ a1 ∧ a1 < (12 : Int) := k1 h1 h2
      refine z_iald rfl s1.1 s1.2 dX12_gone_19 ?_
      refine z_iload_n dX12_gone_20 rfl rfl ?_
      refine z_iload_n dX12_gone_21 rfl rfl ?_
      refine z_callv (as := [zi a1, zi (σ 119 a1), zi a2, zi a3]) (st := []) mkX12_isInForce lkRX12_309 rfl rfl rfl (by decide) (Nat.le_of_ble_eq_true rfl) rfl dX12_gone_22 ?_
      refine SX12_isInForce s1 ?_
      show zR G MX12_gone 25 [zr 98, zi a1, zi a2, zi a3] [zi (if (σ 119 a1 = (σ 119 a1) ∧ σ 120 a1 ≤ a2 ∧ σ 121 a1 ≤ a3) then (1 : Int) else 0)] σ Q
      refine z_if_ne dX12_gone_25 (tgt := 30) (by decide) (fun z => ?_) (fun z => ?_)
      · have h3 : (σ 119 a1 = (σ 119 a1) ∧ σ 120 a1 ≤ a2 ∧ σ 121 a1 ≤ a3) := zb1 z
        refine z_aload_n dX12_gone_30 rfl rfl ?_
        refine z_aload_n dX12_gone_31 rfl rfl ?_
        refine z_getfR (k := 33) flRX12_76 rfl rfl dX12_gone_32 ?_
        refine z_iload_n dX12_gone_35 rfl rfl ?_
        refine z_iald rfl s1.1 s1.2 dX12_gone_36 ?_
        refine z_iload_n dX12_gone_37 rfl rfl ?_
        refine z_iload_n dX12_gone_38 rfl rfl ?_
        refine z_callv (as := [zi (σ 119 a1), zi a2, zi a3]) (st := []) mkX12_words lkRX12_316 rfl rfl rfl (by decide) (Nat.le_of_ble_eq_true rfl) rfl dX12_gone_39 (k2 h1 h2 h3)
      · have h3 : ¬ ((σ 119 a1 = (σ 119 a1) ∧ σ 120 a1 ≤ a2 ∧ σ 121 a1 ≤ a3)) := zb0 z
        exact J28 (Or.inr (Or.inr ⟨h1, h2, h3⟩))
set_option maxRecDepth 20000 in
set_option maxHeartbeats 1000000 in
theorem TX12_gone_42 {G : zG} {σ : zS} {Q : Int → zS → Prop} {v1 v2 v3 : Int}  (k1 : (0 : Int) ≤ v1 ∧ v1 < (12 : Int)) (k2 : (σ 126 v1 = 0) → Q 0 σ) (k3 : (σ 126 v1 ≠ 0) → Q 1 σ) : zR G MX12_gone 42 [zr 98, zi v1, zi v2, zi v3] [] σ Q := by
  refine z_aload_n dX12_gone_42 rfl rfl ?_
  refine z_getfR (k := 40) flRX12_97 rfl rfl dX12_gone_43 ?_
  refine z_iload_n dX12_gone_46 rfl rfl ?_
  have s1 : (0 : Int) ≤ v1 ∧ v1 < (12 : Int) := k1
  refine z_bald rfl s1.1 s1.2 dX12_gone_47 ?_
  refine z_if_eq dX12_gone_48 (tgt := 55) (by decide) (fun h1 => ?_) (fun h1 => ?_)
  · skip
    refine z_iconst dX12_gone_55 (by unfold zIn; decide) ?_
    exact z_ireti rfl dX12_gone_56 (k2 h1)
  · skip
    refine z_iconst dX12_gone_51 (by unfold zIn; decide) ?_
    refine z_goto dX12_gone_52 (tgt := 56) (by decide) ?_
    exact z_ireti rfl dX12_gone_56 (k3 h1)
set_option maxRecDepth 20000 in
set_option maxHeartbeats 1000000 in
theorem TX12_letter {G : zG} {σ : zS} {Q : Int → zS → Prop}  (k1 : (σ 98 43 ≤ σ 98 87) → Q (-1) σ) (k2 : (σ 98 87 < σ 98 43) → (0 : Int) ≤ σ 98 87 ∧ σ 98 87 < (300 : Int)) (k3 : (σ 98 87 < σ 98 43) → Q (σ 127 (σ 98 87)) σ) : zO G MX12_letter [zr 98] σ Q := by
  refine zO_of (ls0 := [zr 98]) (by decide) (Nat.le_of_ble_eq_true rfl) rfl ?_
  refine z_aload_n dX12_letter_0 rfl rfl ?_
  refine z_getfI (k := 87) flRX12_320 rfl rfl dX12_letter_1 ?_
  refine z_aload_n dX12_letter_4 rfl rfl ?_
  refine z_getfI (k := 43) flRX12_306 rfl rfl dX12_letter_5 ?_
  refine z_icmp_ge dX12_letter_8 (tgt := 23) (by decide) (fun h1 => ?_) (fun h1 => ?_)
  · skip
    refine z_iconst dX12_letter_23 (by unfold zIn; decide) ?_
    exact z_ireti rfl dX12_letter_24 (k1 h1)
  · skip
    refine z_aload_n dX12_letter_11 rfl rfl ?_
    refine z_getfR (k := 41) flRX12_100 rfl rfl dX12_letter_12 ?_
    refine z_aload_n dX12_letter_15 rfl rfl ?_
    refine z_getfI (k := 87) flRX12_320 rfl rfl dX12_letter_16 ?_
    have s2 : (0 : Int) ≤ σ 98 87 ∧ σ 98 87 < (300 : Int) := k2 h1
    refine z_iald rfl s2.1 s2.2 dX12_letter_19 ?_
    refine z_goto dX12_letter_20 (tgt := 24) (by decide) ?_
    exact z_ireti rfl dX12_letter_24 (k3 h1)
set_option maxRecDepth 20000 in
set_option maxHeartbeats 1000000 in
theorem TX12_reads {G : zG} {σ : zS} {Q : Int → zS → Prop}  (k1 : zO G MX12_letter [zr 98] σ (fun rr σ' => zR G MX12_reads 4 [zr 98, zu, zu, zu, zu] [zi rr] σ' Q)) : zO G MX12_reads [zr 98] σ Q := by
  refine zO_of (ls0 := [zr 98, zu, zu, zu, zu]) (by decide) (Nat.le_of_ble_eq_true rfl) rfl ?_
  refine z_aload_n dX12_reads_0 rfl rfl ?_
  refine z_callv (as := []) (st := []) mkX12_letter lkRX12_323 rfl rfl rfl (by decide) (Nat.le_of_ble_eq_true rfl) rfl dX12_reads_1 (k1)
set_option maxRecDepth 20000 in
set_option maxHeartbeats 1000000 in
theorem TX12_reads_4 {G : zG} {σ : zS} {Q : Int → zS → Prop} {r : Int}  (k1 : (0 : Int) ≤ σ 98 84 ∧ σ 98 84 < (110 : Int)) (k2 : (r = 119) → ((zup σ 162 (σ 98 84) r) 98 87 < (zup σ 162 (σ 98 84) r) 98 43) → -2147483648 ≤ (zup σ 162 (σ 98 84) r) 98 87 + 1 ∧ (zup σ 162 (σ 98 84) r) 98 87 + 1 < (2147483648 : Int)) (k3 : (r = 119) → ((zup σ 162 (σ 98 84) r) 98 87 < (zup σ 162 (σ 98 84) r) 98 43) → -2147483648 ≤ ((zup (zup σ 162 (σ 98 84) r) 98 87 ((zup σ 162 (σ 98 84) r) 98 87 + 1)) 98 84) + 1 ∧ ((zup (zup σ 162 (σ 98 84) r) 98 87 ((zup σ 162 (σ 98 84) r) 98 87 + 1)) 98 84) + 1 < (2147483648 : Int)) (k4 : (r = 119) → ((zup σ 162 (σ 98 84) r) 98 87 < (zup σ 162 (σ 98 84) r) 98 43) → Q 1 (zup (zup (zup σ 162 (σ 98 84) r) 98 87 ((zup σ 162 (σ 98 84) r) 98 87 + 1)) 98 84 (((zup (zup σ 162 (σ 98 84) r) 98 87 ((zup σ 162 (σ 98 84) r) 98 87 + 1)) 98 84) + 1))) (k5 : (r ≠ 119 ∨ (r = 119 ∧ (zup σ 162 (σ 98 84) r) 98 43 ≤ (zup σ 162 (σ 98 84) r) 98 87)) → ((zup σ 162 (σ 98 84) r) 98 43 ≤ (zup σ 162 (σ 98 84) r) 98 87 ∨ ((zup σ 162 (σ 98 84) r) 98 87 < (zup σ 162 (σ 98 84) r) 98 43 ∧ r ≠ 97 ∧ r ≠ 107 ∧ r ≠ 100 ∧ r ≠ 114 ∧ r ≠ 116)) → Q 0 (zup σ 162 (σ 98 84) r)) (k6 : (r ≠ 119 ∨ (r = 119 ∧ (zup σ 162 (σ 98 84) r) 98 43 ≤ (zup σ 162 (σ 98 84) r) 98 87)) → ((zup σ 162 (σ 98 84) r) 98 87 < (zup σ 162 (σ 98 84) r) 98 43) → (r = 97 ∨ (r ≠ 97 ∧ r = 107) ∨ (r ≠ 97 ∧ r ≠ 107 ∧ r = 100) ∨ (r ≠ 97 ∧ r ≠ 107 ∧ r ≠ 100 ∧ r = 114) ∨ (r ≠ 97 ∧ r ≠ 107 ∧ r ≠ 100 ∧ r ≠ 114 ∧ r = 116)) → -2147483648 ≤ (zup σ 162 (σ 98 84) r) 98 87 + 1 ∧ (zup σ 162 (σ 98 84) r) 98 87 + 1 < (2147483648 : Int)) (k7 : (r ≠ 119 ∨ (r = 119 ∧ (zup σ 162 (σ 98 84) r) 98 43 ≤ (zup σ 162 (σ 98 84) r) 98 87)) → ((zup σ 162 (σ 98 84) r) 98 87 < (zup σ 162 (σ 98 84) r) 98 43) → (r = 97 ∨ (r ≠ 97 ∧ r = 107) ∨ (r ≠ 97 ∧ r ≠ 107 ∧ r = 100) ∨ (r ≠ 97 ∧ r ≠ 107 ∧ r ≠ 100 ∧ r = 114) ∨ (r ≠ 97 ∧ r ≠ 107 ∧ r ≠ 100 ∧ r ≠ 114 ∧ r = 116)) → zO G MX12_letter [zr 98] (zup (zup σ 162 (σ 98 84) r) 98 87 ((zup σ 162 (σ 98 84) r) 98 87 + 1)) (fun rr σ' => zR G MX12_reads 111 [zr 98, zi r, zu, zu, zu] [zi rr] σ' Q)) : zR G MX12_reads 4 [zr 98, zu, zu, zu, zu] [zi r] σ Q := by
  have J97 : (r ≠ 119 ∨ (r = 119 ∧ (zup σ 162 (σ 98 84) r) 98 43 ≤ (zup σ 162 (σ 98 84) r) 98 87)) → ((zup σ 162 (σ 98 84) r) 98 87 < (zup σ 162 (σ 98 84) r) 98 43) → (r = 97 ∨ (r ≠ 97 ∧ r = 107) ∨ (r ≠ 97 ∧ r ≠ 107 ∧ r = 100) ∨ (r ≠ 97 ∧ r ≠ 107 ∧ r ≠ 100 ∧ r = 114) ∨ (r ≠ 97 ∧ r ≠ 107 ∧ r ≠ 100 ∧ r ≠ 114 ∧ r = 116)) → zR G MX12_reads 97 [zr 98, zi r, zu, zu, zu] [] (zup σ 162 (σ 98 84) r) Q := by
    intro h3 h4 h11
    refine z_aload_n dX12_reads_97 rfl rfl ?_
    refine z_dup dX12_reads_98 rfl ?_
    refine z_getfI (k := 87) flRX12_320 rfl rfl dX12_reads_99 ?_
    refine z_iconst dX12_reads_102 (by unfold zIn; decide) ?_
    have s6 : -2147483648 ≤ (zup σ 162 (σ 98 84) r) 98 87 + 1 ∧ (zup σ 162 (σ 98 84) r) 98 87 + 1 < (2147483648 : Int) := k6 h3 h4 h11
    refine z_iaddN dX12_reads_103 s6 ?_
    refine z_putI (k := 87) fpRX12_320 rfl rfl dX12_reads_104 ?_
    refine z_aload_n dX12_reads_107 rfl rfl ?_
    refine z_callv (as := []) (st := []) mkX12_letter lkRX12_323 rfl rfl rfl (by decide) (Nat.le_of_ble_eq_true rfl) rfl dX12_reads_108 (k7 h3 h4 h11)
  have J95 : (r ≠ 119 ∨ (r = 119 ∧ (zup σ 162 (σ 98 84) r) 98 43 ≤ (zup σ 162 (σ 98 84) r) 98 87)) → ((zup σ 162 (σ 98 84) r) 98 43 ≤ (zup σ 162 (σ 98 84) r) 98 87 ∨ ((zup σ 162 (σ 98 84) r) 98 87 < (zup σ 162 (σ 98 84) r) 98 43 ∧ r ≠ 97 ∧ r ≠ 107 ∧ r ≠ 100 ∧ r ≠ 114 ∧ r ≠ 116)) → zR G MX12_reads 95 [zr 98, zi r, zu, zu, zu] [] (zup σ 162 (σ 98 84) r) Q := by
    intro h3 h10
    refine z_iconst dX12_reads_95 (by unfold zIn; decide) ?_
    exact z_iretz rfl (by decide) dX12_reads_96 (k5 h3 h10)
  have J54 : (r ≠ 119 ∨ (r = 119 ∧ (zup σ 162 (σ 98 84) r) 98 43 ≤ (zup σ 162 (σ 98 84) r) 98 87)) → zR G MX12_reads 54 [zr 98, zi r, zu, zu, zu] [] (zup σ 162 (σ 98 84) r) Q := by
    intro h3
    refine z_aload_n dX12_reads_54 rfl rfl ?_
    refine z_getfI (k := 87) flRX12_320 rfl rfl dX12_reads_55 ?_
    refine z_aload_n dX12_reads_58 rfl rfl ?_
    refine z_getfI (k := 43) flRX12_306 rfl rfl dX12_reads_59 ?_
    refine z_icmp_ge dX12_reads_62 (tgt := 95) (by decide) (fun h4 => ?_) (fun h4 => ?_)
    · skip
      exact J95 h3 (Or.inl h4)
    · skip
      refine z_iload_n dX12_reads_65 rfl rfl ?_
      refine z_bipush (x := 97) dX12_reads_66 (by decide +kernel) (by unfold zIn; decide) ?_
      refine z_icmp_eq dX12_reads_68 (tgt := 97) (by decide) (fun h5 => ?_) (fun h5 => ?_)
      · skip
        exact J97 h3 h4 (Or.inl h5)
      · skip
        refine z_iload_n dX12_reads_71 rfl rfl ?_
        refine z_bipush (x := 107) dX12_reads_72 (by decide +kernel) (by unfold zIn; decide) ?_
        refine z_icmp_eq dX12_reads_74 (tgt := 97) (by decide) (fun h6 => ?_) (fun h6 => ?_)
        · skip
          exact J97 h3 h4 (Or.inr (Or.inl ⟨h5, h6⟩))
        · skip
          refine z_iload_n dX12_reads_77 rfl rfl ?_
          refine z_bipush (x := 100) dX12_reads_78 (by decide +kernel) (by unfold zIn; decide) ?_
          refine z_icmp_eq dX12_reads_80 (tgt := 97) (by decide) (fun h7 => ?_) (fun h7 => ?_)
          · skip
            exact J97 h3 h4 (Or.inr (Or.inr (Or.inl ⟨h5, h6, h7⟩)))
          · skip
            refine z_iload_n dX12_reads_83 rfl rfl ?_
            refine z_bipush (x := 114) dX12_reads_84 (by decide +kernel) (by unfold zIn; decide) ?_
            refine z_icmp_eq dX12_reads_86 (tgt := 97) (by decide) (fun h8 => ?_) (fun h8 => ?_)
            · skip
              exact J97 h3 h4 (Or.inr (Or.inr (Or.inr (Or.inl ⟨h5, h6, h7, h8⟩))))
            · skip
              refine z_iload_n dX12_reads_89 rfl rfl ?_
              refine z_bipush (x := 116) dX12_reads_90 (by decide +kernel) (by unfold zIn; decide) ?_
              refine z_icmp_eq dX12_reads_92 (tgt := 97) (by decide) (fun h9 => ?_) (fun h9 => ?_)
              · skip
                exact J97 h3 h4 (Or.inr (Or.inr (Or.inr (Or.inr ⟨h5, h6, h7, h8, h9⟩))))
              · skip
                exact J95 h3 (Or.inr ⟨h4, h5, h6, h7, h8, h9⟩)
  refine z_istore_n (ls' := [zr 98, zi r, zu, zu, zu]) dX12_reads_4 rfl (by decide) rfl ?_
  refine z_aload_n dX12_reads_5 rfl rfl ?_
  refine z_getfR (k := 78) flRX12_205 rfl rfl dX12_reads_6 ?_
  refine z_aload_n dX12_reads_9 rfl rfl ?_
  refine z_getfI (k := 84) flRX12_327 rfl rfl dX12_reads_10 ?_
  refine z_iload_n dX12_reads_13 rfl rfl ?_
  have s1 : (0 : Int) ≤ σ 98 84 ∧ σ 98 84 < (110 : Int) := k1
  refine z_iast rfl s1.1 s1.2 dX12_reads_14 ?_
  refine z_iload_n dX12_reads_15 rfl rfl ?_
  refine z_bipush (x := 119) dX12_reads_16 (by decide +kernel) (by unfold zIn; decide) ?_
  refine z_icmp_ne dX12_reads_18 (tgt := 54) (by decide) (fun h1 => ?_) (fun h1 => ?_)
  · skip
    exact J54 (Or.inl h1)
  · skip
    refine z_aload_n dX12_reads_21 rfl rfl ?_
    refine z_getfI (k := 87) flRX12_320 rfl rfl dX12_reads_22 ?_
    refine z_aload_n dX12_reads_25 rfl rfl ?_
    refine z_getfI (k := 43) flRX12_306 rfl rfl dX12_reads_26 ?_
    refine z_icmp_ge dX12_reads_29 (tgt := 54) (by decide) (fun h2 => ?_) (fun h2 => ?_)
    · skip
      exact J54 (Or.inr ⟨h1, h2⟩)
    · skip
      refine z_aload_n dX12_reads_32 rfl rfl ?_
      refine z_dup dX12_reads_33 rfl ?_
      refine z_getfI (k := 87) flRX12_320 rfl rfl dX12_reads_34 ?_
      refine z_iconst dX12_reads_37 (by unfold zIn; decide) ?_
      have s2 : -2147483648 ≤ (zup σ 162 (σ 98 84) r) 98 87 + 1 ∧ (zup σ 162 (σ 98 84) r) 98 87 + 1 < (2147483648 : Int) := k2 h1 h2
      refine z_iaddN dX12_reads_38 s2 ?_
      refine z_putI (k := 87) fpRX12_320 rfl rfl dX12_reads_39 ?_
      refine z_aload_n dX12_reads_42 rfl rfl ?_
      refine z_dup dX12_reads_43 rfl ?_
      refine z_getfI (k := 84) flRX12_327 rfl rfl dX12_reads_44 ?_
      refine z_iconst dX12_reads_47 (by unfold zIn; decide) ?_
      have s3 : -2147483648 ≤ ((zup (zup σ 162 (σ 98 84) r) 98 87 ((zup σ 162 (σ 98 84) r) 98 87 + 1)) 98 84) + 1 ∧ ((zup (zup σ 162 (σ 98 84) r) 98 87 ((zup σ 162 (σ 98 84) r) 98 87 + 1)) 98 84) + 1 < (2147483648 : Int) := k3 h1 h2
      refine z_iaddN dX12_reads_48 s3 ?_
      refine z_putI (k := 84) fpRX12_327 rfl rfl dX12_reads_49 ?_
      refine z_iconst dX12_reads_52 (by unfold zIn; decide) ?_
      exact z_iretz rfl (by decide) dX12_reads_53 (k4 h1 h2)
set_option maxRecDepth 20000 in
set_option maxHeartbeats 1000000 in
theorem TX12_reads_111 {G : zG} {σ : zS} {Q : Int → zS → Prop} {v1 r : Int}  (k1 : (σ 98 43 ≤ σ 98 87 ∨ (σ 98 87 < σ 98 43 ∧ r ≠ 60 ∧ r ≠ 62 ∧ r ≠ 61)) → Q 0 σ) (k2 : (σ 98 87 < σ 98 43) → (r = 60 ∨ (r ≠ 60 ∧ r = 62) ∨ (r ≠ 60 ∧ r ≠ 62 ∧ r = 61)) → -2147483648 ≤ σ 98 87 + 1 ∧ σ 98 87 + 1 < (2147483648 : Int)) (k3 : (σ 98 87 < σ 98 43) → (r = 60 ∨ (r ≠ 60 ∧ r = 62) ∨ (r ≠ 60 ∧ r ≠ 62 ∧ r = 61)) → zR G MX12_reads 158 [zr 98, zi v1, zi r, zi 0, zi 0] [] (zup σ 98 87 (σ 98 87 + 1)) Q) : zR G MX12_reads 111 [zr 98, zi v1, zu, zu, zu] [zi r] σ Q := by
  have J143 : (σ 98 87 < σ 98 43) → (r = 60 ∨ (r ≠ 60 ∧ r = 62) ∨ (r ≠ 60 ∧ r ≠ 62 ∧ r = 61)) → zR G MX12_reads 143 [zr 98, zi v1, zi r, zu, zu] [] σ Q := by
    intro h1 h6
    refine z_aload_n dX12_reads_143 rfl rfl ?_
    refine z_dup dX12_reads_144 rfl ?_
    refine z_getfI (k := 87) flRX12_320 rfl rfl dX12_reads_145 ?_
    refine z_iconst dX12_reads_148 (by unfold zIn; decide) ?_
    have s2 : -2147483648 ≤ σ 98 87 + 1 ∧ σ 98 87 + 1 < (2147483648 : Int) := k2 h1 h6
    refine z_iaddN dX12_reads_149 s2 ?_
    refine z_putI (k := 87) fpRX12_320 rfl rfl dX12_reads_150 ?_
    refine z_iconst dX12_reads_153 (by unfold zIn; decide) ?_
    refine z_istore_n (ls' := [zr 98, zi v1, zi r, zi 0, zu]) dX12_reads_154 rfl (by decide) rfl ?_
    refine z_iconst dX12_reads_155 (by unfold zIn; decide) ?_
    refine z_istore (ls' := [zr 98, zi v1, zi r, zi 0, zi 0]) dX12_reads_156 (by decide) rfl ?_
    exact k3 h1 h6
  have J141 : (σ 98 43 ≤ σ 98 87 ∨ (σ 98 87 < σ 98 43 ∧ r ≠ 60 ∧ r ≠ 62 ∧ r ≠ 61)) → zR G MX12_reads 141 [zr 98, zi v1, zi r, zu, zu] [] σ Q := by
    intro h5
    refine z_iconst dX12_reads_141 (by unfold zIn; decide) ?_
    exact z_iretz rfl (by decide) dX12_reads_142 (k1 h5)
  refine z_istore_n (ls' := [zr 98, zi v1, zi r, zu, zu]) dX12_reads_111 rfl (by decide) rfl ?_
  refine z_aload_n dX12_reads_112 rfl rfl ?_
  refine z_getfI (k := 87) flRX12_320 rfl rfl dX12_reads_113 ?_
  refine z_aload_n dX12_reads_116 rfl rfl ?_
  refine z_getfI (k := 43) flRX12_306 rfl rfl dX12_reads_117 ?_
  refine z_icmp_ge dX12_reads_120 (tgt := 141) (by decide) (fun h1 => ?_) (fun h1 => ?_)
  · skip
    exact J141 (Or.inl h1)
  · skip
    refine z_iload_n dX12_reads_123 rfl rfl ?_
    refine z_bipush (x := 60) dX12_reads_124 (by decide +kernel) (by unfold zIn; decide) ?_
    refine z_icmp_eq dX12_reads_126 (tgt := 143) (by decide) (fun h2 => ?_) (fun h2 => ?_)
    · skip
      exact J143 h1 (Or.inl h2)
    · skip
      refine z_iload_n dX12_reads_129 rfl rfl ?_
      refine z_bipush (x := 62) dX12_reads_130 (by decide +kernel) (by unfold zIn; decide) ?_
      refine z_icmp_eq dX12_reads_132 (tgt := 143) (by decide) (fun h3 => ?_) (fun h3 => ?_)
      · skip
        exact J143 h1 (Or.inr (Or.inl ⟨h2, h3⟩))
      · skip
        refine z_iload_n dX12_reads_135 rfl rfl ?_
        refine z_bipush (x := 61) dX12_reads_136 (by decide +kernel) (by unfold zIn; decide) ?_
        refine z_icmp_eq dX12_reads_138 (tgt := 143) (by decide) (fun h4 => ?_) (fun h4 => ?_)
        · skip
          exact J143 h1 (Or.inr (Or.inr ⟨h2, h3, h4⟩))
        · skip
          exact J141 (Or.inr ⟨h1, h2, h3, h4⟩)
set_option maxRecDepth 20000 in
set_option maxHeartbeats 1000000 in
theorem TX12_reads_158 {G : zG} {σ : zS} {Q : Int → zS → Prop} {v1 v2 v3 v4 : Int}  (k1 : (σ 98 87 < σ 98 43) → zO G MX12_letter [zr 98] σ (fun rr σ' => zR G MX12_reads 173 [zr 98, zi v1, zi v2, zi v3, zi v4] [zi rr] σ' Q)) (k2 : (σ 98 43 ≤ σ 98 87) → (v4 ≠ 0) → (0 : Int) ≤ σ 98 84 ∧ σ 98 84 < (110 : Int)) (k3 : (σ 98 43 ≤ σ 98 87) → (v4 ≠ 0) → (0 : Int) ≤ (zup σ 163 (σ 98 84) v2) 98 84 ∧ (zup σ 163 (σ 98 84) v2) 98 84 < (110 : Int)) (k4 : (σ 98 43 ≤ σ 98 87) → (v4 ≠ 0) → -2147483648 ≤ (zup (zup σ 163 (σ 98 84) v2) 164 ((zup σ 163 (σ 98 84) v2) 98 84) v3) 98 84 + 1 ∧ (zup (zup σ 163 (σ 98 84) v2) 164 ((zup σ 163 (σ 98 84) v2) 98 84) v3) 98 84 + 1 < (2147483648 : Int)) (k5 : (σ 98 43 ≤ σ 98 87) → (v4 ≠ 0) → Q 1 (zup (zup (zup σ 163 (σ 98 84) v2) 164 ((zup σ 163 (σ 98 84) v2) 98 84) v3) 98 84 ((zup (zup σ 163 (σ 98 84) v2) 164 ((zup σ 163 (σ 98 84) v2) 98 84) v3) 98 84 + 1))) (k6 : (σ 98 43 ≤ σ 98 87) → (v4 = 0) → Q 0 σ) : zR G MX12_reads 158 [zr 98, zi v1, zi v2, zi v3, zi v4] [] σ Q := by
  have J231 : (σ 98 43 ≤ σ 98 87) → zR G MX12_reads 231 [zr 98, zi v1, zi v2, zi v3, zi v4] [] σ Q := by
    intro h1
    refine z_iload dX12_reads_231 rfl ?_
    refine z_if_ne dX12_reads_233 (tgt := 238) (by decide) (fun h2 => ?_) (fun h2 => ?_)
    · skip
      refine z_aload_n dX12_reads_238 rfl rfl ?_
      refine z_getfR (k := 79) flRX12_208 rfl rfl dX12_reads_239 ?_
      refine z_aload_n dX12_reads_242 rfl rfl ?_
      refine z_getfI (k := 84) flRX12_327 rfl rfl dX12_reads_243 ?_
      refine z_iload_n dX12_reads_246 rfl rfl ?_
      have s2 : (0 : Int) ≤ σ 98 84 ∧ σ 98 84 < (110 : Int) := k2 h1 h2
      refine z_iast rfl s2.1 s2.2 dX12_reads_247 ?_
      refine z_aload_n dX12_reads_248 rfl rfl ?_
      refine z_getfR (k := 80) flRX12_211 rfl rfl dX12_reads_249 ?_
      refine z_aload_n dX12_reads_252 rfl rfl ?_
      refine z_getfI (k := 84) flRX12_327 rfl rfl dX12_reads_253 ?_
      refine z_iload_n dX12_reads_256 rfl rfl ?_
      have s3 : (0 : Int) ≤ (zup σ 163 (σ 98 84) v2) 98 84 ∧ (zup σ 163 (σ 98 84) v2) 98 84 < (110 : Int) := k3 h1 h2
      refine z_iast rfl s3.1 s3.2 dX12_reads_257 ?_
      refine z_aload_n dX12_reads_258 rfl rfl ?_
      refine z_dup dX12_reads_259 rfl ?_
      refine z_getfI (k := 84) flRX12_327 rfl rfl dX12_reads_260 ?_
      refine z_iconst dX12_reads_263 (by unfold zIn; decide) ?_
      have s4 : -2147483648 ≤ (zup (zup σ 163 (σ 98 84) v2) 164 ((zup σ 163 (σ 98 84) v2) 98 84) v3) 98 84 + 1 ∧ (zup (zup σ 163 (σ 98 84) v2) 164 ((zup σ 163 (σ 98 84) v2) 98 84) v3) 98 84 + 1 < (2147483648 : Int) := k4 h1 h2
      refine z_iaddN dX12_reads_264 s4 ?_
      refine z_putI (k := 84) fpRX12_327 rfl rfl dX12_reads_265 ?_
      refine z_iconst dX12_reads_268 (by unfold zIn; decide) ?_
      exact z_iretz rfl (by decide) dX12_reads_269 (k5 h1 h2)
    · skip
      refine z_iconst dX12_reads_236 (by unfold zIn; decide) ?_
      exact z_iretz rfl (by decide) dX12_reads_237 (k6 h1 h2)
  refine z_aload_n dX12_reads_158 rfl rfl ?_
  refine z_getfI (k := 87) flRX12_320 rfl rfl dX12_reads_159 ?_
  refine z_aload_n dX12_reads_162 rfl rfl ?_
  refine z_getfI (k := 43) flRX12_306 rfl rfl dX12_reads_163 ?_
  refine z_icmp_ge dX12_reads_166 (tgt := 231) (by decide) (fun h1 => ?_) (fun h1 => ?_)
  · skip
    exact J231 h1
  · skip
    refine z_aload_n dX12_reads_169 rfl rfl ?_
    refine z_callv (as := []) (st := []) mkX12_letter lkRX12_323 rfl rfl rfl (by decide) (Nat.le_of_ble_eq_true rfl) rfl dX12_reads_170 (k1 h1)
set_option maxRecDepth 20000 in
set_option maxHeartbeats 1000000 in
theorem TX12_reads_173 {G : zG} {σ : zS} {Q : Int → zS → Prop} {v1 v2 v3 v4 r : Int}  (k1 : (48 ≤ r) → zO G MX12_letter [zr 98] σ (fun rr σ' => zR G MX12_reads 182 [zr 98, zi v1, zi v2, zi v3, zi v4] [zi rr] σ' Q)) (k2 : (r < 48) → (v4 ≠ 0) → (0 : Int) ≤ σ 98 84 ∧ σ 98 84 < (110 : Int)) (k3 : (r < 48) → (v4 ≠ 0) → (0 : Int) ≤ (zup σ 163 (σ 98 84) v2) 98 84 ∧ (zup σ 163 (σ 98 84) v2) 98 84 < (110 : Int)) (k4 : (r < 48) → (v4 ≠ 0) → -2147483648 ≤ (zup (zup σ 163 (σ 98 84) v2) 164 ((zup σ 163 (σ 98 84) v2) 98 84) v3) 98 84 + 1 ∧ (zup (zup σ 163 (σ 98 84) v2) 164 ((zup σ 163 (σ 98 84) v2) 98 84) v3) 98 84 + 1 < (2147483648 : Int)) (k5 : (r < 48) → (v4 ≠ 0) → Q 1 (zup (zup (zup σ 163 (σ 98 84) v2) 164 ((zup σ 163 (σ 98 84) v2) 98 84) v3) 98 84 ((zup (zup σ 163 (σ 98 84) v2) 164 ((zup σ 163 (σ 98 84) v2) 98 84) v3) 98 84 + 1))) (k6 : (r < 48) → (v4 = 0) → Q 0 σ) : zR G MX12_reads 173 [zr 98, zi v1, zi v2, zi v3, zi v4] [zi r] σ Q := by
  have J231 : (r < 48) → zR G MX12_reads 231 [zr 98, zi v1, zi v2, zi v3, zi v4] [] σ Q := by
    intro h1
    refine z_iload dX12_reads_231 rfl ?_
    refine z_if_ne dX12_reads_233 (tgt := 238) (by decide) (fun h2 => ?_) (fun h2 => ?_)
    · skip
      refine z_aload_n dX12_reads_238 rfl rfl ?_
      refine z_getfR (k := 79) flRX12_208 rfl rfl dX12_reads_239 ?_
      refine z_aload_n dX12_reads_242 rfl rfl ?_
      refine z_getfI (k := 84) flRX12_327 rfl rfl dX12_reads_243 ?_
      refine z_iload_n dX12_reads_246 rfl rfl ?_
      have s2 : (0 : Int) ≤ σ 98 84 ∧ σ 98 84 < (110 : Int) := k2 h1 h2
      refine z_iast rfl s2.1 s2.2 dX12_reads_247 ?_
      refine z_aload_n dX12_reads_248 rfl rfl ?_
      refine z_getfR (k := 80) flRX12_211 rfl rfl dX12_reads_249 ?_
      refine z_aload_n dX12_reads_252 rfl rfl ?_
      refine z_getfI (k := 84) flRX12_327 rfl rfl dX12_reads_253 ?_
      refine z_iload_n dX12_reads_256 rfl rfl ?_
      have s3 : (0 : Int) ≤ (zup σ 163 (σ 98 84) v2) 98 84 ∧ (zup σ 163 (σ 98 84) v2) 98 84 < (110 : Int) := k3 h1 h2
      refine z_iast rfl s3.1 s3.2 dX12_reads_257 ?_
      refine z_aload_n dX12_reads_258 rfl rfl ?_
      refine z_dup dX12_reads_259 rfl ?_
      refine z_getfI (k := 84) flRX12_327 rfl rfl dX12_reads_260 ?_
      refine z_iconst dX12_reads_263 (by unfold zIn; decide) ?_
      have s4 : -2147483648 ≤ (zup (zup σ 163 (σ 98 84) v2) 164 ((zup σ 163 (σ 98 84) v2) 98 84) v3) 98 84 + 1 ∧ (zup (zup σ 163 (σ 98 84) v2) 164 ((zup σ 163 (σ 98 84) v2) 98 84) v3) 98 84 + 1 < (2147483648 : Int) := k4 h1 h2
      refine z_iaddN dX12_reads_264 s4 ?_
      refine z_putI (k := 84) fpRX12_327 rfl rfl dX12_reads_265 ?_
      refine z_iconst dX12_reads_268 (by unfold zIn; decide) ?_
      exact z_iretz rfl (by decide) dX12_reads_269 (k5 h1 h2)
    · skip
      refine z_iconst dX12_reads_236 (by unfold zIn; decide) ?_
      exact z_iretz rfl (by decide) dX12_reads_237 (k6 h1 h2)
  refine z_bipush (x := 48) dX12_reads_173 (by decide +kernel) (by unfold zIn; decide) ?_
  refine z_icmp_lt dX12_reads_175 (tgt := 231) (by decide) (fun h1 => ?_) (fun h1 => ?_)
  · skip
    exact J231 h1
  · skip
    refine z_aload_n dX12_reads_178 rfl rfl ?_
    refine z_callv (as := []) (st := []) mkX12_letter lkRX12_323 rfl rfl rfl (by decide) (Nat.le_of_ble_eq_true rfl) rfl dX12_reads_179 (k1 h1)
set_option maxRecDepth 20000 in
set_option maxHeartbeats 1000000 in
theorem TX12_reads_182 {G : zG} {σ : zS} {Q : Int → zS → Prop} {v1 v2 v3 v4 r : Int}  (k1 : (r ≤ 57) → (v4 < 4) → (v4 ≤ 0 ∨ (0 < v4 ∧ v3 ≠ 0)) → -2147483648 ≤ 10 * v3 ∧ 10 * v3 < (2147483648 : Int)) (k2 : (r ≤ 57) → (v4 < 4) → (v4 ≤ 0 ∨ (0 < v4 ∧ v3 ≠ 0)) → zO G MX12_letter [zr 98] σ (fun rr σ' => zR G MX12_reads 210 [zr 98, zi v1, zi v2, zi v3, zi v4] [zi rr, zi (10 * v3)] σ' Q)) (k3 : (57 < r ∨ (r ≤ 57 ∧ 4 ≤ v4) ∨ (r ≤ 57 ∧ v4 < 4 ∧ 0 < v4 ∧ v3 = 0)) → (v4 ≠ 0) → (0 : Int) ≤ σ 98 84 ∧ σ 98 84 < (110 : Int)) (k4 : (57 < r ∨ (r ≤ 57 ∧ 4 ≤ v4) ∨ (r ≤ 57 ∧ v4 < 4 ∧ 0 < v4 ∧ v3 = 0)) → (v4 ≠ 0) → (0 : Int) ≤ (zup σ 163 (σ 98 84) v2) 98 84 ∧ (zup σ 163 (σ 98 84) v2) 98 84 < (110 : Int)) (k5 : (57 < r ∨ (r ≤ 57 ∧ 4 ≤ v4) ∨ (r ≤ 57 ∧ v4 < 4 ∧ 0 < v4 ∧ v3 = 0)) → (v4 ≠ 0) → -2147483648 ≤ (zup (zup σ 163 (σ 98 84) v2) 164 ((zup σ 163 (σ 98 84) v2) 98 84) v3) 98 84 + 1 ∧ (zup (zup σ 163 (σ 98 84) v2) 164 ((zup σ 163 (σ 98 84) v2) 98 84) v3) 98 84 + 1 < (2147483648 : Int)) (k6 : (57 < r ∨ (r ≤ 57 ∧ 4 ≤ v4) ∨ (r ≤ 57 ∧ v4 < 4 ∧ 0 < v4 ∧ v3 = 0)) → (v4 ≠ 0) → Q 1 (zup (zup (zup σ 163 (σ 98 84) v2) 164 ((zup σ 163 (σ 98 84) v2) 98 84) v3) 98 84 ((zup (zup σ 163 (σ 98 84) v2) 164 ((zup σ 163 (σ 98 84) v2) 98 84) v3) 98 84 + 1))) (k7 : (57 < r ∨ (r ≤ 57 ∧ 4 ≤ v4) ∨ (r ≤ 57 ∧ v4 < 4 ∧ 0 < v4 ∧ v3 = 0)) → (v4 = 0) → Q 0 σ) : zR G MX12_reads 182 [zr 98, zi v1, zi v2, zi v3, zi v4] [zi r] σ Q := by
  have J231 : (57 < r ∨ (r ≤ 57 ∧ 4 ≤ v4) ∨ (r ≤ 57 ∧ v4 < 4 ∧ 0 < v4 ∧ v3 = 0)) → zR G MX12_reads 231 [zr 98, zi v1, zi v2, zi v3, zi v4] [] σ Q := by
    intro h6
    refine z_iload dX12_reads_231 rfl ?_
    refine z_if_ne dX12_reads_233 (tgt := 238) (by decide) (fun h7 => ?_) (fun h7 => ?_)
    · skip
      refine z_aload_n dX12_reads_238 rfl rfl ?_
      refine z_getfR (k := 79) flRX12_208 rfl rfl dX12_reads_239 ?_
      refine z_aload_n dX12_reads_242 rfl rfl ?_
      refine z_getfI (k := 84) flRX12_327 rfl rfl dX12_reads_243 ?_
      refine z_iload_n dX12_reads_246 rfl rfl ?_
      have s3 : (0 : Int) ≤ σ 98 84 ∧ σ 98 84 < (110 : Int) := k3 h6 h7
      refine z_iast rfl s3.1 s3.2 dX12_reads_247 ?_
      refine z_aload_n dX12_reads_248 rfl rfl ?_
      refine z_getfR (k := 80) flRX12_211 rfl rfl dX12_reads_249 ?_
      refine z_aload_n dX12_reads_252 rfl rfl ?_
      refine z_getfI (k := 84) flRX12_327 rfl rfl dX12_reads_253 ?_
      refine z_iload_n dX12_reads_256 rfl rfl ?_
      have s4 : (0 : Int) ≤ (zup σ 163 (σ 98 84) v2) 98 84 ∧ (zup σ 163 (σ 98 84) v2) 98 84 < (110 : Int) := k4 h6 h7
      refine z_iast rfl s4.1 s4.2 dX12_reads_257 ?_
      refine z_aload_n dX12_reads_258 rfl rfl ?_
      refine z_dup dX12_reads_259 rfl ?_
      refine z_getfI (k := 84) flRX12_327 rfl rfl dX12_reads_260 ?_
      refine z_iconst dX12_reads_263 (by unfold zIn; decide) ?_
      have s5 : -2147483648 ≤ (zup (zup σ 163 (σ 98 84) v2) 164 ((zup σ 163 (σ 98 84) v2) 98 84) v3) 98 84 + 1 ∧ (zup (zup σ 163 (σ 98 84) v2) 164 ((zup σ 163 (σ 98 84) v2) 98 84) v3) 98 84 + 1 < (2147483648 : Int) := k5 h6 h7
      refine z_iaddN dX12_reads_264 s5 ?_
      refine z_putI (k := 84) fpRX12_327 rfl rfl dX12_reads_265 ?_
      refine z_iconst dX12_reads_268 (by unfold zIn; decide) ?_
      exact z_iretz rfl (by decide) dX12_reads_269 (k6 h6 h7)
    · skip
      refine z_iconst dX12_reads_236 (by unfold zIn; decide) ?_
      exact z_iretz rfl (by decide) dX12_reads_237 (k7 h6 h7)
  have J202 : (r ≤ 57) → (v4 < 4) → (v4 ≤ 0 ∨ (0 < v4 ∧ v3 ≠ 0)) → zR G MX12_reads 202 [zr 98, zi v1, zi v2, zi v3, zi v4] [] σ Q := by
    intro h1 h2 h5
    refine z_bipush (x := 10) dX12_reads_202 (by decide +kernel) (by unfold zIn; decide) ?_
    refine z_iload_n dX12_reads_204 rfl rfl ?_
    have s1 : -2147483648 ≤ 10 * v3 ∧ 10 * v3 < (2147483648 : Int) := k1 h1 h2 h5
    refine z_imulN dX12_reads_205 s1 ?_
    refine z_aload_n dX12_reads_206 rfl rfl ?_
    refine z_callv (as := []) (st := [zi (10 * v3)]) mkX12_letter lkRX12_323 rfl rfl rfl (by decide) (Nat.le_of_ble_eq_true rfl) rfl dX12_reads_207 (k2 h1 h2 h5)
  refine z_bipush (x := 57) dX12_reads_182 (by decide +kernel) (by unfold zIn; decide) ?_
  refine z_icmp_gt dX12_reads_184 (tgt := 231) (by decide) (fun h1 => ?_) (fun h1 => ?_)
  · skip
    exact J231 (Or.inl h1)
  · skip
    refine z_iload dX12_reads_187 rfl ?_
    refine z_iconst dX12_reads_189 (by unfold zIn; decide) ?_
    refine z_icmp_ge dX12_reads_190 (tgt := 231) (by decide) (fun h2 => ?_) (fun h2 => ?_)
    · skip
      exact J231 (Or.inr (Or.inl ⟨h1, h2⟩))
    · skip
      refine z_iload dX12_reads_193 rfl ?_
      refine z_if_le dX12_reads_195 (tgt := 202) (by decide) (fun h3 => ?_) (fun h3 => ?_)
      · skip
        exact J202 h1 h2 (Or.inl h3)
      · skip
        refine z_iload_n dX12_reads_198 rfl rfl ?_
        refine z_if_eq dX12_reads_199 (tgt := 231) (by decide) (fun h4 => ?_) (fun h4 => ?_)
        · skip
          exact J231 (Or.inr (Or.inr ⟨h1, h2, h3, h4⟩))
        · skip
          exact J202 h1 h2 (Or.inr ⟨h3, h4⟩)
set_option maxRecDepth 20000 in
set_option maxHeartbeats 1000000 in
theorem TX12_reads_210 {G : zG} {σ : zS} {Q : Int → zS → Prop} {v1 v2 v3 v4 r t1 : Int}  (k1 : -2147483648 ≤ t1 + r ∧ t1 + r < (2147483648 : Int)) (k2 : -2147483648 ≤ (t1 + r) - 48 ∧ (t1 + r) - 48 < (2147483648 : Int)) (k3 : -2147483648 ≤ v4 + 1 ∧ v4 + 1 < (2147483648 : Int)) (k4 : -2147483648 ≤ σ 98 87 + 1 ∧ σ 98 87 + 1 < (2147483648 : Int)) (k5 : zR G MX12_reads 158 [zr 98, zi v1, zi v2, zi ((t1 + r) - 48), zi (v4 + 1)] [] (zup σ 98 87 (σ 98 87 + 1)) Q) : zR G MX12_reads 210 [zr 98, zi v1, zi v2, zi v3, zi v4] [zi r, zi t1] σ Q := by
  have s1 : -2147483648 ≤ t1 + r ∧ t1 + r < (2147483648 : Int) := k1
  refine z_iaddN dX12_reads_210 s1 ?_
  refine z_bipush (x := 48) dX12_reads_211 (by decide +kernel) (by unfold zIn; decide) ?_
  have s2 : -2147483648 ≤ (t1 + r) - 48 ∧ (t1 + r) - 48 < (2147483648 : Int) := k2
  refine z_isubN dX12_reads_213 s2 ?_
  refine z_istore_n (ls' := [zr 98, zi v1, zi v2, zi ((t1 + r) - 48), zi v4]) dX12_reads_214 rfl (by decide) rfl ?_
  have s3 : -2147483648 ≤ v4 + 1 ∧ v4 + 1 < (2147483648 : Int) := k3
  refine z_iincN (ls' := [zr 98, zi v1, zi v2, zi ((t1 + r) - 48), zi (v4 + 1)]) dX12_reads_215 rfl (by decide) s3 rfl ?_
  refine z_aload_n dX12_reads_218 rfl rfl ?_
  refine z_dup dX12_reads_219 rfl ?_
  refine z_getfI (k := 87) flRX12_320 rfl rfl dX12_reads_220 ?_
  refine z_iconst dX12_reads_223 (by unfold zIn; decide) ?_
  have s4 : -2147483648 ≤ σ 98 87 + 1 ∧ σ 98 87 + 1 < (2147483648 : Int) := k4
  refine z_iaddN dX12_reads_224 s4 ?_
  refine z_putI (k := 87) fpRX12_320 rfl rfl dX12_reads_225 ?_
  refine z_goto dX12_reads_228 (tgt := 158) (by decide) ?_
  exact k5
set_option maxRecDepth 20000 in
set_option maxHeartbeats 1000000 in
theorem TX12_closes {G : zG} {σ : zS} {Q : Int → zS → Prop}  (k1 : zR G MX12_closes 0 [zr 98] [] σ Q) : zO G MX12_closes [zr 98] σ Q := zO_of (by decide) (Nat.le_of_ble_eq_true rfl) rfl k1
set_option maxRecDepth 20000 in
set_option maxHeartbeats 1000000 in
theorem TX12_closes_0 {G : zG} {σ : zS} {Q : Int → zS → Prop}  (k1 : (0 < σ 98 86) → -2147483648 ≤ σ 98 86 - 1 ∧ σ 98 86 - 1 < (2147483648 : Int)) (k2 : (0 < σ 98 86) → (0 : Int) ≤ σ 98 86 - 1 ∧ σ 98 86 - 1 < (300 : Int)) (k3 : (0 < σ 98 86) → (σ 166 (σ 98 86 - 1) = 33) → -2147483648 ≤ ((zup σ 98 86 (σ 98 86 - 1)) 98 88) - 1 ∧ ((zup σ 98 86 (σ 98 86 - 1)) 98 88) - 1 < (2147483648 : Int)) (k4 : (0 < σ 98 86) → (σ 166 (σ 98 86 - 1) = 33) → -2147483648 ≤ ((zup (zup σ 98 86 (σ 98 86 - 1)) 98 88 (((zup σ 98 86 (σ 98 86 - 1)) 98 88) - 1)) 98 85) + 1 ∧ ((zup (zup σ 98 86 (σ 98 86 - 1)) 98 88 (((zup σ 98 86 (σ 98 86 - 1)) 98 88) - 1)) 98 85) + 1 < (2147483648 : Int)) (k5 : (0 < σ 98 86) → (σ 166 (σ 98 86 - 1) = 33) → (0 : Int) ≤ (zup (zup σ 98 86 (σ 98 86 - 1)) 98 88 (((zup σ 98 86 (σ 98 86 - 1)) 98 88) - 1)) 98 85 ∧ (zup (zup σ 98 86 (σ 98 86 - 1)) 98 88 (((zup σ 98 86 (σ 98 86 - 1)) 98 88) - 1)) 98 85 < (500 : Int)) (k6 : (0 < σ 98 86) → (σ 166 (σ 98 86 - 1) = 33) → zR G MX12_closes 0 [zr 98] [] (zup (zup (zup (zup σ 98 86 (σ 98 86 - 1)) 98 88 (((zup σ 98 86 (σ 98 86 - 1)) 98 88) - 1)) 98 85 (((zup (zup σ 98 86 (σ 98 86 - 1)) 98 88 (((zup σ 98 86 (σ 98 86 - 1)) 98 88) - 1)) 98 85) + 1)) 165 ((zup (zup σ 98 86 (σ 98 86 - 1)) 98 88 (((zup σ 98 86 (σ 98 86 - 1)) 98 88) - 1)) 98 85) (-1)) Q) (k7 : (σ 98 86 ≤ 0 ∨ (0 < σ 98 86 ∧ σ 166 (σ 98 86 - 1) ≠ 33)) → Q 0 σ) : zR G MX12_closes 0 [zr 98] [] σ Q := by
  have J63 : (σ 98 86 ≤ 0 ∨ (0 < σ 98 86 ∧ σ 166 (σ 98 86 - 1) ≠ 33)) → zR G MX12_closes 63 [zr 98] [] σ Q := by
    intro h3
    exact z_vret rfl dX12_closes_63 (k7 h3)
  refine z_aload_n dX12_closes_0 rfl rfl ?_
  refine z_getfI (k := 86) flRX12_330 rfl rfl dX12_closes_1 ?_
  refine z_if_le dX12_closes_4 (tgt := 63) (by decide) (fun h1 => ?_) (fun h1 => ?_)
  · skip
    exact J63 (Or.inl h1)
  · skip
    refine z_aload_n dX12_closes_7 rfl rfl ?_
    refine z_getfR (k := 82) flRX12_217 rfl rfl dX12_closes_8 ?_
    refine z_aload_n dX12_closes_11 rfl rfl ?_
    refine z_getfI (k := 86) flRX12_330 rfl rfl dX12_closes_12 ?_
    refine z_iconst dX12_closes_15 (by unfold zIn; decide) ?_
    have s1 : -2147483648 ≤ σ 98 86 - 1 ∧ σ 98 86 - 1 < (2147483648 : Int) := k1 h1
    refine z_isubN dX12_closes_16 s1 ?_
    have s2 : (0 : Int) ≤ σ 98 86 - 1 ∧ σ 98 86 - 1 < (300 : Int) := k2 h1
    refine z_iald rfl s2.1 s2.2 dX12_closes_17 ?_
    refine z_bipush (x := 33) dX12_closes_18 (by decide +kernel) (by unfold zIn; decide) ?_
    refine z_icmp_ne dX12_closes_20 (tgt := 63) (by decide) (fun h2 => ?_) (fun h2 => ?_)
    · skip
      exact J63 (Or.inr ⟨h1, h2⟩)
    · skip
      refine z_aload_n dX12_closes_23 rfl rfl ?_
      refine z_dup dX12_closes_24 rfl ?_
      refine z_getfI (k := 86) flRX12_330 rfl rfl dX12_closes_25 ?_
      refine z_iconst dX12_closes_28 (by unfold zIn; decide) ?_
      refine z_isubN dX12_closes_29 s1 ?_
      refine z_putI (k := 86) fpRX12_330 rfl rfl dX12_closes_30 ?_
      refine z_aload_n dX12_closes_33 rfl rfl ?_
      refine z_dup dX12_closes_34 rfl ?_
      refine z_getfI (k := 88) flRX12_333 rfl rfl dX12_closes_35 ?_
      refine z_iconst dX12_closes_38 (by unfold zIn; decide) ?_
      have s3 : -2147483648 ≤ ((zup σ 98 86 (σ 98 86 - 1)) 98 88) - 1 ∧ ((zup σ 98 86 (σ 98 86 - 1)) 98 88) - 1 < (2147483648 : Int) := k3 h1 h2
      refine z_isubN dX12_closes_39 s3 ?_
      refine z_putI (k := 88) fpRX12_333 rfl rfl dX12_closes_40 ?_
      refine z_aload_n dX12_closes_43 rfl rfl ?_
      refine z_getfR (k := 81) flRX12_214 rfl rfl dX12_closes_44 ?_
      refine z_aload_n dX12_closes_47 rfl rfl ?_
      refine z_dup dX12_closes_48 rfl ?_
      refine z_getfI (k := 85) flRX12_336 rfl rfl dX12_closes_49 ?_
      refine z_dup_x1 dX12_closes_52 rfl rfl ?_
      refine z_iconst dX12_closes_53 (by unfold zIn; decide) ?_
      have s4 : -2147483648 ≤ ((zup (zup σ 98 86 (σ 98 86 - 1)) 98 88 (((zup σ 98 86 (σ 98 86 - 1)) 98 88) - 1)) 98 85) + 1 ∧ ((zup (zup σ 98 86 (σ 98 86 - 1)) 98 88 (((zup σ 98 86 (σ 98 86 - 1)) 98 88) - 1)) 98 85) + 1 < (2147483648 : Int) := k4 h1 h2
      refine z_iaddN dX12_closes_54 s4 ?_
      refine z_putI (k := 85) fpRX12_336 rfl rfl dX12_closes_55 ?_
      refine z_iconst dX12_closes_58 (by unfold zIn; decide) ?_
      have s5 : (0 : Int) ≤ (zup (zup σ 98 86 (σ 98 86 - 1)) 98 88 (((zup σ 98 86 (σ 98 86 - 1)) 98 88) - 1)) 98 85 ∧ (zup (zup σ 98 86 (σ 98 86 - 1)) 98 88 (((zup σ 98 86 (σ 98 86 - 1)) 98 88) - 1)) 98 85 < (500 : Int) := k5 h1 h2
      refine z_iast rfl s5.1 s5.2 dX12_closes_59 ?_
      refine z_goto dX12_closes_60 (tgt := 0) (by decide) ?_
      exact k6 h1 h2
set_option maxRecDepth 20000 in
set_option maxHeartbeats 1000000 in
theorem TX12_pops {G : zG} {σ : zS} {Q : Int → zS → Prop} {a1 : Int}  (k1 : zR G MX12_pops 0 [zr 98, zi a1] [] σ Q) : zO G MX12_pops [zr 98, zi a1] σ Q := zO_of (by decide) (Nat.le_of_ble_eq_true rfl) rfl k1
set_option maxRecDepth 20000 in
set_option maxHeartbeats 1000000 in
theorem TX12_pops_0 {G : zG} {σ : zS} {Q : Int → zS → Prop} {v1 : Int}  (k1 : (0 < σ 98 86) → -2147483648 ≤ σ 98 86 - 1 ∧ σ 98 86 - 1 < (2147483648 : Int)) (k2 : (0 < σ 98 86) → (0 : Int) ≤ σ 98 86 - 1 ∧ σ 98 86 - 1 < (300 : Int)) (k3 : (0 < σ 98 86) → (σ 166 (σ 98 86 - 1) = 38 ∨ (σ 166 (σ 98 86 - 1) ≠ 38 ∧ σ 166 (σ 98 86 - 1) = 124 ∧ v1 ≠ 38)) → -2147483648 ≤ σ 98 86 - 1 ∧ σ 98 86 - 1 < (2147483648 : Int)) (k4 : (0 < σ 98 86) → (σ 166 (σ 98 86 - 1) = 38 ∨ (σ 166 (σ 98 86 - 1) ≠ 38 ∧ σ 166 (σ 98 86 - 1) = 124 ∧ v1 ≠ 38)) → -2147483648 ≤ ((zup σ 98 86 (σ 98 86 - 1)) 98 85) + 1 ∧ ((zup σ 98 86 (σ 98 86 - 1)) 98 85) + 1 < (2147483648 : Int)) (k5 : (0 < σ 98 86) → (σ 166 (σ 98 86 - 1) = 38 ∨ (σ 166 (σ 98 86 - 1) ≠ 38 ∧ σ 166 (σ 98 86 - 1) = 124 ∧ v1 ≠ 38)) → (0 : Int) ≤ (zup (zup σ 98 86 (σ 98 86 - 1)) 98 85 (((zup σ 98 86 (σ 98 86 - 1)) 98 85) + 1)) 98 86 ∧ (zup (zup σ 98 86 (σ 98 86 - 1)) 98 85 (((zup σ 98 86 (σ 98 86 - 1)) 98 85) + 1)) 98 86 < (300 : Int)) (k6 : (0 < σ 98 86) → (σ 166 (σ 98 86 - 1) = 38 ∨ (σ 166 (σ 98 86 - 1) ≠ 38 ∧ σ 166 (σ 98 86 - 1) = 124 ∧ v1 ≠ 38)) → ((zup (zup σ 98 86 (σ 98 86 - 1)) 98 85 (((zup σ 98 86 (σ 98 86 - 1)) 98 85) + 1)) 166 ((zup (zup σ 98 86 (σ 98 86 - 1)) 98 85 (((zup σ 98 86 (σ 98 86 - 1)) 98 85) + 1)) 98 86) ≠ 38) → (0 : Int) ≤ (zup σ 98 86 (σ 98 86 - 1)) 98 85 ∧ (zup σ 98 86 (σ 98 86 - 1)) 98 85 < (500 : Int)) (k7 : (0 < σ 98 86) → (σ 166 (σ 98 86 - 1) = 38 ∨ (σ 166 (σ 98 86 - 1) ≠ 38 ∧ σ 166 (σ 98 86 - 1) = 124 ∧ v1 ≠ 38)) → ((zup (zup σ 98 86 (σ 98 86 - 1)) 98 85 (((zup σ 98 86 (σ 98 86 - 1)) 98 85) + 1)) 166 ((zup (zup σ 98 86 (σ 98 86 - 1)) 98 85 (((zup σ 98 86 (σ 98 86 - 1)) 98 85) + 1)) 98 86) ≠ 38) → zR G MX12_pops 0 [zr 98, zi v1] [] (zup (zup (zup σ 98 86 (σ 98 86 - 1)) 98 85 (((zup σ 98 86 (σ 98 86 - 1)) 98 85) + 1)) 165 ((zup σ 98 86 (σ 98 86 - 1)) 98 85) (-3)) Q) (k8 : (0 < σ 98 86) → (σ 166 (σ 98 86 - 1) = 38 ∨ (σ 166 (σ 98 86 - 1) ≠ 38 ∧ σ 166 (σ 98 86 - 1) = 124 ∧ v1 ≠ 38)) → ((zup (zup σ 98 86 (σ 98 86 - 1)) 98 85 (((zup σ 98 86 (σ 98 86 - 1)) 98 85) + 1)) 166 ((zup (zup σ 98 86 (σ 98 86 - 1)) 98 85 (((zup σ 98 86 (σ 98 86 - 1)) 98 85) + 1)) 98 86) = 38) → (0 : Int) ≤ (zup σ 98 86 (σ 98 86 - 1)) 98 85 ∧ (zup σ 98 86 (σ 98 86 - 1)) 98 85 < (500 : Int)) (k9 : (0 < σ 98 86) → (σ 166 (σ 98 86 - 1) = 38 ∨ (σ 166 (σ 98 86 - 1) ≠ 38 ∧ σ 166 (σ 98 86 - 1) = 124 ∧ v1 ≠ 38)) → ((zup (zup σ 98 86 (σ 98 86 - 1)) 98 85 (((zup σ 98 86 (σ 98 86 - 1)) 98 85) + 1)) 166 ((zup (zup σ 98 86 (σ 98 86 - 1)) 98 85 (((zup σ 98 86 (σ 98 86 - 1)) 98 85) + 1)) 98 86) = 38) → zR G MX12_pops 0 [zr 98, zi v1] [] (zup (zup (zup σ 98 86 (σ 98 86 - 1)) 98 85 (((zup σ 98 86 (σ 98 86 - 1)) 98 85) + 1)) 165 ((zup σ 98 86 (σ 98 86 - 1)) 98 85) (-2)) Q) (k10 : (σ 98 86 ≤ 0 ∨ (0 < σ 98 86 ∧ σ 166 (σ 98 86 - 1) ≠ 38 ∧ σ 166 (σ 98 86 - 1) ≠ 124) ∨ (0 < σ 98 86 ∧ σ 166 (σ 98 86 - 1) ≠ 38 ∧ σ 166 (σ 98 86 - 1) = 124 ∧ v1 = 38)) → Q 0 σ) : zR G MX12_pops 0 [zr 98, zi v1] [] σ Q := by
  have J95 : (σ 98 86 ≤ 0 ∨ (0 < σ 98 86 ∧ σ 166 (σ 98 86 - 1) ≠ 38 ∧ σ 166 (σ 98 86 - 1) ≠ 124) ∨ (0 < σ 98 86 ∧ σ 166 (σ 98 86 - 1) ≠ 38 ∧ σ 166 (σ 98 86 - 1) = 124 ∧ v1 = 38)) → zR G MX12_pops 95 [zr 98, zi v1] [] σ Q := by
    intro h7
    exact z_vret rfl dX12_pops_95 (k10 h7)
  have J45 : (0 < σ 98 86) → (σ 166 (σ 98 86 - 1) = 38 ∨ (σ 166 (σ 98 86 - 1) ≠ 38 ∧ σ 166 (σ 98 86 - 1) = 124 ∧ v1 ≠ 38)) → zR G MX12_pops 45 [zr 98, zi v1] [] σ Q := by
    intro h1 h5
    refine z_aload_n dX12_pops_45 rfl rfl ?_
    refine z_dup dX12_pops_46 rfl ?_
    refine z_getfI (k := 86) flRX12_330 rfl rfl dX12_pops_47 ?_
    refine z_iconst dX12_pops_50 (by unfold zIn; decide) ?_
    have s3 : -2147483648 ≤ σ 98 86 - 1 ∧ σ 98 86 - 1 < (2147483648 : Int) := k3 h1 h5
    refine z_isubN dX12_pops_51 s3 ?_
    refine z_putI (k := 86) fpRX12_330 rfl rfl dX12_pops_52 ?_
    refine z_aload_n dX12_pops_55 rfl rfl ?_
    refine z_getfR (k := 81) flRX12_214 rfl rfl dX12_pops_56 ?_
    refine z_aload_n dX12_pops_59 rfl rfl ?_
    refine z_dup dX12_pops_60 rfl ?_
    refine z_getfI (k := 85) flRX12_336 rfl rfl dX12_pops_61 ?_
    refine z_dup_x1 dX12_pops_64 rfl rfl ?_
    refine z_iconst dX12_pops_65 (by unfold zIn; decide) ?_
    have s4 : -2147483648 ≤ ((zup σ 98 86 (σ 98 86 - 1)) 98 85) + 1 ∧ ((zup σ 98 86 (σ 98 86 - 1)) 98 85) + 1 < (2147483648 : Int) := k4 h1 h5
    refine z_iaddN dX12_pops_66 s4 ?_
    refine z_putI (k := 85) fpRX12_336 rfl rfl dX12_pops_67 ?_
    refine z_aload_n dX12_pops_70 rfl rfl ?_
    refine z_getfR (k := 82) flRX12_217 rfl rfl dX12_pops_71 ?_
    refine z_aload_n dX12_pops_74 rfl rfl ?_
    refine z_getfI (k := 86) flRX12_330 rfl rfl dX12_pops_75 ?_
    have s5 : (0 : Int) ≤ (zup (zup σ 98 86 (σ 98 86 - 1)) 98 85 (((zup σ 98 86 (σ 98 86 - 1)) 98 85) + 1)) 98 86 ∧ (zup (zup σ 98 86 (σ 98 86 - 1)) 98 85 (((zup σ 98 86 (σ 98 86 - 1)) 98 85) + 1)) 98 86 < (300 : Int) := k5 h1 h5
    refine z_iald rfl s5.1 s5.2 dX12_pops_78 ?_
    refine z_bipush (x := 38) dX12_pops_79 (by decide +kernel) (by unfold zIn; decide) ?_
    refine z_icmp_ne dX12_pops_81 (tgt := 89) (by decide) (fun h6 => ?_) (fun h6 => ?_)
    · skip
      refine z_bipush (x := (-3)) dX12_pops_89 (by decide +kernel) (by unfold zIn; decide) ?_
      have s6 : (0 : Int) ≤ (zup σ 98 86 (σ 98 86 - 1)) 98 85 ∧ (zup σ 98 86 (σ 98 86 - 1)) 98 85 < (500 : Int) := k6 h1 h5 h6
      refine z_iast rfl s6.1 s6.2 dX12_pops_91 ?_
      refine z_goto dX12_pops_92 (tgt := 0) (by decide) ?_
      exact k7 h1 h5 h6
    · skip
      refine z_bipush (x := (-2)) dX12_pops_84 (by decide +kernel) (by unfold zIn; decide) ?_
      refine z_goto dX12_pops_86 (tgt := 91) (by decide) ?_
      have s8 : (0 : Int) ≤ (zup σ 98 86 (σ 98 86 - 1)) 98 85 ∧ (zup σ 98 86 (σ 98 86 - 1)) 98 85 < (500 : Int) := k8 h1 h5 h6
      refine z_iast rfl s8.1 s8.2 dX12_pops_91 ?_
      refine z_goto dX12_pops_92 (tgt := 0) (by decide) ?_
      exact k9 h1 h5 h6
  refine z_aload_n dX12_pops_0 rfl rfl ?_
  refine z_getfI (k := 86) flRX12_330 rfl rfl dX12_pops_1 ?_
  refine z_if_le dX12_pops_4 (tgt := 95) (by decide) (fun h1 => ?_) (fun h1 => ?_)
  · skip
    exact J95 (Or.inl h1)
  · skip
    refine z_aload_n dX12_pops_7 rfl rfl ?_
    refine z_getfR (k := 82) flRX12_217 rfl rfl dX12_pops_8 ?_
    refine z_aload_n dX12_pops_11 rfl rfl ?_
    refine z_getfI (k := 86) flRX12_330 rfl rfl dX12_pops_12 ?_
    refine z_iconst dX12_pops_15 (by unfold zIn; decide) ?_
    have s1 : -2147483648 ≤ σ 98 86 - 1 ∧ σ 98 86 - 1 < (2147483648 : Int) := k1 h1
    refine z_isubN dX12_pops_16 s1 ?_
    have s2 : (0 : Int) ≤ σ 98 86 - 1 ∧ σ 98 86 - 1 < (300 : Int) := k2 h1
    refine z_iald rfl s2.1 s2.2 dX12_pops_17 ?_
    refine z_bipush (x := 38) dX12_pops_18 (by decide +kernel) (by unfold zIn; decide) ?_
    refine z_icmp_eq dX12_pops_20 (tgt := 45) (by decide) (fun h2 => ?_) (fun h2 => ?_)
    · skip
      exact J45 h1 (Or.inl h2)
    · skip
      refine z_aload_n dX12_pops_23 rfl rfl ?_
      refine z_getfR (k := 82) flRX12_217 rfl rfl dX12_pops_24 ?_
      refine z_aload_n dX12_pops_27 rfl rfl ?_
      refine z_getfI (k := 86) flRX12_330 rfl rfl dX12_pops_28 ?_
      refine z_iconst dX12_pops_31 (by unfold zIn; decide) ?_
      refine z_isubN dX12_pops_32 s1 ?_
      refine z_iald rfl s2.1 s2.2 dX12_pops_33 ?_
      refine z_bipush (x := 124) dX12_pops_34 (by decide +kernel) (by unfold zIn; decide) ?_
      refine z_icmp_ne dX12_pops_36 (tgt := 95) (by decide) (fun h3 => ?_) (fun h3 => ?_)
      · skip
        exact J95 (Or.inr (Or.inl ⟨h1, h2, h3⟩))
      · skip
        refine z_iload_n dX12_pops_39 rfl rfl ?_
        refine z_bipush (x := 38) dX12_pops_40 (by decide +kernel) (by unfold zIn; decide) ?_
        refine z_icmp_eq dX12_pops_42 (tgt := 95) (by decide) (fun h4 => ?_) (fun h4 => ?_)
        · skip
          exact J95 (Or.inr (Or.inr ⟨h1, h2, h3, h4⟩))
        · skip
          exact J45 h1 (Or.inr ⟨h2, h3, h4⟩)
set_option maxRecDepth 20000 in
set_option maxHeartbeats 1000000 in
theorem TX12_compiles {G : zG} {σ : zS} {Q : Int → zS → Prop}  (k1 : zR G MX12_compiles 29 [zr 98, zi 0, zi 1, zu] [] (zup (zup (zup (zup (zup σ 98 84 0) 98 85 0) 98 86 0) 98 87 0) 98 88 0) Q) : zO G MX12_compiles [zr 98] σ Q := by
  refine zO_of (ls0 := [zr 98, zu, zu, zu]) (by decide) (Nat.le_of_ble_eq_true rfl) rfl ?_
  refine z_aload_n dX12_compiles_0 rfl rfl ?_
  refine z_iconst dX12_compiles_1 (by unfold zIn; decide) ?_
  refine z_putI (k := 84) fpRX12_327 rfl rfl dX12_compiles_2 ?_
  refine z_aload_n dX12_compiles_5 rfl rfl ?_
  refine z_iconst dX12_compiles_6 (by unfold zIn; decide) ?_
  refine z_putI (k := 85) fpRX12_336 rfl rfl dX12_compiles_7 ?_
  refine z_aload_n dX12_compiles_10 rfl rfl ?_
  refine z_iconst dX12_compiles_11 (by unfold zIn; decide) ?_
  refine z_putI (k := 86) fpRX12_330 rfl rfl dX12_compiles_12 ?_
  refine z_aload_n dX12_compiles_15 rfl rfl ?_
  refine z_iconst dX12_compiles_16 (by unfold zIn; decide) ?_
  refine z_putI (k := 87) fpRX12_320 rfl rfl dX12_compiles_17 ?_
  refine z_aload_n dX12_compiles_20 rfl rfl ?_
  refine z_iconst dX12_compiles_21 (by unfold zIn; decide) ?_
  refine z_putI (k := 88) fpRX12_333 rfl rfl dX12_compiles_22 ?_
  refine z_iconst dX12_compiles_25 (by unfold zIn; decide) ?_
  refine z_istore_n (ls' := [zr 98, zi 0, zu, zu]) dX12_compiles_26 rfl (by decide) rfl ?_
  refine z_iconst dX12_compiles_27 (by unfold zIn; decide) ?_
  refine z_istore_n (ls' := [zr 98, zi 0, zi 1, zu]) dX12_compiles_28 rfl (by decide) rfl ?_
  exact k1
set_option maxRecDepth 20000 in
set_option maxHeartbeats 1000000 in
theorem TX12_compiles_29 {G : zG} {σ : zS} {Q : Int → zS → Prop} {v1 v2 : Int}  (k1 : (σ 98 43 ≤ σ 98 87) → (v2 = 0) → (v1 ≤ 0) → zO G MX12_pops [zr 98, zi 124] σ (fun rr σ' => zR G MX12_compiles 303 [zr 98, zi v1, zi v2, zu] [] σ' Q)) (k2 : (σ 98 87 < σ 98 43) → zO G MX12_letter [zr 98] σ (fun rr σ' => zR G MX12_compiles 44 [zr 98, zi v1, zi v2, zu] [zi rr] σ' Q)) (k3 : (σ 98 43 ≤ σ 98 87) → (v2 ≠ 0 ∨ (v2 = 0 ∧ 0 < v1)) → Q (σ 98 43) σ) : zR G MX12_compiles 29 [zr 98, zi v1, zi v2, zu] [] σ Q := by
  have J292 : (σ 98 43 ≤ σ 98 87) → (v2 ≠ 0 ∨ (v2 = 0 ∧ 0 < v1)) → zR G MX12_compiles 292 [zr 98, zi v1, zi v2, zu] [] σ Q := by
    intro h1 h4
    refine z_aload_n dX12_compiles_292 rfl rfl ?_
    refine z_getfI (k := 43) flRX12_306 rfl rfl dX12_compiles_293 ?_
    exact z_ireti rfl dX12_compiles_296 (k3 h1 h4)
  refine z_aload_n dX12_compiles_29 rfl rfl ?_
  refine z_getfI (k := 87) flRX12_320 rfl rfl dX12_compiles_30 ?_
  refine z_aload_n dX12_compiles_33 rfl rfl ?_
  refine z_getfI (k := 43) flRX12_306 rfl rfl dX12_compiles_34 ?_
  refine z_icmp_ge dX12_compiles_37 (tgt := 284) (by decide) (fun h1 => ?_) (fun h1 => ?_)
  · skip
    refine z_iload_n dX12_compiles_284 rfl rfl ?_
    refine z_if_ne dX12_compiles_285 (tgt := 292) (by decide) (fun h2 => ?_) (fun h2 => ?_)
    · skip
      exact J292 h1 (Or.inl h2)
    · skip
      refine z_iload_n dX12_compiles_288 rfl rfl ?_
      refine z_if_le dX12_compiles_289 (tgt := 297) (by decide) (fun h3 => ?_) (fun h3 => ?_)
      · skip
        refine z_aload_n dX12_compiles_297 rfl rfl ?_
        refine z_bipush (x := 124) dX12_compiles_298 (by decide +kernel) (by unfold zIn; decide) ?_
        refine z_callv (as := [zi 124]) (st := []) mkX12_pops lkRX12_346 rfl rfl rfl (by decide) (Nat.le_of_ble_eq_true rfl) rfl dX12_compiles_300 (k1 h1 h2 h3)
      · skip
        exact J292 h1 (Or.inr ⟨h2, h3⟩)
  · skip
    refine z_aload_n dX12_compiles_40 rfl rfl ?_
    refine z_callv (as := []) (st := []) mkX12_letter lkRX12_323 rfl rfl rfl (by decide) (Nat.le_of_ble_eq_true rfl) rfl dX12_compiles_41 (k2 h1)
set_option maxRecDepth 20000 in
set_option maxHeartbeats 1000000 in
theorem TX12_compiles_44 {G : zG} {σ : zS} {Q : Int → zS → Prop} {v1 v2 r : Int}  (k1 : (v2 ≠ 0) → (r = 33 ∨ (r ≠ 33 ∧ r = 40)) → (σ 98 88 ≠ 30) → -2147483648 ≤ σ 98 88 + 1 ∧ σ 98 88 + 1 < (2147483648 : Int)) (k2 : (v2 ≠ 0) → (r = 33 ∨ (r ≠ 33 ∧ r = 40)) → (σ 98 88 ≠ 30) → -2147483648 ≤ ((zup σ 98 88 (σ 98 88 + 1)) 98 86) + 1 ∧ ((zup σ 98 88 (σ 98 88 + 1)) 98 86) + 1 < (2147483648 : Int)) (k3 : (v2 ≠ 0) → (r = 33 ∨ (r ≠ 33 ∧ r = 40)) → (σ 98 88 ≠ 30) → (0 : Int) ≤ (zup σ 98 88 (σ 98 88 + 1)) 98 86 ∧ (zup σ 98 88 (σ 98 88 + 1)) 98 86 < (300 : Int)) (k4 : (v2 ≠ 0) → (r = 33 ∨ (r ≠ 33 ∧ r = 40)) → (σ 98 88 ≠ 30) → (r = 40) → -2147483648 ≤ v1 + 1 ∧ v1 + 1 < (2147483648 : Int)) (k5 : (v2 ≠ 0) → (r = 33 ∨ (r ≠ 33 ∧ r = 40)) → (σ 98 88 = 30) → Q (σ 98 87) σ) (k6 : (v2 ≠ 0) → (r = 33 ∨ (r ≠ 33 ∧ r = 40)) → (σ 98 88 ≠ 30) → (r ≠ 40) → -2147483648 ≤ ((zup (zup (zup σ 98 88 (σ 98 88 + 1)) 98 86 (((zup σ 98 88 (σ 98 88 + 1)) 98 86) + 1)) 166 ((zup σ 98 88 (σ 98 88 + 1)) 98 86) r) 98 87) + 1 ∧ ((zup (zup (zup σ 98 88 (σ 98 88 + 1)) 98 86 (((zup σ 98 88 (σ 98 88 + 1)) 98 86) + 1)) 166 ((zup σ 98 88 (σ 98 88 + 1)) 98 86) r) 98 87) + 1 < (2147483648 : Int)) (k7 : (v2 ≠ 0) → (r = 33 ∨ (r ≠ 33 ∧ r = 40)) → (σ 98 88 ≠ 30) → (r = 40) → -2147483648 ≤ ((zup (zup (zup σ 98 88 (σ 98 88 + 1)) 98 86 (((zup σ 98 88 (σ 98 88 + 1)) 98 86) + 1)) 166 ((zup σ 98 88 (σ 98 88 + 1)) 98 86) r) 98 87) + 1 ∧ ((zup (zup (zup σ 98 88 (σ 98 88 + 1)) 98 86 (((zup σ 98 88 (σ 98 88 + 1)) 98 86) + 1)) 166 ((zup σ 98 88 (σ 98 88 + 1)) 98 86) r) 98 87) + 1 < (2147483648 : Int)) (k8 : (v2 = 0 ∨ (v2 ≠ 0 ∧ r ≠ 33 ∧ r ≠ 40)) → (v2 = 0) → (r ≠ 38) → (r ≠ 124) → (r = 41) → (0 < v1) → zO G MX12_pops [zr 98, zi 124] σ (fun rr σ' => zR G MX12_compiles 236 [zr 98, zi v1, zi v2, zi r] [] σ' Q)) (k9 : (v2 = 0 ∨ (v2 ≠ 0 ∧ r ≠ 33 ∧ r ≠ 40)) → (v2 ≠ 0) → zO G MX12_reads [zr 98] σ (fun rr σ' => zR G MX12_compiles 132 [zr 98, zi v1, zi v2, zi r] [zi rr] σ' Q)) (k10 : (v2 = 0 ∨ (v2 ≠ 0 ∧ r ≠ 33 ∧ r ≠ 40)) → (v2 = 0) → (r = 38 ∨ (r ≠ 38 ∧ r = 124)) → zO G MX12_pops [zr 98, zi r] σ (fun rr σ' => zR G MX12_compiles 188 [zr 98, zi v1, zi v2, zi r] [] σ' Q)) (k11 : (v2 = 0 ∨ (v2 ≠ 0 ∧ r ≠ 33 ∧ r ≠ 40)) → (v2 = 0) → (r ≠ 38) → (r ≠ 124) → (r ≠ 41 ∨ (r = 41 ∧ v1 ≤ 0)) → Q (σ 98 87) σ) (k12 : (v2 ≠ 0) → (r = 33 ∨ (r ≠ 33 ∧ r = 40)) → (σ 98 88 ≠ 30) → (r ≠ 40) → zR G MX12_compiles 29 [zr 98, zi v1, zi v2, zu] [] (zup (zup (zup (zup σ 98 88 (σ 98 88 + 1)) 98 86 (((zup σ 98 88 (σ 98 88 + 1)) 98 86) + 1)) 166 ((zup σ 98 88 (σ 98 88 + 1)) 98 86) r) 98 87 (((zup (zup (zup σ 98 88 (σ 98 88 + 1)) 98 86 (((zup σ 98 88 (σ 98 88 + 1)) 98 86) + 1)) 166 ((zup σ 98 88 (σ 98 88 + 1)) 98 86) r) 98 87) + 1)) Q) (k13 : (v2 ≠ 0) → (r = 33 ∨ (r ≠ 33 ∧ r = 40)) → (σ 98 88 ≠ 30) → (r = 40) → zR G MX12_compiles 29 [zr 98, zi (v1 + 1), zi v2, zu] [] (zup (zup (zup (zup σ 98 88 (σ 98 88 + 1)) 98 86 (((zup σ 98 88 (σ 98 88 + 1)) 98 86) + 1)) 166 ((zup σ 98 88 (σ 98 88 + 1)) 98 86) r) 98 87 (((zup (zup (zup σ 98 88 (σ 98 88 + 1)) 98 86 (((zup σ 98 88 (σ 98 88 + 1)) 98 86) + 1)) 166 ((zup σ 98 88 (σ 98 88 + 1)) 98 86) r) 98 87) + 1)) Q) : zR G MX12_compiles 44 [zr 98, zi v1, zi v2, zu] [zi r] σ Q := by
  have J281_1 : (v2 ≠ 0) → (r = 33 ∨ (r ≠ 33 ∧ r = 40)) → (σ 98 88 ≠ 30) → (r = 40) → zR G MX12_compiles 281 [zr 98, zi (v1 + 1), zi v2, zi r] [] (zup (zup (zup (zup σ 98 88 (σ 98 88 + 1)) 98 86 (((zup σ 98 88 (σ 98 88 + 1)) 98 86) + 1)) 166 ((zup σ 98 88 (σ 98 88 + 1)) 98 86) r) 98 87 (((zup (zup (zup σ 98 88 (σ 98 88 + 1)) 98 86 (((zup σ 98 88 (σ 98 88 + 1)) 98 86) + 1)) 166 ((zup σ 98 88 (σ 98 88 + 1)) 98 86) r) 98 87) + 1)) Q := by
    intro h1 h4 h5 h6
    refine z_goto dX12_compiles_281 (tgt := 29) (by decide) ?_
    exact zR_fg [false, false, false, true] (k13 h1 h4 h5 h6)
  have J281 : (v2 ≠ 0) → (r = 33 ∨ (r ≠ 33 ∧ r = 40)) → (σ 98 88 ≠ 30) → (r ≠ 40) → zR G MX12_compiles 281 [zr 98, zi v1, zi v2, zi r] [] (zup (zup (zup (zup σ 98 88 (σ 98 88 + 1)) 98 86 (((zup σ 98 88 (σ 98 88 + 1)) 98 86) + 1)) 166 ((zup σ 98 88 (σ 98 88 + 1)) 98 86) r) 98 87 (((zup (zup (zup σ 98 88 (σ 98 88 + 1)) 98 86 (((zup σ 98 88 (σ 98 88 + 1)) 98 86) + 1)) 166 ((zup σ 98 88 (σ 98 88 + 1)) 98 86) r) 98 87) + 1)) Q := by
    intro h1 h4 h5 h6
    refine z_goto dX12_compiles_281 (tgt := 29) (by decide) ?_
    exact zR_fg [false, false, false, true] (k12 h1 h4 h5 h6)
  have J276 : (v2 = 0 ∨ (v2 ≠ 0 ∧ r ≠ 33 ∧ r ≠ 40)) → (v2 = 0) → (r ≠ 38) → (r ≠ 124) → (r ≠ 41 ∨ (r = 41 ∧ v1 ≤ 0)) → zR G MX12_compiles 276 [zr 98, zi v1, zi v2, zi r] [] σ Q := by
    intro h7 h8 h9 h10 h14
    refine z_aload_n dX12_compiles_276 rfl rfl ?_
    refine z_getfI (k := 87) flRX12_320 rfl rfl dX12_compiles_277 ?_
    exact z_ireti rfl dX12_compiles_280 (k11 h7 h8 h9 h10 h14)
  have J183 : (v2 = 0 ∨ (v2 ≠ 0 ∧ r ≠ 33 ∧ r ≠ 40)) → (v2 = 0) → (r = 38 ∨ (r ≠ 38 ∧ r = 124)) → zR G MX12_compiles 183 [zr 98, zi v1, zi v2, zi r] [] σ Q := by
    intro h7 h8 h13
    refine z_aload_n dX12_compiles_183 rfl rfl ?_
    refine z_iload_n dX12_compiles_184 rfl rfl ?_
    refine z_callv (as := [zi r]) (st := []) mkX12_pops lkRX12_346 rfl rfl rfl (by decide) (Nat.le_of_ble_eq_true rfl) rfl dX12_compiles_185 (k10 h7 h8 h13)
  have J124 : (v2 = 0 ∨ (v2 ≠ 0 ∧ r ≠ 33 ∧ r ≠ 40)) → zR G MX12_compiles 124 [zr 98, zi v1, zi v2, zi r] [] σ Q := by
    intro h7
    refine z_iload_n dX12_compiles_124 rfl rfl ?_
    refine z_if_eq dX12_compiles_125 (tgt := 171) (by decide) (fun h8 => ?_) (fun h8 => ?_)
    · skip
      refine z_iload_n dX12_compiles_171 rfl rfl ?_
      refine z_bipush (x := 38) dX12_compiles_172 (by decide +kernel) (by unfold zIn; decide) ?_
      refine z_icmp_eq dX12_compiles_174 (tgt := 183) (by decide) (fun h9 => ?_) (fun h9 => ?_)
      · skip
        exact J183 h7 h8 (Or.inl h9)
      · skip
        refine z_iload_n dX12_compiles_177 rfl rfl ?_
        refine z_bipush (x := 124) dX12_compiles_178 (by decide +kernel) (by unfold zIn; decide) ?_
        refine z_icmp_ne dX12_compiles_180 (tgt := 220) (by decide) (fun h10 => ?_) (fun h10 => ?_)
        · skip
          refine z_iload_n dX12_compiles_220 rfl rfl ?_
          refine z_bipush (x := 41) dX12_compiles_221 (by decide +kernel) (by unfold zIn; decide) ?_
          refine z_icmp_ne dX12_compiles_223 (tgt := 276) (by decide) (fun h11 => ?_) (fun h11 => ?_)
          · skip
            exact J276 h7 h8 h9 h10 (Or.inl h11)
          · skip
            refine z_iload_n dX12_compiles_226 rfl rfl ?_
            refine z_if_le dX12_compiles_227 (tgt := 276) (by decide) (fun h12 => ?_) (fun h12 => ?_)
            · skip
              exact J276 h7 h8 h9 h10 (Or.inr ⟨h11, h12⟩)
            · skip
              refine z_aload_n dX12_compiles_230 rfl rfl ?_
              refine z_bipush (x := 124) dX12_compiles_231 (by decide +kernel) (by unfold zIn; decide) ?_
              refine z_callv (as := [zi 124]) (st := []) mkX12_pops lkRX12_346 rfl rfl rfl (by decide) (Nat.le_of_ble_eq_true rfl) rfl dX12_compiles_233 (k8 h7 h8 h9 h10 h11 h12)
        · skip
          exact J183 h7 h8 (Or.inr ⟨h9, h10⟩)
    · skip
      refine z_aload_n dX12_compiles_128 rfl rfl ?_
      refine z_callv (as := []) (st := []) mkX12_reads lkRX12_339 rfl rfl rfl (by decide) (Nat.le_of_ble_eq_true rfl) rfl dX12_compiles_129 (k9 h7 h8)
  have J111_1 : (v2 ≠ 0) → (r = 33 ∨ (r ≠ 33 ∧ r = 40)) → (σ 98 88 ≠ 30) → (r = 40) → zR G MX12_compiles 111 [zr 98, zi (v1 + 1), zi v2, zi r] [] (zup (zup (zup σ 98 88 (σ 98 88 + 1)) 98 86 (((zup σ 98 88 (σ 98 88 + 1)) 98 86) + 1)) 166 ((zup σ 98 88 (σ 98 88 + 1)) 98 86) r) Q := by
    intro h1 h4 h5 h6
    refine z_aload_n dX12_compiles_111 rfl rfl ?_
    refine z_dup dX12_compiles_112 rfl ?_
    refine z_getfI (k := 87) flRX12_320 rfl rfl dX12_compiles_113 ?_
    refine z_iconst dX12_compiles_116 (by unfold zIn; decide) ?_
    have s7 : -2147483648 ≤ ((zup (zup (zup σ 98 88 (σ 98 88 + 1)) 98 86 (((zup σ 98 88 (σ 98 88 + 1)) 98 86) + 1)) 166 ((zup σ 98 88 (σ 98 88 + 1)) 98 86) r) 98 87) + 1 ∧ ((zup (zup (zup σ 98 88 (σ 98 88 + 1)) 98 86 (((zup σ 98 88 (σ 98 88 + 1)) 98 86) + 1)) 166 ((zup σ 98 88 (σ 98 88 + 1)) 98 86) r) 98 87) + 1 < (2147483648 : Int) := k7 h1 h4 h5 h6
    refine z_iaddN dX12_compiles_117 s7 ?_
    refine z_putI (k := 87) fpRX12_320 rfl rfl dX12_compiles_118 ?_
    refine z_goto dX12_compiles_121 (tgt := 281) (by decide) ?_
    exact J281_1 h1 h4 h5 h6
  have J111 : (v2 ≠ 0) → (r = 33 ∨ (r ≠ 33 ∧ r = 40)) → (σ 98 88 ≠ 30) → (r ≠ 40) → zR G MX12_compiles 111 [zr 98, zi v1, zi v2, zi r] [] (zup (zup (zup σ 98 88 (σ 98 88 + 1)) 98 86 (((zup σ 98 88 (σ 98 88 + 1)) 98 86) + 1)) 166 ((zup σ 98 88 (σ 98 88 + 1)) 98 86) r) Q := by
    intro h1 h4 h5 h6
    refine z_aload_n dX12_compiles_111 rfl rfl ?_
    refine z_dup dX12_compiles_112 rfl ?_
    refine z_getfI (k := 87) flRX12_320 rfl rfl dX12_compiles_113 ?_
    refine z_iconst dX12_compiles_116 (by unfold zIn; decide) ?_
    have s6 : -2147483648 ≤ ((zup (zup (zup σ 98 88 (σ 98 88 + 1)) 98 86 (((zup σ 98 88 (σ 98 88 + 1)) 98 86) + 1)) 166 ((zup σ 98 88 (σ 98 88 + 1)) 98 86) r) 98 87) + 1 ∧ ((zup (zup (zup σ 98 88 (σ 98 88 + 1)) 98 86 (((zup σ 98 88 (σ 98 88 + 1)) 98 86) + 1)) 166 ((zup σ 98 88 (σ 98 88 + 1)) 98 86) r) 98 87) + 1 < (2147483648 : Int) := k6 h1 h4 h5 h6
    refine z_iaddN dX12_compiles_117 s6 ?_
    refine z_putI (k := 87) fpRX12_320 rfl rfl dX12_compiles_118 ?_
    refine z_goto dX12_compiles_121 (tgt := 281) (by decide) ?_
    exact J281 h1 h4 h5 h6
  have J61 : (v2 ≠ 0) → (r = 33 ∨ (r ≠ 33 ∧ r = 40)) → zR G MX12_compiles 61 [zr 98, zi v1, zi v2, zi r] [] σ Q := by
    intro h1 h4
    refine z_aload_n dX12_compiles_61 rfl rfl ?_
    refine z_getfI (k := 88) flRX12_333 rfl rfl dX12_compiles_62 ?_
    refine z_bipush (x := 30) dX12_compiles_65 (by decide +kernel) (by unfold zIn; decide) ?_
    refine z_icmp_ne dX12_compiles_67 (tgt := 75) (by decide) (fun h5 => ?_) (fun h5 => ?_)
    · skip
      refine z_aload_n dX12_compiles_75 rfl rfl ?_
      refine z_dup dX12_compiles_76 rfl ?_
      refine z_getfI (k := 88) flRX12_333 rfl rfl dX12_compiles_77 ?_
      refine z_iconst dX12_compiles_80 (by unfold zIn; decide) ?_
      have s1 : -2147483648 ≤ σ 98 88 + 1 ∧ σ 98 88 + 1 < (2147483648 : Int) := k1 h1 h4 h5
      refine z_iaddN dX12_compiles_81 s1 ?_
      refine z_putI (k := 88) fpRX12_333 rfl rfl dX12_compiles_82 ?_
      refine z_aload_n dX12_compiles_85 rfl rfl ?_
      refine z_getfR (k := 82) flRX12_217 rfl rfl dX12_compiles_86 ?_
      refine z_aload_n dX12_compiles_89 rfl rfl ?_
      refine z_dup dX12_compiles_90 rfl ?_
      refine z_getfI (k := 86) flRX12_330 rfl rfl dX12_compiles_91 ?_
      refine z_dup_x1 dX12_compiles_94 rfl rfl ?_
      refine z_iconst dX12_compiles_95 (by unfold zIn; decide) ?_
      have s2 : -2147483648 ≤ ((zup σ 98 88 (σ 98 88 + 1)) 98 86) + 1 ∧ ((zup σ 98 88 (σ 98 88 + 1)) 98 86) + 1 < (2147483648 : Int) := k2 h1 h4 h5
      refine z_iaddN dX12_compiles_96 s2 ?_
      refine z_putI (k := 86) fpRX12_330 rfl rfl dX12_compiles_97 ?_
      refine z_iload_n dX12_compiles_100 rfl rfl ?_
      have s3 : (0 : Int) ≤ (zup σ 98 88 (σ 98 88 + 1)) 98 86 ∧ (zup σ 98 88 (σ 98 88 + 1)) 98 86 < (300 : Int) := k3 h1 h4 h5
      refine z_iast rfl s3.1 s3.2 dX12_compiles_101 ?_
      refine z_iload_n dX12_compiles_102 rfl rfl ?_
      refine z_bipush (x := 40) dX12_compiles_103 (by decide +kernel) (by unfold zIn; decide) ?_
      refine z_icmp_ne dX12_compiles_105 (tgt := 111) (by decide) (fun h6 => ?_) (fun h6 => ?_)
      · skip
        exact J111 h1 h4 h5 h6
      · skip
        have s4 : -2147483648 ≤ v1 + 1 ∧ v1 + 1 < (2147483648 : Int) := k4 h1 h4 h5 h6
        refine z_iincN (ls' := [zr 98, zi (v1 + 1), zi v2, zi r]) dX12_compiles_108 rfl (by decide) s4 rfl ?_
        exact J111_1 h1 h4 h5 h6
    · skip
      refine z_aload_n dX12_compiles_70 rfl rfl ?_
      refine z_getfI (k := 87) flRX12_320 rfl rfl dX12_compiles_71 ?_
      exact z_ireti rfl dX12_compiles_74 (k5 h1 h4 h5)
  refine z_istore_n (ls' := [zr 98, zi v1, zi v2, zi r]) dX12_compiles_44 rfl (by decide) rfl ?_
  refine z_iload_n dX12_compiles_45 rfl rfl ?_
  refine z_if_eq dX12_compiles_46 (tgt := 124) (by decide) (fun h1 => ?_) (fun h1 => ?_)
  · skip
    exact J124 (Or.inl h1)
  · skip
    refine z_iload_n dX12_compiles_49 rfl rfl ?_
    refine z_bipush (x := 33) dX12_compiles_50 (by decide +kernel) (by unfold zIn; decide) ?_
    refine z_icmp_eq dX12_compiles_52 (tgt := 61) (by decide) (fun h2 => ?_) (fun h2 => ?_)
    · skip
      exact J61 h1 (Or.inl h2)
    · skip
      refine z_iload_n dX12_compiles_55 rfl rfl ?_
      refine z_bipush (x := 40) dX12_compiles_56 (by decide +kernel) (by unfold zIn; decide) ?_
      refine z_icmp_ne dX12_compiles_58 (tgt := 124) (by decide) (fun h3 => ?_) (fun h3 => ?_)
      · skip
        exact J124 (Or.inr ⟨h1, h2, h3⟩)
      · skip
        exact J61 h1 (Or.inr ⟨h2, h3⟩)
set_option maxRecDepth 20000 in
set_option maxHeartbeats 1000000 in
theorem TX12_compiles_132 {G : zG} {σ : zS} {Q : Int → zS → Prop} {v1 v2 v3 r : Int}  (k1 : (r ≠ 0) → -2147483648 ≤ σ 98 85 + 1 ∧ σ 98 85 + 1 < (2147483648 : Int)) (k2 : (r ≠ 0) → -2147483648 ≤ ((zup σ 98 85 (σ 98 85 + 1)) 98 84) - 1 ∧ ((zup σ 98 85 (σ 98 85 + 1)) 98 84) - 1 < (2147483648 : Int)) (k3 : (r ≠ 0) → (0 : Int) ≤ σ 98 85 ∧ σ 98 85 < (500 : Int)) (k4 : (r ≠ 0) → zO G MX12_closes [zr 98] (zup (zup σ 98 85 (σ 98 85 + 1)) 165 (σ 98 85) (((zup σ 98 85 (σ 98 85 + 1)) 98 84) - 1)) (fun rr σ' => zR G MX12_compiles 166 [zr 98, zi v1, zi v2, zi v3] [] σ' Q)) (k5 : (r = 0) → Q (σ 98 87) σ) : zR G MX12_compiles 132 [zr 98, zi v1, zi v2, zi v3] [zi r] σ Q := by
  refine z_if_ne dX12_compiles_132 (tgt := 140) (by decide) (fun h1 => ?_) (fun h1 => ?_)
  · skip
    refine z_aload_n dX12_compiles_140 rfl rfl ?_
    refine z_getfR (k := 81) flRX12_214 rfl rfl dX12_compiles_141 ?_
    refine z_aload_n dX12_compiles_144 rfl rfl ?_
    refine z_dup dX12_compiles_145 rfl ?_
    refine z_getfI (k := 85) flRX12_336 rfl rfl dX12_compiles_146 ?_
    refine z_dup_x1 dX12_compiles_149 rfl rfl ?_
    refine z_iconst dX12_compiles_150 (by unfold zIn; decide) ?_
    have s1 : -2147483648 ≤ σ 98 85 + 1 ∧ σ 98 85 + 1 < (2147483648 : Int) := k1 h1
    refine z_iaddN dX12_compiles_151 s1 ?_
    refine z_putI (k := 85) fpRX12_336 rfl rfl dX12_compiles_152 ?_
    refine z_aload_n dX12_compiles_155 rfl rfl ?_
    refine z_getfI (k := 84) flRX12_327 rfl rfl dX12_compiles_156 ?_
    refine z_iconst dX12_compiles_159 (by unfold zIn; decide) ?_
    have s2 : -2147483648 ≤ ((zup σ 98 85 (σ 98 85 + 1)) 98 84) - 1 ∧ ((zup σ 98 85 (σ 98 85 + 1)) 98 84) - 1 < (2147483648 : Int) := k2 h1
    refine z_isubN dX12_compiles_160 s2 ?_
    have s3 : (0 : Int) ≤ σ 98 85 ∧ σ 98 85 < (500 : Int) := k3 h1
    refine z_iast rfl s3.1 s3.2 dX12_compiles_161 ?_
    refine z_aload_n dX12_compiles_162 rfl rfl ?_
    refine z_callv (as := []) (st := []) mkX12_closes lkRX12_343 rfl rfl rfl (by decide) (Nat.le_of_ble_eq_true rfl) rfl dX12_compiles_163 (k4 h1)
  · skip
    refine z_aload_n dX12_compiles_135 rfl rfl ?_
    refine z_getfI (k := 87) flRX12_320 rfl rfl dX12_compiles_136 ?_
    exact z_ireti rfl dX12_compiles_139 (k5 h1)
set_option maxRecDepth 20000 in
set_option maxHeartbeats 1000000 in
theorem TX12_compiles_166 {G : zG} {σ : zS} {Q : Int → zS → Prop} {v1 v2 v3 : Int}  (k1 : zR G MX12_compiles 29 [zr 98, zi v1, zi 0, zu] [] σ Q) : zR G MX12_compiles 166 [zr 98, zi v1, zi v2, zi v3] [] σ Q := by
  have J281 : zR G MX12_compiles 281 [zr 98, zi v1, zi 0, zi v3] [] σ Q := by
    refine z_goto dX12_compiles_281 (tgt := 29) (by decide) ?_
    exact zR_fg [false, false, false, true] (k1)
  refine z_iconst dX12_compiles_166 (by unfold zIn; decide) ?_
  refine z_istore_n (ls' := [zr 98, zi v1, zi 0, zi v3]) dX12_compiles_167 rfl (by decide) rfl ?_
  refine z_goto dX12_compiles_168 (tgt := 281) (by decide) ?_
  exact J281
set_option maxRecDepth 20000 in
set_option maxHeartbeats 1000000 in
theorem TX12_compiles_188 {G : zG} {σ : zS} {Q : Int → zS → Prop} {v1 v2 v3 : Int}  (k1 : -2147483648 ≤ σ 98 86 + 1 ∧ σ 98 86 + 1 < (2147483648 : Int)) (k2 : (0 : Int) ≤ σ 98 86 ∧ σ 98 86 < (300 : Int)) (k3 : -2147483648 ≤ ((zup (zup σ 98 86 (σ 98 86 + 1)) 166 (σ 98 86) v3) 98 87) + 1 ∧ ((zup (zup σ 98 86 (σ 98 86 + 1)) 166 (σ 98 86) v3) 98 87) + 1 < (2147483648 : Int)) (k4 : zR G MX12_compiles 29 [zr 98, zi v1, zi 1, zu] [] (zup (zup (zup σ 98 86 (σ 98 86 + 1)) 166 (σ 98 86) v3) 98 87 (((zup (zup σ 98 86 (σ 98 86 + 1)) 166 (σ 98 86) v3) 98 87) + 1)) Q) : zR G MX12_compiles 188 [zr 98, zi v1, zi v2, zi v3] [] σ Q := by
  have J281 : zR G MX12_compiles 281 [zr 98, zi v1, zi 1, zi v3] [] (zup (zup (zup σ 98 86 (σ 98 86 + 1)) 166 (σ 98 86) v3) 98 87 (((zup (zup σ 98 86 (σ 98 86 + 1)) 166 (σ 98 86) v3) 98 87) + 1)) Q := by
    refine z_goto dX12_compiles_281 (tgt := 29) (by decide) ?_
    exact zR_fg [false, false, false, true] (k4)
  refine z_aload_n dX12_compiles_188 rfl rfl ?_
  refine z_getfR (k := 82) flRX12_217 rfl rfl dX12_compiles_189 ?_
  refine z_aload_n dX12_compiles_192 rfl rfl ?_
  refine z_dup dX12_compiles_193 rfl ?_
  refine z_getfI (k := 86) flRX12_330 rfl rfl dX12_compiles_194 ?_
  refine z_dup_x1 dX12_compiles_197 rfl rfl ?_
  refine z_iconst dX12_compiles_198 (by unfold zIn; decide) ?_
  have s1 : -2147483648 ≤ σ 98 86 + 1 ∧ σ 98 86 + 1 < (2147483648 : Int) := k1
  refine z_iaddN dX12_compiles_199 s1 ?_
  refine z_putI (k := 86) fpRX12_330 rfl rfl dX12_compiles_200 ?_
  refine z_iload_n dX12_compiles_203 rfl rfl ?_
  have s2 : (0 : Int) ≤ σ 98 86 ∧ σ 98 86 < (300 : Int) := k2
  refine z_iast rfl s2.1 s2.2 dX12_compiles_204 ?_
  refine z_iconst dX12_compiles_205 (by unfold zIn; decide) ?_
  refine z_istore_n (ls' := [zr 98, zi v1, zi 1, zi v3]) dX12_compiles_206 rfl (by decide) rfl ?_
  refine z_aload_n dX12_compiles_207 rfl rfl ?_
  refine z_dup dX12_compiles_208 rfl ?_
  refine z_getfI (k := 87) flRX12_320 rfl rfl dX12_compiles_209 ?_
  refine z_iconst dX12_compiles_212 (by unfold zIn; decide) ?_
  have s3 : -2147483648 ≤ ((zup (zup σ 98 86 (σ 98 86 + 1)) 166 (σ 98 86) v3) 98 87) + 1 ∧ ((zup (zup σ 98 86 (σ 98 86 + 1)) 166 (σ 98 86) v3) 98 87) + 1 < (2147483648 : Int) := k3
  refine z_iaddN dX12_compiles_213 s3 ?_
  refine z_putI (k := 87) fpRX12_320 rfl rfl dX12_compiles_214 ?_
  refine z_goto dX12_compiles_217 (tgt := 281) (by decide) ?_
  exact J281
set_option maxRecDepth 20000 in
set_option maxHeartbeats 1000000 in
theorem TX12_compiles_236 {G : zG} {σ : zS} {Q : Int → zS → Prop} {v1 v2 v3 : Int}  (k1 : -2147483648 ≤ σ 98 86 - 1 ∧ σ 98 86 - 1 < (2147483648 : Int)) (k2 : -2147483648 ≤ ((zup σ 98 86 (σ 98 86 - 1)) 98 88) - 1 ∧ ((zup σ 98 86 (σ 98 86 - 1)) 98 88) - 1 < (2147483648 : Int)) (k3 : -2147483648 ≤ v1 + (-1) ∧ v1 + (-1) < (2147483648 : Int)) (k4 : zO G MX12_closes [zr 98] (zup (zup σ 98 86 (σ 98 86 - 1)) 98 88 (((zup σ 98 86 (σ 98 86 - 1)) 98 88) - 1)) (fun rr σ' => zR G MX12_compiles 263 [zr 98, zi (v1 + (-1)), zi v2, zi v3] [] σ' Q)) : zR G MX12_compiles 236 [zr 98, zi v1, zi v2, zi v3] [] σ Q := by
  refine z_aload_n dX12_compiles_236 rfl rfl ?_
  refine z_dup dX12_compiles_237 rfl ?_
  refine z_getfI (k := 86) flRX12_330 rfl rfl dX12_compiles_238 ?_
  refine z_iconst dX12_compiles_241 (by unfold zIn; decide) ?_
  have s1 : -2147483648 ≤ σ 98 86 - 1 ∧ σ 98 86 - 1 < (2147483648 : Int) := k1
  refine z_isubN dX12_compiles_242 s1 ?_
  refine z_putI (k := 86) fpRX12_330 rfl rfl dX12_compiles_243 ?_
  refine z_aload_n dX12_compiles_246 rfl rfl ?_
  refine z_dup dX12_compiles_247 rfl ?_
  refine z_getfI (k := 88) flRX12_333 rfl rfl dX12_compiles_248 ?_
  refine z_iconst dX12_compiles_251 (by unfold zIn; decide) ?_
  have s2 : -2147483648 ≤ ((zup σ 98 86 (σ 98 86 - 1)) 98 88) - 1 ∧ ((zup σ 98 86 (σ 98 86 - 1)) 98 88) - 1 < (2147483648 : Int) := k2
  refine z_isubN dX12_compiles_252 s2 ?_
  refine z_putI (k := 88) fpRX12_333 rfl rfl dX12_compiles_253 ?_
  have s3 : -2147483648 ≤ v1 + (-1) ∧ v1 + (-1) < (2147483648 : Int) := k3
  refine z_iincN (ls' := [zr 98, zi (v1 + (-1)), zi v2, zi v3]) dX12_compiles_256 rfl (by decide) s3 rfl ?_
  refine z_aload_n dX12_compiles_259 rfl rfl ?_
  refine z_callv (as := []) (st := []) mkX12_closes lkRX12_343 rfl rfl rfl (by decide) (Nat.le_of_ble_eq_true rfl) rfl dX12_compiles_260 (k4)
set_option maxRecDepth 20000 in
set_option maxHeartbeats 1000000 in
theorem TX12_compiles_263 {G : zG} {σ : zS} {Q : Int → zS → Prop} {v1 v2 v3 : Int}  (k1 : -2147483648 ≤ σ 98 87 + 1 ∧ σ 98 87 + 1 < (2147483648 : Int)) (k2 : zR G MX12_compiles 29 [zr 98, zi v1, zi v2, zu] [] (zup σ 98 87 (σ 98 87 + 1)) Q) : zR G MX12_compiles 263 [zr 98, zi v1, zi v2, zi v3] [] σ Q := by
  have J281 : zR G MX12_compiles 281 [zr 98, zi v1, zi v2, zi v3] [] (zup σ 98 87 (σ 98 87 + 1)) Q := by
    refine z_goto dX12_compiles_281 (tgt := 29) (by decide) ?_
    exact zR_fg [false, false, false, true] (k2)
  refine z_aload_n dX12_compiles_263 rfl rfl ?_
  refine z_dup dX12_compiles_264 rfl ?_
  refine z_getfI (k := 87) flRX12_320 rfl rfl dX12_compiles_265 ?_
  refine z_iconst dX12_compiles_268 (by unfold zIn; decide) ?_
  have s1 : -2147483648 ≤ σ 98 87 + 1 ∧ σ 98 87 + 1 < (2147483648 : Int) := k1
  refine z_iaddN dX12_compiles_269 s1 ?_
  refine z_putI (k := 87) fpRX12_320 rfl rfl dX12_compiles_270 ?_
  refine z_goto dX12_compiles_273 (tgt := 281) (by decide) ?_
  exact J281
set_option maxRecDepth 20000 in
set_option maxHeartbeats 1000000 in
theorem TX12_compiles_303 {G : zG} {σ : zS} {Q : Int → zS → Prop} {v1 v2 : Int}  (k1 : Q (-1) σ) : zR G MX12_compiles 303 [zr 98, zi v1, zi v2, zu] [] σ Q := by
  refine z_iconst dX12_compiles_303 (by unfold zIn; decide) ?_
  exact z_ireti rfl dX12_compiles_304 (k1)
