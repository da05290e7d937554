set_option maxRecDepth 20000 in
set_option maxHeartbeats 1000000 in
theorem TX12_letter {G : zG} {σ : zS} {Q : Int → zS → Prop}  (k1 : (σ 98 43 ≤ σ 98 87) → Q (-1) σ) (k2 : (σ 98 87 < σ 98 43) → (0 : Int) ≤ σ 98 87 ∧ σ 98 87 < (300 : Int)) (k3 : (σ 98 87 < σ 98 43) → Q (σ 127 (σ 98 87)) σ) : zO G MX12_letter [zr 98] σ Q := by
  refine zO_of (ls0 := [zr 98]) (by decide) (Nat.le_of_ble_eq_true rfl) rfl ?_
  refine z_aload_n dX12_letter_0 rfl rfl ?_
  refine z_getfI (k := 87) flRX12_320 rfl rfl dX12_letter_1 ?_
  refine z_aload_n dX12_letter_4 rfl rfl ?_
  refine z_getfI (k := 43) flRX12_306 rfl rfl dX12_letter_5 ?_
  refine z_icmp_ge dX12_letter_8 (tgt := 23) (by decide) (fun h1 => ?_) (fun h1 => ?_)
  · skip
    refine z_iconst dX12_letter_23 (by unfold zIn; decide) ?_
    exact z_ireti rfl dX12_letter_24 (k1 h1)
  · skip
    refine z_aload_n dX12_letter_11 rfl rfl ?_
    refine z_getfR (k := 41) flRX12_100 rfl rfl dX12_letter_12 ?_
    refine z_aload_n dX12_letter_15 rfl rfl ?_
    refine z_getfI (k := 87) flRX12_320 rfl rfl dX12_letter_16 ?_
    have s2 : (0 : Int) ≤ σ 98 87 ∧ σ 98 87 < (300 : Int) := k2 h1
    refine z_iald rfl s2.1 s2.2 dX12_letter_19 ?_
    refine z_goto dX12_letter_20 (tgt := 24) (by decide) ?_
    exact z_ireti rfl dX12_letter_24 (k3 h1)
set_option maxRecDepth 20000 in
set_option maxHeartbeats 1000000 in
theorem TX12_reads {G : zG} {σ : zS} {Q : Int → zS → Prop}  (k1 : zO G MX12_letter [zr 98] σ (fun rr σ' => zR G MX12_reads 4 [zr 98, zu, zu, zu, zu] [zi rr] σ' Q)) : zO G MX12_reads [zr 98] σ Q := by
  refine zO_of (ls0 := [zr 98, zu, zu, zu, zu]) (by decide) (Nat.le_of_ble_eq_true rfl) rfl ?_
  refine z_aload_n dX12_reads_0 rfl rfl ?_
  refine z_callv (as := []) (st := []) mkX12_letter lkRX12_323 rfl rfl rfl (by decide) (Nat.le_of_ble_eq_true rfl) rfl dX12_reads_1 (k1)
set_option maxRecDepth 20000 in
set_option maxHeartbeats 1000000 in
theorem TX12_reads_4 {G : zG} {σ : zS} {Q : Int → zS → Prop} {r : Int}  (k1 : (0 : Int) ≤ σ 98 84 ∧ σ 98 84 < (110 : Int)) (k2 : (r = 119) → (σ 98 87 < σ 98 43) → -2147483648 ≤ σ 98 87 + 1 ∧ σ 98 87 + 1 < (2147483648 : Int)) (k3 : (r = 119) → (σ 98 87 < σ 98 43) → -2147483648 ≤ σ 98 84 + 1 ∧ σ 98 84 + 1 < (2147483648 : Int)) (k4 : (r = 119) → (σ 98 87 < σ 98 43) → Q 1 (zup (zup (zup σ 162 (σ 98 84) r) 98 87 (σ 98 87 + 1)) 98 84 (σ 98 84 + 1))) (k5 : (r ≠ 119 ∨ (r = 119 ∧ σ 98 43 ≤ σ 98 87)) → (σ 98 43 ≤ σ 98 87 ∨ (σ 98 87 < σ 98 43 ∧ r ≠ 97 ∧ r ≠ 107 ∧ r ≠ 100 ∧ r ≠ 114 ∧ r ≠ 116)) → Q 0 (zup σ 162 (σ 98 84) r)) (k6 : (r ≠ 119 ∨ (r = 119 ∧ σ 98 43 ≤ σ 98 87)) → (σ 98 87 < σ 98 43) → (r = 97 ∨ (r ≠ 97 ∧ r = 107) ∨ (r ≠ 97 ∧ r ≠ 107 ∧ r = 100) ∨ (r ≠ 97 ∧ r ≠ 107 ∧ r ≠ 100 ∧ r = 114) ∨ (r ≠ 97 ∧ r ≠ 107 ∧ r ≠ 100 ∧ r ≠ 114 ∧ r = 116)) → -2147483648 ≤ σ 98 87 + 1 ∧ σ 98 87 + 1 < (2147483648 : Int)) (k7 : (r ≠ 119 ∨ (r = 119 ∧ σ 98 43 ≤ σ 98 87)) → (σ 98 87 < σ 98 43) → (r = 97 ∨ (r ≠ 97 ∧ r = 107) ∨ (r ≠ 97 ∧ r ≠ 107 ∧ r = 100) ∨ (r ≠ 97 ∧ r ≠ 107 ∧ r ≠ 100 ∧ r = 114) ∨ (r ≠ 97 ∧ r ≠ 107 ∧ r ≠ 100 ∧ r ≠ 114 ∧ r = 116)) → zO G MX12_letter [zr 98] (zup (zup σ 162 (σ 98 84) r) 98 87 (σ 98 87 + 1)) (fun rr σ' => zR G MX12_reads 111 [zr 98, zi r, zu, zu, zu] [zi rr] σ' Q)) : zR G MX12_reads 4 [zr 98, zu, zu, zu, zu] [zi r] σ Q := by
  have J97 : (r ≠ 119 ∨ (r = 119 ∧ σ 98 43 ≤ σ 98 87)) → (σ 98 87 < σ 98 43) → (r = 97 ∨ (r ≠ 97 ∧ r = 107) ∨ (r ≠ 97 ∧ r ≠ 107 ∧ r = 100) ∨ (r ≠ 97 ∧ r ≠ 107 ∧ r ≠ 100 ∧ r = 114) ∨ (r ≠ 97 ∧ r ≠ 107 ∧ r ≠ 100 ∧ r ≠ 114 ∧ r = 116)) → zR G MX12_reads 97 [zr 98, zi r, zu, zu, zu] [] (zup σ 162 (σ 98 84) r) Q := by
    intro h3 h4 h11
    refine z_aload_n dX12_reads_97 rfl rfl ?_
    refine z_dup dX12_reads_98 rfl ?_
    refine z_getfE (k := 87) (v := σ 98 87) flRX12_320 rfl rfl (zup_of (by decide)) dX12_reads_99 ?_
    refine z_iconst dX12_reads_102 (by unfold zIn; decide) ?_
    have s6 : -2147483648 ≤ σ 98 87 + 1 ∧ σ 98 87 + 1 < (2147483648 : Int) := k6 h3 h4 h11
    refine z_iaddN dX12_reads_103 s6 ?_
    refine z_putI (k := 87) fpRX12_320 rfl rfl dX12_reads_104 ?_
    refine z_aload_n dX12_reads_107 rfl rfl ?_
    refine z_callv (as := []) (st := []) mkX12_letter lkRX12_323 rfl rfl rfl (by decide) (Nat.le_of_ble_eq_true rfl) rfl dX12_reads_108 (k7 h3 h4 h11)
  have J95 : (r ≠ 119 ∨ (r = 119 ∧ σ 98 43 ≤ σ 98 87)) → (σ 98 43 ≤ σ 98 87 ∨ (σ 98 87 < σ 98 43 ∧ r ≠ 97 ∧ r ≠ 107 ∧ r ≠ 100 ∧ r ≠ 114 ∧ r ≠ 116)) → zR G MX12_reads 95 [zr 98, zi r, zu, zu, zu] [] (zup σ 162 (σ 98 84) r) Q := by
    intro h3 h10
    refine z_iconst dX12_reads_95 (by unfold zIn; decide) ?_
    exact z_iretz rfl (by decide) dX12_reads_96 (k5 h3 h10)
  have J54 : (r ≠ 119 ∨ (r = 119 ∧ σ 98 43 ≤ σ 98 87)) → zR G MX12_reads 54 [zr 98, zi r, zu, zu, zu] [] (zup σ 162 (σ 98 84) r) Q := by
    intro h3
    refine z_aload_n dX12_reads_54 rfl rfl ?_
    refine z_getfE (k := 87) (v := σ 98 87) flRX12_320 rfl rfl (zup_of (by decide)) dX12_reads_55 ?_
    refine z_aload_n dX12_reads_58 rfl rfl ?_
    refine z_getfE (k := 43) (v := σ 98 43) flRX12_306 rfl rfl (zup_of (by decide)) dX12_reads_59 ?_
    refine z_icmp_ge dX12_reads_62 (tgt := 95) (by decide) (fun h4 => ?_) (fun h4 => ?_)
    · skip
      exact J95 h3 (Or.inl h4)
    · skip
      refine z_iload_n dX12_reads_65 rfl rfl ?_
      refine z_bipush (x := 97) dX12_reads_66 (by decide +kernel) (by unfold zIn; decide) ?_
      refine z_icmp_eq dX12_reads_68 (tgt := 97) (by decide) (fun h5 => ?_) (fun h5 => ?_)
      · skip
        exact J97 h3 h4 (Or.inl h5)
      · skip
        refine z_iload_n dX12_reads_71 rfl rfl ?_
        refine z_bipush (x := 107) dX12_reads_72 (by decide +kernel) (by unfold zIn; decide) ?_
        refine z_icmp_eq dX12_reads_74 (tgt := 97) (by decide) (fun h6 => ?_) (fun h6 => ?_)
        · skip
          exact J97 h3 h4 (Or.inr (Or.inl ⟨h5, h6⟩))
        · skip
          refine z_iload_n dX12_reads_77 rfl rfl ?_
          refine z_bipush (x := 100) dX12_reads_78 (by decide +kernel) (by unfold zIn; decide) ?_
          refine z_icmp_eq dX12_reads_80 (tgt := 97) (by decide) (fun h7 => ?_) (fun h7 => ?_)
          · skip
            exact J97 h3 h4 (Or.inr (Or.inr (Or.inl ⟨h5, h6, h7⟩)))
          · skip
            refine z_iload_n dX12_reads_83 rfl rfl ?_
            refine z_bipush (x := 114) dX12_reads_84 (by decide +kernel) (by unfold zIn; decide) ?_
            refine z_icmp_eq dX12_reads_86 (tgt := 97) (by decide) (fun h8 => ?_) (fun h8 => ?_)
            · skip
              exact J97 h3 h4 (Or.inr (Or.inr (Or.inr (Or.inl ⟨h5, h6, h7, h8⟩))))
            · skip
              refine z_iload_n dX12_reads_89 rfl rfl ?_
              refine z_bipush (x := 116) dX12_reads_90 (by decide +kernel) (by unfold zIn; decide) ?_
              refine z_icmp_eq dX12_reads_92 (tgt := 97) (by decide) (fun h9 => ?_) (fun h9 => ?_)
              · skip
                exact J97 h3 h4 (Or.inr (Or.inr (Or.inr (Or.inr ⟨h5, h6, h7, h8, h9⟩))))
              · skip
                exact J95 h3 (Or.inr ⟨h4, h5, h6, h7, h8, h9⟩)
  refine z_istore_n (ls' := [zr 98, zi r, zu, zu, zu]) dX12_reads_4 rfl (by decide) rfl ?_
  refine z_aload_n dX12_reads_5 rfl rfl ?_
  refine z_getfR (k := 78) flRX12_205 rfl rfl dX12_reads_6 ?_
  refine z_aload_n dX12_reads_9 rfl rfl ?_
  refine z_getfI (k := 84) flRX12_327 rfl rfl dX12_reads_10 ?_
  refine z_iload_n dX12_reads_13 rfl rfl ?_
  have s1 : (0 : Int) ≤ σ 98 84 ∧ σ 98 84 < (110 : Int) := k1
  refine z_iast rfl s1.1 s1.2 dX12_reads_14 ?_
  refine z_iload_n dX12_reads_15 rfl rfl ?_
  refine z_bipush (x := 119) dX12_reads_16 (by decide +kernel) (by unfold zIn; decide) ?_
  refine z_icmp_ne dX12_reads_18 (tgt := 54) (by decide) (fun h1 => ?_) (fun h1 => ?_)
  · skip
    exact J54 (Or.inl h1)
  · skip
    refine z_aload_n dX12_reads_21 rfl rfl ?_
    refine z_getfE (k := 87) (v := σ 98 87) flRX12_320 rfl rfl (zup_of (by decide)) dX12_reads_22 ?_
    refine z_aload_n dX12_reads_25 rfl rfl ?_
    refine z_getfE (k := 43) (v := σ 98 43) flRX12_306 rfl rfl (zup_of (by decide)) dX12_reads_26 ?_
    refine z_icmp_ge dX12_reads_29 (tgt := 54) (by decide) (fun h2 => ?_) (fun h2 => ?_)
    · skip
      exact J54 (Or.inr ⟨h1, h2⟩)
    · skip
      refine z_aload_n dX12_reads_32 rfl rfl ?_
      refine z_dup dX12_reads_33 rfl ?_
      refine z_getfE (k := 87) (v := σ 98 87) flRX12_320 rfl rfl (zup_of (by decide)) dX12_reads_34 ?_
      refine z_iconst dX12_reads_37 (by unfold zIn; decide) ?_
      have s2 : -2147483648 ≤ σ 98 87 + 1 ∧ σ 98 87 + 1 < (2147483648 : Int) := k2 h1 h2
      refine z_iaddN dX12_reads_38 s2 ?_
      refine z_putI (k := 87) fpRX12_320 rfl rfl dX12_reads_39 ?_
      refine z_aload_n dX12_reads_42 rfl rfl ?_
      refine z_dup dX12_reads_43 rfl ?_
      refine z_getfE (k := 84) (v := σ 98 84) flRX12_327 rfl rfl ((zup_oi (by decide)).trans (zup_of (by decide))) dX12_reads_44 ?_
      refine z_iconst dX12_reads_47 (by unfold zIn; decide) ?_
      have s3 : -2147483648 ≤ σ 98 84 + 1 ∧ σ 98 84 + 1 < (2147483648 : Int) := k3 h1 h2
      refine z_iaddN dX12_reads_48 s3 ?_
      refine z_putI (k := 84) fpRX12_327 rfl rfl dX12_reads_49 ?_
      refine z_iconst dX12_reads_52 (by unfold zIn; decide) ?_
      exact z_iretz rfl (by decide) dX12_reads_53 (k4 h1 h2)
set_option maxRecDepth 20000 in
set_option maxHeartbeats 1000000 in
theorem TX12_reads_111 {G : zG} {σ : zS} {Q : Int → zS → Prop} {v1 r : Int}  (k1 : (σ 98 43 ≤ σ 98 87 ∨ (σ 98 87 < σ 98 43 ∧ r ≠ 60 ∧ r ≠ 62 ∧ r ≠ 61)) → Q 0 σ) (k2 : (σ 98 87 < σ 98 43) → (r = 60 ∨ (r ≠ 60 ∧ r = 62) ∨ (r ≠ 60 ∧ r ≠ 62 ∧ r = 61)) → -2147483648 ≤ σ 98 87 + 1 ∧ σ 98 87 + 1 < (2147483648 : Int)) (k3 : (σ 98 87 < σ 98 43) → (r = 60 ∨ (r ≠ 60 ∧ r = 62) ∨ (r ≠ 60 ∧ r ≠ 62 ∧ r = 61)) → zR G MX12_reads 158 [zr 98, zi v1, zi r, zi 0, zi 0] [] (zup σ 98 87 (σ 98 87 + 1)) Q) : zR G MX12_reads 111 [zr 98, zi v1, zu, zu, zu] [zi r] σ Q := by
  have J143 : (σ 98 87 < σ 98 43) → (r = 60 ∨ (r ≠ 60 ∧ r = 62) ∨ (r ≠ 60 ∧ r ≠ 62 ∧ r = 61)) → zR G MX12_reads 143 [zr 98, zi v1, zi r, zu, zu] [] σ Q := by
    intro h1 h6
    refine z_aload_n dX12_reads_143 rfl rfl ?_
    refine z_dup dX12_reads_144 rfl ?_
    refine z_getfI (k := 87) flRX12_320 rfl rfl dX12_reads_145 ?_
    refine z_iconst dX12_reads_148 (by unfold zIn; decide) ?_
    have s2 : -2147483648 ≤ σ 98 87 + 1 ∧ σ 98 87 + 1 < (2147483648 : Int) := k2 h1 h6
    refine z_iaddN dX12_reads_149 s2 ?_
    refine z_putI (k := 87) fpRX12_320 rfl rfl dX12_reads_150 ?_
    refine z_iconst dX12_reads_153 (by unfold zIn; decide) ?_
    refine z_istore_n (ls' := [zr 98, zi v1, zi r, zi 0, zu]) dX12_reads_154 rfl (by decide) rfl ?_
    refine z_iconst dX12_reads_155 (by unfold zIn; decide) ?_
    refine z_istore (ls' := [zr 98, zi v1, zi r, zi 0, zi 0]) dX12_reads_156 (by decide) rfl ?_
    exact k3 h1 h6
  have J141 : (σ 98 43 ≤ σ 98 87 ∨ (σ 98 87 < σ 98 43 ∧ r ≠ 60 ∧ r ≠ 62 ∧ r ≠ 61)) → zR G MX12_reads 141 [zr 98, zi v1, zi r, zu, zu] [] σ Q := by
    intro h5
    refine z_iconst dX12_reads_141 (by unfold zIn; decide) ?_
    exact z_iretz rfl (by decide) dX12_reads_142 (k1 h5)
  refine z_istore_n (ls' := [zr 98, zi v1, zi r, zu, zu]) dX12_reads_111 rfl (by decide) rfl ?_
  refine z_aload_n dX12_reads_112 rfl rfl ?_
  refine z_getfI (k := 87) flRX12_320 rfl rfl dX12_reads_113 ?_
  refine z_aload_n dX12_reads_116 rfl rfl ?_
  refine z_getfI (k := 43) flRX12_306 rfl rfl dX12_reads_117 ?_
  refine z_icmp_ge dX12_reads_120 (tgt := 141) (by decide) (fun h1 => ?_) (fun h1 => ?_)
  · skip
    exact J141 (Or.inl h1)
  · skip
    refine z_iload_n dX12_reads_123 rfl rfl ?_
    refine z_bipush (x := 60) dX12_reads_124 (by decide +kernel) (by unfold zIn; decide) ?_
    refine z_icmp_eq dX12_reads_126 (tgt := 143) (by decide) (fun h2 => ?_) (fun h2 => ?_)
    · skip
      exact J143 h1 (Or.inl h2)
    · skip
      refine z_iload_n dX12_reads_129 rfl rfl ?_
      refine z_bipush (x := 62) dX12_reads_130 (by decide +kernel) (by unfold zIn; decide) ?_
      refine z_icmp_eq dX12_reads_132 (tgt := 143) (by decide) (fun h3 => ?_) (fun h3 => ?_)
      · skip
        exact J143 h1 (Or.inr (Or.inl ⟨h2, h3⟩))
      · skip
        refine z_iload_n dX12_reads_135 rfl rfl ?_
        refine z_bipush (x := 61) dX12_reads_136 (by decide +kernel) (by unfold zIn; decide) ?_
        refine z_icmp_eq dX12_reads_138 (tgt := 143) (by decide) (fun h4 => ?_) (fun h4 => ?_)
        · skip
          exact J143 h1 (Or.inr (Or.inr ⟨h2, h3, h4⟩))
        · skip
          exact J141 (Or.inr ⟨h1, h2, h3, h4⟩)
set_option maxRecDepth 20000 in
set_option maxHeartbeats 1000000 in
theorem TX12_reads_158 {G : zG} {σ : zS} {Q : Int → zS → Prop} {v1 v2 v3 v4 : Int}  (k1 : (σ 98 87 < σ 98 43) → zO G MX12_letter [zr 98] σ (fun rr σ' => zR G MX12_reads 173 [zr 98, zi v1, zi v2, zi v3, zi v4] [zi rr] σ' Q)) (k2 : (σ 98 43 ≤ σ 98 87) → (v4 ≠ 0) → (0 : Int) ≤ σ 98 84 ∧ σ 98 84 < (110 : Int)) (k3 : (σ 98 43 ≤ σ 98 87) → (v4 ≠ 0) → -2147483648 ≤ σ 98 84 + 1 ∧ σ 98 84 + 1 < (2147483648 : Int)) (k4 : (σ 98 43 ≤ σ 98 87) → (v4 ≠ 0) → Q 1 (zup (zup (zup σ 163 (σ 98 84) v2) 164 (σ 98 84) v3) 98 84 (σ 98 84 + 1))) (k5 : (σ 98 43 ≤ σ 98 87) → (v4 = 0) → Q 0 σ) : zR G MX12_reads 158 [zr 98, zi v1, zi v2, zi v3, zi v4] [] σ Q := by
  have J231 : (σ 98 43 ≤ σ 98 87) → zR G MX12_reads 231 [zr 98, zi v1, zi v2, zi v3, zi v4] [] σ Q := by
    intro h1
    refine z_iload dX12_reads_231 rfl ?_
    refine z_if_ne dX12_reads_233 (tgt := 238) (by decide) (fun h2 => ?_) (fun h2 => ?_)
    · skip
      refine z_aload_n dX12_reads_238 rfl rfl ?_
      refine z_getfR (k := 79) flRX12_208 rfl rfl dX12_reads_239 ?_
      refine z_aload_n dX12_reads_242 rfl rfl ?_
      refine z_getfI (k := 84) flRX12_327 rfl rfl dX12_reads_243 ?_
      refine z_iload_n dX12_reads_246 rfl rfl ?_
      have s2 : (0 : Int) ≤ σ 98 84 ∧ σ 98 84 < (110 : Int) := k2 h1 h2
      refine z_iast rfl s2.1 s2.2 dX12_reads_247 ?_
      refine z_aload_n dX12_reads_248 rfl rfl ?_
      refine z_getfR (k := 80) flRX12_211 rfl rfl dX12_reads_249 ?_
      refine z_aload_n dX12_reads_252 rfl rfl ?_
      refine z_getfE (k := 84) (v := σ 98 84) flRX12_327 rfl rfl (zup_of (by decide)) dX12_reads_253 ?_
      refine z_iload_n dX12_reads_256 rfl rfl ?_
      refine z_iast rfl s2.1 s2.2 dX12_reads_257 ?_
      refine z_aload_n dX12_reads_258 rfl rfl ?_
      refine z_dup dX12_reads_259 rfl ?_
      refine z_getfE (k := 84) (v := σ 98 84) flRX12_327 rfl rfl ((zup_of (by decide)).trans (zup_of (by decide))) dX12_reads_260 ?_
      refine z_iconst dX12_reads_263 (by unfold zIn; decide) ?_
      have s3 : -2147483648 ≤ σ 98 84 + 1 ∧ σ 98 84 + 1 < (2147483648 : Int) := k3 h1 h2
      refine z_iaddN dX12_reads_264 s3 ?_
      refine z_putI (k := 84) fpRX12_327 rfl rfl dX12_reads_265 ?_
      refine z_iconst dX12_reads_268 (by unfold zIn; decide) ?_
      exact z_iretz rfl (by decide) dX12_reads_269 (k4 h1 h2)
    · skip
      refine z_iconst dX12_reads_236 (by unfold zIn; decide) ?_
      exact z_iretz rfl (by decide) dX12_reads_237 (k5 h1 h2)
  refine z_aload_n dX12_reads_158 rfl rfl ?_
  refine z_getfI (k := 87) flRX12_320 rfl rfl dX12_reads_159 ?_
  refine z_aload_n dX12_reads_162 rfl rfl ?_
  refine z_getfI (k := 43) flRX12_306 rfl rfl dX12_reads_163 ?_
  refine z_icmp_ge dX12_reads_166 (tgt := 231) (by decide) (fun h1 => ?_) (fun h1 => ?_)
  · skip
    exact J231 h1
  · skip
    refine z_aload_n dX12_reads_169 rfl rfl ?_
    refine z_callv (as := []) (st := []) mkX12_letter lkRX12_323 rfl rfl rfl (by decide) (Nat.le_of_ble_eq_true rfl) rfl dX12_reads_170 (k1 h1)
set_option maxRecDepth 20000 in
set_option maxHeartbeats 1000000 in
theorem TX12_reads_173 {G : zG} {σ : zS} {Q : Int → zS → Prop} {v1 v2 v3 v4 r : Int}  (k1 : (48 ≤ r) → zO G MX12_letter [zr 98] σ (fun rr σ' => zR G MX12_reads 182 [zr 98, zi v1, zi v2, zi v3, zi v4] [zi rr] σ' Q)) (k2 : (r < 48) → (v4 ≠ 0) → (0 : Int) ≤ σ 98 84 ∧ σ 98 84 < (110 : Int)) (k3 : (r < 48) → (v4 ≠ 0) → -2147483648 ≤ σ 98 84 + 1 ∧ σ 98 84 + 1 < (2147483648 : Int)) (k4 : (r < 48) → (v4 ≠ 0) → Q 1 (zup (zup (zup σ 163 (σ 98 84) v2) 164 (σ 98 84) v3) 98 84 (σ 98 84 + 1))) (k5 : (r < 48) → (v4 = 0) → Q 0 σ) : zR G MX12_reads 173 [zr 98, zi v1, zi v2, zi v3, zi v4] [zi r] σ Q := by
  have J231 : (r < 48) → zR G MX12_reads 231 [zr 98, zi v1, zi v2, zi v3, zi v4] [] σ Q := by
    intro h1
    refine z_iload dX12_reads_231 rfl ?_
    refine z_if_ne dX12_reads_233 (tgt := 238) (by decide) (fun h2 => ?_) (fun h2 => ?_)
    · skip
      refine z_aload_n dX12_reads_238 rfl rfl ?_
      refine z_getfR (k := 79) flRX12_208 rfl rfl dX12_reads_239 ?_
      refine z_aload_n dX12_reads_242 rfl rfl ?_
      refine z_getfI (k := 84) flRX12_327 rfl rfl dX12_reads_243 ?_
      refine z_iload_n dX12_reads_246 rfl rfl ?_
      have s2 : (0 : Int) ≤ σ 98 84 ∧ σ 98 84 < (110 : Int) := k2 h1 h2
      refine z_iast rfl s2.1 s2.2 dX12_reads_247 ?_
      refine z_aload_n dX12_reads_248 rfl rfl ?_
      refine z_getfR (k := 80) flRX12_211 rfl rfl dX12_reads_249 ?_
      refine z_aload_n dX12_reads_252 rfl rfl ?_
      refine z_getfE (k := 84) (v := σ 98 84) flRX12_327 rfl rfl (zup_of (by decide)) dX12_reads_253 ?_
      refine z_iload_n dX12_reads_256 rfl rfl ?_
      refine z_iast rfl s2.1 s2.2 dX12_reads_257 ?_
      refine z_aload_n dX12_reads_258 rfl rfl ?_
      refine z_dup dX12_reads_259 rfl ?_
      refine z_getfE (k := 84) (v := σ 98 84) flRX12_327 rfl rfl ((zup_of (by decide)).trans (zup_of (by decide))) dX12_reads_260 ?_
      refine z_iconst dX12_reads_263 (by unfold zIn; decide) ?_
      have s3 : -2147483648 ≤ σ 98 84 + 1 ∧ σ 98 84 + 1 < (2147483648 : Int) := k3 h1 h2
      refine z_iaddN dX12_reads_264 s3 ?_
      refine z_putI (k := 84) fpRX12_327 rfl rfl dX12_reads_265 ?_
      refine z_iconst dX12_reads_268 (by unfold zIn; decide) ?_
      exact z_iretz rfl (by decide) dX12_reads_269 (k4 h1 h2)
    · skip
      refine z_iconst dX12_reads_236 (by unfold zIn; decide) ?_
      exact z_iretz rfl (by decide) dX12_reads_237 (k5 h1 h2)
  refine z_bipush (x := 48) dX12_reads_173 (by decide +kernel) (by unfold zIn; decide) ?_
  refine z_icmp_lt dX12_reads_175 (tgt := 231) (by decide) (fun h1 => ?_) (fun h1 => ?_)
  · skip
    exact J231 h1
  · skip
    refine z_aload_n dX12_reads_178 rfl rfl ?_
    refine z_callv (as := []) (st := []) mkX12_letter lkRX12_323 rfl rfl rfl (by decide) (Nat.le_of_ble_eq_true rfl) rfl dX12_reads_179 (k1 h1)
set_option maxRecDepth 20000 in
set_option maxHeartbeats 1000000 in
theorem TX12_reads_182 {G : zG} {σ : zS} {Q : Int → zS → Prop} {v1 v2 v3 v4 r : Int}  (k1 : (r ≤ 57) → (v4 < 4) → (v4 ≤ 0 ∨ (0 < v4 ∧ v3 ≠ 0)) → -2147483648 ≤ 10 * v3 ∧ 10 * v3 < (2147483648 : Int)) (k2 : (r ≤ 57) → (v4 < 4) → (v4 ≤ 0 ∨ (0 < v4 ∧ v3 ≠ 0)) → zO G MX12_letter [zr 98] σ (fun rr σ' => zR G MX12_reads 210 [zr 98, zi v1, zi v2, zi v3, zi v4] [zi rr, zi (10 * v3)] σ' Q)) (k3 : (57 < r ∨ (r ≤ 57 ∧ 4 ≤ v4) ∨ (r ≤ 57 ∧ v4 < 4 ∧ 0 < v4 ∧ v3 = 0)) → (v4 ≠ 0) → (0 : Int) ≤ σ 98 84 ∧ σ 98 84 < (110 : Int)) (k4 : (57 < r ∨ (r ≤ 57 ∧ 4 ≤ v4) ∨ (r ≤ 57 ∧ v4 < 4 ∧ 0 < v4 ∧ v3 = 0)) → (v4 ≠ 0) → -2147483648 ≤ σ 98 84 + 1 ∧ σ 98 84 + 1 < (2147483648 : Int)) (k5 : (57 < r ∨ (r ≤ 57 ∧ 4 ≤ v4) ∨ (r ≤ 57 ∧ v4 < 4 ∧ 0 < v4 ∧ v3 = 0)) → (v4 ≠ 0) → Q 1 (zup (zup (zup σ 163 (σ 98 84) v2) 164 (σ 98 84) v3) 98 84 (σ 98 84 + 1))) (k6 : (57 < r ∨ (r ≤ 57 ∧ 4 ≤ v4) ∨ (r ≤ 57 ∧ v4 < 4 ∧ 0 < v4 ∧ v3 = 0)) → (v4 = 0) → Q 0 σ) : zR G MX12_reads 182 [zr 98, zi v1, zi v2, zi v3, zi v4] [zi r] σ Q := by
  have J231 : (57 < r ∨ (r ≤ 57 ∧ 4 ≤ v4) ∨ (r ≤ 57 ∧ v4 < 4 ∧ 0 < v4 ∧ v3 = 0)) → zR G MX12_reads 231 [zr 98, zi v1, zi v2, zi v3, zi v4] [] σ Q := by
    intro h6
    refine z_iload dX12_reads_231 rfl ?_
    refine z_if_ne dX12_reads_233 (tgt := 238) (by decide) (fun h7 => ?_) (fun h7 => ?_)
    · skip
      refine z_aload_n dX12_reads_238 rfl rfl ?_
      refine z_getfR (k := 79) flRX12_208 rfl rfl dX12_reads_239 ?_
      refine z_aload_n dX12_reads_242 rfl rfl ?_
      refine z_getfI (k := 84) flRX12_327 rfl rfl dX12_reads_243 ?_
      refine z_iload_n dX12_reads_246 rfl rfl ?_
      have s3 : (0 : Int) ≤ σ 98 84 ∧ σ 98 84 < (110 : Int) := k3 h6 h7
      refine z_iast rfl s3.1 s3.2 dX12_reads_247 ?_
      refine z_aload_n dX12_reads_248 rfl rfl ?_
      refine z_getfR (k := 80) flRX12_211 rfl rfl dX12_reads_249 ?_
      refine z_aload_n dX12_reads_252 rfl rfl ?_
      refine z_getfE (k := 84) (v := σ 98 84) flRX12_327 rfl rfl (zup_of (by decide)) dX12_reads_253 ?_
      refine z_iload_n dX12_reads_256 rfl rfl ?_
      refine z_iast rfl s3.1 s3.2 dX12_reads_257 ?_
      refine z_aload_n dX12_reads_258 rfl rfl ?_
      refine z_dup dX12_reads_259 rfl ?_
      refine z_getfE (k := 84) (v := σ 98 84) flRX12_327 rfl rfl ((zup_of (by decide)).trans (zup_of (by decide))) dX12_reads_260 ?_
      refine z_iconst dX12_reads_263 (by unfold zIn; decide) ?_
      have s4 : -2147483648 ≤ σ 98 84 + 1 ∧ σ 98 84 + 1 < (2147483648 : Int) := k4 h6 h7
      refine z_iaddN dX12_reads_264 s4 ?_
      refine z_putI (k := 84) fpRX12_327 rfl rfl dX12_reads_265 ?_
      refine z_iconst dX12_reads_268 (by unfold zIn; decide) ?_
      exact z_iretz rfl (by decide) dX12_reads_269 (k5 h6 h7)
    · skip
      refine z_iconst dX12_reads_236 (by unfold zIn; decide) ?_
      exact z_iretz rfl (by decide) dX12_reads_237 (k6 h6 h7)
  have J202 : (r ≤ 57) → (v4 < 4) → (v4 ≤ 0 ∨ (0 < v4 ∧ v3 ≠ 0)) → zR G MX12_reads 202 [zr 98, zi v1, zi v2, zi v3, zi v4] [] σ Q := by
    intro h1 h2 h5
    refine z_bipush (x := 10) dX12_reads_202 (by decide +kernel) (by unfold zIn; decide) ?_
    refine z_iload_n dX12_reads_204 rfl rfl ?_
    have s1 : -2147483648 ≤ 10 * v3 ∧ 10 * v3 < (2147483648 : Int) := k1 h1 h2 h5
    refine z_imulN dX12_reads_205 s1 ?_
    refine z_aload_n dX12_reads_206 rfl rfl ?_
    refine z_callv (as := []) (st := [zi (10 * v3)]) mkX12_letter lkRX12_323 rfl rfl rfl (by decide) (Nat.le_of_ble_eq_true rfl) rfl dX12_reads_207 (k2 h1 h2 h5)
  refine z_bipush (x := 57) dX12_reads_182 (by decide +kernel) (by unfold zIn; decide) ?_
  refine z_icmp_gt dX12_reads_184 (tgt := 231) (by decide) (fun h1 => ?_) (fun h1 => ?_)
  · skip
    exact J231 (Or.inl h1)
  · skip
    refine z_iload dX12_reads_187 rfl ?_
    refine z_iconst dX12_reads_189 (by unfold zIn; decide) ?_
    refine z_icmp_ge dX12_reads_190 (tgt := 231) (by decide) (fun h2 => ?_) (fun h2 => ?_)
    · skip
      exact J231 (Or.inr (Or.inl ⟨h1, h2⟩))
    · skip
      refine z_iload dX12_reads_193 rfl ?_
      refine z_if_le dX12_reads_195 (tgt := 202) (by decide) (fun h3 => ?_) (fun h3 => ?_)
      · skip
        exact J202 h1 h2 (Or.inl h3)
      · skip
        refine z_iload_n dX12_reads_198 rfl rfl ?_
        refine z_if_eq dX12_reads_199 (tgt := 231) (by decide) (fun h4 => ?_) (fun h4 => ?_)
        · skip
          exact J231 (Or.inr (Or.inr ⟨h1, h2, h3, h4⟩))
        · skip
          exact J202 h1 h2 (Or.inr ⟨h3, h4⟩)
set_option maxRecDepth 20000 in
set_option maxHeartbeats 1000000 in
theorem TX12_reads_210 {G : zG} {σ : zS} {Q : Int → zS → Prop} {v1 v2 v3 v4 r t1 : Int}  (k1 : -2147483648 ≤ t1 + r ∧ t1 + r < (2147483648 : Int)) (k2 : -2147483648 ≤ (t1 + r) - 48 ∧ (t1 + r) - 48 < (2147483648 : Int)) (k3 : -2147483648 ≤ v4 + 1 ∧ v4 + 1 < (2147483648 : Int)) (k4 : -2147483648 ≤ σ 98 87 + 1 ∧ σ 98 87 + 1 < (2147483648 : Int)) (k5 : zR G MX12_reads 158 [zr 98, zi v1, zi v2, zi ((t1 + r) - 48), zi (v4 + 1)] [] (zup σ 98 87 (σ 98 87 + 1)) Q) : zR G MX12_reads 210 [zr 98, zi v1, zi v2, zi v3, zi v4] [zi r, zi t1] σ Q := by
  have s1 : -2147483648 ≤ t1 + r ∧ t1 + r < (2147483648 : Int) := k1
  refine z_iaddN dX12_reads_210 s1 ?_
  refine z_bipush (x := 48) dX12_reads_211 (by decide +kernel) (by unfold zIn; decide) ?_
  have s2 : -2147483648 ≤ (t1 + r) - 48 ∧ (t1 + r) - 48 < (2147483648 : Int) := k2
  refine z_isubN dX12_reads_213 s2 ?_
  refine z_istore_n (ls' := [zr 98, zi v1, zi v2, zi ((t1 + r) - 48), zi v4]) dX12_reads_214 rfl (by decide) rfl ?_
  have s3 : -2147483648 ≤ v4 + 1 ∧ v4 + 1 < (2147483648 : Int) := k3
  refine z_iincN (ls' := [zr 98, zi v1, zi v2, zi ((t1 + r) - 48), zi (v4 + 1)]) dX12_reads_215 rfl (by decide) s3 rfl ?_
  refine z_aload_n dX12_reads_218 rfl rfl ?_
  refine z_dup dX12_reads_219 rfl ?_
  refine z_getfI (k := 87) flRX12_320 rfl rfl dX12_reads_220 ?_
  refine z_iconst dX12_reads_223 (by unfold zIn; decide) ?_
  have s4 : -2147483648 ≤ σ 98 87 + 1 ∧ σ 98 87 + 1 < (2147483648 : Int) := k4
  refine z_iaddN dX12_reads_224 s4 ?_
  refine z_putI (k := 87) fpRX12_320 rfl rfl dX12_reads_225 ?_
  refine z_goto dX12_reads_228 (tgt := 158) (by decide) ?_
  exact k5
set_option maxRecDepth 20000 in
set_option maxHeartbeats 1000000 in
theorem TX12_closes {G : zG} {σ : zS} {Q : Int → zS → Prop}  (k1 : zR G MX12_closes 0 [zr 98] [] σ Q) : zO G MX12_closes [zr 98] σ Q := zO_of (by decide) (Nat.le_of_ble_eq_true rfl) rfl k1
set_option maxRecDepth 20000 in
set_option maxHeartbeats 1000000 in
theorem TX12_closes_0 {G : zG} {σ : zS} {Q : Int → zS → Prop}  (k1 : (0 < σ 98 86) → -2147483648 ≤ σ 98 86 - 1 ∧ σ 98 86 - 1 < (2147483648 : Int)) (k2 : (0 < σ 98 86) → (0 : Int) ≤ σ 98 86 - 1 ∧ σ 98 86 - 1 < (300 : Int)) (k3 : (0 < σ 98 86) → (σ 166 (σ 98 86 - 1) = 33) → -2147483648 ≤ σ 98 88 - 1 ∧ σ 98 88 - 1 < (2147483648 : Int)) (k4 : (0 < σ 98 86) → (σ 166 (σ 98 86 - 1) = 33) → -2147483648 ≤ σ 98 85 + 1 ∧ σ 98 85 + 1 < (2147483648 : Int)) (k5 : (0 < σ 98 86) → (σ 166 (σ 98 86 - 1) = 33) → (0 : Int) ≤ σ 98 85 ∧ σ 98 85 < (500 : Int)) (k6 : (0 < σ 98 86) → (σ 166 (σ 98 86 - 1) = 33) → zR G MX12_closes 0 [zr 98] [] (zup (zup (zup (zup σ 98 86 (σ 98 86 - 1)) 98 88 (σ 98 88 - 1)) 98 85 (σ 98 85 + 1)) 165 (σ 98 85) (-1)) Q) (k7 : (σ 98 86 ≤ 0 ∨ (0 < σ 98 86 ∧ σ 166 (σ 98 86 - 1) ≠ 33)) → Q 0 σ) : zR G MX12_closes 0 [zr 98] [] σ Q := by
  have J63 : (σ 98 86 ≤ 0 ∨ (0 < σ 98 86 ∧ σ 166 (σ 98 86 - 1) ≠ 33)) → zR G MX12_closes 63 [zr 98] [] σ Q := by
    intro h3
    exact z_vret rfl dX12_closes_63 (k7 h3)
  refine z_aload_n dX12_closes_0 rfl rfl ?_
  refine z_getfI (k := 86) flRX12_330 rfl rfl dX12_closes_1 ?_
  refine z_if_le dX12_closes_4 (tgt := 63) (by decide) (fun h1 => ?_) (fun h1 => ?_)
  · skip
    exact J63 (Or.inl h1)
  · skip
    refine z_aload_n dX12_closes_7 rfl rfl ?_
    refine z_getfR (k := 82) flRX12_217 rfl rfl dX12_closes_8 ?_
    refine z_aload_n dX12_closes_11 rfl rfl ?_
    refine z_getfI (k := 86) flRX12_330 rfl rfl dX12_closes_12 ?_
    refine z_iconst dX12_closes_15 (by unfold zIn; decide) ?_
    have s1 : -2147483648 ≤ σ 98 86 - 1 ∧ σ 98 86 - 1 < (2147483648 : Int) := k1 h1
    refine z_isubN dX12_closes_16 s1 ?_
    have s2 : (0 : Int) ≤ σ 98 86 - 1 ∧ σ 98 86 - 1 < (300 : Int) := k2 h1
    refine z_iald rfl s2.1 s2.2 dX12_closes_17 ?_
    refine z_bipush (x := 33) dX12_closes_18 (by decide +kernel) (by unfold zIn; decide) ?_
    refine z_icmp_ne dX12_closes_20 (tgt := 63) (by decide) (fun h2 => ?_) (fun h2 => ?_)
    · skip
      exact J63 (Or.inr ⟨h1, h2⟩)
    · skip
      refine z_aload_n dX12_closes_23 rfl rfl ?_
      refine z_dup dX12_closes_24 rfl ?_
      refine z_getfI (k := 86) flRX12_330 rfl rfl dX12_closes_25 ?_
      refine z_iconst dX12_closes_28 (by unfold zIn; decide) ?_
      refine z_isubN dX12_closes_29 s1 ?_
      refine z_putI (k := 86) fpRX12_330 rfl rfl dX12_closes_30 ?_
      refine z_aload_n dX12_closes_33 rfl rfl ?_
      refine z_dup dX12_closes_34 rfl ?_
      refine z_getfE (k := 88) (v := σ 98 88) flRX12_333 rfl rfl (zup_oi (by decide)) dX12_closes_35 ?_
      refine z_iconst dX12_closes_38 (by unfold zIn; decide) ?_
      have s3 : -2147483648 ≤ σ 98 88 - 1 ∧ σ 98 88 - 1 < (2147483648 : Int) := k3 h1 h2
      refine z_isubN dX12_closes_39 s3 ?_
      refine z_putI (k := 88) fpRX12_333 rfl rfl dX12_closes_40 ?_
      refine z_aload_n dX12_closes_43 rfl rfl ?_
      refine z_getfR (k := 81) flRX12_214 rfl rfl dX12_closes_44 ?_
      refine z_aload_n dX12_closes_47 rfl rfl ?_
      refine z_dup dX12_closes_48 rfl ?_
      refine z_getfE (k := 85) (v := σ 98 85) flRX12_336 rfl rfl ((zup_oi (by decide)).trans (zup_oi (by decide))) dX12_closes_49 ?_
      refine z_dup_x1 dX12_closes_52 rfl rfl ?_
      refine z_iconst dX12_closes_53 (by unfold zIn; decide) ?_
      have s4 : -2147483648 ≤ σ 98 85 + 1 ∧ σ 98 85 + 1 < (2147483648 : Int) := k4 h1 h2
      refine z_iaddN dX12_closes_54 s4 ?_
      refine z_putI (k := 85) fpRX12_336 rfl rfl dX12_closes_55 ?_
      refine z_iconst dX12_closes_58 (by unfold zIn; decide) ?_
      have s5 : (0 : Int) ≤ σ 98 85 ∧ σ 98 85 < (500 : Int) := k5 h1 h2
      refine z_iast rfl s5.1 s5.2 dX12_closes_59 ?_
      refine z_goto dX12_closes_60 (tgt := 0) (by decide) ?_
      exact k6 h1 h2
set_option maxRecDepth 20000 in
set_option maxHeartbeats 1000000 in
theorem TX12_pops {G : zG} {σ : zS} {Q : Int → zS → Prop} {a1 : Int}  (k1 : zR G MX12_pops 0 [zr 98, zi a1] [] σ Q) : zO G MX12_pops [zr 98, zi a1] σ Q := zO_of (by decide) (Nat.le_of_ble_eq_true rfl) rfl k1
set_option maxRecDepth 20000 in
set_option maxHeartbeats 1000000 in
theorem TX12_pops_0 {G : zG} {σ : zS} {Q : Int → zS → Prop} {v1 : Int}  (k1 : (0 < σ 98 86) → -2147483648 ≤ σ 98 86 - 1 ∧ σ 98 86 - 1 < (2147483648 : Int)) (k2 : (0 < σ 98 86) → (0 : Int) ≤ σ 98 86 - 1 ∧ σ 98 86 - 1 < (300 : Int)) (k3 : (0 < σ 98 86) → (σ 166 (σ 98 86 - 1) = 38 ∨ (σ 166 (σ 98 86 - 1) ≠ 38 ∧ σ 166 (σ 98 86 - 1) = 124 ∧ v1 ≠ 38)) → -2147483648 ≤ σ 98 86 - 1 ∧ σ 98 86 - 1 < (2147483648 : Int)) (k4 : (0 < σ 98 86) → (σ 166 (σ 98 86 - 1) = 38 ∨ (σ 166 (σ 98 86 - 1) ≠ 38 ∧ σ 166 (σ 98 86 - 1) = 124 ∧ v1 ≠ 38)) → -2147483648 ≤ σ 98 85 + 1 ∧ σ 98 85 + 1 < (2147483648 : Int)) (k5 : (0 < σ 98 86) → (σ 166 (σ 98 86 - 1) = 38 ∨ (σ 166 (σ 98 86 - 1) ≠ 38 ∧ σ 166 (σ 98 86 - 1) = 124 ∧ v1 ≠ 38)) → (0 : Int) ≤ σ 98 86 - 1 ∧ σ 98 86 - 1 < (300 : Int)) (k6 : (0 < σ 98 86) → (σ 166 (σ 98 86 - 1) = 38 ∨ (σ 166 (σ 98 86 - 1) ≠ 38 ∧ σ 166 (σ 98 86 - 1) = 124 ∧ v1 ≠ 38)) → (σ 166 (σ 98 86 - 1) ≠ 38) → (0 : Int) ≤ σ 98 85 ∧ σ 98 85 < (500 : Int)) (k7 : (0 < σ 98 86) → (σ 166 (σ 98 86 - 1) = 38 ∨ (σ 166 (σ 98 86 - 1) ≠ 38 ∧ σ 166 (σ 98 86 - 1) = 124 ∧ v1 ≠ 38)) → (σ 166 (σ 98 86 - 1) ≠ 38) → zR G MX12_pops 0 [zr 98, zi v1] [] (zup (zup (zup σ 98 86 (σ 98 86 - 1)) 98 85 (σ 98 85 + 1)) 165 (σ 98 85) (-3)) Q) (k8 : (0 < σ 98 86) → (σ 166 (σ 98 86 - 1) = 38 ∨ (σ 166 (σ 98 86 - 1) ≠ 38 ∧ σ 166 (σ 98 86 - 1) = 124 ∧ v1 ≠ 38)) → (σ 166 (σ 98 86 - 1) = 38) → (0 : Int) ≤ σ 98 85 ∧ σ 98 85 < (500 : Int)) (k9 : (0 < σ 98 86) → (σ 166 (σ 98 86 - 1) = 38 ∨ (σ 166 (σ 98 86 - 1) ≠ 38 ∧ σ 166 (σ 98 86 - 1) = 124 ∧ v1 ≠ 38)) → (σ 166 (σ 98 86 - 1) = 38) → zR G MX12_pops 0 [zr 98, zi v1] [] (zup (zup (zup σ 98 86 (σ 98 86 - 1)) 98 85 (σ 98 85 + 1)) 165 (σ 98 85) (-2)) Q) (k10 : (σ 98 86 ≤ 0 ∨ (0 < σ 98 86 ∧ σ 166 (σ 98 86 - 1) ≠ 38 ∧ σ 166 (σ 98 86 - 1) ≠ 124) ∨ (0 < σ 98 86 ∧ σ 166 (σ 98 86 - 1) ≠ 38 ∧ σ 166 (σ 98 86 - 1) = 124 ∧ v1 = 38)) → Q 0 σ) : zR G MX12_pops 0 [zr 98, zi v1] [] σ Q := by
  have J95 : (σ 98 86 ≤ 0 ∨ (0 < σ 98 86 ∧ σ 166 (σ 98 86 - 1) ≠ 38 ∧ σ 166 (σ 98 86 - 1) ≠ 124) ∨ (0 < σ 98 86 ∧ σ 166 (σ 98 86 - 1) ≠ 38 ∧ σ 166 (σ 98 86 - 1) = 124 ∧ v1 = 38)) → zR G MX12_pops 95 [zr 98, zi v1] [] σ Q := by
    intro h7
    exact z_vret rfl dX12_pops_95 (k10 h7)
  have J45 : (0 < σ 98 86) → (σ 166 (σ 98 86 - 1) = 38 ∨ (σ 166 (σ 98 86 - 1) ≠ 38 ∧ σ 166 (σ 98 86 - 1) = 124 ∧ v1 ≠ 38)) → zR G MX12_pops 45 [zr 98, zi v1] [] σ Q := by
    intro h1 h5
    refine z_aload_n dX12_pops_45 rfl rfl ?_
    refine z_dup dX12_pops_46 rfl ?_
    refine z_getfI (k := 86) flRX12_330 rfl rfl dX12_pops_47 ?_
    refine z_iconst dX12_pops_50 (by unfold zIn; decide) ?_
    have s3 : -2147483648 ≤ σ 98 86 - 1 ∧ σ 98 86 - 1 < (2147483648 : Int) := k3 h1 h5
    refine z_isubN dX12_pops_51 s3 ?_
    refine z_putI (k := 86) fpRX12_330 rfl rfl dX12_pops_52 ?_
    refine z_aload_n dX12_pops_55 rfl rfl ?_
    refine z_getfR (k := 81) flRX12_214 rfl rfl dX12_pops_56 ?_
    refine z_aload_n dX12_pops_59 rfl rfl ?_
    refine z_dup dX12_pops_60 rfl ?_
    refine z_getfE (k := 85) (v := σ 98 85) flRX12_336 rfl rfl (zup_oi (by decide)) dX12_pops_61 ?_
    refine z_dup_x1 dX12_pops_64 rfl rfl ?_
    refine z_iconst dX12_pops_65 (by unfold zIn; decide) ?_
    have s4 : -2147483648 ≤ σ 98 85 + 1 ∧ σ 98 85 + 1 < (2147483648 : Int) := k4 h1 h5
    refine z_iaddN dX12_pops_66 s4 ?_
    refine z_putI (k := 85) fpRX12_336 rfl rfl dX12_pops_67 ?_
    refine z_aload_n dX12_pops_70 rfl rfl ?_
    refine z_getfR (k := 82) flRX12_217 rfl rfl dX12_pops_71 ?_
    refine z_aload_n dX12_pops_74 rfl rfl ?_
    refine z_getfE (k := 86) (v := σ 98 86 - 1) flRX12_330 rfl rfl ((zup_oi (by decide)).trans (zup_same)) dX12_pops_75 ?_
    have s5 : (0 : Int) ≤ σ 98 86 - 1 ∧ σ 98 86 - 1 < (300 : Int) := k5 h1 h5
    refine z_ialdE (v := σ 166 (σ 98 86 - 1)) rfl s5.1 s5.2 ((zup_of (by decide)).trans (zup_of (by decide))) dX12_pops_78 ?_
    refine z_bipush (x := 38) dX12_pops_79 (by decide +kernel) (by unfold zIn; decide) ?_
    refine z_icmp_ne dX12_pops_81 (tgt := 89) (by decide) (fun h6 => ?_) (fun h6 => ?_)
    · skip
      refine z_bipush (x := (-3)) dX12_pops_89 (by decide +kernel) (by unfold zIn; decide) ?_
      have s6 : (0 : Int) ≤ σ 98 85 ∧ σ 98 85 < (500 : Int) := k6 h1 h5 h6
      refine z_iast rfl s6.1 s6.2 dX12_pops_91 ?_
      refine z_goto dX12_pops_92 (tgt := 0) (by decide) ?_
      exact k7 h1 h5 h6
    · skip
      refine z_bipush (x := (-2)) dX12_pops_84 (by decide +kernel) (by unfold zIn; decide) ?_
      refine z_goto dX12_pops_86 (tgt := 91) (by decide) ?_
      have s8 : (0 : Int) ≤ σ 98 85 ∧ σ 98 85 < (500 : Int) := k8 h1 h5 h6
      refine z_iast rfl s8.1 s8.2 dX12_pops_91 ?_
      refine z_goto dX12_pops_92 (tgt := 0) (by decide) ?_
      exact k9 h1 h5 h6
  refine z_aload_n dX12_pops_0 rfl rfl ?_
  refine z_getfI (k := 86) flRX12_330 rfl rfl dX12_pops_1 ?_
  refine z_if_le dX12_pops_4 (tgt := 95) (by decide) (fun h1 => ?_) (fun h1 => ?_)
  · skip
    exact J95 (Or.inl h1)
  · skip
    refine z_aload_n dX12_pops_7 rfl rfl ?_
    refine z_getfR (k := 82) flRX12_217 rfl rfl dX12_pops_8 ?_
    refine z_aload_n dX12_pops_11 rfl rfl ?_
    refine z_getfI (k := 86) flRX12_330 rfl rfl dX12_pops_12 ?_
    refine z_iconst dX12_pops_15 (by unfold zIn; decide) ?_
    have s1 : -2147483648 ≤ σ 98 86 - 1 ∧ σ 98 86 - 1 < (2147483648 : Int) := k1 h1
    refine z_isubN dX12_pops_16 s1 ?_
    have s2 : (0 : Int) ≤ σ 98 86 - 1 ∧ σ 98 86 - 1 < (300 : Int) := k2 h1
    refine z_iald rfl s2.1 s2.2 dX12_pops_17 ?_
    refine z_bipush (x := 38) dX12_pops_18 (by decide +kernel) (by unfold zIn; decide) ?_
    refine z_icmp_eq dX12_pops_20 (tgt := 45) (by decide) (fun h2 => ?_) (fun h2 => ?_)
    · skip
      exact J45 h1 (Or.inl h2)
    · skip
      refine z_aload_n dX12_pops_23 rfl rfl ?_
      refine z_getfR (k := 82) flRX12_217 rfl rfl dX12_pops_24 ?_
      refine z_aload_n dX12_pops_27 rfl rfl ?_
      refine z_getfI (k := 86) flRX12_330 rfl rfl dX12_pops_28 ?_
      refine z_iconst dX12_pops_31 (by unfold zIn; decide) ?_
      refine z_isubN dX12_pops_32 s1 ?_
      refine z_iald rfl s2.1 s2.2 dX12_pops_33 ?_
      refine z_bipush (x := 124) dX12_pops_34 (by decide +kernel) (by unfold zIn; decide) ?_
      refine z_icmp_ne dX12_pops_36 (tgt := 95) (by decide) (fun h3 => ?_) (fun h3 => ?_)
      · skip
        exact J95 (Or.inr (Or.inl ⟨h1, h2, h3⟩))
      · skip
        refine z_iload_n dX12_pops_39 rfl rfl ?_
        refine z_bipush (x := 38) dX12_pops_40 (by decide +kernel) (by unfold zIn; decide) ?_
        refine z_icmp_eq dX12_pops_42 (tgt := 95) (by decide) (fun h4 => ?_) (fun h4 => ?_)
        · skip
          exact J95 (Or.inr (Or.inr ⟨h1, h2, h3, h4⟩))
        · skip
          exact J45 h1 (Or.inr ⟨h2, h3, h4⟩)
set_option maxRecDepth 20000 in
set_option maxHeartbeats 1000000 in
theorem TX12_compiles {G : zG} {σ : zS} {Q : Int → zS → Prop}  (k1 : zR G MX12_compiles 29 [zr 98, zi 0, zi 1, zu] [] (zup (zup (zup (zup (zup σ 98 84 0) 98 85 0) 98 86 0) 98 87 0) 98 88 0) Q) : zO G MX12_compiles [zr 98] σ Q := by
  refine zO_of (ls0 := [zr 98, zu, zu, zu]) (by decide) (Nat.le_of_ble_eq_true rfl) rfl ?_
  refine z_aload_n dX12_compiles_0 rfl rfl ?_
  refine z_iconst dX12_compiles_1 (by unfold zIn; decide) ?_
  refine z_putI (k := 84) fpRX12_327 rfl rfl dX12_compiles_2 ?_
  refine z_aload_n dX12_compiles_5 rfl rfl ?_
  refine z_iconst dX12_compiles_6 (by unfold zIn; decide) ?_
  refine z_putI (k := 85) fpRX12_336 rfl rfl dX12_compiles_7 ?_
  refine z_aload_n dX12_compiles_10 rfl rfl ?_
  refine z_iconst dX12_compiles_11 (by unfold zIn; decide) ?_
  refine z_putI (k := 86) fpRX12_330 rfl rfl dX12_compiles_12 ?_
  refine z_aload_n dX12_compiles_15 rfl rfl ?_
  refine z_iconst dX12_compiles_16 (by unfold zIn; decide) ?_
  refine z_putI (k := 87) fpRX12_320 rfl rfl dX12_compiles_17 ?_
  refine z_aload_n dX12_compiles_20 rfl rfl ?_
  refine z_iconst dX12_compiles_21 (by unfold zIn; decide) ?_
  refine z_putI (k := 88) fpRX12_333 rfl rfl dX12_compiles_22 ?_
  refine z_iconst dX12_compiles_25 (by unfold zIn; decide) ?_
  refine z_istore_n (ls' := [zr 98, zi 0, zu, zu]) dX12_compiles_26 rfl (by decide) rfl ?_
  refine z_iconst dX12_compiles_27 (by unfold zIn; decide) ?_
  refine z_istore_n (ls' := [zr 98, zi 0, zi 1, zu]) dX12_compiles_28 rfl (by decide) rfl ?_
  exact k1
set_option maxRecDepth 20000 in
set_option maxHeartbeats 1000000 in
theorem TX12_compiles_29 {G : zG} {σ : zS} {Q : Int → zS → Prop} {v1 v2 : Int}  (k1 : (σ 98 43 ≤ σ 98 87) → (v2 = 0) → (v1 ≤ 0) → zO G MX12_pops [zr 98, zi 124] σ (fun rr σ' => zR G MX12_compiles 303 [zr 98, zi v1, zi v2, zu] [] σ' Q)) (k2 : (σ 98 87 < σ 98 43) → zO G MX12_letter [zr 98] σ (fun rr σ' => zR G MX12_compiles 44 [zr 98, zi v1, zi v2, zu] [zi rr] σ' Q)) (k3 : (σ 98 43 ≤ σ 98 87) → (v2 ≠ 0 ∨ (v2 = 0 ∧ 0 < v1)) → Q (σ 98 43) σ) : zR G MX12_compiles 29 [zr 98, zi v1, zi v2, zu] [] σ Q := by
  have J292 : (σ 98 43 ≤ σ 98 87) → (v2 ≠ 0 ∨ (v2 = 0 ∧ 0 < v1)) → zR G MX12_compiles 292 [zr 98, zi v1, zi v2, zu] [] σ Q := by
    intro h1 h4
    refine z_aload_n dX12_compiles_292 rfl rfl ?_
    refine z_getfI (k := 43) flRX12_306 rfl rfl dX12_compiles_293 ?_
    exact z_ireti rfl dX12_compiles_296 (k3 h1 h4)
  refine z_aload_n dX12_compiles_29 rfl rfl ?_
  refine z_getfI (k := 87) flRX12_320 rfl rfl dX12_compiles_30 ?_
  refine z_aload_n dX12_compiles_33 rfl rfl ?_
  refine z_getfI (k := 43) flRX12_306 rfl rfl dX12_compiles_34 ?_
  refine z_icmp_ge dX12_compiles_37 (tgt := 284) (by decide) (fun h1 => ?_) (fun h1 => ?_)
  · skip
    refine z_iload_n dX12_compiles_284 rfl rfl ?_
    refine z_if_ne dX12_compiles_285 (tgt := 292) (by decide) (fun h2 => ?_) (fun h2 => ?_)
    · skip
      exact J292 h1 (Or.inl h2)
    · skip
      refine z_iload_n dX12_compiles_288 rfl rfl ?_
      refine z_if_le dX12_compiles_289 (tgt := 297) (by decide) (fun h3 => ?_) (fun h3 => ?_)
      · skip
        refine z_aload_n dX12_compiles_297 rfl rfl ?_
        refine z_bipush (x := 124) dX12_compiles_298 (by decide +kernel) (by unfold zIn; decide) ?_
        refine z_callv (as := [zi 124]) (st := []) mkX12_pops lkRX12_346 rfl rfl rfl (by decide) (Nat.le_of_ble_eq_true rfl) rfl dX12_compiles_300 (k1 h1 h2 h3)
      · skip
        exact J292 h1 (Or.inr ⟨h2, h3⟩)
  · skip
    refine z_aload_n dX12_compiles_40 rfl rfl ?_
    refine z_callv (as := []) (st := []) mkX12_letter lkRX12_323 rfl rfl rfl (by decide) (Nat.le_of_ble_eq_true rfl) rfl dX12_compiles_41 (k2 h1)
set_option maxRecDepth 20000 in
set_option maxHeartbeats 1000000 in
theorem TX12_compiles_44 {G : zG} {σ : zS} {Q : Int → zS → Prop} {v1 v2 r : Int}  (k1 : (v2 ≠ 0) → (r = 33 ∨ (r ≠ 33 ∧ r = 40)) → (σ 98 88 ≠ 30) → -2147483648 ≤ σ 98 88 + 1 ∧ σ 98 88 + 1 < (2147483648 : Int)) (k2 : (v2 ≠ 0) → (r = 33 ∨ (r ≠ 33 ∧ r = 40)) → (σ 98 88 ≠ 30) → -2147483648 ≤ σ 98 86 + 1 ∧ σ 98 86 + 1 < (2147483648 : Int)) (k3 : (v2 ≠ 0) → (r = 33 ∨ (r ≠ 33 ∧ r = 40)) → (σ 98 88 ≠ 30) → (0 : Int) ≤ σ 98 86 ∧ σ 98 86 < (300 : Int)) (k4 : (v2 ≠ 0) → (r = 33 ∨ (r ≠ 33 ∧ r = 40)) → (σ 98 88 ≠ 30) → (r = 40) → -2147483648 ≤ v1 + 1 ∧ v1 + 1 < (2147483648 : Int)) (k5 : (v2 ≠ 0) → (r = 33 ∨ (r ≠ 33 ∧ r = 40)) → (σ 98 88 = 30) → Q (σ 98 87) σ) (k6 : (v2 ≠ 0) → (r = 33 ∨ (r ≠ 33 ∧ r = 40)) → (σ 98 88 ≠ 30) → (r ≠ 40) → -2147483648 ≤ σ 98 87 + 1 ∧ σ 98 87 + 1 < (2147483648 : Int)) (k7 : (v2 ≠ 0) → (r = 33 ∨ (r ≠ 33 ∧ r = 40)) → (σ 98 88 ≠ 30) → (r = 40) → -2147483648 ≤ σ 98 87 + 1 ∧ σ 98 87 + 1 < (2147483648 : Int)) (k8 : (v2 = 0 ∨ (v2 ≠ 0 ∧ r ≠ 33 ∧ r ≠ 40)) → (v2 = 0) → (r ≠ 38) → (r ≠ 124) → (r = 41) → (0 < v1) → zO G MX12_pops [zr 98, zi 124] σ (fun rr σ' => zR G MX12_compiles 236 [zr 98, zi v1, zi v2, zi r] [] σ' Q)) (k9 : (v2 = 0 ∨ (v2 ≠ 0 ∧ r ≠ 33 ∧ r ≠ 40)) → (v2 ≠ 0) → zO G MX12_reads [zr 98] σ (fun rr σ' => zR G MX12_compiles 132 [zr 98, zi v1, zi v2, zi r] [zi rr] σ' Q)) (k10 : (v2 = 0 ∨ (v2 ≠ 0 ∧ r ≠ 33 ∧ r ≠ 40)) → (v2 = 0) → (r = 38 ∨ (r ≠ 38 ∧ r = 124)) → zO G MX12_pops [zr 98, zi r] σ (fun rr σ' => zR G MX12_compiles 188 [zr 98, zi v1, zi v2, zi r] [] σ' Q)) (k11 : (v2 = 0 ∨ (v2 ≠ 0 ∧ r ≠ 33 ∧ r ≠ 40)) → (v2 = 0) → (r ≠ 38) → (r ≠ 124) → (r ≠ 41 ∨ (r = 41 ∧ v1 ≤ 0)) → Q (σ 98 87) σ) (k12 : (v2 ≠ 0) → (r = 33 ∨ (r ≠ 33 ∧ r = 40)) → (σ 98 88 ≠ 30) → (r ≠ 40) → zR G MX12_compiles 29 [zr 98, zi v1, zi v2, zu] [] (zup (zup (zup (zup σ 98 88 (σ 98 88 + 1)) 98 86 (σ 98 86 + 1)) 166 (σ 98 86) r) 98 87 (σ 98 87 + 1)) Q) (k13 : (v2 ≠ 0) → (r = 33 ∨ (r ≠ 33 ∧ r = 40)) → (σ 98 88 ≠ 30) → (r = 40) → zR G MX12_compiles 29 [zr 98, zi (v1 + 1), zi v2, zu] [] (zup (zup (zup (zup σ 98 88 (σ 98 88 + 1)) 98 86 (σ 98 86 + 1)) 166 (σ 98 86) r) 98 87 (σ 98 87 + 1)) Q) : zR G MX12_compiles 44 [zr 98, zi v1, zi v2, zu] [zi r] σ Q := by
  have J281_1 : (v2 ≠ 0) → (r = 33 ∨ (r ≠ 33 ∧ r = 40)) → (σ 98 88 ≠ 30) → (r = 40) → zR G MX12_compiles 281 [zr 98, zi (v1 + 1), zi v2, zi r] [] (zup (zup (zup (zup σ 98 88 (σ 98 88 + 1)) 98 86 (σ 98 86 + 1)) 166 (σ 98 86) r) 98 87 (σ 98 87 + 1)) Q := by
    intro h1 h4 h5 h6
    refine z_goto dX12_compiles_281 (tgt := 29) (by decide) ?_
    exact zR_fg [false, false, false, true] (k13 h1 h4 h5 h6)
  have J281 : (v2 ≠ 0) → (r = 33 ∨ (r ≠ 33 ∧ r = 40)) → (σ 98 88 ≠ 30) → (r ≠ 40) → zR G MX12_compiles 281 [zr 98, zi v1, zi v2, zi r] [] (zup (zup (zup (zup σ 98 88 (σ 98 88 + 1)) 98 86 (σ 98 86 + 1)) 166 (σ 98 86) r) 98 87 (σ 98 87 + 1)) Q := by
    intro h1 h4 h5 h6
    refine z_goto dX12_compiles_281 (tgt := 29) (by decide) ?_
    exact zR_fg [false, false, false, true] (k12 h1 h4 h5 h6)
  have J276 : (v2 = 0 ∨ (v2 ≠ 0 ∧ r ≠ 33 ∧ r ≠ 40)) → (v2 = 0) → (r ≠ 38) → (r ≠ 124) → (r ≠ 41 ∨ (r = 41 ∧ v1 ≤ 0)) → zR G MX12_compiles 276 [zr 98, zi v1, zi v2, zi r] [] σ Q := by
    intro h7 h8 h9 h10 h14
    refine z_aload_n dX12_compiles_276 rfl rfl ?_
    refine z_getfI (k := 87) flRX12_320 rfl rfl dX12_compiles_277 ?_
    exact z_ireti rfl dX12_compiles_280 (k11 h7 h8 h9 h10 h14)
  have J183 : (v2 = 0 ∨ (v2 ≠ 0 ∧ r ≠ 33 ∧ r ≠ 40)) → (v2 = 0) → (r = 38 ∨ (r ≠ 38 ∧ r = 124)) → zR G MX12_compiles 183 [zr 98, zi v1, zi v2, zi r] [] σ Q := by
    intro h7 h8 h13
    refine z_aload_n dX12_compiles_183 rfl rfl ?_
    refine z_iload_n dX12_compiles_184 rfl rfl ?_
    refine z_callv (as := [zi r]) (st := []) mkX12_pops lkRX12_346 rfl rfl rfl (by decide) (Nat.le_of_ble_eq_true rfl) rfl dX12_compiles_185 (k10 h7 h8 h13)
  have J124 : (v2 = 0 ∨ (v2 ≠ 0 ∧ r ≠ 33 ∧ r ≠ 40)) → zR G MX12_compiles 124 [zr 98, zi v1, zi v2, zi r] [] σ Q := by
    intro h7
    refine z_iload_n dX12_compiles_124 rfl rfl ?_
    refine z_if_eq dX12_compiles_125 (tgt := 171) (by decide) (fun h8 => ?_) (fun h8 => ?_)
    · skip
      refine z_iload_n dX12_compiles_171 rfl rfl ?_
      refine z_bipush (x := 38) dX12_compiles_172 (by decide +kernel) (by unfold zIn; decide) ?_
      refine z_icmp_eq dX12_compiles_174 (tgt := 183) (by decide) (fun h9 => ?_) (fun h9 => ?_)
      · skip
        exact J183 h7 h8 (Or.inl h9)
      · skip
        refine z_iload_n dX12_compiles_177 rfl rfl ?_
        refine z_bipush (x := 124) dX12_compiles_178 (by decide +kernel) (by unfold zIn; decide) ?_
        refine z_icmp_ne dX12_compiles_180 (tgt := 220) (by decide) (fun h10 => ?_) (fun h10 => ?_)
        · skip
          refine z_iload_n dX12_compiles_220 rfl rfl ?_
          refine z_bipush (x := 41) dX12_compiles_221 (by decide +kernel) (by unfold zIn; decide) ?_
          refine z_icmp_ne dX12_compiles_223 (tgt := 276) (by decide) (fun h11 => ?_) (fun h11 => ?_)
          · skip
            exact J276 h7 h8 h9 h10 (Or.inl h11)
          · skip
            refine z_iload_n dX12_compiles_226 rfl rfl ?_
            refine z_if_le dX12_compiles_227 (tgt := 276) (by decide) (fun h12 => ?_) (fun h12 => ?_)
            · skip
              exact J276 h7 h8 h9 h10 (Or.inr ⟨h11, h12⟩)
            · skip
              refine z_aload_n dX12_compiles_230 rfl rfl ?_
              refine z_bipush (x := 124) dX12_compiles_231 (by decide +kernel) (by unfold zIn; decide) ?_
              refine z_callv (as := [zi 124]) (st := []) mkX12_pops lkRX12_346 rfl rfl rfl (by decide) (Nat.le_of_ble_eq_true rfl) rfl dX12_compiles_233 (k8 h7 h8 h9 h10 h11 h12)
        · skip
          exact J183 h7 h8 (Or.inr ⟨h9, h10⟩)
    · skip
      refine z_aload_n dX12_compiles_128 rfl rfl ?_
      refine z_callv (as := []) (st := []) mkX12_reads lkRX12_339 rfl rfl rfl (by decide) (Nat.le_of_ble_eq_true rfl) rfl dX12_compiles_129 (k9 h7 h8)
  have J111_1 : (v2 ≠ 0) → (r = 33 ∨ (r ≠ 33 ∧ r = 40)) → (σ 98 88 ≠ 30) → (r = 40) → zR G MX12_compiles 111 [zr 98, zi (v1 + 1), zi v2, zi r] [] (zup (zup (zup σ 98 88 (σ 98 88 + 1)) 98 86 (σ 98 86 + 1)) 166 (σ 98 86) r) Q := by
    intro h1 h4 h5 h6
    refine z_aload_n dX12_compiles_111 rfl rfl ?_
    refine z_dup dX12_compiles_112 rfl ?_
    refine z_getfE (k := 87) (v := σ 98 87) flRX12_320 rfl rfl ((zup_of (by decide)).trans ((zup_oi (by decide)).trans (zup_oi (by decide)))) dX12_compiles_113 ?_
    refine z_iconst dX12_compiles_116 (by unfold zIn; decide) ?_
    have s7 : -2147483648 ≤ σ 98 87 + 1 ∧ σ 98 87 + 1 < (2147483648 : Int) := k7 h1 h4 h5 h6
    refine z_iaddN dX12_compiles_117 s7 ?_
    refine z_putI (k := 87) fpRX12_320 rfl rfl dX12_compiles_118 ?_
    refine z_goto dX12_compiles_121 (tgt := 281) (by decide) ?_
    exact J281_1 h1 h4 h5 h6
  have J111 : (v2 ≠ 0) → (r = 33 ∨ (r ≠ 33 ∧ r = 40)) → (σ 98 88 ≠ 30) → (r ≠ 40) → zR G MX12_compiles 111 [zr 98, zi v1, zi v2, zi r] [] (zup (zup (zup σ 98 88 (σ 98 88 + 1)) 98 86 (σ 98 86 + 1)) 166 (σ 98 86) r) Q := by
    intro h1 h4 h5 h6
    refine z_aload_n dX12_compiles_111 rfl rfl ?_
    refine z_dup dX12_compiles_112 rfl ?_
    refine z_getfE (k := 87) (v := σ 98 87) flRX12_320 rfl rfl ((zup_of (by decide)).trans ((zup_oi (by decide)).trans (zup_oi (by decide)))) dX12_compiles_113 ?_
    refine z_iconst dX12_compiles_116 (by unfold zIn; decide) ?_
    have s6 : -2147483648 ≤ σ 98 87 + 1 ∧ σ 98 87 + 1 < (2147483648 : Int) := k6 h1 h4 h5 h6
    refine z_iaddN dX12_compiles_117 s6 ?_
    refine z_putI (k := 87) fpRX12_320 rfl rfl dX12_compiles_118 ?_
    refine z_goto dX12_compiles_121 (tgt := 281) (by decide) ?_
    exact J281 h1 h4 h5 h6
  have J61 : (v2 ≠ 0) → (r = 33 ∨ (r ≠ 33 ∧ r = 40)) → zR G MX12_compiles 61 [zr 98, zi v1, zi v2, zi r] [] σ Q := by
    intro h1 h4
    refine z_aload_n dX12_compiles_61 rfl rfl ?_
    refine z_getfI (k := 88) flRX12_333 rfl rfl dX12_compiles_62 ?_
    refine z_bipush (x := 30) dX12_compiles_65 (by decide +kernel) (by unfold zIn; decide) ?_
    refine z_icmp_ne dX12_compiles_67 (tgt := 75) (by decide) (fun h5 => ?_) (fun h5 => ?_)
    · skip
      refine z_aload_n dX12_compiles_75 rfl rfl ?_
      refine z_dup dX12_compiles_76 rfl ?_
      refine z_getfI (k := 88) flRX12_333 rfl rfl dX12_compiles_77 ?_
      refine z_iconst dX12_compiles_80 (by unfold zIn; decide) ?_
      have s1 : -2147483648 ≤ σ 98 88 + 1 ∧ σ 98 88 + 1 < (2147483648 : Int) := k1 h1 h4 h5
      refine z_iaddN dX12_compiles_81 s1 ?_
      refine z_putI (k := 88) fpRX12_333 rfl rfl dX12_compiles_82 ?_
      refine z_aload_n dX12_compiles_85 rfl rfl ?_
      refine z_getfR (k := 82) flRX12_217 rfl rfl dX12_compiles_86 ?_
      refine z_aload_n dX12_compiles_89 rfl rfl ?_
      refine z_dup dX12_compiles_90 rfl ?_
      refine z_getfE (k := 86) (v := σ 98 86) flRX12_330 rfl rfl (zup_oi (by decide)) dX12_compiles_91 ?_
      refine z_dup_x1 dX12_compiles_94 rfl rfl ?_
      refine z_iconst dX12_compiles_95 (by unfold zIn; decide) ?_
      have s2 : -2147483648 ≤ σ 98 86 + 1 ∧ σ 98 86 + 1 < (2147483648 : Int) := k2 h1 h4 h5
      refine z_iaddN dX12_compiles_96 s2 ?_
      refine z_putI (k := 86) fpRX12_330 rfl rfl dX12_compiles_97 ?_
      refine z_iload_n dX12_compiles_100 rfl rfl ?_
      have s3 : (0 : Int) ≤ σ 98 86 ∧ σ 98 86 < (300 : Int) := k3 h1 h4 h5
      refine z_iast rfl s3.1 s3.2 dX12_compiles_101 ?_
      refine z_iload_n dX12_compiles_102 rfl rfl ?_
      refine z_bipush (x := 40) dX12_compiles_103 (by decide +kernel) (by unfold zIn; decide) ?_
      refine z_icmp_ne dX12_compiles_105 (tgt := 111) (by decide) (fun h6 => ?_) (fun h6 => ?_)
      · skip
        exact J111 h1 h4 h5 h6
      · skip
        have s4 : -2147483648 ≤ v1 + 1 ∧ v1 + 1 < (2147483648 : Int) := k4 h1 h4 h5 h6
        refine z_iincN (ls' := [zr 98, zi (v1 + 1), zi v2, zi r]) dX12_compiles_108 rfl (by decide) s4 rfl ?_
        exact J111_1 h1 h4 h5 h6
    · skip
      refine z_aload_n dX12_compiles_70 rfl rfl ?_
      refine z_getfI (k := 87) flRX12_320 rfl rfl dX12_compiles_71 ?_
      exact z_ireti rfl dX12_compiles_74 (k5 h1 h4 h5)
  refine z_istore_n (ls' := [zr 98, zi v1, zi v2, zi r]) dX12_compiles_44 rfl (by decide) rfl ?_
  refine z_iload_n dX12_compiles_45 rfl rfl ?_
  refine z_if_eq dX12_compiles_46 (tgt := 124) (by decide) (fun h1 => ?_) (fun h1 => ?_)
  · skip
    exact J124 (Or.inl h1)
  · skip
    refine z_iload_n dX12_compiles_49 rfl rfl ?_
    refine z_bipush (x := 33) dX12_compiles_50 (by decide +kernel) (by unfold zIn; decide) ?_
    refine z_icmp_eq dX12_compiles_52 (tgt := 61) (by decide) (fun h2 => ?_) (fun h2 => ?_)
    · skip
      exact J61 h1 (Or.inl h2)
    · skip
      refine z_iload_n dX12_compiles_55 rfl rfl ?_
      refine z_bipush (x := 40) dX12_compiles_56 (by decide +kernel) (by unfold zIn; decide) ?_
      refine z_icmp_ne dX12_compiles_58 (tgt := 124) (by decide) (fun h3 => ?_) (fun h3 => ?_)
      · skip
        exact J124 (Or.inr ⟨h1, h2, h3⟩)
      · skip
        exact J61 h1 (Or.inr ⟨h2, h3⟩)
set_option maxRecDepth 20000 in
set_option maxHeartbeats 1000000 in
theorem TX12_compiles_132 {G : zG} {σ : zS} {Q : Int → zS → Prop} {v1 v2 v3 r : Int}  (k1 : (r ≠ 0) → -2147483648 ≤ σ 98 85 + 1 ∧ σ 98 85 + 1 < (2147483648 : Int)) (k2 : (r ≠ 0) → -2147483648 ≤ σ 98 84 - 1 ∧ σ 98 84 - 1 < (2147483648 : Int)) (k3 : (r ≠ 0) → (0 : Int) ≤ σ 98 85 ∧ σ 98 85 < (500 : Int)) (k4 : (r ≠ 0) → zO G MX12_closes [zr 98] (zup (zup σ 98 85 (σ 98 85 + 1)) 165 (σ 98 85) (σ 98 84 - 1)) (fun rr σ' => zR G MX12_compiles 166 [zr 98, zi v1, zi v2, zi v3] [] σ' Q)) (k5 : (r = 0) → Q (σ 98 87) σ) : zR G MX12_compiles 132 [zr 98, zi v1, zi v2, zi v3] [zi r] σ Q := by
  refine z_if_ne dX12_compiles_132 (tgt := 140) (by decide) (fun h1 => ?_) (fun h1 => ?_)
  · skip
    refine z_aload_n dX12_compiles_140 rfl rfl ?_
    refine z_getfR (k := 81) flRX12_214 rfl rfl dX12_compiles_141 ?_
    refine z_aload_n dX12_compiles_144 rfl rfl ?_
    refine z_dup dX12_compiles_145 rfl ?_
    refine z_getfI (k := 85) flRX12_336 rfl rfl dX12_compiles_146 ?_
    refine z_dup_x1 dX12_compiles_149 rfl rfl ?_
    refine z_iconst dX12_compiles_150 (by unfold zIn; decide) ?_
    have s1 : -2147483648 ≤ σ 98 85 + 1 ∧ σ 98 85 + 1 < (2147483648 : Int) := k1 h1
    refine z_iaddN dX12_compiles_151 s1 ?_
    refine z_putI (k := 85) fpRX12_336 rfl rfl dX12_compiles_152 ?_
    refine z_aload_n dX12_compiles_155 rfl rfl ?_
    refine z_getfE (k := 84) (v := σ 98 84) flRX12_327 rfl rfl (zup_oi (by decide)) dX12_compiles_156 ?_
    refine z_iconst dX12_compiles_159 (by unfold zIn; decide) ?_
    have s2 : -2147483648 ≤ σ 98 84 - 1 ∧ σ 98 84 - 1 < (2147483648 : Int) := k2 h1
    refine z_isubN dX12_compiles_160 s2 ?_
    have s3 : (0 : Int) ≤ σ 98 85 ∧ σ 98 85 < (500 : Int) := k3 h1
    refine z_iast rfl s3.1 s3.2 dX12_compiles_161 ?_
    refine z_aload_n dX12_compiles_162 rfl rfl ?_
    refine z_callv (as := []) (st := []) mkX12_closes lkRX12_343 rfl rfl rfl (by decide) (Nat.le_of_ble_eq_true rfl) rfl dX12_compiles_163 (k4 h1)
  · skip
    refine z_aload_n dX12_compiles_135 rfl rfl ?_
    refine z_getfI (k := 87) flRX12_320 rfl rfl dX12_compiles_136 ?_
    exact z_ireti rfl dX12_compiles_139 (k5 h1)
set_option maxRecDepth 20000 in
set_option maxHeartbeats 1000000 in
theorem TX12_compiles_166 {G : zG} {σ : zS} {Q : Int → zS → Prop} {v1 v2 v3 : Int}  (k1 : zR G MX12_compiles 29 [zr 98, zi v1, zi 0, zu] [] σ Q) : zR G MX12_compiles 166 [zr 98, zi v1, zi v2, zi v3] [] σ Q := by
  have J281 : zR G MX12_compiles 281 [zr 98, zi v1, zi 0, zi v3] [] σ Q := by
    refine z_goto dX12_compiles_281 (tgt := 29) (by decide) ?_
    exact zR_fg [false, false, false, true] (k1)
  refine z_iconst dX12_compiles_166 (by unfold zIn; decide) ?_
  refine z_istore_n (ls' := [zr 98, zi v1, zi 0, zi v3]) dX12_compiles_167 rfl (by decide) rfl ?_
  refine z_goto dX12_compiles_168 (tgt := 281) (by decide) ?_
  exact J281
set_option maxRecDepth 20000 in
set_option maxHeartbeats 1000000 in
theorem TX12_compiles_188 {G : zG} {σ : zS} {Q : Int → zS → Prop} {v1 v2 v3 : Int}  (k1 : -2147483648 ≤ σ 98 86 + 1 ∧ σ 98 86 + 1 < (2147483648 : Int)) (k2 : (0 : Int) ≤ σ 98 86 ∧ σ 98 86 < (300 : Int)) (k3 : -2147483648 ≤ σ 98 87 + 1 ∧ σ 98 87 + 1 < (2147483648 : Int)) (k4 : zR G MX12_compiles 29 [zr 98, zi v1, zi 1, zu] [] (zup (zup (zup σ 98 86 (σ 98 86 + 1)) 166 (σ 98 86) v3) 98 87 (σ 98 87 + 1)) Q) : zR G MX12_compiles 188 [zr 98, zi v1, zi v2, zi v3] [] σ Q := by
  have J281 : zR G MX12_compiles 281 [zr 98, zi v1, zi 1, zi v3] [] (zup (zup (zup σ 98 86 (σ 98 86 + 1)) 166 (σ 98 86) v3) 98 87 (σ 98 87 + 1)) Q := by
    refine z_goto dX12_compiles_281 (tgt := 29) (by decide) ?_
    exact zR_fg [false, false, false, true] (k4)
  refine z_aload_n dX12_compiles_188 rfl rfl ?_
  refine z_getfR (k := 82) flRX12_217 rfl rfl dX12_compiles_189 ?_
  refine z_aload_n dX12_compiles_192 rfl rfl ?_
  refine z_dup dX12_compiles_193 rfl ?_
  refine z_getfI (k := 86) flRX12_330 rfl rfl dX12_compiles_194 ?_
  refine z_dup_x1 dX12_compiles_197 rfl rfl ?_
  refine z_iconst dX12_compiles_198 (by unfold zIn; decide) ?_
  have s1 : -2147483648 ≤ σ 98 86 + 1 ∧ σ 98 86 + 1 < (2147483648 : Int) := k1
  refine z_iaddN dX12_compiles_199 s1 ?_
  refine z_putI (k := 86) fpRX12_330 rfl rfl dX12_compiles_200 ?_
  refine z_iload_n dX12_compiles_203 rfl rfl ?_
  have s2 : (0 : Int) ≤ σ 98 86 ∧ σ 98 86 < (300 : Int) := k2
  refine z_iast rfl s2.1 s2.2 dX12_compiles_204 ?_
  refine z_iconst dX12_compiles_205 (by unfold zIn; decide) ?_
  refine z_istore_n (ls' := [zr 98, zi v1, zi 1, zi v3]) dX12_compiles_206 rfl (by decide) rfl ?_
  refine z_aload_n dX12_compiles_207 rfl rfl ?_
  refine z_dup dX12_compiles_208 rfl ?_
  refine z_getfE (k := 87) (v := σ 98 87) flRX12_320 rfl rfl ((zup_of (by decide)).trans (zup_oi (by decide))) dX12_compiles_209 ?_
  refine z_iconst dX12_compiles_212 (by unfold zIn; decide) ?_
  have s3 : -2147483648 ≤ σ 98 87 + 1 ∧ σ 98 87 + 1 < (2147483648 : Int) := k3
  refine z_iaddN dX12_compiles_213 s3 ?_
  refine z_putI (k := 87) fpRX12_320 rfl rfl dX12_compiles_214 ?_
  refine z_goto dX12_compiles_217 (tgt := 281) (by decide) ?_
  exact J281
set_option maxRecDepth 20000 in
set_option maxHeartbeats 1000000 in
theorem TX12_compiles_236 {G : zG} {σ : zS} {Q : Int → zS → Prop} {v1 v2 v3 : Int}  (k1 : -2147483648 ≤ σ 98 86 - 1 ∧ σ 98 86 - 1 < (2147483648 : Int)) (k2 : -2147483648 ≤ σ 98 88 - 1 ∧ σ 98 88 - 1 < (2147483648 : Int)) (k3 : -2147483648 ≤ v1 + (-1) ∧ v1 + (-1) < (2147483648 : Int)) (k4 : zO G MX12_closes [zr 98] (zup (zup σ 98 86 (σ 98 86 - 1)) 98 88 (σ 98 88 - 1)) (fun rr σ' => zR G MX12_compiles 263 [zr 98, zi (v1 + (-1)), zi v2, zi v3] [] σ' Q)) : zR G MX12_compiles 236 [zr 98, zi v1, zi v2, zi v3] [] σ Q := by
  refine z_aload_n dX12_compiles_236 rfl rfl ?_
  refine z_dup dX12_compiles_237 rfl ?_
  refine z_getfI (k := 86) flRX12_330 rfl rfl dX12_compiles_238 ?_
  refine z_iconst dX12_compiles_241 (by unfold zIn; decide) ?_
  have s1 : -2147483648 ≤ σ 98 86 - 1 ∧ σ 98 86 - 1 < (2147483648 : Int) := k1
  refine z_isubN dX12_compiles_242 s1 ?_
  refine z_putI (k := 86) fpRX12_330 rfl rfl dX12_compiles_243 ?_
  refine z_aload_n dX12_compiles_246 rfl rfl ?_
  refine z_dup dX12_compiles_247 rfl ?_
  refine z_getfE (k := 88) (v := σ 98 88) flRX12_333 rfl rfl (zup_oi (by decide)) dX12_compiles_248 ?_
  refine z_iconst dX12_compiles_251 (by unfold zIn; decide) ?_
  have s2 : -2147483648 ≤ σ 98 88 - 1 ∧ σ 98 88 - 1 < (2147483648 : Int) := k2
  refine z_isubN dX12_compiles_252 s2 ?_
  refine z_putI (k := 88) fpRX12_333 rfl rfl dX12_compiles_253 ?_
  have s3 : -2147483648 ≤ v1 + (-1) ∧ v1 + (-1) < (2147483648 : Int) := k3
  refine z_iincN (ls' := [zr 98, zi (v1 + (-1)), zi v2, zi v3]) dX12_compiles_256 rfl (by decide) s3 rfl ?_
  refine z_aload_n dX12_compiles_259 rfl rfl ?_
  refine z_callv (as := []) (st := []) mkX12_closes lkRX12_343 rfl rfl rfl (by decide) (Nat.le_of_ble_eq_true rfl) rfl dX12_compiles_260 (k4)
set_option maxRecDepth 20000 in
set_option maxHeartbeats 1000000 in
theorem TX12_compiles_263 {G : zG} {σ : zS} {Q : Int → zS → Prop} {v1 v2 v3 : Int}  (k1 : -2147483648 ≤ σ 98 87 + 1 ∧ σ 98 87 + 1 < (2147483648 : Int)) (k2 : zR G MX12_compiles 29 [zr 98, zi v1, zi v2, zu] [] (zup σ 98 87 (σ 98 87 + 1)) Q) : zR G MX12_compiles 263 [zr 98, zi v1, zi v2, zi v3] [] σ Q := by
  have J281 : zR G MX12_compiles 281 [zr 98, zi v1, zi v2, zi v3] [] (zup σ 98 87 (σ 98 87 + 1)) Q := by
    refine z_goto dX12_compiles_281 (tgt := 29) (by decide) ?_
    exact zR_fg [false, false, false, true] (k2)
  refine z_aload_n dX12_compiles_263 rfl rfl ?_
  refine z_dup dX12_compiles_264 rfl ?_
  refine z_getfI (k := 87) flRX12_320 rfl rfl dX12_compiles_265 ?_
  refine z_iconst dX12_compiles_268 (by unfold zIn; decide) ?_
  have s1 : -2147483648 ≤ σ 98 87 + 1 ∧ σ 98 87 + 1 < (2147483648 : Int) := k1
  refine z_iaddN dX12_compiles_269 s1 ?_
  refine z_putI (k := 87) fpRX12_320 rfl rfl dX12_compiles_270 ?_
  refine z_goto dX12_compiles_273 (tgt := 281) (by decide) ?_
  exact J281
set_option maxRecDepth 20000 in
set_option maxHeartbeats 1000000 in
theorem TX12_compiles_303 {G : zG} {σ : zS} {Q : Int → zS → Prop} {v1 v2 : Int}  (k1 : Q (-1) σ) : zR G MX12_compiles 303 [zr 98, zi v1, zi v2, zu] [] σ Q := by
  refine z_iconst dX12_compiles_303 (by unfold zIn; decide) ?_
  exact z_ireti rfl dX12_compiles_304 (k1)
set_option maxRecDepth 20000 in
set_option maxHeartbeats 1000000 in
theorem TX12_fault {G : zG} {σ : zS} {Q : Int → zS → Prop} {a1 a2 a3 : Int}  (k1 : ((0 ≤ a1 ∧ a1 < 4)) → zO G MX12_words [zr 98, zi a1, zi a2, zi a3] σ (fun rr σ' => zR G MX12_fault 16 [zr 98, zi a1, zi a2, zi a3] [] σ' Q)) (k2 : (¬ ((0 ≤ a1 ∧ a1 < 4))) → Q (-1) σ) : zO G MX12_fault [zr 98, zi a1, zi a2, zi a3] σ Q := by
  refine zO_of (ls0 := [zr 98, zi a1, zi a2, zi a3]) (by decide) (Nat.le_of_ble_eq_true rfl) rfl ?_
  refine z_iload_n dX12_fault_0 rfl rfl ?_
  refine z_calls (as := [zi a1]) (st := []) mkX12_isStatute lkRX12_297 rfl (by decide) (Nat.le_of_ble_eq_true rfl) rfl dX12_fault_1 ?_
  refine SX12_isStatute ?_
  show zR G MX12_fault 4 [zr 98, zi a1, zi a2, zi a3] [zi (if (0 ≤ a1 ∧ a1 < 4) then (1 : Int) else 0)] σ Q
  refine z_if_ne dX12_fault_4 (tgt := 9) (by decide) (fun z => ?_) (fun z => ?_)
  · have h1 : (0 ≤ a1 ∧ a1 < 4) := zb1 z
    refine z_aload_n dX12_fault_9 rfl rfl ?_
    refine z_iload_n dX12_fault_10 rfl rfl ?_
    refine z_iload_n dX12_fault_11 rfl rfl ?_
    refine z_iload_n dX12_fault_12 rfl rfl ?_
    refine z_callv (as := [zi a1, zi a2, zi a3]) (st := []) mkX12_words lkRX12_316 rfl rfl rfl (by decide) (Nat.le_of_ble_eq_true rfl) rfl dX12_fault_13 (k1 h1)
  · have h1 : ¬ ((0 ≤ a1 ∧ a1 < 4)) := zb0 z
    refine z_iconst dX12_fault_7 (by unfold zIn; decide) ?_
    exact z_ireti rfl dX12_fault_8 (k2 h1)
set_option maxRecDepth 20000 in
set_option maxHeartbeats 1000000 in
theorem TX12_fault_16 {G : zG} {σ : zS} {Q : Int → zS → Prop} {v1 v2 v3 : Int}  (k1 : zO G MX12_compiles [zr 98] σ (fun rr σ' => zR G MX12_fault 20 [zr 98, zi v1, zi v2, zi v3] [zi rr] σ' Q)) : zR G MX12_fault 16 [zr 98, zi v1, zi v2, zi v3] [] σ Q := by
  refine z_aload_n dX12_fault_16 rfl rfl ?_
  refine z_callv (as := []) (st := []) mkX12_compiles lkRX12_350 rfl rfl rfl (by decide) (Nat.le_of_ble_eq_true rfl) rfl dX12_fault_17 (k1)
set_option maxRecDepth 20000 in
set_option maxHeartbeats 1000000 in
theorem TX12_fault_20 {G : zG} {σ : zS} {Q : Int → zS → Prop} {v1 v2 v3 r : Int}  (k1 : Q r σ) : zR G MX12_fault 20 [zr 98, zi v1, zi v2, zi v3] [zi r] σ Q := by
  exact z_ireti rfl dX12_fault_20 (k1)
set_option maxRecDepth 20000 in
set_option maxHeartbeats 1000000 in
theorem TX12_compared {G : zG} {σ : zS} {Q : Int → zS → Prop} {a1 a2 a3 : Int}  (k1 : ((a2 ≠ 60 ∧ a2 ≠ 62 ∧ a1 = a3) ∨ (a2 ≠ 60 ∧ a2 = 62 ∧ a3 < a1) ∨ (a2 = 60 ∧ a1 < a3)) → Q 1 σ) (k2 : ((a2 ≠ 60 ∧ a2 ≠ 62 ∧ a1 ≠ a3) ∨ (a2 ≠ 60 ∧ a2 = 62 ∧ a1 ≤ a3) ∨ (a2 = 60 ∧ a3 ≤ a1)) → Q 0 σ) : zO G MX12_compared [zi a1, zi a2, zi a3] σ Q := by
  refine zO_of (ls0 := [zi a1, zi a2, zi a3]) (by decide) (Nat.le_of_ble_eq_true rfl) rfl ?_
  have J37 : ((a2 ≠ 60 ∧ a2 ≠ 62 ∧ a1 ≠ a3) ∨ (a2 ≠ 60 ∧ a2 = 62 ∧ a1 ≤ a3) ∨ (a2 = 60 ∧ a3 ≤ a1)) → zR G MX12_compared 37 [zi a1, zi a2, zi a3] [] σ Q := by
    intro h7
    refine z_iconst dX12_compared_37 (by unfold zIn; decide) ?_
    exact z_ireti rfl dX12_compared_38 (k2 h7)
  have J33 : ((a2 ≠ 60 ∧ a2 ≠ 62 ∧ a1 = a3) ∨ (a2 ≠ 60 ∧ a2 = 62 ∧ a3 < a1) ∨ (a2 = 60 ∧ a1 < a3)) → zR G MX12_compared 33 [zi a1, zi a2, zi a3] [] σ Q := by
    intro h6
    refine z_iconst dX12_compared_33 (by unfold zIn; decide) ?_
    refine z_goto dX12_compared_34 (tgt := 38) (by decide) ?_
    exact z_ireti rfl dX12_compared_38 (k1 h6)
  refine z_iload_n dX12_compared_0 rfl rfl ?_
  refine z_bipush (x := 60) dX12_compared_1 (by decide +kernel) (by unfold zIn; decide) ?_
  refine z_icmp_ne dX12_compared_3 (tgt := 14) (by decide) (fun h1 => ?_) (fun h1 => ?_)
  · skip
    refine z_iload_n dX12_compared_14 rfl rfl ?_
    refine z_bipush (x := 62) dX12_compared_15 (by decide +kernel) (by unfold zIn; decide) ?_
    refine z_icmp_ne dX12_compared_17 (tgt := 28) (by decide) (fun h2 => ?_) (fun h2 => ?_)
    · skip
      refine z_iload_n dX12_compared_28 rfl rfl ?_
      refine z_iload_n dX12_compared_29 rfl rfl ?_
      refine z_icmp_ne dX12_compared_30 (tgt := 37) (by decide) (fun h3 => ?_) (fun h3 => ?_)
      · skip
        exact J37 (Or.inl ⟨h1, h2, h3⟩)
      · skip
        exact J33 (Or.inl ⟨h1, h2, h3⟩)
    · skip
      refine z_iload_n dX12_compared_20 rfl rfl ?_
      refine z_iload_n dX12_compared_21 rfl rfl ?_
      refine z_icmp_le dX12_compared_22 (tgt := 37) (by decide) (fun h4 => ?_) (fun h4 => ?_)
      · skip
        exact J37 (Or.inr (Or.inl ⟨h1, h2, h4⟩))
      · skip
        refine z_goto dX12_compared_25 (tgt := 33) (by decide) ?_
        exact J33 (Or.inr (Or.inl ⟨h1, h2, h4⟩))
  · skip
    refine z_iload_n dX12_compared_6 rfl rfl ?_
    refine z_iload_n dX12_compared_7 rfl rfl ?_
    refine z_icmp_ge dX12_compared_8 (tgt := 37) (by decide) (fun h5 => ?_) (fun h5 => ?_)
    · skip
      exact J37 (Or.inr (Or.inr ⟨h1, h5⟩))
    · skip
      refine z_goto dX12_compared_11 (tgt := 33) (by decide) ?_
      exact J33 (Or.inr (Or.inr ⟨h1, h5⟩))
set_option maxRecDepth 20000 in
set_option maxHeartbeats 1000000 in
theorem TX12_tested {G : zG} {σ : zS} {Q : Int → zS → Prop} {a1 a2 a3 a4 : Int}  (k1 : (0 : Int) ≤ a1 ∧ a1 < (110 : Int)) (k2 : (σ 162 a1 = 97) → (0 : Int) ≤ a2 ∧ a2 < (24 : Int)) (k3 : (σ 162 a1 = 97) → -9223372036854775808 ≤ a3 - σ 99 a2 ∧ a3 - σ 99 a2 < (9223372036854775808 : Int)) (k4 : (σ 162 a1 = 97) → (0 ≤ zlcmp (zldiv (a3 - σ 99 a2) 365) 0) → zO G MX12_compared [zi (zW (zldiv (a3 - σ 99 a2) 365)), zi (σ 163 a1), zi (σ 164 a1)] σ (fun rr σ' => zR G MX12_tested 127 [zr 98, zi a1, zi a2, zi a3, zi a4, zi (σ 164 a1), zi (σ 163 a1), zl (zldiv (a3 - σ 99 a2) 365), zu] [zi rr] σ' Q)) (k5 : (σ 162 a1 = 97) → (zlcmp (zldiv (a3 - σ 99 a2) 365) 0 < 0) → zO G MX12_compared [zi 0, zi (σ 163 a1), zi (σ 164 a1)] σ (fun rr σ' => zR G MX12_tested 127 [zr 98, zi a1, zi a2, zi a3, zi a4, zi (σ 164 a1), zi (σ 163 a1), zl (zldiv (a3 - σ 99 a2) 365), zu] [zi rr] σ' Q)) (k6 : (¬ σ 162 a1 = 97) → (σ 162 a1 = 100) → zO G MX12_valueOf [zr 98, zi a2, zi 0, zi a3, zi a4] σ (fun rr σ' => zR G MX12_tested 137 [zr 98, zi a1, zi a2, zi a3, zi a4, zi (σ 164 a1), zi (σ 163 a1), zu, zu] [zi rr] σ' Q)) (k7 : (¬ σ 162 a1 = 97) → (¬ σ 162 a1 = 100) → (σ 162 a1 = 114) → zO G MX12_valueOf [zr 98, zi a2, zi 2, zi a3, zi a4] σ (fun rr σ' => zR G MX12_tested 154 [zr 98, zi a1, zi a2, zi a3, zi a4, zi (σ 164 a1), zi (σ 163 a1), zu, zu] [zi rr] σ' Q)) (k8 : (¬ σ 162 a1 = 97) → (¬ σ 162 a1 = 100) → (¬ σ 162 a1 = 114) → (σ 162 a1 = 116) → zO G MX12_valueOf [zr 98, zi a2, zi 3, zi a3, zi a4] σ (fun rr σ' => zR G MX12_tested 171 [zr 98, zi a1, zi a2, zi a3, zi a4, zi (σ 164 a1), zi (σ 163 a1), zu, zu] [zi rr] σ' Q)) (k9 : (¬ σ 162 a1 = 97) → (¬ σ 162 a1 = 100) → (¬ σ 162 a1 = 114) → (¬ σ 162 a1 = 116) → (σ 162 a1 = 119) → zO G MX12_valueOf [zr 98, zi a2, zi 1, zi a3, zi a4] σ (fun rr σ' => zR G MX12_tested 81 [zr 98, zi a1, zi a2, zi a3, zi a4, zi (σ 164 a1), zi (σ 163 a1), zu, zu] [zi rr] σ' Q)) (k10 : (¬ σ 162 a1 = 97) → (¬ σ 162 a1 = 100) → (¬ σ 162 a1 = 114) → (¬ σ 162 a1 = 116) → (¬ σ 162 a1 = 119) → zO G MX12_kinOf [zr 98, zi a2, zi a4] σ (fun rr σ' => zR G MX12_tested 186 [zr 98, zi a1, zi a2, zi a3, zi a4, zi (σ 164 a1), zi (σ 163 a1), zu, zu] [zi rr] σ' Q)) : zO G MX12_tested [zr 98, zi a1, zi a2, zi a3, zi a4] σ Q := by
  refine zO_of (ls0 := [zr 98, zi a1, zi a2, zi a3, zi a4, zu, zu, zu, zu]) (by decide) (Nat.le_of_ble_eq_true rfl) rfl ?_
  refine z_aload_n dX12_tested_0 rfl rfl ?_
  refine z_getfR (k := 80) flRX12_211 rfl rfl dX12_tested_1 ?_
  refine z_iload_n dX12_tested_4 rfl rfl ?_
  have s1 : (0 : Int) ≤ a1 ∧ a1 < (110 : Int) := k1
  refine z_iald rfl s1.1 s1.2 dX12_tested_5 ?_
  refine z_istore (ls' := [zr 98, zi a1, zi a2, zi a3, zi a4, zi (σ 164 a1), zu, zu, zu]) dX12_tested_6 (by decide) rfl ?_
  refine z_aload_n dX12_tested_8 rfl rfl ?_
  refine z_getfR (k := 79) flRX12_208 rfl rfl dX12_tested_9 ?_
  refine z_iload_n dX12_tested_12 rfl rfl ?_
  refine z_iald rfl s1.1 s1.2 dX12_tested_13 ?_
  refine z_istore (ls' := [zr 98, zi a1, zi a2, zi a3, zi a4, zi (σ 164 a1), zi (σ 163 a1), zu, zu]) dX12_tested_14 (by decide) rfl ?_
  refine z_aload_n dX12_tested_16 rfl rfl ?_
  refine z_getfR (k := 78) flRX12_205 rfl rfl dX12_tested_17 ?_
  refine z_iload_n dX12_tested_20 rfl rfl ?_
  refine z_iald rfl s1.1 s1.2 dX12_tested_21 ?_
  show zR G MX12_tested 22 [zr 98, zi a1, zi a2, zi a3, zi a4, zi (σ 164 a1), zi (σ 163 a1), zu, zu] [zi (σ 162 a1)] σ Q
  by_cases h1 : σ 162 a1 = 97
  · refine z_lookup (off := 68) dX12_tested_22 (by decide +kernel) (by rw [h1]; decide +kernel) (tgt := 90) (by decide) ?_
    refine z_iload_n dX12_tested_90 rfl rfl ?_
    refine z_i2l dX12_tested_91 ?_
    refine z_aload_n dX12_tested_92 rfl rfl ?_
    refine z_getfR (k := 13) flRX12_13 rfl rfl dX12_tested_93 ?_
    refine z_iload_n dX12_tested_96 rfl rfl ?_
    have s2 : (0 : Int) ≤ a2 ∧ a2 < (24 : Int) := k2 h1
    refine z_iald rfl s2.1 s2.2 dX12_tested_97 ?_
    refine z_i2l dX12_tested_98 ?_
    have s3 : -9223372036854775808 ≤ a3 - σ 99 a2 ∧ a3 - σ 99 a2 < (9223372036854775808 : Int) := k3 h1
    refine z_lsubN dX12_tested_99 s3 ?_
    refine z_ldc2 (x := 365) (zin_8 (List.mem_of_getElem? (i := 114) (by decide +kernel))) (by unfold zLn; decide) dX12_tested_100 ?_
    refine z_ldiv dX12_tested_103 (by decide) ?_
    refine z_lstore (ls' := [zr 98, zi a1, zi a2, zi a3, zi a4, zi (σ 164 a1), zi (σ 163 a1), zl (zldiv (a3 - σ 99 a2) 365), zu]) dX12_tested_104 (by decide) rfl ?_
    refine z_lload dX12_tested_106 rfl ?_
    refine z_lconst (x := 0) dX12_tested_108 (by decide +kernel) (by unfold zLn; decide) ?_
    refine z_lcmp dX12_tested_109 ?_
    refine z_if_ge dX12_tested_110 (tgt := 117) (by decide) (fun h2 => ?_) (fun h2 => ?_)
    · skip
      refine z_lload dX12_tested_117 rfl ?_
      refine z_l2i dX12_tested_119 ?_
      refine z_iload dX12_tested_120 rfl ?_
      refine z_iload dX12_tested_122 rfl ?_
      refine z_calls (as := [zi (zW (zldiv (a3 - σ 99 a2) 365)), zi (σ 163 a1), zi (σ 164 a1)]) (st := []) mkX12_compared lkRX12_355 rfl (by decide) (Nat.le_of_ble_eq_true rfl) rfl dX12_tested_124 (k4 h1 h2)
    · skip
      refine z_iconst dX12_tested_113 (by unfold zIn; decide) ?_
      refine z_goto dX12_tested_114 (tgt := 120) (by decide) ?_
      refine z_iload dX12_tested_120 rfl ?_
      refine z_iload dX12_tested_122 rfl ?_
      refine z_calls (as := [zi 0, zi (σ 163 a1), zi (σ 164 a1)]) (st := []) mkX12_compared lkRX12_355 rfl (by decide) (Nat.le_of_ble_eq_true rfl) rfl dX12_tested_124 (k5 h1 h2)
  by_cases h3 : σ 162 a1 = 100
  · refine z_lookup (off := 106) dX12_tested_22 (by decide +kernel) (by rw [h3]; decide +kernel) (tgt := 128) (by decide) ?_
    refine z_aload_n dX12_tested_128 rfl rfl ?_
    refine z_iload_n dX12_tested_129 rfl rfl ?_
    refine z_iconst dX12_tested_130 (by unfold zIn; decide) ?_
    refine z_iload_n dX12_tested_131 rfl rfl ?_
    refine z_iload dX12_tested_132 rfl ?_
    refine z_callv (as := [zi a2, zi 0, zi a3, zi a4]) (st := []) mkX12_valueOf lkRX12_282 rfl rfl rfl (by decide) (Nat.le_of_ble_eq_true rfl) rfl dX12_tested_134 (k6 h1 h3)
  by_cases h4 : σ 162 a1 = 114
  · refine z_lookup (off := 123) dX12_tested_22 (by decide +kernel) (by rw [h4]; decide +kernel) (tgt := 145) (by decide) ?_
    refine z_aload_n dX12_tested_145 rfl rfl ?_
    refine z_iload_n dX12_tested_146 rfl rfl ?_
    refine z_iconst dX12_tested_147 (by unfold zIn; decide) ?_
    refine z_iload_n dX12_tested_148 rfl rfl ?_
    refine z_iload dX12_tested_149 rfl ?_
    refine z_callv (as := [zi a2, zi 2, zi a3, zi a4]) (st := []) mkX12_valueOf lkRX12_282 rfl rfl rfl (by decide) (Nat.le_of_ble_eq_true rfl) rfl dX12_tested_151 (k7 h1 h3 h4)
  by_cases h5 : σ 162 a1 = 116
  · refine z_lookup (off := 140) dX12_tested_22 (by decide +kernel) (by rw [h5]; decide +kernel) (tgt := 162) (by decide) ?_
    refine z_aload_n dX12_tested_162 rfl rfl ?_
    refine z_iload_n dX12_tested_163 rfl rfl ?_
    refine z_iconst dX12_tested_164 (by unfold zIn; decide) ?_
    refine z_iload_n dX12_tested_165 rfl rfl ?_
    refine z_iload dX12_tested_166 rfl ?_
    refine z_callv (as := [zi a2, zi 3, zi a3, zi a4]) (st := []) mkX12_valueOf lkRX12_282 rfl rfl rfl (by decide) (Nat.le_of_ble_eq_true rfl) rfl dX12_tested_168 (k8 h1 h3 h4 h5)
  by_cases h6 : σ 162 a1 = 119
  · refine z_lookup (off := 50) dX12_tested_22 (by decide +kernel) (by rw [h6]; decide +kernel) (tgt := 72) (by decide) ?_
    refine z_aload_n dX12_tested_72 rfl rfl ?_
    refine z_iload_n dX12_tested_73 rfl rfl ?_
    refine z_iconst dX12_tested_74 (by unfold zIn; decide) ?_
    refine z_iload_n dX12_tested_75 rfl rfl ?_
    refine z_iload dX12_tested_76 rfl ?_
    refine z_callv (as := [zi a2, zi 1, zi a3, zi a4]) (st := []) mkX12_valueOf lkRX12_282 rfl rfl rfl (by decide) (Nat.le_of_ble_eq_true rfl) rfl dX12_tested_78 (k9 h1 h3 h4 h5 h6)
  refine z_lookup (off := 157) dX12_tested_22 (by decide +kernel) ((zlk h1).trans ((zlk h3).trans ((zlk h4).trans ((zlk h5).trans ((zlk h6).trans (rfl)))))) (tgt := 179) (by decide) ?_
  refine z_aload_n dX12_tested_179 rfl rfl ?_
  refine z_iload_n dX12_tested_180 rfl rfl ?_
  refine z_iload dX12_tested_181 rfl ?_
  refine z_callv (as := [zi a2, zi a4]) (st := []) mkX12_kinOf lkRX12_286 rfl rfl rfl (by decide) (Nat.le_of_ble_eq_true rfl) rfl dX12_tested_183 (k10 h1 h3 h4 h5 h6)
set_option maxRecDepth 20000 in
set_option maxHeartbeats 1000000 in
theorem TX12_tested_81 {G : zG} {σ : zS} {Q : Int → zS → Prop} {v1 v2 v3 v4 v5 v6 r : Int}  (k1 : (r ≤ 0) → Q 0 σ) (k2 : (0 < r) → Q 1 σ) : zR G MX12_tested 81 [zr 98, zi v1, zi v2, zi v3, zi v4, zi v5, zi v6, zu, zu] [zi r] σ Q := by
  refine z_if_le dX12_tested_81 (tgt := 88) (by decide) (fun h1 => ?_) (fun h1 => ?_)
  · skip
    refine z_iconst dX12_tested_88 (by unfold zIn; decide) ?_
    exact z_ireti rfl dX12_tested_89 (k1 h1)
  · skip
    refine z_iconst dX12_tested_84 (by unfold zIn; decide) ?_
    refine z_goto dX12_tested_85 (tgt := 89) (by decide) ?_
    exact z_ireti rfl dX12_tested_89 (k2 h1)
set_option maxRecDepth 20000 in
set_option maxHeartbeats 1000000 in
theorem TX12_tested_127 {G : zG} {σ : zS} {Q : Int → zS → Prop} {v1 v2 v3 v4 v5 v6 v7 r : Int}  (k1 : Q r σ) : zR G MX12_tested 127 [zr 98, zi v1, zi v2, zi v3, zi v4, zi v5, zi v6, zl v7, zu] [zi r] σ Q := by
  exact z_ireti rfl dX12_tested_127 (k1)
set_option maxRecDepth 20000 in
set_option maxHeartbeats 1000000 in
theorem TX12_tested_137 {G : zG} {σ : zS} {Q : Int → zS → Prop} {v1 v2 v3 v4 v5 v6 r : Int}  (k1 : zO G MX12_compared [zi r, zi v6, zi v5] σ (fun rr σ' => zR G MX12_tested 144 [zr 98, zi v1, zi v2, zi v3, zi v4, zi v5, zi v6, zu, zu] [zi rr] σ' Q)) : zR G MX12_tested 137 [zr 98, zi v1, zi v2, zi v3, zi v4, zi v5, zi v6, zu, zu] [zi r] σ Q := by
  refine z_iload dX12_tested_137 rfl ?_
  refine z_iload dX12_tested_139 rfl ?_
  refine z_calls (as := [zi r, zi v6, zi v5]) (st := []) mkX12_compared lkRX12_355 rfl (by decide) (Nat.le_of_ble_eq_true rfl) rfl dX12_tested_141 (k1)
set_option maxRecDepth 20000 in
set_option maxHeartbeats 1000000 in
theorem TX12_tested_144 {G : zG} {σ : zS} {Q : Int → zS → Prop} {v1 v2 v3 v4 v5 v6 r : Int}  (k1 : Q r σ) : zR G MX12_tested 144 [zr 98, zi v1, zi v2, zi v3, zi v4, zi v5, zi v6, zu, zu] [zi r] σ Q := by
  exact z_ireti rfl dX12_tested_144 (k1)
set_option maxRecDepth 20000 in
set_option maxHeartbeats 1000000 in
theorem TX12_tested_154 {G : zG} {σ : zS} {Q : Int → zS → Prop} {v1 v2 v3 v4 v5 v6 r : Int}  (k1 : zO G MX12_compared [zi r, zi v6, zi v5] σ (fun rr σ' => zR G MX12_tested 161 [zr 98, zi v1, zi v2, zi v3, zi v4, zi v5, zi v6, zu, zu] [zi rr] σ' Q)) : zR G MX12_tested 154 [zr 98, zi v1, zi v2, zi v3, zi v4, zi v5, zi v6, zu, zu] [zi r] σ Q := by
  refine z_iload dX12_tested_154 rfl ?_
  refine z_iload dX12_tested_156 rfl ?_
  refine z_calls (as := [zi r, zi v6, zi v5]) (st := []) mkX12_compared lkRX12_355 rfl (by decide) (Nat.le_of_ble_eq_true rfl) rfl dX12_tested_158 (k1)
set_option maxRecDepth 20000 in
set_option maxHeartbeats 1000000 in
theorem TX12_tested_161 {G : zG} {σ : zS} {Q : Int → zS → Prop} {v1 v2 v3 v4 v5 v6 r : Int}  (k1 : Q r σ) : zR G MX12_tested 161 [zr 98, zi v1, zi v2, zi v3, zi v4, zi v5, zi v6, zu, zu] [zi r] σ Q := by
  exact z_ireti rfl dX12_tested_161 (k1)
set_option maxRecDepth 20000 in
set_option maxHeartbeats 1000000 in
theorem TX12_tested_171 {G : zG} {σ : zS} {Q : Int → zS → Prop} {v1 v2 v3 v4 v5 v6 r : Int}  (k1 : zO G MX12_compared [zi r, zi v6, zi v5] σ (fun rr σ' => zR G MX12_tested 178 [zr 98, zi v1, zi v2, zi v3, zi v4, zi v5, zi v6, zu, zu] [zi rr] σ' Q)) : zR G MX12_tested 171 [zr 98, zi v1, zi v2, zi v3, zi v4, zi v5, zi v6, zu, zu] [zi r] σ Q := by
  refine z_iload dX12_tested_171 rfl ?_
  refine z_iload dX12_tested_173 rfl ?_
  refine z_calls (as := [zi r, zi v6, zi v5]) (st := []) mkX12_compared lkRX12_355 rfl (by decide) (Nat.le_of_ble_eq_true rfl) rfl dX12_tested_175 (k1)
set_option maxRecDepth 20000 in
set_option maxHeartbeats 1000000 in
theorem TX12_tested_178 {G : zG} {σ : zS} {Q : Int → zS → Prop} {v1 v2 v3 v4 v5 v6 r : Int}  (k1 : Q r σ) : zR G MX12_tested 178 [zr 98, zi v1, zi v2, zi v3, zi v4, zi v5, zi v6, zu, zu] [zi r] σ Q := by
  exact z_ireti rfl dX12_tested_178 (k1)
set_option maxRecDepth 20000 in
set_option maxHeartbeats 1000000 in
theorem TX12_tested_186 {G : zG} {σ : zS} {Q : Int → zS → Prop} {v1 v2 v3 v4 v5 v6 r : Int}  (k1 : zO G MX12_nearOf [zr 98, zi v2, zi v4] σ (fun rr σ' => zR G MX12_tested 195 [zr 98, zi v1, zi v2, zi v3, zi v4, zi v5, zi v6, zi r, zu] [zi rr] σ' Q)) : zR G MX12_tested 186 [zr 98, zi v1, zi v2, zi v3, zi v4, zi v5, zi v6, zu, zu] [zi r] σ Q := by
  refine z_istore (ls' := [zr 98, zi v1, zi v2, zi v3, zi v4, zi v5, zi v6, zi r, zu]) dX12_tested_186 (by decide) rfl ?_
  refine z_aload_n dX12_tested_188 rfl rfl ?_
  refine z_iload_n dX12_tested_189 rfl rfl ?_
  refine z_iload dX12_tested_190 rfl ?_
  refine z_callv (as := [zi v2, zi v4]) (st := []) mkX12_nearOf lkRX12_290 rfl rfl rfl (by decide) (Nat.le_of_ble_eq_true rfl) rfl dX12_tested_192 (k1)
set_option maxRecDepth 20000 in
set_option maxHeartbeats 1000000 in
theorem TX12_tested_195 {G : zG} {σ : zS} {Q : Int → zS → Prop} {v1 v2 v3 v4 v5 v6 v7 r : Int}  (k1 : (v6 ≠ 60) → (v6 ≠ 62) → (v5 ≤ v7) → (v7 ≠ v5) → (v5 < r) → Q 0 σ) (k2 : (v6 ≠ 60) → (v6 ≠ 62) → (v5 ≤ v7) → (v7 ≠ v5) → (r ≤ v5) → Q 2 σ) (k3 : (v6 ≠ 60) → (v6 ≠ 62) → (v5 ≤ v7) → (v7 = v5) → (v5 ≤ r) → Q 1 σ) (k4 : (v6 ≠ 60) → (v6 ≠ 62) → (v5 ≤ v7) → (v7 = v5) → (r < v5) → Q 2 σ) (k5 : (v6 ≠ 60) → (v6 ≠ 62) → (v7 < v5) → Q 0 σ) (k6 : (v6 ≠ 60) → (v6 = 62) → (v5 < v7) → (v5 < r) → Q 1 σ) (k7 : (v6 ≠ 60) → (v6 = 62) → (v5 < v7) → (r ≤ v5) → Q 2 σ) (k8 : (v6 ≠ 60) → (v6 = 62) → (v7 ≤ v5) → Q 0 σ) (k9 : (v6 = 60) → (v5 ≤ v7) → (v5 ≤ r) → Q 0 σ) (k10 : (v6 = 60) → (v5 ≤ v7) → (r < v5) → Q 2 σ) (k11 : (v6 = 60) → (v7 < v5) → Q 1 σ) : zR G MX12_tested 195 [zr 98, zi v1, zi v2, zi v3, zi v4, zi v5, zi v6, zi v7, zu] [zi r] σ Q := by
  refine z_istore (ls' := [zr 98, zi v1, zi v2, zi v3, zi v4, zi v5, zi v6, zi v7, zi r]) dX12_tested_195 (by decide) rfl ?_
  refine z_iload dX12_tested_197 rfl ?_
  refine z_bipush (x := 60) dX12_tested_199 (by decide +kernel) (by unfold zIn; decide) ?_
  refine z_icmp_ne dX12_tested_201 (tgt := 228) (by decide) (fun h1 => ?_) (fun h1 => ?_)
  · skip
    refine z_iload dX12_tested_228 rfl ?_
    refine z_bipush (x := 62) dX12_tested_230 (by decide +kernel) (by unfold zIn; decide) ?_
    refine z_icmp_ne dX12_tested_232 (tgt := 259) (by decide) (fun h2 => ?_) (fun h2 => ?_)
    · skip
      refine z_iload dX12_tested_259 rfl ?_
      refine z_iload dX12_tested_261 rfl ?_
      refine z_icmp_ge dX12_tested_263 (tgt := 268) (by decide) (fun h3 => ?_) (fun h3 => ?_)
      · skip
        refine z_iload dX12_tested_268 rfl ?_
        refine z_iload dX12_tested_270 rfl ?_
        refine z_icmp_ne dX12_tested_272 (tgt := 288) (by decide) (fun h4 => ?_) (fun h4 => ?_)
        · skip
          refine z_iload dX12_tested_288 rfl ?_
          refine z_iload dX12_tested_290 rfl ?_
          refine z_icmp_gt dX12_tested_292 (tgt := 299) (by decide) (fun h5 => ?_) (fun h5 => ?_)
          · skip
            refine z_iconst dX12_tested_299 (by unfold zIn; decide) ?_
            exact z_ireti rfl dX12_tested_300 (k1 h1 h2 h3 h4 h5)
          · skip
            refine z_iconst dX12_tested_295 (by unfold zIn; decide) ?_
            refine z_goto dX12_tested_296 (tgt := 300) (by decide) ?_
            exact z_ireti rfl dX12_tested_300 (k2 h1 h2 h3 h4 h5)
        · skip
          refine z_iload dX12_tested_275 rfl ?_
          refine z_iload dX12_tested_277 rfl ?_
          refine z_icmp_ge dX12_tested_279 (tgt := 286) (by decide) (fun h6 => ?_) (fun h6 => ?_)
          · skip
            refine z_iconst dX12_tested_286 (by unfold zIn; decide) ?_
            exact z_ireti rfl dX12_tested_287 (k3 h1 h2 h3 h4 h6)
          · skip
            refine z_iconst dX12_tested_282 (by unfold zIn; decide) ?_
            refine z_goto dX12_tested_283 (tgt := 287) (by decide) ?_
            exact z_ireti rfl dX12_tested_287 (k4 h1 h2 h3 h4 h6)
      · skip
        refine z_iconst dX12_tested_266 (by unfold zIn; decide) ?_
        exact z_ireti rfl dX12_tested_267 (k5 h1 h2 h3)
    · skip
      refine z_iload dX12_tested_235 rfl ?_
      refine z_iload dX12_tested_237 rfl ?_
      refine z_icmp_gt dX12_tested_239 (tgt := 246) (by decide) (fun h7 => ?_) (fun h7 => ?_)
      · skip
        refine z_iload dX12_tested_246 rfl ?_
        refine z_iload dX12_tested_248 rfl ?_
        refine z_icmp_gt dX12_tested_250 (tgt := 257) (by decide) (fun h8 => ?_) (fun h8 => ?_)
        · skip
          refine z_iconst dX12_tested_257 (by unfold zIn; decide) ?_
          exact z_ireti rfl dX12_tested_258 (k6 h1 h2 h7 h8)
        · skip
          refine z_iconst dX12_tested_253 (by unfold zIn; decide) ?_
          refine z_goto dX12_tested_254 (tgt := 258) (by decide) ?_
          exact z_ireti rfl dX12_tested_258 (k7 h1 h2 h7 h8)
      · skip
        refine z_iconst dX12_tested_242 (by unfold zIn; decide) ?_
        refine z_goto dX12_tested_243 (tgt := 258) (by decide) ?_
        exact z_ireti rfl dX12_tested_258 (k8 h1 h2 h7)
  · skip
    refine z_iload dX12_tested_204 rfl ?_
    refine z_iload dX12_tested_206 rfl ?_
    refine z_icmp_ge dX12_tested_208 (tgt := 215) (by decide) (fun h9 => ?_) (fun h9 => ?_)
    · skip
      refine z_iload dX12_tested_215 rfl ?_
      refine z_iload dX12_tested_217 rfl ?_
      refine z_icmp_ge dX12_tested_219 (tgt := 226) (by decide) (fun h10 => ?_) (fun h10 => ?_)
      · skip
        refine z_iconst dX12_tested_226 (by unfold zIn; decide) ?_
        exact z_ireti rfl dX12_tested_227 (k9 h1 h9 h10)
      · skip
        refine z_iconst dX12_tested_222 (by unfold zIn; decide) ?_
        refine z_goto dX12_tested_223 (tgt := 227) (by decide) ?_
        exact z_ireti rfl dX12_tested_227 (k10 h1 h9 h10)
    · skip
      refine z_iconst dX12_tested_211 (by unfold zIn; decide) ?_
      refine z_goto dX12_tested_212 (tgt := 227) (by decide) ?_
      exact z_ireti rfl dX12_tested_227 (k11 h1 h9)
set_option maxRecDepth 20000 in
set_option maxHeartbeats 1000000 in
theorem TX12_joined {G : zG} {σ : zS} {Q : Int → zS → Prop} {a1 a2 a3 : Int}  (k1 : (a1 ≠ a3) → (a2 ≠ a3) → (a1 ≠ 2) → (a2 ≠ 2) → -2147483648 ≤ 1 - a3 ∧ 1 - a3 < (2147483648 : Int)) (k2 : (a1 ≠ a3) → (a2 ≠ a3) → (a1 ≠ 2) → (a2 ≠ 2) → Q (1 - a3) σ) (k3 : (a1 = a3 ∨ (a1 ≠ a3 ∧ a2 = a3)) → Q a3 σ) (k4 : (a1 ≠ a3) → (a2 ≠ a3) → (a1 = 2 ∨ (a1 ≠ 2 ∧ a2 = 2)) → Q 2 σ) : zO G MX12_joined [zi a1, zi a2, zi a3] σ Q := by
  refine zO_of (ls0 := [zi a1, zi a2, zi a3]) (by decide) (Nat.le_of_ble_eq_true rfl) rfl ?_
  have J22 : (a1 ≠ a3) → (a2 ≠ a3) → (a1 = 2 ∨ (a1 ≠ 2 ∧ a2 = 2)) → zR G MX12_joined 22 [zi a1, zi a2, zi a3] [] σ Q := by
    intro h1 h2 h6
    refine z_iconst dX12_joined_22 (by unfold zIn; decide) ?_
    refine z_goto dX12_joined_23 (tgt := 29) (by decide) ?_
    exact z_ireti rfl dX12_joined_29 (k4 h1 h2 h6)
  have J10 : (a1 = a3 ∨ (a1 ≠ a3 ∧ a2 = a3)) → zR G MX12_joined 10 [zi a1, zi a2, zi a3] [] σ Q := by
    intro h5
    refine z_iload_n dX12_joined_10 rfl rfl ?_
    exact z_ireti rfl dX12_joined_11 (k3 h5)
  refine z_iload_n dX12_joined_0 rfl rfl ?_
  refine z_iload_n dX12_joined_1 rfl rfl ?_
  refine z_icmp_eq dX12_joined_2 (tgt := 10) (by decide) (fun h1 => ?_) (fun h1 => ?_)
  · skip
    exact J10 (Or.inl h1)
  · skip
    refine z_iload_n dX12_joined_5 rfl rfl ?_
    refine z_iload_n dX12_joined_6 rfl rfl ?_
    refine z_icmp_ne dX12_joined_7 (tgt := 12) (by decide) (fun h2 => ?_) (fun h2 => ?_)
    · skip
      refine z_iload_n dX12_joined_12 rfl rfl ?_
      refine z_iconst dX12_joined_13 (by unfold zIn; decide) ?_
      refine z_icmp_eq dX12_joined_14 (tgt := 22) (by decide) (fun h3 => ?_) (fun h3 => ?_)
      · skip
        exact J22 h1 h2 (Or.inl h3)
      · skip
        refine z_iload_n dX12_joined_17 rfl rfl ?_
        refine z_iconst dX12_joined_18 (by unfold zIn; decide) ?_
        refine z_icmp_ne dX12_joined_19 (tgt := 26) (by decide) (fun h4 => ?_) (fun h4 => ?_)
        · skip
          refine z_iconst dX12_joined_26 (by unfold zIn; decide) ?_
          refine z_iload_n dX12_joined_27 rfl rfl ?_
          have s1 : -2147483648 ≤ 1 - a3 ∧ 1 - a3 < (2147483648 : Int) := k1 h1 h2 h3 h4
          refine z_isubN dX12_joined_28 s1 ?_
          exact z_ireti rfl dX12_joined_29 (k2 h1 h2 h3 h4)
        · skip
          exact J22 h1 h2 (Or.inr ⟨h3, h4⟩)
    · skip
      exact J10 (Or.inr ⟨h1, h2⟩)
set_option maxRecDepth 20000 in
set_option maxHeartbeats 1000000 in
theorem TX12_mays {G : zG} {σ : zS} {Q : Int → zS → Prop} {a1 a2 a3 a4 : Int}  (k1 : zO G MX12_words [zr 98, zi a2, zi a3, zi a4] σ (fun rr σ' => zR G MX12_mays 8 [zr 98, zi a1, zi a2, zi a3, zi a4, zu, zu, zu] [] σ' Q)) : zO G MX12_mays [zr 98, zi a1, zi a2, zi a3, zi a4] σ Q := by
  refine zO_of (ls0 := [zr 98, zi a1, zi a2, zi a3, zi a4, zu, zu, zu]) (by decide) (Nat.le_of_ble_eq_true rfl) rfl ?_
  refine z_aload_n dX12_mays_0 rfl rfl ?_
  refine z_iload_n dX12_mays_1 rfl rfl ?_
  refine z_iload_n dX12_mays_2 rfl rfl ?_
  refine z_iload dX12_mays_3 rfl ?_
  refine z_callv (as := [zi a2, zi a3, zi a4]) (st := []) mkX12_words lkRX12_316 rfl rfl rfl (by decide) (Nat.le_of_ble_eq_true rfl) rfl dX12_mays_5 (k1)
set_option maxRecDepth 20000 in
set_option maxHeartbeats 1000000 in
theorem TX12_mays_8 {G : zG} {σ : zS} {Q : Int → zS → Prop} {v1 v2 v3 v4 : Int}  (k1 : zO G MX12_compiles [zr 98] σ (fun rr σ' => zR G MX12_mays 12 [zr 98, zi v1, zi v2, zi v3, zi v4, zu, zu, zu] [zi rr] σ' Q)) : zR G MX12_mays 8 [zr 98, zi v1, zi v2, zi v3, zi v4, zu, zu, zu] [] σ Q := by
  refine z_aload_n dX12_mays_8 rfl rfl ?_
  refine z_callv (as := []) (st := []) mkX12_compiles lkRX12_350 rfl rfl rfl (by decide) (Nat.le_of_ble_eq_true rfl) rfl dX12_mays_9 (k1)
set_option maxRecDepth 20000 in
set_option maxHeartbeats 1000000 in
theorem TX12_mays_12 {G : zG} {σ : zS} {Q : Int → zS → Prop} {v1 v2 v3 v4 r : Int}  (k1 : (r = (-1)) → (0 : Int) ≤ v1 ∧ v1 < (24 : Int)) (k2 : (r ≠ (-1)) → Q 3 σ) (k3 : (r = (-1)) → (v3 < σ 99 v1 ∨ (σ 99 v1 ≤ v3 ∧ σ 105 v1 ≠ 0 ∧ σ 101 v1 ≤ v4 ∧ σ 100 v1 ≤ v3)) → Q 0 σ) (k4 : (r = (-1)) → (σ 99 v1 ≤ v3) → (σ 105 v1 = 0 ∨ (σ 105 v1 ≠ 0 ∧ v4 < σ 101 v1) ∨ (σ 105 v1 ≠ 0 ∧ σ 101 v1 ≤ v4 ∧ v3 < σ 100 v1)) → zR G MX12_mays 66 [zr 98, zi v1, zi v2, zi v3, zi v4, zi 0, zi 0, zu] [] σ Q) : zR G MX12_mays 12 [zr 98, zi v1, zi v2, zi v3, zi v4, zu, zu, zu] [zi r] σ Q := by
  have J60 : (r = (-1)) → (σ 99 v1 ≤ v3) → (σ 105 v1 = 0 ∨ (σ 105 v1 ≠ 0 ∧ v4 < σ 101 v1) ∨ (σ 105 v1 ≠ 0 ∧ σ 101 v1 ≤ v4 ∧ v3 < σ 100 v1)) → zR G MX12_mays 60 [zr 98, zi v1, zi v2, zi v3, zi v4, zu, zu, zu] [] σ Q := by
    intro h1 h2 h7
    refine z_iconst dX12_mays_60 (by unfold zIn; decide) ?_
    refine z_istore (ls' := [zr 98, zi v1, zi v2, zi v3, zi v4, zi 0, zu, zu]) dX12_mays_61 (by decide) rfl ?_
    refine z_iconst dX12_mays_63 (by unfold zIn; decide) ?_
    refine z_istore (ls' := [zr 98, zi v1, zi v2, zi v3, zi v4, zi 0, zi 0, zu]) dX12_mays_64 (by decide) rfl ?_
    exact k4 h1 h2 h7
  have J58 : (r = (-1)) → (v3 < σ 99 v1 ∨ (σ 99 v1 ≤ v3 ∧ σ 105 v1 ≠ 0 ∧ σ 101 v1 ≤ v4 ∧ σ 100 v1 ≤ v3)) → zR G MX12_mays 58 [zr 98, zi v1, zi v2, zi v3, zi v4, zu, zu, zu] [] σ Q := by
    intro h1 h6
    refine z_iconst dX12_mays_58 (by unfold zIn; decide) ?_
    exact z_ireti rfl dX12_mays_59 (k3 h1 h6)
  refine z_iconst dX12_mays_12 (by unfold zIn; decide) ?_
  refine z_icmp_eq dX12_mays_13 (tgt := 18) (by decide) (fun h1 => ?_) (fun h1 => ?_)
  · skip
    refine z_iload_n dX12_mays_18 rfl rfl ?_
    refine z_aload_n dX12_mays_19 rfl rfl ?_
    refine z_getfR (k := 13) flRX12_13 rfl rfl dX12_mays_20 ?_
    refine z_iload_n dX12_mays_23 rfl rfl ?_
    have s1 : (0 : Int) ≤ v1 ∧ v1 < (24 : Int) := k1 h1
    refine z_iald rfl s1.1 s1.2 dX12_mays_24 ?_
    refine z_icmp_lt dX12_mays_25 (tgt := 58) (by decide) (fun h2 => ?_) (fun h2 => ?_)
    · skip
      exact J58 h1 (Or.inl h2)
    · skip
      refine z_aload_n dX12_mays_28 rfl rfl ?_
      refine z_getfR (k := 19) flRX12_33 rfl rfl dX12_mays_29 ?_
      refine z_iload_n dX12_mays_32 rfl rfl ?_
      refine z_bald rfl s1.1 s1.2 dX12_mays_33 ?_
      refine z_if_eq dX12_mays_34 (tgt := 60) (by decide) (fun h3 => ?_) (fun h3 => ?_)
      · skip
        exact J60 h1 h2 (Or.inl h3)
      · skip
        refine z_aload_n dX12_mays_37 rfl rfl ?_
        refine z_getfR (k := 15) flRX12_20 rfl rfl dX12_mays_38 ?_
        refine z_iload_n dX12_mays_41 rfl rfl ?_
        refine z_iald rfl s1.1 s1.2 dX12_mays_42 ?_
        refine z_iload dX12_mays_43 rfl ?_
        refine z_icmp_gt dX12_mays_45 (tgt := 60) (by decide) (fun h4 => ?_) (fun h4 => ?_)
        · skip
          exact J60 h1 h2 (Or.inr (Or.inl ⟨h3, h4⟩))
        · skip
          refine z_iload_n dX12_mays_48 rfl rfl ?_
          refine z_aload_n dX12_mays_49 rfl rfl ?_
          refine z_getfR (k := 14) flRX12_17 rfl rfl dX12_mays_50 ?_
          refine z_iload_n dX12_mays_53 rfl rfl ?_
          refine z_iald rfl s1.1 s1.2 dX12_mays_54 ?_
          refine z_icmp_lt dX12_mays_55 (tgt := 60) (by decide) (fun h5 => ?_) (fun h5 => ?_)
          · skip
            exact J60 h1 h2 (Or.inr (Or.inr ⟨h3, h4, h5⟩))
          · skip
            exact J58 h1 (Or.inr ⟨h2, h3, h4, h5⟩)
  · skip
    refine z_iconst dX12_mays_16 (by unfold zIn; decide) ?_
    exact z_ireti rfl dX12_mays_17 (k2 h1)
set_option maxRecDepth 20000 in
set_option maxHeartbeats 1000000 in
theorem TX12_mays_66 {G : zG} {σ : zS} {Q : Int → zS → Prop} {v1 v2 v3 v4 v5 v6 : Int}  (k1 : (σ 98 85 ≤ v6) → Q (σ 167 0) σ) (k2 : (v6 < σ 98 85) → (0 : Int) ≤ v6 ∧ v6 < (500 : Int)) (k3 : (v6 < σ 98 85) → (σ 165 v6 < 0) → (σ 165 v6 ≠ (-1)) → -2147483648 ≤ v5 + (-1) ∧ v5 + (-1) < (2147483648 : Int)) (k4 : (v6 < σ 98 85) → (σ 165 v6 < 0) → (σ 165 v6 ≠ (-1)) → -2147483648 ≤ (v5 + (-1)) - 1 ∧ (v5 + (-1)) - 1 < (2147483648 : Int)) (k5 : (v6 < σ 98 85) → (σ 165 v6 < 0) → (σ 165 v6 ≠ (-1)) → (0 : Int) ≤ (v5 + (-1)) - 1 ∧ (v5 + (-1)) - 1 < (110 : Int)) (k6 : (v6 < σ 98 85) → (σ 165 v6 < 0) → (σ 165 v6 ≠ (-1)) → (0 : Int) ≤ v5 + (-1) ∧ v5 + (-1) < (110 : Int)) (k7 : (v6 < σ 98 85) → (σ 165 v6 < 0) → (σ 165 v6 ≠ (-1)) → (σ 165 v6 ≠ (-2)) → zO G MX12_joined [zi (σ 167 ((v5 + (-1)) - 1)), zi (σ 167 (v5 + (-1))), zi 1] σ (fun rr σ' => zR G MX12_mays 200 [zr 98, zi v1, zi v2, zi v3, zi v4, zi (v5 + (-1)), zi v6, zi (σ 165 v6)] [zi rr, zi ((v5 + (-1)) - 1), zr 167] σ' Q)) (k8 : (v6 < σ 98 85) → (σ 165 v6 < 0) → (σ 165 v6 ≠ (-1)) → (σ 165 v6 = (-2)) → zO G MX12_joined [zi (σ 167 ((v5 + (-1)) - 1)), zi (σ 167 (v5 + (-1))), zi 0] σ (fun rr σ' => zR G MX12_mays 200 [zr 98, zi v1, zi v2, zi v3, zi v4, zi (v5 + (-1)), zi v6, zi (σ 165 v6)] [zi rr, zi ((v5 + (-1)) - 1), zr 167] σ' Q)) (k9 : (v6 < σ 98 85) → (σ 165 v6 < 0) → (σ 165 v6 = (-1)) → -2147483648 ≤ v5 - 1 ∧ v5 - 1 < (2147483648 : Int)) (k10 : (v6 < σ 98 85) → (σ 165 v6 < 0) → (σ 165 v6 = (-1)) → (0 : Int) ≤ v5 - 1 ∧ v5 - 1 < (110 : Int)) (k11 : (v6 < σ 98 85) → (σ 165 v6 < 0) → (σ 165 v6 = (-1)) → (σ 167 (v5 - 1) ≠ 2) → -2147483648 ≤ 1 - (σ 167 (v5 - 1)) ∧ 1 - (σ 167 (v5 - 1)) < (2147483648 : Int)) (k12 : (v6 < σ 98 85) → (0 ≤ σ 165 v6) → -2147483648 ≤ v5 + 1 ∧ v5 + 1 < (2147483648 : Int)) (k13 : (v6 < σ 98 85) → (0 ≤ σ 165 v6) → zO G MX12_tested [zr 98, zi (σ 165 v6), zi v1, zi v3, zi v4] σ (fun rr σ' => zR G MX12_mays 108 [zr 98, zi v1, zi v2, zi v3, zi v4, zi (v5 + 1), zi v6, zi (σ 165 v6)] [zi rr, zi v5, zr 167] σ' Q)) (k14 : (v6 < σ 98 85) → (σ 165 v6 < 0) → (σ 165 v6 = (-1)) → (σ 167 (v5 - 1) ≠ 2) → -2147483648 ≤ v6 + 1 ∧ v6 + 1 < (2147483648 : Int)) (k15 : (v6 < σ 98 85) → (σ 165 v6 < 0) → (σ 165 v6 = (-1)) → (σ 167 (v5 - 1) ≠ 2) → zR G MX12_mays 66 [zr 98, zi v1, zi v2, zi v3, zi v4, zi v5, zi (v6 + 1), zu] [] (zup σ 167 (v5 - 1) (1 - (σ 167 (v5 - 1)))) Q) (k16 : (v6 < σ 98 85) → (σ 165 v6 < 0) → (σ 165 v6 = (-1)) → (σ 167 (v5 - 1) = 2) → -2147483648 ≤ v6 + 1 ∧ v6 + 1 < (2147483648 : Int)) (k17 : (v6 < σ 98 85) → (σ 165 v6 < 0) → (σ 165 v6 = (-1)) → (σ 167 (v5 - 1) = 2) → zR G MX12_mays 66 [zr 98, zi v1, zi v2, zi v3, zi v4, zi v5, zi (v6 + 1), zu] [] (zup σ 167 (v5 - 1) 2) Q) : zR G MX12_mays 66 [zr 98, zi v1, zi v2, zi v3, zi v4, zi v5, zi v6, zu] [] σ Q := by
  have J201_1 : (v6 < σ 98 85) → (σ 165 v6 < 0) → (σ 165 v6 = (-1)) → (σ 167 (v5 - 1) = 2) → zR G MX12_mays 201 [zr 98, zi v1, zi v2, zi v3, zi v4, zi v5, zi v6, zi (σ 165 v6)] [] (zup σ 167 (v5 - 1) 2) Q := by
    intro h1 h2 h3 h5
    have s16 : -2147483648 ≤ v6 + 1 ∧ v6 + 1 < (2147483648 : Int) := k16 h1 h2 h3 h5
    refine z_iincN (ls' := [zr 98, zi v1, zi v2, zi v3, zi v4, zi v5, zi (v6 + 1), zi (σ 165 v6)]) dX12_mays_201 rfl (by decide) s16 rfl ?_
    refine z_goto dX12_mays_204 (tgt := 66) (by decide) ?_
    exact zR_fg [false, false, false, false, false, false, false, true] (k17 h1 h2 h3 h5)
  have J201 : (v6 < σ 98 85) → (σ 165 v6 < 0) → (σ 165 v6 = (-1)) → (σ 167 (v5 - 1) ≠ 2) → zR G MX12_mays 201 [zr 98, zi v1, zi v2, zi v3, zi v4, zi v5, zi v6, zi (σ 165 v6)] [] (zup σ 167 (v5 - 1) (1 - (σ 167 (v5 - 1)))) Q := by
    intro h1 h2 h3 h5
    have s14 : -2147483648 ≤ v6 + 1 ∧ v6 + 1 < (2147483648 : Int) := k14 h1 h2 h3 h5
    refine z_iincN (ls' := [zr 98, zi v1, zi v2, zi v3, zi v4, zi v5, zi (v6 + 1), zi (σ 165 v6)]) dX12_mays_201 rfl (by decide) s14 rfl ?_
    refine z_goto dX12_mays_204 (tgt := 66) (by decide) ?_
    exact zR_fg [false, false, false, false, false, false, false, true] (k15 h1 h2 h3 h5)
  refine z_iload dX12_mays_66 rfl ?_
  refine z_aload_n dX12_mays_68 rfl rfl ?_
  refine z_getfI (k := 85) flRX12_336 rfl rfl dX12_mays_69 ?_
  refine z_icmp_ge dX12_mays_72 (tgt := 207) (by decide) (fun h1 => ?_) (fun h1 => ?_)
  · skip
    refine z_aload_n dX12_mays_207 rfl rfl ?_
    refine z_getfR (k := 83) flRX12_220 rfl rfl dX12_mays_208 ?_
    refine z_iconst dX12_mays_211 (by unfold zIn; decide) ?_
    refine z_iald rfl (by decide) (by decide) dX12_mays_212 ?_
    exact z_ireti rfl dX12_mays_213 (k1 h1)
  · skip
    refine z_aload_n dX12_mays_75 rfl rfl ?_
    refine z_getfR (k := 81) flRX12_214 rfl rfl dX12_mays_76 ?_
    refine z_iload dX12_mays_79 rfl ?_
    have s2 : (0 : Int) ≤ v6 ∧ v6 < (500 : Int) := k2 h1
    refine z_iald rfl s2.1 s2.2 dX12_mays_81 ?_
    refine z_istore (ls' := [zr 98, zi v1, zi v2, zi v3, zi v4, zi v5, zi v6, zi (σ 165 v6)]) dX12_mays_82 (by decide) rfl ?_
    refine z_iload dX12_mays_84 rfl ?_
    refine z_if_lt dX12_mays_86 (tgt := 112) (by decide) (fun h2 => ?_) (fun h2 => ?_)
    · skip
      refine z_iload dX12_mays_112 rfl ?_
      refine z_iconst dX12_mays_114 (by unfold zIn; decide) ?_
      refine z_icmp_ne dX12_mays_115 (tgt := 158) (by decide) (fun h3 => ?_) (fun h3 => ?_)
      · skip
        have s3 : -2147483648 ≤ v5 + (-1) ∧ v5 + (-1) < (2147483648 : Int) := k3 h1 h2 h3
        refine z_iincN (ls' := [zr 98, zi v1, zi v2, zi v3, zi v4, zi (v5 + (-1)), zi v6, zi (σ 165 v6)]) dX12_mays_158 rfl (by decide) s3 rfl ?_
        refine z_aload_n dX12_mays_161 rfl rfl ?_
        refine z_getfR (k := 83) flRX12_220 rfl rfl dX12_mays_162 ?_
        refine z_iload dX12_mays_165 rfl ?_
        refine z_iconst dX12_mays_167 (by unfold zIn; decide) ?_
        have s4 : -2147483648 ≤ (v5 + (-1)) - 1 ∧ (v5 + (-1)) - 1 < (2147483648 : Int) := k4 h1 h2 h3
        refine z_isubN dX12_mays_168 s4 ?_
        refine z_aload_n dX12_mays_169 rfl rfl ?_
        refine z_getfR (k := 83) flRX12_220 rfl rfl dX12_mays_170 ?_
        refine z_iload dX12_mays_173 rfl ?_
        refine z_iconst dX12_mays_175 (by unfold zIn; decide) ?_
        refine z_isubN dX12_mays_176 s4 ?_
        have s5 : (0 : Int) ≤ (v5 + (-1)) - 1 ∧ (v5 + (-1)) - 1 < (110 : Int) := k5 h1 h2 h3
        refine z_iald rfl s5.1 s5.2 dX12_mays_177 ?_
        refine z_aload_n dX12_mays_178 rfl rfl ?_
        refine z_getfR (k := 83) flRX12_220 rfl rfl dX12_mays_179 ?_
        refine z_iload dX12_mays_182 rfl ?_
        have s6 : (0 : Int) ≤ v5 + (-1) ∧ v5 + (-1) < (110 : Int) := k6 h1 h2 h3
        refine z_iald rfl s6.1 s6.2 dX12_mays_184 ?_
        refine z_iload dX12_mays_185 rfl ?_
        refine z_bipush (x := (-2)) dX12_mays_187 (by decide +kernel) (by unfold zIn; decide) ?_
        refine z_icmp_ne dX12_mays_189 (tgt := 196) (by decide) (fun h4 => ?_) (fun h4 => ?_)
        · skip
          refine z_iconst dX12_mays_196 (by unfold zIn; decide) ?_
          refine z_calls (as := [zi (σ 167 ((v5 + (-1)) - 1)), zi (σ 167 (v5 + (-1))), zi 1]) (st := [zi ((v5 + (-1)) - 1), zr 167]) mkX12_joined lkRX12_362 rfl (by decide) (Nat.le_of_ble_eq_true rfl) rfl dX12_mays_197 (k7 h1 h2 h3 h4)
        · skip
          refine z_iconst dX12_mays_192 (by unfold zIn; decide) ?_
          refine z_goto dX12_mays_193 (tgt := 197) (by decide) ?_
          refine z_calls (as := [zi (σ 167 ((v5 + (-1)) - 1)), zi (σ 167 (v5 + (-1))), zi 0]) (st := [zi ((v5 + (-1)) - 1), zr 167]) mkX12_joined lkRX12_362 rfl (by decide) (Nat.le_of_ble_eq_true rfl) rfl dX12_mays_197 (k8 h1 h2 h3 h4)
      · skip
        refine z_aload_n dX12_mays_118 rfl rfl ?_
        refine z_getfR (k := 83) flRX12_220 rfl rfl dX12_mays_119 ?_
        refine z_iload dX12_mays_122 rfl ?_
        refine z_iconst dX12_mays_124 (by unfold zIn; decide) ?_
        have s9 : -2147483648 ≤ v5 - 1 ∧ v5 - 1 < (2147483648 : Int) := k9 h1 h2 h3
        refine z_isubN dX12_mays_125 s9 ?_
        refine z_aload_n dX12_mays_126 rfl rfl ?_
        refine z_getfR (k := 83) flRX12_220 rfl rfl dX12_mays_127 ?_
        refine z_iload dX12_mays_130 rfl ?_
        refine z_iconst dX12_mays_132 (by unfold zIn; decide) ?_
        refine z_isubN dX12_mays_133 s9 ?_
        have s10 : (0 : Int) ≤ v5 - 1 ∧ v5 - 1 < (110 : Int) := k10 h1 h2 h3
        refine z_iald rfl s10.1 s10.2 dX12_mays_134 ?_
        refine z_iconst dX12_mays_135 (by unfold zIn; decide) ?_
        refine z_icmp_ne dX12_mays_136 (tgt := 143) (by decide) (fun h5 => ?_) (fun h5 => ?_)
        · skip
          refine z_iconst dX12_mays_143 (by unfold zIn; decide) ?_
          refine z_aload_n dX12_mays_144 rfl rfl ?_
          refine z_getfR (k := 83) flRX12_220 rfl rfl dX12_mays_145 ?_
          refine z_iload dX12_mays_148 rfl ?_
          refine z_iconst dX12_mays_150 (by unfold zIn; decide) ?_
          refine z_isubN dX12_mays_151 s9 ?_
          refine z_iald rfl s10.1 s10.2 dX12_mays_152 ?_
          have s11 : -2147483648 ≤ 1 - (σ 167 (v5 - 1)) ∧ 1 - (σ 167 (v5 - 1)) < (2147483648 : Int) := k11 h1 h2 h3 h5
          refine z_isubN dX12_mays_153 s11 ?_
          refine z_iast rfl s10.1 s10.2 dX12_mays_154 ?_
          refine z_goto dX12_mays_155 (tgt := 201) (by decide) ?_
          exact J201 h1 h2 h3 h5
        · skip
          refine z_iconst dX12_mays_139 (by unfold zIn; decide) ?_
          refine z_goto dX12_mays_140 (tgt := 154) (by decide) ?_
          refine z_iast rfl s10.1 s10.2 dX12_mays_154 ?_
          refine z_goto dX12_mays_155 (tgt := 201) (by decide) ?_
          exact J201_1 h1 h2 h3 h5
    · skip
      refine z_aload_n dX12_mays_89 rfl rfl ?_
      refine z_getfR (k := 83) flRX12_220 rfl rfl dX12_mays_90 ?_
      refine z_iload dX12_mays_93 rfl ?_
      have s12 : -2147483648 ≤ v5 + 1 ∧ v5 + 1 < (2147483648 : Int) := k12 h1 h2
      refine z_iincN (ls' := [zr 98, zi v1, zi v2, zi v3, zi v4, zi (v5 + 1), zi v6, zi (σ 165 v6)]) dX12_mays_95 rfl (by decide) s12 rfl ?_
      refine z_aload_n dX12_mays_98 rfl rfl ?_
      refine z_iload dX12_mays_99 rfl ?_
      refine z_iload_n dX12_mays_101 rfl rfl ?_
      refine z_iload_n dX12_mays_102 rfl rfl ?_
      refine z_iload dX12_mays_103 rfl ?_
      refine z_callv (as := [zi (σ 165 v6), zi v1, zi v3, zi v4]) (st := [zi v5, zr 167]) mkX12_tested lkRX12_359 rfl rfl rfl (by decide) (Nat.le_of_ble_eq_true rfl) rfl dX12_mays_105 (k13 h1 h2)
set_option maxRecDepth 20000 in
set_option maxHeartbeats 1000000 in
theorem TX12_mays_108 {G : zG} {σ : zS} {Q : Int → zS → Prop} {v1 v2 v3 v4 v5 v6 v7 r t1 : Int}  (k1 : (0 : Int) ≤ t1 ∧ t1 < (110 : Int)) (k2 : -2147483648 ≤ v6 + 1 ∧ v6 + 1 < (2147483648 : Int)) (k3 : zR G MX12_mays 66 [zr 98, zi v1, zi v2, zi v3, zi v4, zi v5, zi (v6 + 1), zu] [] (zup σ 167 t1 r) Q) : zR G MX12_mays 108 [zr 98, zi v1, zi v2, zi v3, zi v4, zi v5, zi v6, zi v7] [zi r, zi t1, zr 167] σ Q := by
  have J201 : zR G MX12_mays 201 [zr 98, zi v1, zi v2, zi v3, zi v4, zi v5, zi v6, zi v7] [] (zup σ 167 t1 r) Q := by
    have s2 : -2147483648 ≤ v6 + 1 ∧ v6 + 1 < (2147483648 : Int) := k2
    refine z_iincN (ls' := [zr 98, zi v1, zi v2, zi v3, zi v4, zi v5, zi (v6 + 1), zi v7]) dX12_mays_201 rfl (by decide) s2 rfl ?_
    refine z_goto dX12_mays_204 (tgt := 66) (by decide) ?_
    exact zR_fg [false, false, false, false, false, false, false, true] (k3)
  have s1 : (0 : Int) ≤ t1 ∧ t1 < (110 : Int) := k1
  refine z_iast rfl s1.1 s1.2 dX12_mays_108 ?_
  refine z_goto dX12_mays_109 (tgt := 201) (by decide) ?_
  exact J201
set_option maxRecDepth 20000 in
set_option maxHeartbeats 1000000 in
theorem TX12_mays_200 {G : zG} {σ : zS} {Q : Int → zS → Prop} {v1 v2 v3 v4 v5 v6 v7 r t1 : Int}  (k1 : (0 : Int) ≤ t1 ∧ t1 < (110 : Int)) (k2 : -2147483648 ≤ v6 + 1 ∧ v6 + 1 < (2147483648 : Int)) (k3 : zR G MX12_mays 66 [zr 98, zi v1, zi v2, zi v3, zi v4, zi v5, zi (v6 + 1), zu] [] (zup σ 167 t1 r) Q) : zR G MX12_mays 200 [zr 98, zi v1, zi v2, zi v3, zi v4, zi v5, zi v6, zi v7] [zi r, zi t1, zr 167] σ Q := by
  have J201 : zR G MX12_mays 201 [zr 98, zi v1, zi v2, zi v3, zi v4, zi v5, zi v6, zi v7] [] (zup σ 167 t1 r) Q := by
    have s2 : -2147483648 ≤ v6 + 1 ∧ v6 + 1 < (2147483648 : Int) := k2
    refine z_iincN (ls' := [zr 98, zi v1, zi v2, zi v3, zi v4, zi v5, zi (v6 + 1), zi v7]) dX12_mays_201 rfl (by decide) s2 rfl ?_
    refine z_goto dX12_mays_204 (tgt := 66) (by decide) ?_
    exact zR_fg [false, false, false, false, false, false, false, true] (k3)
  have s1 : (0 : Int) ≤ t1 ∧ t1 < (110 : Int) := k1
  refine z_iast rfl s1.1 s1.2 dX12_mays_200 ?_
  exact J201
