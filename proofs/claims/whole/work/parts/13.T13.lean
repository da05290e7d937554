set_option maxRecDepth 20000 in
set_option maxHeartbeats 1000000 in
theorem TX12_fault {G : zG} {σ : zS} {Q : Int → zS → Prop} {a1 a2 a3 : Int}  (k1 : ((0 ≤ a1 ∧ a1 < 4)) → zO G MX12_words [zr 98, zi a1, zi a2, zi a3] σ (fun rr σ' => zR G MX12_fault 16 [zr 98, zi a1, zi a2, zi a3] [] σ' Q)) (k2 : (¬ ((0 ≤ a1 ∧ a1 < 4))) → Q (-1) σ) : zO G MX12_fault [zr 98, zi a1, zi a2, zi a3] σ Q := by
  refine zO_of (ls0 := [zr 98, zi a1, zi a2, zi a3]) (by decide) (Nat.le_of_ble_eq_true rfl) rfl ?_
  refine z_iload_n dX12_fault_0 rfl rfl ?_
  refine z_calls (as := [zi a1]) (st := []) mkX12_isStatute lkRX12_297 rfl (by decide) (Nat.le_of_ble_eq_true rfl) rfl dX12_fault_1 ?_
  refine SX12_isStatute ?_
  show zR G MX12_fault 4 [zr 98, zi a1, zi a2, zi a3] [zi (if (0 ≤ a1 ∧ a1 < 4) then (1 : Int) else 0)] σ Q
  refine z_if_ne dX12_fault_4 (tgt := 9) (by decide) (fun z => ?_) (fun z => ?_)
  · have h1 : (0 ≤ a1 ∧ a1 < 4) := zb1 z
    refine z_aload_n dX12_fault_9 rfl rfl ?_
    refine z_iload_n dX12_fault_10 rfl rfl ?_
    refine z_iload_n dX12_fault_11 rfl rfl ?_
    refine z_iload_n dX12_fault_12 rfl rfl ?_
    refine z_callv (as := [zi a1, zi a2, zi a3]) (st := []) mkX12_words lkRX12_316 rfl rfl rfl (by decide) (Nat.le_of_ble_eq_true rfl) rfl dX12_fault_13 (k1 h1)
  · have h1 : ¬ ((0 ≤ a1 ∧ a1 < 4)) := zb0 z
    refine z_iconst dX12_fault_7 (by unfold zIn; decide) ?_
    exact z_ireti rfl dX12_fault_8 (k2 h1)
set_option maxRecDepth 20000 in
set_option maxHeartbeats 1000000 in
theorem TX12_fault_16 {G : zG} {σ : zS} {Q : Int → zS → Prop} {v1 v2 v3 : Int}  (k1 : zO G MX12_compiles [zr 98] σ (fun rr σ' => zR G MX12_fault 20 [zr 98, zi v1, zi v2, zi v3] [zi rr] σ' Q)) : zR G MX12_fault 16 [zr 98, zi v1, zi v2, zi v3] [] σ Q := by
  refine z_aload_n dX12_fault_16 rfl rfl ?_
  refine z_callv (as := []) (st := []) mkX12_compiles lkRX12_350 rfl rfl rfl (by decide) (Nat.le_of_ble_eq_true rfl) rfl dX12_fault_17 (k1)
set_option maxRecDepth 20000 in
set_option maxHeartbeats 1000000 in
theorem TX12_fault_20 {G : zG} {σ : zS} {Q : Int → zS → Prop} {v1 v2 v3 r : Int}  (k1 : Q r σ) : zR G MX12_fault 20 [zr 98, zi v1, zi v2, zi v3] [zi r] σ Q := by
  exact z_ireti rfl dX12_fault_20 (k1)
set_option maxRecDepth 20000 in
set_option maxHeartbeats 1000000 in
theorem TX12_compared {G : zG} {σ : zS} {Q : Int → zS → Prop} {a1 a2 a3 : Int}  (k1 : ((a2 ≠ 60 ∧ a2 ≠ 62 ∧ a1 = a3) ∨ (a2 ≠ 60 ∧ a2 = 62 ∧ a3 < a1) ∨ (a2 = 60 ∧ a1 < a3)) → Q 1 σ) (k2 : ((a2 ≠ 60 ∧ a2 ≠ 62 ∧ a1 ≠ a3) ∨ (a2 ≠ 60 ∧ a2 = 62 ∧ a1 ≤ a3) ∨ (a2 = 60 ∧ a3 ≤ a1)) → Q 0 σ) : zO G MX12_compared [zi a1, zi a2, zi a3] σ Q := by
  refine zO_of (ls0 := [zi a1, zi a2, zi a3]) (by decide) (Nat.le_of_ble_eq_true rfl) rfl ?_
  have J37 : ((a2 ≠ 60 ∧ a2 ≠ 62 ∧ a1 ≠ a3) ∨ (a2 ≠ 60 ∧ a2 = 62 ∧ a1 ≤ a3) ∨ (a2 = 60 ∧ a3 ≤ a1)) → zR G MX12_compared 37 [zi a1, zi a2, zi a3] [] σ Q := by
    intro h7
    refine z_iconst dX12_compared_37 (by unfold zIn; decide) ?_
    exact z_ireti rfl dX12_compared_38 (k2 h7)
  have J33 : ((a2 ≠ 60 ∧ a2 ≠ 62 ∧ a1 = a3) ∨ (a2 ≠ 60 ∧ a2 = 62 ∧ a3 < a1) ∨ (a2 = 60 ∧ a1 < a3)) → zR G MX12_compared 33 [zi a1, zi a2, zi a3] [] σ Q := by
    intro h6
    refine z_iconst dX12_compared_33 (by unfold zIn; decide) ?_
    refine z_goto dX12_compared_34 (tgt := 38) (by decide) ?_
    exact z_ireti rfl dX12_compared_38 (k1 h6)
  refine z_iload_n dX12_compared_0 rfl rfl ?_
  refine z_bipush (x := 60) dX12_compared_1 (by decide +kernel) (by unfold zIn; decide) ?_
  refine z_icmp_ne dX12_compared_3 (tgt := 14) (by decide) (fun h1 => ?_) (fun h1 => ?_)
  · skip
    refine z_iload_n dX12_compared_14 rfl rfl ?_
    refine z_bipush (x := 62) dX12_compared_15 (by decide +kernel) (by unfold zIn; decide) ?_
    refine z_icmp_ne dX12_compared_17 (tgt := 28) (by decide) (fun h2 => ?_) (fun h2 => ?_)
    · skip
      refine z_iload_n dX12_compared_28 rfl rfl ?_
      refine z_iload_n dX12_compared_29 rfl rfl ?_
      refine z_icmp_ne dX12_compared_30 (tgt := 37) (by decide) (fun h3 => ?_) (fun h3 => ?_)
      · skip
        exact J37 (Or.inl ⟨h1, h2, h3⟩)
      · skip
        exact J33 (Or.inl ⟨h1, h2, h3⟩)
    · skip
      refine z_iload_n dX12_compared_20 rfl rfl ?_
      refine z_iload_n dX12_compared_21 rfl rfl ?_
      refine z_icmp_le dX12_compared_22 (tgt := 37) (by decide) (fun h4 => ?_) (fun h4 => ?_)
      · skip
        exact J37 (Or.inr (Or.inl ⟨h1, h2, h4⟩))
      · skip
        refine z_goto dX12_compared_25 (tgt := 33) (by decide) ?_
        exact J33 (Or.inr (Or.inl ⟨h1, h2, h4⟩))
  · skip
    refine z_iload_n dX12_compared_6 rfl rfl ?_
    refine z_iload_n dX12_compared_7 rfl rfl ?_
    refine z_icmp_ge dX12_compared_8 (tgt := 37) (by decide) (fun h5 => ?_) (fun h5 => ?_)
    · skip
      exact J37 (Or.inr (Or.inr ⟨h1, h5⟩))
    · skip
      refine z_goto dX12_compared_11 (tgt := 33) (by decide) ?_
      exact J33 (Or.inr (Or.inr ⟨h1, h5⟩))
set_option maxRecDepth 20000 in
set_option maxHeartbeats 1000000 in
theorem TX12_tested {G : zG} {σ : zS} {Q : Int → zS → Prop} {a1 a2 a3 a4 : Int}  (k1 : (0 : Int) ≤ a1 ∧ a1 < (110 : Int)) (k2 : (σ 162 a1 = 97) → (0 : Int) ≤ a2 ∧ a2 < (24 : Int)) (k3 : (σ 162 a1 = 97) → -9223372036854775808 ≤ a3 - σ 99 a2 ∧ a3 - σ 99 a2 < (9223372036854775808 : Int)) (k4 : (σ 162 a1 = 97) → (0 ≤ zlcmp (zldiv (a3 - σ 99 a2) 365) 0) → zO G MX12_compared [zi (zW (zldiv (a3 - σ 99 a2) 365)), zi (σ 163 a1), zi (σ 164 a1)] σ (fun rr σ' => zR G MX12_tested 127 [zr 98, zi a1, zi a2, zi a3, zi a4, zi (σ 164 a1), zi (σ 163 a1), zl (zldiv (a3 - σ 99 a2) 365), zu] [zi rr] σ' Q)) (k5 : (σ 162 a1 = 97) → (zlcmp (zldiv (a3 - σ 99 a2) 365) 0 < 0) → zO G MX12_compared [zi 0, zi (σ 163 a1), zi (σ 164 a1)] σ (fun rr σ' => zR G MX12_tested 127 [zr 98, zi a1, zi a2, zi a3, zi a4, zi (σ 164 a1), zi (σ 163 a1), zl (zldiv (a3 - σ 99 a2) 365), zu] [zi rr] σ' Q)) (k6 : (¬ σ 162 a1 = 97) → (σ 162 a1 = 100) → zO G MX12_valueOf [zr 98, zi a2, zi 0, zi a3, zi a4] σ (fun rr σ' => zR G MX12_tested 137 [zr 98, zi a1, zi a2, zi a3, zi a4, zi (σ 164 a1), zi (σ 163 a1), zu, zu] [zi rr] σ' Q)) (k7 : (¬ σ 162 a1 = 97) → (¬ σ 162 a1 = 100) → (σ 162 a1 = 114) → zO G MX12_valueOf [zr 98, zi a2, zi 2, zi a3, zi a4] σ (fun rr σ' => zR G MX12_tested 154 [zr 98, zi a1, zi a2, zi a3, zi a4, zi (σ 164 a1), zi (σ 163 a1), zu, zu] [zi rr] σ' Q)) (k8 : (¬ σ 162 a1 = 97) → (¬ σ 162 a1 = 100) → (¬ σ 162 a1 = 114) → (σ 162 a1 = 116) → zO G MX12_valueOf [zr 98, zi a2, zi 3, zi a3, zi a4] σ (fun rr σ' => zR G MX12_tested 171 [zr 98, zi a1, zi a2, zi a3, zi a4, zi (σ 164 a1), zi (σ 163 a1), zu, zu] [zi rr] σ' Q)) (k9 : (¬ σ 162 a1 = 97) → (¬ σ 162 a1 = 100) → (¬ σ 162 a1 = 114) → (¬ σ 162 a1 = 116) → (σ 162 a1 = 119) → zO G MX12_valueOf [zr 98, zi a2, zi 1, zi a3, zi a4] σ (fun rr σ' => zR G MX12_tested 81 [zr 98, zi a1, zi a2, zi a3, zi a4, zi (σ 164 a1), zi (σ 163 a1), zu, zu] [zi rr] σ' Q)) (k10 : (¬ σ 162 a1 = 97) → (¬ σ 162 a1 = 100) → (¬ σ 162 a1 = 114) → (¬ σ 162 a1 = 116) → (¬ σ 162 a1 = 119) → zO G MX12_kinOf [zr 98, zi a2, zi a4] σ (fun rr σ' => zR G MX12_tested 186 [zr 98, zi a1, zi a2, zi a3, zi a4, zi (σ 164 a1), zi (σ 163 a1), zu, zu] [zi rr] σ' Q)) : zO G MX12_tested [zr 98, zi a1, zi a2, zi a3, zi a4] σ Q := by
  refine zO_of (ls0 := [zr 98, zi a1, zi a2, zi a3, zi a4, zu, zu, zu, zu]) (by decide) (Nat.le_of_ble_eq_true rfl) rfl ?_
  refine z_aload_n dX12_tested_0 rfl rfl ?_
  refine z_getfR (k := 80) flRX12_211 rfl rfl dX12_tested_1 ?_
  refine z_iload_n dX12_tested_4 rfl rfl ?_
  have s1 : (0 : Int) ≤ a1 ∧ a1 < (110 : Int) := k1
  refine z_iald rfl s1.1 s1.2 dX12_tested_5 ?_
  refine z_istore (ls' := [zr 98, zi a1, zi a2, zi a3, zi a4, zi (σ 164 a1), zu, zu, zu]) dX12_tested_6 (by decide) rfl ?_
  refine z_aload_n dX12_tested_8 rfl rfl ?_
  refine z_getfR (k := 79) flRX12_208 rfl rfl dX12_tested_9 ?_
  refine z_iload_n dX12_tested_12 rfl rfl ?_
  refine z_iald rfl s1.1 s1.2 dX12_tested_13 ?_
  refine z_istore (ls' := [zr 98, zi a1, zi a2, zi a3, zi a4, zi (σ 164 a1), zi (σ 163 a1), zu, zu]) dX12_tested_14 (by decide) rfl ?_
  refine z_aload_n dX12_tested_16 rfl rfl ?_
  refine z_getfR (k := 78) flRX12_205 rfl rfl dX12_tested_17 ?_
  refine z_iload_n dX12_tested_20 rfl rfl ?_
  refine z_iald rfl s1.1 s1.2 dX12_tested_21 ?_
  show zR G MX12_tested 22 [zr 98, zi a1, zi a2, zi a3, zi a4, zi (σ 164 a1), zi (σ 163 a1), zu, zu] [zi (σ 162 a1)] σ Q
  by_cases h1 : σ 162 a1 = 97
  · refine z_lookup (off := 68) dX12_tested_22 (by decide +kernel) (by rw [h1]; decide +kernel) (tgt := 90) (by decide) ?_
    refine z_iload_n dX12_tested_90 rfl rfl ?_
    refine z_i2l dX12_tested_91 ?_
    refine z_aload_n dX12_tested_92 rfl rfl ?_
    refine z_getfR (k := 13) flRX12_13 rfl rfl dX12_tested_93 ?_
    refine z_iload_n dX12_tested_96 rfl rfl ?_
    have s2 : (0 : Int) ≤ a2 ∧ a2 < (24 : Int) := k2 h1
    refine z_iald rfl s2.1 s2.2 dX12_tested_97 ?_
    refine z_i2l dX12_tested_98 ?_
    have s3 : -9223372036854775808 ≤ a3 - σ 99 a2 ∧ a3 - σ 99 a2 < (9223372036854775808 : Int) := k3 h1
    refine z_lsubN dX12_tested_99 s3 ?_
    refine z_ldc2 (x := 365) (zin_8 (List.mem_of_getElem? (i := 114) (by decide +kernel))) (by unfold zLn; decide) dX12_tested_100 ?_
    refine z_ldiv dX12_tested_103 (by decide) ?_
    refine z_lstore (ls' := [zr 98, zi a1, zi a2, zi a3, zi a4, zi (σ 164 a1), zi (σ 163 a1), zl (zldiv (a3 - σ 99 a2) 365), zu]) dX12_tested_104 (by decide) rfl ?_
    refine z_lload dX12_tested_106 rfl ?_
    refine z_lconst (x := 0) dX12_tested_108 (by decide +kernel) (by unfold zLn; decide) ?_
    refine z_lcmp dX12_tested_109 ?_
    refine z_if_ge dX12_tested_110 (tgt := 117) (by decide) (fun h2 => ?_) (fun h2 => ?_)
    · skip
      refine z_lload dX12_tested_117 rfl ?_
      refine z_l2i dX12_tested_119 ?_
      refine z_iload dX12_tested_120 rfl ?_
      refine z_iload dX12_tested_122 rfl ?_
      refine z_calls (as := [zi (zW (zldiv (a3 - σ 99 a2) 365)), zi (σ 163 a1), zi (σ 164 a1)]) (st := []) mkX12_compared lkRX12_355 rfl (by decide) (Nat.le_of_ble_eq_true rfl) rfl dX12_tested_124 (k4 h1 h2)
    · skip
      refine z_iconst dX12_tested_113 (by unfold zIn; decide) ?_
      refine z_goto dX12_tested_114 (tgt := 120) (by decide) ?_
      refine z_iload dX12_tested_120 rfl ?_
      refine z_iload dX12_tested_122 rfl ?_
      refine z_calls (as := [zi 0, zi (σ 163 a1), zi (σ 164 a1)]) (st := []) mkX12_compared lkRX12_355 rfl (by decide) (Nat.le_of_ble_eq_true rfl) rfl dX12_tested_124 (k5 h1 h2)
  by_cases h3 : σ 162 a1 = 100
  · refine z_lookup (off := 106) dX12_tested_22 (by decide +kernel) (by rw [h3]; decide +kernel) (tgt := 128) (by decide) ?_
    refine z_aload_n dX12_tested_128 rfl rfl ?_
    refine z_iload_n dX12_tested_129 rfl rfl ?_
    refine z_iconst dX12_tested_130 (by unfold zIn; decide) ?_
    refine z_iload_n dX12_tested_131 rfl rfl ?_
    refine z_iload dX12_tested_132 rfl ?_
    refine z_callv (as := [zi a2, zi 0, zi a3, zi a4]) (st := []) mkX12_valueOf lkRX12_282 rfl rfl rfl (by decide) (Nat.le_of_ble_eq_true rfl) rfl dX12_tested_134 (k6 h1 h3)
  by_cases h4 : σ 162 a1 = 114
  · refine z_lookup (off := 123) dX12_tested_22 (by decide +kernel) (by rw [h4]; decide +kernel) (tgt := 145) (by decide) ?_
    refine z_aload_n dX12_tested_145 rfl rfl ?_
    refine z_iload_n dX12_tested_146 rfl rfl ?_
    refine z_iconst dX12_tested_147 (by unfold zIn; decide) ?_
    refine z_iload_n dX12_tested_148 rfl rfl ?_
    refine z_iload dX12_tested_149 rfl ?_
    refine z_callv (as := [zi a2, zi 2, zi a3, zi a4]) (st := []) mkX12_valueOf lkRX12_282 rfl rfl rfl (by decide) (Nat.le_of_ble_eq_true rfl) rfl dX12_tested_151 (k7 h1 h3 h4)
  by_cases h5 : σ 162 a1 = 116
  · refine z_lookup (off := 140) dX12_tested_22 (by decide +kernel) (by rw [h5]; decide +kernel) (tgt := 162) (by decide) ?_
    refine z_aload_n dX12_tested_162 rfl rfl ?_
    refine z_iload_n dX12_tested_163 rfl rfl ?_
    refine z_iconst dX12_tested_164 (by unfold zIn; decide) ?_
    refine z_iload_n dX12_tested_165 rfl rfl ?_
    refine z_iload dX12_tested_166 rfl ?_
    refine z_callv (as := [zi a2, zi 3, zi a3, zi a4]) (st := []) mkX12_valueOf lkRX12_282 rfl rfl rfl (by decide) (Nat.le_of_ble_eq_true rfl) rfl dX12_tested_168 (k8 h1 h3 h4 h5)
  by_cases h6 : σ 162 a1 = 119
  · refine z_lookup (off := 50) dX12_tested_22 (by decide +kernel) (by rw [h6]; decide +kernel) (tgt := 72) (by decide) ?_
    refine z_aload_n dX12_tested_72 rfl rfl ?_
    refine z_iload_n dX12_tested_73 rfl rfl ?_
    refine z_iconst dX12_tested_74 (by unfold zIn; decide) ?_
    refine z_iload_n dX12_tested_75 rfl rfl ?_
    refine z_iload dX12_tested_76 rfl ?_
    refine z_callv (as := [zi a2, zi 1, zi a3, zi a4]) (st := []) mkX12_valueOf lkRX12_282 rfl rfl rfl (by decide) (Nat.le_of_ble_eq_true rfl) rfl dX12_tested_78 (k9 h1 h3 h4 h5 h6)
  refine z_lookup (off := 157) dX12_tested_22 (by decide +kernel) ((zlk h1).trans ((zlk h3).trans ((zlk h4).trans ((zlk h5).trans ((zlk h6).trans (rfl)))))) (tgt := 179) (by decide) ?_
  refine z_aload_n dX12_tested_179 rfl rfl ?_
  refine z_iload_n dX12_tested_180 rfl rfl ?_
  refine z_iload dX12_tested_181 rfl ?_
  refine z_callv (as := [zi a2, zi a4]) (st := []) mkX12_kinOf lkRX12_286 rfl rfl rfl (by decide) (Nat.le_of_ble_eq_true rfl) rfl dX12_tested_183 (k10 h1 h3 h4 h5 h6)
set_option maxRecDepth 20000 in
set_option maxHeartbeats 1000000 in
theorem TX12_tested_81 {G : zG} {σ : zS} {Q : Int → zS → Prop} {v1 v2 v3 v4 v5 v6 r : Int}  (k1 : (r ≤ 0) → Q 0 σ) (k2 : (0 < r) → Q 1 σ) : zR G MX12_tested 81 [zr 98, zi v1, zi v2, zi v3, zi v4, zi v5, zi v6, zu, zu] [zi r] σ Q := by
  refine z_if_le dX12_tested_81 (tgt := 88) (by decide) (fun h1 => ?_) (fun h1 => ?_)
  · skip
    refine z_iconst dX12_tested_88 (by unfold zIn; decide) ?_
    exact z_ireti rfl dX12_tested_89 (k1 h1)
  · skip
    refine z_iconst dX12_tested_84 (by unfold zIn; decide) ?_
    refine z_goto dX12_tested_85 (tgt := 89) (by decide) ?_
    exact z_ireti rfl dX12_tested_89 (k2 h1)
set_option maxRecDepth 20000 in
set_option maxHeartbeats 1000000 in
theorem TX12_tested_127 {G : zG} {σ : zS} {Q : Int → zS → Prop} {v1 v2 v3 v4 v5 v6 v7 r : Int}  (k1 : Q r σ) : zR G MX12_tested 127 [zr 98, zi v1, zi v2, zi v3, zi v4, zi v5, zi v6, zl v7, zu] [zi r] σ Q := by
  exact z_ireti rfl dX12_tested_127 (k1)
set_option maxRecDepth 20000 in
set_option maxHeartbeats 1000000 in
theorem TX12_tested_137 {G : zG} {σ : zS} {Q : Int → zS → Prop} {v1 v2 v3 v4 v5 v6 r : Int}  (k1 : zO G MX12_compared [zi r, zi v6, zi v5] σ (fun rr σ' => zR G MX12_tested 144 [zr 98, zi v1, zi v2, zi v3, zi v4, zi v5, zi v6, zu, zu] [zi rr] σ' Q)) : zR G MX12_tested 137 [zr 98, zi v1, zi v2, zi v3, zi v4, zi v5, zi v6, zu, zu] [zi r] σ Q := by
  refine z_iload dX12_tested_137 rfl ?_
  refine z_iload dX12_tested_139 rfl ?_
  refine z_calls (as := [zi r, zi v6, zi v5]) (st := []) mkX12_compared lkRX12_355 rfl (by decide) (Nat.le_of_ble_eq_true rfl) rfl dX12_tested_141 (k1)
set_option maxRecDepth 20000 in
set_option maxHeartbeats 1000000 in
theorem TX12_tested_144 {G : zG} {σ : zS} {Q : Int → zS → Prop} {v1 v2 v3 v4 v5 v6 r : Int}  (k1 : Q r σ) : zR G MX12_tested 144 [zr 98, zi v1, zi v2, zi v3, zi v4, zi v5, zi v6, zu, zu] [zi r] σ Q := by
  exact z_ireti rfl dX12_tested_144 (k1)
set_option maxRecDepth 20000 in
set_option maxHeartbeats 1000000 in
theorem TX12_tested_154 {G : zG} {σ : zS} {Q : Int → zS → Prop} {v1 v2 v3 v4 v5 v6 r : Int}  (k1 : zO G MX12_compared [zi r, zi v6, zi v5] σ (fun rr σ' => zR G MX12_tested 161 [zr 98, zi v1, zi v2, zi v3, zi v4, zi v5, zi v6, zu, zu] [zi rr] σ' Q)) : zR G MX12_tested 154 [zr 98, zi v1, zi v2, zi v3, zi v4, zi v5, zi v6, zu, zu] [zi r] σ Q := by
  refine z_iload dX12_tested_154 rfl ?_
  refine z_iload dX12_tested_156 rfl ?_
  refine z_calls (as := [zi r, zi v6, zi v5]) (st := []) mkX12_compared lkRX12_355 rfl (by decide) (Nat.le_of_ble_eq_true rfl) rfl dX12_tested_158 (k1)
set_option maxRecDepth 20000 in
set_option maxHeartbeats 1000000 in
theorem TX12_tested_161 {G : zG} {σ : zS} {Q : Int → zS → Prop} {v1 v2 v3 v4 v5 v6 r : Int}  (k1 : Q r σ) : zR G MX12_tested 161 [zr 98, zi v1, zi v2, zi v3, zi v4, zi v5, zi v6, zu, zu] [zi r] σ Q := by
  exact z_ireti rfl dX12_tested_161 (k1)
set_option maxRecDepth 20000 in
set_option maxHeartbeats 1000000 in
theorem TX12_tested_171 {G : zG} {σ : zS} {Q : Int → zS → Prop} {v1 v2 v3 v4 v5 v6 r : Int}  (k1 : zO G MX12_compared [zi r, zi v6, zi v5] σ (fun rr σ' => zR G MX12_tested 178 [zr 98, zi v1, zi v2, zi v3, zi v4, zi v5, zi v6, zu, zu] [zi rr] σ' Q)) : zR G MX12_tested 171 [zr 98, zi v1, zi v2, zi v3, zi v4, zi v5, zi v6, zu, zu] [zi r] σ Q := by
  refine z_iload dX12_tested_171 rfl ?_
  refine z_iload dX12_tested_173 rfl ?_
  refine z_calls (as := [zi r, zi v6, zi v5]) (st := []) mkX12_compared lkRX12_355 rfl (by decide) (Nat.le_of_ble_eq_true rfl) rfl dX12_tested_175 (k1)
set_option maxRecDepth 20000 in
set_option maxHeartbeats 1000000 in
theorem TX12_tested_178 {G : zG} {σ : zS} {Q : Int → zS → Prop} {v1 v2 v3 v4 v5 v6 r : Int}  (k1 : Q r σ) : zR G MX12_tested 178 [zr 98, zi v1, zi v2, zi v3, zi v4, zi v5, zi v6, zu, zu] [zi r] σ Q := by
  exact z_ireti rfl dX12_tested_178 (k1)
set_option maxRecDepth 20000 in
set_option maxHeartbeats 1000000 in
theorem TX12_tested_186 {G : zG} {σ : zS} {Q : Int → zS → Prop} {v1 v2 v3 v4 v5 v6 r : Int}  (k1 : zO G MX12_nearOf [zr 98, zi v2, zi v4] σ (fun rr σ' => zR G MX12_tested 195 [zr 98, zi v1, zi v2, zi v3, zi v4, zi v5, zi v6, zi r, zu] [zi rr] σ' Q)) : zR G MX12_tested 186 [zr 98, zi v1, zi v2, zi v3, zi v4, zi v5, zi v6, zu, zu] [zi r] σ Q := by
  refine z_istore (ls' := [zr 98, zi v1, zi v2, zi v3, zi v4, zi v5, zi v6, zi r, zu]) dX12_tested_186 (by decide) rfl ?_
  refine z_aload_n dX12_tested_188 rfl rfl ?_
  refine z_iload_n dX12_tested_189 rfl rfl ?_
  refine z_iload dX12_tested_190 rfl ?_
  refine z_callv (as := [zi v2, zi v4]) (st := []) mkX12_nearOf lkRX12_290 rfl rfl rfl (by decide) (Nat.le_of_ble_eq_true rfl) rfl dX12_tested_192 (k1)
set_option maxRecDepth 20000 in
set_option maxHeartbeats 1000000 in
theorem TX12_tested_195 {G : zG} {σ : zS} {Q : Int → zS → Prop} {v1 v2 v3 v4 v5 v6 v7 r : Int}  (k1 : (v6 ≠ 60) → (v6 ≠ 62) → (v5 ≤ v7) → (v7 ≠ v5) → (v5 < r) → Q 0 σ) (k2 : (v6 ≠ 60) → (v6 ≠ 62) → (v5 ≤ v7) → (v7 ≠ v5) → (r ≤ v5) → Q 2 σ) (k3 : (v6 ≠ 60) → (v6 ≠ 62) → (v5 ≤ v7) → (v7 = v5) → (v5 ≤ r) → Q 1 σ) (k4 : (v6 ≠ 60) → (v6 ≠ 62) → (v5 ≤ v7) → (v7 = v5) → (r < v5) → Q 2 σ) (k5 : (v6 ≠ 60) → (v6 ≠ 62) → (v7 < v5) → Q 0 σ) (k6 : (v6 ≠ 60) → (v6 = 62) → (v5 < v7) → (v5 < r) → Q 1 σ) (k7 : (v6 ≠ 60) → (v6 = 62) → (v5 < v7) → (r ≤ v5) → Q 2 σ) (k8 : (v6 ≠ 60) → (v6 = 62) → (v7 ≤ v5) → Q 0 σ) (k9 : (v6 = 60) → (v5 ≤ v7) → (v5 ≤ r) → Q 0 σ) (k10 : (v6 = 60) → (v5 ≤ v7) → (r < v5) → Q 2 σ) (k11 : (v6 = 60) → (v7 < v5) → Q 1 σ) : zR G MX12_tested 195 [zr 98, zi v1, zi v2, zi v3, zi v4, zi v5, zi v6, zi v7, zu] [zi r] σ Q := by
  refine z_istore (ls' := [zr 98, zi v1, zi v2, zi v3, zi v4, zi v5, zi v6, zi v7, zi r]) dX12_tested_195 (by decide) rfl ?_
  refine z_iload dX12_tested_197 rfl ?_
  refine z_bipush (x := 60) dX12_tested_199 (by decide +kernel) (by unfold zIn; decide) ?_
  refine z_icmp_ne dX12_tested_201 (tgt := 228) (by decide) (fun h1 => ?_) (fun h1 => ?_)
  · skip
    refine z_iload dX12_tested_228 rfl ?_
    refine z_bipush (x := 62) dX12_tested_230 (by decide +kernel) (by unfold zIn; decide) ?_
    refine z_icmp_ne dX12_tested_232 (tgt := 259) (by decide) (fun h2 => ?_) (fun h2 => ?_)
    · skip
      refine z_iload dX12_tested_259 rfl ?_
      refine z_iload dX12_tested_261 rfl ?_
      refine z_icmp_ge dX12_tested_263 (tgt := 268) (by decide) (fun h3 => ?_) (fun h3 => ?_)
      · skip
        refine z_iload dX12_tested_268 rfl ?_
        refine z_iload dX12_tested_270 rfl ?_
        refine z_icmp_ne dX12_tested_272 (tgt := 288) (by decide) (fun h4 => ?_) (fun h4 => ?_)
        · skip
          refine z_iload dX12_tested_288 rfl ?_
          refine z_iload dX12_tested_290 rfl ?_
          refine z_icmp_gt dX12_tested_292 (tgt := 299) (by decide) (fun h5 => ?_) (fun h5 => ?_)
          · skip
            refine z_iconst dX12_tested_299 (by unfold zIn; decide) ?_
            exact z_ireti rfl dX12_tested_300 (k1 h1 h2 h3 h4 h5)
          · skip
            refine z_iconst dX12_tested_295 (by unfold zIn; decide) ?_
            refine z_goto dX12_tested_296 (tgt := 300) (by decide) ?_
            exact z_ireti rfl dX12_tested_300 (k2 h1 h2 h3 h4 h5)
        · skip
          refine z_iload dX12_tested_275 rfl ?_
          refine z_iload dX12_tested_277 rfl ?_
          refine z_icmp_ge dX12_tested_279 (tgt := 286) (by decide) (fun h6 => ?_) (fun h6 => ?_)
          · skip
            refine z_iconst dX12_tested_286 (by unfold zIn; decide) ?_
            exact z_ireti rfl dX12_tested_287 (k3 h1 h2 h3 h4 h6)
          · skip
            refine z_iconst dX12_tested_282 (by unfold zIn; decide) ?_
            refine z_goto dX12_tested_283 (tgt := 287) (by decide) ?_
            exact z_ireti rfl dX12_tested_287 (k4 h1 h2 h3 h4 h6)
      · skip
        refine z_iconst dX12_tested_266 (by unfold zIn; decide) ?_
        exact z_ireti rfl dX12_tested_267 (k5 h1 h2 h3)
    · skip
      refine z_iload dX12_tested_235 rfl ?_
      refine z_iload dX12_tested_237 rfl ?_
      refine z_icmp_gt dX12_tested_239 (tgt := 246) (by decide) (fun h7 => ?_) (fun h7 => ?_)
      · skip
        refine z_iload dX12_tested_246 rfl ?_
        refine z_iload dX12_tested_248 rfl ?_
        refine z_icmp_gt dX12_tested_250 (tgt := 257) (by decide) (fun h8 => ?_) (fun h8 => ?_)
        · skip
          refine z_iconst dX12_tested_257 (by unfold zIn; decide) ?_
          exact z_ireti rfl dX12_tested_258 (k6 h1 h2 h7 h8)
        · skip
          refine z_iconst dX12_tested_253 (by unfold zIn; decide) ?_
          refine z_goto dX12_tested_254 (tgt := 258) (by decide) ?_
          exact z_ireti rfl dX12_tested_258 (k7 h1 h2 h7 h8)
      · skip
        refine z_iconst dX12_tested_242 (by unfold zIn; decide) ?_
        refine z_goto dX12_tested_243 (tgt := 258) (by decide) ?_
        exact z_ireti rfl dX12_tested_258 (k8 h1 h2 h7)
  · skip
    refine z_iload dX12_tested_204 rfl ?_
    refine z_iload dX12_tested_206 rfl ?_
    refine z_icmp_ge dX12_tested_208 (tgt := 215) (by decide) (fun h9 => ?_) (fun h9 => ?_)
    · skip
      refine z_iload dX12_tested_215 rfl ?_
      refine z_iload dX12_tested_217 rfl ?_
      refine z_icmp_ge dX12_tested_219 (tgt := 226) (by decide) (fun h10 => ?_) (fun h10 => ?_)
      · skip
        refine z_iconst dX12_tested_226 (by unfold zIn; decide) ?_
        exact z_ireti rfl dX12_tested_227 (k9 h1 h9 h10)
      · skip
        refine z_iconst dX12_tested_222 (by unfold zIn; decide) ?_
        refine z_goto dX12_tested_223 (tgt := 227) (by decide) ?_
        exact z_ireti rfl dX12_tested_227 (k10 h1 h9 h10)
    · skip
      refine z_iconst dX12_tested_211 (by unfold zIn; decide) ?_
      refine z_goto dX12_tested_212 (tgt := 227) (by decide) ?_
      exact z_ireti rfl dX12_tested_227 (k11 h1 h9)
set_option maxRecDepth 20000 in
set_option maxHeartbeats 1000000 in
theorem TX12_joined {G : zG} {σ : zS} {Q : Int → zS → Prop} {a1 a2 a3 : Int}  (k1 : (a1 ≠ a3) → (a2 ≠ a3) → (a1 ≠ 2) → (a2 ≠ 2) → -2147483648 ≤ 1 - a3 ∧ 1 - a3 < (2147483648 : Int)) (k2 : (a1 ≠ a3) → (a2 ≠ a3) → (a1 ≠ 2) → (a2 ≠ 2) → Q (1 - a3) σ) (k3 : (a1 = a3 ∨ (a1 ≠ a3 ∧ a2 = a3)) → Q a3 σ) (k4 : (a1 ≠ a3) → (a2 ≠ a3) → (a1 = 2 ∨ (a1 ≠ 2 ∧ a2 = 2)) → Q 2 σ) : zO G MX12_joined [zi a1, zi a2, zi a3] σ Q := by
  refine zO_of (ls0 := [zi a1, zi a2, zi a3]) (by decide) (Nat.le_of_ble_eq_true rfl) rfl ?_
  have J22 : (a1 ≠ a3) → (a2 ≠ a3) → (a1 = 2 ∨ (a1 ≠ 2 ∧ a2 = 2)) → zR G MX12_joined 22 [zi a1, zi a2, zi a3] [] σ Q := by
    intro h1 h2 h6
    refine z_iconst dX12_joined_22 (by unfold zIn; decide) ?_
    refine z_goto dX12_joined_23 (tgt := 29) (by decide) ?_
    exact z_ireti rfl dX12_joined_29 (k4 h1 h2 h6)
  have J10 : (a1 = a3 ∨ (a1 ≠ a3 ∧ a2 = a3)) → zR G MX12_joined 10 [zi a1, zi a2, zi a3] [] σ Q := by
    intro h5
    refine z_iload_n dX12_joined_10 rfl rfl ?_
    exact z_ireti rfl dX12_joined_11 (k3 h5)
  refine z_iload_n dX12_joined_0 rfl rfl ?_
  refine z_iload_n dX12_joined_1 rfl rfl ?_
  refine z_icmp_eq dX12_joined_2 (tgt := 10) (by decide) (fun h1 => ?_) (fun h1 => ?_)
  · skip
    exact J10 (Or.inl h1)
  · skip
    refine z_iload_n dX12_joined_5 rfl rfl ?_
    refine z_iload_n dX12_joined_6 rfl rfl ?_
    refine z_icmp_ne dX12_joined_7 (tgt := 12) (by decide) (fun h2 => ?_) (fun h2 => ?_)
    · skip
      refine z_iload_n dX12_joined_12 rfl rfl ?_
      refine z_iconst dX12_joined_13 (by unfold zIn; decide) ?_
      refine z_icmp_eq dX12_joined_14 (tgt := 22) (by decide) (fun h3 => ?_) (fun h3 => ?_)
      · skip
        exact J22 h1 h2 (Or.inl h3)
      · skip
        refine z_iload_n dX12_joined_17 rfl rfl ?_
        refine z_iconst dX12_joined_18 (by unfold zIn; decide) ?_
        refine z_icmp_ne dX12_joined_19 (tgt := 26) (by decide) (fun h4 => ?_) (fun h4 => ?_)
        · skip
          refine z_iconst dX12_joined_26 (by unfold zIn; decide) ?_
          refine z_iload_n dX12_joined_27 rfl rfl ?_
          have s1 : -2147483648 ≤ 1 - a3 ∧ 1 - a3 < (2147483648 : Int) := k1 h1 h2 h3 h4
          refine z_isubN dX12_joined_28 s1 ?_
          exact z_ireti rfl dX12_joined_29 (k2 h1 h2 h3 h4)
        · skip
          exact J22 h1 h2 (Or.inr ⟨h3, h4⟩)
    · skip
      exact J10 (Or.inr ⟨h1, h2⟩)
set_option maxRecDepth 20000 in
set_option maxHeartbeats 1000000 in
theorem TX12_mays {G : zG} {σ : zS} {Q : Int → zS → Prop} {a1 a2 a3 a4 : Int}  (k1 : zO G MX12_words [zr 98, zi a2, zi a3, zi a4] σ (fun rr σ' => zR G MX12_mays 8 [zr 98, zi a1, zi a2, zi a3, zi a4, zu, zu, zu] [] σ' Q)) : zO G MX12_mays [zr 98, zi a1, zi a2, zi a3, zi a4] σ Q := by
  refine zO_of (ls0 := [zr 98, zi a1, zi a2, zi a3, zi a4, zu, zu, zu]) (by decide) (Nat.le_of_ble_eq_true rfl) rfl ?_
  refine z_aload_n dX12_mays_0 rfl rfl ?_
  refine z_iload_n dX12_mays_1 rfl rfl ?_
  refine z_iload_n dX12_mays_2 rfl rfl ?_
  refine z_iload dX12_mays_3 rfl ?_
  refine z_callv (as := [zi a2, zi a3, zi a4]) (st := []) mkX12_words lkRX12_316 rfl rfl rfl (by decide) (Nat.le_of_ble_eq_true rfl) rfl dX12_mays_5 (k1)
set_option maxRecDepth 20000 in
set_option maxHeartbeats 1000000 in
theorem TX12_mays_8 {G : zG} {σ : zS} {Q : Int → zS → Prop} {v1 v2 v3 v4 : Int}  (k1 : zO G MX12_compiles [zr 98] σ (fun rr σ' => zR G MX12_mays 12 [zr 98, zi v1, zi v2, zi v3, zi v4, zu, zu, zu] [zi rr] σ' Q)) : zR G MX12_mays 8 [zr 98, zi v1, zi v2, zi v3, zi v4, zu, zu, zu] [] σ Q := by
  refine z_aload_n dX12_mays_8 rfl rfl ?_
  refine z_callv (as := []) (st := []) mkX12_compiles lkRX12_350 rfl rfl rfl (by decide) (Nat.le_of_ble_eq_true rfl) rfl dX12_mays_9 (k1)
set_option maxRecDepth 20000 in
set_option maxHeartbeats 1000000 in
theorem TX12_mays_12 {G : zG} {σ : zS} {Q : Int → zS → Prop} {v1 v2 v3 v4 r : Int}  (k1 : (r = (-1)) → (0 : Int) ≤ v1 ∧ v1 < (24 : Int)) (k2 : (r ≠ (-1)) → Q 3 σ) (k3 : (r = (-1)) → (v3 < σ 99 v1 ∨ (σ 99 v1 ≤ v3 ∧ σ 105 v1 ≠ 0 ∧ σ 101 v1 ≤ v4 ∧ σ 100 v1 ≤ v3)) → Q 0 σ) (k4 : (r = (-1)) → (σ 99 v1 ≤ v3) → (σ 105 v1 = 0 ∨ (σ 105 v1 ≠ 0 ∧ v4 < σ 101 v1) ∨ (σ 105 v1 ≠ 0 ∧ σ 101 v1 ≤ v4 ∧ v3 < σ 100 v1)) → zR G MX12_mays 66 [zr 98, zi v1, zi v2, zi v3, zi v4, zi 0, zi 0, zu] [] σ Q) : zR G MX12_mays 12 [zr 98, zi v1, zi v2, zi v3, zi v4, zu, zu, zu] [zi r] σ Q := by
  have J60 : (r = (-1)) → (σ 99 v1 ≤ v3) → (σ 105 v1 = 0 ∨ (σ 105 v1 ≠ 0 ∧ v4 < σ 101 v1) ∨ (σ 105 v1 ≠ 0 ∧ σ 101 v1 ≤ v4 ∧ v3 < σ 100 v1)) → zR G MX12_mays 60 [zr 98, zi v1, zi v2, zi v3, zi v4, zu, zu, zu] [] σ Q := by
    intro h1 h2 h7
    refine z_iconst dX12_mays_60 (by unfold zIn; decide) ?_
    refine z_istore (ls' := [zr 98, zi v1, zi v2, zi v3, zi v4, zi 0, zu, zu]) dX12_mays_61 (by decide) rfl ?_
    refine z_iconst dX12_mays_63 (by unfold zIn; decide) ?_
    refine z_istore (ls' := [zr 98, zi v1, zi v2, zi v3, zi v4, zi 0, zi 0, zu]) dX12_mays_64 (by decide) rfl ?_
    exact k4 h1 h2 h7
  have J58 : (r = (-1)) → (v3 < σ 99 v1 ∨ (σ 99 v1 ≤ v3 ∧ σ 105 v1 ≠ 0 ∧ σ 101 v1 ≤ v4 ∧ σ 100 v1 ≤ v3)) → zR G MX12_mays 58 [zr 98, zi v1, zi v2, zi v3, zi v4, zu, zu, zu] [] σ Q := by
    intro h1 h6
    refine z_iconst dX12_mays_58 (by unfold zIn; decide) ?_
    exact z_ireti rfl dX12_mays_59 (k3 h1 h6)
  refine z_iconst dX12_mays_12 (by unfold zIn; decide) ?_
  refine z_icmp_eq dX12_mays_13 (tgt := 18) (by decide) (fun h1 => ?_) (fun h1 => ?_)
  · skip
    refine z_iload_n dX12_mays_18 rfl rfl ?_
    refine z_aload_n dX12_mays_19 rfl rfl ?_
    refine z_getfR (k := 13) flRX12_13 rfl rfl dX12_mays_20 ?_
    refine z_iload_n dX12_mays_23 rfl rfl ?_
    have s1 : (0 : Int) ≤ v1 ∧ v1 < (24 : Int) := k1 h1
    refine z_iald rfl s1.1 s1.2 dX12_mays_24 ?_
    refine z_icmp_lt dX12_mays_25 (tgt := 58) (by decide) (fun h2 => ?_) (fun h2 => ?_)
    · skip
      exact J58 h1 (Or.inl h2)
    · skip
      refine z_aload_n dX12_mays_28 rfl rfl ?_
      refine z_getfR (k := 19) flRX12_33 rfl rfl dX12_mays_29 ?_
      refine z_iload_n dX12_mays_32 rfl rfl ?_
      refine z_bald rfl s1.1 s1.2 dX12_mays_33 ?_
      refine z_if_eq dX12_mays_34 (tgt := 60) (by decide) (fun h3 => ?_) (fun h3 => ?_)
      · skip
        exact J60 h1 h2 (Or.inl h3)
      · skip
        refine z_aload_n dX12_mays_37 rfl rfl ?_
        refine z_getfR (k := 15) flRX12_20 rfl rfl dX12_mays_38 ?_
        refine z_iload_n dX12_mays_41 rfl rfl ?_
        refine z_iald rfl s1.1 s1.2 dX12_mays_42 ?_
        refine z_iload dX12_mays_43 rfl ?_
        refine z_icmp_gt dX12_mays_45 (tgt := 60) (by decide) (fun h4 => ?_) (fun h4 => ?_)
        · skip
          exact J60 h1 h2 (Or.inr (Or.inl ⟨h3, h4⟩))
        · skip
          refine z_iload_n dX12_mays_48 rfl rfl ?_
          refine z_aload_n dX12_mays_49 rfl rfl ?_
          refine z_getfR (k := 14) flRX12_17 rfl rfl dX12_mays_50 ?_
          refine z_iload_n dX12_mays_53 rfl rfl ?_
          refine z_iald rfl s1.1 s1.2 dX12_mays_54 ?_
          refine z_icmp_lt dX12_mays_55 (tgt := 60) (by decide) (fun h5 => ?_) (fun h5 => ?_)
          · skip
            exact J60 h1 h2 (Or.inr (Or.inr ⟨h3, h4, h5⟩))
          · skip
            exact J58 h1 (Or.inr ⟨h2, h3, h4, h5⟩)
  · skip
    refine z_iconst dX12_mays_16 (by unfold zIn; decide) ?_
    exact z_ireti rfl dX12_mays_17 (k2 h1)
set_option maxRecDepth 20000 in
set_option maxHeartbeats 1000000 in
theorem TX12_mays_66 {G : zG} {σ : zS} {Q : Int → zS → Prop} {v1 v2 v3 v4 v5 v6 : Int}  (k1 : (σ 98 85 ≤ v6) → Q (σ 167 0) σ) (k2 : (v6 < σ 98 85) → (0 : Int) ≤ v6 ∧ v6 < (500 : Int)) (k3 : (v6 < σ 98 85) → (σ 165 v6 < 0) → (σ 165 v6 ≠ (-1)) → -2147483648 ≤ v5 + (-1) ∧ v5 + (-1) < (2147483648 : Int)) (k4 : (v6 < σ 98 85) → (σ 165 v6 < 0) → (σ 165 v6 ≠ (-1)) → -2147483648 ≤ (v5 + (-1)) - 1 ∧ (v5 + (-1)) - 1 < (2147483648 : Int)) (k5 : (v6 < σ 98 85) → (σ 165 v6 < 0) → (σ 165 v6 ≠ (-1)) → (0 : Int) ≤ (v5 + (-1)) - 1 ∧ (v5 + (-1)) - 1 < (110 : Int)) (k6 : (v6 < σ 98 85) → (σ 165 v6 < 0) → (σ 165 v6 ≠ (-1)) → (0 : Int) ≤ v5 + (-1) ∧ v5 + (-1) < (110 : Int)) (k7 : (v6 < σ 98 85) → (σ 165 v6 < 0) → (σ 165 v6 ≠ (-1)) → (σ 165 v6 ≠ (-2)) → zO G MX12_joined [zi (σ 167 ((v5 + (-1)) - 1)), zi (σ 167 (v5 + (-1))), zi 1] σ (fun rr σ' => zR G MX12_mays 200 [zr 98, zi v1, zi v2, zi v3, zi v4, zi (v5 + (-1)), zi v6, zi (σ 165 v6)] [zi rr, zi ((v5 + (-1)) - 1), zr 167] σ' Q)) (k8 : (v6 < σ 98 85) → (σ 165 v6 < 0) → (σ 165 v6 ≠ (-1)) → (σ 165 v6 = (-2)) → zO G MX12_joined [zi (σ 167 ((v5 + (-1)) - 1)), zi (σ 167 (v5 + (-1))), zi 0] σ (fun rr σ' => zR G MX12_mays 200 [zr 98, zi v1, zi v2, zi v3, zi v4, zi (v5 + (-1)), zi v6, zi (σ 165 v6)] [zi rr, zi ((v5 + (-1)) - 1), zr 167] σ' Q)) (k9 : (v6 < σ 98 85) → (σ 165 v6 < 0) → (σ 165 v6 = (-1)) → -2147483648 ≤ v5 - 1 ∧ v5 - 1 < (2147483648 : Int)) (k10 : (v6 < σ 98 85) → (σ 165 v6 < 0) → (σ 165 v6 = (-1)) → (0 : Int) ≤ v5 - 1 ∧ v5 - 1 < (110 : Int)) (k11 : (v6 < σ 98 85) → (σ 165 v6 < 0) → (σ 165 v6 = (-1)) → (σ 167 (v5 - 1) ≠ 2) → -2147483648 ≤ 1 - (σ 167 (v5 - 1)) ∧ 1 - (σ 167 (v5 - 1)) < (2147483648 : Int)) (k12 : (v6 < σ 98 85) → (0 ≤ σ 165 v6) → -2147483648 ≤ v5 + 1 ∧ v5 + 1 < (2147483648 : Int)) (k13 : (v6 < σ 98 85) → (0 ≤ σ 165 v6) → zO G MX12_tested [zr 98, zi (σ 165 v6), zi v1, zi v3, zi v4] σ (fun rr σ' => zR G MX12_mays 108 [zr 98, zi v1, zi v2, zi v3, zi v4, zi (v5 + 1), zi v6, zi (σ 165 v6)] [zi rr, zi v5, zr 167] σ' Q)) (k14 : (v6 < σ 98 85) → (σ 165 v6 < 0) → (σ 165 v6 = (-1)) → (σ 167 (v5 - 1) ≠ 2) → -2147483648 ≤ v6 + 1 ∧ v6 + 1 < (2147483648 : Int)) (k15 : (v6 < σ 98 85) → (σ 165 v6 < 0) → (σ 165 v6 = (-1)) → (σ 167 (v5 - 1) ≠ 2) → zR G MX12_mays 66 [zr 98, zi v1, zi v2, zi v3, zi v4, zi v5, zi (v6 + 1), zu] [] (zup σ 167 (v5 - 1) (1 - (σ 167 (v5 - 1)))) Q) (k16 : (v6 < σ 98 85) → (σ 165 v6 < 0) → (σ 165 v6 = (-1)) → (σ 167 (v5 - 1) = 2) → -2147483648 ≤ v6 + 1 ∧ v6 + 1 < (2147483648 : Int)) (k17 : (v6 < σ 98 85) → (σ 165 v6 < 0) → (σ 165 v6 = (-1)) → (σ 167 (v5 - 1) = 2) → zR G MX12_mays 66 [zr 98, zi v1, zi v2, zi v3, zi v4, zi v5, zi (v6 + 1), zu] [] (zup σ 167 (v5 - 1) 2) Q) : zR G MX12_mays 66 [zr 98, zi v1, zi v2, zi v3, zi v4, zi v5, zi v6, zu] [] σ Q := by
  have J201_1 : (v6 < σ 98 85) → (σ 165 v6 < 0) → (σ 165 v6 = (-1)) → (σ 167 (v5 - 1) = 2) → zR G MX12_mays 201 [zr 98, zi v1, zi v2, zi v3, zi v4, zi v5, zi v6, zi (σ 165 v6)] [] (zup σ 167 (v5 - 1) 2) Q := by
    intro h1 h2 h3 h5
    have s16 : -2147483648 ≤ v6 + 1 ∧ v6 + 1 < (2147483648 : Int) := k16 h1 h2 h3 h5
    refine z_iincN (ls' := [zr 98, zi v1, zi v2, zi v3, zi v4, zi v5, zi (v6 + 1), zi (σ 165 v6)]) dX12_mays_201 rfl (by decide) s16 rfl ?_
    refine z_goto dX12_mays_204 (tgt := 66) (by decide) ?_
    exact zR_fg [false, false, false, false, false, false, false, true] (k17 h1 h2 h3 h5)
  have J201 : (v6 < σ 98 85) → (σ 165 v6 < 0) → (σ 165 v6 = (-1)) → (σ 167 (v5 - 1) ≠ 2) → zR G MX12_mays 201 [zr 98, zi v1, zi v2, zi v3, zi v4, zi v5, zi v6, zi (σ 165 v6)] [] (zup σ 167 (v5 - 1) (1 - (σ 167 (v5 - 1)))) Q := by
    intro h1 h2 h3 h5
    have s14 : -2147483648 ≤ v6 + 1 ∧ v6 + 1 < (2147483648 : Int) := k14 h1 h2 h3 h5
    refine z_iincN (ls' := [zr 98, zi v1, zi v2, zi v3, zi v4, zi v5, zi (v6 + 1), zi (σ 165 v6)]) dX12_mays_201 rfl (by decide) s14 rfl ?_
    refine z_goto dX12_mays_204 (tgt := 66) (by decide) ?_
    exact zR_fg [false, false, false, false, false, false, false, true] (k15 h1 h2 h3 h5)
  refine z_iload dX12_mays_66 rfl ?_
  refine z_aload_n dX12_mays_68 rfl rfl ?_
  refine z_getfI (k := 85) flRX12_336 rfl rfl dX12_mays_69 ?_
  refine z_icmp_ge dX12_mays_72 (tgt := 207) (by decide) (fun h1 => ?_) (fun h1 => ?_)
  · skip
    refine z_aload_n dX12_mays_207 rfl rfl ?_
    refine z_getfR (k := 83) flRX12_220 rfl rfl dX12_mays_208 ?_
    refine z_iconst dX12_mays_211 (by unfold zIn; decide) ?_
    refine z_iald rfl (by decide) (by decide) dX12_mays_212 ?_
    exact z_ireti rfl dX12_mays_213 (k1 h1)
  · skip
    refine z_aload_n dX12_mays_75 rfl rfl ?_
    refine z_getfR (k := 81) flRX12_214 rfl rfl dX12_mays_76 ?_
    refine z_iload dX12_mays_79 rfl ?_
    have s2 : (0 : Int) ≤ v6 ∧ v6 < (500 : Int) := k2 h1
    refine z_iald rfl s2.1 s2.2 dX12_mays_81 ?_
    refine z_istore (ls' := [zr 98, zi v1, zi v2, zi v3, zi v4, zi v5, zi v6, zi (σ 165 v6)]) dX12_mays_82 (by decide) rfl ?_
    refine z_iload dX12_mays_84 rfl ?_
    refine z_if_lt dX12_mays_86 (tgt := 112) (by decide) (fun h2 => ?_) (fun h2 => ?_)
    · skip
      refine z_iload dX12_mays_112 rfl ?_
      refine z_iconst dX12_mays_114 (by unfold zIn; decide) ?_
      refine z_icmp_ne dX12_mays_115 (tgt := 158) (by decide) (fun h3 => ?_) (fun h3 => ?_)
      · skip
        have s3 : -2147483648 ≤ v5 + (-1) ∧ v5 + (-1) < (2147483648 : Int) := k3 h1 h2 h3
        refine z_iincN (ls' := [zr 98, zi v1, zi v2, zi v3, zi v4, zi (v5 + (-1)), zi v6, zi (σ 165 v6)]) dX12_mays_158 rfl (by decide) s3 rfl ?_
        refine z_aload_n dX12_mays_161 rfl rfl ?_
        refine z_getfR (k := 83) flRX12_220 rfl rfl dX12_mays_162 ?_
        refine z_iload dX12_mays_165 rfl ?_
        refine z_iconst dX12_mays_167 (by unfold zIn; decide) ?_
        have s4 : -2147483648 ≤ (v5 + (-1)) - 1 ∧ (v5 + (-1)) - 1 < (2147483648 : Int) := k4 h1 h2 h3
        refine z_isubN dX12_mays_168 s4 ?_
        refine z_aload_n dX12_mays_169 rfl rfl ?_
        refine z_getfR (k := 83) flRX12_220 rfl rfl dX12_mays_170 ?_
        refine z_iload dX12_mays_173 rfl ?_
        refine z_iconst dX12_mays_175 (by unfold zIn; decide) ?_
        refine z_isubN dX12_mays_176 s4 ?_
        have s5 : (0 : Int) ≤ (v5 + (-1)) - 1 ∧ (v5 + (-1)) - 1 < (110 : Int) := k5 h1 h2 h3
        refine z_iald rfl s5.1 s5.2 dX12_mays_177 ?_
        refine z_aload_n dX12_mays_178 rfl rfl ?_
        refine z_getfR (k := 83) flRX12_220 rfl rfl dX12_mays_179 ?_
        refine z_iload dX12_mays_182 rfl ?_
        have s6 : (0 : Int) ≤ v5 + (-1) ∧ v5 + (-1) < (110 : Int) := k6 h1 h2 h3
        refine z_iald rfl s6.1 s6.2 dX12_mays_184 ?_
        refine z_iload dX12_mays_185 rfl ?_
        refine z_bipush (x := (-2)) dX12_mays_187 (by decide +kernel) (by unfold zIn; decide) ?_
        refine z_icmp_ne dX12_mays_189 (tgt := 196) (by decide) (fun h4 => ?_) (fun h4 => ?_)
        · skip
          refine z_iconst dX12_mays_196 (by unfold zIn; decide) ?_
          refine z_calls (as := [zi (σ 167 ((v5 + (-1)) - 1)), zi (σ 167 (v5 + (-1))), zi 1]) (st := [zi ((v5 + (-1)) - 1), zr 167]) mkX12_joined lkRX12_362 rfl (by decide) (Nat.le_of_ble_eq_true rfl) rfl dX12_mays_197 (k7 h1 h2 h3 h4)
        · skip
          refine z_iconst dX12_mays_192 (by unfold zIn; decide) ?_
          refine z_goto dX12_mays_193 (tgt := 197) (by decide) ?_
          refine z_calls (as := [zi (σ 167 ((v5 + (-1)) - 1)), zi (σ 167 (v5 + (-1))), zi 0]) (st := [zi ((v5 + (-1)) - 1), zr 167]) mkX12_joined lkRX12_362 rfl (by decide) (Nat.le_of_ble_eq_true rfl) rfl dX12_mays_197 (k8 h1 h2 h3 h4)
      · skip
        refine z_aload_n dX12_mays_118 rfl rfl ?_
        refine z_getfR (k := 83) flRX12_220 rfl rfl dX12_mays_119 ?_
        refine z_iload dX12_mays_122 rfl ?_
        refine z_iconst dX12_mays_124 (by unfold zIn; decide) ?_
        have s9 : -2147483648 ≤ v5 - 1 ∧ v5 - 1 < (2147483648 : Int) := k9 h1 h2 h3
        refine z_isubN dX12_mays_125 s9 ?_
        refine z_aload_n dX12_mays_126 rfl rfl ?_
        refine z_getfR (k := 83) flRX12_220 rfl rfl dX12_mays_127 ?_
        refine z_iload dX12_mays_130 rfl ?_
        refine z_iconst dX12_mays_132 (by unfold zIn; decide) ?_
        refine z_isubN dX12_mays_133 s9 ?_
        have s10 : (0 : Int) ≤ v5 - 1 ∧ v5 - 1 < (110 : Int) := k10 h1 h2 h3
        refine z_iald rfl s10.1 s10.2 dX12_mays_134 ?_
        refine z_iconst dX12_mays_135 (by unfold zIn; decide) ?_
        refine z_icmp_ne dX12_mays_136 (tgt := 143) (by decide) (fun h5 => ?_) (fun h5 => ?_)
        · skip
          refine z_iconst dX12_mays_143 (by unfold zIn; decide) ?_
          refine z_aload_n dX12_mays_144 rfl rfl ?_
          refine z_getfR (k := 83) flRX12_220 rfl rfl dX12_mays_145 ?_
          refine z_iload dX12_mays_148 rfl ?_
          refine z_iconst dX12_mays_150 (by unfold zIn; decide) ?_
          refine z_isubN dX12_mays_151 s9 ?_
          refine z_iald rfl s10.1 s10.2 dX12_mays_152 ?_
          have s11 : -2147483648 ≤ 1 - (σ 167 (v5 - 1)) ∧ 1 - (σ 167 (v5 - 1)) < (2147483648 : Int) := k11 h1 h2 h3 h5
          refine z_isubN dX12_mays_153 s11 ?_
          refine z_iast rfl s10.1 s10.2 dX12_mays_154 ?_
          refine z_goto dX12_mays_155 (tgt := 201) (by decide) ?_
          exact J201 h1 h2 h3 h5
        · skip
          refine z_iconst dX12_mays_139 (by unfold zIn; decide) ?_
          refine z_goto dX12_mays_140 (tgt := 154) (by decide) ?_
          refine z_iast rfl s10.1 s10.2 dX12_mays_154 ?_
          refine z_goto dX12_mays_155 (tgt := 201) (by decide) ?_
          exact J201_1 h1 h2 h3 h5
    · skip
      refine z_aload_n dX12_mays_89 rfl rfl ?_
      refine z_getfR (k := 83) flRX12_220 rfl rfl dX12_mays_90 ?_
      refine z_iload dX12_mays_93 rfl ?_
      have s12 : -2147483648 ≤ v5 + 1 ∧ v5 + 1 < (2147483648 : Int) := k12 h1 h2
      refine z_iincN (ls' := [zr 98, zi v1, zi v2, zi v3, zi v4, zi (v5 + 1), zi v6, zi (σ 165 v6)]) dX12_mays_95 rfl (by decide) s12 rfl ?_
      refine z_aload_n dX12_mays_98 rfl rfl ?_
      refine z_iload dX12_mays_99 rfl ?_
      refine z_iload_n dX12_mays_101 rfl rfl ?_
      refine z_iload_n dX12_mays_102 rfl rfl ?_
      refine z_iload dX12_mays_103 rfl ?_
      refine z_callv (as := [zi (σ 165 v6), zi v1, zi v3, zi v4]) (st := [zi v5, zr 167]) mkX12_tested lkRX12_359 rfl rfl rfl (by decide) (Nat.le_of_ble_eq_true rfl) rfl dX12_mays_105 (k13 h1 h2)
set_option maxRecDepth 20000 in
set_option maxHeartbeats 1000000 in
theorem TX12_mays_108 {G : zG} {σ : zS} {Q : Int → zS → Prop} {v1 v2 v3 v4 v5 v6 v7 r t1 : Int}  (k1 : (0 : Int) ≤ t1 ∧ t1 < (110 : Int)) (k2 : -2147483648 ≤ v6 + 1 ∧ v6 + 1 < (2147483648 : Int)) (k3 : zR G MX12_mays 66 [zr 98, zi v1, zi v2, zi v3, zi v4, zi v5, zi (v6 + 1), zu] [] (zup σ 167 t1 r) Q) : zR G MX12_mays 108 [zr 98, zi v1, zi v2, zi v3, zi v4, zi v5, zi v6, zi v7] [zi r, zi t1, zr 167] σ Q := by
  have J201 : zR G MX12_mays 201 [zr 98, zi v1, zi v2, zi v3, zi v4, zi v5, zi v6, zi v7] [] (zup σ 167 t1 r) Q := by
    have s2 : -2147483648 ≤ v6 + 1 ∧ v6 + 1 < (2147483648 : Int) := k2
    refine z_iincN (ls' := [zr 98, zi v1, zi v2, zi v3, zi v4, zi v5, zi (v6 + 1), zi v7]) dX12_mays_201 rfl (by decide) s2 rfl ?_
    refine z_goto dX12_mays_204 (tgt := 66) (by decide) ?_
    exact zR_fg [false, false, false, false, false, false, false, true] (k3)
  have s1 : (0 : Int) ≤ t1 ∧ t1 < (110 : Int) := k1
  refine z_iast rfl s1.1 s1.2 dX12_mays_108 ?_
  refine z_goto dX12_mays_109 (tgt := 201) (by decide) ?_
  exact J201
set_option maxRecDepth 20000 in
set_option maxHeartbeats 1000000 in
theorem TX12_mays_200 {G : zG} {σ : zS} {Q : Int → zS → Prop} {v1 v2 v3 v4 v5 v6 v7 r t1 : Int}  (k1 : (0 : Int) ≤ t1 ∧ t1 < (110 : Int)) (k2 : -2147483648 ≤ v6 + 1 ∧ v6 + 1 < (2147483648 : Int)) (k3 : zR G MX12_mays 66 [zr 98, zi v1, zi v2, zi v3, zi v4, zi v5, zi (v6 + 1), zu] [] (zup σ 167 t1 r) Q) : zR G MX12_mays 200 [zr 98, zi v1, zi v2, zi v3, zi v4, zi v5, zi v6, zi v7] [zi r, zi t1, zr 167] σ Q := by
  have J201 : zR G MX12_mays 201 [zr 98, zi v1, zi v2, zi v3, zi v4, zi v5, zi v6, zi v7] [] (zup σ 167 t1 r) Q := by
    have s2 : -2147483648 ≤ v6 + 1 ∧ v6 + 1 < (2147483648 : Int) := k2
    refine z_iincN (ls' := [zr 98, zi v1, zi v2, zi v3, zi v4, zi v5, zi (v6 + 1), zi v7]) dX12_mays_201 rfl (by decide) s2 rfl ?_
    refine z_goto dX12_mays_204 (tgt := 66) (by decide) ?_
    exact zR_fg [false, false, false, false, false, false, false, true] (k3)
  have s1 : (0 : Int) ≤ t1 ∧ t1 < (110 : Int) := k1
  refine z_iast rfl s1.1 s1.2 dX12_mays_200 ?_
  exact J201
set_option maxRecDepth 20000 in
set_option maxHeartbeats 1000000 in
theorem TX12_may {G : zG} {σ : zS} {Q : Int → zS → Prop} {a1 a2 a3 a4 : Int}  (k1 : ((0 ≤ a1 ∧ a1 < σ 98 1)) → ((0 ≤ a2 ∧ a2 < 4)) → zO G MX12_mays [zr 98, zi a1, zi a2, zi a3, zi a4] σ (fun rr σ' => zR G MX12_may 24 [zr 98, zi a1, zi a2, zi a3, zi a4] [zi rr] σ' Q)) (k2 : ((¬ ((0 ≤ a1 ∧ a1 < σ 98 1))) ∨ (((0 ≤ a1 ∧ a1 < σ 98 1)) ∧ (¬ ((0 ≤ a2 ∧ a2 < 4))))) → Q (-1) σ) : zO G MX12_may [zr 98, zi a1, zi a2, zi a3, zi a4] σ Q := by
  refine zO_of (ls0 := [zr 98, zi a1, zi a2, zi a3, zi a4]) (by decide) (Nat.le_of_ble_eq_true rfl) rfl ?_
  have J27 : ((¬ ((0 ≤ a1 ∧ a1 < σ 98 1))) ∨ (((0 ≤ a1 ∧ a1 < σ 98 1)) ∧ (¬ ((0 ≤ a2 ∧ a2 < 4))))) → zR G MX12_may 27 [zr 98, zi a1, zi a2, zi a3, zi a4] [] σ Q := by
    intro h3
    refine z_iconst dX12_may_27 (by unfold zIn; decide) ?_
    exact z_ireti rfl dX12_may_28 (k2 h3)
  refine z_aload_n dX12_may_0 rfl rfl ?_
  refine z_iload_n dX12_may_1 rfl rfl ?_
  refine z_callv (as := [zi a1]) (st := []) mkX12_isOne lkRX12_271 rfl rfl rfl (by decide) (Nat.le_of_ble_eq_true rfl) rfl dX12_may_2 ?_
  refine SX12_isOne ?_
  show zR G MX12_may 5 [zr 98, zi a1, zi a2, zi a3, zi a4] [zi (if (0 ≤ a1 ∧ a1 < σ 98 1) then (1 : Int) else 0)] σ Q
  refine z_if_eq dX12_may_5 (tgt := 27) (by decide) (fun z => ?_) (fun z => ?_)
  · have h1 : ¬ ((0 ≤ a1 ∧ a1 < σ 98 1)) := zb0 z
    exact J27 (Or.inl h1)
  · have h1 : (0 ≤ a1 ∧ a1 < σ 98 1) := zb1 z
    refine z_iload_n dX12_may_8 rfl rfl ?_
    refine z_calls (as := [zi a2]) (st := []) mkX12_isStatute lkRX12_297 rfl (by decide) (Nat.le_of_ble_eq_true rfl) rfl dX12_may_9 ?_
    refine SX12_isStatute ?_
    show zR G MX12_may 12 [zr 98, zi a1, zi a2, zi a3, zi a4] [zi (if (0 ≤ a2 ∧ a2 < 4) then (1 : Int) else 0)] σ Q
    refine z_if_eq dX12_may_12 (tgt := 27) (by decide) (fun z => ?_) (fun z => ?_)
    · have h2 : ¬ ((0 ≤ a2 ∧ a2 < 4)) := zb0 z
      exact J27 (Or.inr ⟨h1, h2⟩)
    · have h2 : (0 ≤ a2 ∧ a2 < 4) := zb1 z
      refine z_aload_n dX12_may_15 rfl rfl ?_
      refine z_iload_n dX12_may_16 rfl rfl ?_
      refine z_iload_n dX12_may_17 rfl rfl ?_
      refine z_iload_n dX12_may_18 rfl rfl ?_
      refine z_iload dX12_may_19 rfl ?_
      refine z_callv (as := [zi a1, zi a2, zi a3, zi a4]) (st := []) mkX12_mays lkRX12_365 rfl rfl rfl (by decide) (Nat.le_of_ble_eq_true rfl) rfl dX12_may_21 (k1 h1 h2)
set_option maxRecDepth 20000 in
set_option maxHeartbeats 1000000 in
theorem TX12_may_24 {G : zG} {σ : zS} {Q : Int → zS → Prop} {v1 v2 v3 v4 r : Int}  (k1 : Q r σ) : zR G MX12_may 24 [zr 98, zi v1, zi v2, zi v3, zi v4] [zi r] σ Q := by
  refine z_goto dX12_may_24 (tgt := 28) (by decide) ?_
  exact z_ireti rfl dX12_may_28 (k1)
set_option maxRecDepth 20000 in
set_option maxHeartbeats 1000000 in
theorem TX12_test {G : zG} {σ : zS} {Q : Int → zS → Prop} {a1 a2 a3 a4 a5 : Int}  (k1 : ((0 ≤ a1 ∧ a1 < σ 98 1)) → ((0 ≤ a2 ∧ a2 < 4)) → zO G MX12_words [zr 98, zi a2, zi a3, zi a4] σ (fun rr σ' => zR G MX12_test 25 [zr 98, zi a1, zi a2, zi a3, zi a4, zi a5] [] σ' Q)) (k2 : ((¬ ((0 ≤ a1 ∧ a1 < σ 98 1))) ∨ (((0 ≤ a1 ∧ a1 < σ 98 1)) ∧ (¬ ((0 ≤ a2 ∧ a2 < 4))))) → Q (-1) σ) : zO G MX12_test [zr 98, zi a1, zi a2, zi a3, zi a4, zi a5] σ Q := by
  refine zO_of (ls0 := [zr 98, zi a1, zi a2, zi a3, zi a4, zi a5]) (by decide) (Nat.le_of_ble_eq_true rfl) rfl ?_
  have J15 : ((¬ ((0 ≤ a1 ∧ a1 < σ 98 1))) ∨ (((0 ≤ a1 ∧ a1 < σ 98 1)) ∧ (¬ ((0 ≤ a2 ∧ a2 < 4))))) → zR G MX12_test 15 [zr 98, zi a1, zi a2, zi a3, zi a4, zi a5] [] σ Q := by
    intro h3
    refine z_iconst dX12_test_15 (by unfold zIn; decide) ?_
    exact z_ireti rfl dX12_test_16 (k2 h3)
  refine z_aload_n dX12_test_0 rfl rfl ?_
  refine z_iload_n dX12_test_1 rfl rfl ?_
  refine z_callv (as := [zi a1]) (st := []) mkX12_isOne lkRX12_271 rfl rfl rfl (by decide) (Nat.le_of_ble_eq_true rfl) rfl dX12_test_2 ?_
  refine SX12_isOne ?_
  show zR G MX12_test 5 [zr 98, zi a1, zi a2, zi a3, zi a4, zi a5] [zi (if (0 ≤ a1 ∧ a1 < σ 98 1) then (1 : Int) else 0)] σ Q
  refine z_if_eq dX12_test_5 (tgt := 15) (by decide) (fun z => ?_) (fun z => ?_)
  · have h1 : ¬ ((0 ≤ a1 ∧ a1 < σ 98 1)) := zb0 z
    exact J15 (Or.inl h1)
  · have h1 : (0 ≤ a1 ∧ a1 < σ 98 1) := zb1 z
    refine z_iload_n dX12_test_8 rfl rfl ?_
    refine z_calls (as := [zi a2]) (st := []) mkX12_isStatute lkRX12_297 rfl (by decide) (Nat.le_of_ble_eq_true rfl) rfl dX12_test_9 ?_
    refine SX12_isStatute ?_
    show zR G MX12_test 12 [zr 98, zi a1, zi a2, zi a3, zi a4, zi a5] [zi (if (0 ≤ a2 ∧ a2 < 4) then (1 : Int) else 0)] σ Q
    refine z_if_ne dX12_test_12 (tgt := 17) (by decide) (fun z => ?_) (fun z => ?_)
    · have h2 : (0 ≤ a2 ∧ a2 < 4) := zb1 z
      refine z_aload_n dX12_test_17 rfl rfl ?_
      refine z_iload_n dX12_test_18 rfl rfl ?_
      refine z_iload_n dX12_test_19 rfl rfl ?_
      refine z_iload dX12_test_20 rfl ?_
      refine z_callv (as := [zi a2, zi a3, zi a4]) (st := []) mkX12_words lkRX12_316 rfl rfl rfl (by decide) (Nat.le_of_ble_eq_true rfl) rfl dX12_test_22 (k1 h1 h2)
    · have h2 : ¬ ((0 ≤ a2 ∧ a2 < 4)) := zb0 z
      exact J15 (Or.inr ⟨h1, h2⟩)
set_option maxRecDepth 20000 in
set_option maxHeartbeats 1000000 in
theorem TX12_test_25 {G : zG} {σ : zS} {Q : Int → zS → Prop} {v1 v2 v3 v4 v5 : Int}  (k1 : zO G MX12_compiles [zr 98] σ (fun rr σ' => zR G MX12_test 29 [zr 98, zi v1, zi v2, zi v3, zi v4, zi v5] [zi rr] σ' Q)) : zR G MX12_test 25 [zr 98, zi v1, zi v2, zi v3, zi v4, zi v5] [] σ Q := by
  refine z_aload_n dX12_test_25 rfl rfl ?_
  refine z_callv (as := []) (st := []) mkX12_compiles lkRX12_350 rfl rfl rfl (by decide) (Nat.le_of_ble_eq_true rfl) rfl dX12_test_26 (k1)
set_option maxRecDepth 20000 in
set_option maxHeartbeats 1000000 in
theorem TX12_test_29 {G : zG} {σ : zS} {Q : Int → zS → Prop} {v1 v2 v3 v4 v5 r : Int}  (k1 : (r = (-1)) → (0 ≤ v5) → (v5 < σ 98 84) → zO G MX12_tested [zr 98, zi v5, zi v1, zi v3, zi v4] σ (fun rr σ' => zR G MX12_test 59 [zr 98, zi v1, zi v2, zi v3, zi v4, zi v5] [zi rr] σ' Q)) (k2 : (r ≠ (-1) ∨ (r = (-1) ∧ v5 < 0) ∨ (r = (-1) ∧ 0 ≤ v5 ∧ σ 98 84 ≤ v5)) → Q (-1) σ) : zR G MX12_test 29 [zr 98, zi v1, zi v2, zi v3, zi v4, zi v5] [zi r] σ Q := by
  have J47 : (r ≠ (-1) ∨ (r = (-1) ∧ v5 < 0) ∨ (r = (-1) ∧ 0 ≤ v5 ∧ σ 98 84 ≤ v5)) → zR G MX12_test 47 [zr 98, zi v1, zi v2, zi v3, zi v4, zi v5] [] σ Q := by
    intro h4
    refine z_iconst dX12_test_47 (by unfold zIn; decide) ?_
    exact z_ireti rfl dX12_test_48 (k2 h4)
  refine z_iconst dX12_test_29 (by unfold zIn; decide) ?_
  refine z_icmp_ne dX12_test_30 (tgt := 47) (by decide) (fun h1 => ?_) (fun h1 => ?_)
  · skip
    exact J47 (Or.inl h1)
  · skip
    refine z_iload dX12_test_33 rfl ?_
    refine z_if_lt dX12_test_35 (tgt := 47) (by decide) (fun h2 => ?_) (fun h2 => ?_)
    · skip
      exact J47 (Or.inr (Or.inl ⟨h1, h2⟩))
    · skip
      refine z_iload dX12_test_38 rfl ?_
      refine z_aload_n dX12_test_40 rfl rfl ?_
      refine z_getfI (k := 84) flRX12_327 rfl rfl dX12_test_41 ?_
      refine z_icmp_lt dX12_test_44 (tgt := 49) (by decide) (fun h3 => ?_) (fun h3 => ?_)
      · skip
        refine z_aload_n dX12_test_49 rfl rfl ?_
        refine z_iload dX12_test_50 rfl ?_
        refine z_iload_n dX12_test_52 rfl rfl ?_
        refine z_iload_n dX12_test_53 rfl rfl ?_
        refine z_iload dX12_test_54 rfl ?_
        refine z_callv (as := [zi v5, zi v1, zi v3, zi v4]) (st := []) mkX12_tested lkRX12_359 rfl rfl rfl (by decide) (Nat.le_of_ble_eq_true rfl) rfl dX12_test_56 (k1 h1 h2 h3)
      · skip
        exact J47 (Or.inr (Or.inr ⟨h1, h2, h3⟩))
set_option maxRecDepth 20000 in
set_option maxHeartbeats 1000000 in
theorem TX12_test_59 {G : zG} {σ : zS} {Q : Int → zS → Prop} {v1 v2 v3 v4 v5 r : Int}  (k1 : Q r σ) : zR G MX12_test 59 [zr 98, zi v1, zi v2, zi v3, zi v4, zi v5] [zi r] σ Q := by
  exact z_ireti rfl dX12_test_59 (k1)
set_option maxRecDepth 20000 in
set_option maxHeartbeats 1000000 in
theorem TX12_place {G : zG} {σ : zS} {Q : Int → zS → Prop} {a1 : Int}  (k1 : ((0 ≤ a1 ∧ a1 < 4)) → (σ 98 4 ≠ 12) → (0 : Int) ≤ σ 98 4 ∧ σ 98 4 < (12 : Int)) (k2 : ((0 ≤ a1 ∧ a1 < 4)) → (σ 98 4 ≠ 12) → (0 : Int) ≤ (zup σ 129 (σ 98 4) a1) 98 4 ∧ (zup σ 129 (σ 98 4) a1) 98 4 < (12 : Int)) (k3 : ((0 ≤ a1 ∧ a1 < 4)) → (σ 98 4 ≠ 12) → (0 : Int) ≤ (zup (zup σ 129 (σ 98 4) a1) 130 ((zup σ 129 (σ 98 4) a1) 98 4) (-1)) 98 4 ∧ (zup (zup σ 129 (σ 98 4) a1) 130 ((zup σ 129 (σ 98 4) a1) 98 4) (-1)) 98 4 < (12 : Int)) (k4 : ((0 ≤ a1 ∧ a1 < 4)) → (σ 98 4 ≠ 12) → (0 : Int) ≤ (zup (zup (zup σ 129 (σ 98 4) a1) 130 ((zup σ 129 (σ 98 4) a1) 98 4) (-1)) 131 ((zup (zup σ 129 (σ 98 4) a1) 130 ((zup σ 129 (σ 98 4) a1) 98 4) (-1)) 98 4) (-1)) 98 4 ∧ (zup (zup (zup σ 129 (σ 98 4) a1) 130 ((zup σ 129 (σ 98 4) a1) 98 4) (-1)) 131 ((zup (zup σ 129 (σ 98 4) a1) 130 ((zup σ 129 (σ 98 4) a1) 98 4) (-1)) 98 4) (-1)) 98 4 < (12 : Int)) (k5 : ((0 ≤ a1 ∧ a1 < 4)) → (σ 98 4 ≠ 12) → -2147483648 ≤ ((zup (zup (zup (zup σ 129 (σ 98 4) a1) 130 ((zup σ 129 (σ 98 4) a1) 98 4) (-1)) 131 ((zup (zup σ 129 (σ 98 4) a1) 130 ((zup σ 129 (σ 98 4) a1) 98 4) (-1)) 98 4) (-1)) 132 ((zup (zup (zup σ 129 (σ 98 4) a1) 130 ((zup σ 129 (σ 98 4) a1) 98 4) (-1)) 131 ((zup (zup σ 129 (σ 98 4) a1) 130 ((zup σ 129 (σ 98 4) a1) 98 4) (-1)) 98 4) (-1)) 98 4) (-1)) 98 4) + 1 ∧ ((zup (zup (zup (zup σ 129 (σ 98 4) a1) 130 ((zup σ 129 (σ 98 4) a1) 98 4) (-1)) 131 ((zup (zup σ 129 (σ 98 4) a1) 130 ((zup σ 129 (σ 98 4) a1) 98 4) (-1)) 98 4) (-1)) 132 ((zup (zup (zup σ 129 (σ 98 4) a1) 130 ((zup σ 129 (σ 98 4) a1) 98 4) (-1)) 131 ((zup (zup σ 129 (σ 98 4) a1) 130 ((zup σ 129 (σ 98 4) a1) 98 4) (-1)) 98 4) (-1)) 98 4) (-1)) 98 4) + 1 < (2147483648 : Int)) (k6 : ((0 ≤ a1 ∧ a1 < 4)) → (σ 98 4 ≠ 12) → Q ((zup (zup (zup (zup σ 129 (σ 98 4) a1) 130 ((zup σ 129 (σ 98 4) a1) 98 4) (-1)) 131 ((zup (zup σ 129 (σ 98 4) a1) 130 ((zup σ 129 (σ 98 4) a1) 98 4) (-1)) 98 4) (-1)) 132 ((zup (zup (zup σ 129 (σ 98 4) a1) 130 ((zup σ 129 (σ 98 4) a1) 98 4) (-1)) 131 ((zup (zup σ 129 (σ 98 4) a1) 130 ((zup σ 129 (σ 98 4) a1) 98 4) (-1)) 98 4) (-1)) 98 4) (-1)) 98 4) (zup (zup (zup (zup (zup σ 129 (σ 98 4) a1) 130 ((zup σ 129 (σ 98 4) a1) 98 4) (-1)) 131 ((zup (zup σ 129 (σ 98 4) a1) 130 ((zup σ 129 (σ 98 4) a1) 98 4) (-1)) 98 4) (-1)) 132 ((zup (zup (zup σ 129 (σ 98 4) a1) 130 ((zup σ 129 (σ 98 4) a1) 98 4) (-1)) 131 ((zup (zup σ 129 (σ 98 4) a1) 130 ((zup σ 129 (σ 98 4) a1) 98 4) (-1)) 98 4) (-1)) 98 4) (-1)) 98 4 (((zup (zup (zup (zup σ 129 (σ 98 4) a1) 130 ((zup σ 129 (σ 98 4) a1) 98 4) (-1)) 131 ((zup (zup σ 129 (σ 98 4) a1) 130 ((zup σ 129 (σ 98 4) a1) 98 4) (-1)) 98 4) (-1)) 132 ((zup (zup (zup σ 129 (σ 98 4) a1) 130 ((zup σ 129 (σ 98 4) a1) 98 4) (-1)) 131 ((zup (zup σ 129 (σ 98 4) a1) 130 ((zup σ 129 (σ 98 4) a1) 98 4) (-1)) 98 4) (-1)) 98 4) (-1)) 98 4) + 1))) (k7 : ((0 ≤ a1 ∧ a1 < 4)) → (σ 98 4 = 12) → -2147483648 ≤ -(-7) ∧ -(-7) < (2147483648 : Int)) (k8 : ((0 ≤ a1 ∧ a1 < 4)) → (σ 98 4 = 12) → (0 : Int) ≤ -(-7) ∧ -(-7) < (8 : Int)) (k9 : ((0 ≤ a1 ∧ a1 < 4)) → (σ 98 4 = 12) → -2147483648 ≤ (σ 157 (-(-7))) + 1 ∧ (σ 157 (-(-7))) + 1 < (2147483648 : Int)) (k10 : ((0 ≤ a1 ∧ a1 < 4)) → (σ 98 4 = 12) → Q (-7) (zup σ 157 (-(-7)) ((σ 157 (-(-7))) + 1))) (k11 : (¬ ((0 ≤ a1 ∧ a1 < 4))) → -2147483648 ≤ -(-1) ∧ -(-1) < (2147483648 : Int)) (k12 : (¬ ((0 ≤ a1 ∧ a1 < 4))) → (0 : Int) ≤ -(-1) ∧ -(-1) < (8 : Int)) (k13 : (¬ ((0 ≤ a1 ∧ a1 < 4))) → -2147483648 ≤ (σ 157 (-(-1))) + 1 ∧ (σ 157 (-(-1))) + 1 < (2147483648 : Int)) (k14 : (¬ ((0 ≤ a1 ∧ a1 < 4))) → Q (-1) (zup σ 157 (-(-1)) ((σ 157 (-(-1))) + 1))) : zO G MX12_place [zr 98, zi a1] σ Q := by
  refine zO_of (ls0 := [zr 98, zi a1]) (by decide) (Nat.le_of_ble_eq_true rfl) rfl ?_
  refine z_iload_n dX12_place_0 rfl rfl ?_
  refine z_calls (as := [zi a1]) (st := []) mkX12_isStatute lkRX12_297 rfl (by decide) (Nat.le_of_ble_eq_true rfl) rfl dX12_place_1 ?_
  refine SX12_isStatute ?_
  show zR G MX12_place 4 [zr 98, zi a1] [zi (if (0 ≤ a1 ∧ a1 < 4) then (1 : Int) else 0)] σ Q
  refine z_if_ne dX12_place_4 (tgt := 13) (by decide) (fun z => ?_) (fun z => ?_)
  · have h1 : (0 ≤ a1 ∧ a1 < 4) := zb1 z
    refine z_aload_n dX12_place_13 rfl rfl ?_
    refine z_getfI (k := 4) flRX12_259 rfl rfl dX12_place_14 ?_
    refine z_bipush (x := 12) dX12_place_17 (by decide +kernel) (by unfold zIn; decide) ?_
    refine z_icmp_ne dX12_place_19 (tgt := 29) (by decide) (fun h2 => ?_) (fun h2 => ?_)
    · skip
      refine z_aload_n dX12_place_29 rfl rfl ?_
      refine z_getfR (k := 44) flRX12_106 rfl rfl dX12_place_30 ?_
      refine z_aload_n dX12_place_33 rfl rfl ?_
      refine z_getfI (k := 4) flRX12_259 rfl rfl dX12_place_34 ?_
      refine z_iload_n dX12_place_37 rfl rfl ?_
      have s1 : (0 : Int) ≤ σ 98 4 ∧ σ 98 4 < (12 : Int) := k1 h1 h2
      refine z_iast rfl s1.1 s1.2 dX12_place_38 ?_
      refine z_aload_n dX12_place_39 rfl rfl ?_
      refine z_getfR (k := 45) flRX12_109 rfl rfl dX12_place_40 ?_
      refine z_aload_n dX12_place_43 rfl rfl ?_
      refine z_getfI (k := 4) flRX12_259 rfl rfl dX12_place_44 ?_
      refine z_iconst dX12_place_47 (by unfold zIn; decide) ?_
      have s2 : (0 : Int) ≤ (zup σ 129 (σ 98 4) a1) 98 4 ∧ (zup σ 129 (σ 98 4) a1) 98 4 < (12 : Int) := k2 h1 h2
      refine z_iast rfl s2.1 s2.2 dX12_place_48 ?_
      refine z_aload_n dX12_place_49 rfl rfl ?_
      refine z_getfR (k := 46) flRX12_112 rfl rfl dX12_place_50 ?_
      refine z_aload_n dX12_place_53 rfl rfl ?_
      refine z_getfI (k := 4) flRX12_259 rfl rfl dX12_place_54 ?_
      refine z_iconst dX12_place_57 (by unfold zIn; decide) ?_
      have s3 : (0 : Int) ≤ (zup (zup σ 129 (σ 98 4) a1) 130 ((zup σ 129 (σ 98 4) a1) 98 4) (-1)) 98 4 ∧ (zup (zup σ 129 (σ 98 4) a1) 130 ((zup σ 129 (σ 98 4) a1) 98 4) (-1)) 98 4 < (12 : Int) := k3 h1 h2
      refine z_iast rfl s3.1 s3.2 dX12_place_58 ?_
      refine z_aload_n dX12_place_59 rfl rfl ?_
      refine z_getfR (k := 47) flRX12_115 rfl rfl dX12_place_60 ?_
      refine z_aload_n dX12_place_63 rfl rfl ?_
      refine z_getfI (k := 4) flRX12_259 rfl rfl dX12_place_64 ?_
      refine z_iconst dX12_place_67 (by unfold zIn; decide) ?_
      have s4 : (0 : Int) ≤ (zup (zup (zup σ 129 (σ 98 4) a1) 130 ((zup σ 129 (σ 98 4) a1) 98 4) (-1)) 131 ((zup (zup σ 129 (σ 98 4) a1) 130 ((zup σ 129 (σ 98 4) a1) 98 4) (-1)) 98 4) (-1)) 98 4 ∧ (zup (zup (zup σ 129 (σ 98 4) a1) 130 ((zup σ 129 (σ 98 4) a1) 98 4) (-1)) 131 ((zup (zup σ 129 (σ 98 4) a1) 130 ((zup σ 129 (σ 98 4) a1) 98 4) (-1)) 98 4) (-1)) 98 4 < (12 : Int) := k4 h1 h2
      refine z_iast rfl s4.1 s4.2 dX12_place_68 ?_
      refine z_aload_n dX12_place_69 rfl rfl ?_
      refine z_dup dX12_place_70 rfl ?_
      refine z_getfI (k := 4) flRX12_259 rfl rfl dX12_place_71 ?_
      refine z_dup_x1 dX12_place_74 rfl rfl ?_
      refine z_iconst dX12_place_75 (by unfold zIn; decide) ?_
      have s5 : -2147483648 ≤ ((zup (zup (zup (zup σ 129 (σ 98 4) a1) 130 ((zup σ 129 (σ 98 4) a1) 98 4) (-1)) 131 ((zup (zup σ 129 (σ 98 4) a1) 130 ((zup σ 129 (σ 98 4) a1) 98 4) (-1)) 98 4) (-1)) 132 ((zup (zup (zup σ 129 (σ 98 4) a1) 130 ((zup σ 129 (σ 98 4) a1) 98 4) (-1)) 131 ((zup (zup σ 129 (σ 98 4) a1) 130 ((zup σ 129 (σ 98 4) a1) 98 4) (-1)) 98 4) (-1)) 98 4) (-1)) 98 4) + 1 ∧ ((zup (zup (zup (zup σ 129 (σ 98 4) a1) 130 ((zup σ 129 (σ 98 4) a1) 98 4) (-1)) 131 ((zup (zup σ 129 (σ 98 4) a1) 130 ((zup σ 129 (σ 98 4) a1) 98 4) (-1)) 98 4) (-1)) 132 ((zup (zup (zup σ 129 (σ 98 4) a1) 130 ((zup σ 129 (σ 98 4) a1) 98 4) (-1)) 131 ((zup (zup σ 129 (σ 98 4) a1) 130 ((zup σ 129 (σ 98 4) a1) 98 4) (-1)) 98 4) (-1)) 98 4) (-1)) 98 4) + 1 < (2147483648 : Int) := k5 h1 h2
      refine z_iaddN dX12_place_76 s5 ?_
      refine z_putI (k := 4) fpRX12_259 rfl rfl dX12_place_77 ?_
      exact z_ireti rfl dX12_place_80 (k6 h1 h2)
    · skip
      refine z_aload_n dX12_place_22 rfl rfl ?_
      refine z_bipush (x := (-7)) dX12_place_23 (by decide +kernel) (by unfold zIn; decide) ?_
      have s7 : -2147483648 ≤ -(-7) ∧ -(-7) < (2147483648 : Int) := k7 h1 h2
      have s8 : (0 : Int) ≤ -(-7) ∧ -(-7) < (8 : Int) := k8 h1 h2
      have s9 : -2147483648 ≤ (σ 157 (-(-7))) + 1 ∧ (σ 157 (-(-7))) + 1 < (2147483648 : Int) := k9 h1 h2
      refine z_callv (as := [zi (-7)]) (st := []) mkX12_no lkRX12_267 rfl rfl rfl (by decide) (Nat.le_of_ble_eq_true rfl) rfl dX12_place_25 ?_
      refine SX12_no s7 s8 s9 ?_
      show zR G MX12_place 28 [zr 98, zi a1] [zi (-7)] (zup σ 157 (-(-7)) ((σ 157 (-(-7))) + 1)) Q
      exact z_ireti rfl dX12_place_28 (k10 h1 h2)
  · have h1 : ¬ ((0 ≤ a1 ∧ a1 < 4)) := zb0 z
    refine z_aload_n dX12_place_7 rfl rfl ?_
    refine z_iconst dX12_place_8 (by unfold zIn; decide) ?_
    have s11 : -2147483648 ≤ -(-1) ∧ -(-1) < (2147483648 : Int) := k11 h1
    have s12 : (0 : Int) ≤ -(-1) ∧ -(-1) < (8 : Int) := k12 h1
    have s13 : -2147483648 ≤ (σ 157 (-(-1))) + 1 ∧ (σ 157 (-(-1))) + 1 < (2147483648 : Int) := k13 h1
    refine z_callv (as := [zi (-1)]) (st := []) mkX12_no lkRX12_267 rfl rfl rfl (by decide) (Nat.le_of_ble_eq_true rfl) rfl dX12_place_9 ?_
    refine SX12_no s11 s12 s13 ?_
    show zR G MX12_place 12 [zr 98, zi a1] [zi (-1)] (zup σ 157 (-(-1)) ((σ 157 (-(-1))) + 1)) Q
    exact z_ireti rfl dX12_place_12 (k14 h1)
set_option maxRecDepth 20000 in
set_option maxHeartbeats 1000000 in
theorem TX12_grace {G : zG} {σ : zS} {Q : Int → zS → Prop} {a1 : Int}  (k1 : (0 ≤ a1) → (a1 ≤ 4000) → Q (σ 98 11) (zup σ 98 11 a1)) (k2 : (a1 < 0 ∨ (0 ≤ a1 ∧ 4000 < a1)) → -2147483648 ≤ -(-6) ∧ -(-6) < (2147483648 : Int)) (k3 : (a1 < 0 ∨ (0 ≤ a1 ∧ 4000 < a1)) → (0 : Int) ≤ -(-6) ∧ -(-6) < (8 : Int)) (k4 : (a1 < 0 ∨ (0 ≤ a1 ∧ 4000 < a1)) → -2147483648 ≤ (σ 157 (-(-6))) + 1 ∧ (σ 157 (-(-6))) + 1 < (2147483648 : Int)) (k5 : (a1 < 0 ∨ (0 ≤ a1 ∧ 4000 < a1)) → Q (-6) (zup σ 157 (-(-6)) ((σ 157 (-(-6))) + 1))) : zO G MX12_grace [zr 98, zi a1] σ Q := by
  refine zO_of (ls0 := [zr 98, zi a1, zu]) (by decide) (Nat.le_of_ble_eq_true rfl) rfl ?_
  have J11 : (a1 < 0 ∨ (0 ≤ a1 ∧ 4000 < a1)) → zR G MX12_grace 11 [zr 98, zi a1, zu] [] σ Q := by
    intro h3
    refine z_aload_n dX12_grace_11 rfl rfl ?_
    refine z_bipush (x := (-6)) dX12_grace_12 (by decide +kernel) (by unfold zIn; decide) ?_
    have s2 : -2147483648 ≤ -(-6) ∧ -(-6) < (2147483648 : Int) := k2 h3
    have s3 : (0 : Int) ≤ -(-6) ∧ -(-6) < (8 : Int) := k3 h3
    have s4 : -2147483648 ≤ (σ 157 (-(-6))) + 1 ∧ (σ 157 (-(-6))) + 1 < (2147483648 : Int) := k4 h3
    refine z_callv (as := [zi (-6)]) (st := []) mkX12_no lkRX12_267 rfl rfl rfl (by decide) (Nat.le_of_ble_eq_true rfl) rfl dX12_grace_14 ?_
    refine SX12_no s2 s3 s4 ?_
    show zR G MX12_grace 17 [zr 98, zi a1, zu] [zi (-6)] (zup σ 157 (-(-6)) ((σ 157 (-(-6))) + 1)) Q
    exact z_ireti rfl dX12_grace_17 (k5 h3)
  refine z_iload_n dX12_grace_0 rfl rfl ?_
  refine z_if_lt dX12_grace_1 (tgt := 11) (by decide) (fun h1 => ?_) (fun h1 => ?_)
  · skip
    exact J11 (Or.inl h1)
  · skip
    refine z_iload_n dX12_grace_4 rfl rfl ?_
    refine z_sipush (x := 4000) dX12_grace_5 (by decide +kernel) (by unfold zIn; decide) ?_
    refine z_icmp_le dX12_grace_8 (tgt := 18) (by decide) (fun h2 => ?_) (fun h2 => ?_)
    · skip
      refine z_aload_n dX12_grace_18 rfl rfl ?_
      refine z_getfI (k := 11) flRX12_7 rfl rfl dX12_grace_19 ?_
      refine z_istore_n (ls' := [zr 98, zi a1, zi (σ 98 11)]) dX12_grace_22 rfl (by decide) rfl ?_
      refine z_aload_n dX12_grace_23 rfl rfl ?_
      refine z_iload_n dX12_grace_24 rfl rfl ?_
      refine z_putI (k := 11) fpRX12_7 rfl rfl dX12_grace_25 ?_
      refine z_iload_n dX12_grace_28 rfl rfl ?_
      exact z_ireti rfl dX12_grace_29 (k1 h1 h2)
    · skip
      exact J11 (Or.inr ⟨h1, h2⟩)
set_option maxRecDepth 20000 in
set_option maxHeartbeats 1000000 in
theorem TX12_placeHeld {G : zG} {σ : zS} {Q : Int → zS → Prop} {a1 a2 : Int}  (k1 : zR G MX12_placeHeld 2 [zr 98, zi a1, zi a2, zi 0] [] σ Q) : zO G MX12_placeHeld [zr 98, zi a1, zi a2] σ Q := by
  refine zO_of (ls0 := [zr 98, zi a1, zi a2, zu]) (by decide) (Nat.le_of_ble_eq_true rfl) rfl ?_
  refine z_iconst dX12_placeHeld_0 (by unfold zIn; decide) ?_
  refine z_istore_n (ls' := [zr 98, zi a1, zi a2, zi 0]) dX12_placeHeld_1 rfl (by decide) rfl ?_
  exact k1
set_option maxRecDepth 20000 in
set_option maxHeartbeats 1000000 in
theorem TX12_placeHeld_2 {G : zG} {σ : zS} {Q : Int → zS → Prop} {v1 v2 v3 : Int}  (k1 : (σ 98 4 ≤ v3) → Q (-1) σ) (k2 : (v3 < σ 98 4) → (0 : Int) ≤ v3 ∧ v3 < (12 : Int)) (k3 : (v3 < σ 98 4) → (σ 129 v3 = v2) → (σ 130 v3 = v1) → Q v3 σ) (k4 : (v3 < σ 98 4) → (σ 129 v3 ≠ v2 ∨ (σ 129 v3 = v2 ∧ σ 130 v3 ≠ v1)) → -2147483648 ≤ v3 + 1 ∧ v3 + 1 < (2147483648 : Int)) (k5 : (v3 < σ 98 4) → (σ 129 v3 ≠ v2 ∨ (σ 129 v3 = v2 ∧ σ 130 v3 ≠ v1)) → zR G MX12_placeHeld 2 [zr 98, zi v1, zi v2, zi (v3 + 1)] [] σ Q) : zR G MX12_placeHeld 2 [zr 98, zi v1, zi v2, zi v3] [] σ Q := by
  have J32 : (v3 < σ 98 4) → (σ 129 v3 ≠ v2 ∨ (σ 129 v3 = v2 ∧ σ 130 v3 ≠ v1)) → zR G MX12_placeHeld 32 [zr 98, zi v1, zi v2, zi v3] [] σ Q := by
    intro h1 h4
    have s4 : -2147483648 ≤ v3 + 1 ∧ v3 + 1 < (2147483648 : Int) := k4 h1 h4
    refine z_iincN (ls' := [zr 98, zi v1, zi v2, zi (v3 + 1)]) dX12_placeHeld_32 rfl (by decide) s4 rfl ?_
    refine z_goto dX12_placeHeld_35 (tgt := 2) (by decide) ?_
    exact k5 h1 h4
  refine z_iload_n dX12_placeHeld_2 rfl rfl ?_
  refine z_aload_n dX12_placeHeld_3 rfl rfl ?_
  refine z_getfI (k := 4) flRX12_259 rfl rfl dX12_placeHeld_4 ?_
  refine z_icmp_ge dX12_placeHeld_7 (tgt := 38) (by decide) (fun h1 => ?_) (fun h1 => ?_)
  · skip
    refine z_iconst dX12_placeHeld_38 (by unfold zIn; decide) ?_
    exact z_ireti rfl dX12_placeHeld_39 (k1 h1)
  · skip
    refine z_aload_n dX12_placeHeld_10 rfl rfl ?_
    refine z_getfR (k := 44) flRX12_106 rfl rfl dX12_placeHeld_11 ?_
    refine z_iload_n dX12_placeHeld_14 rfl rfl ?_
    have s2 : (0 : Int) ≤ v3 ∧ v3 < (12 : Int) := k2 h1
    refine z_iald rfl s2.1 s2.2 dX12_placeHeld_15 ?_
    refine z_iload_n dX12_placeHeld_16 rfl rfl ?_
    refine z_icmp_ne dX12_placeHeld_17 (tgt := 32) (by decide) (fun h2 => ?_) (fun h2 => ?_)
    · skip
      exact J32 h1 (Or.inl h2)
    · skip
      refine z_aload_n dX12_placeHeld_20 rfl rfl ?_
      refine z_getfR (k := 45) flRX12_109 rfl rfl dX12_placeHeld_21 ?_
      refine z_iload_n dX12_placeHeld_24 rfl rfl ?_
      refine z_iald rfl s2.1 s2.2 dX12_placeHeld_25 ?_
      refine z_iload_n dX12_placeHeld_26 rfl rfl ?_
      refine z_icmp_ne dX12_placeHeld_27 (tgt := 32) (by decide) (fun h3 => ?_) (fun h3 => ?_)
      · skip
        exact J32 h1 (Or.inr ⟨h2, h3⟩)
      · skip
        refine z_iload_n dX12_placeHeld_30 rfl rfl ?_
        exact z_ireti rfl dX12_placeHeld_31 (k3 h1 h2 h3)
set_option maxRecDepth 20000 in
set_option maxHeartbeats 1000000 in
theorem TX12_mayHold {G : zG} {σ : zS} {Q : Int → zS → Prop} {a1 a2 : Int}  (k1 : zO G MX12_mays [zr 98, zi a1, zi a2, zi (σ 98 0), zi (σ 98 0)] σ (fun rr σ' => zR G MX12_mayHold 14 [zr 98, zi a1, zi a2] [zi rr] σ' Q)) : zO G MX12_mayHold [zr 98, zi a1, zi a2] σ Q := by
  refine zO_of (ls0 := [zr 98, zi a1, zi a2]) (by decide) (Nat.le_of_ble_eq_true rfl) rfl ?_
  refine z_aload_n dX12_mayHold_0 rfl rfl ?_
  refine z_iload_n dX12_mayHold_1 rfl rfl ?_
  refine z_iload_n dX12_mayHold_2 rfl rfl ?_
  refine z_aload_n dX12_mayHold_3 rfl rfl ?_
  refine z_getfI (k := 0) flRX12_262 rfl rfl dX12_mayHold_4 ?_
  refine z_aload_n dX12_mayHold_7 rfl rfl ?_
  refine z_getfI (k := 0) flRX12_262 rfl rfl dX12_mayHold_8 ?_
  refine z_callv (as := [zi a1, zi a2, zi (σ 98 0), zi (σ 98 0)]) (st := []) mkX12_mays lkRX12_365 rfl rfl rfl (by decide) (Nat.le_of_ble_eq_true rfl) rfl dX12_mayHold_11 (k1)
set_option maxRecDepth 20000 in
set_option maxHeartbeats 1000000 in
theorem TX12_mayHold_14 {G : zG} {σ : zS} {Q : Int → zS → Prop} {v1 v2 r : Int}  (k1 : (r ≠ 1) → Q 0 σ) (k2 : (r = 1) → Q 1 σ) : zR G MX12_mayHold 14 [zr 98, zi v1, zi v2] [zi r] σ Q := by
  refine z_iconst dX12_mayHold_14 (by unfold zIn; decide) ?_
  refine z_icmp_ne dX12_mayHold_15 (tgt := 22) (by decide) (fun h1 => ?_) (fun h1 => ?_)
  · skip
    refine z_iconst dX12_mayHold_22 (by unfold zIn; decide) ?_
    exact z_iretz rfl (by decide) dX12_mayHold_23 (k1 h1)
  · skip
    refine z_iconst dX12_mayHold_18 (by unfold zIn; decide) ?_
    refine z_goto dX12_mayHold_19 (tgt := 23) (by decide) ?_
    exact z_iretz rfl (by decide) dX12_mayHold_23 (k2 h1)
set_option maxRecDepth 20000 in
set_option maxHeartbeats 1000000 in
theorem TX12_ends {G : zG} {σ : zS} {Q : Int → zS → Prop} {a1 a2 : Int}  (k1 : (a2 ≠ 0) → (0 : Int) ≤ a1 ∧ a1 < (12 : Int)) (k2 : (a2 ≠ 0) → Q 0 (zup (zup (zup σ 130 a1 (-1)) 131 a1 (-1)) 132 a1 (-1))) (k3 : (a2 = 0) → Q 0 σ) : zO G MX12_ends [zr 98, zi a1, zi a2] σ Q := by
  refine zO_of (ls0 := [zr 98, zi a1, zi a2]) (by decide) (Nat.le_of_ble_eq_true rfl) rfl ?_
  refine z_iload_n dX12_ends_0 rfl rfl ?_
  refine z_if_ne dX12_ends_1 (tgt := 5) (by decide) (fun h1 => ?_) (fun h1 => ?_)
  · skip
    refine z_aload_n dX12_ends_5 rfl rfl ?_
    refine z_getfR (k := 45) flRX12_109 rfl rfl dX12_ends_6 ?_
    refine z_iload_n dX12_ends_9 rfl rfl ?_
    refine z_iconst dX12_ends_10 (by unfold zIn; decide) ?_
    have s1 : (0 : Int) ≤ a1 ∧ a1 < (12 : Int) := k1 h1
    refine z_iast rfl s1.1 s1.2 dX12_ends_11 ?_
    refine z_aload_n dX12_ends_12 rfl rfl ?_
    refine z_getfR (k := 46) flRX12_112 rfl rfl dX12_ends_13 ?_
    refine z_iload_n dX12_ends_16 rfl rfl ?_
    refine z_iconst dX12_ends_17 (by unfold zIn; decide) ?_
    refine z_iast rfl s1.1 s1.2 dX12_ends_18 ?_
    refine z_aload_n dX12_ends_19 rfl rfl ?_
    refine z_getfR (k := 47) flRX12_115 rfl rfl dX12_ends_20 ?_
    refine z_iload_n dX12_ends_23 rfl rfl ?_
    refine z_iconst dX12_ends_24 (by unfold zIn; decide) ?_
    refine z_iast rfl s1.1 s1.2 dX12_ends_25 ?_
    exact z_vret rfl dX12_ends_26 (k2 h1)
  · skip
    exact z_vret rfl dX12_ends_4 (k3 h1)
set_option maxRecDepth 20000 in
set_option maxHeartbeats 1000000 in
theorem TX12_hold {G : zG} {σ : zS} {Q : Int → zS → Prop} {a1 a2 : Int}  (k1 : ((0 ≤ a1 ∧ a1 < σ 98 1)) → ((0 ≤ a2 ∧ a2 < σ 98 4)) → (0 : Int) ≤ a2 ∧ a2 < (12 : Int)) (k2 : ((0 ≤ a1 ∧ a1 < σ 98 1)) → ((0 ≤ a2 ∧ a2 < σ 98 4)) → (σ 130 a2 = (-1)) → zO G MX12_mayHold [zr 98, zi a1, zi (σ 129 a2)] σ (fun rr σ' => zR G MX12_hold 43 [zr 98, zi a1, zi a2] [zi rr] σ' Q)) (k3 : ((¬ ((0 ≤ a1 ∧ a1 < σ 98 1))) ∨ (((0 ≤ a1 ∧ a1 < σ 98 1)) ∧ (¬ ((0 ≤ a2 ∧ a2 < σ 98 4))))) → -2147483648 ≤ -(-1) ∧ -(-1) < (2147483648 : Int)) (k4 : ((¬ ((0 ≤ a1 ∧ a1 < σ 98 1))) ∨ (((0 ≤ a1 ∧ a1 < σ 98 1)) ∧ (¬ ((0 ≤ a2 ∧ a2 < σ 98 4))))) → (0 : Int) ≤ -(-1) ∧ -(-1) < (8 : Int)) (k5 : ((¬ ((0 ≤ a1 ∧ a1 < σ 98 1))) ∨ (((0 ≤ a1 ∧ a1 < σ 98 1)) ∧ (¬ ((0 ≤ a2 ∧ a2 < σ 98 4))))) → -2147483648 ≤ (σ 157 (-(-1))) + 1 ∧ (σ 157 (-(-1))) + 1 < (2147483648 : Int)) (k6 : ((¬ ((0 ≤ a1 ∧ a1 < σ 98 1))) ∨ (((0 ≤ a1 ∧ a1 < σ 98 1)) ∧ (¬ ((0 ≤ a2 ∧ a2 < σ 98 4))))) → Q (-1) (zup σ 157 (-(-1)) ((σ 157 (-(-1))) + 1))) (k7 : ((0 ≤ a1 ∧ a1 < σ 98 1)) → ((0 ≤ a2 ∧ a2 < σ 98 4)) → (σ 130 a2 ≠ (-1)) → -2147483648 ≤ -(-6) ∧ -(-6) < (2147483648 : Int)) (k8 : ((0 ≤ a1 ∧ a1 < σ 98 1)) → ((0 ≤ a2 ∧ a2 < σ 98 4)) → (σ 130 a2 ≠ (-1)) → (0 : Int) ≤ -(-6) ∧ -(-6) < (8 : Int)) (k9 : ((0 ≤ a1 ∧ a1 < σ 98 1)) → ((0 ≤ a2 ∧ a2 < σ 98 4)) → (σ 130 a2 ≠ (-1)) → -2147483648 ≤ (σ 157 (-(-6))) + 1 ∧ (σ 157 (-(-6))) + 1 < (2147483648 : Int)) (k10 : ((0 ≤ a1 ∧ a1 < σ 98 1)) → ((0 ≤ a2 ∧ a2 < σ 98 4)) → (σ 130 a2 ≠ (-1)) → Q (-6) (zup σ 157 (-(-6)) ((σ 157 (-(-6))) + 1))) : zO G MX12_hold [zr 98, zi a1, zi a2] σ Q := by
  refine zO_of (ls0 := [zr 98, zi a1, zi a2]) (by decide) (Nat.le_of_ble_eq_true rfl) rfl ?_
  have J61 : ((0 ≤ a1 ∧ a1 < σ 98 1)) → ((0 ≤ a2 ∧ a2 < σ 98 4)) → (σ 130 a2 ≠ (-1)) → zR G MX12_hold 61 [zr 98, zi a1, zi a2] [] σ Q := by
    intro h1 h2 h3
    refine z_aload_n dX12_hold_61 rfl rfl ?_
    refine z_bipush (x := (-6)) dX12_hold_62 (by decide +kernel) (by unfold zIn; decide) ?_
    have s7 : -2147483648 ≤ -(-6) ∧ -(-6) < (2147483648 : Int) := k7 h1 h2 h3
    have s8 : (0 : Int) ≤ -(-6) ∧ -(-6) < (8 : Int) := k8 h1 h2 h3
    have s9 : -2147483648 ≤ (σ 157 (-(-6))) + 1 ∧ (σ 157 (-(-6))) + 1 < (2147483648 : Int) := k9 h1 h2 h3
    refine z_callv (as := [zi (-6)]) (st := []) mkX12_no lkRX12_267 rfl rfl rfl (by decide) (Nat.le_of_ble_eq_true rfl) rfl dX12_hold_64 ?_
    refine SX12_no s7 s8 s9 ?_
    show zR G MX12_hold 67 [zr 98, zi a1, zi a2] [zi (-6)] (zup σ 157 (-(-6)) ((σ 157 (-(-6))) + 1)) Q
    exact z_ireti rfl dX12_hold_67 (k10 h1 h2 h3)
  have J16 : ((¬ ((0 ≤ a1 ∧ a1 < σ 98 1))) ∨ (((0 ≤ a1 ∧ a1 < σ 98 1)) ∧ (¬ ((0 ≤ a2 ∧ a2 < σ 98 4))))) → zR G MX12_hold 16 [zr 98, zi a1, zi a2] [] σ Q := by
    intro h4
    refine z_aload_n dX12_hold_16 rfl rfl ?_
    refine z_iconst dX12_hold_17 (by unfold zIn; decide) ?_
    have s3 : -2147483648 ≤ -(-1) ∧ -(-1) < (2147483648 : Int) := k3 h4
    have s4 : (0 : Int) ≤ -(-1) ∧ -(-1) < (8 : Int) := k4 h4
    have s5 : -2147483648 ≤ (σ 157 (-(-1))) + 1 ∧ (σ 157 (-(-1))) + 1 < (2147483648 : Int) := k5 h4
    refine z_callv (as := [zi (-1)]) (st := []) mkX12_no lkRX12_267 rfl rfl rfl (by decide) (Nat.le_of_ble_eq_true rfl) rfl dX12_hold_18 ?_
    refine SX12_no s3 s4 s5 ?_
    show zR G MX12_hold 21 [zr 98, zi a1, zi a2] [zi (-1)] (zup σ 157 (-(-1)) ((σ 157 (-(-1))) + 1)) Q
    exact z_ireti rfl dX12_hold_21 (k6 h4)
  refine z_aload_n dX12_hold_0 rfl rfl ?_
  refine z_iload_n dX12_hold_1 rfl rfl ?_
  refine z_callv (as := [zi a1]) (st := []) mkX12_isOne lkRX12_271 rfl rfl rfl (by decide) (Nat.le_of_ble_eq_true rfl) rfl dX12_hold_2 ?_
  refine SX12_isOne ?_
  show zR G MX12_hold 5 [zr 98, zi a1, zi a2] [zi (if (0 ≤ a1 ∧ a1 < σ 98 1) then (1 : Int) else 0)] σ Q
  refine z_if_eq dX12_hold_5 (tgt := 16) (by decide) (fun z => ?_) (fun z => ?_)
  · have h1 : ¬ ((0 ≤ a1 ∧ a1 < σ 98 1)) := zb0 z
    exact J16 (Or.inl h1)
  · have h1 : (0 ≤ a1 ∧ a1 < σ 98 1) := zb1 z
    refine z_aload_n dX12_hold_8 rfl rfl ?_
    refine z_iload_n dX12_hold_9 rfl rfl ?_
    refine z_callv (as := [zi a2]) (st := []) mkX12_isPlace lkRX12_368 rfl rfl rfl (by decide) (Nat.le_of_ble_eq_true rfl) rfl dX12_hold_10 ?_
    refine SX12_isPlace ?_
    show zR G MX12_hold 13 [zr 98, zi a1, zi a2] [zi (if (0 ≤ a2 ∧ a2 < σ 98 4) then (1 : Int) else 0)] σ Q
    refine z_if_ne dX12_hold_13 (tgt := 22) (by decide) (fun z => ?_) (fun z => ?_)
    · have h2 : (0 ≤ a2 ∧ a2 < σ 98 4) := zb1 z
      refine z_aload_n dX12_hold_22 rfl rfl ?_
      refine z_getfR (k := 45) flRX12_109 rfl rfl dX12_hold_23 ?_
      refine z_iload_n dX12_hold_26 rfl rfl ?_
      have s1 : (0 : Int) ≤ a2 ∧ a2 < (12 : Int) := k1 h1 h2
      refine z_iald rfl s1.1 s1.2 dX12_hold_27 ?_
      refine z_iconst dX12_hold_28 (by unfold zIn; decide) ?_
      refine z_icmp_ne dX12_hold_29 (tgt := 61) (by decide) (fun h3 => ?_) (fun h3 => ?_)
      · skip
        exact J61 h1 h2 h3
      · skip
        refine z_aload_n dX12_hold_32 rfl rfl ?_
        refine z_iload_n dX12_hold_33 rfl rfl ?_
        refine z_aload_n dX12_hold_34 rfl rfl ?_
        refine z_getfR (k := 44) flRX12_106 rfl rfl dX12_hold_35 ?_
        refine z_iload_n dX12_hold_38 rfl rfl ?_
        refine z_iald rfl s1.1 s1.2 dX12_hold_39 ?_
        refine z_callv (as := [zi a1, zi (σ 129 a2)]) (st := []) mkX12_mayHold lkRX12_371 rfl rfl rfl (by decide) (Nat.le_of_ble_eq_true rfl) rfl dX12_hold_40 (k2 h1 h2 h3)
    · have h2 : ¬ ((0 ≤ a2 ∧ a2 < σ 98 4)) := zb0 z
      exact J16 (Or.inr ⟨h1, h2⟩)
set_option maxRecDepth 20000 in
set_option maxHeartbeats 1000000 in
theorem TX12_hold_43 {G : zG} {σ : zS} {Q : Int → zS → Prop} {v1 v2 r : Int}  (k1 : (r ≠ 0) → (0 : Int) ≤ v2 ∧ v2 < (12 : Int)) (k2 : (r ≠ 0) → zO G MX12_placeHeld [zr 98, zi v1, zi (σ 129 v2)] σ (fun rr σ' => zR G MX12_hold 57 [zr 98, zi v1, zi v2] [zi rr] σ' Q)) (k3 : (r = 0) → -2147483648 ≤ -(-6) ∧ -(-6) < (2147483648 : Int)) (k4 : (r = 0) → (0 : Int) ≤ -(-6) ∧ -(-6) < (8 : Int)) (k5 : (r = 0) → -2147483648 ≤ (σ 157 (-(-6))) + 1 ∧ (σ 157 (-(-6))) + 1 < (2147483648 : Int)) (k6 : (r = 0) → Q (-6) (zup σ 157 (-(-6)) ((σ 157 (-(-6))) + 1))) : zR G MX12_hold 43 [zr 98, zi v1, zi v2] [zi r] σ Q := by
  have J61 : (r = 0) → zR G MX12_hold 61 [zr 98, zi v1, zi v2] [] σ Q := by
    intro h1
    refine z_aload_n dX12_hold_61 rfl rfl ?_
    refine z_bipush (x := (-6)) dX12_hold_62 (by decide +kernel) (by unfold zIn; decide) ?_
    have s3 : -2147483648 ≤ -(-6) ∧ -(-6) < (2147483648 : Int) := k3 h1
    have s4 : (0 : Int) ≤ -(-6) ∧ -(-6) < (8 : Int) := k4 h1
    have s5 : -2147483648 ≤ (σ 157 (-(-6))) + 1 ∧ (σ 157 (-(-6))) + 1 < (2147483648 : Int) := k5 h1
    refine z_callv (as := [zi (-6)]) (st := []) mkX12_no lkRX12_267 rfl rfl rfl (by decide) (Nat.le_of_ble_eq_true rfl) rfl dX12_hold_64 ?_
    refine SX12_no s3 s4 s5 ?_
    show zR G MX12_hold 67 [zr 98, zi v1, zi v2] [zi (-6)] (zup σ 157 (-(-6)) ((σ 157 (-(-6))) + 1)) Q
    exact z_ireti rfl dX12_hold_67 (k6 h1)
  refine z_if_eq dX12_hold_43 (tgt := 61) (by decide) (fun h1 => ?_) (fun h1 => ?_)
  · skip
    exact J61 h1
  · skip
    refine z_aload_n dX12_hold_46 rfl rfl ?_
    refine z_iload_n dX12_hold_47 rfl rfl ?_
    refine z_aload_n dX12_hold_48 rfl rfl ?_
    refine z_getfR (k := 44) flRX12_106 rfl rfl dX12_hold_49 ?_
    refine z_iload_n dX12_hold_52 rfl rfl ?_
    have s1 : (0 : Int) ≤ v2 ∧ v2 < (12 : Int) := k1 h1
    refine z_iald rfl s1.1 s1.2 dX12_hold_53 ?_
    refine z_callv (as := [zi v1, zi (σ 129 v2)]) (st := []) mkX12_placeHeld lkRX12_375 rfl rfl rfl (by decide) (Nat.le_of_ble_eq_true rfl) rfl dX12_hold_54 (k2 h1)
set_option maxRecDepth 20000 in
set_option maxHeartbeats 1000000 in
theorem TX12_hold_57 {G : zG} {σ : zS} {Q : Int → zS → Prop} {v1 v2 r : Int}  (k1 : (r = (-1)) → (0 : Int) ≤ v2 ∧ v2 < (12 : Int)) (k2 : (r = (-1)) → Q 1 (zup (zup (zup (zup σ 130 v2 v1) 131 v2 ((zup σ 130 v2 v1) 98 0)) 132 v2 (-1)) 133 v2 0)) (k3 : (r ≠ (-1)) → -2147483648 ≤ -(-6) ∧ -(-6) < (2147483648 : Int)) (k4 : (r ≠ (-1)) → (0 : Int) ≤ -(-6) ∧ -(-6) < (8 : Int)) (k5 : (r ≠ (-1)) → -2147483648 ≤ (σ 157 (-(-6))) + 1 ∧ (σ 157 (-(-6))) + 1 < (2147483648 : Int)) (k6 : (r ≠ (-1)) → Q (-6) (zup σ 157 (-(-6)) ((σ 157 (-(-6))) + 1))) : zR G MX12_hold 57 [zr 98, zi v1, zi v2] [zi r] σ Q := by
  have J61 : (r ≠ (-1)) → zR G MX12_hold 61 [zr 98, zi v1, zi v2] [] σ Q := by
    intro h1
    refine z_aload_n dX12_hold_61 rfl rfl ?_
    refine z_bipush (x := (-6)) dX12_hold_62 (by decide +kernel) (by unfold zIn; decide) ?_
    have s3 : -2147483648 ≤ -(-6) ∧ -(-6) < (2147483648 : Int) := k3 h1
    have s4 : (0 : Int) ≤ -(-6) ∧ -(-6) < (8 : Int) := k4 h1
    have s5 : -2147483648 ≤ (σ 157 (-(-6))) + 1 ∧ (σ 157 (-(-6))) + 1 < (2147483648 : Int) := k5 h1
    refine z_callv (as := [zi (-6)]) (st := []) mkX12_no lkRX12_267 rfl rfl rfl (by decide) (Nat.le_of_ble_eq_true rfl) rfl dX12_hold_64 ?_
    refine SX12_no s3 s4 s5 ?_
    show zR G MX12_hold 67 [zr 98, zi v1, zi v2] [zi (-6)] (zup σ 157 (-(-6)) ((σ 157 (-(-6))) + 1)) Q
    exact z_ireti rfl dX12_hold_67 (k6 h1)
  refine z_iconst dX12_hold_57 (by unfold zIn; decide) ?_
  refine z_icmp_eq dX12_hold_58 (tgt := 68) (by decide) (fun h1 => ?_) (fun h1 => ?_)
  · skip
    refine z_aload_n dX12_hold_68 rfl rfl ?_
    refine z_iload_n dX12_hold_69 rfl rfl ?_
    refine z_iload_n dX12_hold_70 rfl rfl ?_
    have s1 : (0 : Int) ≤ v2 ∧ v2 < (12 : Int) := k1 h1
    refine z_callv (as := [zi v1, zi v2]) (st := []) mkX12_comes lkRX12_378 rfl rfl rfl (by decide) (Nat.le_of_ble_eq_true rfl) rfl dX12_hold_71 ?_
    refine SX12_comes s1 ?_
    show zR G MX12_hold 74 [zr 98, zi v1, zi v2] [] (zup (zup (zup (zup σ 130 v2 v1) 131 v2 ((zup σ 130 v2 v1) 98 0)) 132 v2 (-1)) 133 v2 0) Q
    refine z_iconst dX12_hold_74 (by unfold zIn; decide) ?_
    exact z_ireti rfl dX12_hold_75 (k2 h1)
  · skip
    exact J61 h1
set_option maxRecDepth 20000 in
set_option maxHeartbeats 1000000 in
theorem TX12_leave {G : zG} {σ : zS} {Q : Int → zS → Prop} {a1 : Int}  (k1 : ((0 ≤ a1 ∧ a1 < σ 98 4)) → (0 : Int) ≤ a1 ∧ a1 < (12 : Int)) (k2 : ((0 ≤ a1 ∧ a1 < σ 98 4)) → (σ 130 a1 ≠ (-1)) → zO G MX12_ends [zr 98, zi a1, zi 1] σ (fun rr σ' => zR G MX12_leave 44 [zr 98, zi a1, zi (σ 130 a1)] [] σ' Q)) (k3 : ((0 ≤ a1 ∧ a1 < σ 98 4)) → (σ 130 a1 = (-1)) → -2147483648 ≤ -(-6) ∧ -(-6) < (2147483648 : Int)) (k4 : ((0 ≤ a1 ∧ a1 < σ 98 4)) → (σ 130 a1 = (-1)) → (0 : Int) ≤ -(-6) ∧ -(-6) < (8 : Int)) (k5 : ((0 ≤ a1 ∧ a1 < σ 98 4)) → (σ 130 a1 = (-1)) → -2147483648 ≤ (σ 157 (-(-6))) + 1 ∧ (σ 157 (-(-6))) + 1 < (2147483648 : Int)) (k6 : ((0 ≤ a1 ∧ a1 < σ 98 4)) → (σ 130 a1 = (-1)) → Q (-6) (zup σ 157 (-(-6)) ((σ 157 (-(-6))) + 1))) (k7 : (¬ ((0 ≤ a1 ∧ a1 < σ 98 4))) → -2147483648 ≤ -(-1) ∧ -(-1) < (2147483648 : Int)) (k8 : (¬ ((0 ≤ a1 ∧ a1 < σ 98 4))) → (0 : Int) ≤ -(-1) ∧ -(-1) < (8 : Int)) (k9 : (¬ ((0 ≤ a1 ∧ a1 < σ 98 4))) → -2147483648 ≤ (σ 157 (-(-1))) + 1 ∧ (σ 157 (-(-1))) + 1 < (2147483648 : Int)) (k10 : (¬ ((0 ≤ a1 ∧ a1 < σ 98 4))) → Q (-1) (zup σ 157 (-(-1)) ((σ 157 (-(-1))) + 1))) : zO G MX12_leave [zr 98, zi a1] σ Q := by
  refine zO_of (ls0 := [zr 98, zi a1, zu]) (by decide) (Nat.le_of_ble_eq_true rfl) rfl ?_
  refine z_aload_n dX12_leave_0 rfl rfl ?_
  refine z_iload_n dX12_leave_1 rfl rfl ?_
  refine z_callv (as := [zi a1]) (st := []) mkX12_isPlace lkRX12_368 rfl rfl rfl (by decide) (Nat.le_of_ble_eq_true rfl) rfl dX12_leave_2 ?_
  refine SX12_isPlace ?_
  show zR G MX12_leave 5 [zr 98, zi a1, zu] [zi (if (0 ≤ a1 ∧ a1 < σ 98 4) then (1 : Int) else 0)] σ Q
  refine z_if_ne dX12_leave_5 (tgt := 14) (by decide) (fun z => ?_) (fun z => ?_)
  · have h1 : (0 ≤ a1 ∧ a1 < σ 98 4) := zb1 z
    refine z_aload_n dX12_leave_14 rfl rfl ?_
    refine z_getfR (k := 45) flRX12_109 rfl rfl dX12_leave_15 ?_
    refine z_iload_n dX12_leave_18 rfl rfl ?_
    have s1 : (0 : Int) ≤ a1 ∧ a1 < (12 : Int) := k1 h1
    refine z_iald rfl s1.1 s1.2 dX12_leave_19 ?_
    refine z_iconst dX12_leave_20 (by unfold zIn; decide) ?_
    refine z_icmp_ne dX12_leave_21 (tgt := 31) (by decide) (fun h2 => ?_) (fun h2 => ?_)
    · skip
      refine z_aload_n dX12_leave_31 rfl rfl ?_
      refine z_getfR (k := 45) flRX12_109 rfl rfl dX12_leave_32 ?_
      refine z_iload_n dX12_leave_35 rfl rfl ?_
      refine z_iald rfl s1.1 s1.2 dX12_leave_36 ?_
      refine z_istore_n (ls' := [zr 98, zi a1, zi (σ 130 a1)]) dX12_leave_37 rfl (by decide) rfl ?_
      refine z_aload_n dX12_leave_38 rfl rfl ?_
      refine z_iload_n dX12_leave_39 rfl rfl ?_
      refine z_iconst dX12_leave_40 (by unfold zIn; decide) ?_
      refine z_callv (as := [zi a1, zi 1]) (st := []) mkX12_ends lkRX12_382 rfl rfl rfl (by decide) (Nat.le_of_ble_eq_true rfl) rfl dX12_leave_41 (k2 h1 h2)
    · skip
      refine z_aload_n dX12_leave_24 rfl rfl ?_
      refine z_bipush (x := (-6)) dX12_leave_25 (by decide +kernel) (by unfold zIn; decide) ?_
      have s3 : -2147483648 ≤ -(-6) ∧ -(-6) < (2147483648 : Int) := k3 h1 h2
      have s4 : (0 : Int) ≤ -(-6) ∧ -(-6) < (8 : Int) := k4 h1 h2
      have s5 : -2147483648 ≤ (σ 157 (-(-6))) + 1 ∧ (σ 157 (-(-6))) + 1 < (2147483648 : Int) := k5 h1 h2
      refine z_callv (as := [zi (-6)]) (st := []) mkX12_no lkRX12_267 rfl rfl rfl (by decide) (Nat.le_of_ble_eq_true rfl) rfl dX12_leave_27 ?_
      refine SX12_no s3 s4 s5 ?_
      show zR G MX12_leave 30 [zr 98, zi a1, zu] [zi (-6)] (zup σ 157 (-(-6)) ((σ 157 (-(-6))) + 1)) Q
      exact z_ireti rfl dX12_leave_30 (k6 h1 h2)
  · have h1 : ¬ ((0 ≤ a1 ∧ a1 < σ 98 4)) := zb0 z
    refine z_aload_n dX12_leave_8 rfl rfl ?_
    refine z_iconst dX12_leave_9 (by unfold zIn; decide) ?_
    have s7 : -2147483648 ≤ -(-1) ∧ -(-1) < (2147483648 : Int) := k7 h1
    have s8 : (0 : Int) ≤ -(-1) ∧ -(-1) < (8 : Int) := k8 h1
    have s9 : -2147483648 ≤ (σ 157 (-(-1))) + 1 ∧ (σ 157 (-(-1))) + 1 < (2147483648 : Int) := k9 h1
    refine z_callv (as := [zi (-1)]) (st := []) mkX12_no lkRX12_267 rfl rfl rfl (by decide) (Nat.le_of_ble_eq_true rfl) rfl dX12_leave_10 ?_
    refine SX12_no s7 s8 s9 ?_
    show zR G MX12_leave 13 [zr 98, zi a1, zu] [zi (-1)] (zup σ 157 (-(-1)) ((σ 157 (-(-1))) + 1)) Q
    exact z_ireti rfl dX12_leave_13 (k10 h1)
set_option maxRecDepth 20000 in
set_option maxHeartbeats 1000000 in
theorem TX12_leave_44 {G : zG} {σ : zS} {Q : Int → zS → Prop} {v1 v2 : Int}  (k1 : Q v2 σ) : zR G MX12_leave 44 [zr 98, zi v1, zi v2] [] σ Q := by
  refine z_iload_n dX12_leave_44 rfl rfl ?_
  exact z_ireti rfl dX12_leave_45 (k1)
set_option maxRecDepth 20000 in
set_option maxHeartbeats 1000000 in
theorem TX12_about {G : zG} {σ : zS} {Q : Int → zS → Prop} {a1 a2 : Int}  (k1 : ((0 ≤ a1 ∧ a1 < σ 98 4)) → (0 ≤ a2) → (a2 ≤ 3) → (a2 ≠ 0) → (a2 ≠ 1) → (a2 ≠ 2) → (0 : Int) ≤ a1 ∧ a1 < (12 : Int)) (k2 : ((0 ≤ a1 ∧ a1 < σ 98 4)) → (0 ≤ a2) → (a2 ≤ 3) → (a2 ≠ 0) → (a2 ≠ 1) → (a2 ≠ 2) → Q (σ 132 a1) σ) (k3 : ((0 ≤ a1 ∧ a1 < σ 98 4)) → (0 ≤ a2) → (a2 ≤ 3) → (a2 ≠ 0) → (a2 ≠ 1) → (a2 = 2) → (0 : Int) ≤ a1 ∧ a1 < (12 : Int)) (k4 : ((0 ≤ a1 ∧ a1 < σ 98 4)) → (0 ≤ a2) → (a2 ≤ 3) → (a2 ≠ 0) → (a2 ≠ 1) → (a2 = 2) → Q (σ 131 a1) σ) (k5 : ((0 ≤ a1 ∧ a1 < σ 98 4)) → (0 ≤ a2) → (a2 ≤ 3) → (a2 ≠ 0) → (a2 = 1) → (0 : Int) ≤ a1 ∧ a1 < (12 : Int)) (k6 : ((0 ≤ a1 ∧ a1 < σ 98 4)) → (0 ≤ a2) → (a2 ≤ 3) → (a2 ≠ 0) → (a2 = 1) → Q (σ 130 a1) σ) (k7 : ((0 ≤ a1 ∧ a1 < σ 98 4)) → (0 ≤ a2) → (a2 ≤ 3) → (a2 = 0) → (0 : Int) ≤ a1 ∧ a1 < (12 : Int)) (k8 : ((0 ≤ a1 ∧ a1 < σ 98 4)) → (0 ≤ a2) → (a2 ≤ 3) → (a2 = 0) → Q (σ 129 a1) σ) (k9 : ((¬ ((0 ≤ a1 ∧ a1 < σ 98 4))) ∨ (((0 ≤ a1 ∧ a1 < σ 98 4)) ∧ a2 < 0) ∨ (((0 ≤ a1 ∧ a1 < σ 98 4)) ∧ 0 ≤ a2 ∧ 3 < a2)) → Q (-1) σ) : zO G MX12_about [zr 98, zi a1, zi a2] σ Q := by
  refine zO_of (ls0 := [zr 98, zi a1, zi a2]) (by decide) (Nat.le_of_ble_eq_true rfl) rfl ?_
  have J17 : ((¬ ((0 ≤ a1 ∧ a1 < σ 98 4))) ∨ (((0 ≤ a1 ∧ a1 < σ 98 4)) ∧ a2 < 0) ∨ (((0 ≤ a1 ∧ a1 < σ 98 4)) ∧ 0 ≤ a2 ∧ 3 < a2)) → zR G MX12_about 17 [zr 98, zi a1, zi a2] [] σ Q := by
    intro h7
    refine z_iconst dX12_about_17 (by unfold zIn; decide) ?_
    exact z_ireti rfl dX12_about_18 (k9 h7)
  refine z_aload_n dX12_about_0 rfl rfl ?_
  refine z_iload_n dX12_about_1 rfl rfl ?_
  refine z_callv (as := [zi a1]) (st := []) mkX12_isPlace lkRX12_368 rfl rfl rfl (by decide) (Nat.le_of_ble_eq_true rfl) rfl dX12_about_2 ?_
  refine SX12_isPlace ?_
  show zR G MX12_about 5 [zr 98, zi a1, zi a2] [zi (if (0 ≤ a1 ∧ a1 < σ 98 4) then (1 : Int) else 0)] σ Q
  refine z_if_eq dX12_about_5 (tgt := 17) (by decide) (fun z => ?_) (fun z => ?_)
  · have h1 : ¬ ((0 ≤ a1 ∧ a1 < σ 98 4)) := zb0 z
    exact J17 (Or.inl h1)
  · have h1 : (0 ≤ a1 ∧ a1 < σ 98 4) := zb1 z
    refine z_iload_n dX12_about_8 rfl rfl ?_
    refine z_if_lt dX12_about_9 (tgt := 17) (by decide) (fun h2 => ?_) (fun h2 => ?_)
    · skip
      exact J17 (Or.inr (Or.inl ⟨h1, h2⟩))
    · skip
      refine z_iload_n dX12_about_12 rfl rfl ?_
      refine z_iconst dX12_about_13 (by unfold zIn; decide) ?_
      refine z_icmp_le dX12_about_14 (tgt := 19) (by decide) (fun h3 => ?_) (fun h3 => ?_)
      · skip
        refine z_iload_n dX12_about_19 rfl rfl ?_
        refine z_if_ne dX12_about_20 (tgt := 32) (by decide) (fun h4 => ?_) (fun h4 => ?_)
        · skip
          refine z_iload_n dX12_about_32 rfl rfl ?_
          refine z_iconst dX12_about_33 (by unfold zIn; decide) ?_
          refine z_icmp_ne dX12_about_34 (tgt := 46) (by decide) (fun h5 => ?_) (fun h5 => ?_)
          · skip
            refine z_iload_n dX12_about_46 rfl rfl ?_
            refine z_iconst dX12_about_47 (by unfold zIn; decide) ?_
            refine z_icmp_ne dX12_about_48 (tgt := 60) (by decide) (fun h6 => ?_) (fun h6 => ?_)
            · skip
              refine z_aload_n dX12_about_60 rfl rfl ?_
              refine z_getfR (k := 47) flRX12_115 rfl rfl dX12_about_61 ?_
              refine z_iload_n dX12_about_64 rfl rfl ?_
              have s1 : (0 : Int) ≤ a1 ∧ a1 < (12 : Int) := k1 h1 h2 h3 h4 h5 h6
              refine z_iald rfl s1.1 s1.2 dX12_about_65 ?_
              exact z_ireti rfl dX12_about_66 (k2 h1 h2 h3 h4 h5 h6)
            · skip
              refine z_aload_n dX12_about_51 rfl rfl ?_
              refine z_getfR (k := 46) flRX12_112 rfl rfl dX12_about_52 ?_
              refine z_iload_n dX12_about_55 rfl rfl ?_
              have s3 : (0 : Int) ≤ a1 ∧ a1 < (12 : Int) := k3 h1 h2 h3 h4 h5 h6
              refine z_iald rfl s3.1 s3.2 dX12_about_56 ?_
              refine z_goto dX12_about_57 (tgt := 66) (by decide) ?_
              exact z_ireti rfl dX12_about_66 (k4 h1 h2 h3 h4 h5 h6)
          · skip
            refine z_aload_n dX12_about_37 rfl rfl ?_
            refine z_getfR (k := 45) flRX12_109 rfl rfl dX12_about_38 ?_
            refine z_iload_n dX12_about_41 rfl rfl ?_
            have s5 : (0 : Int) ≤ a1 ∧ a1 < (12 : Int) := k5 h1 h2 h3 h4 h5
            refine z_iald rfl s5.1 s5.2 dX12_about_42 ?_
            refine z_goto dX12_about_43 (tgt := 66) (by decide) ?_
            exact z_ireti rfl dX12_about_66 (k6 h1 h2 h3 h4 h5)
        · skip
          refine z_aload_n dX12_about_23 rfl rfl ?_
          refine z_getfR (k := 44) flRX12_106 rfl rfl dX12_about_24 ?_
          refine z_iload_n dX12_about_27 rfl rfl ?_
          have s7 : (0 : Int) ≤ a1 ∧ a1 < (12 : Int) := k7 h1 h2 h3 h4
          refine z_iald rfl s7.1 s7.2 dX12_about_28 ?_
          refine z_goto dX12_about_29 (tgt := 66) (by decide) ?_
          exact z_ireti rfl dX12_about_66 (k8 h1 h2 h3 h4)
      · skip
        exact J17 (Or.inr (Or.inr ⟨h1, h2, h3⟩))
set_option maxRecDepth 20000 in
set_option maxHeartbeats 1000000 in
theorem TX12_days {G : zG} {σ : zS} {Q : Int → zS → Prop} {a1 : Int}  (k1 : (1 ≤ a1) → (a1 ≤ 4000) → -2147483648 ≤ σ 98 0 + a1 ∧ σ 98 0 + a1 < (2147483648 : Int)) (k2 : (1 ≤ a1) → (a1 ≤ 4000) → (σ 98 0 + a1 ≤ 40000) → zR G MX12_days 45 [zr 98, zi a1, zi 0, zi 0, zu] [] (zup σ 98 0 (σ 98 0 + a1)) Q) (k3 : (a1 < 1 ∨ (1 ≤ a1 ∧ 4000 < a1) ∨ (1 ≤ a1 ∧ a1 ≤ 4000 ∧ 40000 < σ 98 0 + a1)) → -2147483648 ≤ -(-6) ∧ -(-6) < (2147483648 : Int)) (k4 : (a1 < 1 ∨ (1 ≤ a1 ∧ 4000 < a1) ∨ (1 ≤ a1 ∧ a1 ≤ 4000 ∧ 40000 < σ 98 0 + a1)) → (0 : Int) ≤ -(-6) ∧ -(-6) < (8 : Int)) (k5 : (a1 < 1 ∨ (1 ≤ a1 ∧ 4000 < a1) ∨ (1 ≤ a1 ∧ a1 ≤ 4000 ∧ 40000 < σ 98 0 + a1)) → -2147483648 ≤ (σ 157 (-(-6))) + 1 ∧ (σ 157 (-(-6))) + 1 < (2147483648 : Int)) (k6 : (a1 < 1 ∨ (1 ≤ a1 ∧ 4000 < a1) ∨ (1 ≤ a1 ∧ a1 ≤ 4000 ∧ 40000 < σ 98 0 + a1)) → Q (-6) (zup σ 157 (-(-6)) ((σ 157 (-(-6))) + 1))) : zO G MX12_days [zr 98, zi a1] σ Q := by
  refine zO_of (ls0 := [zr 98, zi a1, zu, zu, zu]) (by decide) (Nat.le_of_ble_eq_true rfl) rfl ?_
  have J24 : (a1 < 1 ∨ (1 ≤ a1 ∧ 4000 < a1) ∨ (1 ≤ a1 ∧ a1 ≤ 4000 ∧ 40000 < σ 98 0 + a1)) → zR G MX12_days 24 [zr 98, zi a1, zu, zu, zu] [] σ Q := by
    intro h4
    refine z_aload_n dX12_days_24 rfl rfl ?_
    refine z_bipush (x := (-6)) dX12_days_25 (by decide +kernel) (by unfold zIn; decide) ?_
    have s3 : -2147483648 ≤ -(-6) ∧ -(-6) < (2147483648 : Int) := k3 h4
    have s4 : (0 : Int) ≤ -(-6) ∧ -(-6) < (8 : Int) := k4 h4
    have s5 : -2147483648 ≤ (σ 157 (-(-6))) + 1 ∧ (σ 157 (-(-6))) + 1 < (2147483648 : Int) := k5 h4
    refine z_callv (as := [zi (-6)]) (st := []) mkX12_no lkRX12_267 rfl rfl rfl (by decide) (Nat.le_of_ble_eq_true rfl) rfl dX12_days_27 ?_
    refine SX12_no s3 s4 s5 ?_
    show zR G MX12_days 30 [zr 98, zi a1, zu, zu, zu] [zi (-6)] (zup σ 157 (-(-6)) ((σ 157 (-(-6))) + 1)) Q
    exact z_ireti rfl dX12_days_30 (k6 h4)
  refine z_iload_n dX12_days_0 rfl rfl ?_
  refine z_iconst dX12_days_1 (by unfold zIn; decide) ?_
  refine z_icmp_lt dX12_days_2 (tgt := 24) (by decide) (fun h1 => ?_) (fun h1 => ?_)
  · skip
    exact J24 (Or.inl h1)
  · skip
    refine z_iload_n dX12_days_5 rfl rfl ?_
    refine z_sipush (x := 4000) dX12_days_6 (by decide +kernel) (by unfold zIn; decide) ?_
    refine z_icmp_gt dX12_days_9 (tgt := 24) (by decide) (fun h2 => ?_) (fun h2 => ?_)
    · skip
      exact J24 (Or.inr (Or.inl ⟨h1, h2⟩))
    · skip
      refine z_aload_n dX12_days_12 rfl rfl ?_
      refine z_getfI (k := 0) flRX12_262 rfl rfl dX12_days_13 ?_
      refine z_iload_n dX12_days_16 rfl rfl ?_
      have s1 : -2147483648 ≤ σ 98 0 + a1 ∧ σ 98 0 + a1 < (2147483648 : Int) := k1 h1 h2
      refine z_iaddN dX12_days_17 s1 ?_
      refine z_ldcw (x := 40000) (zin_7 (List.mem_of_getElem? (i := 198) (by decide +kernel))) (by unfold zIn; decide) dX12_days_18 ?_
      refine z_icmp_le dX12_days_21 (tgt := 31) (by decide) (fun h3 => ?_) (fun h3 => ?_)
      · skip
        refine z_aload_n dX12_days_31 rfl rfl ?_
        refine z_dup dX12_days_32 rfl ?_
        refine z_getfI (k := 0) flRX12_262 rfl rfl dX12_days_33 ?_
        refine z_iload_n dX12_days_36 rfl rfl ?_
        refine z_iaddN dX12_days_37 s1 ?_
        refine z_putI (k := 0) fpRX12_262 rfl rfl dX12_days_38 ?_
        refine z_iconst dX12_days_41 (by unfold zIn; decide) ?_
        refine z_istore_n (ls' := [zr 98, zi a1, zi 0, zu, zu]) dX12_days_42 rfl (by decide) rfl ?_
        refine z_iconst dX12_days_43 (by unfold zIn; decide) ?_
        refine z_istore_n (ls' := [zr 98, zi a1, zi 0, zi 0, zu]) dX12_days_44 rfl (by decide) rfl ?_
        exact k2 h1 h2 h3
      · skip
        exact J24 (Or.inr (Or.inr ⟨h1, h2, h3⟩))
set_option maxRecDepth 20000 in
set_option maxHeartbeats 1000000 in
theorem TX12_days_45 {G : zG} {σ : zS} {Q : Int → zS → Prop} {v1 v2 v3 : Int}  (k1 : (σ 98 4 ≤ v3) → zR G MX12_days 160 [zr 98, zi v1, zi v2, zi 0, zu] [] σ Q) (k2 : (v3 < σ 98 4) → (0 : Int) ≤ v3 ∧ v3 < (12 : Int)) (k3 : (v3 < σ 98 4) → (σ 130 v3 ≠ (-1)) → zO G MX12_mayHold [zr 98, zi (σ 130 v3), zi (σ 129 v3)] σ (fun rr σ' => zR G MX12_days 82 [zr 98, zi v1, zi v2, zi v3, zu] [zi rr] σ' Q)) (k4 : (v3 < σ 98 4) → (σ 130 v3 = (-1)) → -2147483648 ≤ v3 + 1 ∧ v3 + 1 < (2147483648 : Int)) (k5 : (v3 < σ 98 4) → (σ 130 v3 = (-1)) → zR G MX12_days 45 [zr 98, zi v1, zi v2, zi (v3 + 1), zu] [] σ Q) : zR G MX12_days 45 [zr 98, zi v1, zi v2, zi v3, zu] [] σ Q := by
  have J152 : (v3 < σ 98 4) → (σ 130 v3 = (-1)) → zR G MX12_days 152 [zr 98, zi v1, zi v2, zi v3, zu] [] σ Q := by
    intro h1 h2
    have s4 : -2147483648 ≤ v3 + 1 ∧ v3 + 1 < (2147483648 : Int) := k4 h1 h2
    refine z_iincN (ls' := [zr 98, zi v1, zi v2, zi (v3 + 1), zu]) dX12_days_152 rfl (by decide) s4 rfl ?_
    refine z_goto dX12_days_155 (tgt := 45) (by decide) ?_
    exact k5 h1 h2
  refine z_iload_n dX12_days_45 rfl rfl ?_
  refine z_aload_n dX12_days_46 rfl rfl ?_
  refine z_getfI (k := 4) flRX12_259 rfl rfl dX12_days_47 ?_
  refine z_icmp_ge dX12_days_50 (tgt := 158) (by decide) (fun h1 => ?_) (fun h1 => ?_)
  · skip
    refine z_iconst dX12_days_158 (by unfold zIn; decide) ?_
    refine z_istore_n (ls' := [zr 98, zi v1, zi v2, zi 0, zu]) dX12_days_159 rfl (by decide) rfl ?_
    exact k1 h1
  · skip
    refine z_aload_n dX12_days_53 rfl rfl ?_
    refine z_getfR (k := 45) flRX12_109 rfl rfl dX12_days_54 ?_
    refine z_iload_n dX12_days_57 rfl rfl ?_
    have s2 : (0 : Int) ≤ v3 ∧ v3 < (12 : Int) := k2 h1
    refine z_iald rfl s2.1 s2.2 dX12_days_58 ?_
    refine z_iconst dX12_days_59 (by unfold zIn; decide) ?_
    refine z_icmp_ne dX12_days_60 (tgt := 66) (by decide) (fun h2 => ?_) (fun h2 => ?_)
    · skip
      refine z_aload_n dX12_days_66 rfl rfl ?_
      refine z_aload_n dX12_days_67 rfl rfl ?_
      refine z_getfR (k := 45) flRX12_109 rfl rfl dX12_days_68 ?_
      refine z_iload_n dX12_days_71 rfl rfl ?_
      refine z_iald rfl s2.1 s2.2 dX12_days_72 ?_
      refine z_aload_n dX12_days_73 rfl rfl ?_
      refine z_getfR (k := 44) flRX12_106 rfl rfl dX12_days_74 ?_
      refine z_iload_n dX12_days_77 rfl rfl ?_
      refine z_iald rfl s2.1 s2.2 dX12_days_78 ?_
      refine z_callv (as := [zi (σ 130 v3), zi (σ 129 v3)]) (st := []) mkX12_mayHold lkRX12_371 rfl rfl rfl (by decide) (Nat.le_of_ble_eq_true rfl) rfl dX12_days_79 (k3 h1 h2)
    · skip
      refine z_goto dX12_days_63 (tgt := 152) (by decide) ?_
      exact J152 h1 h2
set_option maxRecDepth 20000 in
set_option maxHeartbeats 1000000 in
theorem TX12_days_82 {G : zG} {σ : zS} {Q : Int → zS → Prop} {v1 v2 v3 r : Int}  (k1 : (r = 0) → (0 : Int) ≤ v3 ∧ v3 < (12 : Int)) (k2 : (r ≠ 0) → (0 : Int) ≤ v3 ∧ v3 < (12 : Int)) (k3 : (r = 0) → (σ 132 v3 ≠ (-1)) → (0 : Int) ≤ v3 ∧ v3 < (12 : Int)) (k4 : (r = 0) → (σ 132 v3 ≠ (-1)) → (σ 132 v3 ≠ (-1)) → -2147483648 ≤ σ 98 0 - σ 132 v3 ∧ σ 98 0 - σ 132 v3 < (2147483648 : Int)) (k5 : (r = 0) → (σ 132 v3 ≠ (-1)) → (σ 132 v3 ≠ (-1)) → (σ 98 11 ≤ σ 98 0 - σ 132 v3) → zO G MX12_ends [zr 98, zi v3, zi 1] σ (fun rr σ' => zR G MX12_days 149 [zr 98, zi v1, zi v2, zi v3, zu] [] σ' Q)) (k6 : (r = 0) → (σ 132 v3 = (-1)) → (0 : Int) ≤ v3 ∧ v3 < (12 : Int)) (k7 : (r = 0) → (σ 132 v3 = (-1)) → ((zup σ 132 v3 (σ 98 0)) 132 v3 ≠ (-1)) → -2147483648 ≤ (zup σ 132 v3 (σ 98 0)) 98 0 - (zup σ 132 v3 (σ 98 0)) 132 v3 ∧ (zup σ 132 v3 (σ 98 0)) 98 0 - (zup σ 132 v3 (σ 98 0)) 132 v3 < (2147483648 : Int)) (k8 : (r = 0) → (σ 132 v3 = (-1)) → ((zup σ 132 v3 (σ 98 0)) 132 v3 ≠ (-1)) → ((zup σ 132 v3 (σ 98 0)) 98 11 ≤ (zup σ 132 v3 (σ 98 0)) 98 0 - (zup σ 132 v3 (σ 98 0)) 132 v3) → zO G MX12_ends [zr 98, zi v3, zi 1] (zup σ 132 v3 (σ 98 0)) (fun rr σ' => zR G MX12_days 149 [zr 98, zi v1, zi v2, zi v3, zu] [] σ' Q)) (k9 : (r ≠ 0) → (0 : Int) ≤ v3 ∧ v3 < (12 : Int)) (k10 : (r ≠ 0) → ((zup σ 132 v3 (-1)) 132 v3 ≠ (-1)) → -2147483648 ≤ ((zup σ 132 v3 (-1)) 98 0) - ((zup σ 132 v3 (-1)) 132 v3) ∧ ((zup σ 132 v3 (-1)) 98 0) - ((zup σ 132 v3 (-1)) 132 v3) < (2147483648 : Int)) (k11 : (r ≠ 0) → ((zup σ 132 v3 (-1)) 132 v3 ≠ (-1)) → ((zup σ 132 v3 (-1)) 98 11 ≤ ((zup σ 132 v3 (-1)) 98 0) - ((zup σ 132 v3 (-1)) 132 v3)) → zO G MX12_ends [zr 98, zi v3, zi 1] (zup σ 132 v3 (-1)) (fun rr σ' => zR G MX12_days 149 [zr 98, zi v1, zi v2, zi v3, zu] [] σ' Q)) (k12 : (r = 0) → (σ 132 v3 ≠ (-1)) → (σ 132 v3 = (-1) ∨ (σ 132 v3 ≠ (-1) ∧ σ 98 0 - σ 132 v3 < σ 98 11)) → -2147483648 ≤ v3 + 1 ∧ v3 + 1 < (2147483648 : Int)) (k13 : (r = 0) → (σ 132 v3 ≠ (-1)) → (σ 132 v3 = (-1) ∨ (σ 132 v3 ≠ (-1) ∧ σ 98 0 - σ 132 v3 < σ 98 11)) → zR G MX12_days 45 [zr 98, zi v1, zi v2, zi (v3 + 1), zu] [] σ Q) (k14 : (r = 0) → (σ 132 v3 = (-1)) → ((zup σ 132 v3 (σ 98 0)) 132 v3 = (-1) ∨ ((zup σ 132 v3 (σ 98 0)) 132 v3 ≠ (-1) ∧ (zup σ 132 v3 (σ 98 0)) 98 0 - (zup σ 132 v3 (σ 98 0)) 132 v3 < (zup σ 132 v3 (σ 98 0)) 98 11)) → -2147483648 ≤ v3 + 1 ∧ v3 + 1 < (2147483648 : Int)) (k15 : (r = 0) → (σ 132 v3 = (-1)) → ((zup σ 132 v3 (σ 98 0)) 132 v3 = (-1) ∨ ((zup σ 132 v3 (σ 98 0)) 132 v3 ≠ (-1) ∧ (zup σ 132 v3 (σ 98 0)) 98 0 - (zup σ 132 v3 (σ 98 0)) 132 v3 < (zup σ 132 v3 (σ 98 0)) 98 11)) → zR G MX12_days 45 [zr 98, zi v1, zi v2, zi (v3 + 1), zu] [] (zup σ 132 v3 (σ 98 0)) Q) (k16 : (r ≠ 0) → ((zup σ 132 v3 (-1)) 132 v3 = (-1) ∨ ((zup σ 132 v3 (-1)) 132 v3 ≠ (-1) ∧ ((zup σ 132 v3 (-1)) 98 0) - ((zup σ 132 v3 (-1)) 132 v3) < (zup σ 132 v3 (-1)) 98 11)) → -2147483648 ≤ v3 + 1 ∧ v3 + 1 < (2147483648 : Int)) (k17 : (r ≠ 0) → ((zup σ 132 v3 (-1)) 132 v3 = (-1) ∨ ((zup σ 132 v3 (-1)) 132 v3 ≠ (-1) ∧ ((zup σ 132 v3 (-1)) 98 0) - ((zup σ 132 v3 (-1)) 132 v3) < (zup σ 132 v3 (-1)) 98 11)) → zR G MX12_days 45 [zr 98, zi v1, zi v2, zi (v3 + 1), zu] [] (zup σ 132 v3 (-1)) Q) : zR G MX12_days 82 [zr 98, zi v1, zi v2, zi v3, zu] [zi r] σ Q := by
  have J152_2 : (r ≠ 0) → ((zup σ 132 v3 (-1)) 132 v3 = (-1) ∨ ((zup σ 132 v3 (-1)) 132 v3 ≠ (-1) ∧ ((zup σ 132 v3 (-1)) 98 0) - ((zup σ 132 v3 (-1)) 132 v3) < (zup σ 132 v3 (-1)) 98 11)) → zR G MX12_days 152 [zr 98, zi v1, zi v2, zi v3, zu] [] (zup σ 132 v3 (-1)) Q := by
    intro h1 h11
    have s16 : -2147483648 ≤ v3 + 1 ∧ v3 + 1 < (2147483648 : Int) := k16 h1 h11
    refine z_iincN (ls' := [zr 98, zi v1, zi v2, zi (v3 + 1), zu]) dX12_days_152 rfl (by decide) s16 rfl ?_
    refine z_goto dX12_days_155 (tgt := 45) (by decide) ?_
    exact k17 h1 h11
  have J152_1 : (r = 0) → (σ 132 v3 = (-1)) → ((zup σ 132 v3 (σ 98 0)) 132 v3 = (-1) ∨ ((zup σ 132 v3 (σ 98 0)) 132 v3 ≠ (-1) ∧ (zup σ 132 v3 (σ 98 0)) 98 0 - (zup σ 132 v3 (σ 98 0)) 132 v3 < (zup σ 132 v3 (σ 98 0)) 98 11)) → zR G MX12_days 152 [zr 98, zi v1, zi v2, zi v3, zu] [] (zup σ 132 v3 (σ 98 0)) Q := by
    intro h1 h2 h10
    have s14 : -2147483648 ≤ v3 + 1 ∧ v3 + 1 < (2147483648 : Int) := k14 h1 h2 h10
    refine z_iincN (ls' := [zr 98, zi v1, zi v2, zi (v3 + 1), zu]) dX12_days_152 rfl (by decide) s14 rfl ?_
    refine z_goto dX12_days_155 (tgt := 45) (by decide) ?_
    exact k15 h1 h2 h10
  have J152 : (r = 0) → (σ 132 v3 ≠ (-1)) → (σ 132 v3 = (-1) ∨ (σ 132 v3 ≠ (-1) ∧ σ 98 0 - σ 132 v3 < σ 98 11)) → zR G MX12_days 152 [zr 98, zi v1, zi v2, zi v3, zu] [] σ Q := by
    intro h1 h2 h9
    have s12 : -2147483648 ≤ v3 + 1 ∧ v3 + 1 < (2147483648 : Int) := k12 h1 h2 h9
    refine z_iincN (ls' := [zr 98, zi v1, zi v2, zi (v3 + 1), zu]) dX12_days_152 rfl (by decide) s12 rfl ?_
    refine z_goto dX12_days_155 (tgt := 45) (by decide) ?_
    exact k13 h1 h2 h9
  have J115_2 : (r ≠ 0) → zR G MX12_days 115 [zr 98, zi v1, zi v2, zi v3, zu] [] (zup σ 132 v3 (-1)) Q := by
    intro h1
    refine z_aload_n dX12_days_115 rfl rfl ?_
    refine z_getfR (k := 47) flRX12_115 rfl rfl dX12_days_116 ?_
    refine z_iload_n dX12_days_119 rfl rfl ?_
    have s9 : (0 : Int) ≤ v3 ∧ v3 < (12 : Int) := k9 h1
    refine z_iald rfl s9.1 s9.2 dX12_days_120 ?_
    refine z_iconst dX12_days_121 (by unfold zIn; decide) ?_
    refine z_icmp_eq dX12_days_122 (tgt := 152) (by decide) (fun h7 => ?_) (fun h7 => ?_)
    · skip
      exact J152_2 h1 (Or.inl h7)
    · skip
      refine z_aload_n dX12_days_125 rfl rfl ?_
      refine z_getfI (k := 0) flRX12_262 rfl rfl dX12_days_126 ?_
      refine z_aload_n dX12_days_129 rfl rfl ?_
      refine z_getfR (k := 47) flRX12_115 rfl rfl dX12_days_130 ?_
      refine z_iload_n dX12_days_133 rfl rfl ?_
      refine z_iald rfl s9.1 s9.2 dX12_days_134 ?_
      have s10 : -2147483648 ≤ ((zup σ 132 v3 (-1)) 98 0) - ((zup σ 132 v3 (-1)) 132 v3) ∧ ((zup σ 132 v3 (-1)) 98 0) - ((zup σ 132 v3 (-1)) 132 v3) < (2147483648 : Int) := k10 h1 h7
      refine z_isubN dX12_days_135 s10 ?_
      refine z_aload_n dX12_days_136 rfl rfl ?_
      refine z_getfI (k := 11) flRX12_7 rfl rfl dX12_days_137 ?_
      refine z_icmp_lt dX12_days_140 (tgt := 152) (by decide) (fun h8 => ?_) (fun h8 => ?_)
      · skip
        exact J152_2 h1 (Or.inr ⟨h7, h8⟩)
      · skip
        refine z_aload_n dX12_days_143 rfl rfl ?_
        refine z_iload_n dX12_days_144 rfl rfl ?_
        refine z_iconst dX12_days_145 (by unfold zIn; decide) ?_
        refine z_callv (as := [zi v3, zi 1]) (st := []) mkX12_ends lkRX12_382 rfl rfl rfl (by decide) (Nat.le_of_ble_eq_true rfl) rfl dX12_days_146 (k11 h1 h7 h8)
  have J115_1 : (r = 0) → (σ 132 v3 = (-1)) → zR G MX12_days 115 [zr 98, zi v1, zi v2, zi v3, zu] [] (zup σ 132 v3 (σ 98 0)) Q := by
    intro h1 h2
    refine z_aload_n dX12_days_115 rfl rfl ?_
    refine z_getfR (k := 47) flRX12_115 rfl rfl dX12_days_116 ?_
    refine z_iload_n dX12_days_119 rfl rfl ?_
    have s6 : (0 : Int) ≤ v3 ∧ v3 < (12 : Int) := k6 h1 h2
    refine z_iald rfl s6.1 s6.2 dX12_days_120 ?_
    refine z_iconst dX12_days_121 (by unfold zIn; decide) ?_
    refine z_icmp_eq dX12_days_122 (tgt := 152) (by decide) (fun h5 => ?_) (fun h5 => ?_)
    · skip
      exact J152_1 h1 h2 (Or.inl h5)
    · skip
      refine z_aload_n dX12_days_125 rfl rfl ?_
      refine z_getfI (k := 0) flRX12_262 rfl rfl dX12_days_126 ?_
      refine z_aload_n dX12_days_129 rfl rfl ?_
      refine z_getfR (k := 47) flRX12_115 rfl rfl dX12_days_130 ?_
      refine z_iload_n dX12_days_133 rfl rfl ?_
      refine z_iald rfl s6.1 s6.2 dX12_days_134 ?_
      have s7 : -2147483648 ≤ (zup σ 132 v3 (σ 98 0)) 98 0 - (zup σ 132 v3 (σ 98 0)) 132 v3 ∧ (zup σ 132 v3 (σ 98 0)) 98 0 - (zup σ 132 v3 (σ 98 0)) 132 v3 < (2147483648 : Int) := k7 h1 h2 h5
      refine z_isubN dX12_days_135 s7 ?_
      refine z_aload_n dX12_days_136 rfl rfl ?_
      refine z_getfI (k := 11) flRX12_7 rfl rfl dX12_days_137 ?_
      refine z_icmp_lt dX12_days_140 (tgt := 152) (by decide) (fun h6 => ?_) (fun h6 => ?_)
      · skip
        exact J152_1 h1 h2 (Or.inr ⟨h5, h6⟩)
      · skip
        refine z_aload_n dX12_days_143 rfl rfl ?_
        refine z_iload_n dX12_days_144 rfl rfl ?_
        refine z_iconst dX12_days_145 (by unfold zIn; decide) ?_
        refine z_callv (as := [zi v3, zi 1]) (st := []) mkX12_ends lkRX12_382 rfl rfl rfl (by decide) (Nat.le_of_ble_eq_true rfl) rfl dX12_days_146 (k8 h1 h2 h5 h6)
  have J115 : (r = 0) → (σ 132 v3 ≠ (-1)) → zR G MX12_days 115 [zr 98, zi v1, zi v2, zi v3, zu] [] σ Q := by
    intro h1 h2
    refine z_aload_n dX12_days_115 rfl rfl ?_
    refine z_getfR (k := 47) flRX12_115 rfl rfl dX12_days_116 ?_
    refine z_iload_n dX12_days_119 rfl rfl ?_
    have s3 : (0 : Int) ≤ v3 ∧ v3 < (12 : Int) := k3 h1 h2
    refine z_iald rfl s3.1 s3.2 dX12_days_120 ?_
    refine z_iconst dX12_days_121 (by unfold zIn; decide) ?_
    refine z_icmp_eq dX12_days_122 (tgt := 152) (by decide) (fun h3 => ?_) (fun h3 => ?_)
    · skip
      exact J152 h1 h2 (Or.inl h3)
    · skip
      refine z_aload_n dX12_days_125 rfl rfl ?_
      refine z_getfI (k := 0) flRX12_262 rfl rfl dX12_days_126 ?_
      refine z_aload_n dX12_days_129 rfl rfl ?_
      refine z_getfR (k := 47) flRX12_115 rfl rfl dX12_days_130 ?_
      refine z_iload_n dX12_days_133 rfl rfl ?_
      refine z_iald rfl s3.1 s3.2 dX12_days_134 ?_
      have s4 : -2147483648 ≤ σ 98 0 - σ 132 v3 ∧ σ 98 0 - σ 132 v3 < (2147483648 : Int) := k4 h1 h2 h3
      refine z_isubN dX12_days_135 s4 ?_
      refine z_aload_n dX12_days_136 rfl rfl ?_
      refine z_getfI (k := 11) flRX12_7 rfl rfl dX12_days_137 ?_
      refine z_icmp_lt dX12_days_140 (tgt := 152) (by decide) (fun h4 => ?_) (fun h4 => ?_)
      · skip
        exact J152 h1 h2 (Or.inr ⟨h3, h4⟩)
      · skip
        refine z_aload_n dX12_days_143 rfl rfl ?_
        refine z_iload_n dX12_days_144 rfl rfl ?_
        refine z_iconst dX12_days_145 (by unfold zIn; decide) ?_
        refine z_callv (as := [zi v3, zi 1]) (st := []) mkX12_ends lkRX12_382 rfl rfl rfl (by decide) (Nat.le_of_ble_eq_true rfl) rfl dX12_days_146 (k5 h1 h2 h3 h4)
  refine z_if_eq dX12_days_82 (tgt := 95) (by decide) (fun h1 => ?_) (fun h1 => ?_)
  · skip
    refine z_aload_n dX12_days_95 rfl rfl ?_
    refine z_getfR (k := 47) flRX12_115 rfl rfl dX12_days_96 ?_
    refine z_iload_n dX12_days_99 rfl rfl ?_
    have s1 : (0 : Int) ≤ v3 ∧ v3 < (12 : Int) := k1 h1
    refine z_iald rfl s1.1 s1.2 dX12_days_100 ?_
    refine z_iconst dX12_days_101 (by unfold zIn; decide) ?_
    refine z_icmp_ne dX12_days_102 (tgt := 115) (by decide) (fun h2 => ?_) (fun h2 => ?_)
    · skip
      exact J115 h1 h2
    · skip
      refine z_aload_n dX12_days_105 rfl rfl ?_
      refine z_getfR (k := 47) flRX12_115 rfl rfl dX12_days_106 ?_
      refine z_iload_n dX12_days_109 rfl rfl ?_
      refine z_aload_n dX12_days_110 rfl rfl ?_
      refine z_getfI (k := 0) flRX12_262 rfl rfl dX12_days_111 ?_
      refine z_iast rfl s1.1 s1.2 dX12_days_114 ?_
      exact J115_1 h1 h2
  · skip
    refine z_aload_n dX12_days_85 rfl rfl ?_
    refine z_getfR (k := 47) flRX12_115 rfl rfl dX12_days_86 ?_
    refine z_iload_n dX12_days_89 rfl rfl ?_
    refine z_iconst dX12_days_90 (by unfold zIn; decide) ?_
    have s2 : (0 : Int) ≤ v3 ∧ v3 < (12 : Int) := k2 h1
    refine z_iast rfl s2.1 s2.2 dX12_days_91 ?_
    refine z_goto dX12_days_92 (tgt := 115) (by decide) ?_
    exact J115_2 h1
set_option maxRecDepth 20000 in
set_option maxHeartbeats 1000000 in
theorem TX12_days_149 {G : zG} {σ : zS} {Q : Int → zS → Prop} {v1 v2 v3 : Int}  (k1 : -2147483648 ≤ v2 + 1 ∧ v2 + 1 < (2147483648 : Int)) (k2 : -2147483648 ≤ v3 + 1 ∧ v3 + 1 < (2147483648 : Int)) (k3 : zR G MX12_days 45 [zr 98, zi v1, zi (v2 + 1), zi (v3 + 1), zu] [] σ Q) : zR G MX12_days 149 [zr 98, zi v1, zi v2, zi v3, zu] [] σ Q := by
  have J152 : zR G MX12_days 152 [zr 98, zi v1, zi (v2 + 1), zi v3, zu] [] σ Q := by
    have s2 : -2147483648 ≤ v3 + 1 ∧ v3 + 1 < (2147483648 : Int) := k2
    refine z_iincN (ls' := [zr 98, zi v1, zi (v2 + 1), zi (v3 + 1), zu]) dX12_days_152 rfl (by decide) s2 rfl ?_
    refine z_goto dX12_days_155 (tgt := 45) (by decide) ?_
    exact k3
  have s1 : -2147483648 ≤ v2 + 1 ∧ v2 + 1 < (2147483648 : Int) := k1
  refine z_iincN (ls' := [zr 98, zi v1, zi (v2 + 1), zi v3, zu]) dX12_days_149 rfl (by decide) s1 rfl ?_
  exact J152
set_option maxRecDepth 20000 in
set_option maxHeartbeats 1000000 in
theorem TX12_days_160 {G : zG} {σ : zS} {Q : Int → zS → Prop} {v1 v2 v3 : Int}  (k1 : (σ 98 4 ≤ v3) → Q v2 σ) (k2 : (v3 < σ 98 4) → (0 : Int) ≤ v3 ∧ v3 < (12 : Int)) (k3 : (v3 < σ 98 4) → (σ 129 v3 = 1) → (σ 130 v3 ≠ (-1)) → zO G MX12_placeHeld [zr 98, zi (σ 130 v3), zi 3] σ (fun rr σ' => zR G MX12_days 202 [zr 98, zi v1, zi v2, zi v3, zu] [zi rr] σ' Q)) (k4 : (v3 < σ 98 4) → (σ 129 v3 ≠ 1 ∨ (σ 129 v3 = 1 ∧ σ 130 v3 = (-1))) → -2147483648 ≤ v3 + 1 ∧ v3 + 1 < (2147483648 : Int)) (k5 : (v3 < σ 98 4) → (σ 129 v3 ≠ 1 ∨ (σ 129 v3 = 1 ∧ σ 130 v3 = (-1))) → zR G MX12_days 160 [zr 98, zi v1, zi v2, zi (v3 + 1), zu] [] σ Q) : zR G MX12_days 160 [zr 98, zi v1, zi v2, zi v3, zu] [] σ Q := by
  have J238 : (v3 < σ 98 4) → (σ 129 v3 ≠ 1 ∨ (σ 129 v3 = 1 ∧ σ 130 v3 = (-1))) → zR G MX12_days 238 [zr 98, zi v1, zi v2, zi v3, zu] [] σ Q := by
    intro h1 h4
    have s4 : -2147483648 ≤ v3 + 1 ∧ v3 + 1 < (2147483648 : Int) := k4 h1 h4
    refine z_iincN (ls' := [zr 98, zi v1, zi v2, zi (v3 + 1), zu]) dX12_days_238 rfl (by decide) s4 rfl ?_
    refine z_goto dX12_days_241 (tgt := 160) (by decide) ?_
    exact k5 h1 h4
  refine z_iload_n dX12_days_160 rfl rfl ?_
  refine z_aload_n dX12_days_161 rfl rfl ?_
  refine z_getfI (k := 4) flRX12_259 rfl rfl dX12_days_162 ?_
  refine z_icmp_ge dX12_days_165 (tgt := 244) (by decide) (fun h1 => ?_) (fun h1 => ?_)
  · skip
    refine z_iload_n dX12_days_244 rfl rfl ?_
    exact z_ireti rfl dX12_days_245 (k1 h1)
  · skip
    refine z_aload_n dX12_days_168 rfl rfl ?_
    refine z_getfR (k := 44) flRX12_106 rfl rfl dX12_days_169 ?_
    refine z_iload_n dX12_days_172 rfl rfl ?_
    have s2 : (0 : Int) ≤ v3 ∧ v3 < (12 : Int) := k2 h1
    refine z_iald rfl s2.1 s2.2 dX12_days_173 ?_
    refine z_iconst dX12_days_174 (by unfold zIn; decide) ?_
    refine z_icmp_ne dX12_days_175 (tgt := 238) (by decide) (fun h2 => ?_) (fun h2 => ?_)
    · skip
      exact J238 h1 (Or.inl h2)
    · skip
      refine z_aload_n dX12_days_178 rfl rfl ?_
      refine z_getfR (k := 45) flRX12_109 rfl rfl dX12_days_179 ?_
      refine z_iload_n dX12_days_182 rfl rfl ?_
      refine z_iald rfl s2.1 s2.2 dX12_days_183 ?_
      refine z_iconst dX12_days_184 (by unfold zIn; decide) ?_
      refine z_icmp_ne dX12_days_185 (tgt := 191) (by decide) (fun h3 => ?_) (fun h3 => ?_)
      · skip
        refine z_aload_n dX12_days_191 rfl rfl ?_
        refine z_aload_n dX12_days_192 rfl rfl ?_
        refine z_getfR (k := 45) flRX12_109 rfl rfl dX12_days_193 ?_
        refine z_iload_n dX12_days_196 rfl rfl ?_
        refine z_iald rfl s2.1 s2.2 dX12_days_197 ?_
        refine z_iconst dX12_days_198 (by unfold zIn; decide) ?_
        refine z_callv (as := [zi (σ 130 v3), zi 3]) (st := []) mkX12_placeHeld lkRX12_375 rfl rfl rfl (by decide) (Nat.le_of_ble_eq_true rfl) rfl dX12_days_199 (k3 h1 h2 h3)
      · skip
        refine z_goto dX12_days_188 (tgt := 238) (by decide) ?_
        exact J238 h1 (Or.inr ⟨h2, h3⟩)
set_option maxRecDepth 20000 in
set_option maxHeartbeats 1000000 in
theorem TX12_days_202 {G : zG} {σ : zS} {Q : Int → zS → Prop} {v1 v2 v3 r : Int}  (k1 : (r ≠ (-1)) → (0 : Int) ≤ r ∧ r < (12 : Int)) (k2 : (r ≠ (-1)) → -2147483648 ≤ σ 98 0 - σ 131 r ∧ σ 98 0 - σ 131 r < (2147483648 : Int)) (k3 : (r ≠ (-1)) → (σ 98 11 ≤ σ 98 0 - σ 131 r) → zO G MX12_ends [zr 98, zi v3, zi 1] σ (fun rr σ' => zR G MX12_days 235 [zr 98, zi v1, zi v2, zi v3, zi r] [] σ' Q)) (k4 : (r = (-1) ∨ (r ≠ (-1) ∧ σ 98 0 - σ 131 r < σ 98 11)) → -2147483648 ≤ v3 + 1 ∧ v3 + 1 < (2147483648 : Int)) (k5 : (r = (-1) ∨ (r ≠ (-1) ∧ σ 98 0 - σ 131 r < σ 98 11)) → zR G MX12_days 160 [zr 98, zi v1, zi v2, zi (v3 + 1), zu] [] σ Q) : zR G MX12_days 202 [zr 98, zi v1, zi v2, zi v3, zu] [zi r] σ Q := by
  have J238 : (r = (-1) ∨ (r ≠ (-1) ∧ σ 98 0 - σ 131 r < σ 98 11)) → zR G MX12_days 238 [zr 98, zi v1, zi v2, zi v3, zi r] [] σ Q := by
    intro h3
    have s4 : -2147483648 ≤ v3 + 1 ∧ v3 + 1 < (2147483648 : Int) := k4 h3
    refine z_iincN (ls' := [zr 98, zi v1, zi v2, zi (v3 + 1), zi r]) dX12_days_238 rfl (by decide) s4 rfl ?_
    refine z_goto dX12_days_241 (tgt := 160) (by decide) ?_
    exact zR_fg [false, false, false, false, true] (k5 h3)
  refine z_istore (ls' := [zr 98, zi v1, zi v2, zi v3, zi r]) dX12_days_202 (by decide) rfl ?_
  refine z_iload dX12_days_204 rfl ?_
  refine z_iconst dX12_days_206 (by unfold zIn; decide) ?_
  refine z_icmp_eq dX12_days_207 (tgt := 238) (by decide) (fun h1 => ?_) (fun h1 => ?_)
  · skip
    exact J238 (Or.inl h1)
  · skip
    refine z_aload_n dX12_days_210 rfl rfl ?_
    refine z_getfI (k := 0) flRX12_262 rfl rfl dX12_days_211 ?_
    refine z_aload_n dX12_days_214 rfl rfl ?_
    refine z_getfR (k := 46) flRX12_112 rfl rfl dX12_days_215 ?_
    refine z_iload dX12_days_218 rfl ?_
    have s1 : (0 : Int) ≤ r ∧ r < (12 : Int) := k1 h1
    refine z_iald rfl s1.1 s1.2 dX12_days_220 ?_
    have s2 : -2147483648 ≤ σ 98 0 - σ 131 r ∧ σ 98 0 - σ 131 r < (2147483648 : Int) := k2 h1
    refine z_isubN dX12_days_221 s2 ?_
    refine z_aload_n dX12_days_222 rfl rfl ?_
    refine z_getfI (k := 11) flRX12_7 rfl rfl dX12_days_223 ?_
    refine z_icmp_lt dX12_days_226 (tgt := 238) (by decide) (fun h2 => ?_) (fun h2 => ?_)
    · skip
      exact J238 (Or.inr ⟨h1, h2⟩)
    · skip
      refine z_aload_n dX12_days_229 rfl rfl ?_
      refine z_iload_n dX12_days_230 rfl rfl ?_
      refine z_iconst dX12_days_231 (by unfold zIn; decide) ?_
      refine z_callv (as := [zi v3, zi 1]) (st := []) mkX12_ends lkRX12_382 rfl rfl rfl (by decide) (Nat.le_of_ble_eq_true rfl) rfl dX12_days_232 (k3 h1 h2)
set_option maxRecDepth 20000 in
set_option maxHeartbeats 1000000 in
theorem TX12_days_235 {G : zG} {σ : zS} {Q : Int → zS → Prop} {v1 v2 v3 v4 : Int}  (k1 : -2147483648 ≤ v2 + 1 ∧ v2 + 1 < (2147483648 : Int)) (k2 : -2147483648 ≤ v3 + 1 ∧ v3 + 1 < (2147483648 : Int)) (k3 : zR G MX12_days 160 [zr 98, zi v1, zi (v2 + 1), zi (v3 + 1), zu] [] σ Q) : zR G MX12_days 235 [zr 98, zi v1, zi v2, zi v3, zi v4] [] σ Q := by
  have J238 : zR G MX12_days 238 [zr 98, zi v1, zi (v2 + 1), zi v3, zi v4] [] σ Q := by
    have s2 : -2147483648 ≤ v3 + 1 ∧ v3 + 1 < (2147483648 : Int) := k2
    refine z_iincN (ls' := [zr 98, zi v1, zi (v2 + 1), zi (v3 + 1), zi v4]) dX12_days_238 rfl (by decide) s2 rfl ?_
    refine z_goto dX12_days_241 (tgt := 160) (by decide) ?_
    exact zR_fg [false, false, false, false, true] (k3)
  have s1 : -2147483648 ≤ v2 + 1 ∧ v2 + 1 < (2147483648 : Int) := k1
  refine z_iincN (ls' := [zr 98, zi v1, zi (v2 + 1), zi v3, zi v4]) dX12_days_235 rfl (by decide) s1 rfl ?_
  exact J238
