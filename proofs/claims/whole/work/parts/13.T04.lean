set_option maxRecDepth 20000 in
set_option maxHeartbeats 1000000 in
theorem TX9_hasStretch {G : zG} {σ : zS} {Q : Int → zS → Prop} {a1 a2 : Int} {t te : Nat} (ht : zsh t = (4, 9, [some te, none, none, none])) (hte : zsh te = (2, 80, [])) (k1 : (0 ≤ a1) → (a1 ≤ σ t 2) → -2147483648 ≤ σ t 2 - a1 ∧ σ t 2 - a1 < (2147483648 : Int)) (k2 : (0 ≤ a1) → (a1 ≤ σ t 2) → (a2 ≤ σ t 2 - a1) → Q 1 σ) (k3 : (a1 < 0 ∨ (0 ≤ a1 ∧ σ t 2 < a1) ∨ (0 ≤ a1 ∧ a1 ≤ σ t 2 ∧ σ t 2 - a1 < a2)) → Q 0 σ) : zO G MX9_hasStretch [zr t, zi a1, zi a2] σ Q := by
  refine zO_of (ls0 := [zr t, zi a1, zi a2]) (by decide) (Nat.le_of_ble_eq_true rfl) rfl ?_
  have J26 : (a1 < 0 ∨ (0 ≤ a1 ∧ σ t 2 < a1) ∨ (0 ≤ a1 ∧ a1 ≤ σ t 2 ∧ σ t 2 - a1 < a2)) → zR G MX9_hasStretch 26 [zr t, zi a1, zi a2] [] σ Q := by
    intro h4
    refine z_iconst dX9_hasStretch_26 (by unfold zIn; decide) ?_
    exact z_iretz rfl (by decide) dX9_hasStretch_27 (k3 h4)
  refine z_iload_n dX9_hasStretch_0 rfl rfl ?_
  refine z_if_lt dX9_hasStretch_1 (tgt := 26) (by decide) (fun h1 => ?_) (fun h1 => ?_)
  · skip
    exact J26 (Or.inl h1)
  · skip
    refine z_iload_n dX9_hasStretch_4 rfl rfl ?_
    refine z_aload_n dX9_hasStretch_5 rfl rfl ?_
    refine z_getfI (k := 2) flRX9_19 ht rfl dX9_hasStretch_6 ?_
    refine z_icmp_gt dX9_hasStretch_9 (tgt := 26) (by decide) (fun h2 => ?_) (fun h2 => ?_)
    · skip
      exact J26 (Or.inr (Or.inl ⟨h1, h2⟩))
    · skip
      refine z_iload_n dX9_hasStretch_12 rfl rfl ?_
      refine z_aload_n dX9_hasStretch_13 rfl rfl ?_
      refine z_getfI (k := 2) flRX9_19 ht rfl dX9_hasStretch_14 ?_
      refine z_iload_n dX9_hasStretch_17 rfl rfl ?_
      have s1 : -2147483648 ≤ σ t 2 - a1 ∧ σ t 2 - a1 < (2147483648 : Int) := k1 h1 h2
      refine z_isubN dX9_hasStretch_18 s1 ?_
      refine z_icmp_gt dX9_hasStretch_19 (tgt := 26) (by decide) (fun h3 => ?_) (fun h3 => ?_)
      · skip
        exact J26 (Or.inr (Or.inr ⟨h1, h2, h3⟩))
      · skip
        refine z_iconst dX9_hasStretch_22 (by unfold zIn; decide) ?_
        refine z_goto dX9_hasStretch_23 (tgt := 27) (by decide) ?_
        exact z_iretz rfl (by decide) dX9_hasStretch_27 (k2 h1 h2 h3)
set_option maxRecDepth 20000 in
set_option maxHeartbeats 1000000 in
theorem TX11_copy {G : zG} {σ : zS} {Q : Int → zS → Prop} {a1 a2 a3 a4 a5 : Int}  (k1 : zO G MX11_rowTrouble [zr 0, zi a1] σ (fun rr σ' => zR G MX11_copy 5 [zr 0, zi a1, zi a2, zi a3, zi a4, zi a5, zu, zu, zu] [zi rr] σ' Q)) : zO G MX11_copy [zr 0, zi a1, zi a2, zi a3, zi a4, zi a5] σ Q := by
  refine zO_of (ls0 := [zr 0, zi a1, zi a2, zi a3, zi a4, zi a5, zu, zu, zu]) (by decide) (Nat.le_of_ble_eq_true rfl) rfl ?_
  refine z_aload_n dX11_copy_0 rfl rfl ?_
  refine z_iload_n dX11_copy_1 rfl rfl ?_
  refine z_callv (as := [zi a1]) (st := []) mkX11_rowTrouble lkRX11_198 rfl rfl rfl (by decide) (Nat.le_of_ble_eq_true rfl) rfl dX11_copy_2 (k1)
set_option maxRecDepth 20000 in
set_option maxHeartbeats 1000000 in
theorem TX11_copy_5 {G : zG} {σ : zS} {Q : Int → zS → Prop} {v1 v2 v3 v4 v5 r : Int}  (k1 : zO G MX11_rowTrouble [zr 0, zi v2] σ (fun rr σ' => zR G MX11_copy 10 [zr 0, zi v1, zi v2, zi v3, zi v4, zi v5, zu, zu, zu] [zi rr, zi r] σ' Q)) : zR G MX11_copy 5 [zr 0, zi v1, zi v2, zi v3, zi v4, zi v5, zu, zu, zu] [zi r] σ Q := by
  refine z_aload_n dX11_copy_5 rfl rfl ?_
  refine z_iload_n dX11_copy_6 rfl rfl ?_
  refine z_callv (as := [zi v2]) (st := [zi r]) mkX11_rowTrouble lkRX11_198 rfl rfl rfl (by decide) (Nat.le_of_ble_eq_true rfl) rfl dX11_copy_7 (k1)
set_option maxRecDepth 20000 in
set_option maxHeartbeats 1000000 in
theorem TX11_copy_10 {G : zG} {σ : zS} {Q : Int → zS → Prop} {v1 v2 v3 v4 v5 r t1 : Int}  (k1 : zO G MX11_firstTrouble [zi t1, zi r] σ (fun rr σ' => zR G MX11_copy 13 [zr 0, zi v1, zi v2, zi v3, zi v4, zi v5, zu, zu, zu] [zi rr] σ' Q)) : zR G MX11_copy 10 [zr 0, zi v1, zi v2, zi v3, zi v4, zi v5, zu, zu, zu] [zi r, zi t1] σ Q := by
  refine z_calls (as := [zi t1, zi r]) (st := []) mkX11_firstTrouble lkRX11_208 rfl (by decide) (Nat.le_of_ble_eq_true rfl) rfl dX11_copy_10 (k1)
set_option maxRecDepth 20000 in
set_option maxHeartbeats 1000000 in
theorem TX11_copy_13 {G : zG} {σ : zS} {Q : Int → zS → Prop} {v1 v2 v3 v4 v5 r : Int}  (k1 : (r = 0) → (0 : Int) ≤ v1 ∧ v1 < (10 : Int)) (k2 : (r = 0) → (0 : Int) ≤ v2 ∧ v2 < (10 : Int)) (k3 : (r = 0) → (σ (2 + 2 * v1.toNat) 1 = σ (2 + 2 * v2.toNat) 1) → (0 ≤ v5) → zO G MX9_hasStretch [zr (2 + 2 * v1.toNat), zi v3, zi v5] σ (fun rr σ' => zR G MX11_copy 83 [zr 0, zi v1, zi v2, zi v3, zi v4, zi v5, zi r, zr (2 + 2 * v1.toNat), zr (2 + 2 * v2.toNat)] [zi rr] σ' Q)) (k4 : (r = 0) → (σ (2 + 2 * v1.toNat) 1 = σ (2 + 2 * v2.toNat) 1) → (v5 < 0) → -2147483648 ≤ -(-4) ∧ -(-4) < (2147483648 : Int)) (k5 : (r = 0) → (σ (2 + 2 * v1.toNat) 1 = σ (2 + 2 * v2.toNat) 1) → (v5 < 0) → (0 : Int) ≤ -(-4) ∧ -(-4) < (8 : Int)) (k6 : (r = 0) → (σ (2 + 2 * v1.toNat) 1 = σ (2 + 2 * v2.toNat) 1) → (v5 < 0) → Q (-4) (zup σ 97 (-(-4)) (zW ((σ 97 (-(-4))) + 1)))) (k7 : (r = 0) → (σ (2 + 2 * v1.toNat) 1 ≠ σ (2 + 2 * v2.toNat) 1) → -2147483648 ≤ -(-2) ∧ -(-2) < (2147483648 : Int)) (k8 : (r = 0) → (σ (2 + 2 * v1.toNat) 1 ≠ σ (2 + 2 * v2.toNat) 1) → (0 : Int) ≤ -(-2) ∧ -(-2) < (8 : Int)) (k9 : (r = 0) → (σ (2 + 2 * v1.toNat) 1 ≠ σ (2 + 2 * v2.toNat) 1) → Q (-2) (zup σ 97 (-(-2)) (zW ((σ 97 (-(-2))) + 1)))) (k10 : (r ≠ 0) → -2147483648 ≤ -r ∧ -r < (2147483648 : Int)) (k11 : (r ≠ 0) → (0 : Int) ≤ -r ∧ -r < (8 : Int)) (k12 : (r ≠ 0) → Q r (zup σ 97 (-r) (zW ((σ 97 (-r)) + 1)))) : zR G MX11_copy 13 [zr 0, zi v1, zi v2, zi v3, zi v4, zi v5, zu, zu, zu] [zi r] σ Q := by
  refine z_istore (ls' := [zr 0, zi v1, zi v2, zi v3, zi v4, zi v5, zi r, zu, zu]) dX11_copy_13 (by decide) rfl ?_
  refine z_iload dX11_copy_15 rfl ?_
  refine z_if_eq dX11_copy_17 (tgt := 27) (by decide) (fun h1 => ?_) (fun h1 => ?_)
  · skip
    refine z_aload_n dX11_copy_27 rfl rfl ?_
    refine z_getfR (k := 0) flRX11_11 rfl rfl dX11_copy_28 ?_
    refine z_iload_n dX11_copy_31 rfl rfl ?_
    have s1 : (0 : Int) ≤ v1 ∧ v1 < (10 : Int) := k1 h1
    refine z_aald (r := 2 + 2 * v1.toNat) rfl s1.1 s1.2 (zsh_v s1.1 s1.2) dX11_copy_32 ?_
    refine z_astore (ls' := [zr 0, zi v1, zi v2, zi v3, zi v4, zi v5, zi r, zr (2 + 2 * v1.toNat), zu]) dX11_copy_33 (by decide) rfl ?_
    refine z_aload_n dX11_copy_35 rfl rfl ?_
    refine z_getfR (k := 0) flRX11_11 rfl rfl dX11_copy_36 ?_
    refine z_iload_n dX11_copy_39 rfl rfl ?_
    have s2 : (0 : Int) ≤ v2 ∧ v2 < (10 : Int) := k2 h1
    refine z_aald (r := 2 + 2 * v2.toNat) rfl s2.1 s2.2 (zsh_v s2.1 s2.2) dX11_copy_40 ?_
    refine z_astore (ls' := [zr 0, zi v1, zi v2, zi v3, zi v4, zi v5, zi r, zr (2 + 2 * v1.toNat), zr (2 + 2 * v2.toNat)]) dX11_copy_41 (by decide) rfl ?_
    refine z_aload dX11_copy_43 rfl ?_
    refine z_getfI (k := 1) flRX11_122 (zsh_o s1.1 s1.2) rfl dX11_copy_45 ?_
    refine z_aload dX11_copy_48 rfl ?_
    refine z_getfI (k := 1) flRX11_122 (zsh_o s2.1 s2.2) rfl dX11_copy_50 ?_
    refine z_icmp_eq dX11_copy_53 (tgt := 63) (by decide) (fun h2 => ?_) (fun h2 => ?_)
    · skip
      refine z_iload dX11_copy_63 rfl ?_
      refine z_if_ge dX11_copy_65 (tgt := 75) (by decide) (fun h3 => ?_) (fun h3 => ?_)
      · skip
        refine z_aload dX11_copy_75 rfl ?_
        refine z_iload_n dX11_copy_77 rfl rfl ?_
        refine z_iload dX11_copy_78 rfl ?_
        refine z_callv (as := [zi v3, zi v5]) (st := []) mkX9_hasStretch lkRX11_211 rfl (zsh_o s1.1 s1.2) rfl (by decide) (Nat.le_of_ble_eq_true rfl) rfl dX11_copy_80 (k3 h1 h2 h3)
      · skip
        refine z_aload_n dX11_copy_68 rfl rfl ?_
        refine z_bipush (x := (-4)) dX11_copy_69 (by decide +kernel) (by unfold zIn; decide) ?_
        have s4 : -2147483648 ≤ -(-4) ∧ -(-4) < (2147483648 : Int) := k4 h1 h2 h3
        have s5 : (0 : Int) ≤ -(-4) ∧ -(-4) < (8 : Int) := k5 h1 h2 h3
        refine z_callv (as := [zi (-4)]) (st := []) mkX11_refuse lkRX11_132 rfl rfl rfl (by decide) (Nat.le_of_ble_eq_true rfl) rfl dX11_copy_71 ?_
        refine SX11_refuse s4 s5 ?_
        show zR G MX11_copy 74 [zr 0, zi v1, zi v2, zi v3, zi v4, zi v5, zi r, zr (2 + 2 * v1.toNat), zr (2 + 2 * v2.toNat)] [zi (-4)] (zup σ 97 (-(-4)) (zW ((σ 97 (-(-4))) + 1))) Q
        exact z_ireti rfl dX11_copy_74 (k6 h1 h2 h3)
    · skip
      refine z_aload_n dX11_copy_56 rfl rfl ?_
      refine z_bipush (x := (-2)) dX11_copy_57 (by decide +kernel) (by unfold zIn; decide) ?_
      have s7 : -2147483648 ≤ -(-2) ∧ -(-2) < (2147483648 : Int) := k7 h1 h2
      have s8 : (0 : Int) ≤ -(-2) ∧ -(-2) < (8 : Int) := k8 h1 h2
      refine z_callv (as := [zi (-2)]) (st := []) mkX11_refuse lkRX11_132 rfl rfl rfl (by decide) (Nat.le_of_ble_eq_true rfl) rfl dX11_copy_59 ?_
      refine SX11_refuse s7 s8 ?_
      show zR G MX11_copy 62 [zr 0, zi v1, zi v2, zi v3, zi v4, zi v5, zi r, zr (2 + 2 * v1.toNat), zr (2 + 2 * v2.toNat)] [zi (-2)] (zup σ 97 (-(-2)) (zW ((σ 97 (-(-2))) + 1))) Q
      exact z_ireti rfl dX11_copy_62 (k9 h1 h2)
  · skip
    refine z_aload_n dX11_copy_20 rfl rfl ?_
    refine z_iload dX11_copy_21 rfl ?_
    have s10 : -2147483648 ≤ -r ∧ -r < (2147483648 : Int) := k10 h1
    have s11 : (0 : Int) ≤ -r ∧ -r < (8 : Int) := k11 h1
    refine z_callv (as := [zi r]) (st := []) mkX11_refuse lkRX11_132 rfl rfl rfl (by decide) (Nat.le_of_ble_eq_true rfl) rfl dX11_copy_23 ?_
    refine SX11_refuse s10 s11 ?_
    show zR G MX11_copy 26 [zr 0, zi v1, zi v2, zi v3, zi v4, zi v5, zi r, zu, zu] [zi r] (zup σ 97 (-r) (zW ((σ 97 (-r)) + 1))) Q
    exact z_ireti rfl dX11_copy_26 (k12 h1)
set_option maxRecDepth 20000 in
set_option maxHeartbeats 1000000 in
theorem TX11_copy_83 {G : zG} {σ : zS} {Q : Int → zS → Prop} {v1 v2 v3 v4 v5 v6 r : Int} {q7 q7e q8 q8e : Nat} (hq7 : zsh q7 = (4, 9, [some q7e, none, none, none])) (hq7e : zsh q7e = (2, 80, [])) (hq8 : zsh q8 = (4, 9, [some q8e, none, none, none])) (hq8e : zsh q8e = (2, 80, [])) (k1 : (r ≠ 0) → zO G MX9_hasStretch [zr q8, zi v4, zi v5] σ (fun rr σ' => zR G MX11_copy 95 [zr 0, zi v1, zi v2, zi v3, zi v4, zi v5, zi v6, zr q7, zr q8] [zi rr] σ' Q)) (k2 : (r = 0) → -2147483648 ≤ -(-5) ∧ -(-5) < (2147483648 : Int)) (k3 : (r = 0) → (0 : Int) ≤ -(-5) ∧ -(-5) < (8 : Int)) (k4 : (r = 0) → Q (-5) (zup σ 97 (-(-5)) (zW ((σ 97 (-(-5))) + 1)))) : zR G MX11_copy 83 [zr 0, zi v1, zi v2, zi v3, zi v4, zi v5, zi v6, zr q7, zr q8] [zi r] σ Q := by
  have J98 : (r = 0) → zR G MX11_copy 98 [zr 0, zi v1, zi v2, zi v3, zi v4, zi v5, zi v6, zr q7, zr q8] [] σ Q := by
    intro h1
    refine z_aload_n dX11_copy_98 rfl rfl ?_
    refine z_bipush (x := (-5)) dX11_copy_99 (by decide +kernel) (by unfold zIn; decide) ?_
    have s2 : -2147483648 ≤ -(-5) ∧ -(-5) < (2147483648 : Int) := k2 h1
    have s3 : (0 : Int) ≤ -(-5) ∧ -(-5) < (8 : Int) := k3 h1
    refine z_callv (as := [zi (-5)]) (st := []) mkX11_refuse lkRX11_132 rfl rfl rfl (by decide) (Nat.le_of_ble_eq_true rfl) rfl dX11_copy_101 ?_
    refine SX11_refuse s2 s3 ?_
    show zR G MX11_copy 104 [zr 0, zi v1, zi v2, zi v3, zi v4, zi v5, zi v6, zr q7, zr q8] [zi (-5)] (zup σ 97 (-(-5)) (zW ((σ 97 (-(-5))) + 1))) Q
    exact z_ireti rfl dX11_copy_104 (k4 h1)
  refine z_if_eq dX11_copy_83 (tgt := 98) (by decide) (fun h1 => ?_) (fun h1 => ?_)
  · skip
    exact J98 h1
  · skip
    refine z_aload dX11_copy_86 rfl ?_
    refine z_iload dX11_copy_88 rfl ?_
    refine z_iload dX11_copy_90 rfl ?_
    refine z_callv (as := [zi v4, zi v5]) (st := []) mkX9_hasStretch lkRX11_211 rfl hq8 rfl (by decide) (Nat.le_of_ble_eq_true rfl) rfl dX11_copy_92 (k1 h1)
set_option maxRecDepth 20000 in
set_option maxHeartbeats 1000000 in
theorem TX11_copy_95 {G : zG} {σ : zS} {Q : Int → zS → Prop} {v1 v2 v3 v4 v5 v6 r : Int} {q7 q7e q8 q8e : Nat} (hq7 : zsh q7 = (4, 9, [some q7e, none, none, none])) (hq7e : zsh q7e = (2, 80, [])) (hq8 : zsh q8 = (4, 9, [some q8e, none, none, none])) (hq8e : zsh q8e = (2, 80, [])) (k1 : (r ≠ 0) → 0 ≤ v3 ∧ 0 ≤ v4 ∧ 0 ≤ v5 ∧ v3 + v5 ≤ 80 ∧ v4 + v5 ≤ 80) (k2 : (r ≠ 0) → Q 1 (zcp σ q7e v3 q8e v4 v5)) (k3 : (r = 0) → -2147483648 ≤ -(-5) ∧ -(-5) < (2147483648 : Int)) (k4 : (r = 0) → (0 : Int) ≤ -(-5) ∧ -(-5) < (8 : Int)) (k5 : (r = 0) → Q (-5) (zup σ 97 (-(-5)) (zW ((σ 97 (-(-5))) + 1)))) : zR G MX11_copy 95 [zr 0, zi v1, zi v2, zi v3, zi v4, zi v5, zi v6, zr q7, zr q8] [zi r] σ Q := by
  have J98 : (r = 0) → zR G MX11_copy 98 [zr 0, zi v1, zi v2, zi v3, zi v4, zi v5, zi v6, zr q7, zr q8] [] σ Q := by
    intro h1
    refine z_aload_n dX11_copy_98 rfl rfl ?_
    refine z_bipush (x := (-5)) dX11_copy_99 (by decide +kernel) (by unfold zIn; decide) ?_
    have s3 : -2147483648 ≤ -(-5) ∧ -(-5) < (2147483648 : Int) := k3 h1
    have s4 : (0 : Int) ≤ -(-5) ∧ -(-5) < (8 : Int) := k4 h1
    refine z_callv (as := [zi (-5)]) (st := []) mkX11_refuse lkRX11_132 rfl rfl rfl (by decide) (Nat.le_of_ble_eq_true rfl) rfl dX11_copy_101 ?_
    refine SX11_refuse s3 s4 ?_
    show zR G MX11_copy 104 [zr 0, zi v1, zi v2, zi v3, zi v4, zi v5, zi v6, zr q7, zr q8] [zi (-5)] (zup σ 97 (-(-5)) (zW ((σ 97 (-(-5))) + 1))) Q
    exact z_ireti rfl dX11_copy_104 (k5 h1)
  refine z_if_ne dX11_copy_95 (tgt := 105) (by decide) (fun h1 => ?_) (fun h1 => ?_)
  · skip
    refine z_aload dX11_copy_105 rfl ?_
    refine z_getfR (k := 0) flRX11_215 hq7 rfl dX11_copy_107 ?_
    refine z_iload_n dX11_copy_110 rfl rfl ?_
    refine z_aload dX11_copy_111 rfl ?_
    refine z_getfR (k := 0) flRX11_215 hq8 rfl dX11_copy_113 ?_
    refine z_iload dX11_copy_116 rfl ?_
    refine z_iload dX11_copy_118 rfl ?_
    have s1 : 0 ≤ v3 ∧ 0 ≤ v4 ∧ 0 ≤ v5 ∧ v3 + v5 ≤ 80 ∧ v4 + v5 ≤ 80 := k1 h1
    refine z_copyL lcRX11_219 hq7e hq8e s1.1 s1.2.1 s1.2.2.1 s1.2.2.2.1 s1.2.2.2.2 (by decide) (by decide +kernel) (Nat.le_of_ble_eq_true rfl) dX11_copy_120 ?_
    refine z_iconst dX11_copy_123 (by unfold zIn; decide) ?_
    exact z_ireti rfl dX11_copy_124 (k2 h1)
  · skip
    exact J98 h1
set_option maxRecDepth 20000 in
set_option maxHeartbeats 1000000 in
theorem TX11_element {G : zG} {σ : zS} {Q : Int → zS → Prop} {a1 a2 : Int}  (k1 : zO G MX11_rowTrouble [zr 0, zi a1] σ (fun rr σ' => zR G MX11_element 5 [zr 0, zi a1, zi a2] [zi rr] σ' Q)) : zO G MX11_element [zr 0, zi a1, zi a2] σ Q := by
  refine zO_of (ls0 := [zr 0, zi a1, zi a2]) (by decide) (Nat.le_of_ble_eq_true rfl) rfl ?_
  refine z_aload_n dX11_element_0 rfl rfl ?_
  refine z_iload_n dX11_element_1 rfl rfl ?_
  refine z_callv (as := [zi a1]) (st := []) mkX11_rowTrouble lkRX11_198 rfl rfl rfl (by decide) (Nat.le_of_ble_eq_true rfl) rfl dX11_element_2 (k1)
set_option maxRecDepth 20000 in
set_option maxHeartbeats 1000000 in
theorem TX11_element_5 {G : zG} {σ : zS} {Q : Int → zS → Prop} {v1 v2 r : Int}  (k1 : (r = 0) → (0 : Int) ≤ v1 ∧ v1 < (10 : Int)) (k2 : (r = 0) → ((0 ≤ v2 ∧ v2 < σ (2 + 2 * v1.toNat) 2)) → (0 : Int) ≤ v2 ∧ v2 < (80 : Int)) (k3 : (r = 0) → ((0 ≤ v2 ∧ v2 < σ (2 + 2 * v1.toNat) 2)) → Q (σ (3 + 2 * v1.toNat) v2) σ) (k4 : (r ≠ 0 ∨ (r = 0 ∧ (¬ ((0 ≤ v2 ∧ v2 < σ (2 + 2 * v1.toNat) 2))))) → Q 0 σ) : zR G MX11_element 5 [zr 0, zi v1, zi v2] [zi r] σ Q := by
  have J35 : (r ≠ 0 ∨ (r = 0 ∧ (¬ ((0 ≤ v2 ∧ v2 < σ (2 + 2 * v1.toNat) 2))))) → zR G MX11_element 35 [zr 0, zi v1, zi v2] [] σ Q := by
    intro h3
    refine z_lconst (x := 0) dX11_element_35 (by decide +kernel) (by unfold zLn; decide) ?_
    exact z_lret rfl dX11_element_36 (k4 h3)
  refine z_if_ne dX11_element_5 (tgt := 35) (by decide) (fun h1 => ?_) (fun h1 => ?_)
  · skip
    exact J35 (Or.inl h1)
  · skip
    refine z_aload_n dX11_element_8 rfl rfl ?_
    refine z_getfR (k := 0) flRX11_11 rfl rfl dX11_element_9 ?_
    refine z_iload_n dX11_element_12 rfl rfl ?_
    have s1 : (0 : Int) ≤ v1 ∧ v1 < (10 : Int) := k1 h1
    refine z_aald (r := 2 + 2 * v1.toNat) rfl s1.1 s1.2 (zsh_v s1.1 s1.2) dX11_element_13 ?_
    refine z_iload_n dX11_element_14 rfl rfl ?_
    refine z_callv (as := [zi v2]) (st := []) mkX9_hasElement lkRX11_201 rfl (zsh_o s1.1 s1.2) rfl (by decide) (Nat.le_of_ble_eq_true rfl) rfl dX11_element_15 ?_
    refine SX9_hasElement (zsh_o s1.1 s1.2) (zsh_e s1.1 s1.2) ?_
    show zR G MX11_element 18 [zr 0, zi v1, zi v2] [zi (if (0 ≤ v2 ∧ v2 < σ (2 + 2 * v1.toNat) 2) then (1 : Int) else 0)] σ Q
    refine z_if_eq dX11_element_18 (tgt := 35) (by decide) (fun z => ?_) (fun z => ?_)
    · have h2 : ¬ ((0 ≤ v2 ∧ v2 < σ (2 + 2 * v1.toNat) 2)) := zb0 z
      exact J35 (Or.inr ⟨h1, h2⟩)
    · have h2 : (0 ≤ v2 ∧ v2 < σ (2 + 2 * v1.toNat) 2) := zb1 z
      refine z_aload_n dX11_element_21 rfl rfl ?_
      refine z_getfR (k := 0) flRX11_11 rfl rfl dX11_element_22 ?_
      refine z_iload_n dX11_element_25 rfl rfl ?_
      refine z_aald (r := 2 + 2 * v1.toNat) rfl s1.1 s1.2 (zsh_v s1.1 s1.2) dX11_element_26 ?_
      refine z_getfR (k := 0) flRX11_215 (zsh_o s1.1 s1.2) rfl dX11_element_27 ?_
      refine z_iload_n dX11_element_30 rfl rfl ?_
      have s2 : (0 : Int) ≤ v2 ∧ v2 < (80 : Int) := k2 h1 h2
      refine z_lald (zsh_e s1.1 s1.2) s2.1 s2.2 dX11_element_31 ?_
      refine z_goto dX11_element_32 (tgt := 36) (by decide) ?_
      exact z_lret rfl dX11_element_36 (k3 h1 h2)
set_option maxRecDepth 20000 in
set_option maxHeartbeats 1000000 in
theorem TX11_show {G : zG} {σ : zS} {Q : Int → zS → Prop} {a1 a2 : Int}  (k1 : ((¬ ((0 ≤ a1 ∧ a1 ≤ 9))) ∨ (((0 ≤ a1 ∧ a1 ≤ 9)) ∧ a2 ≠ (-1) ∧ (¬ ((0 ≤ a2 ∧ a2 < σ 22 12))))) → -2147483648 ≤ -(-1) ∧ -(-1) < (2147483648 : Int)) (k2 : ((¬ ((0 ≤ a1 ∧ a1 ≤ 9))) ∨ (((0 ≤ a1 ∧ a1 ≤ 9)) ∧ a2 ≠ (-1) ∧ (¬ ((0 ≤ a2 ∧ a2 < σ 22 12))))) → (0 : Int) ≤ -(-1) ∧ -(-1) < (8 : Int)) (k3 : ((¬ ((0 ≤ a1 ∧ a1 ≤ 9))) ∨ (((0 ≤ a1 ∧ a1 ≤ 9)) ∧ a2 ≠ (-1) ∧ (¬ ((0 ≤ a2 ∧ a2 < σ 22 12))))) → Q (-1) (zup σ 97 (-(-1)) (zW ((σ 97 (-(-1))) + 1)))) (k4 : ((0 ≤ a1 ∧ a1 ≤ 9)) → (a2 = (-1) ∨ (a2 ≠ (-1) ∧ ((0 ≤ a2 ∧ a2 < σ 22 12)))) → (0 : Int) ≤ a1 ∧ a1 < (10 : Int)) (k5 : ((0 ≤ a1 ∧ a1 ≤ 9)) → (a2 = (-1) ∨ (a2 ≠ (-1) ∧ ((0 ≤ a2 ∧ a2 < σ 22 12)))) → (a2 ≠ (-1)) → Q 1 (zup (zup (zup σ (2 + 2 * a1.toNat) 1 (-1)) (2 + 2 * a1.toNat) 2 0) (2 + 2 * a1.toNat) 3 a2)) (k6 : ((0 ≤ a1 ∧ a1 ≤ 9)) → (a2 = (-1) ∨ (a2 ≠ (-1) ∧ ((0 ≤ a2 ∧ a2 < σ 22 12)))) → (a2 = (-1)) → Q 0 (zup (zup (zup σ (2 + 2 * a1.toNat) 1 (-1)) (2 + 2 * a1.toNat) 2 0) (2 + 2 * a1.toNat) 3 a2)) : zO G MX11_show [zr 0, zi a1, zi a2] σ Q := by
  refine zO_of (ls0 := [zr 0, zi a1, zi a2]) (by decide) (Nat.le_of_ble_eq_true rfl) rfl ?_
  have J29 : ((0 ≤ a1 ∧ a1 ≤ 9)) → (a2 = (-1) ∨ (a2 ≠ (-1) ∧ ((0 ≤ a2 ∧ a2 < σ 22 12)))) → zR G MX11_show 29 [zr 0, zi a1, zi a2] [] σ Q := by
    intro h1 h5
    refine z_aload_n dX11_show_29 rfl rfl ?_
    refine z_getfR (k := 0) flRX11_11 rfl rfl dX11_show_30 ?_
    refine z_iload_n dX11_show_33 rfl rfl ?_
    have s4 : (0 : Int) ≤ a1 ∧ a1 < (10 : Int) := k4 h1 h5
    refine z_aald (r := 2 + 2 * a1.toNat) rfl s4.1 s4.2 (zsh_v s4.1 s4.2) dX11_show_34 ?_
    refine z_iload_n dX11_show_35 rfl rfl ?_
    refine z_callv (as := [zi a2]) (st := []) mkX9_takePerson lkRX11_225 rfl (zsh_o s4.1 s4.2) rfl (by decide) (Nat.le_of_ble_eq_true rfl) rfl dX11_show_36 ?_
    refine SX9_takePerson (zsh_o s4.1 s4.2) (zsh_e s4.1 s4.2) ?_
    show zR G MX11_show 39 [zr 0, zi a1, zi a2] [] (zup (zup (zup σ (2 + 2 * a1.toNat) 1 (-1)) (2 + 2 * a1.toNat) 2 0) (2 + 2 * a1.toNat) 3 a2) Q
    refine z_iload_n dX11_show_39 rfl rfl ?_
    refine z_iconst dX11_show_40 (by unfold zIn; decide) ?_
    refine z_icmp_ne dX11_show_41 (tgt := 48) (by decide) (fun h6 => ?_) (fun h6 => ?_)
    · skip
      refine z_iconst dX11_show_48 (by unfold zIn; decide) ?_
      exact z_ireti rfl dX11_show_49 (k5 h1 h5 h6)
    · skip
      refine z_iconst dX11_show_44 (by unfold zIn; decide) ?_
      refine z_goto dX11_show_45 (tgt := 49) (by decide) ?_
      exact z_ireti rfl dX11_show_49 (k6 h1 h5 h6)
  have J23 : ((¬ ((0 ≤ a1 ∧ a1 ≤ 9))) ∨ (((0 ≤ a1 ∧ a1 ≤ 9)) ∧ a2 ≠ (-1) ∧ (¬ ((0 ≤ a2 ∧ a2 < σ 22 12))))) → zR G MX11_show 23 [zr 0, zi a1, zi a2] [] σ Q := by
    intro h4
    refine z_aload_n dX11_show_23 rfl rfl ?_
    refine z_iconst dX11_show_24 (by unfold zIn; decide) ?_
    have s1 : -2147483648 ≤ -(-1) ∧ -(-1) < (2147483648 : Int) := k1 h4
    have s2 : (0 : Int) ≤ -(-1) ∧ -(-1) < (8 : Int) := k2 h4
    refine z_callv (as := [zi (-1)]) (st := []) mkX11_refuse lkRX11_132 rfl rfl rfl (by decide) (Nat.le_of_ble_eq_true rfl) rfl dX11_show_25 ?_
    refine SX11_refuse s1 s2 ?_
    show zR G MX11_show 28 [zr 0, zi a1, zi a2] [zi (-1)] (zup σ 97 (-(-1)) (zW ((σ 97 (-(-1))) + 1))) Q
    exact z_ireti rfl dX11_show_28 (k3 h4)
  refine z_iload_n dX11_show_0 rfl rfl ?_
  refine z_calls (as := [zi a1]) (st := []) mkX11_isShelf lkRX11_115 rfl (by decide) (Nat.le_of_ble_eq_true rfl) rfl dX11_show_1 ?_
  refine SX11_isShelf ?_
  show zR G MX11_show 4 [zr 0, zi a1, zi a2] [zi (if (0 ≤ a1 ∧ a1 ≤ 9) then (1 : Int) else 0)] σ Q
  refine z_if_eq dX11_show_4 (tgt := 23) (by decide) (fun z => ?_) (fun z => ?_)
  · have h1 : ¬ ((0 ≤ a1 ∧ a1 ≤ 9)) := zb0 z
    exact J23 (Or.inl h1)
  · have h1 : (0 ≤ a1 ∧ a1 ≤ 9) := zb1 z
    refine z_iload_n dX11_show_7 rfl rfl ?_
    refine z_iconst dX11_show_8 (by unfold zIn; decide) ?_
    refine z_icmp_eq dX11_show_9 (tgt := 29) (by decide) (fun h2 => ?_) (fun h2 => ?_)
    · skip
      exact J29 h1 (Or.inl h2)
    · skip
      refine z_aload_n dX11_show_12 rfl rfl ?_
      refine z_getfR (k := 1) flRX11_18 rfl rfl dX11_show_13 ?_
      refine z_iload_n dX11_show_16 rfl rfl ?_
      refine z_callv (as := [zi a2]) (st := []) mkX5_has lkRX11_146 rfl rfl rfl (by decide) (Nat.le_of_ble_eq_true rfl) rfl dX11_show_17 ?_
      refine SX5_has ?_
      show zR G MX11_show 20 [zr 0, zi a1, zi a2] [zi (if (0 ≤ a2 ∧ a2 < σ 22 12) then (1 : Int) else 0)] σ Q
      refine z_if_ne dX11_show_20 (tgt := 29) (by decide) (fun z => ?_) (fun z => ?_)
      · have h3 : (0 ≤ a2 ∧ a2 < σ 22 12) := zb1 z
        exact J29 h1 (Or.inr ⟨h2, h3⟩)
      · have h3 : ¬ ((0 ≤ a2 ∧ a2 < σ 22 12)) := zb0 z
        exact J23 (Or.inr ⟨h1, h2, h3⟩)
set_option maxRecDepth 20000 in
set_option maxHeartbeats 1000000 in
theorem TX11_holds {G : zG} {σ : zS} {Q : Int → zS → Prop} {a1 : Int}  (k1 : ((0 ≤ a1 ∧ a1 ≤ 9)) → (0 : Int) ≤ a1 ∧ a1 < (10 : Int)) (k2 : ((0 ≤ a1 ∧ a1 ≤ 9)) → (σ (2 + 2 * a1.toNat) 1 ≠ (-1)) → -2147483648 ≤ 100 + (σ (2 + 2 * a1.toNat) 1) ∧ 100 + (σ (2 + 2 * a1.toNat) 1) < (2147483648 : Int)) (k3 : ((0 ≤ a1 ∧ a1 ≤ 9)) → (σ (2 + 2 * a1.toNat) 1 ≠ (-1)) → Q (100 + (σ (2 + 2 * a1.toNat) 1)) σ) (k4 : ((0 ≤ a1 ∧ a1 ≤ 9)) → (σ (2 + 2 * a1.toNat) 1 = (-1)) → Q (σ (2 + 2 * a1.toNat) 3) σ) (k5 : (¬ ((0 ≤ a1 ∧ a1 ≤ 9))) → Q (-1) σ) : zO G MX11_holds [zr 0, zi a1] σ Q := by
  refine zO_of (ls0 := [zr 0, zi a1]) (by decide) (Nat.le_of_ble_eq_true rfl) rfl ?_
  refine z_iload_n dX11_holds_0 rfl rfl ?_
  refine z_calls (as := [zi a1]) (st := []) mkX11_isShelf lkRX11_115 rfl (by decide) (Nat.le_of_ble_eq_true rfl) rfl dX11_holds_1 ?_
  refine SX11_isShelf ?_
  show zR G MX11_holds 4 [zr 0, zi a1] [zi (if (0 ≤ a1 ∧ a1 ≤ 9) then (1 : Int) else 0)] σ Q
  refine z_if_ne dX11_holds_4 (tgt := 9) (by decide) (fun z => ?_) (fun z => ?_)
  · have h1 : (0 ≤ a1 ∧ a1 ≤ 9) := zb1 z
    refine z_aload_n dX11_holds_9 rfl rfl ?_
    refine z_getfR (k := 0) flRX11_11 rfl rfl dX11_holds_10 ?_
    refine z_iload_n dX11_holds_13 rfl rfl ?_
    have s1 : (0 : Int) ≤ a1 ∧ a1 < (10 : Int) := k1 h1
    refine z_aald (r := 2 + 2 * a1.toNat) rfl s1.1 s1.2 (zsh_v s1.1 s1.2) dX11_holds_14 ?_
    refine z_getfI (k := 1) flRX11_122 (zsh_o s1.1 s1.2) rfl dX11_holds_15 ?_
    refine z_iconst dX11_holds_18 (by unfold zIn; decide) ?_
    refine z_icmp_ne dX11_holds_19 (tgt := 34) (by decide) (fun h2 => ?_) (fun h2 => ?_)
    · skip
      refine z_bipush (x := 100) dX11_holds_34 (by decide +kernel) (by unfold zIn; decide) ?_
      refine z_aload_n dX11_holds_36 rfl rfl ?_
      refine z_getfR (k := 0) flRX11_11 rfl rfl dX11_holds_37 ?_
      refine z_iload_n dX11_holds_40 rfl rfl ?_
      refine z_aald (r := 2 + 2 * a1.toNat) rfl s1.1 s1.2 (zsh_v s1.1 s1.2) dX11_holds_41 ?_
      refine z_getfI (k := 1) flRX11_122 (zsh_o s1.1 s1.2) rfl dX11_holds_42 ?_
      have s2 : -2147483648 ≤ 100 + (σ (2 + 2 * a1.toNat) 1) ∧ 100 + (σ (2 + 2 * a1.toNat) 1) < (2147483648 : Int) := k2 h1 h2
      refine z_iaddN dX11_holds_45 s2 ?_
      exact z_ireti rfl dX11_holds_46 (k3 h1 h2)
    · skip
      refine z_aload_n dX11_holds_22 rfl rfl ?_
      refine z_getfR (k := 0) flRX11_11 rfl rfl dX11_holds_23 ?_
      refine z_iload_n dX11_holds_26 rfl rfl ?_
      refine z_aald (r := 2 + 2 * a1.toNat) rfl s1.1 s1.2 (zsh_v s1.1 s1.2) dX11_holds_27 ?_
      refine z_getfI (k := 3) flRX11_119 (zsh_o s1.1 s1.2) rfl dX11_holds_28 ?_
      refine z_goto dX11_holds_31 (tgt := 46) (by decide) ?_
      exact z_ireti rfl dX11_holds_46 (k4 h1 h2)
  · have h1 : ¬ ((0 ≤ a1 ∧ a1 ≤ 9)) := zb0 z
    refine z_iconst dX11_holds_7 (by unfold zIn; decide) ?_
    exact z_ireti rfl dX11_holds_8 (k5 h1)
set_option maxRecDepth 20000 in
set_option maxHeartbeats 1000000 in
theorem TX11_bornIn {G : zG} {σ : zS} {Q : Int → zS → Prop} {a1 : Int}  (k1 : ((0 ≤ a1 ∧ a1 ≤ 9)) → (0 : Int) ≤ a1 ∧ a1 < (10 : Int)) (k2 : ((0 ≤ a1 ∧ a1 ≤ 9)) → (σ (2 + 2 * a1.toNat) 1 = (-1)) → (¬ ((0 ≤ (σ (2 + 2 * a1.toNat) 3) ∧ (σ (2 + 2 * a1.toNat) 3) < σ 22 12))) → -2147483648 ≤ -(-3) ∧ -(-3) < (2147483648 : Int)) (k3 : ((0 ≤ a1 ∧ a1 ≤ 9)) → (σ (2 + 2 * a1.toNat) 1 = (-1)) → (¬ ((0 ≤ (σ (2 + 2 * a1.toNat) 3) ∧ (σ (2 + 2 * a1.toNat) 3) < σ 22 12))) → (0 : Int) ≤ -(-3) ∧ -(-3) < (8 : Int)) (k4 : ((0 ≤ a1 ∧ a1 ≤ 9)) → (σ (2 + 2 * a1.toNat) 1 = (-1)) → (¬ ((0 ≤ (σ (2 + 2 * a1.toNat) 3) ∧ (σ (2 + 2 * a1.toNat) 3) < σ 22 12))) → -2147483648 ≤ (-3) - 1000000 ∧ (-3) - 1000000 < (2147483648 : Int)) (k5 : ((0 ≤ a1 ∧ a1 ≤ 9)) → (σ (2 + 2 * a1.toNat) 1 = (-1)) → (¬ ((0 ≤ (σ (2 + 2 * a1.toNat) 3) ∧ (σ (2 + 2 * a1.toNat) 3) < σ 22 12))) → Q ((-3) - 1000000) (zup σ 97 (-(-3)) (zW ((σ 97 (-(-3))) + 1)))) (k6 : ((0 ≤ a1 ∧ a1 ≤ 9)) → (σ (2 + 2 * a1.toNat) 1 = (-1)) → ((0 ≤ (σ (2 + 2 * a1.toNat) 3) ∧ (σ (2 + 2 * a1.toNat) 3) < σ 22 12)) → (0 : Int) ≤ σ (2 + 2 * a1.toNat) 3 ∧ σ (2 + 2 * a1.toNat) 3 < (24 : Int)) (k7 : ((0 ≤ a1 ∧ a1 ≤ 9)) → (σ (2 + 2 * a1.toNat) 1 = (-1)) → ((0 ≤ (σ (2 + 2 * a1.toNat) 3) ∧ (σ (2 + 2 * a1.toNat) 3) < σ 22 12)) → Q (σ 23 (σ (2 + 2 * a1.toNat) 3)) σ) (k8 : ((0 ≤ a1 ∧ a1 ≤ 9)) → (σ (2 + 2 * a1.toNat) 1 ≠ (-1)) → -2147483648 ≤ -(-2) ∧ -(-2) < (2147483648 : Int)) (k9 : ((0 ≤ a1 ∧ a1 ≤ 9)) → (σ (2 + 2 * a1.toNat) 1 ≠ (-1)) → (0 : Int) ≤ -(-2) ∧ -(-2) < (8 : Int)) (k10 : ((0 ≤ a1 ∧ a1 ≤ 9)) → (σ (2 + 2 * a1.toNat) 1 ≠ (-1)) → -2147483648 ≤ (-2) - 1000000 ∧ (-2) - 1000000 < (2147483648 : Int)) (k11 : ((0 ≤ a1 ∧ a1 ≤ 9)) → (σ (2 + 2 * a1.toNat) 1 ≠ (-1)) → Q ((-2) - 1000000) (zup σ 97 (-(-2)) (zW ((σ 97 (-(-2))) + 1)))) (k12 : (¬ ((0 ≤ a1 ∧ a1 ≤ 9))) → -2147483648 ≤ -(-1) ∧ -(-1) < (2147483648 : Int)) (k13 : (¬ ((0 ≤ a1 ∧ a1 ≤ 9))) → (0 : Int) ≤ -(-1) ∧ -(-1) < (8 : Int)) (k14 : (¬ ((0 ≤ a1 ∧ a1 ≤ 9))) → -2147483648 ≤ (-1) - 1000000 ∧ (-1) - 1000000 < (2147483648 : Int)) (k15 : (¬ ((0 ≤ a1 ∧ a1 ≤ 9))) → Q ((-1) - 1000000) (zup σ 97 (-(-1)) (zW ((σ 97 (-(-1))) + 1)))) : zO G MX11_bornIn [zr 0, zi a1] σ Q := by
  refine zO_of (ls0 := [zr 0, zi a1, zu]) (by decide) (Nat.le_of_ble_eq_true rfl) rfl ?_
  refine z_iload_n dX11_bornIn_0 rfl rfl ?_
  refine z_calls (as := [zi a1]) (st := []) mkX11_isShelf lkRX11_115 rfl (by decide) (Nat.le_of_ble_eq_true rfl) rfl dX11_bornIn_1 ?_
  refine SX11_isShelf ?_
  show zR G MX11_bornIn 4 [zr 0, zi a1, zu] [zi (if (0 ≤ a1 ∧ a1 ≤ 9) then (1 : Int) else 0)] σ Q
  refine z_if_ne dX11_bornIn_4 (tgt := 16) (by decide) (fun z => ?_) (fun z => ?_)
  · have h1 : (0 ≤ a1 ∧ a1 ≤ 9) := zb1 z
    refine z_aload_n dX11_bornIn_16 rfl rfl ?_
    refine z_getfR (k := 0) flRX11_11 rfl rfl dX11_bornIn_17 ?_
    refine z_iload_n dX11_bornIn_20 rfl rfl ?_
    have s1 : (0 : Int) ≤ a1 ∧ a1 < (10 : Int) := k1 h1
    refine z_aald (r := 2 + 2 * a1.toNat) rfl s1.1 s1.2 (zsh_v s1.1 s1.2) dX11_bornIn_21 ?_
    refine z_getfI (k := 1) flRX11_122 (zsh_o s1.1 s1.2) rfl dX11_bornIn_22 ?_
    refine z_iconst dX11_bornIn_25 (by unfold zIn; decide) ?_
    refine z_icmp_eq dX11_bornIn_26 (tgt := 39) (by decide) (fun h2 => ?_) (fun h2 => ?_)
    · skip
      refine z_aload_n dX11_bornIn_39 rfl rfl ?_
      refine z_getfR (k := 0) flRX11_11 rfl rfl dX11_bornIn_40 ?_
      refine z_iload_n dX11_bornIn_43 rfl rfl ?_
      refine z_aald (r := 2 + 2 * a1.toNat) rfl s1.1 s1.2 (zsh_v s1.1 s1.2) dX11_bornIn_44 ?_
      refine z_getfI (k := 3) flRX11_119 (zsh_o s1.1 s1.2) rfl dX11_bornIn_45 ?_
      refine z_istore_n (ls' := [zr 0, zi a1, zi (σ (2 + 2 * a1.toNat) 3)]) dX11_bornIn_48 rfl (by decide) rfl ?_
      refine z_aload_n dX11_bornIn_49 rfl rfl ?_
      refine z_getfR (k := 1) flRX11_18 rfl rfl dX11_bornIn_50 ?_
      refine z_iload_n dX11_bornIn_53 rfl rfl ?_
      refine z_callv (as := [zi (σ (2 + 2 * a1.toNat) 3)]) (st := []) mkX5_has lkRX11_146 rfl rfl rfl (by decide) (Nat.le_of_ble_eq_true rfl) rfl dX11_bornIn_54 ?_
      refine SX5_has ?_
      show zR G MX11_bornIn 57 [zr 0, zi a1, zi (σ (2 + 2 * a1.toNat) 3)] [zi (if (0 ≤ (σ (2 + 2 * a1.toNat) 3) ∧ (σ (2 + 2 * a1.toNat) 3) < σ 22 12) then (1 : Int) else 0)] σ Q
      refine z_if_eq dX11_bornIn_57 (tgt := 72) (by decide) (fun z => ?_) (fun z => ?_)
      · have h3 : ¬ ((0 ≤ (σ (2 + 2 * a1.toNat) 3) ∧ (σ (2 + 2 * a1.toNat) 3) < σ 22 12)) := zb0 z
        refine z_aload_n dX11_bornIn_72 rfl rfl ?_
        refine z_bipush (x := (-3)) dX11_bornIn_73 (by decide +kernel) (by unfold zIn; decide) ?_
        have s2 : -2147483648 ≤ -(-3) ∧ -(-3) < (2147483648 : Int) := k2 h1 h2 h3
        have s3 : (0 : Int) ≤ -(-3) ∧ -(-3) < (8 : Int) := k3 h1 h2 h3
        refine z_callv (as := [zi (-3)]) (st := []) mkX11_refuse lkRX11_132 rfl rfl rfl (by decide) (Nat.le_of_ble_eq_true rfl) rfl dX11_bornIn_75 ?_
        refine SX11_refuse s2 s3 ?_
        show zR G MX11_bornIn 78 [zr 0, zi a1, zi (σ (2 + 2 * a1.toNat) 3)] [zi (-3)] (zup σ 97 (-(-3)) (zW ((σ 97 (-(-3))) + 1))) Q
        refine z_ldc (x := 1000000) (zin_4 (List.mem_of_getElem? (i := 93) (by decide +kernel))) (by unfold zIn; decide) dX11_bornIn_78 ?_
        have s4 : -2147483648 ≤ (-3) - 1000000 ∧ (-3) - 1000000 < (2147483648 : Int) := k4 h1 h2 h3
        refine z_isubN dX11_bornIn_80 s4 ?_
        exact z_ireti rfl dX11_bornIn_81 (k5 h1 h2 h3)
      · have h3 : (0 ≤ (σ (2 + 2 * a1.toNat) 3) ∧ (σ (2 + 2 * a1.toNat) 3) < σ 22 12) := zb1 z
        refine z_aload_n dX11_bornIn_60 rfl rfl ?_
        refine z_getfR (k := 1) flRX11_18 rfl rfl dX11_bornIn_61 ?_
        refine z_getfR (k := 0) flRX11_172 rfl rfl dX11_bornIn_64 ?_
        refine z_iload_n dX11_bornIn_67 rfl rfl ?_
        have s6 : (0 : Int) ≤ σ (2 + 2 * a1.toNat) 3 ∧ σ (2 + 2 * a1.toNat) 3 < (24 : Int) := k6 h1 h2 h3
        refine z_iald rfl s6.1 s6.2 dX11_bornIn_68 ?_
        refine z_goto dX11_bornIn_69 (tgt := 81) (by decide) ?_
        exact z_ireti rfl dX11_bornIn_81 (k7 h1 h2 h3)
    · skip
      refine z_aload_n dX11_bornIn_29 rfl rfl ?_
      refine z_bipush (x := (-2)) dX11_bornIn_30 (by decide +kernel) (by unfold zIn; decide) ?_
      have s8 : -2147483648 ≤ -(-2) ∧ -(-2) < (2147483648 : Int) := k8 h1 h2
      have s9 : (0 : Int) ≤ -(-2) ∧ -(-2) < (8 : Int) := k9 h1 h2
      refine z_callv (as := [zi (-2)]) (st := []) mkX11_refuse lkRX11_132 rfl rfl rfl (by decide) (Nat.le_of_ble_eq_true rfl) rfl dX11_bornIn_32 ?_
      refine SX11_refuse s8 s9 ?_
      show zR G MX11_bornIn 35 [zr 0, zi a1, zu] [zi (-2)] (zup σ 97 (-(-2)) (zW ((σ 97 (-(-2))) + 1))) Q
      refine z_ldc (x := 1000000) (zin_4 (List.mem_of_getElem? (i := 93) (by decide +kernel))) (by unfold zIn; decide) dX11_bornIn_35 ?_
      have s10 : -2147483648 ≤ (-2) - 1000000 ∧ (-2) - 1000000 < (2147483648 : Int) := k10 h1 h2
      refine z_isubN dX11_bornIn_37 s10 ?_
      exact z_ireti rfl dX11_bornIn_38 (k11 h1 h2)
  · have h1 : ¬ ((0 ≤ a1 ∧ a1 ≤ 9)) := zb0 z
    refine z_aload_n dX11_bornIn_7 rfl rfl ?_
    refine z_iconst dX11_bornIn_8 (by unfold zIn; decide) ?_
    have s12 : -2147483648 ≤ -(-1) ∧ -(-1) < (2147483648 : Int) := k12 h1
    have s13 : (0 : Int) ≤ -(-1) ∧ -(-1) < (8 : Int) := k13 h1
    refine z_callv (as := [zi (-1)]) (st := []) mkX11_refuse lkRX11_132 rfl rfl rfl (by decide) (Nat.le_of_ble_eq_true rfl) rfl dX11_bornIn_9 ?_
    refine SX11_refuse s12 s13 ?_
    show zR G MX11_bornIn 12 [zr 0, zi a1, zu] [zi (-1)] (zup σ 97 (-(-1)) (zW ((σ 97 (-(-1))) + 1))) Q
    refine z_ldc (x := 1000000) (zin_4 (List.mem_of_getElem? (i := 93) (by decide +kernel))) (by unfold zIn; decide) dX11_bornIn_12 ?_
    have s14 : -2147483648 ≤ (-1) - 1000000 ∧ (-1) - 1000000 < (2147483648 : Int) := k14 h1
    refine z_isubN dX11_bornIn_14 s14 ?_
    exact z_ireti rfl dX11_bornIn_15 (k15 h1)
set_option maxRecDepth 20000 in
set_option maxHeartbeats 1000000 in
theorem TX9_copyLetters {G : zG} {σ : zS} {Q : Int → zS → Prop} {a2 : Int} {t te a1 a1n : Nat} (ht : zsh t = (4, 9, [some te, none, none, none])) (hte : zsh te = (2, 80, [])) (ha1 : zsh a1 = (0, a1n, [])) (k1 : zR G MX9_copyLetters 2 [zr t, zr a1, zi a2, zi 0] [] σ Q) : zO G MX9_copyLetters [zr t, zr a1, zi a2] σ Q := by
  refine zO_of (ls0 := [zr t, zr a1, zi a2, zu]) (by decide) (Nat.le_of_ble_eq_true rfl) rfl ?_
  refine z_iconst dX9_copyLetters_0 (by unfold zIn; decide) ?_
  refine z_istore_n (ls' := [zr t, zr a1, zi a2, zi 0]) dX9_copyLetters_1 rfl (by decide) rfl ?_
  exact k1
set_option maxRecDepth 20000 in
set_option maxHeartbeats 1000000 in
theorem TX9_copyLetters_2 {G : zG} {σ : zS} {Q : Int → zS → Prop} {v2 v3 : Int} {t te a1 a1n : Nat} (ht : zsh t = (4, 9, [some te, none, none, none])) (hte : zsh te = (2, 80, [])) (ha1 : zsh a1 = (0, a1n, [])) (k1 : (σ t 2 ≤ v3) → Q (σ t 2) σ) (k2 : (v3 < σ t 2) → -2147483648 ≤ v2 + v3 ∧ v2 + v3 < (2147483648 : Int)) (k3 : (v3 < σ t 2) → (0 : Int) ≤ v3 ∧ v3 < (80 : Int)) (k4 : (v3 < σ t 2) → (0 : Int) ≤ v2 + v3 ∧ v2 + v3 < (a1n : Int)) (k5 : (v3 < σ t 2) → -2147483648 ≤ v3 + 1 ∧ v3 + 1 < (2147483648 : Int)) (k6 : (v3 < σ t 2) → zR G MX9_copyLetters 2 [zr t, zr a1, zi v2, zi (v3 + 1)] [] (zup σ a1 (v2 + v3) (zW (σ te v3))) Q) : zR G MX9_copyLetters 2 [zr t, zr a1, zi v2, zi v3] [] σ Q := by
  refine z_iload_n dX9_copyLetters_2 rfl rfl ?_
  refine z_aload_n dX9_copyLetters_3 rfl rfl ?_
  refine z_getfI (k := 2) flRX9_19 ht rfl dX9_copyLetters_4 ?_
  refine z_icmp_ge dX9_copyLetters_7 (tgt := 26) (by decide) (fun h1 => ?_) (fun h1 => ?_)
  · skip
    refine z_aload_n dX9_copyLetters_26 rfl rfl ?_
    refine z_getfI (k := 2) flRX9_19 ht rfl dX9_copyLetters_27 ?_
    exact z_ireti rfl dX9_copyLetters_30 (k1 h1)
  · skip
    refine z_aload_n dX9_copyLetters_10 rfl rfl ?_
    refine z_iload_n dX9_copyLetters_11 rfl rfl ?_
    refine z_iload_n dX9_copyLetters_12 rfl rfl ?_
    have s2 : -2147483648 ≤ v2 + v3 ∧ v2 + v3 < (2147483648 : Int) := k2 h1
    refine z_iaddN dX9_copyLetters_13 s2 ?_
    refine z_aload_n dX9_copyLetters_14 rfl rfl ?_
    refine z_iload_n dX9_copyLetters_15 rfl rfl ?_
    have s3 : (0 : Int) ≤ v3 ∧ v3 < (80 : Int) := k3 h1
    refine z_callv (as := [zi v3]) (st := [zi (v2 + v3), zr a1]) mkX9_letter lkRX9_31 rfl ht rfl (by decide) (Nat.le_of_ble_eq_true rfl) rfl dX9_copyLetters_16 ?_
    refine SX9_letter ht hte s3 ?_
    show zR G MX9_copyLetters 19 [zr t, zr a1, zi v2, zi v3] [zi (zW (σ te v3)), zi (v2 + v3), zr a1] σ Q
    have s4 : (0 : Int) ≤ v2 + v3 ∧ v2 + v3 < (a1n : Int) := k4 h1
    refine z_iast ha1 s4.1 s4.2 dX9_copyLetters_19 ?_
    have s5 : -2147483648 ≤ v3 + 1 ∧ v3 + 1 < (2147483648 : Int) := k5 h1
    refine z_iincN (ls' := [zr t, zr a1, zi v2, zi (v3 + 1)]) dX9_copyLetters_20 rfl (by decide) s5 rfl ?_
    refine z_goto dX9_copyLetters_23 (tgt := 2) (by decide) ?_
    exact k6 h1
set_option maxRecDepth 20000 in
set_option maxHeartbeats 1000000 in
theorem TX10_tellFirst {G : zG} {σ : zS} {Q : Int → zS → Prop} {a1 : Int} {a2 a2e : Nat} (ha2 : zsh a2 = (4, 9, [some a2e, none, none, none])) (ha2e : zsh a2e = (2, 80, [])) (k1 : -2147483648 ≤ 80 * a1 ∧ 80 * a1 < (2147483648 : Int)) (k2 : zO G MX9_copyLetters [zr a2, zr 36, zi (80 * a1)] σ (fun rr σ' => zR G MX10_tellFirst 17 [zr 35, zi a1, zr a2] [zi rr, zi a1, zr 37] σ' Q)) : zO G MX10_tellFirst [zr 35, zi a1, zr a2] σ Q := by
  refine zO_of (ls0 := [zr 35, zi a1, zr a2]) (by decide) (Nat.le_of_ble_eq_true rfl) rfl ?_
  refine z_aload_n dX10_tellFirst_0 rfl rfl ?_
  refine z_getfR (k := 1) flRX10_15 rfl rfl dX10_tellFirst_1 ?_
  refine z_iload_n dX10_tellFirst_4 rfl rfl ?_
  refine z_aload_n dX10_tellFirst_5 rfl rfl ?_
  refine z_aload_n dX10_tellFirst_6 rfl rfl ?_
  refine z_getfR (k := 0) flRX10_9 rfl rfl dX10_tellFirst_7 ?_
  refine z_bipush (x := 80) dX10_tellFirst_10 (by decide +kernel) (by unfold zIn; decide) ?_
  refine z_iload_n dX10_tellFirst_12 rfl rfl ?_
  have s1 : -2147483648 ≤ 80 * a1 ∧ 80 * a1 < (2147483648 : Int) := k1
  refine z_imulN dX10_tellFirst_13 s1 ?_
  refine z_callv (as := [zr 36, zi (80 * a1)]) (st := [zi a1, zr 37]) mkX9_copyLetters lkRX10_55 rfl ha2 rfl (by decide) (Nat.le_of_ble_eq_true rfl) rfl dX10_tellFirst_14 (k2)
set_option maxRecDepth 20000 in
set_option maxHeartbeats 1000000 in
theorem TX10_tellFirst_17 {G : zG} {σ : zS} {Q : Int → zS → Prop} {v1 r t1 : Int} {a2 a2e : Nat} (ha2 : zsh a2 = (4, 9, [some a2e, none, none, none])) (ha2e : zsh a2e = (2, 80, [])) (k1 : (0 : Int) ≤ t1 ∧ t1 < (4 : Int)) (k2 : Q ((zup σ 37 t1 r) a2 2) (zup σ 37 t1 r)) : zR G MX10_tellFirst 17 [zr 35, zi v1, zr a2] [zi r, zi t1, zr 37] σ Q := by
  have s1 : (0 : Int) ≤ t1 ∧ t1 < (4 : Int) := k1
  refine z_iast rfl s1.1 s1.2 dX10_tellFirst_17 ?_
  refine z_aload_n dX10_tellFirst_18 rfl rfl ?_
  refine z_getfI (k := 2) flRX10_61 ha2 rfl dX10_tellFirst_19 ?_
  exact z_ireti rfl dX10_tellFirst_22 (k2)
set_option maxRecDepth 20000 in
set_option maxHeartbeats 1000000 in
theorem TX11_statute {G : zG} {σ : zS} {Q : Int → zS → Prop} {a1 a2 : Int}  (k1 : (¬ ((0 ≤ a1 ∧ a1 ≤ 3))) → -2147483648 ≤ -(-1) ∧ -(-1) < (2147483648 : Int)) (k2 : (¬ ((0 ≤ a1 ∧ a1 ≤ 3))) → (0 : Int) ≤ -(-1) ∧ -(-1) < (8 : Int)) (k3 : (¬ ((0 ≤ a1 ∧ a1 ≤ 3))) → Q (-1) (zup σ 97 (-(-1)) (zW ((σ 97 (-(-1))) + 1)))) (k4 : ((0 ≤ a1 ∧ a1 ≤ 3)) → zO G MX11_rowTrouble [zr 0, zi a2] σ (fun rr σ' => zR G MX11_statute 12 [zr 0, zi a1, zi a2, zu] [zi rr] σ' Q)) : zO G MX11_statute [zr 0, zi a1, zi a2] σ Q := by
  refine zO_of (ls0 := [zr 0, zi a1, zi a2, zu]) (by decide) (Nat.le_of_ble_eq_true rfl) rfl ?_
  refine z_iload_n dX11_statute_0 rfl rfl ?_
  refine z_calls (as := [zi a1]) (st := []) mkX11_isStatute lkRX11_229 rfl (by decide) (Nat.le_of_ble_eq_true rfl) rfl dX11_statute_1 ?_
  refine SX11_isStatute ?_
  show zR G MX11_statute 4 [zr 0, zi a1, zi a2, zu] [zi (if (0 ≤ a1 ∧ a1 ≤ 3) then (1 : Int) else 0)] σ Q
  refine z_if_eq dX11_statute_4 (tgt := 15) (by decide) (fun z => ?_) (fun z => ?_)
  · have h1 : ¬ ((0 ≤ a1 ∧ a1 ≤ 3)) := zb0 z
    refine z_iconst dX11_statute_15 (by unfold zIn; decide) ?_
    refine z_istore_n (ls' := [zr 0, zi a1, zi a2, zi (-1)]) dX11_statute_16 rfl (by decide) rfl ?_
    refine z_iload_n dX11_statute_17 rfl rfl ?_
    refine z_if_eq dX11_statute_18 (tgt := 27) (by decide) (fun z => absurd z (by decide)) (fun z => ?_)
    refine z_aload_n dX11_statute_21 rfl rfl ?_
    refine z_iload_n dX11_statute_22 rfl rfl ?_
    have s1 : -2147483648 ≤ -(-1) ∧ -(-1) < (2147483648 : Int) := k1 h1
    have s2 : (0 : Int) ≤ -(-1) ∧ -(-1) < (8 : Int) := k2 h1
    refine z_callv (as := [zi (-1)]) (st := []) mkX11_refuse lkRX11_132 rfl rfl rfl (by decide) (Nat.le_of_ble_eq_true rfl) rfl dX11_statute_23 ?_
    refine SX11_refuse s1 s2 ?_
    show zR G MX11_statute 26 [zr 0, zi a1, zi a2, zi (-1)] [zi (-1)] (zup σ 97 (-(-1)) (zW ((σ 97 (-(-1))) + 1))) Q
    exact z_ireti rfl dX11_statute_26 (k3 h1)
  · have h1 : (0 ≤ a1 ∧ a1 ≤ 3) := zb1 z
    refine z_aload_n dX11_statute_7 rfl rfl ?_
    refine z_iload_n dX11_statute_8 rfl rfl ?_
    refine z_callv (as := [zi a2]) (st := []) mkX11_rowTrouble lkRX11_198 rfl rfl rfl (by decide) (Nat.le_of_ble_eq_true rfl) rfl dX11_statute_9 (k4 h1)
set_option maxRecDepth 20000 in
set_option maxHeartbeats 1000000 in
theorem TX11_statute_12 {G : zG} {σ : zS} {Q : Int → zS → Prop} {v1 v2 r : Int}  (k1 : (r = 0) → (0 : Int) ≤ v1 ∧ v1 < (4 : Int)) (k2 : (r = 0) → (σ 37 v1 = 0) → (0 : Int) ≤ v2 ∧ v2 < (10 : Int)) (k3 : (r = 0) → (σ 37 v1 = 0) → (σ (2 + 2 * v2.toNat) 2 ≠ 0) → zO G MX10_tellFirst [zr 35, zi v1, zr (2 + 2 * v2.toNat)] σ (fun rr σ' => zR G MX11_statute 72 [zr 0, zi v1, zi v2, zi r] [zi rr] σ' Q)) (k4 : (r ≠ 0) → -2147483648 ≤ -r ∧ -r < (2147483648 : Int)) (k5 : (r ≠ 0) → (0 : Int) ≤ -r ∧ -r < (8 : Int)) (k6 : (r ≠ 0) → Q r (zup σ 97 (-r) (zW ((σ 97 (-r)) + 1)))) (k7 : (r = 0) → (σ 37 v1 ≠ 0 ∨ (σ 37 v1 = 0 ∧ σ (2 + 2 * v2.toNat) 2 = 0)) → -2147483648 ≤ -(-6) ∧ -(-6) < (2147483648 : Int)) (k8 : (r = 0) → (σ 37 v1 ≠ 0 ∨ (σ 37 v1 = 0 ∧ σ (2 + 2 * v2.toNat) 2 = 0)) → (0 : Int) ≤ -(-6) ∧ -(-6) < (8 : Int)) (k9 : (r = 0) → (σ 37 v1 ≠ 0 ∨ (σ 37 v1 = 0 ∧ σ (2 + 2 * v2.toNat) 2 = 0)) → Q (-6) (zup σ 97 (-(-6)) (zW ((σ 97 (-(-6))) + 1)))) : zR G MX11_statute 12 [zr 0, zi v1, zi v2, zu] [zi r] σ Q := by
  have J51 : (r = 0) → (σ 37 v1 ≠ 0 ∨ (σ 37 v1 = 0 ∧ σ (2 + 2 * v2.toNat) 2 = 0)) → zR G MX11_statute 51 [zr 0, zi v1, zi v2, zi r] [] σ Q := by
    intro h1 h4
    refine z_aload_n dX11_statute_51 rfl rfl ?_
    refine z_bipush (x := (-6)) dX11_statute_52 (by decide +kernel) (by unfold zIn; decide) ?_
    have s7 : -2147483648 ≤ -(-6) ∧ -(-6) < (2147483648 : Int) := k7 h1 h4
    have s8 : (0 : Int) ≤ -(-6) ∧ -(-6) < (8 : Int) := k8 h1 h4
    refine z_callv (as := [zi (-6)]) (st := []) mkX11_refuse lkRX11_132 rfl rfl rfl (by decide) (Nat.le_of_ble_eq_true rfl) rfl dX11_statute_54 ?_
    refine SX11_refuse s7 s8 ?_
    show zR G MX11_statute 57 [zr 0, zi v1, zi v2, zi r] [zi (-6)] (zup σ 97 (-(-6)) (zW ((σ 97 (-(-6))) + 1))) Q
    exact z_ireti rfl dX11_statute_57 (k9 h1 h4)
  refine z_goto dX11_statute_12 (tgt := 16) (by decide) ?_
  refine z_istore_n (ls' := [zr 0, zi v1, zi v2, zi r]) dX11_statute_16 rfl (by decide) rfl ?_
  refine z_iload_n dX11_statute_17 rfl rfl ?_
  refine z_if_eq dX11_statute_18 (tgt := 27) (by decide) (fun h1 => ?_) (fun h1 => ?_)
  · skip
    refine z_aload_n dX11_statute_27 rfl rfl ?_
    refine z_getfR (k := 2) flRX11_25 rfl rfl dX11_statute_28 ?_
    refine z_getfR (k := 1) flRX11_232 rfl rfl dX11_statute_31 ?_
    refine z_iload_n dX11_statute_34 rfl rfl ?_
    have s1 : (0 : Int) ≤ v1 ∧ v1 < (4 : Int) := k1 h1
    refine z_iald rfl s1.1 s1.2 dX11_statute_35 ?_
    refine z_if_ne dX11_statute_36 (tgt := 51) (by decide) (fun h2 => ?_) (fun h2 => ?_)
    · skip
      exact J51 h1 (Or.inl h2)
    · skip
      refine z_aload_n dX11_statute_39 rfl rfl ?_
      refine z_getfR (k := 0) flRX11_11 rfl rfl dX11_statute_40 ?_
      refine z_iload_n dX11_statute_43 rfl rfl ?_
      have s2 : (0 : Int) ≤ v2 ∧ v2 < (10 : Int) := k2 h1 h2
      refine z_aald (r := 2 + 2 * v2.toNat) rfl s2.1 s2.2 (zsh_v s2.1 s2.2) dX11_statute_44 ?_
      refine z_getfI (k := 2) flRX11_235 (zsh_o s2.1 s2.2) rfl dX11_statute_45 ?_
      refine z_if_ne dX11_statute_48 (tgt := 58) (by decide) (fun h3 => ?_) (fun h3 => ?_)
      · skip
        refine z_aload_n dX11_statute_58 rfl rfl ?_
        refine z_getfR (k := 2) flRX11_25 rfl rfl dX11_statute_59 ?_
        refine z_iload_n dX11_statute_62 rfl rfl ?_
        refine z_aload_n dX11_statute_63 rfl rfl ?_
        refine z_getfR (k := 0) flRX11_11 rfl rfl dX11_statute_64 ?_
        refine z_iload_n dX11_statute_67 rfl rfl ?_
        refine z_aald (r := 2 + 2 * v2.toNat) rfl s2.1 s2.2 (zsh_v s2.1 s2.2) dX11_statute_68 ?_
        refine z_callv (as := [zi v1, zr (2 + 2 * v2.toNat)]) (st := []) mkX10_tellFirst lkRX11_238 rfl rfl rfl (by decide) (Nat.le_of_ble_eq_true rfl) rfl dX11_statute_69 (k3 h1 h2 h3)
      · skip
        exact J51 h1 (Or.inr ⟨h2, h3⟩)
  · skip
    refine z_aload_n dX11_statute_21 rfl rfl ?_
    refine z_iload_n dX11_statute_22 rfl rfl ?_
    have s4 : -2147483648 ≤ -r ∧ -r < (2147483648 : Int) := k4 h1
    have s5 : (0 : Int) ≤ -r ∧ -r < (8 : Int) := k5 h1
    refine z_callv (as := [zi r]) (st := []) mkX11_refuse lkRX11_132 rfl rfl rfl (by decide) (Nat.le_of_ble_eq_true rfl) rfl dX11_statute_23 ?_
    refine SX11_refuse s4 s5 ?_
    show zR G MX11_statute 26 [zr 0, zi v1, zi v2, zi r] [zi r] (zup σ 97 (-r) (zW ((σ 97 (-r)) + 1))) Q
    exact z_ireti rfl dX11_statute_26 (k6 h1)
set_option maxRecDepth 20000 in
set_option maxHeartbeats 1000000 in
theorem TX11_statute_72 {G : zG} {σ : zS} {Q : Int → zS → Prop} {v1 v2 v3 r : Int}  (k1 : Q r σ) : zR G MX11_statute 72 [zr 0, zi v1, zi v2, zi v3] [zi r] σ Q := by
  exact z_ireti rfl dX11_statute_72 (k1)
set_option maxRecDepth 20000 in
set_option maxHeartbeats 1000000 in
theorem TX10_tellWords {G : zG} {σ : zS} {Q : Int → zS → Prop} {a1 a1e a2 a2e : Nat} (ha1 : zsh a1 = (4, 9, [some a1e, none, none, none])) (ha1e : zsh a1e = (2, 80, [])) (ha2 : zsh a2 = (4, 9, [some a2e, none, none, none])) (ha2e : zsh a2e = (2, 80, [])) (k1 : -2147483648 ≤ 80 * σ 35 11 ∧ 80 * σ 35 11 < (2147483648 : Int)) (k2 : zO G MX9_copyLetters [zr a1, zr 41, zi (80 * σ 35 11)] σ (fun rr σ' => zR G MX10_tellWords 23 [zr 35, zr a1, zr a2] [zi rr, zi (σ 35 11), zr 42] σ' Q)) : zO G MX10_tellWords [zr 35, zr a1, zr a2] σ Q := by
  refine zO_of (ls0 := [zr 35, zr a1, zr a2]) (by decide) (Nat.le_of_ble_eq_true rfl) rfl ?_
  refine z_aload_n dX10_tellWords_0 rfl rfl ?_
  refine z_getfR (k := 6) flRX10_30 rfl rfl dX10_tellWords_1 ?_
  refine z_aload_n dX10_tellWords_4 rfl rfl ?_
  refine z_getfI (k := 11) flRX10_45 rfl rfl dX10_tellWords_5 ?_
  refine z_aload_n dX10_tellWords_8 rfl rfl ?_
  refine z_aload_n dX10_tellWords_9 rfl rfl ?_
  refine z_getfR (k := 5) flRX10_27 rfl rfl dX10_tellWords_10 ?_
  refine z_bipush (x := 80) dX10_tellWords_13 (by decide +kernel) (by unfold zIn; decide) ?_
  refine z_aload_n dX10_tellWords_15 rfl rfl ?_
  refine z_getfI (k := 11) flRX10_45 rfl rfl dX10_tellWords_16 ?_
  have s1 : -2147483648 ≤ 80 * σ 35 11 ∧ 80 * σ 35 11 < (2147483648 : Int) := k1
  refine z_imulN dX10_tellWords_19 s1 ?_
  refine z_callv (as := [zr 41, zi (80 * σ 35 11)]) (st := [zi (σ 35 11), zr 42]) mkX9_copyLetters lkRX10_55 rfl ha1 rfl (by decide) (Nat.le_of_ble_eq_true rfl) rfl dX10_tellWords_20 (k2)
set_option maxRecDepth 20000 in
set_option maxHeartbeats 1000000 in
theorem TX10_tellWords_23 {G : zG} {σ : zS} {Q : Int → zS → Prop} {r t1 : Int} {a1 a1e a2 a2e : Nat} (ha1 : zsh a1 = (4, 9, [some a1e, none, none, none])) (ha1e : zsh a1e = (2, 80, [])) (ha2 : zsh a2 = (4, 9, [some a2e, none, none, none])) (ha2e : zsh a2e = (2, 80, [])) (k1 : (0 : Int) ≤ t1 ∧ t1 < (12 : Int)) (k2 : -2147483648 ≤ 80 * σ 35 11 ∧ 80 * σ 35 11 < (2147483648 : Int)) (k3 : zO G MX9_copyLetters [zr a2, zr 43, zi (80 * σ 35 11)] (zup σ 42 t1 r) (fun rr σ' => zR G MX10_tellWords 47 [zr 35, zr a1, zr a2] [zi rr, zi (σ 35 11), zr 44] σ' Q)) : zR G MX10_tellWords 23 [zr 35, zr a1, zr a2] [zi r, zi t1, zr 42] σ Q := by
  have s1 : (0 : Int) ≤ t1 ∧ t1 < (12 : Int) := k1
  refine z_iast rfl s1.1 s1.2 dX10_tellWords_23 ?_
  refine z_aload_n dX10_tellWords_24 rfl rfl ?_
  refine z_getfR (k := 8) flRX10_36 rfl rfl dX10_tellWords_25 ?_
  refine z_aload_n dX10_tellWords_28 rfl rfl ?_
  refine z_getfE (k := 11) (v := σ 35 11) flRX10_45 rfl rfl (zup_of (by decide)) dX10_tellWords_29 ?_
  refine z_aload_n dX10_tellWords_32 rfl rfl ?_
  refine z_aload_n dX10_tellWords_33 rfl rfl ?_
  refine z_getfR (k := 7) flRX10_33 rfl rfl dX10_tellWords_34 ?_
  refine z_bipush (x := 80) dX10_tellWords_37 (by decide +kernel) (by unfold zIn; decide) ?_
  refine z_aload_n dX10_tellWords_39 rfl rfl ?_
  refine z_getfE (k := 11) (v := σ 35 11) flRX10_45 rfl rfl (zup_of (by decide)) dX10_tellWords_40 ?_
  have s2 : -2147483648 ≤ 80 * σ 35 11 ∧ 80 * σ 35 11 < (2147483648 : Int) := k2
  refine z_imulN dX10_tellWords_43 s2 ?_
  refine z_callv (as := [zr 43, zi (80 * σ 35 11)]) (st := [zi (σ 35 11), zr 44]) mkX9_copyLetters lkRX10_55 rfl ha2 rfl (by decide) (Nat.le_of_ble_eq_true rfl) rfl dX10_tellWords_44 (k3)
set_option maxRecDepth 20000 in
set_option maxHeartbeats 1000000 in
theorem TX10_tellWords_47 {G : zG} {σ : zS} {Q : Int → zS → Prop} {r t1 : Int} {a1 a1e a2 a2e : Nat} (ha1 : zsh a1 = (4, 9, [some a1e, none, none, none])) (ha1e : zsh a1e = (2, 80, [])) (ha2 : zsh a2 = (4, 9, [some a2e, none, none, none])) (ha2e : zsh a2e = (2, 80, [])) (k1 : (0 : Int) ≤ t1 ∧ t1 < (12 : Int)) (k2 : Q 0 (zup σ 44 t1 r)) : zR G MX10_tellWords 47 [zr 35, zr a1, zr a2] [zi r, zi t1, zr 44] σ Q := by
  have s1 : (0 : Int) ≤ t1 ∧ t1 < (12 : Int) := k1
  refine z_iast rfl s1.1 s1.2 dX10_tellWords_47 ?_
  exact z_vret rfl dX10_tellWords_48 (k2)
set_option maxRecDepth 20000 in
set_option maxHeartbeats 1000000 in
theorem TX10_tellTerms {G : zG} {σ : zS} {Q : Int → zS → Prop} {a1 a2 a3 : Int}  (k1 : (0 : Int) ≤ σ 35 11 ∧ σ 35 11 < (12 : Int)) (k2 : zR G MX10_tellTerms 36 [zr 35, zi a1, zi a2, zi a3, zi (σ 35 11)] [] (zup (zup (zup σ 38 (σ 35 11) a1) 39 (σ 35 11) a2) 40 (σ 35 11) a3) Q) : zO G MX10_tellTerms [zr 35, zi a1, zi a2, zi a3] σ Q := by
  refine zO_of (ls0 := [zr 35, zi a1, zi a2, zi a3, zu]) (by decide) (Nat.le_of_ble_eq_true rfl) rfl ?_
  refine z_aload_n dX10_tellTerms_0 rfl rfl ?_
  refine z_getfR (k := 2) flRX10_18 rfl rfl dX10_tellTerms_1 ?_
  refine z_aload_n dX10_tellTerms_4 rfl rfl ?_
  refine z_getfI (k := 11) flRX10_45 rfl rfl dX10_tellTerms_5 ?_
  refine z_iload_n dX10_tellTerms_8 rfl rfl ?_
  have s1 : (0 : Int) ≤ σ 35 11 ∧ σ 35 11 < (12 : Int) := k1
  refine z_iast rfl s1.1 s1.2 dX10_tellTerms_9 ?_
  refine z_aload_n dX10_tellTerms_10 rfl rfl ?_
  refine z_getfR (k := 3) flRX10_21 rfl rfl dX10_tellTerms_11 ?_
  refine z_aload_n dX10_tellTerms_14 rfl rfl ?_
  refine z_getfE (k := 11) (v := σ 35 11) flRX10_45 rfl rfl (zup_of (by decide)) dX10_tellTerms_15 ?_
  refine z_iload_n dX10_tellTerms_18 rfl rfl ?_
  refine z_iast rfl s1.1 s1.2 dX10_tellTerms_19 ?_
  refine z_aload_n dX10_tellTerms_20 rfl rfl ?_
  refine z_getfR (k := 4) flRX10_24 rfl rfl dX10_tellTerms_21 ?_
  refine z_aload_n dX10_tellTerms_24 rfl rfl ?_
  refine z_getfE (k := 11) (v := σ 35 11) flRX10_45 rfl rfl ((zup_of (by decide)).trans (zup_of (by decide))) dX10_tellTerms_25 ?_
  refine z_iload_n dX10_tellTerms_28 rfl rfl ?_
  refine z_iast rfl s1.1 s1.2 dX10_tellTerms_29 ?_
  refine z_aload_n dX10_tellTerms_30 rfl rfl ?_
  refine z_getfE (k := 11) (v := σ 35 11) flRX10_45 rfl rfl ((zup_of (by decide)).trans ((zup_of (by decide)).trans (zup_of (by decide)))) dX10_tellTerms_31 ?_
  refine z_istore (ls' := [zr 35, zi a1, zi a2, zi a3, zi (σ 35 11)]) dX10_tellTerms_34 (by decide) rfl ?_
  exact k2
set_option maxRecDepth 20000 in
set_option maxHeartbeats 1000000 in
theorem TX10_tellTerms_36 {G : zG} {σ : zS} {Q : Int → zS → Prop} {v1 v2 v3 v4 : Int}  (k1 : (0 < v4) → -2147483648 ≤ v4 - 1 ∧ v4 - 1 < (2147483648 : Int)) (k2 : (0 < v4) → (0 : Int) ≤ v4 - 1 ∧ v4 - 1 < (12 : Int)) (k3 : (0 < v4) → (0 : Int) ≤ σ 45 (v4 - 1) ∧ σ 45 (v4 - 1) < (12 : Int)) (k4 : (0 < v4) → (v2 < σ 39 (σ 45 (v4 - 1))) → (0 : Int) ≤ v4 ∧ v4 < (12 : Int)) (k5 : (0 < v4) → (v2 < σ 39 (σ 45 (v4 - 1))) → -2147483648 ≤ v4 + (-1) ∧ v4 + (-1) < (2147483648 : Int)) (k6 : (0 < v4) → (v2 < σ 39 (σ 45 (v4 - 1))) → zR G MX10_tellTerms 36 [zr 35, zi v1, zi v2, zi v3, zi (v4 + (-1))] [] (zup σ 45 v4 (σ 45 (v4 - 1))) Q) (k7 : (v4 ≤ 0 ∨ (0 < v4 ∧ σ 39 (σ 45 (v4 - 1)) ≤ v2)) → (0 : Int) ≤ v4 ∧ v4 < (12 : Int)) (k8 : (v4 ≤ 0 ∨ (0 < v4 ∧ σ 39 (σ 45 (v4 - 1)) ≤ v2)) → -2147483648 ≤ σ 35 11 + 1 ∧ σ 35 11 + 1 < (2147483648 : Int)) (k9 : (v4 ≤ 0 ∨ (0 < v4 ∧ σ 39 (σ 45 (v4 - 1)) ≤ v2)) → Q (σ 35 11) (zup (zup σ 45 v4 (σ 35 11)) 35 11 (σ 35 11 + 1))) : zR G MX10_tellTerms 36 [zr 35, zi v1, zi v2, zi v3, zi v4] [] σ Q := by
  have J81 : (v4 ≤ 0 ∨ (0 < v4 ∧ σ 39 (σ 45 (v4 - 1)) ≤ v2)) → zR G MX10_tellTerms 81 [zr 35, zi v1, zi v2, zi v3, zi v4] [] σ Q := by
    intro h3
    refine z_aload_n dX10_tellTerms_81 rfl rfl ?_
    refine z_getfR (k := 9) flRX10_39 rfl rfl dX10_tellTerms_82 ?_
    refine z_iload dX10_tellTerms_85 rfl ?_
    refine z_aload_n dX10_tellTerms_87 rfl rfl ?_
    refine z_getfI (k := 11) flRX10_45 rfl rfl dX10_tellTerms_88 ?_
    have s7 : (0 : Int) ≤ v4 ∧ v4 < (12 : Int) := k7 h3
    refine z_iast rfl s7.1 s7.2 dX10_tellTerms_91 ?_
    refine z_aload_n dX10_tellTerms_92 rfl rfl ?_
    refine z_dup dX10_tellTerms_93 rfl ?_
    refine z_getfE (k := 11) (v := σ 35 11) flRX10_45 rfl rfl (zup_of (by decide)) dX10_tellTerms_94 ?_
    refine z_dup_x1 dX10_tellTerms_97 rfl rfl ?_
    refine z_iconst dX10_tellTerms_98 (by unfold zIn; decide) ?_
    have s8 : -2147483648 ≤ σ 35 11 + 1 ∧ σ 35 11 + 1 < (2147483648 : Int) := k8 h3
    refine z_iaddN dX10_tellTerms_99 s8 ?_
    refine z_putI (k := 11) fpRX10_45 rfl rfl dX10_tellTerms_100 ?_
    exact z_ireti rfl dX10_tellTerms_103 (k9 h3)
  refine z_iload dX10_tellTerms_36 rfl ?_
  refine z_if_le dX10_tellTerms_38 (tgt := 81) (by decide) (fun h1 => ?_) (fun h1 => ?_)
  · skip
    exact J81 (Or.inl h1)
  · skip
    refine z_aload_n dX10_tellTerms_41 rfl rfl ?_
    refine z_getfR (k := 3) flRX10_21 rfl rfl dX10_tellTerms_42 ?_
    refine z_aload_n dX10_tellTerms_45 rfl rfl ?_
    refine z_getfR (k := 9) flRX10_39 rfl rfl dX10_tellTerms_46 ?_
    refine z_iload dX10_tellTerms_49 rfl ?_
    refine z_iconst dX10_tellTerms_51 (by unfold zIn; decide) ?_
    have s1 : -2147483648 ≤ v4 - 1 ∧ v4 - 1 < (2147483648 : Int) := k1 h1
    refine z_isubN dX10_tellTerms_52 s1 ?_
    have s2 : (0 : Int) ≤ v4 - 1 ∧ v4 - 1 < (12 : Int) := k2 h1
    refine z_iald rfl s2.1 s2.2 dX10_tellTerms_53 ?_
    have s3 : (0 : Int) ≤ σ 45 (v4 - 1) ∧ σ 45 (v4 - 1) < (12 : Int) := k3 h1
    refine z_iald rfl s3.1 s3.2 dX10_tellTerms_54 ?_
    refine z_iload_n dX10_tellTerms_55 rfl rfl ?_
    refine z_icmp_le dX10_tellTerms_56 (tgt := 81) (by decide) (fun h2 => ?_) (fun h2 => ?_)
    · skip
      exact J81 (Or.inr ⟨h1, h2⟩)
    · skip
      refine z_aload_n dX10_tellTerms_59 rfl rfl ?_
      refine z_getfR (k := 9) flRX10_39 rfl rfl dX10_tellTerms_60 ?_
      refine z_iload dX10_tellTerms_63 rfl ?_
      refine z_aload_n dX10_tellTerms_65 rfl rfl ?_
      refine z_getfR (k := 9) flRX10_39 rfl rfl dX10_tellTerms_66 ?_
      refine z_iload dX10_tellTerms_69 rfl ?_
      refine z_iconst dX10_tellTerms_71 (by unfold zIn; decide) ?_
      refine z_isubN dX10_tellTerms_72 s1 ?_
      refine z_iald rfl s2.1 s2.2 dX10_tellTerms_73 ?_
      have s4 : (0 : Int) ≤ v4 ∧ v4 < (12 : Int) := k4 h1 h2
      refine z_iast rfl s4.1 s4.2 dX10_tellTerms_74 ?_
      have s5 : -2147483648 ≤ v4 + (-1) ∧ v4 + (-1) < (2147483648 : Int) := k5 h1 h2
      refine z_iincN (ls' := [zr 35, zi v1, zi v2, zi v3, zi (v4 + (-1))]) dX10_tellTerms_75 rfl (by decide) s5 rfl ?_
      refine z_goto dX10_tellTerms_78 (tgt := 36) (by decide) ?_
      exact k6 h1 h2
set_option maxRecDepth 20000 in
set_option maxHeartbeats 1000000 in
theorem TX11_amend {G : zG} {σ : zS} {Q : Int → zS → Prop} {a1 a2 a3 a4 : Int}  (k1 : (¬ ((0 ≤ a1 ∧ a1 ≤ 3))) → -2147483648 ≤ -(-1) ∧ -(-1) < (2147483648 : Int)) (k2 : (¬ ((0 ≤ a1 ∧ a1 ≤ 3))) → (0 : Int) ≤ -(-1) ∧ -(-1) < (8 : Int)) (k3 : (¬ ((0 ≤ a1 ∧ a1 ≤ 3))) → Q (-1) (zup σ 97 (-(-1)) (zW ((σ 97 (-(-1))) + 1)))) (k4 : ((0 ≤ a1 ∧ a1 ≤ 3)) → zO G MX11_rowTrouble [zr 0, zi a2] σ (fun rr σ' => zR G MX11_amend 12 [zr 0, zi a1, zi a2, zi a3, zi a4, zu] [zi rr] σ' Q)) : zO G MX11_amend [zr 0, zi a1, zi a2, zi a3, zi a4] σ Q := by
  refine zO_of (ls0 := [zr 0, zi a1, zi a2, zi a3, zi a4, zu]) (by decide) (Nat.le_of_ble_eq_true rfl) rfl ?_
  refine z_iload_n dX11_amend_0 rfl rfl ?_
  refine z_calls (as := [zi a1]) (st := []) mkX11_isStatute lkRX11_229 rfl (by decide) (Nat.le_of_ble_eq_true rfl) rfl dX11_amend_1 ?_
  refine SX11_isStatute ?_
  show zR G MX11_amend 4 [zr 0, zi a1, zi a2, zi a3, zi a4, zu] [zi (if (0 ≤ a1 ∧ a1 ≤ 3) then (1 : Int) else 0)] σ Q
  refine z_if_eq dX11_amend_4 (tgt := 23) (by decide) (fun z => ?_) (fun z => ?_)
  · have h1 : ¬ ((0 ≤ a1 ∧ a1 ≤ 3)) := zb0 z
    refine z_iconst dX11_amend_23 (by unfold zIn; decide) ?_
    refine z_istore (ls' := [zr 0, zi a1, zi a2, zi a3, zi a4, zi (-1)]) dX11_amend_24 (by decide) rfl ?_
    refine z_iload dX11_amend_26 rfl ?_
    refine z_if_eq dX11_amend_28 (tgt := 38) (by decide) (fun z => absurd z (by decide)) (fun z => ?_)
    refine z_aload_n dX11_amend_31 rfl rfl ?_
    refine z_iload dX11_amend_32 rfl ?_
    have s1 : -2147483648 ≤ -(-1) ∧ -(-1) < (2147483648 : Int) := k1 h1
    have s2 : (0 : Int) ≤ -(-1) ∧ -(-1) < (8 : Int) := k2 h1
    refine z_callv (as := [zi (-1)]) (st := []) mkX11_refuse lkRX11_132 rfl rfl rfl (by decide) (Nat.le_of_ble_eq_true rfl) rfl dX11_amend_34 ?_
    refine SX11_refuse s1 s2 ?_
    show zR G MX11_amend 37 [zr 0, zi a1, zi a2, zi a3, zi a4, zi (-1)] [zi (-1)] (zup σ 97 (-(-1)) (zW ((σ 97 (-(-1))) + 1))) Q
    exact z_ireti rfl dX11_amend_37 (k3 h1)
  · have h1 : (0 ≤ a1 ∧ a1 ≤ 3) := zb1 z
    refine z_aload_n dX11_amend_7 rfl rfl ?_
    refine z_iload_n dX11_amend_8 rfl rfl ?_
    refine z_callv (as := [zi a2]) (st := []) mkX11_rowTrouble lkRX11_198 rfl rfl rfl (by decide) (Nat.le_of_ble_eq_true rfl) rfl dX11_amend_9 (k4 h1)
set_option maxRecDepth 20000 in
set_option maxHeartbeats 1000000 in
theorem TX11_amend_12 {G : zG} {σ : zS} {Q : Int → zS → Prop} {v1 v2 v3 v4 r : Int}  (k1 : zO G MX11_rowTrouble [zr 0, zi v3] σ (fun rr σ' => zR G MX11_amend 17 [zr 0, zi v1, zi v2, zi v3, zi v4, zu] [zi rr, zi r] σ' Q)) : zR G MX11_amend 12 [zr 0, zi v1, zi v2, zi v3, zi v4, zu] [zi r] σ Q := by
  refine z_aload_n dX11_amend_12 rfl rfl ?_
  refine z_iload_n dX11_amend_13 rfl rfl ?_
  refine z_callv (as := [zi v3]) (st := [zi r]) mkX11_rowTrouble lkRX11_198 rfl rfl rfl (by decide) (Nat.le_of_ble_eq_true rfl) rfl dX11_amend_14 (k1)
set_option maxRecDepth 20000 in
set_option maxHeartbeats 1000000 in
theorem TX11_amend_17 {G : zG} {σ : zS} {Q : Int → zS → Prop} {v1 v2 v3 v4 r t1 : Int}  (k1 : zO G MX11_firstTrouble [zi t1, zi r] σ (fun rr σ' => zR G MX11_amend 20 [zr 0, zi v1, zi v2, zi v3, zi v4, zu] [zi rr] σ' Q)) : zR G MX11_amend 17 [zr 0, zi v1, zi v2, zi v3, zi v4, zu] [zi r, zi t1] σ Q := by
  refine z_calls (as := [zi t1, zi r]) (st := []) mkX11_firstTrouble lkRX11_208 rfl (by decide) (Nat.le_of_ble_eq_true rfl) rfl dX11_amend_17 (k1)
set_option maxRecDepth 20000 in
set_option maxHeartbeats 1000000 in
theorem TX11_amend_20 {G : zG} {σ : zS} {Q : Int → zS → Prop} {v1 v2 v3 v4 r : Int}  (k1 : (r = 0) → ((0 ≤ v4 ∧ v4 ≤ 40000)) → (0 : Int) ≤ v2 ∧ v2 < (10 : Int)) (k2 : (r = 0) → ((0 ≤ v4 ∧ v4 ≤ 40000)) → (σ (2 + 2 * v2.toNat) 2 ≠ 0) → (0 : Int) ≤ v3 ∧ v3 < (10 : Int)) (k3 : (r = 0) → ((0 ≤ v4 ∧ v4 ≤ 40000)) → (σ (2 + 2 * v2.toNat) 2 ≠ 0) → (σ (2 + 2 * v3.toNat) 2 ≠ 0) → (σ 35 11 ≠ 12) → zO G MX10_tellWords [zr 35, zr (2 + 2 * v2.toNat), zr (2 + 2 * v3.toNat)] σ (fun rr σ' => zR G MX11_amend 118 [zr 0, zi v1, zi v2, zi v3, zi v4, zi r] [] σ' Q)) (k4 : (r = 0) → ((0 ≤ v4 ∧ v4 ≤ 40000)) → (σ (2 + 2 * v2.toNat) 2 ≠ 0) → (σ (2 + 2 * v3.toNat) 2 ≠ 0) → (σ 35 11 = 12) → -2147483648 ≤ -(-7) ∧ -(-7) < (2147483648 : Int)) (k5 : (r = 0) → ((0 ≤ v4 ∧ v4 ≤ 40000)) → (σ (2 + 2 * v2.toNat) 2 ≠ 0) → (σ (2 + 2 * v3.toNat) 2 ≠ 0) → (σ 35 11 = 12) → (0 : Int) ≤ -(-7) ∧ -(-7) < (8 : Int)) (k6 : (r = 0) → ((0 ≤ v4 ∧ v4 ≤ 40000)) → (σ (2 + 2 * v2.toNat) 2 ≠ 0) → (σ (2 + 2 * v3.toNat) 2 ≠ 0) → (σ 35 11 = 12) → Q (-7) (zup σ 97 (-(-7)) (zW ((σ 97 (-(-7))) + 1)))) (k7 : (r ≠ 0) → -2147483648 ≤ -r ∧ -r < (2147483648 : Int)) (k8 : (r ≠ 0) → (0 : Int) ≤ -r ∧ -r < (8 : Int)) (k9 : (r ≠ 0) → Q r (zup σ 97 (-r) (zW ((σ 97 (-r)) + 1)))) (k10 : (r = 0) → ((¬ ((0 ≤ v4 ∧ v4 ≤ 40000))) ∨ (((0 ≤ v4 ∧ v4 ≤ 40000)) ∧ σ (2 + 2 * v2.toNat) 2 = 0) ∨ (((0 ≤ v4 ∧ v4 ≤ 40000)) ∧ σ (2 + 2 * v2.toNat) 2 ≠ 0 ∧ σ (2 + 2 * v3.toNat) 2 = 0)) → -2147483648 ≤ -(-6) ∧ -(-6) < (2147483648 : Int)) (k11 : (r = 0) → ((¬ ((0 ≤ v4 ∧ v4 ≤ 40000))) ∨ (((0 ≤ v4 ∧ v4 ≤ 40000)) ∧ σ (2 + 2 * v2.toNat) 2 = 0) ∨ (((0 ≤ v4 ∧ v4 ≤ 40000)) ∧ σ (2 + 2 * v2.toNat) 2 ≠ 0 ∧ σ (2 + 2 * v3.toNat) 2 = 0)) → (0 : Int) ≤ -(-6) ∧ -(-6) < (8 : Int)) (k12 : (r = 0) → ((¬ ((0 ≤ v4 ∧ v4 ≤ 40000))) ∨ (((0 ≤ v4 ∧ v4 ≤ 40000)) ∧ σ (2 + 2 * v2.toNat) 2 = 0) ∨ (((0 ≤ v4 ∧ v4 ≤ 40000)) ∧ σ (2 + 2 * v2.toNat) 2 ≠ 0 ∧ σ (2 + 2 * v3.toNat) 2 = 0)) → Q (-6) (zup σ 97 (-(-6)) (zW ((σ 97 (-(-6))) + 1)))) : zR G MX11_amend 20 [zr 0, zi v1, zi v2, zi v3, zi v4, zu] [zi r] σ Q := by
  have J73 : (r = 0) → ((¬ ((0 ≤ v4 ∧ v4 ≤ 40000))) ∨ (((0 ≤ v4 ∧ v4 ≤ 40000)) ∧ σ (2 + 2 * v2.toNat) 2 = 0) ∨ (((0 ≤ v4 ∧ v4 ≤ 40000)) ∧ σ (2 + 2 * v2.toNat) 2 ≠ 0 ∧ σ (2 + 2 * v3.toNat) 2 = 0)) → zR G MX11_amend 73 [zr 0, zi v1, zi v2, zi v3, zi v4, zi r] [] σ Q := by
    intro h1 h6
    refine z_aload_n dX11_amend_73 rfl rfl ?_
    refine z_bipush (x := (-6)) dX11_amend_74 (by decide +kernel) (by unfold zIn; decide) ?_
    have s10 : -2147483648 ≤ -(-6) ∧ -(-6) < (2147483648 : Int) := k10 h1 h6
    have s11 : (0 : Int) ≤ -(-6) ∧ -(-6) < (8 : Int) := k11 h1 h6
    refine z_callv (as := [zi (-6)]) (st := []) mkX11_refuse lkRX11_132 rfl rfl rfl (by decide) (Nat.le_of_ble_eq_true rfl) rfl dX11_amend_76 ?_
    refine SX11_refuse s10 s11 ?_
    show zR G MX11_amend 79 [zr 0, zi v1, zi v2, zi v3, zi v4, zi r] [zi (-6)] (zup σ 97 (-(-6)) (zW ((σ 97 (-(-6))) + 1))) Q
    exact z_ireti rfl dX11_amend_79 (k12 h1 h6)
  refine z_goto dX11_amend_20 (tgt := 24) (by decide) ?_
  refine z_istore (ls' := [zr 0, zi v1, zi v2, zi v3, zi v4, zi r]) dX11_amend_24 (by decide) rfl ?_
  refine z_iload dX11_amend_26 rfl ?_
  refine z_if_eq dX11_amend_28 (tgt := 38) (by decide) (fun h1 => ?_) (fun h1 => ?_)
  · skip
    refine z_iload dX11_amend_38 rfl ?_
    refine z_iconst dX11_amend_40 (by unfold zIn; decide) ?_
    refine z_ldc (x := 40000) (zin_3 (List.mem_of_getElem? (i := 89) (by decide +kernel))) (by unfold zIn; decide) dX11_amend_41 ?_
    refine z_calls (as := [zi v4, zi 0, zi 40000]) (st := []) mkX11_within lkRX11_111 rfl (by decide) (Nat.le_of_ble_eq_true rfl) rfl dX11_amend_43 ?_
    refine SX11_within ?_
    show zR G MX11_amend 46 [zr 0, zi v1, zi v2, zi v3, zi v4, zi r] [zi (if (0 ≤ v4 ∧ v4 ≤ 40000) then (1 : Int) else 0)] σ Q
    refine z_if_eq dX11_amend_46 (tgt := 73) (by decide) (fun z => ?_) (fun z => ?_)
    · have h2 : ¬ ((0 ≤ v4 ∧ v4 ≤ 40000)) := zb0 z
      exact J73 h1 (Or.inl h2)
    · have h2 : (0 ≤ v4 ∧ v4 ≤ 40000) := zb1 z
      refine z_aload_n dX11_amend_49 rfl rfl ?_
      refine z_getfR (k := 0) flRX11_11 rfl rfl dX11_amend_50 ?_
      refine z_iload_n dX11_amend_53 rfl rfl ?_
      have s1 : (0 : Int) ≤ v2 ∧ v2 < (10 : Int) := k1 h1 h2
      refine z_aald (r := 2 + 2 * v2.toNat) rfl s1.1 s1.2 (zsh_v s1.1 s1.2) dX11_amend_54 ?_
      refine z_getfI (k := 2) flRX11_235 (zsh_o s1.1 s1.2) rfl dX11_amend_55 ?_
      refine z_if_eq dX11_amend_58 (tgt := 73) (by decide) (fun h3 => ?_) (fun h3 => ?_)
      · skip
        exact J73 h1 (Or.inr (Or.inl ⟨h2, h3⟩))
      · skip
        refine z_aload_n dX11_amend_61 rfl rfl ?_
        refine z_getfR (k := 0) flRX11_11 rfl rfl dX11_amend_62 ?_
        refine z_iload_n dX11_amend_65 rfl rfl ?_
        have s2 : (0 : Int) ≤ v3 ∧ v3 < (10 : Int) := k2 h1 h2 h3
        refine z_aald (r := 2 + 2 * v3.toNat) rfl s2.1 s2.2 (zsh_v s2.1 s2.2) dX11_amend_66 ?_
        refine z_getfI (k := 2) flRX11_235 (zsh_o s2.1 s2.2) rfl dX11_amend_67 ?_
        refine z_if_ne dX11_amend_70 (tgt := 80) (by decide) (fun h4 => ?_) (fun h4 => ?_)
        · skip
          refine z_aload_n dX11_amend_80 rfl rfl ?_
          refine z_getfR (k := 2) flRX11_25 rfl rfl dX11_amend_81 ?_
          refine z_getfI (k := 11) flRX11_242 rfl rfl dX11_amend_84 ?_
          refine z_bipush (x := 12) dX11_amend_87 (by decide +kernel) (by unfold zIn; decide) ?_
          refine z_icmp_ne dX11_amend_89 (tgt := 99) (by decide) (fun h5 => ?_) (fun h5 => ?_)
          · skip
            refine z_aload_n dX11_amend_99 rfl rfl ?_
            refine z_getfR (k := 2) flRX11_25 rfl rfl dX11_amend_100 ?_
            refine z_aload_n dX11_amend_103 rfl rfl ?_
            refine z_getfR (k := 0) flRX11_11 rfl rfl dX11_amend_104 ?_
            refine z_iload_n dX11_amend_107 rfl rfl ?_
            refine z_aald (r := 2 + 2 * v2.toNat) rfl s1.1 s1.2 (zsh_v s1.1 s1.2) dX11_amend_108 ?_
            refine z_aload_n dX11_amend_109 rfl rfl ?_
            refine z_getfR (k := 0) flRX11_11 rfl rfl dX11_amend_110 ?_
            refine z_iload_n dX11_amend_113 rfl rfl ?_
            refine z_aald (r := 2 + 2 * v3.toNat) rfl s2.1 s2.2 (zsh_v s2.1 s2.2) dX11_amend_114 ?_
            refine z_callv (as := [zr (2 + 2 * v2.toNat), zr (2 + 2 * v3.toNat)]) (st := []) mkX10_tellWords lkRX11_245 rfl rfl rfl (by decide) (Nat.le_of_ble_eq_true rfl) rfl dX11_amend_115 (k3 h1 h2 h3 h4 h5)
          · skip
            refine z_aload_n dX11_amend_92 rfl rfl ?_
            refine z_bipush (x := (-7)) dX11_amend_93 (by decide +kernel) (by unfold zIn; decide) ?_
            have s4 : -2147483648 ≤ -(-7) ∧ -(-7) < (2147483648 : Int) := k4 h1 h2 h3 h4 h5
            have s5 : (0 : Int) ≤ -(-7) ∧ -(-7) < (8 : Int) := k5 h1 h2 h3 h4 h5
            refine z_callv (as := [zi (-7)]) (st := []) mkX11_refuse lkRX11_132 rfl rfl rfl (by decide) (Nat.le_of_ble_eq_true rfl) rfl dX11_amend_95 ?_
            refine SX11_refuse s4 s5 ?_
            show zR G MX11_amend 98 [zr 0, zi v1, zi v2, zi v3, zi v4, zi r] [zi (-7)] (zup σ 97 (-(-7)) (zW ((σ 97 (-(-7))) + 1))) Q
            exact z_ireti rfl dX11_amend_98 (k6 h1 h2 h3 h4 h5)
        · skip
          exact J73 h1 (Or.inr (Or.inr ⟨h2, h3, h4⟩))
  · skip
    refine z_aload_n dX11_amend_31 rfl rfl ?_
    refine z_iload dX11_amend_32 rfl ?_
    have s7 : -2147483648 ≤ -r ∧ -r < (2147483648 : Int) := k7 h1
    have s8 : (0 : Int) ≤ -r ∧ -r < (8 : Int) := k8 h1
    refine z_callv (as := [zi r]) (st := []) mkX11_refuse lkRX11_132 rfl rfl rfl (by decide) (Nat.le_of_ble_eq_true rfl) rfl dX11_amend_34 ?_
    refine SX11_refuse s7 s8 ?_
    show zR G MX11_amend 37 [zr 0, zi v1, zi v2, zi v3, zi v4, zi r] [zi r] (zup σ 97 (-r) (zW ((σ 97 (-r)) + 1))) Q
    exact z_ireti rfl dX11_amend_37 (k9 h1)
set_option maxRecDepth 20000 in
set_option maxHeartbeats 1000000 in
theorem TX11_amend_118 {G : zG} {σ : zS} {Q : Int → zS → Prop} {v1 v2 v3 v4 v5 : Int}  (k1 : zO G MX10_tellTerms [zr 35, zi v1, zi v4, zi (σ 0 13)] σ (fun rr σ' => zR G MX11_amend 132 [zr 0, zi v1, zi v2, zi v3, zi v4, zi v5] [zi rr] σ' Q)) : zR G MX11_amend 118 [zr 0, zi v1, zi v2, zi v3, zi v4, zi v5] [] σ Q := by
  refine z_aload_n dX11_amend_118 rfl rfl ?_
  refine z_getfR (k := 2) flRX11_25 rfl rfl dX11_amend_119 ?_
  refine z_iload_n dX11_amend_122 rfl rfl ?_
  refine z_iload dX11_amend_123 rfl ?_
  refine z_aload_n dX11_amend_125 rfl rfl ?_
  refine z_getfI (k := 13) flRX11_106 rfl rfl dX11_amend_126 ?_
  refine z_callv (as := [zi v1, zi v4, zi (σ 0 13)]) (st := []) mkX10_tellTerms lkRX11_249 rfl rfl rfl (by decide) (Nat.le_of_ble_eq_true rfl) rfl dX11_amend_129 (k1)
set_option maxRecDepth 20000 in
set_option maxHeartbeats 1000000 in
theorem TX11_amend_132 {G : zG} {σ : zS} {Q : Int → zS → Prop} {v1 v2 v3 v4 v5 r : Int}  (k1 : Q r σ) : zR G MX11_amend 132 [zr 0, zi v1, zi v2, zi v3, zi v4, zi v5] [zi r] σ Q := by
  exact z_ireti rfl dX11_amend_132 (k1)
set_option maxRecDepth 20000 in
set_option maxHeartbeats 1000000 in
theorem TX11_words {G : zG} {σ : zS} {Q : Int → zS → Prop} {a1 a2 a3 a4 : Int}  (k1 : ((0 ≤ a1 ∧ a1 ≤ 3)) → zO G MX10_compose [zr 35, zi a1, zi a2, zi a3] σ (fun rr σ' => zR G MX11_words 19 [zr 0, zi a1, zi a2, zi a3, zi a4] [] σ' Q)) (k2 : (¬ ((0 ≤ a1 ∧ a1 ≤ 3))) → Q (-1) σ) : zO G MX11_words [zr 0, zi a1, zi a2, zi a3, zi a4] σ Q := by
  refine zO_of (ls0 := [zr 0, zi a1, zi a2, zi a3, zi a4]) (by decide) (Nat.le_of_ble_eq_true rfl) rfl ?_
  refine z_iload_n dX11_words_0 rfl rfl ?_
  refine z_calls (as := [zi a1]) (st := []) mkX11_isStatute lkRX11_229 rfl (by decide) (Nat.le_of_ble_eq_true rfl) rfl dX11_words_1 ?_
  refine SX11_isStatute ?_
  show zR G MX11_words 4 [zr 0, zi a1, zi a2, zi a3, zi a4] [zi (if (0 ≤ a1 ∧ a1 ≤ 3) then (1 : Int) else 0)] σ Q
  refine z_if_ne dX11_words_4 (tgt := 9) (by decide) (fun z => ?_) (fun z => ?_)
  · have h1 : (0 ≤ a1 ∧ a1 ≤ 3) := zb1 z
    refine z_aload_n dX11_words_9 rfl rfl ?_
    refine z_getfR (k := 2) flRX11_25 rfl rfl dX11_words_10 ?_
    refine z_iload_n dX11_words_13 rfl rfl ?_
    refine z_iload_n dX11_words_14 rfl rfl ?_
    refine z_iload_n dX11_words_15 rfl rfl ?_
    refine z_callv (as := [zi a1, zi a2, zi a3]) (st := []) mkX10_compose lkRX11_252 rfl rfl rfl (by decide) (Nat.le_of_ble_eq_true rfl) rfl dX11_words_16 (k1 h1)
  · have h1 : ¬ ((0 ≤ a1 ∧ a1 ≤ 3)) := zb0 z
    refine z_iconst dX11_words_7 (by unfold zIn; decide) ?_
    exact z_ireti rfl dX11_words_8 (k2 h1)
set_option maxRecDepth 20000 in
set_option maxHeartbeats 1000000 in
theorem TX11_words_19 {G : zG} {σ : zS} {Q : Int → zS → Prop} {v1 v2 v3 v4 : Int}  (k1 : (v4 ≠ (-1)) → -2147483648 ≤ σ 35 12 - 1 ∧ σ 35 12 - 1 < (2147483648 : Int)) (k2 : (v4 ≠ (-1)) → (¬ ((0 ≤ v4 ∧ v4 ≤ (σ 35 12 - 1)))) → Q (-1) σ) (k3 : (v4 ≠ (-1)) → ((0 ≤ v4 ∧ v4 ≤ (σ 35 12 - 1))) → (0 : Int) ≤ v4 ∧ v4 < (200 : Int)) (k4 : (v4 ≠ (-1)) → ((0 ≤ v4 ∧ v4 ≤ (σ 35 12 - 1))) → Q (σ 46 v4) σ) (k5 : (v4 = (-1)) → Q (σ 35 12) σ) : zR G MX11_words 19 [zr 0, zi v1, zi v2, zi v3, zi v4] [] σ Q := by
  refine z_iload dX11_words_19 rfl ?_
  refine z_iconst dX11_words_21 (by unfold zIn; decide) ?_
  refine z_icmp_ne dX11_words_22 (tgt := 33) (by decide) (fun h1 => ?_) (fun h1 => ?_)
  · skip
    refine z_iload dX11_words_33 rfl ?_
    refine z_iconst dX11_words_35 (by unfold zIn; decide) ?_
    refine z_aload_n dX11_words_36 rfl rfl ?_
    refine z_getfR (k := 2) flRX11_25 rfl rfl dX11_words_37 ?_
    refine z_getfI (k := 12) flRX11_256 rfl rfl dX11_words_40 ?_
    refine z_iconst dX11_words_43 (by unfold zIn; decide) ?_
    have s1 : -2147483648 ≤ σ 35 12 - 1 ∧ σ 35 12 - 1 < (2147483648 : Int) := k1 h1
    refine z_isubN dX11_words_44 s1 ?_
    refine z_calls (as := [zi v4, zi 0, zi (σ 35 12 - 1)]) (st := []) mkX11_within lkRX11_111 rfl (by decide) (Nat.le_of_ble_eq_true rfl) rfl dX11_words_45 ?_
    refine SX11_within ?_
    show zR G MX11_words 48 [zr 0, zi v1, zi v2, zi v3, zi v4] [zi (if (0 ≤ v4 ∧ v4 ≤ (σ 35 12 - 1)) then (1 : Int) else 0)] σ Q
    refine z_if_eq dX11_words_48 (tgt := 64) (by decide) (fun z => ?_) (fun z => ?_)
    · have h2 : ¬ ((0 ≤ v4 ∧ v4 ≤ (σ 35 12 - 1))) := zb0 z
      refine z_iconst dX11_words_64 (by unfold zIn; decide) ?_
      exact z_ireti rfl dX11_words_65 (k2 h1 h2)
    · have h2 : (0 ≤ v4 ∧ v4 ≤ (σ 35 12 - 1)) := zb1 z
      refine z_aload_n dX11_words_51 rfl rfl ?_
      refine z_getfR (k := 2) flRX11_25 rfl rfl dX11_words_52 ?_
      refine z_getfR (k := 10) flRX11_257 rfl rfl dX11_words_55 ?_
      refine z_iload dX11_words_58 rfl ?_
      have s3 : (0 : Int) ≤ v4 ∧ v4 < (200 : Int) := k3 h1 h2
      refine z_iald rfl s3.1 s3.2 dX11_words_60 ?_
      refine z_goto dX11_words_61 (tgt := 65) (by decide) ?_
      exact z_ireti rfl dX11_words_65 (k4 h1 h2)
  · skip
    refine z_aload_n dX11_words_25 rfl rfl ?_
    refine z_getfR (k := 2) flRX11_25 rfl rfl dX11_words_26 ?_
    refine z_getfI (k := 12) flRX11_256 rfl rfl dX11_words_29 ?_
    exact z_ireti rfl dX11_words_32 (k5 h1)
set_option maxRecDepth 20000 in
set_option maxHeartbeats 1000000 in
theorem TX11_gone {G : zG} {σ : zS} {Q : Int → zS → Prop} {a1 a2 a3 : Int}  (k1 : -2147483648 ≤ σ 35 11 - 1 ∧ σ 35 11 - 1 < (2147483648 : Int)) (k2 : ((0 ≤ a1 ∧ a1 ≤ (σ 35 11 - 1))) → (0 : Int) ≤ a1 ∧ a1 < (12 : Int)) (k3 : ((0 ≤ a1 ∧ a1 ≤ (σ 35 11 - 1))) → ((σ 40 a1 ≤ a3 ∧ σ 39 a1 ≤ a2)) → zO G MX10_compose [zr 35, zi (σ 38 a1), zi a2, zi a3] σ (fun rr σ' => zR G MX11_gone 50 [zr 0, zi a1, zi a2, zi a3] [] σ' Q)) (k4 : ((¬ ((0 ≤ a1 ∧ a1 ≤ (σ 35 11 - 1)))) ∨ (((0 ≤ a1 ∧ a1 ≤ (σ 35 11 - 1))) ∧ (¬ ((σ 40 a1 ≤ a3 ∧ σ 39 a1 ≤ a2))))) → Q (-1) σ) : zO G MX11_gone [zr 0, zi a1, zi a2, zi a3] σ Q := by
  refine zO_of (ls0 := [zr 0, zi a1, zi a2, zi a3]) (by decide) (Nat.le_of_ble_eq_true rfl) rfl ?_
  have J30 : ((¬ ((0 ≤ a1 ∧ a1 ≤ (σ 35 11 - 1)))) ∨ (((0 ≤ a1 ∧ a1 ≤ (σ 35 11 - 1))) ∧ (¬ ((σ 40 a1 ≤ a3 ∧ σ 39 a1 ≤ a2))))) → zR G MX11_gone 30 [zr 0, zi a1, zi a2, zi a3] [] σ Q := by
    intro h3
    refine z_iconst dX11_gone_30 (by unfold zIn; decide) ?_
    exact z_ireti rfl dX11_gone_31 (k4 h3)
  refine z_iload_n dX11_gone_0 rfl rfl ?_
  refine z_iconst dX11_gone_1 (by unfold zIn; decide) ?_
  refine z_aload_n dX11_gone_2 rfl rfl ?_
  refine z_getfR (k := 2) flRX11_25 rfl rfl dX11_gone_3 ?_
  refine z_getfI (k := 11) flRX11_242 rfl rfl dX11_gone_6 ?_
  refine z_iconst dX11_gone_9 (by unfold zIn; decide) ?_
  have s1 : -2147483648 ≤ σ 35 11 - 1 ∧ σ 35 11 - 1 < (2147483648 : Int) := k1
  refine z_isubN dX11_gone_10 s1 ?_
  refine z_calls (as := [zi a1, zi 0, zi (σ 35 11 - 1)]) (st := []) mkX11_within lkRX11_111 rfl (by decide) (Nat.le_of_ble_eq_true rfl) rfl dX11_gone_11 ?_
  refine SX11_within ?_
  show zR G MX11_gone 14 [zr 0, zi a1, zi a2, zi a3] [zi (if (0 ≤ a1 ∧ a1 ≤ (σ 35 11 - 1)) then (1 : Int) else 0)] σ Q
  refine z_if_eq dX11_gone_14 (tgt := 30) (by decide) (fun z => ?_) (fun z => ?_)
  · have h1 : ¬ ((0 ≤ a1 ∧ a1 ≤ (σ 35 11 - 1))) := zb0 z
    exact J30 (Or.inl h1)
  · have h1 : (0 ≤ a1 ∧ a1 ≤ (σ 35 11 - 1)) := zb1 z
    refine z_aload_n dX11_gone_17 rfl rfl ?_
    refine z_getfR (k := 2) flRX11_25 rfl rfl dX11_gone_18 ?_
    refine z_iload_n dX11_gone_21 rfl rfl ?_
    refine z_iload_n dX11_gone_22 rfl rfl ?_
    refine z_iload_n dX11_gone_23 rfl rfl ?_
    have s2 : (0 : Int) ≤ a1 ∧ a1 < (12 : Int) := k2 h1
    refine z_callv (as := [zi a1, zi a2, zi a3]) (st := []) mkX10_inForce lkRX11_260 rfl rfl rfl (by decide) (Nat.le_of_ble_eq_true rfl) rfl dX11_gone_24 ?_
    refine SX10_inForce s2 ?_
    show zR G MX11_gone 27 [zr 0, zi a1, zi a2, zi a3] [zi (if (σ 40 a1 ≤ a3 ∧ σ 39 a1 ≤ a2) then (1 : Int) else 0)] σ Q
    refine z_if_ne dX11_gone_27 (tgt := 32) (by decide) (fun z => ?_) (fun z => ?_)
    · have h2 : (σ 40 a1 ≤ a3 ∧ σ 39 a1 ≤ a2) := zb1 z
      refine z_aload_n dX11_gone_32 rfl rfl ?_
      refine z_getfR (k := 2) flRX11_25 rfl rfl dX11_gone_33 ?_
      refine z_aload_n dX11_gone_36 rfl rfl ?_
      refine z_getfR (k := 2) flRX11_25 rfl rfl dX11_gone_37 ?_
      refine z_getfR (k := 2) flRX11_263 rfl rfl dX11_gone_40 ?_
      refine z_iload_n dX11_gone_43 rfl rfl ?_
      refine z_iald rfl s2.1 s2.2 dX11_gone_44 ?_
      refine z_iload_n dX11_gone_45 rfl rfl ?_
      refine z_iload_n dX11_gone_46 rfl rfl ?_
      refine z_callv (as := [zi (σ 38 a1), zi a2, zi a3]) (st := []) mkX10_compose lkRX11_252 rfl rfl rfl (by decide) (Nat.le_of_ble_eq_true rfl) rfl dX11_gone_47 (k3 h1 h2)
    · have h2 : ¬ ((σ 40 a1 ≤ a3 ∧ σ 39 a1 ≤ a2)) := zb0 z
      exact J30 (Or.inr ⟨h1, h2⟩)
set_option maxRecDepth 20000 in
set_option maxHeartbeats 1000000 in
theorem TX11_gone_50 {G : zG} {σ : zS} {Q : Int → zS → Prop} {v1 v2 v3 : Int}  (k1 : Q (zand (zushr (σ 35 13) v1) 1) σ) : zR G MX11_gone 50 [zr 0, zi v1, zi v2, zi v3] [] σ Q := by
  refine z_aload_n dX11_gone_50 rfl rfl ?_
  refine z_getfR (k := 2) flRX11_25 rfl rfl dX11_gone_51 ?_
  refine z_getfI (k := 13) flRX11_266 rfl rfl dX11_gone_54 ?_
  refine z_iload_n dX11_gone_57 rfl rfl ?_
  refine z_iushr dX11_gone_58 ?_
  refine z_iconst dX11_gone_59 (by unfold zIn; decide) ?_
  refine z_iand dX11_gone_60 ?_
  exact z_ireti rfl dX11_gone_61 (k1)
set_option maxRecDepth 20000 in
set_option maxHeartbeats 1000000 in
theorem TX11_fault {G : zG} {σ : zS} {Q : Int → zS → Prop} {a1 a2 a3 : Int}  (k1 : ((0 ≤ a1 ∧ a1 ≤ 3)) → zO G MX3_weigh [zr 47, zi (-1), zi a1, zi a2, zi a3, zi (-1)] σ (fun rr σ' => zR G MX11_fault 21 [zr 0, zi a1, zi a2, zi a3] [zi rr] σ' Q)) (k2 : (¬ ((0 ≤ a1 ∧ a1 ≤ 3))) → Q (-1) σ) : zO G MX11_fault [zr 0, zi a1, zi a2, zi a3] σ Q := by
  refine zO_of (ls0 := [zr 0, zi a1, zi a2, zi a3]) (by decide) (Nat.le_of_ble_eq_true rfl) rfl ?_
  refine z_iload_n dX11_fault_0 rfl rfl ?_
  refine z_calls (as := [zi a1]) (st := []) mkX11_isStatute lkRX11_229 rfl (by decide) (Nat.le_of_ble_eq_true rfl) rfl dX11_fault_1 ?_
  refine SX11_isStatute ?_
  show zR G MX11_fault 4 [zr 0, zi a1, zi a2, zi a3] [zi (if (0 ≤ a1 ∧ a1 ≤ 3) then (1 : Int) else 0)] σ Q
  refine z_if_ne dX11_fault_4 (tgt := 9) (by decide) (fun z => ?_) (fun z => ?_)
  · have h1 : (0 ≤ a1 ∧ a1 ≤ 3) := zb1 z
    refine z_aload_n dX11_fault_9 rfl rfl ?_
    refine z_getfR (k := 3) flRX11_34 rfl rfl dX11_fault_10 ?_
    refine z_iconst dX11_fault_13 (by unfold zIn; decide) ?_
    refine z_iload_n dX11_fault_14 rfl rfl ?_
    refine z_iload_n dX11_fault_15 rfl rfl ?_
    refine z_iload_n dX11_fault_16 rfl rfl ?_
    refine z_iconst dX11_fault_17 (by unfold zIn; decide) ?_
    refine z_callv (as := [zi (-1), zi a1, zi a2, zi a3, zi (-1)]) (st := []) mkX3_weigh lkRX11_269 rfl rfl rfl (by decide) (Nat.le_of_ble_eq_true rfl) rfl dX11_fault_18 (k1 h1)
  · have h1 : ¬ ((0 ≤ a1 ∧ a1 ≤ 3)) := zb0 z
    refine z_iconst dX11_fault_7 (by unfold zIn; decide) ?_
    exact z_ireti rfl dX11_fault_8 (k2 h1)
set_option maxRecDepth 20000 in
set_option maxHeartbeats 1000000 in
theorem TX11_fault_21 {G : zG} {σ : zS} {Q : Int → zS → Prop} {v1 v2 v3 r : Int}  (k1 : Q (σ 47 13) σ) : zR G MX11_fault 21 [zr 0, zi v1, zi v2, zi v3] [zi r] σ Q := by
  refine z_pop dX11_fault_21 rfl ?_
  refine z_aload_n dX11_fault_22 rfl rfl ?_
  refine z_getfR (k := 3) flRX11_34 rfl rfl dX11_fault_23 ?_
  refine z_getfI (k := 13) flRX11_273 rfl rfl dX11_fault_26 ?_
  exact z_ireti rfl dX11_fault_29 (k1)
set_option maxRecDepth 20000 in
set_option maxHeartbeats 1000000 in
theorem TX11_may {G : zG} {σ : zS} {Q : Int → zS → Prop} {a1 a2 a3 a4 : Int}  (k1 : ((0 ≤ a1 ∧ a1 < σ 22 12)) → ((0 ≤ a2 ∧ a2 ≤ 3)) → zO G MX3_weigh [zr 47, zi a1, zi a2, zi a3, zi a4, zi (-1)] σ (fun rr σ' => zR G MX11_may 31 [zr 0, zi a1, zi a2, zi a3, zi a4] [zi rr] σ' Q)) (k2 : ((¬ ((0 ≤ a1 ∧ a1 < σ 22 12))) ∨ (((0 ≤ a1 ∧ a1 < σ 22 12)) ∧ (¬ ((0 ≤ a2 ∧ a2 ≤ 3))))) → Q (-1) σ) : zO G MX11_may [zr 0, zi a1, zi a2, zi a3, zi a4] σ Q := by
  refine zO_of (ls0 := [zr 0, zi a1, zi a2, zi a3, zi a4]) (by decide) (Nat.le_of_ble_eq_true rfl) rfl ?_
  have J34 : ((¬ ((0 ≤ a1 ∧ a1 < σ 22 12))) ∨ (((0 ≤ a1 ∧ a1 < σ 22 12)) ∧ (¬ ((0 ≤ a2 ∧ a2 ≤ 3))))) → zR G MX11_may 34 [zr 0, zi a1, zi a2, zi a3, zi a4] [] σ Q := by
    intro h3
    refine z_iconst dX11_may_34 (by unfold zIn; decide) ?_
    exact z_ireti rfl dX11_may_35 (k2 h3)
  refine z_aload_n dX11_may_0 rfl rfl ?_
  refine z_getfR (k := 1) flRX11_18 rfl rfl dX11_may_1 ?_
  refine z_iload_n dX11_may_4 rfl rfl ?_
  refine z_callv (as := [zi a1]) (st := []) mkX5_has lkRX11_146 rfl rfl rfl (by decide) (Nat.le_of_ble_eq_true rfl) rfl dX11_may_5 ?_
  refine SX5_has ?_
  show zR G MX11_may 8 [zr 0, zi a1, zi a2, zi a3, zi a4] [zi (if (0 ≤ a1 ∧ a1 < σ 22 12) then (1 : Int) else 0)] σ Q
  refine z_if_eq dX11_may_8 (tgt := 34) (by decide) (fun z => ?_) (fun z => ?_)
  · have h1 : ¬ ((0 ≤ a1 ∧ a1 < σ 22 12)) := zb0 z
    exact J34 (Or.inl h1)
  · have h1 : (0 ≤ a1 ∧ a1 < σ 22 12) := zb1 z
    refine z_iload_n dX11_may_11 rfl rfl ?_
    refine z_calls (as := [zi a2]) (st := []) mkX11_isStatute lkRX11_229 rfl (by decide) (Nat.le_of_ble_eq_true rfl) rfl dX11_may_12 ?_
    refine SX11_isStatute ?_
    show zR G MX11_may 15 [zr 0, zi a1, zi a2, zi a3, zi a4] [zi (if (0 ≤ a2 ∧ a2 ≤ 3) then (1 : Int) else 0)] σ Q
    refine z_if_eq dX11_may_15 (tgt := 34) (by decide) (fun z => ?_) (fun z => ?_)
    · have h2 : ¬ ((0 ≤ a2 ∧ a2 ≤ 3)) := zb0 z
      exact J34 (Or.inr ⟨h1, h2⟩)
    · have h2 : (0 ≤ a2 ∧ a2 ≤ 3) := zb1 z
      refine z_aload_n dX11_may_18 rfl rfl ?_
      refine z_getfR (k := 3) flRX11_34 rfl rfl dX11_may_19 ?_
      refine z_iload_n dX11_may_22 rfl rfl ?_
      refine z_iload_n dX11_may_23 rfl rfl ?_
      refine z_iload_n dX11_may_24 rfl rfl ?_
      refine z_iload dX11_may_25 rfl ?_
      refine z_iconst dX11_may_27 (by unfold zIn; decide) ?_
      refine z_callv (as := [zi a1, zi a2, zi a3, zi a4, zi (-1)]) (st := []) mkX3_weigh lkRX11_269 rfl rfl rfl (by decide) (Nat.le_of_ble_eq_true rfl) rfl dX11_may_28 (k1 h1 h2)
set_option maxRecDepth 20000 in
set_option maxHeartbeats 1000000 in
theorem TX11_may_31 {G : zG} {σ : zS} {Q : Int → zS → Prop} {v1 v2 v3 v4 r : Int}  (k1 : Q r σ) : zR G MX11_may 31 [zr 0, zi v1, zi v2, zi v3, zi v4] [zi r] σ Q := by
  refine z_goto dX11_may_31 (tgt := 35) (by decide) ?_
  exact z_ireti rfl dX11_may_35 (k1)
set_option maxRecDepth 20000 in
set_option maxHeartbeats 1000000 in
theorem TX11_test {G : zG} {σ : zS} {Q : Int → zS → Prop} {a1 a2 a3 a4 a5 : Int}  (k1 : ((0 ≤ a1 ∧ a1 < σ 22 12)) → ((0 ≤ a2 ∧ a2 ≤ 3)) → zO G MX3_weigh [zr 47, zi a1, zi a2, zi a3, zi a4, zi a5] σ (fun rr σ' => zR G MX11_test 34 [zr 0, zi a1, zi a2, zi a3, zi a4, zi a5] [zi rr] σ' Q)) (k2 : ((¬ ((0 ≤ a1 ∧ a1 < σ 22 12))) ∨ (((0 ≤ a1 ∧ a1 < σ 22 12)) ∧ (¬ ((0 ≤ a2 ∧ a2 ≤ 3))))) → Q (-1) σ) : zO G MX11_test [zr 0, zi a1, zi a2, zi a3, zi a4, zi a5] σ Q := by
  refine zO_of (ls0 := [zr 0, zi a1, zi a2, zi a3, zi a4, zi a5]) (by decide) (Nat.le_of_ble_eq_true rfl) rfl ?_
  have J18 : ((¬ ((0 ≤ a1 ∧ a1 < σ 22 12))) ∨ (((0 ≤ a1 ∧ a1 < σ 22 12)) ∧ (¬ ((0 ≤ a2 ∧ a2 ≤ 3))))) → zR G MX11_test 18 [zr 0, zi a1, zi a2, zi a3, zi a4, zi a5] [] σ Q := by
    intro h3
    refine z_iconst dX11_test_18 (by unfold zIn; decide) ?_
    exact z_ireti rfl dX11_test_19 (k2 h3)
  refine z_aload_n dX11_test_0 rfl rfl ?_
  refine z_getfR (k := 1) flRX11_18 rfl rfl dX11_test_1 ?_
  refine z_iload_n dX11_test_4 rfl rfl ?_
  refine z_callv (as := [zi a1]) (st := []) mkX5_has lkRX11_146 rfl rfl rfl (by decide) (Nat.le_of_ble_eq_true rfl) rfl dX11_test_5 ?_
  refine SX5_has ?_
  show zR G MX11_test 8 [zr 0, zi a1, zi a2, zi a3, zi a4, zi a5] [zi (if (0 ≤ a1 ∧ a1 < σ 22 12) then (1 : Int) else 0)] σ Q
  refine z_if_eq dX11_test_8 (tgt := 18) (by decide) (fun z => ?_) (fun z => ?_)
  · have h1 : ¬ ((0 ≤ a1 ∧ a1 < σ 22 12)) := zb0 z
    exact J18 (Or.inl h1)
  · have h1 : (0 ≤ a1 ∧ a1 < σ 22 12) := zb1 z
    refine z_iload_n dX11_test_11 rfl rfl ?_
    refine z_calls (as := [zi a2]) (st := []) mkX11_isStatute lkRX11_229 rfl (by decide) (Nat.le_of_ble_eq_true rfl) rfl dX11_test_12 ?_
    refine SX11_isStatute ?_
    show zR G MX11_test 15 [zr 0, zi a1, zi a2, zi a3, zi a4, zi a5] [zi (if (0 ≤ a2 ∧ a2 ≤ 3) then (1 : Int) else 0)] σ Q
    refine z_if_ne dX11_test_15 (tgt := 20) (by decide) (fun z => ?_) (fun z => ?_)
    · have h2 : (0 ≤ a2 ∧ a2 ≤ 3) := zb1 z
      refine z_aload_n dX11_test_20 rfl rfl ?_
      refine z_getfR (k := 3) flRX11_34 rfl rfl dX11_test_21 ?_
      refine z_iload_n dX11_test_24 rfl rfl ?_
      refine z_iload_n dX11_test_25 rfl rfl ?_
      refine z_iload_n dX11_test_26 rfl rfl ?_
      refine z_iload dX11_test_27 rfl ?_
      refine z_iload dX11_test_29 rfl ?_
      refine z_callv (as := [zi a1, zi a2, zi a3, zi a4, zi a5]) (st := []) mkX3_weigh lkRX11_269 rfl rfl rfl (by decide) (Nat.le_of_ble_eq_true rfl) rfl dX11_test_31 (k1 h1 h2)
    · have h2 : ¬ ((0 ≤ a2 ∧ a2 ≤ 3)) := zb0 z
      exact J18 (Or.inr ⟨h1, h2⟩)
set_option maxRecDepth 20000 in
set_option maxHeartbeats 1000000 in
theorem TX11_test_34 {G : zG} {σ : zS} {Q : Int → zS → Prop} {v1 v2 v3 v4 v5 r : Int}  (k1 : (σ 47 13 ≠ (-1)) → Q (-1) σ) (k2 : (σ 47 13 = (-1)) → Q (σ 47 12) σ) : zR G MX11_test 34 [zr 0, zi v1, zi v2, zi v3, zi v4, zi v5] [zi r] σ Q := by
  refine z_pop dX11_test_34 rfl ?_
  refine z_aload_n dX11_test_35 rfl rfl ?_
  refine z_getfR (k := 3) flRX11_34 rfl rfl dX11_test_36 ?_
  refine z_getfI (k := 13) flRX11_273 rfl rfl dX11_test_39 ?_
  refine z_iconst dX11_test_42 (by unfold zIn; decide) ?_
  refine z_icmp_ne dX11_test_43 (tgt := 56) (by decide) (fun h1 => ?_) (fun h1 => ?_)
  · skip
    refine z_iconst dX11_test_56 (by unfold zIn; decide) ?_
    exact z_ireti rfl dX11_test_57 (k1 h1)
  · skip
    refine z_aload_n dX11_test_46 rfl rfl ?_
    refine z_getfR (k := 3) flRX11_34 rfl rfl dX11_test_47 ?_
    refine z_getfI (k := 12) flRX11_276 rfl rfl dX11_test_50 ?_
    refine z_goto dX11_test_53 (tgt := 57) (by decide) ?_
    exact z_ireti rfl dX11_test_57 (k2 h1)
set_option maxRecDepth 20000 in
set_option maxHeartbeats 1000000 in
theorem TX11_place {G : zG} {σ : zS} {Q : Int → zS → Prop} {a1 : Int}  (k1 : ((0 ≤ a1 ∧ a1 ≤ 3)) → (σ 52 7 ≠ 12) → (0 : Int) ≤ σ 52 7 ∧ σ 52 7 < (12 : Int)) (k2 : ((0 ≤ a1 ∧ a1 ≤ 3)) → (σ 52 7 ≠ 12) → (0 : Int) ≤ (σ 52 7) ∧ (σ 52 7) < (12 : Int)) (k3 : ((0 ≤ a1 ∧ a1 ≤ 3)) → (σ 52 7 ≠ 12) → -2147483648 ≤ σ 52 7 + 1 ∧ σ 52 7 + 1 < (2147483648 : Int)) (k4 : ((0 ≤ a1 ∧ a1 ≤ 3)) → (σ 52 7 ≠ 12) → Q (σ 52 7) (zup (zup (zup (zup (zup σ 53 (σ 52 7) a1) 54 (σ 52 7) (-1)) 55 (σ 52 7) (-1)) 56 (σ 52 7) (-1)) 52 7 (σ 52 7 + 1))) (k5 : ((0 ≤ a1 ∧ a1 ≤ 3)) → (σ 52 7 = 12) → -2147483648 ≤ -(-7) ∧ -(-7) < (2147483648 : Int)) (k6 : ((0 ≤ a1 ∧ a1 ≤ 3)) → (σ 52 7 = 12) → (0 : Int) ≤ -(-7) ∧ -(-7) < (8 : Int)) (k7 : ((0 ≤ a1 ∧ a1 ≤ 3)) → (σ 52 7 = 12) → Q (-7) (zup σ 97 (-(-7)) (zW ((σ 97 (-(-7))) + 1)))) (k8 : (¬ ((0 ≤ a1 ∧ a1 ≤ 3))) → -2147483648 ≤ -(-1) ∧ -(-1) < (2147483648 : Int)) (k9 : (¬ ((0 ≤ a1 ∧ a1 ≤ 3))) → (0 : Int) ≤ -(-1) ∧ -(-1) < (8 : Int)) (k10 : (¬ ((0 ≤ a1 ∧ a1 ≤ 3))) → Q (-1) (zup σ 97 (-(-1)) (zW ((σ 97 (-(-1))) + 1)))) : zO G MX11_place [zr 0, zi a1] σ Q := by
  refine zO_of (ls0 := [zr 0, zi a1]) (by decide) (Nat.le_of_ble_eq_true rfl) rfl ?_
  refine z_iload_n dX11_place_0 rfl rfl ?_
  refine z_calls (as := [zi a1]) (st := []) mkX11_isStatute lkRX11_229 rfl (by decide) (Nat.le_of_ble_eq_true rfl) rfl dX11_place_1 ?_
  refine SX11_isStatute ?_
  show zR G MX11_place 4 [zr 0, zi a1] [zi (if (0 ≤ a1 ∧ a1 ≤ 3) then (1 : Int) else 0)] σ Q
  refine z_if_ne dX11_place_4 (tgt := 13) (by decide) (fun z => ?_) (fun z => ?_)
  · have h1 : (0 ≤ a1 ∧ a1 ≤ 3) := zb1 z
    refine z_aload_n dX11_place_13 rfl rfl ?_
    refine z_getfR (k := 4) flRX11_43 rfl rfl dX11_place_14 ?_
    refine z_getfI (k := 7) flRX11_279 rfl rfl dX11_place_17 ?_
    refine z_bipush (x := 12) dX11_place_20 (by decide +kernel) (by unfold zIn; decide) ?_
    refine z_icmp_ne dX11_place_22 (tgt := 34) (by decide) (fun h2 => ?_) (fun h2 => ?_)
    · skip
      refine z_aload_n dX11_place_34 rfl rfl ?_
      refine z_getfR (k := 4) flRX11_43 rfl rfl dX11_place_35 ?_
      refine z_iload_n dX11_place_38 rfl rfl ?_
      have s1 : (0 : Int) ≤ σ 52 7 ∧ σ 52 7 < (12 : Int) := k1 h1 h2
      have s2 : (0 : Int) ≤ (σ 52 7) ∧ (σ 52 7) < (12 : Int) := k2 h1 h2
      have s3 : -2147483648 ≤ σ 52 7 + 1 ∧ σ 52 7 + 1 < (2147483648 : Int) := k3 h1 h2
      refine z_callv (as := [zi a1]) (st := []) mkX6_add lkRX11_280 rfl rfl rfl (by decide) (Nat.le_of_ble_eq_true rfl) rfl dX11_place_39 ?_
      refine SX6_add s1 s2 s3 ?_
      show zR G MX11_place 42 [zr 0, zi a1] [zi (σ 52 7)] (zup (zup (zup (zup (zup σ 53 (σ 52 7) a1) 54 (σ 52 7) (-1)) 55 (σ 52 7) (-1)) 56 (σ 52 7) (-1)) 52 7 (σ 52 7 + 1)) Q
      exact z_ireti rfl dX11_place_42 (k4 h1 h2)
    · skip
      refine z_aload_n dX11_place_25 rfl rfl ?_
      refine z_bipush (x := (-7)) dX11_place_26 (by decide +kernel) (by unfold zIn; decide) ?_
      have s5 : -2147483648 ≤ -(-7) ∧ -(-7) < (2147483648 : Int) := k5 h1 h2
      have s6 : (0 : Int) ≤ -(-7) ∧ -(-7) < (8 : Int) := k6 h1 h2
      refine z_callv (as := [zi (-7)]) (st := []) mkX11_refuse lkRX11_132 rfl rfl rfl (by decide) (Nat.le_of_ble_eq_true rfl) rfl dX11_place_28 ?_
      refine SX11_refuse s5 s6 ?_
      show zR G MX11_place 31 [zr 0, zi a1] [zi (-7)] (zup σ 97 (-(-7)) (zW ((σ 97 (-(-7))) + 1))) Q
      refine z_goto dX11_place_31 (tgt := 42) (by decide) ?_
      exact z_ireti rfl dX11_place_42 (k7 h1 h2)
  · have h1 : ¬ ((0 ≤ a1 ∧ a1 ≤ 3)) := zb0 z
    refine z_aload_n dX11_place_7 rfl rfl ?_
    refine z_iconst dX11_place_8 (by unfold zIn; decide) ?_
    have s8 : -2147483648 ≤ -(-1) ∧ -(-1) < (2147483648 : Int) := k8 h1
    have s9 : (0 : Int) ≤ -(-1) ∧ -(-1) < (8 : Int) := k9 h1
    refine z_callv (as := [zi (-1)]) (st := []) mkX11_refuse lkRX11_132 rfl rfl rfl (by decide) (Nat.le_of_ble_eq_true rfl) rfl dX11_place_9 ?_
    refine SX11_refuse s8 s9 ?_
    show zR G MX11_place 12 [zr 0, zi a1] [zi (-1)] (zup σ 97 (-(-1)) (zW ((σ 97 (-(-1))) + 1))) Q
    exact z_ireti rfl dX11_place_12 (k10 h1)
set_option maxRecDepth 20000 in
set_option maxHeartbeats 1000000 in
theorem TX11_grace {G : zG} {σ : zS} {Q : Int → zS → Prop} {a1 : Int}  (k1 : ((0 ≤ a1 ∧ a1 ≤ 4000)) → Q (σ 52 8) (zup σ 52 8 a1)) (k2 : (¬ ((0 ≤ a1 ∧ a1 ≤ 4000))) → -2147483648 ≤ -(-6) ∧ -(-6) < (2147483648 : Int)) (k3 : (¬ ((0 ≤ a1 ∧ a1 ≤ 4000))) → (0 : Int) ≤ -(-6) ∧ -(-6) < (8 : Int)) (k4 : (¬ ((0 ≤ a1 ∧ a1 ≤ 4000))) → Q (-6) (zup σ 97 (-(-6)) (zW ((σ 97 (-(-6))) + 1)))) : zO G MX11_grace [zr 0, zi a1] σ Q := by
  refine zO_of (ls0 := [zr 0, zi a1, zu]) (by decide) (Nat.le_of_ble_eq_true rfl) rfl ?_
  refine z_iload_n dX11_grace_0 rfl rfl ?_
  refine z_iconst dX11_grace_1 (by unfold zIn; decide) ?_
  refine z_sipush (x := 4000) dX11_grace_2 (by decide +kernel) (by unfold zIn; decide) ?_
  refine z_calls (as := [zi a1, zi 0, zi 4000]) (st := []) mkX11_within lkRX11_111 rfl (by decide) (Nat.le_of_ble_eq_true rfl) rfl dX11_grace_5 ?_
  refine SX11_within ?_
  show zR G MX11_grace 8 [zr 0, zi a1, zu] [zi (if (0 ≤ a1 ∧ a1 ≤ 4000) then (1 : Int) else 0)] σ Q
  refine z_if_ne dX11_grace_8 (tgt := 18) (by decide) (fun z => ?_) (fun z => ?_)
  · have h1 : (0 ≤ a1 ∧ a1 ≤ 4000) := zb1 z
    refine z_aload_n dX11_grace_18 rfl rfl ?_
    refine z_getfR (k := 4) flRX11_43 rfl rfl dX11_grace_19 ?_
    refine z_getfI (k := 8) flRX11_281 rfl rfl dX11_grace_22 ?_
    refine z_istore_n (ls' := [zr 0, zi a1, zi (σ 52 8)]) dX11_grace_25 rfl (by decide) rfl ?_
    refine z_aload_n dX11_grace_26 rfl rfl ?_
    refine z_getfR (k := 4) flRX11_43 rfl rfl dX11_grace_27 ?_
    refine z_iload_n dX11_grace_30 rfl rfl ?_
    refine z_putI (k := 8) fpRX11_281 rfl rfl dX11_grace_31 ?_
    refine z_iload_n dX11_grace_34 rfl rfl ?_
    exact z_ireti rfl dX11_grace_35 (k1 h1)
  · have h1 : ¬ ((0 ≤ a1 ∧ a1 ≤ 4000)) := zb0 z
    refine z_aload_n dX11_grace_11 rfl rfl ?_
    refine z_bipush (x := (-6)) dX11_grace_12 (by decide +kernel) (by unfold zIn; decide) ?_
    have s2 : -2147483648 ≤ -(-6) ∧ -(-6) < (2147483648 : Int) := k2 h1
    have s3 : (0 : Int) ≤ -(-6) ∧ -(-6) < (8 : Int) := k3 h1
    refine z_callv (as := [zi (-6)]) (st := []) mkX11_refuse lkRX11_132 rfl rfl rfl (by decide) (Nat.le_of_ble_eq_true rfl) rfl dX11_grace_14 ?_
    refine SX11_refuse s2 s3 ?_
    show zR G MX11_grace 17 [zr 0, zi a1, zu] [zi (-6)] (zup σ 97 (-(-6)) (zW ((σ 97 (-(-6))) + 1))) Q
    exact z_ireti rfl dX11_grace_17 (k4 h1)
