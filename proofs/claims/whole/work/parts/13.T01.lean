set_option maxRecDepth 20000 in
set_option maxHeartbeats 1000000 in
theorem TX11_rowTrouble {G : zG} {σ : zS} {Q : Int → zS → Prop} {a1 : Int}  (k1 : ((0 ≤ a1 ∧ a1 ≤ 9)) → (0 : Int) ≤ a1 ∧ a1 < (10 : Int)) (k2 : ((0 ≤ a1 ∧ a1 ≤ 9)) → (σ (2 + 2 * a1.toNat) 3 = (-1)) → (σ (2 + 2 * a1.toNat) 1 ≠ (-1)) → Q 0 σ) (k3 : ((0 ≤ a1 ∧ a1 ≤ 9)) → (σ (2 + 2 * a1.toNat) 3 = (-1)) → (σ (2 + 2 * a1.toNat) 1 = (-1)) → Q (-3) σ) (k4 : ((0 ≤ a1 ∧ a1 ≤ 9)) → (σ (2 + 2 * a1.toNat) 3 ≠ (-1)) → Q (-2) σ) (k5 : (¬ ((0 ≤ a1 ∧ a1 ≤ 9))) → Q (-1) σ) : zO G MX11_rowTrouble [zr 0, zi a1] σ Q := by
  refine zO_of (ls0 := [zr 0, zi a1]) (by decide) (Nat.le_of_ble_eq_true rfl) rfl ?_
  refine z_iload_n dX11_rowTrouble_0 rfl rfl ?_
  refine z_calls (as := [zi a1]) (st := []) mkX11_isShelf lkRX11_115 rfl (by decide) (Nat.le_of_ble_eq_true rfl) rfl dX11_rowTrouble_1 ?_
  refine SX11_isShelf ?_
  show zR G MX11_rowTrouble 4 [zr 0, zi a1] [zi (if (0 ≤ a1 ∧ a1 ≤ 9) then (1 : Int) else 0)] σ Q
  refine z_if_ne dX11_rowTrouble_4 (tgt := 9) (by decide) (fun z => ?_) (fun z => ?_)
  · have h1 : (0 ≤ a1 ∧ a1 ≤ 9) := zb1 z
    refine z_aload_n dX11_rowTrouble_9 rfl rfl ?_
    refine z_getfR (k := 0) flRX11_11 rfl rfl dX11_rowTrouble_10 ?_
    refine z_iload_n dX11_rowTrouble_13 rfl rfl ?_
    have s1 : (0 : Int) ≤ a1 ∧ a1 < (10 : Int) := k1 h1
    refine z_aald (r := 2 + 2 * a1.toNat) rfl s1.1 s1.2 (zsh_v s1.1 s1.2) dX11_rowTrouble_14 ?_
    refine z_getfI (k := 3) flRX11_119 (zsh_o s1.1 s1.2) rfl dX11_rowTrouble_15 ?_
    refine z_iconst dX11_rowTrouble_18 (by unfold zIn; decide) ?_
    refine z_icmp_eq dX11_rowTrouble_19 (tgt := 25) (by decide) (fun h2 => ?_) (fun h2 => ?_)
    · skip
      refine z_aload_n dX11_rowTrouble_25 rfl rfl ?_
      refine z_getfR (k := 0) flRX11_11 rfl rfl dX11_rowTrouble_26 ?_
      refine z_iload_n dX11_rowTrouble_29 rfl rfl ?_
      refine z_aald (r := 2 + 2 * a1.toNat) rfl s1.1 s1.2 (zsh_v s1.1 s1.2) dX11_rowTrouble_30 ?_
      refine z_getfI (k := 1) flRX11_122 (zsh_o s1.1 s1.2) rfl dX11_rowTrouble_31 ?_
      refine z_iconst dX11_rowTrouble_34 (by unfold zIn; decide) ?_
      refine z_icmp_ne dX11_rowTrouble_35 (tgt := 43) (by decide) (fun h3 => ?_) (fun h3 => ?_)
      · skip
        refine z_iconst dX11_rowTrouble_43 (by unfold zIn; decide) ?_
        exact z_ireti rfl dX11_rowTrouble_44 (k2 h1 h2 h3)
      · skip
        refine z_bipush (x := (-3)) dX11_rowTrouble_38 (by decide +kernel) (by unfold zIn; decide) ?_
        refine z_goto dX11_rowTrouble_40 (tgt := 44) (by decide) ?_
        exact z_ireti rfl dX11_rowTrouble_44 (k3 h1 h2 h3)
    · skip
      refine z_bipush (x := (-2)) dX11_rowTrouble_22 (by decide +kernel) (by unfold zIn; decide) ?_
      exact z_ireti rfl dX11_rowTrouble_24 (k4 h1 h2)
  · have h1 : ¬ ((0 ≤ a1 ∧ a1 ≤ 9)) := zb0 z
    refine z_iconst dX11_rowTrouble_7 (by unfold zIn; decide) ?_
    exact z_ireti rfl dX11_rowTrouble_8 (k5 h1)
set_option maxRecDepth 20000 in
set_option maxHeartbeats 1000000 in
theorem TX11_firstTrouble {G : zG} {σ : zS} {Q : Int → zS → Prop} {a1 a2 : Int}  (k1 : (a1 ≠ 0) → (a2 ≠ 0) → Q (max a1 a2) σ) (k2 : (a1 = 0 ∨ (a1 ≠ 0 ∧ a2 = 0)) → -2147483648 ≤ a1 + a2 ∧ a1 + a2 < (2147483648 : Int)) (k3 : (a1 = 0 ∨ (a1 ≠ 0 ∧ a2 = 0)) → Q (a1 + a2) σ) : zO G MX11_firstTrouble [zi a1, zi a2] σ Q := by
  refine zO_of (ls0 := [zi a1, zi a2]) (by decide) (Nat.le_of_ble_eq_true rfl) rfl ?_
  have J8 : (a1 = 0 ∨ (a1 ≠ 0 ∧ a2 = 0)) → zR G MX11_firstTrouble 8 [zi a1, zi a2] [] σ Q := by
    intro h3
    refine z_iload_n dX11_firstTrouble_8 rfl rfl ?_
    refine z_iload_n dX11_firstTrouble_9 rfl rfl ?_
    have s2 : -2147483648 ≤ a1 + a2 ∧ a1 + a2 < (2147483648 : Int) := k2 h3
    refine z_iaddN dX11_firstTrouble_10 s2 ?_
    exact z_ireti rfl dX11_firstTrouble_11 (k3 h3)
  refine z_iload_n dX11_firstTrouble_0 rfl rfl ?_
  refine z_if_eq dX11_firstTrouble_1 (tgt := 8) (by decide) (fun h1 => ?_) (fun h1 => ?_)
  · skip
    exact J8 (Or.inl h1)
  · skip
    refine z_iload_n dX11_firstTrouble_4 rfl rfl ?_
    refine z_if_ne dX11_firstTrouble_5 (tgt := 12) (by decide) (fun h2 => ?_) (fun h2 => ?_)
    · skip
      refine z_iload_n dX11_firstTrouble_12 rfl rfl ?_
      refine z_iload_n dX11_firstTrouble_13 rfl rfl ?_
      refine z_max lkRX11_125 (by decide) (by decide) (Nat.le_of_ble_eq_true rfl) dX11_firstTrouble_14 ?_
      exact z_ireti rfl dX11_firstTrouble_17 (k1 h1 h2)
    · skip
      exact J8 (Or.inr ⟨h1, h2⟩)
set_option maxRecDepth 20000 in
set_option maxHeartbeats 1000000 in
theorem TX10_firstPlaceOf {G : zG} {σ : zS} {Q : Int → zS → Prop} {a1 : Int}  (k1 : zR G MX10_firstPlaceOf 2 [zr 35, zi a1, zi 0, zu] [] σ Q) : zO G MX10_firstPlaceOf [zr 35, zi a1] σ Q := by
  refine zO_of (ls0 := [zr 35, zi a1, zu, zu]) (by decide) (Nat.le_of_ble_eq_true rfl) rfl ?_
  refine z_iconst dX10_firstPlaceOf_0 (by unfold zIn; decide) ?_
  refine z_istore_n (ls' := [zr 35, zi a1, zi 0, zu]) dX10_firstPlaceOf_1 rfl (by decide) rfl ?_
  exact k1
set_option maxRecDepth 20000 in
set_option maxHeartbeats 1000000 in
theorem TX10_firstPlaceOf_2 {G : zG} {σ : zS} {Q : Int → zS → Prop} {v1 v2 : Int}  (k1 : (0 : Int) ≤ v1 ∧ v1 < (12 : Int)) (k2 : -2147483648 ≤ v2 + σ 42 v1 ∧ v2 + σ 42 v1 < (2147483648 : Int)) (k3 : (σ 35 12 < v2 + σ 42 v1) → Q (-1) σ) (k4 : (v2 + σ 42 v1 ≤ σ 35 12) → zR G MX10_firstPlaceOf 19 [zr 35, zi v1, zi v2, zi 0] [] σ Q) : zR G MX10_firstPlaceOf 2 [zr 35, zi v1, zi v2, zu] [] σ Q := by
  refine z_iload_n dX10_firstPlaceOf_2 rfl rfl ?_
  refine z_aload_n dX10_firstPlaceOf_3 rfl rfl ?_
  refine z_getfR (k := 6) flRX10_30 rfl rfl dX10_firstPlaceOf_4 ?_
  refine z_iload_n dX10_firstPlaceOf_7 rfl rfl ?_
  have s1 : (0 : Int) ≤ v1 ∧ v1 < (12 : Int) := k1
  refine z_iald rfl s1.1 s1.2 dX10_firstPlaceOf_8 ?_
  have s2 : -2147483648 ≤ v2 + σ 42 v1 ∧ v2 + σ 42 v1 < (2147483648 : Int) := k2
  refine z_iaddN dX10_firstPlaceOf_9 s2 ?_
  refine z_aload_n dX10_firstPlaceOf_10 rfl rfl ?_
  refine z_getfI (k := 12) flRX10_49 rfl rfl dX10_firstPlaceOf_11 ?_
  refine z_icmp_gt dX10_firstPlaceOf_14 (tgt := 75) (by decide) (fun h1 => ?_) (fun h1 => ?_)
  · skip
    refine z_iconst dX10_firstPlaceOf_75 (by unfold zIn; decide) ?_
    exact z_ireti rfl dX10_firstPlaceOf_76 (k3 h1)
  · skip
    refine z_iconst dX10_firstPlaceOf_17 (by unfold zIn; decide) ?_
    refine z_istore_n (ls' := [zr 35, zi v1, zi v2, zi 0]) dX10_firstPlaceOf_18 rfl (by decide) rfl ?_
    exact k4 h1
set_option maxRecDepth 20000 in
set_option maxHeartbeats 1000000 in
theorem TX10_firstPlaceOf_19 {G : zG} {σ : zS} {Q : Int → zS → Prop} {v1 v2 v3 : Int}  (k1 : (0 : Int) ≤ v1 ∧ v1 < (12 : Int)) (k2 : (v3 < σ 42 v1) → -2147483648 ≤ v2 + v3 ∧ v2 + v3 < (2147483648 : Int)) (k3 : (v3 < σ 42 v1) → (0 : Int) ≤ v2 + v3 ∧ v2 + v3 < (200 : Int)) (k4 : (v3 < σ 42 v1) → -2147483648 ≤ 80 * v1 ∧ 80 * v1 < (2147483648 : Int)) (k5 : (v3 < σ 42 v1) → -2147483648 ≤ (80 * v1) + v3 ∧ (80 * v1) + v3 < (2147483648 : Int)) (k6 : (v3 < σ 42 v1) → (0 : Int) ≤ (80 * v1) + v3 ∧ (80 * v1) + v3 < (960 : Int)) (k7 : (v3 < σ 42 v1) → (σ 46 (v2 + v3) = σ 41 ((80 * v1) + v3)) → -2147483648 ≤ v3 + 1 ∧ v3 + 1 < (2147483648 : Int)) (k8 : (v3 < σ 42 v1) → (σ 46 (v2 + v3) = σ 41 ((80 * v1) + v3)) → zR G MX10_firstPlaceOf 19 [zr 35, zi v1, zi v2, zi (v3 + 1)] [] σ Q) (k9 : (σ 42 v1 ≤ v3 ∨ (v3 < σ 42 v1 ∧ σ 46 (v2 + v3) ≠ σ 41 ((80 * v1) + v3))) → (0 : Int) ≤ v1 ∧ v1 < (12 : Int)) (k10 : (σ 42 v1 ≤ v3 ∨ (v3 < σ 42 v1 ∧ σ 46 (v2 + v3) ≠ σ 41 ((80 * v1) + v3))) → (v3 ≠ σ 42 v1) → -2147483648 ≤ v2 + 1 ∧ v2 + 1 < (2147483648 : Int)) (k11 : (σ 42 v1 ≤ v3 ∨ (v3 < σ 42 v1 ∧ σ 46 (v2 + v3) ≠ σ 41 ((80 * v1) + v3))) → (v3 ≠ σ 42 v1) → zR G MX10_firstPlaceOf 2 [zr 35, zi v1, zi (v2 + 1), zu] [] σ Q) (k12 : (σ 42 v1 ≤ v3 ∨ (v3 < σ 42 v1 ∧ σ 46 (v2 + v3) ≠ σ 41 ((80 * v1) + v3))) → (v3 = σ 42 v1) → Q v2 σ) : zR G MX10_firstPlaceOf 19 [zr 35, zi v1, zi v2, zi v3] [] σ Q := by
  have J57 : (σ 42 v1 ≤ v3 ∨ (v3 < σ 42 v1 ∧ σ 46 (v2 + v3) ≠ σ 41 ((80 * v1) + v3))) → zR G MX10_firstPlaceOf 57 [zr 35, zi v1, zi v2, zi v3] [] σ Q := by
    intro h3
    refine z_iload_n dX10_firstPlaceOf_57 rfl rfl ?_
    refine z_aload_n dX10_firstPlaceOf_58 rfl rfl ?_
    refine z_getfR (k := 6) flRX10_30 rfl rfl dX10_firstPlaceOf_59 ?_
    refine z_iload_n dX10_firstPlaceOf_62 rfl rfl ?_
    have s9 : (0 : Int) ≤ v1 ∧ v1 < (12 : Int) := k9 h3
    refine z_iald rfl s9.1 s9.2 dX10_firstPlaceOf_63 ?_
    refine z_icmp_ne dX10_firstPlaceOf_64 (tgt := 69) (by decide) (fun h4 => ?_) (fun h4 => ?_)
    · skip
      have s10 : -2147483648 ≤ v2 + 1 ∧ v2 + 1 < (2147483648 : Int) := k10 h3 h4
      refine z_iincN (ls' := [zr 35, zi v1, zi (v2 + 1), zi v3]) dX10_firstPlaceOf_69 rfl (by decide) s10 rfl ?_
      refine z_goto dX10_firstPlaceOf_72 (tgt := 2) (by decide) ?_
      exact zR_fg [false, false, false, true] (k11 h3 h4)
    · skip
      refine z_iload_n dX10_firstPlaceOf_67 rfl rfl ?_
      exact z_ireti rfl dX10_firstPlaceOf_68 (k12 h3 h4)
  refine z_iload_n dX10_firstPlaceOf_19 rfl rfl ?_
  refine z_aload_n dX10_firstPlaceOf_20 rfl rfl ?_
  refine z_getfR (k := 6) flRX10_30 rfl rfl dX10_firstPlaceOf_21 ?_
  refine z_iload_n dX10_firstPlaceOf_24 rfl rfl ?_
  have s1 : (0 : Int) ≤ v1 ∧ v1 < (12 : Int) := k1
  refine z_iald rfl s1.1 s1.2 dX10_firstPlaceOf_25 ?_
  refine z_icmp_ge dX10_firstPlaceOf_26 (tgt := 57) (by decide) (fun h1 => ?_) (fun h1 => ?_)
  · skip
    exact J57 (Or.inl h1)
  · skip
    refine z_aload_n dX10_firstPlaceOf_29 rfl rfl ?_
    refine z_getfR (k := 10) flRX10_42 rfl rfl dX10_firstPlaceOf_30 ?_
    refine z_iload_n dX10_firstPlaceOf_33 rfl rfl ?_
    refine z_iload_n dX10_firstPlaceOf_34 rfl rfl ?_
    have s2 : -2147483648 ≤ v2 + v3 ∧ v2 + v3 < (2147483648 : Int) := k2 h1
    refine z_iaddN dX10_firstPlaceOf_35 s2 ?_
    have s3 : (0 : Int) ≤ v2 + v3 ∧ v2 + v3 < (200 : Int) := k3 h1
    refine z_iald rfl s3.1 s3.2 dX10_firstPlaceOf_36 ?_
    refine z_aload_n dX10_firstPlaceOf_37 rfl rfl ?_
    refine z_getfR (k := 5) flRX10_27 rfl rfl dX10_firstPlaceOf_38 ?_
    refine z_bipush (x := 80) dX10_firstPlaceOf_41 (by decide +kernel) (by unfold zIn; decide) ?_
    refine z_iload_n dX10_firstPlaceOf_43 rfl rfl ?_
    have s4 : -2147483648 ≤ 80 * v1 ∧ 80 * v1 < (2147483648 : Int) := k4 h1
    refine z_imulN dX10_firstPlaceOf_44 s4 ?_
    refine z_iload_n dX10_firstPlaceOf_45 rfl rfl ?_
    have s5 : -2147483648 ≤ (80 * v1) + v3 ∧ (80 * v1) + v3 < (2147483648 : Int) := k5 h1
    refine z_iaddN dX10_firstPlaceOf_46 s5 ?_
    have s6 : (0 : Int) ≤ (80 * v1) + v3 ∧ (80 * v1) + v3 < (960 : Int) := k6 h1
    refine z_iald rfl s6.1 s6.2 dX10_firstPlaceOf_47 ?_
    refine z_icmp_ne dX10_firstPlaceOf_48 (tgt := 57) (by decide) (fun h2 => ?_) (fun h2 => ?_)
    · skip
      exact J57 (Or.inr ⟨h1, h2⟩)
    · skip
      have s7 : -2147483648 ≤ v3 + 1 ∧ v3 + 1 < (2147483648 : Int) := k7 h1 h2
      refine z_iincN (ls' := [zr 35, zi v1, zi v2, zi (v3 + 1)]) dX10_firstPlaceOf_51 rfl (by decide) s7 rfl ?_
      refine z_goto dX10_firstPlaceOf_54 (tgt := 19) (by decide) ?_
      exact k8 h1 h2
set_option maxRecDepth 20000 in
set_option maxHeartbeats 1000000 in
theorem TX10_replace {G : zG} {σ : zS} {Q : Int → zS → Prop} {a1 : Int}  (k1 : zO G MX10_firstPlaceOf [zr 35, zi a1] σ (fun rr σ' => zR G MX10_replace 5 [zr 35, zi a1, zu, zu, zu] [zi rr] σ' Q)) : zO G MX10_replace [zr 35, zi a1] σ Q := by
  refine zO_of (ls0 := [zr 35, zi a1, zu, zu, zu]) (by decide) (Nat.le_of_ble_eq_true rfl) rfl ?_
  refine z_aload_n dX10_replace_0 rfl rfl ?_
  refine z_iload_n dX10_replace_1 rfl rfl ?_
  refine z_callv (as := [zi a1]) (st := []) mkX10_firstPlaceOf lkRX10_76 rfl rfl rfl (by decide) (Nat.le_of_ble_eq_true rfl) rfl dX10_replace_2 (k1)
set_option maxRecDepth 20000 in
set_option maxHeartbeats 1000000 in
theorem TX10_replace_5 {G : zG} {σ : zS} {Q : Int → zS → Prop} {v1 r : Int}  (k1 : (0 : Int) ≤ v1 ∧ v1 < (12 : Int)) (k2 : -2147483648 ≤ σ 35 12 - σ 42 v1 ∧ σ 35 12 - σ 42 v1 < (2147483648 : Int)) (k3 : -2147483648 ≤ (σ 35 12 - σ 42 v1) + σ 44 v1 ∧ (σ 35 12 - σ 42 v1) + σ 44 v1 < (2147483648 : Int)) (k4 : (r ≠ (-1)) → ((σ 35 12 - σ 42 v1) + σ 44 v1 ≤ 200) → -2147483648 ≤ r + σ 42 v1 ∧ r + σ 42 v1 < (2147483648 : Int)) (k5 : (r ≠ (-1)) → ((σ 35 12 - σ 42 v1) + σ 44 v1 ≤ 200) → -2147483648 ≤ r + σ 44 v1 ∧ r + σ 44 v1 < (2147483648 : Int)) (k6 : (r ≠ (-1)) → ((σ 35 12 - σ 42 v1) + σ 44 v1 ≤ 200) → -2147483648 ≤ σ 35 12 - (r + σ 42 v1) ∧ σ 35 12 - (r + σ 42 v1) < (2147483648 : Int)) (k7 : (r ≠ (-1)) → ((σ 35 12 - σ 42 v1) + σ 44 v1 ≤ 200) → 0 ≤ r + σ 42 v1 ∧ 0 ≤ r + σ 44 v1 ∧ 0 ≤ σ 35 12 - (r + σ 42 v1) ∧ (r + σ 42 v1) + (σ 35 12 - (r + σ 42 v1)) ≤ 200 ∧ (r + σ 44 v1) + (σ 35 12 - (r + σ 42 v1)) ≤ 200) (k8 : (r ≠ (-1)) → ((σ 35 12 - σ 42 v1) + σ 44 v1 ≤ 200) → -2147483648 ≤ 80 * v1 ∧ 80 * v1 < (2147483648 : Int)) (k9 : (r ≠ (-1)) → ((σ 35 12 - σ 42 v1) + σ 44 v1 ≤ 200) → 0 ≤ 80 * v1 ∧ 0 ≤ r ∧ 0 ≤ σ 44 v1 ∧ (80 * v1) + σ 44 v1 ≤ 960 ∧ r + σ 44 v1 ≤ 200) (k10 : (r ≠ (-1)) → ((σ 35 12 - σ 42 v1) + σ 44 v1 ≤ 200) → Q 1 (zup (zcp (zcp σ 46 (r + σ 42 v1) 46 (r + σ 44 v1) (σ 35 12 - (r + σ 42 v1))) 43 (80 * v1) 46 r (σ 44 v1)) 35 12 ((σ 35 12 - σ 42 v1) + σ 44 v1))) (k11 : (r = (-1) ∨ (r ≠ (-1) ∧ 200 < (σ 35 12 - σ 42 v1) + σ 44 v1)) → Q 0 σ) : zR G MX10_replace 5 [zr 35, zi v1, zu, zu, zu] [zi r] σ Q := by
  have J37 : (r = (-1) ∨ (r ≠ (-1) ∧ 200 < (σ 35 12 - σ 42 v1) + σ 44 v1)) → zR G MX10_replace 37 [zr 35, zi v1, zi r, zi ((σ 35 12 - σ 42 v1) + σ 44 v1), zu] [] σ Q := by
    intro h3
    refine z_iconst dX10_replace_37 (by unfold zIn; decide) ?_
    exact z_iretz rfl (by decide) dX10_replace_38 (k11 h3)
  refine z_istore_n (ls' := [zr 35, zi v1, zi r, zu, zu]) dX10_replace_5 rfl (by decide) rfl ?_
  refine z_aload_n dX10_replace_6 rfl rfl ?_
  refine z_getfI (k := 12) flRX10_49 rfl rfl dX10_replace_7 ?_
  refine z_aload_n dX10_replace_10 rfl rfl ?_
  refine z_getfR (k := 6) flRX10_30 rfl rfl dX10_replace_11 ?_
  refine z_iload_n dX10_replace_14 rfl rfl ?_
  have s1 : (0 : Int) ≤ v1 ∧ v1 < (12 : Int) := k1
  refine z_iald rfl s1.1 s1.2 dX10_replace_15 ?_
  have s2 : -2147483648 ≤ σ 35 12 - σ 42 v1 ∧ σ 35 12 - σ 42 v1 < (2147483648 : Int) := k2
  refine z_isubN dX10_replace_16 s2 ?_
  refine z_aload_n dX10_replace_17 rfl rfl ?_
  refine z_getfR (k := 8) flRX10_36 rfl rfl dX10_replace_18 ?_
  refine z_iload_n dX10_replace_21 rfl rfl ?_
  refine z_iald rfl s1.1 s1.2 dX10_replace_22 ?_
  have s3 : -2147483648 ≤ (σ 35 12 - σ 42 v1) + σ 44 v1 ∧ (σ 35 12 - σ 42 v1) + σ 44 v1 < (2147483648 : Int) := k3
  refine z_iaddN dX10_replace_23 s3 ?_
  refine z_istore_n (ls' := [zr 35, zi v1, zi r, zi ((σ 35 12 - σ 42 v1) + σ 44 v1), zu]) dX10_replace_24 rfl (by decide) rfl ?_
  refine z_iload_n dX10_replace_25 rfl rfl ?_
  refine z_iconst dX10_replace_26 (by unfold zIn; decide) ?_
  refine z_icmp_eq dX10_replace_27 (tgt := 37) (by decide) (fun h1 => ?_) (fun h1 => ?_)
  · skip
    exact J37 (Or.inl h1)
  · skip
    refine z_iload_n dX10_replace_30 rfl rfl ?_
    refine z_sipush (x := 200) dX10_replace_31 (by decide +kernel) (by unfold zIn; decide) ?_
    refine z_icmp_le dX10_replace_34 (tgt := 39) (by decide) (fun h2 => ?_) (fun h2 => ?_)
    · skip
      refine z_iload_n dX10_replace_39 rfl rfl ?_
      refine z_aload_n dX10_replace_40 rfl rfl ?_
      refine z_getfR (k := 6) flRX10_30 rfl rfl dX10_replace_41 ?_
      refine z_iload_n dX10_replace_44 rfl rfl ?_
      refine z_iald rfl s1.1 s1.2 dX10_replace_45 ?_
      have s4 : -2147483648 ≤ r + σ 42 v1 ∧ r + σ 42 v1 < (2147483648 : Int) := k4 h1 h2
      refine z_iaddN dX10_replace_46 s4 ?_
      refine z_istore (ls' := [zr 35, zi v1, zi r, zi ((σ 35 12 - σ 42 v1) + σ 44 v1), zi (r + σ 42 v1)]) dX10_replace_47 (by decide) rfl ?_
      refine z_aload_n dX10_replace_49 rfl rfl ?_
      refine z_getfR (k := 10) flRX10_42 rfl rfl dX10_replace_50 ?_
      refine z_iload dX10_replace_53 rfl ?_
      refine z_aload_n dX10_replace_55 rfl rfl ?_
      refine z_getfR (k := 10) flRX10_42 rfl rfl dX10_replace_56 ?_
      refine z_iload_n dX10_replace_59 rfl rfl ?_
      refine z_aload_n dX10_replace_60 rfl rfl ?_
      refine z_getfR (k := 8) flRX10_36 rfl rfl dX10_replace_61 ?_
      refine z_iload_n dX10_replace_64 rfl rfl ?_
      refine z_iald rfl s1.1 s1.2 dX10_replace_65 ?_
      have s5 : -2147483648 ≤ r + σ 44 v1 ∧ r + σ 44 v1 < (2147483648 : Int) := k5 h1 h2
      refine z_iaddN dX10_replace_66 s5 ?_
      refine z_aload_n dX10_replace_67 rfl rfl ?_
      refine z_getfI (k := 12) flRX10_49 rfl rfl dX10_replace_68 ?_
      refine z_iload dX10_replace_71 rfl ?_
      have s6 : -2147483648 ≤ σ 35 12 - (r + σ 42 v1) ∧ σ 35 12 - (r + σ 42 v1) < (2147483648 : Int) := k6 h1 h2
      refine z_isubN dX10_replace_73 s6 ?_
      have s7 : 0 ≤ r + σ 42 v1 ∧ 0 ≤ r + σ 44 v1 ∧ 0 ≤ σ 35 12 - (r + σ 42 v1) ∧ (r + σ 42 v1) + (σ 35 12 - (r + σ 42 v1)) ≤ 200 ∧ (r + σ 44 v1) + (σ 35 12 - (r + σ 42 v1)) ≤ 200 := k7 h1 h2
      refine z_copyI lcRX10_62 rfl rfl s7.1 s7.2.1 s7.2.2.1 s7.2.2.2.1 s7.2.2.2.2 (by decide) (by decide +kernel) (Nat.le_of_ble_eq_true rfl) dX10_replace_74 ?_
      refine z_aload_n dX10_replace_77 rfl rfl ?_
      refine z_getfR (k := 7) flRX10_33 rfl rfl dX10_replace_78 ?_
      refine z_bipush (x := 80) dX10_replace_81 (by decide +kernel) (by unfold zIn; decide) ?_
      refine z_iload_n dX10_replace_83 rfl rfl ?_
      have s8 : -2147483648 ≤ 80 * v1 ∧ 80 * v1 < (2147483648 : Int) := k8 h1 h2
      refine z_imulN dX10_replace_84 s8 ?_
      refine z_aload_n dX10_replace_85 rfl rfl ?_
      refine z_getfR (k := 10) flRX10_42 rfl rfl dX10_replace_86 ?_
      refine z_iload_n dX10_replace_89 rfl rfl ?_
      refine z_aload_n dX10_replace_90 rfl rfl ?_
      refine z_getfR (k := 8) flRX10_36 rfl rfl dX10_replace_91 ?_
      refine z_iload_n dX10_replace_94 rfl rfl ?_
      refine z_ialdE (v := σ 44 v1) rfl s1.1 s1.2 (zcp_of (by decide)) dX10_replace_95 ?_
      have s9 : 0 ≤ 80 * v1 ∧ 0 ≤ r ∧ 0 ≤ σ 44 v1 ∧ (80 * v1) + σ 44 v1 ≤ 960 ∧ r + σ 44 v1 ≤ 200 := k9 h1 h2
      refine z_copyI lcRX10_62 rfl rfl s9.1 s9.2.1 s9.2.2.1 s9.2.2.2.1 s9.2.2.2.2 (by decide) (by decide +kernel) (Nat.le_of_ble_eq_true rfl) dX10_replace_96 ?_
      refine z_aload_n dX10_replace_99 rfl rfl ?_
      refine z_iload_n dX10_replace_100 rfl rfl ?_
      refine z_putI (k := 12) fpRX10_49 rfl rfl dX10_replace_101 ?_
      refine z_iconst dX10_replace_104 (by unfold zIn; decide) ?_
      exact z_iretz rfl (by decide) dX10_replace_105 (k10 h1 h2)
    · skip
      exact J37 (Or.inr ⟨h1, h2⟩)
set_option maxRecDepth 20000 in
set_option maxHeartbeats 1000000 in
theorem TX10_compose {G : zG} {σ : zS} {Q : Int → zS → Prop} {a1 a2 a3 : Int}  (k1 : (0 : Int) ≤ a1 ∧ a1 < (4 : Int)) (k2 : (σ 37 a1 ≠ 0) → -2147483648 ≤ 80 * a1 ∧ 80 * a1 < (2147483648 : Int)) (k3 : (σ 37 a1 ≠ 0) → 0 ≤ 80 * a1 ∧ 0 ≤ (0 : Int) ∧ 0 ≤ σ 37 a1 ∧ (80 * a1) + σ 37 a1 ≤ 320 ∧ (0 : Int) + σ 37 a1 ≤ 200) (k4 : (σ 37 a1 ≠ 0) → zR G MX10_compose 61 [zr 35, zi a1, zi a2, zi a3, zi 0, zu] [] (zcp (zup (zup σ 35 13 0) 35 12 (σ 37 a1)) 36 (80 * a1) 46 0 (σ 37 a1)) Q) (k5 : (σ 37 a1 = 0) → zR G MX10_compose 61 [zr 35, zi a1, zi a2, zi a3, zi 0, zu] [] (zup (zup (zup (zup σ 35 13 0) 35 12 (σ 37 a1)) 46 0 119) 35 12 1) Q) : zO G MX10_compose [zr 35, zi a1, zi a2, zi a3] σ Q := by
  refine zO_of (ls0 := [zr 35, zi a1, zi a2, zi a3, zu, zu]) (by decide) (Nat.le_of_ble_eq_true rfl) rfl ?_
  have J58_1 : (σ 37 a1 = 0) → zR G MX10_compose 58 [zr 35, zi a1, zi a2, zi a3, zu, zu] [] (zup (zup (zup (zup σ 35 13 0) 35 12 (σ 37 a1)) 46 0 119) 35 12 1) Q := by
    intro h1
    refine z_iconst dX10_compose_58 (by unfold zIn; decide) ?_
    refine z_istore (ls' := [zr 35, zi a1, zi a2, zi a3, zi 0, zu]) dX10_compose_59 (by decide) rfl ?_
    exact k5 h1
  have J58 : (σ 37 a1 ≠ 0) → zR G MX10_compose 58 [zr 35, zi a1, zi a2, zi a3, zu, zu] [] (zcp (zup (zup σ 35 13 0) 35 12 (σ 37 a1)) 36 (80 * a1) 46 0 (σ 37 a1)) Q := by
    intro h1
    refine z_iconst dX10_compose_58 (by unfold zIn; decide) ?_
    refine z_istore (ls' := [zr 35, zi a1, zi a2, zi a3, zi 0, zu]) dX10_compose_59 (by decide) rfl ?_
    exact k4 h1
  refine z_aload_n dX10_compose_0 rfl rfl ?_
  refine z_iconst dX10_compose_1 (by unfold zIn; decide) ?_
  refine z_putI (k := 13) fpRX10_52 rfl rfl dX10_compose_2 ?_
  refine z_aload_n dX10_compose_5 rfl rfl ?_
  refine z_aload_n dX10_compose_6 rfl rfl ?_
  refine z_getfR (k := 1) flRX10_15 rfl rfl dX10_compose_7 ?_
  refine z_iload_n dX10_compose_10 rfl rfl ?_
  have s1 : (0 : Int) ≤ a1 ∧ a1 < (4 : Int) := k1
  refine z_ialdE (v := σ 37 a1) rfl s1.1 s1.2 (zup_of (by decide)) dX10_compose_11 ?_
  refine z_putI (k := 12) fpRX10_49 rfl rfl dX10_compose_12 ?_
  refine z_aload_n dX10_compose_15 rfl rfl ?_
  refine z_getfE (k := 12) (v := σ 37 a1) flRX10_49 rfl rfl (zup_same) dX10_compose_16 ?_
  refine z_if_ne dX10_compose_19 (tgt := 38) (by decide) (fun h1 => ?_) (fun h1 => ?_)
  · skip
    refine z_aload_n dX10_compose_38 rfl rfl ?_
    refine z_getfR (k := 0) flRX10_9 rfl rfl dX10_compose_39 ?_
    refine z_bipush (x := 80) dX10_compose_42 (by decide +kernel) (by unfold zIn; decide) ?_
    refine z_iload_n dX10_compose_44 rfl rfl ?_
    have s2 : -2147483648 ≤ 80 * a1 ∧ 80 * a1 < (2147483648 : Int) := k2 h1
    refine z_imulN dX10_compose_45 s2 ?_
    refine z_aload_n dX10_compose_46 rfl rfl ?_
    refine z_getfR (k := 10) flRX10_42 rfl rfl dX10_compose_47 ?_
    refine z_iconst dX10_compose_50 (by unfold zIn; decide) ?_
    refine z_aload_n dX10_compose_51 rfl rfl ?_
    refine z_getfE (k := 12) (v := σ 37 a1) flRX10_49 rfl rfl (zup_same) dX10_compose_52 ?_
    have s3 : 0 ≤ 80 * a1 ∧ 0 ≤ (0 : Int) ∧ 0 ≤ σ 37 a1 ∧ (80 * a1) + σ 37 a1 ≤ 320 ∧ (0 : Int) + σ 37 a1 ≤ 200 := k3 h1
    refine z_copyI lcRX10_62 rfl rfl s3.1 s3.2.1 s3.2.2.1 s3.2.2.2.1 s3.2.2.2.2 (by decide) (by decide +kernel) (Nat.le_of_ble_eq_true rfl) dX10_compose_55 ?_
    exact J58 h1
  · skip
    refine z_aload_n dX10_compose_22 rfl rfl ?_
    refine z_getfR (k := 10) flRX10_42 rfl rfl dX10_compose_23 ?_
    refine z_iconst dX10_compose_26 (by unfold zIn; decide) ?_
    refine z_bipush (x := 119) dX10_compose_27 (by decide +kernel) (by unfold zIn; decide) ?_
    refine z_iast rfl (by decide) (by decide) dX10_compose_29 ?_
    refine z_aload_n dX10_compose_30 rfl rfl ?_
    refine z_iconst dX10_compose_31 (by unfold zIn; decide) ?_
    refine z_putI (k := 12) fpRX10_49 rfl rfl dX10_compose_32 ?_
    refine z_goto dX10_compose_35 (tgt := 58) (by decide) ?_
    exact J58_1 h1
set_option maxRecDepth 20000 in
set_option maxHeartbeats 1000000 in
theorem TX10_compose_61 {G : zG} {σ : zS} {Q : Int → zS → Prop} {v1 v2 v3 v4 : Int}  (k1 : (σ 35 11 ≤ v4) → Q 0 σ) (k2 : (v4 < σ 35 11) → (0 : Int) ≤ v4 ∧ v4 < (12 : Int)) (k3 : (v4 < σ 35 11) → (0 : Int) ≤ σ 45 v4 ∧ σ 45 v4 < (12 : Int)) (k4 : (v4 < σ 35 11) → (σ 38 (σ 45 v4) = v1) → (0 : Int) ≤ (σ 45 v4) ∧ (σ 45 v4) < (12 : Int)) (k5 : (v4 < σ 35 11) → (σ 38 (σ 45 v4) = v1) → ((σ 40 (σ 45 v4) ≤ v3 ∧ σ 39 (σ 45 v4) ≤ v2)) → zO G MX10_replace [zr 35, zi (σ 45 v4)] σ (fun rr σ' => zR G MX10_compose 107 [zr 35, zi v1, zi v2, zi v3, zi v4, zi (σ 45 v4)] [zi rr] σ' Q)) (k6 : (v4 < σ 35 11) → (σ 38 (σ 45 v4) ≠ v1 ∨ (σ 38 (σ 45 v4) = v1 ∧ (¬ ((σ 40 (σ 45 v4) ≤ v3 ∧ σ 39 (σ 45 v4) ≤ v2))))) → -2147483648 ≤ v4 + 1 ∧ v4 + 1 < (2147483648 : Int)) (k7 : (v4 < σ 35 11) → (σ 38 (σ 45 v4) ≠ v1 ∨ (σ 38 (σ 45 v4) = v1 ∧ (¬ ((σ 40 (σ 45 v4) ≤ v3 ∧ σ 39 (σ 45 v4) ≤ v2))))) → zR G MX10_compose 61 [zr 35, zi v1, zi v2, zi v3, zi (v4 + 1), zu] [] σ Q) : zR G MX10_compose 61 [zr 35, zi v1, zi v2, zi v3, zi v4, zu] [] σ Q := by
  have J123 : (v4 < σ 35 11) → (σ 38 (σ 45 v4) ≠ v1 ∨ (σ 38 (σ 45 v4) = v1 ∧ (¬ ((σ 40 (σ 45 v4) ≤ v3 ∧ σ 39 (σ 45 v4) ≤ v2))))) → zR G MX10_compose 123 [zr 35, zi v1, zi v2, zi v3, zi v4, zi (σ 45 v4)] [] σ Q := by
    intro h1 h4
    have s6 : -2147483648 ≤ v4 + 1 ∧ v4 + 1 < (2147483648 : Int) := k6 h1 h4
    refine z_iincN (ls' := [zr 35, zi v1, zi v2, zi v3, zi (v4 + 1), zi (σ 45 v4)]) dX10_compose_123 rfl (by decide) s6 rfl ?_
    refine z_goto dX10_compose_126 (tgt := 61) (by decide) ?_
    exact zR_fg [false, false, false, false, false, true] (k7 h1 h4)
  refine z_iload dX10_compose_61 rfl ?_
  refine z_aload_n dX10_compose_63 rfl rfl ?_
  refine z_getfI (k := 11) flRX10_45 rfl rfl dX10_compose_64 ?_
  refine z_icmp_ge dX10_compose_67 (tgt := 129) (by decide) (fun h1 => ?_) (fun h1 => ?_)
  · skip
    exact z_vret rfl dX10_compose_129 (k1 h1)
  · skip
    refine z_aload_n dX10_compose_70 rfl rfl ?_
    refine z_getfR (k := 9) flRX10_39 rfl rfl dX10_compose_71 ?_
    refine z_iload dX10_compose_74 rfl ?_
    have s2 : (0 : Int) ≤ v4 ∧ v4 < (12 : Int) := k2 h1
    refine z_iald rfl s2.1 s2.2 dX10_compose_76 ?_
    refine z_istore (ls' := [zr 35, zi v1, zi v2, zi v3, zi v4, zi (σ 45 v4)]) dX10_compose_77 (by decide) rfl ?_
    refine z_aload_n dX10_compose_79 rfl rfl ?_
    refine z_getfR (k := 2) flRX10_18 rfl rfl dX10_compose_80 ?_
    refine z_iload dX10_compose_83 rfl ?_
    have s3 : (0 : Int) ≤ σ 45 v4 ∧ σ 45 v4 < (12 : Int) := k3 h1
    refine z_iald rfl s3.1 s3.2 dX10_compose_85 ?_
    refine z_iload_n dX10_compose_86 rfl rfl ?_
    refine z_icmp_ne dX10_compose_87 (tgt := 123) (by decide) (fun h2 => ?_) (fun h2 => ?_)
    · skip
      exact J123 h1 (Or.inl h2)
    · skip
      refine z_aload_n dX10_compose_90 rfl rfl ?_
      refine z_iload dX10_compose_91 rfl ?_
      refine z_iload_n dX10_compose_93 rfl rfl ?_
      refine z_iload_n dX10_compose_94 rfl rfl ?_
      have s4 : (0 : Int) ≤ (σ 45 v4) ∧ (σ 45 v4) < (12 : Int) := k4 h1 h2
      refine z_callv (as := [zi (σ 45 v4), zi v2, zi v3]) (st := []) mkX10_inForce lkRX10_68 rfl rfl rfl (by decide) (Nat.le_of_ble_eq_true rfl) rfl dX10_compose_95 ?_
      refine SX10_inForce s4 ?_
      show zR G MX10_compose 98 [zr 35, zi v1, zi v2, zi v3, zi v4, zi (σ 45 v4)] [zi (if (σ 40 (σ 45 v4) ≤ v3 ∧ σ 39 (σ 45 v4) ≤ v2) then (1 : Int) else 0)] σ Q
      refine z_if_eq dX10_compose_98 (tgt := 123) (by decide) (fun z => ?_) (fun z => ?_)
      · have h3 : ¬ ((σ 40 (σ 45 v4) ≤ v3 ∧ σ 39 (σ 45 v4) ≤ v2)) := zb0 z
        exact J123 h1 (Or.inr ⟨h2, h3⟩)
      · have h3 : (σ 40 (σ 45 v4) ≤ v3 ∧ σ 39 (σ 45 v4) ≤ v2) := zb1 z
        refine z_aload_n dX10_compose_101 rfl rfl ?_
        refine z_iload dX10_compose_102 rfl ?_
        refine z_callv (as := [zi (σ 45 v4)]) (st := []) mkX10_replace lkRX10_72 rfl rfl rfl (by decide) (Nat.le_of_ble_eq_true rfl) rfl dX10_compose_104 (k5 h1 h2 h3)
set_option maxRecDepth 20000 in
set_option maxHeartbeats 1000000 in
theorem TX10_compose_107 {G : zG} {σ : zS} {Q : Int → zS → Prop} {v1 v2 v3 v4 v5 r : Int}  (k1 : (r ≠ 0) → -2147483648 ≤ v4 + 1 ∧ v4 + 1 < (2147483648 : Int)) (k2 : (r ≠ 0) → zR G MX10_compose 61 [zr 35, zi v1, zi v2, zi v3, zi (v4 + 1), zu] [] σ Q) (k3 : (r = 0) → -2147483648 ≤ v4 + 1 ∧ v4 + 1 < (2147483648 : Int)) (k4 : (r = 0) → zR G MX10_compose 61 [zr 35, zi v1, zi v2, zi v3, zi (v4 + 1), zu] [] (zup σ 35 13 (zor (σ 35 13) (zshl 1 v5))) Q) : zR G MX10_compose 107 [zr 35, zi v1, zi v2, zi v3, zi v4, zi v5] [zi r] σ Q := by
  have J123_1 : (r = 0) → zR G MX10_compose 123 [zr 35, zi v1, zi v2, zi v3, zi v4, zi v5] [] (zup σ 35 13 (zor (σ 35 13) (zshl 1 v5))) Q := by
    intro h1
    have s3 : -2147483648 ≤ v4 + 1 ∧ v4 + 1 < (2147483648 : Int) := k3 h1
    refine z_iincN (ls' := [zr 35, zi v1, zi v2, zi v3, zi (v4 + 1), zi v5]) dX10_compose_123 rfl (by decide) s3 rfl ?_
    refine z_goto dX10_compose_126 (tgt := 61) (by decide) ?_
    exact zR_fg [false, false, false, false, false, true] (k4 h1)
  have J123 : (r ≠ 0) → zR G MX10_compose 123 [zr 35, zi v1, zi v2, zi v3, zi v4, zi v5] [] σ Q := by
    intro h1
    have s1 : -2147483648 ≤ v4 + 1 ∧ v4 + 1 < (2147483648 : Int) := k1 h1
    refine z_iincN (ls' := [zr 35, zi v1, zi v2, zi v3, zi (v4 + 1), zi v5]) dX10_compose_123 rfl (by decide) s1 rfl ?_
    refine z_goto dX10_compose_126 (tgt := 61) (by decide) ?_
    exact zR_fg [false, false, false, false, false, true] (k2 h1)
  refine z_if_ne dX10_compose_107 (tgt := 123) (by decide) (fun h1 => ?_) (fun h1 => ?_)
  · skip
    exact J123 h1
  · skip
    refine z_aload_n dX10_compose_110 rfl rfl ?_
    refine z_dup dX10_compose_111 rfl ?_
    refine z_getfI (k := 13) flRX10_52 rfl rfl dX10_compose_112 ?_
    refine z_iconst dX10_compose_115 (by unfold zIn; decide) ?_
    refine z_iload dX10_compose_116 rfl ?_
    refine z_ishl dX10_compose_118 ?_
    refine z_ior dX10_compose_119 ?_
    refine z_putI (k := 13) fpRX10_52 rfl rfl dX10_compose_120 ?_
    exact J123_1 h1
set_option maxRecDepth 20000 in
set_option maxHeartbeats 1000000 in
theorem TX5_valueOf {G : zG} {σ : zS} {Q : Int → zS → Prop} {a1 a2 a3 : Int}  (k1 : zR G MX5_valueOf 6 [zr 22, zi a1, zi a2, zi a3, zi (-1), zi 0] [] σ Q) : zO G MX5_valueOf [zr 22, zi a1, zi a2, zi a3] σ Q := by
  refine zO_of (ls0 := [zr 22, zi a1, zi a2, zi a3, zu, zu]) (by decide) (Nat.le_of_ble_eq_true rfl) rfl ?_
  refine z_iconst dX5_valueOf_0 (by unfold zIn; decide) ?_
  refine z_istore (ls' := [zr 22, zi a1, zi a2, zi a3, zi (-1), zu]) dX5_valueOf_1 (by decide) rfl ?_
  refine z_iconst dX5_valueOf_3 (by unfold zIn; decide) ?_
  refine z_istore (ls' := [zr 22, zi a1, zi a2, zi a3, zi (-1), zi 0]) dX5_valueOf_4 (by decide) rfl ?_
  exact k1
set_option maxRecDepth 20000 in
set_option maxHeartbeats 1000000 in
theorem TX5_valueOf_6 {G : zG} {σ : zS} {Q : Int → zS → Prop} {v1 v2 v3 v4 v5 : Int}  (k1 : (σ 22 14 ≤ v5) → (v4 ≠ (-1)) → (0 : Int) ≤ v4 ∧ v4 < (400 : Int)) (k2 : (σ 22 14 ≤ v5) → (v4 ≠ (-1)) → Q (σ 29 v4) σ) (k3 : (σ 22 14 ≤ v5) → (v4 = (-1)) → Q 0 σ) (k4 : (v5 < σ 22 14) → (0 : Int) ≤ v5 ∧ v5 < (400 : Int)) (k5 : (v5 < σ 22 14) → (σ 28 v5 = v1) → (σ 30 v5 ≤ v2) → (σ 31 v5 ≤ v3) → (v4 ≠ (-1)) → (0 : Int) ≤ v4 ∧ v4 < (400 : Int)) (k6 : (v5 < σ 22 14) → (σ 28 v5 ≠ v1 ∨ (σ 28 v5 = v1 ∧ v2 < σ 30 v5) ∨ (σ 28 v5 = v1 ∧ σ 30 v5 ≤ v2 ∧ v3 < σ 31 v5) ∨ (σ 28 v5 = v1 ∧ σ 30 v5 ≤ v2 ∧ σ 31 v5 ≤ v3 ∧ v4 ≠ (-1) ∧ σ 30 v5 < σ 30 v4)) → -2147483648 ≤ v5 + 1 ∧ v5 + 1 < (2147483648 : Int)) (k7 : (v5 < σ 22 14) → (σ 28 v5 ≠ v1 ∨ (σ 28 v5 = v1 ∧ v2 < σ 30 v5) ∨ (σ 28 v5 = v1 ∧ σ 30 v5 ≤ v2 ∧ v3 < σ 31 v5) ∨ (σ 28 v5 = v1 ∧ σ 30 v5 ≤ v2 ∧ σ 31 v5 ≤ v3 ∧ v4 ≠ (-1) ∧ σ 30 v5 < σ 30 v4)) → zR G MX5_valueOf 6 [zr 22, zi v1, zi v2, zi v3, zi v4, zi (v5 + 1)] [] σ Q) (k8 : (v5 < σ 22 14) → (σ 28 v5 = v1) → (σ 30 v5 ≤ v2) → (σ 31 v5 ≤ v3) → (v4 = (-1) ∨ (v4 ≠ (-1) ∧ σ 30 v4 ≤ σ 30 v5)) → -2147483648 ≤ v5 + 1 ∧ v5 + 1 < (2147483648 : Int)) (k9 : (v5 < σ 22 14) → (σ 28 v5 = v1) → (σ 30 v5 ≤ v2) → (σ 31 v5 ≤ v3) → (v4 = (-1) ∨ (v4 ≠ (-1) ∧ σ 30 v4 ≤ σ 30 v5)) → zR G MX5_valueOf 6 [zr 22, zi v1, zi v2, zi v3, zi v5, zi (v5 + 1)] [] σ Q) : zR G MX5_valueOf 6 [zr 22, zi v1, zi v2, zi v3, zi v4, zi v5] [] σ Q := by
  have J75_1 : (v5 < σ 22 14) → (σ 28 v5 = v1) → (σ 30 v5 ≤ v2) → (σ 31 v5 ≤ v3) → (v4 = (-1) ∨ (v4 ≠ (-1) ∧ σ 30 v4 ≤ σ 30 v5)) → zR G MX5_valueOf 75 [zr 22, zi v1, zi v2, zi v3, zi v5, zi v5] [] σ Q := by
    intro h1 h3 h4 h5 h8
    have s8 : -2147483648 ≤ v5 + 1 ∧ v5 + 1 < (2147483648 : Int) := k8 h1 h3 h4 h5 h8
    refine z_iincN (ls' := [zr 22, zi v1, zi v2, zi v3, zi v5, zi (v5 + 1)]) dX5_valueOf_75 rfl (by decide) s8 rfl ?_
    refine z_goto dX5_valueOf_78 (tgt := 6) (by decide) ?_
    exact k9 h1 h3 h4 h5 h8
  have J75 : (v5 < σ 22 14) → (σ 28 v5 ≠ v1 ∨ (σ 28 v5 = v1 ∧ v2 < σ 30 v5) ∨ (σ 28 v5 = v1 ∧ σ 30 v5 ≤ v2 ∧ v3 < σ 31 v5) ∨ (σ 28 v5 = v1 ∧ σ 30 v5 ≤ v2 ∧ σ 31 v5 ≤ v3 ∧ v4 ≠ (-1) ∧ σ 30 v5 < σ 30 v4)) → zR G MX5_valueOf 75 [zr 22, zi v1, zi v2, zi v3, zi v4, zi v5] [] σ Q := by
    intro h1 h9
    have s6 : -2147483648 ≤ v5 + 1 ∧ v5 + 1 < (2147483648 : Int) := k6 h1 h9
    refine z_iincN (ls' := [zr 22, zi v1, zi v2, zi v3, zi v4, zi (v5 + 1)]) dX5_valueOf_75 rfl (by decide) s6 rfl ?_
    refine z_goto dX5_valueOf_78 (tgt := 6) (by decide) ?_
    exact k7 h1 h9
  have J71 : (v5 < σ 22 14) → (σ 28 v5 = v1) → (σ 30 v5 ≤ v2) → (σ 31 v5 ≤ v3) → (v4 = (-1) ∨ (v4 ≠ (-1) ∧ σ 30 v4 ≤ σ 30 v5)) → zR G MX5_valueOf 71 [zr 22, zi v1, zi v2, zi v3, zi v4, zi v5] [] σ Q := by
    intro h1 h3 h4 h5 h8
    refine z_iload dX5_valueOf_71 rfl ?_
    refine z_istore (ls' := [zr 22, zi v1, zi v2, zi v3, zi v5, zi v5]) dX5_valueOf_73 (by decide) rfl ?_
    exact J75_1 h1 h3 h4 h5 h8
  refine z_iload dX5_valueOf_6 rfl ?_
  refine z_aload_n dX5_valueOf_8 rfl rfl ?_
  refine z_getfI (k := 14) flRX5_55 rfl rfl dX5_valueOf_9 ?_
  refine z_icmp_ge dX5_valueOf_12 (tgt := 81) (by decide) (fun h1 => ?_) (fun h1 => ?_)
  · skip
    refine z_iload dX5_valueOf_81 rfl ?_
    refine z_iconst dX5_valueOf_83 (by unfold zIn; decide) ?_
    refine z_icmp_ne dX5_valueOf_84 (tgt := 91) (by decide) (fun h2 => ?_) (fun h2 => ?_)
    · skip
      refine z_aload_n dX5_valueOf_91 rfl rfl ?_
      refine z_getfR (k := 6) flRX5_30 rfl rfl dX5_valueOf_92 ?_
      refine z_iload dX5_valueOf_95 rfl ?_
      have s1 : (0 : Int) ≤ v4 ∧ v4 < (400 : Int) := k1 h1 h2
      refine z_iald rfl s1.1 s1.2 dX5_valueOf_97 ?_
      exact z_ireti rfl dX5_valueOf_98 (k2 h1 h2)
    · skip
      refine z_iconst dX5_valueOf_87 (by unfold zIn; decide) ?_
      refine z_goto dX5_valueOf_88 (tgt := 98) (by decide) ?_
      exact z_ireti rfl dX5_valueOf_98 (k3 h1 h2)
  · skip
    refine z_aload_n dX5_valueOf_15 rfl rfl ?_
    refine z_getfR (k := 5) flRX5_27 rfl rfl dX5_valueOf_16 ?_
    refine z_iload dX5_valueOf_19 rfl ?_
    have s4 : (0 : Int) ≤ v5 ∧ v5 < (400 : Int) := k4 h1
    refine z_iald rfl s4.1 s4.2 dX5_valueOf_21 ?_
    refine z_iload_n dX5_valueOf_22 rfl rfl ?_
    refine z_icmp_ne dX5_valueOf_23 (tgt := 75) (by decide) (fun h3 => ?_) (fun h3 => ?_)
    · skip
      exact J75 h1 (Or.inl h3)
    · skip
      refine z_aload_n dX5_valueOf_26 rfl rfl ?_
      refine z_getfR (k := 7) flRX5_33 rfl rfl dX5_valueOf_27 ?_
      refine z_iload dX5_valueOf_30 rfl ?_
      refine z_iald rfl s4.1 s4.2 dX5_valueOf_32 ?_
      refine z_iload_n dX5_valueOf_33 rfl rfl ?_
      refine z_icmp_gt dX5_valueOf_34 (tgt := 75) (by decide) (fun h4 => ?_) (fun h4 => ?_)
      · skip
        exact J75 h1 (Or.inr (Or.inl ⟨h3, h4⟩))
      · skip
        refine z_aload_n dX5_valueOf_37 rfl rfl ?_
        refine z_getfR (k := 8) flRX5_36 rfl rfl dX5_valueOf_38 ?_
        refine z_iload dX5_valueOf_41 rfl ?_
        refine z_iald rfl s4.1 s4.2 dX5_valueOf_43 ?_
        refine z_iload_n dX5_valueOf_44 rfl rfl ?_
        refine z_icmp_gt dX5_valueOf_45 (tgt := 75) (by decide) (fun h5 => ?_) (fun h5 => ?_)
        · skip
          exact J75 h1 (Or.inr (Or.inr (Or.inl ⟨h3, h4, h5⟩)))
        · skip
          refine z_iload dX5_valueOf_48 rfl ?_
          refine z_iconst dX5_valueOf_50 (by unfold zIn; decide) ?_
          refine z_icmp_eq dX5_valueOf_51 (tgt := 71) (by decide) (fun h6 => ?_) (fun h6 => ?_)
          · skip
            exact J71 h1 h3 h4 h5 (Or.inl h6)
          · skip
            refine z_aload_n dX5_valueOf_54 rfl rfl ?_
            refine z_getfR (k := 7) flRX5_33 rfl rfl dX5_valueOf_55 ?_
            refine z_iload dX5_valueOf_58 rfl ?_
            refine z_iald rfl s4.1 s4.2 dX5_valueOf_60 ?_
            refine z_aload_n dX5_valueOf_61 rfl rfl ?_
            refine z_getfR (k := 7) flRX5_33 rfl rfl dX5_valueOf_62 ?_
            refine z_iload dX5_valueOf_65 rfl ?_
            have s5 : (0 : Int) ≤ v4 ∧ v4 < (400 : Int) := k5 h1 h3 h4 h5 h6
            refine z_iald rfl s5.1 s5.2 dX5_valueOf_67 ?_
            refine z_icmp_lt dX5_valueOf_68 (tgt := 75) (by decide) (fun h7 => ?_) (fun h7 => ?_)
            · skip
              exact J75 h1 (Or.inr (Or.inr (Or.inr ⟨h3, h4, h5, h6, h7⟩)))
            · skip
              exact J71 h1 h3 h4 h5 (Or.inr ⟨h6, h7⟩)
set_option maxRecDepth 20000 in
set_option maxHeartbeats 1000000 in
theorem TX3_learn {G : zG} {σ : zS} {Q : Int → zS → Prop} {a1 a2 a3 : Int}  (k1 : zR G MX3_learn 3 [zr 47, zi a1, zi a2, zi a3, zi 0] [] σ Q) : zO G MX3_learn [zr 47, zi a1, zi a2, zi a3] σ Q := by
  refine zO_of (ls0 := [zr 47, zi a1, zi a2, zi a3, zu]) (by decide) (Nat.le_of_ble_eq_true rfl) rfl ?_
  refine z_iconst dX3_learn_0 (by unfold zIn; decide) ?_
  refine z_istore (ls' := [zr 47, zi a1, zi a2, zi a3, zi 0]) dX3_learn_1 (by decide) rfl ?_
  exact k1
set_option maxRecDepth 20000 in
set_option maxHeartbeats 1000000 in
theorem TX3_learn_3 {G : zG} {σ : zS} {Q : Int → zS → Prop} {v1 v2 v3 v4 : Int}  (k1 : (4 ≤ v4) → (0 : Int) ≤ v1 ∧ v1 < (24 : Int)) (k2 : (4 ≤ v4) → -9223372036854775808 ≤ v2 - σ 23 v1 ∧ v2 - σ 23 v1 < (9223372036854775808 : Int)) (k3 : (4 ≤ v4) → Q 0 (zup σ 47 6 (max 0 (zW (zldiv (v2 - σ 23 v1) 365))))) (k4 : (v4 < 4) → -2147483648 ≤ 4 * v1 ∧ 4 * v1 < (2147483648 : Int)) (k5 : (v4 < 4) → -2147483648 ≤ (4 * v1) + v4 ∧ (4 * v1) + v4 < (2147483648 : Int)) (k6 : (v4 < 4) → zO G MX5_valueOf [zr 22, zi ((4 * v1) + v4), zi v2, zi v3] σ (fun rr σ' => zR G MX3_learn 30 [zr 47, zi v1, zi v2, zi v3, zi v4] [zi rr, zi v4, zr 51] σ' Q)) : zR G MX3_learn 3 [zr 47, zi v1, zi v2, zi v3, zi v4] [] σ Q := by
  refine z_iload dX3_learn_3 rfl ?_
  refine z_iconst dX3_learn_5 (by unfold zIn; decide) ?_
  refine z_icmp_ge dX3_learn_6 (tgt := 37) (by decide) (fun h1 => ?_) (fun h1 => ?_)
  · skip
    refine z_aload_n dX3_learn_37 rfl rfl ?_
    refine z_iconst dX3_learn_38 (by unfold zIn; decide) ?_
    refine z_iload_n dX3_learn_39 rfl rfl ?_
    refine z_i2l dX3_learn_40 ?_
    refine z_aload_n dX3_learn_41 rfl rfl ?_
    refine z_getfR (k := 0) flRX3_24 rfl rfl dX3_learn_42 ?_
    refine z_getfR (k := 0) flRX3_90 rfl rfl dX3_learn_45 ?_
    refine z_iload_n dX3_learn_48 rfl rfl ?_
    have s1 : (0 : Int) ≤ v1 ∧ v1 < (24 : Int) := k1 h1
    refine z_iald rfl s1.1 s1.2 dX3_learn_49 ?_
    refine z_i2l dX3_learn_50 ?_
    have s2 : -9223372036854775808 ≤ v2 - σ 23 v1 ∧ v2 - σ 23 v1 < (9223372036854775808 : Int) := k2 h1
    refine z_lsubN dX3_learn_51 s2 ?_
    refine z_ldc2 (x := 365) (zin_3 (List.mem_of_getElem? (i := 133) (by decide +kernel))) (by unfold zLn; decide) dX3_learn_52 ?_
    refine z_ldiv dX3_learn_55 (by decide) ?_
    refine z_l2i dX3_learn_56 ?_
    refine z_max lkRX3_95 (by decide) (by decide) (Nat.le_of_ble_eq_true rfl) dX3_learn_57 ?_
    refine z_putI (k := 6) fpRX3_100 rfl rfl dX3_learn_60 ?_
    exact z_vret rfl dX3_learn_63 (k3 h1)
  · skip
    refine z_aload_n dX3_learn_9 rfl rfl ?_
    refine z_getfR (k := 5) flRX3_21 rfl rfl dX3_learn_10 ?_
    refine z_iload dX3_learn_13 rfl ?_
    refine z_aload_n dX3_learn_15 rfl rfl ?_
    refine z_getfR (k := 0) flRX3_24 rfl rfl dX3_learn_16 ?_
    refine z_iconst dX3_learn_19 (by unfold zIn; decide) ?_
    refine z_iload_n dX3_learn_20 rfl rfl ?_
    have s4 : -2147483648 ≤ 4 * v1 ∧ 4 * v1 < (2147483648 : Int) := k4 h1
    refine z_imulN dX3_learn_21 s4 ?_
    refine z_iload dX3_learn_22 rfl ?_
    have s5 : -2147483648 ≤ (4 * v1) + v4 ∧ (4 * v1) + v4 < (2147483648 : Int) := k5 h1
    refine z_iaddN dX3_learn_24 s5 ?_
    refine z_iload_n dX3_learn_25 rfl rfl ?_
    refine z_iload_n dX3_learn_26 rfl rfl ?_
    refine z_callv (as := [zi ((4 * v1) + v4), zi v2, zi v3]) (st := [zi v4, zr 51]) mkX5_valueOf lkRX3_86 rfl rfl rfl (by decide) (Nat.le_of_ble_eq_true rfl) rfl dX3_learn_27 (k6 h1)
set_option maxRecDepth 20000 in
set_option maxHeartbeats 1000000 in
theorem TX3_learn_30 {G : zG} {σ : zS} {Q : Int → zS → Prop} {v1 v2 v3 v4 r t1 : Int}  (k1 : (0 : Int) ≤ t1 ∧ t1 < (4 : Int)) (k2 : -2147483648 ≤ v4 + 1 ∧ v4 + 1 < (2147483648 : Int)) (k3 : zR G MX3_learn 3 [zr 47, zi v1, zi v2, zi v3, zi (v4 + 1)] [] (zup σ 51 t1 r) Q) : zR G MX3_learn 30 [zr 47, zi v1, zi v2, zi v3, zi v4] [zi r, zi t1, zr 51] σ Q := by
  have s1 : (0 : Int) ≤ t1 ∧ t1 < (4 : Int) := k1
  refine z_iast rfl s1.1 s1.2 dX3_learn_30 ?_
  have s2 : -2147483648 ≤ v4 + 1 ∧ v4 + 1 < (2147483648 : Int) := k2
  refine z_iincN (ls' := [zr 47, zi v1, zi v2, zi v3, zi (v4 + 1)]) dX3_learn_31 rfl (by decide) s2 rfl ?_
  refine z_goto dX3_learn_34 (tgt := 3) (by decide) ?_
  exact k3
set_option maxRecDepth 20000 in
set_option maxHeartbeats 1000000 in
theorem TX5_climb {G : zG} {σ : zS} {Q : Int → zS → Prop} {a1 a2 : Int} {a3 a3n : Nat} (ha3 : zsh a3 = (0, a3n, [])) (k1 : zR G MX5_climb 6 [zr 22, zi a1, zi a2, zr a3, zi 0, zi 0, zu, zu] [] σ Q) : zO G MX5_climb [zr 22, zi a1, zi a2, zr a3] σ Q := by
  refine zO_of (ls0 := [zr 22, zi a1, zi a2, zr a3, zu, zu, zu, zu]) (by decide) (Nat.le_of_ble_eq_true rfl) rfl ?_
  refine z_iconst dX5_climb_0 (by unfold zIn; decide) ?_
  refine z_istore (ls' := [zr 22, zi a1, zi a2, zr a3, zi 0, zu, zu, zu]) dX5_climb_1 (by decide) rfl ?_
  refine z_iconst dX5_climb_3 (by unfold zIn; decide) ?_
  refine z_istore (ls' := [zr 22, zi a1, zi a2, zr a3, zi 0, zi 0, zu, zu]) dX5_climb_4 (by decide) rfl ?_
  exact k1
set_option maxRecDepth 20000 in
set_option maxHeartbeats 1000000 in
theorem TX5_climb_6 {G : zG} {σ : zS} {Q : Int → zS → Prop} {v1 v2 v4 v5 : Int} {a3 a3n : Nat} (ha3 : zsh a3 = (0, a3n, [])) (k1 : (24 ≤ v5) → zR G MX5_climb 54 [zr 22, zi v1, zi v2, zr a3, zi v4, zi 0, zu, zu] [] σ Q) (k2 : (v5 < 24) → (0 : Int) ≤ v5 ∧ v5 < (a3n : Int)) (k3 : (v5 < 24) → (zand (zushr v1 v5) 1 ≠ 0) → -2147483648 ≤ v4 + 1 ∧ v4 + 1 < (2147483648 : Int)) (k4 : (v5 < 24) → (zand (zushr v1 v5) 1 ≠ 0) → (0 : Int) ≤ v4 ∧ v4 < (24 : Int)) (k5 : (v5 < 24) → (zand (zushr v1 v5) 1 = 0) → -2147483648 ≤ v5 + 1 ∧ v5 + 1 < (2147483648 : Int)) (k6 : (v5 < 24) → (zand (zushr v1 v5) 1 = 0) → zR G MX5_climb 6 [zr 22, zi v1, zi v2, zr a3, zi v4, zi (v5 + 1), zu, zu] [] (zup σ a3 v5 99) Q) (k7 : (v5 < 24) → (zand (zushr v1 v5) 1 ≠ 0) → -2147483648 ≤ v5 + 1 ∧ v5 + 1 < (2147483648 : Int)) (k8 : (v5 < 24) → (zand (zushr v1 v5) 1 ≠ 0) → zR G MX5_climb 6 [zr 22, zi v1, zi v2, zr a3, zi (v4 + 1), zi (v5 + 1), zu, zu] [] (zup (zup (zup σ a3 v5 99) a3 v5 0) 34 v4 v5) Q) : zR G MX5_climb 6 [zr 22, zi v1, zi v2, zr a3, zi v4, zi v5, zu, zu] [] σ Q := by
  have J45_1 : (v5 < 24) → (zand (zushr v1 v5) 1 ≠ 0) → zR G MX5_climb 45 [zr 22, zi v1, zi v2, zr a3, zi (v4 + 1), zi v5, zu, zu] [] (zup (zup (zup σ a3 v5 99) a3 v5 0) 34 v4 v5) Q := by
    intro h1 h2
    have s7 : -2147483648 ≤ v5 + 1 ∧ v5 + 1 < (2147483648 : Int) := k7 h1 h2
    refine z_iincN (ls' := [zr 22, zi v1, zi v2, zr a3, zi (v4 + 1), zi (v5 + 1), zu, zu]) dX5_climb_45 rfl (by decide) s7 rfl ?_
    refine z_goto dX5_climb_48 (tgt := 6) (by decide) ?_
    exact k8 h1 h2
  have J45 : (v5 < 24) → (zand (zushr v1 v5) 1 = 0) → zR G MX5_climb 45 [zr 22, zi v1, zi v2, zr a3, zi v4, zi v5, zu, zu] [] (zup σ a3 v5 99) Q := by
    intro h1 h2
    have s5 : -2147483648 ≤ v5 + 1 ∧ v5 + 1 < (2147483648 : Int) := k5 h1 h2
    refine z_iincN (ls' := [zr 22, zi v1, zi v2, zr a3, zi v4, zi (v5 + 1), zu, zu]) dX5_climb_45 rfl (by decide) s5 rfl ?_
    refine z_goto dX5_climb_48 (tgt := 6) (by decide) ?_
    exact k6 h1 h2
  refine z_iload dX5_climb_6 rfl ?_
  refine z_bipush (x := 24) dX5_climb_8 (by decide +kernel) (by unfold zIn; decide) ?_
  refine z_icmp_ge dX5_climb_10 (tgt := 51) (by decide) (fun h1 => ?_) (fun h1 => ?_)
  · skip
    refine z_iconst dX5_climb_51 (by unfold zIn; decide) ?_
    refine z_istore (ls' := [zr 22, zi v1, zi v2, zr a3, zi v4, zi 0, zu, zu]) dX5_climb_52 (by decide) rfl ?_
    exact k1 h1
  · skip
    refine z_aload_n dX5_climb_13 rfl rfl ?_
    refine z_iload dX5_climb_14 rfl ?_
    refine z_bipush (x := 99) dX5_climb_16 (by decide +kernel) (by unfold zIn; decide) ?_
    have s2 : (0 : Int) ≤ v5 ∧ v5 < (a3n : Int) := k2 h1
    refine z_iast ha3 s2.1 s2.2 dX5_climb_18 ?_
    refine z_iload_n dX5_climb_19 rfl rfl ?_
    refine z_iload dX5_climb_20 rfl ?_
    refine z_iushr dX5_climb_22 ?_
    refine z_iconst dX5_climb_23 (by unfold zIn; decide) ?_
    refine z_iand dX5_climb_24 ?_
    refine z_if_eq dX5_climb_25 (tgt := 45) (by decide) (fun h2 => ?_) (fun h2 => ?_)
    · skip
      exact J45 h1 h2
    · skip
      refine z_aload_n dX5_climb_28 rfl rfl ?_
      refine z_iload dX5_climb_29 rfl ?_
      refine z_iconst dX5_climb_31 (by unfold zIn; decide) ?_
      refine z_iast ha3 s2.1 s2.2 dX5_climb_32 ?_
      refine z_aload_n dX5_climb_33 rfl rfl ?_
      refine z_getfR (k := 11) flRX5_45 rfl rfl dX5_climb_34 ?_
      refine z_iload dX5_climb_37 rfl ?_
      have s3 : -2147483648 ≤ v4 + 1 ∧ v4 + 1 < (2147483648 : Int) := k3 h1 h2
      refine z_iincN (ls' := [zr 22, zi v1, zi v2, zr a3, zi (v4 + 1), zi v5, zu, zu]) dX5_climb_39 rfl (by decide) s3 rfl ?_
      refine z_iload dX5_climb_42 rfl ?_
      have s4 : (0 : Int) ≤ v4 ∧ v4 < (24 : Int) := k4 h1 h2
      refine z_iast rfl s4.1 s4.2 dX5_climb_44 ?_
      exact J45_1 h1 h2
set_option maxRecDepth 20000 in
set_option maxHeartbeats 1000000 in
theorem TX5_climb_54 {G : zG} {σ : zS} {Q : Int → zS → Prop} {v1 v2 v4 v5 : Int} {a3 a3n : Nat} (ha3 : zsh a3 = (0, a3n, [])) (k1 : (v5 < v4) → (v5 < 24) → (0 : Int) ≤ v5 ∧ v5 < (24 : Int)) (k2 : (v5 < v4) → (v5 < 24) → -2147483648 ≤ 2 * σ 34 v5 ∧ 2 * σ 34 v5 < (2147483648 : Int)) (k3 : (v5 < v4) → (v5 < 24) → zR G MX5_climb 83 [zr 22, zi v1, zi v2, zr a3, zi v4, zi v5, zi (σ 34 v5), zi (2 * σ 34 v5)] [] σ Q) (k4 : (v4 ≤ v5 ∨ (v5 < v4 ∧ 24 ≤ v5)) → Q 0 σ) : zR G MX5_climb 54 [zr 22, zi v1, zi v2, zr a3, zi v4, zi v5, zu, zu] [] σ Q := by
  have J162 : (v4 ≤ v5 ∨ (v5 < v4 ∧ 24 ≤ v5)) → zR G MX5_climb 162 [zr 22, zi v1, zi v2, zr a3, zi v4, zi v5, zu, zu] [] σ Q := by
    intro h3
    exact z_vret rfl dX5_climb_162 (k4 h3)
  refine z_iload dX5_climb_54 rfl ?_
  refine z_iload dX5_climb_56 rfl ?_
  refine z_icmp_ge dX5_climb_58 (tgt := 162) (by decide) (fun h1 => ?_) (fun h1 => ?_)
  · skip
    exact J162 (Or.inl h1)
  · skip
    refine z_iload dX5_climb_61 rfl ?_
    refine z_bipush (x := 24) dX5_climb_63 (by decide +kernel) (by unfold zIn; decide) ?_
    refine z_icmp_ge dX5_climb_65 (tgt := 162) (by decide) (fun h2 => ?_) (fun h2 => ?_)
    · skip
      exact J162 (Or.inr ⟨h1, h2⟩)
    · skip
      refine z_aload_n dX5_climb_68 rfl rfl ?_
      refine z_getfR (k := 11) flRX5_45 rfl rfl dX5_climb_69 ?_
      refine z_iload dX5_climb_72 rfl ?_
      have s1 : (0 : Int) ≤ v5 ∧ v5 < (24 : Int) := k1 h1 h2
      refine z_iald rfl s1.1 s1.2 dX5_climb_74 ?_
      refine z_istore (ls' := [zr 22, zi v1, zi v2, zr a3, zi v4, zi v5, zi (σ 34 v5), zu]) dX5_climb_75 (by decide) rfl ?_
      refine z_iconst dX5_climb_77 (by unfold zIn; decide) ?_
      refine z_iload dX5_climb_78 rfl ?_
      have s2 : -2147483648 ≤ 2 * σ 34 v5 ∧ 2 * σ 34 v5 < (2147483648 : Int) := k2 h1 h2
      refine z_imulN dX5_climb_80 s2 ?_
      refine z_istore (ls' := [zr 22, zi v1, zi v2, zr a3, zi v4, zi v5, zi (σ 34 v5), zi (2 * σ 34 v5)]) dX5_climb_81 (by decide) rfl ?_
      exact k3 h1 h2
set_option maxRecDepth 20000 in
set_option maxHeartbeats 1000000 in
theorem TX5_climb_83 {G : zG} {σ : zS} {Q : Int → zS → Prop} {v1 v2 v4 v5 v6 v7 : Int} {a3 a3n : Nat} (ha3 : zsh a3 = (0, a3n, [])) (k1 : -2147483648 ≤ 2 * v6 ∧ 2 * v6 < (2147483648 : Int)) (k2 : -2147483648 ≤ (2 * v6) + 1 ∧ (2 * v6) + 1 < (2147483648 : Int)) (k3 : ((2 * v6) + 1 < v7) → -2147483648 ≤ v5 + 1 ∧ v5 + 1 < (2147483648 : Int)) (k4 : ((2 * v6) + 1 < v7) → zR G MX5_climb 54 [zr 22, zi v1, zi v2, zr a3, zi v4, zi (v5 + 1), zu, zu] [] σ Q) (k5 : (v7 ≤ (2 * v6) + 1) → (0 : Int) ≤ v7 ∧ v7 < (48 : Int)) (k6 : (v7 ≤ (2 * v6) + 1) → ((σ 25 v7 ≠ (-1) ∧ σ 25 v7 ≤ v2)) → (0 : Int) ≤ σ 24 v7 ∧ σ 24 v7 < (a3n : Int)) (k7 : (v7 ≤ (2 * v6) + 1) → ((σ 25 v7 ≠ (-1) ∧ σ 25 v7 ≤ v2)) → (σ a3 (σ 24 v7) = 99) → (0 : Int) ≤ v6 ∧ v6 < (a3n : Int)) (k8 : (v7 ≤ (2 * v6) + 1) → ((σ 25 v7 ≠ (-1) ∧ σ 25 v7 ≤ v2)) → (σ a3 (σ 24 v7) = 99) → -2147483648 ≤ σ a3 v6 + 1 ∧ σ a3 v6 + 1 < (2147483648 : Int)) (k9 : (v7 ≤ (2 * v6) + 1) → ((σ 25 v7 ≠ (-1) ∧ σ 25 v7 ≤ v2)) → (σ a3 (σ 24 v7) = 99) → -2147483648 ≤ v4 + 1 ∧ v4 + 1 < (2147483648 : Int)) (k10 : (v7 ≤ (2 * v6) + 1) → ((σ 25 v7 ≠ (-1) ∧ σ 25 v7 ≤ v2)) → (σ a3 (σ 24 v7) = 99) → (0 : Int) ≤ v4 ∧ v4 < (24 : Int)) (k11 : (v7 ≤ (2 * v6) + 1) → ((¬ ((σ 25 v7 ≠ (-1) ∧ σ 25 v7 ≤ v2))) ∨ (((σ 25 v7 ≠ (-1) ∧ σ 25 v7 ≤ v2)) ∧ σ a3 (σ 24 v7) ≠ 99)) → -2147483648 ≤ v7 + 1 ∧ v7 + 1 < (2147483648 : Int)) (k12 : (v7 ≤ (2 * v6) + 1) → ((¬ ((σ 25 v7 ≠ (-1) ∧ σ 25 v7 ≤ v2))) ∨ (((σ 25 v7 ≠ (-1) ∧ σ 25 v7 ≤ v2)) ∧ σ a3 (σ 24 v7) ≠ 99)) → zR G MX5_climb 83 [zr 22, zi v1, zi v2, zr a3, zi v4, zi v5, zi v6, zi (v7 + 1)] [] σ Q) (k13 : (v7 ≤ (2 * v6) + 1) → ((σ 25 v7 ≠ (-1) ∧ σ 25 v7 ≤ v2)) → (σ a3 (σ 24 v7) = 99) → -2147483648 ≤ v7 + 1 ∧ v7 + 1 < (2147483648 : Int)) (k14 : (v7 ≤ (2 * v6) + 1) → ((σ 25 v7 ≠ (-1) ∧ σ 25 v7 ≤ v2)) → (σ a3 (σ 24 v7) = 99) → zR G MX5_climb 83 [zr 22, zi v1, zi v2, zr a3, zi (v4 + 1), zi v5, zi v6, zi (v7 + 1)] [] (zup (zup σ a3 (σ 24 v7) (σ a3 v6 + 1)) 34 v4 ((zup σ a3 (σ 24 v7) (σ a3 v6 + 1)) 24 v7)) Q) : zR G MX5_climb 83 [zr 22, zi v1, zi v2, zr a3, zi v4, zi v5, zi v6, zi v7] [] σ Q := by
  have J150_1 : (v7 ≤ (2 * v6) + 1) → ((σ 25 v7 ≠ (-1) ∧ σ 25 v7 ≤ v2)) → (σ a3 (σ 24 v7) = 99) → zR G MX5_climb 150 [zr 22, zi v1, zi v2, zr a3, zi (v4 + 1), zi v5, zi v6, zi v7] [] (zup (zup σ a3 (σ 24 v7) (σ a3 v6 + 1)) 34 v4 ((zup σ a3 (σ 24 v7) (σ a3 v6 + 1)) 24 v7)) Q := by
    intro h1 h2 h3
    have s13 : -2147483648 ≤ v7 + 1 ∧ v7 + 1 < (2147483648 : Int) := k13 h1 h2 h3
    refine z_iincN (ls' := [zr 22, zi v1, zi v2, zr a3, zi (v4 + 1), zi v5, zi v6, zi (v7 + 1)]) dX5_climb_150 rfl (by decide) s13 rfl ?_
    refine z_goto dX5_climb_153 (tgt := 83) (by decide) ?_
    exact k14 h1 h2 h3
  have J150 : (v7 ≤ (2 * v6) + 1) → ((¬ ((σ 25 v7 ≠ (-1) ∧ σ 25 v7 ≤ v2))) ∨ (((σ 25 v7 ≠ (-1) ∧ σ 25 v7 ≤ v2)) ∧ σ a3 (σ 24 v7) ≠ 99)) → zR G MX5_climb 150 [zr 22, zi v1, zi v2, zr a3, zi v4, zi v5, zi v6, zi v7] [] σ Q := by
    intro h1 h4
    have s11 : -2147483648 ≤ v7 + 1 ∧ v7 + 1 < (2147483648 : Int) := k11 h1 h4
    refine z_iincN (ls' := [zr 22, zi v1, zi v2, zr a3, zi v4, zi v5, zi v6, zi (v7 + 1)]) dX5_climb_150 rfl (by decide) s11 rfl ?_
    refine z_goto dX5_climb_153 (tgt := 83) (by decide) ?_
    exact k12 h1 h4
  refine z_iload dX5_climb_83 rfl ?_
  refine z_iconst dX5_climb_85 (by unfold zIn; decide) ?_
  refine z_iload dX5_climb_86 rfl ?_
  have s1 : -2147483648 ≤ 2 * v6 ∧ 2 * v6 < (2147483648 : Int) := k1
  refine z_imulN dX5_climb_88 s1 ?_
  refine z_iconst dX5_climb_89 (by unfold zIn; decide) ?_
  have s2 : -2147483648 ≤ (2 * v6) + 1 ∧ (2 * v6) + 1 < (2147483648 : Int) := k2
  refine z_iaddN dX5_climb_90 s2 ?_
  refine z_icmp_gt dX5_climb_91 (tgt := 156) (by decide) (fun h1 => ?_) (fun h1 => ?_)
  · skip
    have s3 : -2147483648 ≤ v5 + 1 ∧ v5 + 1 < (2147483648 : Int) := k3 h1
    refine z_iincN (ls' := [zr 22, zi v1, zi v2, zr a3, zi v4, zi (v5 + 1), zi v6, zi v7]) dX5_climb_156 rfl (by decide) s3 rfl ?_
    refine z_goto dX5_climb_159 (tgt := 54) (by decide) ?_
    exact zR_fg [false, false, false, false, false, false, true, true] (k4 h1)
  · skip
    refine z_aload_n dX5_climb_94 rfl rfl ?_
    refine z_iload dX5_climb_95 rfl ?_
    refine z_iload_n dX5_climb_97 rfl rfl ?_
    have s5 : (0 : Int) ≤ v7 ∧ v7 < (48 : Int) := k5 h1
    refine z_callv (as := [zi v7, zi v2]) (st := []) mkX5_isKnown lkRX5_74 rfl rfl rfl (by decide) (Nat.le_of_ble_eq_true rfl) rfl dX5_climb_98 ?_
    refine SX5_isKnown s5 ?_
    show zR G MX5_climb 101 [zr 22, zi v1, zi v2, zr a3, zi v4, zi v5, zi v6, zi v7] [zi (if (σ 25 v7 ≠ (-1) ∧ σ 25 v7 ≤ v2) then (1 : Int) else 0)] σ Q
    refine z_if_eq dX5_climb_101 (tgt := 150) (by decide) (fun z => ?_) (fun z => ?_)
    · have h2 : ¬ ((σ 25 v7 ≠ (-1) ∧ σ 25 v7 ≤ v2)) := zb0 z
      exact J150 h1 (Or.inl h2)
    · have h2 : (σ 25 v7 ≠ (-1) ∧ σ 25 v7 ≤ v2) := zb1 z
      refine z_aload_n dX5_climb_104 rfl rfl ?_
      refine z_aload_n dX5_climb_105 rfl rfl ?_
      refine z_getfR (k := 1) flRX5_15 rfl rfl dX5_climb_106 ?_
      refine z_iload dX5_climb_109 rfl ?_
      refine z_iald rfl s5.1 s5.2 dX5_climb_111 ?_
      have s6 : (0 : Int) ≤ σ 24 v7 ∧ σ 24 v7 < (a3n : Int) := k6 h1 h2
      refine z_iald ha3 s6.1 s6.2 dX5_climb_112 ?_
      refine z_bipush (x := 99) dX5_climb_113 (by decide +kernel) (by unfold zIn; decide) ?_
      refine z_icmp_ne dX5_climb_115 (tgt := 150) (by decide) (fun h3 => ?_) (fun h3 => ?_)
      · skip
        exact J150 h1 (Or.inr ⟨h2, h3⟩)
      · skip
        refine z_aload_n dX5_climb_118 rfl rfl ?_
        refine z_aload_n dX5_climb_119 rfl rfl ?_
        refine z_getfR (k := 1) flRX5_15 rfl rfl dX5_climb_120 ?_
        refine z_iload dX5_climb_123 rfl ?_
        refine z_iald rfl s5.1 s5.2 dX5_climb_125 ?_
        refine z_aload_n dX5_climb_126 rfl rfl ?_
        refine z_iload dX5_climb_127 rfl ?_
        have s7 : (0 : Int) ≤ v6 ∧ v6 < (a3n : Int) := k7 h1 h2 h3
        refine z_iald ha3 s7.1 s7.2 dX5_climb_129 ?_
        refine z_iconst dX5_climb_130 (by unfold zIn; decide) ?_
        have s8 : -2147483648 ≤ σ a3 v6 + 1 ∧ σ a3 v6 + 1 < (2147483648 : Int) := k8 h1 h2 h3
        refine z_iaddN dX5_climb_131 s8 ?_
        refine z_iast ha3 s6.1 s6.2 dX5_climb_132 ?_
        refine z_aload_n dX5_climb_133 rfl rfl ?_
        refine z_getfR (k := 11) flRX5_45 rfl rfl dX5_climb_134 ?_
        refine z_iload dX5_climb_137 rfl ?_
        have s9 : -2147483648 ≤ v4 + 1 ∧ v4 + 1 < (2147483648 : Int) := k9 h1 h2 h3
        refine z_iincN (ls' := [zr 22, zi v1, zi v2, zr a3, zi (v4 + 1), zi v5, zi v6, zi v7]) dX5_climb_139 rfl (by decide) s9 rfl ?_
        refine z_aload_n dX5_climb_142 rfl rfl ?_
        refine z_getfR (k := 1) flRX5_15 rfl rfl dX5_climb_143 ?_
        refine z_iload dX5_climb_146 rfl ?_
        refine z_iald rfl s5.1 s5.2 dX5_climb_148 ?_
        have s10 : (0 : Int) ≤ v4 ∧ v4 < (24 : Int) := k10 h1 h2 h3
        refine z_iast rfl s10.1 s10.2 dX5_climb_149 ?_
        exact J150_1 h1 h2 h3
set_option maxRecDepth 20000 in
set_option maxHeartbeats 1000000 in
theorem TX5_measure {G : zG} {σ : zS} {Q : Int → zS → Prop} {a1 a2 : Int}  (k1 : zO G MX5_climb [zr 22, zi (zshl 1 a1), zi a2, zr 32] σ (fun rr σ' => zR G MX5_measure 12 [zr 22, zi a1, zi a2, zu, zu] [] σ' Q)) : zO G MX5_measure [zr 22, zi a1, zi a2] σ Q := by
  refine zO_of (ls0 := [zr 22, zi a1, zi a2, zu, zu]) (by decide) (Nat.le_of_ble_eq_true rfl) rfl ?_
  refine z_aload_n dX5_measure_0 rfl rfl ?_
  refine z_iconst dX5_measure_1 (by unfold zIn; decide) ?_
  refine z_iload_n dX5_measure_2 rfl rfl ?_
  refine z_ishl dX5_measure_3 ?_
  refine z_iload_n dX5_measure_4 rfl rfl ?_
  refine z_aload_n dX5_measure_5 rfl rfl ?_
  refine z_getfR (k := 9) flRX5_39 rfl rfl dX5_measure_6 ?_
  refine z_callv (as := [zi (zshl 1 a1), zi a2, zr 32]) (st := []) mkX5_climb lkRX5_70 rfl rfl rfl (by decide) (Nat.le_of_ble_eq_true rfl) rfl dX5_measure_9 (k1)
set_option maxRecDepth 20000 in
set_option maxHeartbeats 1000000 in
theorem TX5_measure_12 {G : zG} {σ : zS} {Q : Int → zS → Prop} {v1 v2 : Int}  (k1 : zO G MX5_climb [zr 22, zi (σ 22 13), zi v2, zr 33] σ (fun rr σ' => zR G MX5_measure 25 [zr 22, zi v1, zi v2, zu, zu] [] σ' Q)) : zR G MX5_measure 12 [zr 22, zi v1, zi v2, zu, zu] [] σ Q := by
  refine z_aload_n dX5_measure_12 rfl rfl ?_
  refine z_aload_n dX5_measure_13 rfl rfl ?_
  refine z_getfI (k := 13) flRX5_52 rfl rfl dX5_measure_14 ?_
  refine z_iload_n dX5_measure_17 rfl rfl ?_
  refine z_aload_n dX5_measure_18 rfl rfl ?_
  refine z_getfR (k := 10) flRX5_42 rfl rfl dX5_measure_19 ?_
  refine z_callv (as := [zi (σ 22 13), zi v2, zr 33]) (st := []) mkX5_climb lkRX5_70 rfl rfl rfl (by decide) (Nat.le_of_ble_eq_true rfl) rfl dX5_measure_22 (k1)
set_option maxRecDepth 20000 in
set_option maxHeartbeats 1000000 in
theorem TX5_measure_25 {G : zG} {σ : zS} {Q : Int → zS → Prop} {v1 v2 : Int}  (k1 : zR G MX5_measure 37 [zr 22, zi v1, zi v2, zi 99, zi 0] [] (zup σ 22 15 99) Q) : zR G MX5_measure 25 [zr 22, zi v1, zi v2, zu, zu] [] σ Q := by
  refine z_aload_n dX5_measure_25 rfl rfl ?_
  refine z_bipush (x := 99) dX5_measure_26 (by decide +kernel) (by unfold zIn; decide) ?_
  refine z_putI (k := 15) fpRX5_58 rfl rfl dX5_measure_28 ?_
  refine z_bipush (x := 99) dX5_measure_31 (by decide +kernel) (by unfold zIn; decide) ?_
  refine z_istore_n (ls' := [zr 22, zi v1, zi v2, zi 99, zu]) dX5_measure_33 rfl (by decide) rfl ?_
  refine z_iconst dX5_measure_34 (by unfold zIn; decide) ?_
  refine z_istore (ls' := [zr 22, zi v1, zi v2, zi 99, zi 0]) dX5_measure_35 (by decide) rfl ?_
  exact k1
set_option maxRecDepth 20000 in
set_option maxHeartbeats 1000000 in
theorem TX5_measure_37 {G : zG} {σ : zS} {Q : Int → zS → Prop} {v1 v2 v3 v4 : Int}  (k1 : (σ 22 12 ≤ v4) → Q 0 (zup σ 22 16 (min (σ 22 15) v3))) (k2 : (v4 < σ 22 12) → (0 : Int) ≤ v4 ∧ v4 < (24 : Int)) (k3 : (v4 < σ 22 12) → (σ 32 v4 ≠ 99) → (σ 33 v4 ≠ 99) → -2147483648 ≤ σ 32 v4 + σ 33 v4 ∧ σ 32 v4 + σ 33 v4 < (2147483648 : Int)) (k4 : (v4 < σ 22 12) → (σ 32 v4 ≠ 99) → (σ 33 v4 = 99) → -2147483648 ≤ 2 * v4 ∧ 2 * v4 < (2147483648 : Int)) (k5 : (v4 < σ 22 12) → (σ 32 v4 ≠ 99) → (σ 33 v4 = 99) → (0 : Int) ≤ (2 * v4) ∧ (2 * v4) < (48 : Int)) (k6 : (v4 < σ 22 12) → (σ 32 v4 ≠ 99) → (σ 33 v4 = 99) → ((σ 25 (2 * v4) ≠ (-1) ∧ σ 25 (2 * v4) ≤ v2)) → -2147483648 ≤ (2 * v4) + 1 ∧ (2 * v4) + 1 < (2147483648 : Int)) (k7 : (v4 < σ 22 12) → (σ 32 v4 ≠ 99) → (σ 33 v4 = 99) → ((σ 25 (2 * v4) ≠ (-1) ∧ σ 25 (2 * v4) ≤ v2)) → (0 : Int) ≤ ((2 * v4) + 1) ∧ ((2 * v4) + 1) < (48 : Int)) (k8 : (v4 < σ 22 12) → (σ 32 v4 ≠ 99) → (σ 33 v4 ≠ 99) → -2147483648 ≤ 2 * v4 ∧ 2 * v4 < (2147483648 : Int)) (k9 : (v4 < σ 22 12) → (σ 32 v4 ≠ 99) → (σ 33 v4 ≠ 99) → (0 : Int) ≤ (2 * v4) ∧ (2 * v4) < (48 : Int)) (k10 : (v4 < σ 22 12) → (σ 32 v4 ≠ 99) → (σ 33 v4 ≠ 99) → (((zup σ 22 15 (min (σ 22 15) (σ 32 v4 + σ 33 v4))) 25 (2 * v4) ≠ (-1) ∧ (zup σ 22 15 (min (σ 22 15) (σ 32 v4 + σ 33 v4))) 25 (2 * v4) ≤ v2)) → -2147483648 ≤ (2 * v4) + 1 ∧ (2 * v4) + 1 < (2147483648 : Int)) (k11 : (v4 < σ 22 12) → (σ 32 v4 ≠ 99) → (σ 33 v4 ≠ 99) → (((zup σ 22 15 (min (σ 22 15) (σ 32 v4 + σ 33 v4))) 25 (2 * v4) ≠ (-1) ∧ (zup σ 22 15 (min (σ 22 15) (σ 32 v4 + σ 33 v4))) 25 (2 * v4) ≤ v2)) → (0 : Int) ≤ ((2 * v4) + 1) ∧ ((2 * v4) + 1) < (48 : Int)) (k12 : (v4 < σ 22 12) → (σ 32 v4 ≠ 99) → (σ 33 v4 = 99) → ((¬ ((σ 25 (2 * v4) ≠ (-1) ∧ σ 25 (2 * v4) ≤ v2))) ∨ (((σ 25 (2 * v4) ≠ (-1) ∧ σ 25 (2 * v4) ≤ v2)) ∧ (¬ ((σ 25 ((2 * v4) + 1) ≠ (-1) ∧ σ 25 ((2 * v4) + 1) ≤ v2))))) → (0 : Int) ≤ v4 ∧ v4 < (24 : Int)) (k13 : (v4 < σ 22 12) → (σ 32 v4 ≠ 99) → (σ 33 v4 = 99) → ((¬ ((σ 25 (2 * v4) ≠ (-1) ∧ σ 25 (2 * v4) ≤ v2))) ∨ (((σ 25 (2 * v4) ≠ (-1) ∧ σ 25 (2 * v4) ≤ v2)) ∧ (¬ ((σ 25 ((2 * v4) + 1) ≠ (-1) ∧ σ 25 ((2 * v4) + 1) ≤ v2))))) → -2147483648 ≤ σ 32 v4 + 1 ∧ σ 32 v4 + 1 < (2147483648 : Int)) (k14 : (v4 < σ 22 12) → (σ 32 v4 ≠ 99) → (σ 33 v4 ≠ 99) → ((¬ (((zup σ 22 15 (min (σ 22 15) (σ 32 v4 + σ 33 v4))) 25 (2 * v4) ≠ (-1) ∧ (zup σ 22 15 (min (σ 22 15) (σ 32 v4 + σ 33 v4))) 25 (2 * v4) ≤ v2))) ∨ ((((zup σ 22 15 (min (σ 22 15) (σ 32 v4 + σ 33 v4))) 25 (2 * v4) ≠ (-1) ∧ (zup σ 22 15 (min (σ 22 15) (σ 32 v4 + σ 33 v4))) 25 (2 * v4) ≤ v2)) ∧ (¬ (((zup σ 22 15 (min (σ 22 15) (σ 32 v4 + σ 33 v4))) 25 ((2 * v4) + 1) ≠ (-1) ∧ (zup σ 22 15 (min (σ 22 15) (σ 32 v4 + σ 33 v4))) 25 ((2 * v4) + 1) ≤ v2))))) → (0 : Int) ≤ v4 ∧ v4 < (24 : Int)) (k15 : (v4 < σ 22 12) → (σ 32 v4 ≠ 99) → (σ 33 v4 ≠ 99) → ((¬ (((zup σ 22 15 (min (σ 22 15) (σ 32 v4 + σ 33 v4))) 25 (2 * v4) ≠ (-1) ∧ (zup σ 22 15 (min (σ 22 15) (σ 32 v4 + σ 33 v4))) 25 (2 * v4) ≤ v2))) ∨ ((((zup σ 22 15 (min (σ 22 15) (σ 32 v4 + σ 33 v4))) 25 (2 * v4) ≠ (-1) ∧ (zup σ 22 15 (min (σ 22 15) (σ 32 v4 + σ 33 v4))) 25 (2 * v4) ≤ v2)) ∧ (¬ (((zup σ 22 15 (min (σ 22 15) (σ 32 v4 + σ 33 v4))) 25 ((2 * v4) + 1) ≠ (-1) ∧ (zup σ 22 15 (min (σ 22 15) (σ 32 v4 + σ 33 v4))) 25 ((2 * v4) + 1) ≤ v2))))) → -2147483648 ≤ σ 32 v4 + 1 ∧ σ 32 v4 + 1 < (2147483648 : Int)) (k16 : (v4 < σ 22 12) → (σ 32 v4 = 99 ∨ (σ 32 v4 ≠ 99 ∧ σ 33 v4 = 99 ∧ ((σ 25 (2 * v4) ≠ (-1) ∧ σ 25 (2 * v4) ≤ v2)) ∧ ((σ 25 ((2 * v4) + 1) ≠ (-1) ∧ σ 25 ((2 * v4) + 1) ≤ v2)))) → -2147483648 ≤ v4 + 1 ∧ v4 + 1 < (2147483648 : Int)) (k17 : (v4 < σ 22 12) → (σ 32 v4 = 99 ∨ (σ 32 v4 ≠ 99 ∧ σ 33 v4 = 99 ∧ ((σ 25 (2 * v4) ≠ (-1) ∧ σ 25 (2 * v4) ≤ v2)) ∧ ((σ 25 ((2 * v4) + 1) ≠ (-1) ∧ σ 25 ((2 * v4) + 1) ≤ v2)))) → zR G MX5_measure 37 [zr 22, zi v1, zi v2, zi v3, zi (v4 + 1)] [] σ Q) (k18 : (v4 < σ 22 12) → (σ 32 v4 ≠ 99) → (σ 33 v4 ≠ 99) → (((zup σ 22 15 (min (σ 22 15) (σ 32 v4 + σ 33 v4))) 25 (2 * v4) ≠ (-1) ∧ (zup σ 22 15 (min (σ 22 15) (σ 32 v4 + σ 33 v4))) 25 (2 * v4) ≤ v2)) → (((zup σ 22 15 (min (σ 22 15) (σ 32 v4 + σ 33 v4))) 25 ((2 * v4) + 1) ≠ (-1) ∧ (zup σ 22 15 (min (σ 22 15) (σ 32 v4 + σ 33 v4))) 25 ((2 * v4) + 1) ≤ v2)) → -2147483648 ≤ v4 + 1 ∧ v4 + 1 < (2147483648 : Int)) (k19 : (v4 < σ 22 12) → (σ 32 v4 ≠ 99) → (σ 33 v4 ≠ 99) → (((zup σ 22 15 (min (σ 22 15) (σ 32 v4 + σ 33 v4))) 25 (2 * v4) ≠ (-1) ∧ (zup σ 22 15 (min (σ 22 15) (σ 32 v4 + σ 33 v4))) 25 (2 * v4) ≤ v2)) → (((zup σ 22 15 (min (σ 22 15) (σ 32 v4 + σ 33 v4))) 25 ((2 * v4) + 1) ≠ (-1) ∧ (zup σ 22 15 (min (σ 22 15) (σ 32 v4 + σ 33 v4))) 25 ((2 * v4) + 1) ≤ v2)) → zR G MX5_measure 37 [zr 22, zi v1, zi v2, zi v3, zi (v4 + 1)] [] (zup σ 22 15 (min (σ 22 15) (σ 32 v4 + σ 33 v4))) Q) (k20 : (v4 < σ 22 12) → (σ 32 v4 ≠ 99) → (σ 33 v4 = 99) → ((¬ ((σ 25 (2 * v4) ≠ (-1) ∧ σ 25 (2 * v4) ≤ v2))) ∨ (((σ 25 (2 * v4) ≠ (-1) ∧ σ 25 (2 * v4) ≤ v2)) ∧ (¬ ((σ 25 ((2 * v4) + 1) ≠ (-1) ∧ σ 25 ((2 * v4) + 1) ≤ v2))))) → -2147483648 ≤ v4 + 1 ∧ v4 + 1 < (2147483648 : Int)) (k21 : (v4 < σ 22 12) → (σ 32 v4 ≠ 99) → (σ 33 v4 = 99) → ((¬ ((σ 25 (2 * v4) ≠ (-1) ∧ σ 25 (2 * v4) ≤ v2))) ∨ (((σ 25 (2 * v4) ≠ (-1) ∧ σ 25 (2 * v4) ≤ v2)) ∧ (¬ ((σ 25 ((2 * v4) + 1) ≠ (-1) ∧ σ 25 ((2 * v4) + 1) ≤ v2))))) → zR G MX5_measure 37 [zr 22, zi v1, zi v2, zi (min v3 (σ 32 v4 + 1)), zi (v4 + 1)] [] σ Q) (k22 : (v4 < σ 22 12) → (σ 32 v4 ≠ 99) → (σ 33 v4 ≠ 99) → ((¬ (((zup σ 22 15 (min (σ 22 15) (σ 32 v4 + σ 33 v4))) 25 (2 * v4) ≠ (-1) ∧ (zup σ 22 15 (min (σ 22 15) (σ 32 v4 + σ 33 v4))) 25 (2 * v4) ≤ v2))) ∨ ((((zup σ 22 15 (min (σ 22 15) (σ 32 v4 + σ 33 v4))) 25 (2 * v4) ≠ (-1) ∧ (zup σ 22 15 (min (σ 22 15) (σ 32 v4 + σ 33 v4))) 25 (2 * v4) ≤ v2)) ∧ (¬ (((zup σ 22 15 (min (σ 22 15) (σ 32 v4 + σ 33 v4))) 25 ((2 * v4) + 1) ≠ (-1) ∧ (zup σ 22 15 (min (σ 22 15) (σ 32 v4 + σ 33 v4))) 25 ((2 * v4) + 1) ≤ v2))))) → -2147483648 ≤ v4 + 1 ∧ v4 + 1 < (2147483648 : Int)) (k23 : (v4 < σ 22 12) → (σ 32 v4 ≠ 99) → (σ 33 v4 ≠ 99) → ((¬ (((zup σ 22 15 (min (σ 22 15) (σ 32 v4 + σ 33 v4))) 25 (2 * v4) ≠ (-1) ∧ (zup σ 22 15 (min (σ 22 15) (σ 32 v4 + σ 33 v4))) 25 (2 * v4) ≤ v2))) ∨ ((((zup σ 22 15 (min (σ 22 15) (σ 32 v4 + σ 33 v4))) 25 (2 * v4) ≠ (-1) ∧ (zup σ 22 15 (min (σ 22 15) (σ 32 v4 + σ 33 v4))) 25 (2 * v4) ≤ v2)) ∧ (¬ (((zup σ 22 15 (min (σ 22 15) (σ 32 v4 + σ 33 v4))) 25 ((2 * v4) + 1) ≠ (-1) ∧ (zup σ 22 15 (min (σ 22 15) (σ 32 v4 + σ 33 v4))) 25 ((2 * v4) + 1) ≤ v2))))) → zR G MX5_measure 37 [zr 22, zi v1, zi v2, zi (min v3 (σ 32 v4 + 1)), zi (v4 + 1)] [] (zup σ 22 15 (min (σ 22 15) (σ 32 v4 + σ 33 v4))) Q) : zR G MX5_measure 37 [zr 22, zi v1, zi v2, zi v3, zi v4] [] σ Q := by
  have J139_3 : (v4 < σ 22 12) → (σ 32 v4 ≠ 99) → (σ 33 v4 ≠ 99) → ((¬ (((zup σ 22 15 (min (σ 22 15) (σ 32 v4 + σ 33 v4))) 25 (2 * v4) ≠ (-1) ∧ (zup σ 22 15 (min (σ 22 15) (σ 32 v4 + σ 33 v4))) 25 (2 * v4) ≤ v2))) ∨ ((((zup σ 22 15 (min (σ 22 15) (σ 32 v4 + σ 33 v4))) 25 (2 * v4) ≠ (-1) ∧ (zup σ 22 15 (min (σ 22 15) (σ 32 v4 + σ 33 v4))) 25 (2 * v4) ≤ v2)) ∧ (¬ (((zup σ 22 15 (min (σ 22 15) (σ 32 v4 + σ 33 v4))) 25 ((2 * v4) + 1) ≠ (-1) ∧ (zup σ 22 15 (min (σ 22 15) (σ 32 v4 + σ 33 v4))) 25 ((2 * v4) + 1) ≤ v2))))) → zR G MX5_measure 139 [zr 22, zi v1, zi v2, zi (min v3 (σ 32 v4 + 1)), zi v4] [] (zup σ 22 15 (min (σ 22 15) (σ 32 v4 + σ 33 v4))) Q := by
    intro h1 h2 h3 h9
    have s22 : -2147483648 ≤ v4 + 1 ∧ v4 + 1 < (2147483648 : Int) := k22 h1 h2 h3 h9
    refine z_iincN (ls' := [zr 22, zi v1, zi v2, zi (min v3 (σ 32 v4 + 1)), zi (v4 + 1)]) dX5_measure_139 rfl (by decide) s22 rfl ?_
    refine z_goto dX5_measure_142 (tgt := 37) (by decide) ?_
    exact k23 h1 h2 h3 h9
  have J139_2 : (v4 < σ 22 12) → (σ 32 v4 ≠ 99) → (σ 33 v4 = 99) → ((¬ ((σ 25 (2 * v4) ≠ (-1) ∧ σ 25 (2 * v4) ≤ v2))) ∨ (((σ 25 (2 * v4) ≠ (-1) ∧ σ 25 (2 * v4) ≤ v2)) ∧ (¬ ((σ 25 ((2 * v4) + 1) ≠ (-1) ∧ σ 25 ((2 * v4) + 1) ≤ v2))))) → zR G MX5_measure 139 [zr 22, zi v1, zi v2, zi (min v3 (σ 32 v4 + 1)), zi v4] [] σ Q := by
    intro h1 h2 h3 h8
    have s20 : -2147483648 ≤ v4 + 1 ∧ v4 + 1 < (2147483648 : Int) := k20 h1 h2 h3 h8
    refine z_iincN (ls' := [zr 22, zi v1, zi v2, zi (min v3 (σ 32 v4 + 1)), zi (v4 + 1)]) dX5_measure_139 rfl (by decide) s20 rfl ?_
    refine z_goto dX5_measure_142 (tgt := 37) (by decide) ?_
    exact k21 h1 h2 h3 h8
  have J139_1 : (v4 < σ 22 12) → (σ 32 v4 ≠ 99) → (σ 33 v4 ≠ 99) → (((zup σ 22 15 (min (σ 22 15) (σ 32 v4 + σ 33 v4))) 25 (2 * v4) ≠ (-1) ∧ (zup σ 22 15 (min (σ 22 15) (σ 32 v4 + σ 33 v4))) 25 (2 * v4) ≤ v2)) → (((zup σ 22 15 (min (σ 22 15) (σ 32 v4 + σ 33 v4))) 25 ((2 * v4) + 1) ≠ (-1) ∧ (zup σ 22 15 (min (σ 22 15) (σ 32 v4 + σ 33 v4))) 25 ((2 * v4) + 1) ≤ v2)) → zR G MX5_measure 139 [zr 22, zi v1, zi v2, zi v3, zi v4] [] (zup σ 22 15 (min (σ 22 15) (σ 32 v4 + σ 33 v4))) Q := by
    intro h1 h2 h3 h6 h7
    have s18 : -2147483648 ≤ v4 + 1 ∧ v4 + 1 < (2147483648 : Int) := k18 h1 h2 h3 h6 h7
    refine z_iincN (ls' := [zr 22, zi v1, zi v2, zi v3, zi (v4 + 1)]) dX5_measure_139 rfl (by decide) s18 rfl ?_
    refine z_goto dX5_measure_142 (tgt := 37) (by decide) ?_
    exact k19 h1 h2 h3 h6 h7
  have J139 : (v4 < σ 22 12) → (σ 32 v4 = 99 ∨ (σ 32 v4 ≠ 99 ∧ σ 33 v4 = 99 ∧ ((σ 25 (2 * v4) ≠ (-1) ∧ σ 25 (2 * v4) ≤ v2)) ∧ ((σ 25 ((2 * v4) + 1) ≠ (-1) ∧ σ 25 ((2 * v4) + 1) ≤ v2)))) → zR G MX5_measure 139 [zr 22, zi v1, zi v2, zi v3, zi v4] [] σ Q := by
    intro h1 h10
    have s16 : -2147483648 ≤ v4 + 1 ∧ v4 + 1 < (2147483648 : Int) := k16 h1 h10
    refine z_iincN (ls' := [zr 22, zi v1, zi v2, zi v3, zi (v4 + 1)]) dX5_measure_139 rfl (by decide) s16 rfl ?_
    refine z_goto dX5_measure_142 (tgt := 37) (by decide) ?_
    exact k17 h1 h10
  have J125_1 : (v4 < σ 22 12) → (σ 32 v4 ≠ 99) → (σ 33 v4 ≠ 99) → ((¬ (((zup σ 22 15 (min (σ 22 15) (σ 32 v4 + σ 33 v4))) 25 (2 * v4) ≠ (-1) ∧ (zup σ 22 15 (min (σ 22 15) (σ 32 v4 + σ 33 v4))) 25 (2 * v4) ≤ v2))) ∨ ((((zup σ 22 15 (min (σ 22 15) (σ 32 v4 + σ 33 v4))) 25 (2 * v4) ≠ (-1) ∧ (zup σ 22 15 (min (σ 22 15) (σ 32 v4 + σ 33 v4))) 25 (2 * v4) ≤ v2)) ∧ (¬ (((zup σ 22 15 (min (σ 22 15) (σ 32 v4 + σ 33 v4))) 25 ((2 * v4) + 1) ≠ (-1) ∧ (zup σ 22 15 (min (σ 22 15) (σ 32 v4 + σ 33 v4))) 25 ((2 * v4) + 1) ≤ v2))))) → zR G MX5_measure 125 [zr 22, zi v1, zi v2, zi v3, zi v4] [] (zup σ 22 15 (min (σ 22 15) (σ 32 v4 + σ 33 v4))) Q := by
    intro h1 h2 h3 h9
    refine z_iload_n dX5_measure_125 rfl rfl ?_
    refine z_aload_n dX5_measure_126 rfl rfl ?_
    refine z_getfR (k := 9) flRX5_39 rfl rfl dX5_measure_127 ?_
    refine z_iload dX5_measure_130 rfl ?_
    have s14 : (0 : Int) ≤ v4 ∧ v4 < (24 : Int) := k14 h1 h2 h3 h9
    refine z_ialdE (v := σ 32 v4) rfl s14.1 s14.2 (zup_of (by decide)) dX5_measure_132 ?_
    refine z_iconst dX5_measure_133 (by unfold zIn; decide) ?_
    have s15 : -2147483648 ≤ σ 32 v4 + 1 ∧ σ 32 v4 + 1 < (2147483648 : Int) := k15 h1 h2 h3 h9
    refine z_iaddN dX5_measure_134 s15 ?_
    refine z_min lkRX5_78 (by decide) (by decide) (Nat.le_of_ble_eq_true rfl) dX5_measure_135 ?_
    refine z_istore_n (ls' := [zr 22, zi v1, zi v2, zi (min v3 (σ 32 v4 + 1)), zi v4]) dX5_measure_138 rfl (by decide) rfl ?_
    exact J139_3 h1 h2 h3 h9
  have J125 : (v4 < σ 22 12) → (σ 32 v4 ≠ 99) → (σ 33 v4 = 99) → ((¬ ((σ 25 (2 * v4) ≠ (-1) ∧ σ 25 (2 * v4) ≤ v2))) ∨ (((σ 25 (2 * v4) ≠ (-1) ∧ σ 25 (2 * v4) ≤ v2)) ∧ (¬ ((σ 25 ((2 * v4) + 1) ≠ (-1) ∧ σ 25 ((2 * v4) + 1) ≤ v2))))) → zR G MX5_measure 125 [zr 22, zi v1, zi v2, zi v3, zi v4] [] σ Q := by
    intro h1 h2 h3 h8
    refine z_iload_n dX5_measure_125 rfl rfl ?_
    refine z_aload_n dX5_measure_126 rfl rfl ?_
    refine z_getfR (k := 9) flRX5_39 rfl rfl dX5_measure_127 ?_
    refine z_iload dX5_measure_130 rfl ?_
    have s12 : (0 : Int) ≤ v4 ∧ v4 < (24 : Int) := k12 h1 h2 h3 h8
    refine z_iald rfl s12.1 s12.2 dX5_measure_132 ?_
    refine z_iconst dX5_measure_133 (by unfold zIn; decide) ?_
    have s13 : -2147483648 ≤ σ 32 v4 + 1 ∧ σ 32 v4 + 1 < (2147483648 : Int) := k13 h1 h2 h3 h8
    refine z_iaddN dX5_measure_134 s13 ?_
    refine z_min lkRX5_78 (by decide) (by decide) (Nat.le_of_ble_eq_true rfl) dX5_measure_135 ?_
    refine z_istore_n (ls' := [zr 22, zi v1, zi v2, zi (min v3 (σ 32 v4 + 1)), zi v4]) dX5_measure_138 rfl (by decide) rfl ?_
    exact J139_2 h1 h2 h3 h8
  have J99_1 : (v4 < σ 22 12) → (σ 32 v4 ≠ 99) → (σ 33 v4 ≠ 99) → zR G MX5_measure 99 [zr 22, zi v1, zi v2, zi v3, zi v4] [] (zup σ 22 15 (min (σ 22 15) (σ 32 v4 + σ 33 v4))) Q := by
    intro h1 h2 h3
    refine z_aload_n dX5_measure_99 rfl rfl ?_
    refine z_iconst dX5_measure_100 (by unfold zIn; decide) ?_
    refine z_iload dX5_measure_101 rfl ?_
    have s8 : -2147483648 ≤ 2 * v4 ∧ 2 * v4 < (2147483648 : Int) := k8 h1 h2 h3
    refine z_imulN dX5_measure_103 s8 ?_
    refine z_iload_n dX5_measure_104 rfl rfl ?_
    have s9 : (0 : Int) ≤ (2 * v4) ∧ (2 * v4) < (48 : Int) := k9 h1 h2 h3
    refine z_callv (as := [zi (2 * v4), zi v2]) (st := []) mkX5_isKnown lkRX5_74 rfl rfl rfl (by decide) (Nat.le_of_ble_eq_true rfl) rfl dX5_measure_105 ?_
    refine SX5_isKnown s9 ?_
    show zR G MX5_measure 108 [zr 22, zi v1, zi v2, zi v3, zi v4] [zi (if ((zup σ 22 15 (min (σ 22 15) (σ 32 v4 + σ 33 v4))) 25 (2 * v4) ≠ (-1) ∧ (zup σ 22 15 (min (σ 22 15) (σ 32 v4 + σ 33 v4))) 25 (2 * v4) ≤ v2) then (1 : Int) else 0)] (zup σ 22 15 (min (σ 22 15) (σ 32 v4 + σ 33 v4))) Q
    refine z_if_eq dX5_measure_108 (tgt := 125) (by decide) (fun z => ?_) (fun z => ?_)
    · have h6 : ¬ (((zup σ 22 15 (min (σ 22 15) (σ 32 v4 + σ 33 v4))) 25 (2 * v4) ≠ (-1) ∧ (zup σ 22 15 (min (σ 22 15) (σ 32 v4 + σ 33 v4))) 25 (2 * v4) ≤ v2)) := zb0 z
      exact J125_1 h1 h2 h3 (Or.inl h6)
    · have h6 : ((zup σ 22 15 (min (σ 22 15) (σ 32 v4 + σ 33 v4))) 25 (2 * v4) ≠ (-1) ∧ (zup σ 22 15 (min (σ 22 15) (σ 32 v4 + σ 33 v4))) 25 (2 * v4) ≤ v2) := zb1 z
      refine z_aload_n dX5_measure_111 rfl rfl ?_
      refine z_iconst dX5_measure_112 (by unfold zIn; decide) ?_
      refine z_iload dX5_measure_113 rfl ?_
      refine z_imulN dX5_measure_115 s8 ?_
      refine z_iconst dX5_measure_116 (by unfold zIn; decide) ?_
      have s10 : -2147483648 ≤ (2 * v4) + 1 ∧ (2 * v4) + 1 < (2147483648 : Int) := k10 h1 h2 h3 h6
      refine z_iaddN dX5_measure_117 s10 ?_
      refine z_iload_n dX5_measure_118 rfl rfl ?_
      have s11 : (0 : Int) ≤ ((2 * v4) + 1) ∧ ((2 * v4) + 1) < (48 : Int) := k11 h1 h2 h3 h6
      refine z_callv (as := [zi ((2 * v4) + 1), zi v2]) (st := []) mkX5_isKnown lkRX5_74 rfl rfl rfl (by decide) (Nat.le_of_ble_eq_true rfl) rfl dX5_measure_119 ?_
      refine SX5_isKnown s11 ?_
      show zR G MX5_measure 122 [zr 22, zi v1, zi v2, zi v3, zi v4] [zi (if ((zup σ 22 15 (min (σ 22 15) (σ 32 v4 + σ 33 v4))) 25 ((2 * v4) + 1) ≠ (-1) ∧ (zup σ 22 15 (min (σ 22 15) (σ 32 v4 + σ 33 v4))) 25 ((2 * v4) + 1) ≤ v2) then (1 : Int) else 0)] (zup σ 22 15 (min (σ 22 15) (σ 32 v4 + σ 33 v4))) Q
      refine z_if_ne dX5_measure_122 (tgt := 139) (by decide) (fun z => ?_) (fun z => ?_)
      · have h7 : ((zup σ 22 15 (min (σ 22 15) (σ 32 v4 + σ 33 v4))) 25 ((2 * v4) + 1) ≠ (-1) ∧ (zup σ 22 15 (min (σ 22 15) (σ 32 v4 + σ 33 v4))) 25 ((2 * v4) + 1) ≤ v2) := zb1 z
        exact J139_1 h1 h2 h3 h6 h7
      · have h7 : ¬ (((zup σ 22 15 (min (σ 22 15) (σ 32 v4 + σ 33 v4))) 25 ((2 * v4) + 1) ≠ (-1) ∧ (zup σ 22 15 (min (σ 22 15) (σ 32 v4 + σ 33 v4))) 25 ((2 * v4) + 1) ≤ v2)) := zb0 z
        exact J125_1 h1 h2 h3 (Or.inr ⟨h6, h7⟩)
  have J99 : (v4 < σ 22 12) → (σ 32 v4 ≠ 99) → (σ 33 v4 = 99) → zR G MX5_measure 99 [zr 22, zi v1, zi v2, zi v3, zi v4] [] σ Q := by
    intro h1 h2 h3
    refine z_aload_n dX5_measure_99 rfl rfl ?_
    refine z_iconst dX5_measure_100 (by unfold zIn; decide) ?_
    refine z_iload dX5_measure_101 rfl ?_
    have s4 : -2147483648 ≤ 2 * v4 ∧ 2 * v4 < (2147483648 : Int) := k4 h1 h2 h3
    refine z_imulN dX5_measure_103 s4 ?_
    refine z_iload_n dX5_measure_104 rfl rfl ?_
    have s5 : (0 : Int) ≤ (2 * v4) ∧ (2 * v4) < (48 : Int) := k5 h1 h2 h3
    refine z_callv (as := [zi (2 * v4), zi v2]) (st := []) mkX5_isKnown lkRX5_74 rfl rfl rfl (by decide) (Nat.le_of_ble_eq_true rfl) rfl dX5_measure_105 ?_
    refine SX5_isKnown s5 ?_
    show zR G MX5_measure 108 [zr 22, zi v1, zi v2, zi v3, zi v4] [zi (if (σ 25 (2 * v4) ≠ (-1) ∧ σ 25 (2 * v4) ≤ v2) then (1 : Int) else 0)] σ Q
    refine z_if_eq dX5_measure_108 (tgt := 125) (by decide) (fun z => ?_) (fun z => ?_)
    · have h4 : ¬ ((σ 25 (2 * v4) ≠ (-1) ∧ σ 25 (2 * v4) ≤ v2)) := zb0 z
      exact J125 h1 h2 h3 (Or.inl h4)
    · have h4 : (σ 25 (2 * v4) ≠ (-1) ∧ σ 25 (2 * v4) ≤ v2) := zb1 z
      refine z_aload_n dX5_measure_111 rfl rfl ?_
      refine z_iconst dX5_measure_112 (by unfold zIn; decide) ?_
      refine z_iload dX5_measure_113 rfl ?_
      refine z_imulN dX5_measure_115 s4 ?_
      refine z_iconst dX5_measure_116 (by unfold zIn; decide) ?_
      have s6 : -2147483648 ≤ (2 * v4) + 1 ∧ (2 * v4) + 1 < (2147483648 : Int) := k6 h1 h2 h3 h4
      refine z_iaddN dX5_measure_117 s6 ?_
      refine z_iload_n dX5_measure_118 rfl rfl ?_
      have s7 : (0 : Int) ≤ ((2 * v4) + 1) ∧ ((2 * v4) + 1) < (48 : Int) := k7 h1 h2 h3 h4
      refine z_callv (as := [zi ((2 * v4) + 1), zi v2]) (st := []) mkX5_isKnown lkRX5_74 rfl rfl rfl (by decide) (Nat.le_of_ble_eq_true rfl) rfl dX5_measure_119 ?_
      refine SX5_isKnown s7 ?_
      show zR G MX5_measure 122 [zr 22, zi v1, zi v2, zi v3, zi v4] [zi (if (σ 25 ((2 * v4) + 1) ≠ (-1) ∧ σ 25 ((2 * v4) + 1) ≤ v2) then (1 : Int) else 0)] σ Q
      refine z_if_ne dX5_measure_122 (tgt := 139) (by decide) (fun z => ?_) (fun z => ?_)
      · have h5 : (σ 25 ((2 * v4) + 1) ≠ (-1) ∧ σ 25 ((2 * v4) + 1) ≤ v2) := zb1 z
        exact J139 h1 (Or.inr ⟨h2, h3, h4, h5⟩)
      · have h5 : ¬ ((σ 25 ((2 * v4) + 1) ≠ (-1) ∧ σ 25 ((2 * v4) + 1) ≤ v2)) := zb0 z
        exact J125 h1 h2 h3 (Or.inr ⟨h4, h5⟩)
  refine z_iload dX5_measure_37 rfl ?_
  refine z_aload_n dX5_measure_39 rfl rfl ?_
  refine z_getfI (k := 12) flRX5_48 rfl rfl dX5_measure_40 ?_
  refine z_icmp_ge dX5_measure_43 (tgt := 145) (by decide) (fun h1 => ?_) (fun h1 => ?_)
  · skip
    refine z_aload_n dX5_measure_145 rfl rfl ?_
    refine z_aload_n dX5_measure_146 rfl rfl ?_
    refine z_getfI (k := 15) flRX5_58 rfl rfl dX5_measure_147 ?_
    refine z_iload_n dX5_measure_150 rfl rfl ?_
    refine z_min lkRX5_78 (by decide) (by decide) (Nat.le_of_ble_eq_true rfl) dX5_measure_151 ?_
    refine z_putI (k := 16) fpRX5_61 rfl rfl dX5_measure_154 ?_
    exact z_vret rfl dX5_measure_157 (k1 h1)
  · skip
    refine z_aload_n dX5_measure_46 rfl rfl ?_
    refine z_getfR (k := 9) flRX5_39 rfl rfl dX5_measure_47 ?_
    refine z_iload dX5_measure_50 rfl ?_
    have s2 : (0 : Int) ≤ v4 ∧ v4 < (24 : Int) := k2 h1
    refine z_iald rfl s2.1 s2.2 dX5_measure_52 ?_
    refine z_bipush (x := 99) dX5_measure_53 (by decide +kernel) (by unfold zIn; decide) ?_
    refine z_icmp_ne dX5_measure_55 (tgt := 61) (by decide) (fun h2 => ?_) (fun h2 => ?_)
    · skip
      refine z_aload_n dX5_measure_61 rfl rfl ?_
      refine z_getfR (k := 10) flRX5_42 rfl rfl dX5_measure_62 ?_
      refine z_iload dX5_measure_65 rfl ?_
      refine z_iald rfl s2.1 s2.2 dX5_measure_67 ?_
      refine z_bipush (x := 99) dX5_measure_68 (by decide +kernel) (by unfold zIn; decide) ?_
      refine z_icmp_eq dX5_measure_70 (tgt := 99) (by decide) (fun h3 => ?_) (fun h3 => ?_)
      · skip
        exact J99 h1 h2 h3
      · skip
        refine z_aload_n dX5_measure_73 rfl rfl ?_
        refine z_aload_n dX5_measure_74 rfl rfl ?_
        refine z_getfI (k := 15) flRX5_58 rfl rfl dX5_measure_75 ?_
        refine z_aload_n dX5_measure_78 rfl rfl ?_
        refine z_getfR (k := 9) flRX5_39 rfl rfl dX5_measure_79 ?_
        refine z_iload dX5_measure_82 rfl ?_
        refine z_iald rfl s2.1 s2.2 dX5_measure_84 ?_
        refine z_aload_n dX5_measure_85 rfl rfl ?_
        refine z_getfR (k := 10) flRX5_42 rfl rfl dX5_measure_86 ?_
        refine z_iload dX5_measure_89 rfl ?_
        refine z_iald rfl s2.1 s2.2 dX5_measure_91 ?_
        have s3 : -2147483648 ≤ σ 32 v4 + σ 33 v4 ∧ σ 32 v4 + σ 33 v4 < (2147483648 : Int) := k3 h1 h2 h3
        refine z_iaddN dX5_measure_92 s3 ?_
        refine z_min lkRX5_78 (by decide) (by decide) (Nat.le_of_ble_eq_true rfl) dX5_measure_93 ?_
        refine z_putI (k := 15) fpRX5_58 rfl rfl dX5_measure_96 ?_
        exact J99_1 h1 h2 h3
    · skip
      refine z_goto dX5_measure_58 (tgt := 139) (by decide) ?_
      exact J139 h1 (Or.inl h2)
set_option maxRecDepth 20000 in
set_option maxHeartbeats 1000000 in
theorem TX3_either {G : zG} {σ : zS} {Q : Int → zS → Prop} {a1 a2 : Int}  (k1 : (a1 ≠ 1) → (a2 ≠ 1) → (a1 ≠ 2) → Q a2 σ) (k2 : (a1 ≠ 1) → (a2 ≠ 1) → (a1 = 2) → Q 2 σ) (k3 : (a1 = 1 ∨ (a1 ≠ 1 ∧ a2 = 1)) → Q 1 σ) : zO G MX3_either [zi a1, zi a2] σ Q := by
  refine zO_of (ls0 := [zi a1, zi a2]) (by decide) (Nat.le_of_ble_eq_true rfl) rfl ?_
  have J10 : (a1 = 1 ∨ (a1 ≠ 1 ∧ a2 = 1)) → zR G MX3_either 10 [zi a1, zi a2] [] σ Q := by
    intro h4
    refine z_iconst dX3_either_10 (by unfold zIn; decide) ?_
    refine z_goto dX3_either_11 (tgt := 24) (by decide) ?_
    exact z_ireti rfl dX3_either_24 (k3 h4)
  refine z_iload_n dX3_either_0 rfl rfl ?_
  refine z_iconst dX3_either_1 (by unfold zIn; decide) ?_
  refine z_icmp_eq dX3_either_2 (tgt := 10) (by decide) (fun h1 => ?_) (fun h1 => ?_)
  · skip
    exact J10 (Or.inl h1)
  · skip
    refine z_iload_n dX3_either_5 rfl rfl ?_
    refine z_iconst dX3_either_6 (by unfold zIn; decide) ?_
    refine z_icmp_ne dX3_either_7 (tgt := 14) (by decide) (fun h2 => ?_) (fun h2 => ?_)
    · skip
      refine z_iload_n dX3_either_14 rfl rfl ?_
      refine z_iconst dX3_either_15 (by unfold zIn; decide) ?_
      refine z_icmp_ne dX3_either_16 (tgt := 23) (by decide) (fun h3 => ?_) (fun h3 => ?_)
      · skip
        refine z_iload_n dX3_either_23 rfl rfl ?_
        exact z_ireti rfl dX3_either_24 (k1 h1 h2 h3)
      · skip
        refine z_iconst dX3_either_19 (by unfold zIn; decide) ?_
        refine z_goto dX3_either_20 (tgt := 24) (by decide) ?_
        exact z_ireti rfl dX3_either_24 (k2 h1 h2 h3)
    · skip
      exact J10 (Or.inr ⟨h1, h2⟩)
set_option maxRecDepth 20000 in
set_option maxHeartbeats 1000000 in
theorem TX3_both {G : zG} {σ : zS} {Q : Int → zS → Prop} {a1 a2 : Int}  (k1 : (a1 ≠ 0) → (a2 ≠ 0) → (a1 ≠ 2) → Q a2 σ) (k2 : (a1 ≠ 0) → (a2 ≠ 0) → (a1 = 2) → Q 2 σ) (k3 : (a1 = 0 ∨ (a1 ≠ 0 ∧ a2 = 0)) → Q 0 σ) : zO G MX3_both [zi a1, zi a2] σ Q := by
  refine zO_of (ls0 := [zi a1, zi a2]) (by decide) (Nat.le_of_ble_eq_true rfl) rfl ?_
  have J8 : (a1 = 0 ∨ (a1 ≠ 0 ∧ a2 = 0)) → zR G MX3_both 8 [zi a1, zi a2] [] σ Q := by
    intro h4
    refine z_iconst dX3_both_8 (by unfold zIn; decide) ?_
    refine z_goto dX3_both_9 (tgt := 22) (by decide) ?_
    exact z_ireti rfl dX3_both_22 (k3 h4)
  refine z_iload_n dX3_both_0 rfl rfl ?_
  refine z_if_eq dX3_both_1 (tgt := 8) (by decide) (fun h1 => ?_) (fun h1 => ?_)
  · skip
    exact J8 (Or.inl h1)
  · skip
    refine z_iload_n dX3_both_4 rfl rfl ?_
    refine z_if_ne dX3_both_5 (tgt := 12) (by decide) (fun h2 => ?_) (fun h2 => ?_)
    · skip
      refine z_iload_n dX3_both_12 rfl rfl ?_
      refine z_iconst dX3_both_13 (by unfold zIn; decide) ?_
      refine z_icmp_ne dX3_both_14 (tgt := 21) (by decide) (fun h3 => ?_) (fun h3 => ?_)
      · skip
        refine z_iload_n dX3_both_21 rfl rfl ?_
        exact z_ireti rfl dX3_both_22 (k1 h1 h2 h3)
      · skip
        refine z_iconst dX3_both_17 (by unfold zIn; decide) ?_
        refine z_goto dX3_both_18 (tgt := 22) (by decide) ?_
        exact z_ireti rfl dX3_both_22 (k2 h1 h2 h3)
    · skip
      exact J8 (Or.inr ⟨h1, h2⟩)
set_option maxRecDepth 20000 in
set_option maxHeartbeats 1000000 in
theorem TX3_endPart {G : zG} {σ : zS} {Q : Int → zS → Prop} {a1 : Int}  (k1 : (0 : Int) ≤ σ 47 7 ∧ σ 47 7 < (31 : Int)) (k2 : (zrem (σ 50 (σ 47 7)) 2 = 1) → (a1 ≠ 2) → -2147483648 ≤ 1 - a1 ∧ 1 - a1 < (2147483648 : Int)) (k3 : (zrem (σ 50 (σ 47 7)) 2 = 1) → (a1 ≠ 2) → -2147483648 ≤ σ 47 8 - σ 50 (σ 47 7) ∧ σ 47 8 - σ 50 (σ 47 7) < (2147483648 : Int)) (k4 : (zrem (σ 50 (σ 47 7)) 2 = 1) → (a1 ≠ 2) → zO G MX3_both [zi (σ 49 (σ 47 7)), zi (1 - a1)] (zup (zup σ 47 8 (σ 47 8 - σ 50 (σ 47 7))) 50 (σ 47 7) 0) (fun rr σ' => zR G MX3_endPart 77 [zr 47, zi a1, zi (1 - a1)] [zi rr, zi (σ 47 7), zr 49] σ' Q)) (k5 : (zrem (σ 50 (σ 47 7)) 2 ≠ 1 ∨ (zrem (σ 50 (σ 47 7)) 2 = 1 ∧ a1 = 2)) → (0 : Int) ≤ σ 47 7 ∧ σ 47 7 < (31 : Int)) (k6 : (zrem (σ 50 (σ 47 7)) 2 ≠ 1 ∨ (zrem (σ 50 (σ 47 7)) 2 = 1 ∧ a1 = 2)) → -2147483648 ≤ σ 47 8 - σ 50 (σ 47 7) ∧ σ 47 8 - σ 50 (σ 47 7) < (2147483648 : Int)) (k7 : (zrem (σ 50 (σ 47 7)) 2 ≠ 1 ∨ (zrem (σ 50 (σ 47 7)) 2 = 1 ∧ a1 = 2)) → zO G MX3_both [zi (σ 49 (σ 47 7)), zi a1] (zup (zup σ 47 8 (σ 47 8 - σ 50 (σ 47 7))) 50 (σ 47 7) 0) (fun rr σ' => zR G MX3_endPart 77 [zr 47, zi a1, zi a1] [zi rr, zi (σ 47 7), zr 49] σ' Q)) : zO G MX3_endPart [zr 47, zi a1] σ Q := by
  refine zO_of (ls0 := [zr 47, zi a1, zu]) (by decide) (Nat.le_of_ble_eq_true rfl) rfl ?_
  have J26 : (zrem (σ 50 (σ 47 7)) 2 ≠ 1 ∨ (zrem (σ 50 (σ 47 7)) 2 = 1 ∧ a1 = 2)) → zR G MX3_endPart 26 [zr 47, zi a1, zu] [] σ Q := by
    intro h3
    refine z_iload_n dX3_endPart_26 rfl rfl ?_
    refine z_istore_n (ls' := [zr 47, zi a1, zi a1]) dX3_endPart_27 rfl (by decide) rfl ?_
    refine z_aload_n dX3_endPart_28 rfl rfl ?_
    refine z_dup dX3_endPart_29 rfl ?_
    refine z_getfI (k := 8) flRX3_112 rfl rfl dX3_endPart_30 ?_
    refine z_aload_n dX3_endPart_33 rfl rfl ?_
    refine z_getfR (k := 4) flRX3_18 rfl rfl dX3_endPart_34 ?_
    refine z_aload_n dX3_endPart_37 rfl rfl ?_
    refine z_getfI (k := 7) flRX3_75 rfl rfl dX3_endPart_38 ?_
    have s5 : (0 : Int) ≤ σ 47 7 ∧ σ 47 7 < (31 : Int) := k5 h3
    refine z_iald rfl s5.1 s5.2 dX3_endPart_41 ?_
    have s6 : -2147483648 ≤ σ 47 8 - σ 50 (σ 47 7) ∧ σ 47 8 - σ 50 (σ 47 7) < (2147483648 : Int) := k6 h3
    refine z_isubN dX3_endPart_42 s6 ?_
    refine z_putI (k := 8) fpRX3_112 rfl rfl dX3_endPart_43 ?_
    refine z_aload_n dX3_endPart_46 rfl rfl ?_
    refine z_getfR (k := 4) flRX3_18 rfl rfl dX3_endPart_47 ?_
    refine z_aload_n dX3_endPart_50 rfl rfl ?_
    refine z_getfE (k := 7) (v := σ 47 7) flRX3_75 rfl rfl (zup_oi (by decide)) dX3_endPart_51 ?_
    refine z_iconst dX3_endPart_54 (by unfold zIn; decide) ?_
    refine z_iast rfl s5.1 s5.2 dX3_endPart_55 ?_
    refine z_aload_n dX3_endPart_56 rfl rfl ?_
    refine z_getfR (k := 3) flRX3_15 rfl rfl dX3_endPart_57 ?_
    refine z_aload_n dX3_endPart_60 rfl rfl ?_
    refine z_getfE (k := 7) (v := σ 47 7) flRX3_75 rfl rfl ((zup_of (by decide)).trans (zup_oi (by decide))) dX3_endPart_61 ?_
    refine z_aload_n dX3_endPart_64 rfl rfl ?_
    refine z_getfR (k := 3) flRX3_15 rfl rfl dX3_endPart_65 ?_
    refine z_aload_n dX3_endPart_68 rfl rfl ?_
    refine z_getfE (k := 7) (v := σ 47 7) flRX3_75 rfl rfl ((zup_of (by decide)).trans (zup_oi (by decide))) dX3_endPart_69 ?_
    refine z_ialdE (v := σ 49 (σ 47 7)) rfl s5.1 s5.2 ((zup_of (by decide)).trans (zup_of (by decide))) dX3_endPart_72 ?_
    refine z_iload_n dX3_endPart_73 rfl rfl ?_
    refine z_calls (as := [zi (σ 49 (σ 47 7)), zi a1]) (st := [zi (σ 47 7), zr 49]) mkX3_both lkRX3_142 rfl (by decide) (Nat.le_of_ble_eq_true rfl) rfl dX3_endPart_74 (k7 h3)
  refine z_aload_n dX3_endPart_0 rfl rfl ?_
  refine z_getfR (k := 4) flRX3_18 rfl rfl dX3_endPart_1 ?_
  refine z_aload_n dX3_endPart_4 rfl rfl ?_
  refine z_getfI (k := 7) flRX3_75 rfl rfl dX3_endPart_5 ?_
  have s1 : (0 : Int) ≤ σ 47 7 ∧ σ 47 7 < (31 : Int) := k1
  refine z_iald rfl s1.1 s1.2 dX3_endPart_8 ?_
  refine z_iconst dX3_endPart_9 (by unfold zIn; decide) ?_
  refine z_irem dX3_endPart_10 (by decide) ?_
  refine z_iconst dX3_endPart_11 (by unfold zIn; decide) ?_
  refine z_icmp_ne dX3_endPart_12 (tgt := 26) (by decide) (fun h1 => ?_) (fun h1 => ?_)
  · skip
    exact J26 (Or.inl h1)
  · skip
    refine z_iload_n dX3_endPart_15 rfl rfl ?_
    refine z_iconst dX3_endPart_16 (by unfold zIn; decide) ?_
    refine z_icmp_eq dX3_endPart_17 (tgt := 26) (by decide) (fun h2 => ?_) (fun h2 => ?_)
    · skip
      exact J26 (Or.inr ⟨h1, h2⟩)
    · skip
      refine z_iconst dX3_endPart_20 (by unfold zIn; decide) ?_
      refine z_iload_n dX3_endPart_21 rfl rfl ?_
      have s2 : -2147483648 ≤ 1 - a1 ∧ 1 - a1 < (2147483648 : Int) := k2 h1 h2
      refine z_isubN dX3_endPart_22 s2 ?_
      refine z_goto dX3_endPart_23 (tgt := 27) (by decide) ?_
      refine z_istore_n (ls' := [zr 47, zi a1, zi (1 - a1)]) dX3_endPart_27 rfl (by decide) rfl ?_
      refine z_aload_n dX3_endPart_28 rfl rfl ?_
      refine z_dup dX3_endPart_29 rfl ?_
      refine z_getfI (k := 8) flRX3_112 rfl rfl dX3_endPart_30 ?_
      refine z_aload_n dX3_endPart_33 rfl rfl ?_
      refine z_getfR (k := 4) flRX3_18 rfl rfl dX3_endPart_34 ?_
      refine z_aload_n dX3_endPart_37 rfl rfl ?_
      refine z_getfI (k := 7) flRX3_75 rfl rfl dX3_endPart_38 ?_
      refine z_iald rfl s1.1 s1.2 dX3_endPart_41 ?_
      have s3 : -2147483648 ≤ σ 47 8 - σ 50 (σ 47 7) ∧ σ 47 8 - σ 50 (σ 47 7) < (2147483648 : Int) := k3 h1 h2
      refine z_isubN dX3_endPart_42 s3 ?_
      refine z_putI (k := 8) fpRX3_112 rfl rfl dX3_endPart_43 ?_
      refine z_aload_n dX3_endPart_46 rfl rfl ?_
      refine z_getfR (k := 4) flRX3_18 rfl rfl dX3_endPart_47 ?_
      refine z_aload_n dX3_endPart_50 rfl rfl ?_
      refine z_getfE (k := 7) (v := σ 47 7) flRX3_75 rfl rfl (zup_oi (by decide)) dX3_endPart_51 ?_
      refine z_iconst dX3_endPart_54 (by unfold zIn; decide) ?_
      refine z_iast rfl s1.1 s1.2 dX3_endPart_55 ?_
      refine z_aload_n dX3_endPart_56 rfl rfl ?_
      refine z_getfR (k := 3) flRX3_15 rfl rfl dX3_endPart_57 ?_
      refine z_aload_n dX3_endPart_60 rfl rfl ?_
      refine z_getfE (k := 7) (v := σ 47 7) flRX3_75 rfl rfl ((zup_of (by decide)).trans (zup_oi (by decide))) dX3_endPart_61 ?_
      refine z_aload_n dX3_endPart_64 rfl rfl ?_
      refine z_getfR (k := 3) flRX3_15 rfl rfl dX3_endPart_65 ?_
      refine z_aload_n dX3_endPart_68 rfl rfl ?_
      refine z_getfE (k := 7) (v := σ 47 7) flRX3_75 rfl rfl ((zup_of (by decide)).trans (zup_oi (by decide))) dX3_endPart_69 ?_
      refine z_ialdE (v := σ 49 (σ 47 7)) rfl s1.1 s1.2 ((zup_of (by decide)).trans (zup_of (by decide))) dX3_endPart_72 ?_
      refine z_iload_n dX3_endPart_73 rfl rfl ?_
      refine z_calls (as := [zi (σ 49 (σ 47 7)), zi (1 - a1)]) (st := [zi (σ 47 7), zr 49]) mkX3_both lkRX3_142 rfl (by decide) (Nat.le_of_ble_eq_true rfl) rfl dX3_endPart_74 (k4 h1 h2)
set_option maxRecDepth 20000 in
set_option maxHeartbeats 1000000 in
theorem TX3_endPart_77 {G : zG} {σ : zS} {Q : Int → zS → Prop} {v1 v2 r t1 : Int}  (k1 : (0 : Int) ≤ t1 ∧ t1 < (31 : Int)) (k2 : Q 0 (zup (zup σ 49 t1 r) 47 9 0)) : zR G MX3_endPart 77 [zr 47, zi v1, zi v2] [zi r, zi t1, zr 49] σ Q := by
  have s1 : (0 : Int) ≤ t1 ∧ t1 < (31 : Int) := k1
  refine z_iast rfl s1.1 s1.2 dX3_endPart_77 ?_
  refine z_aload_n dX3_endPart_78 rfl rfl ?_
  refine z_iconst dX3_endPart_79 (by unfold zIn; decide) ?_
  refine z_putZ (k := 9) fpRX3_58 rfl rfl (by decide) dX3_endPart_80 ?_
  exact z_vret rfl dX3_endPart_83 (k2)
set_option maxRecDepth 20000 in
set_option maxHeartbeats 1000000 in
theorem TX3_readJoint {G : zG} {σ : zS} {Q : Int → zS → Prop} {a1 : Int}  (k1 : (0 : Int) ≤ a1 ∧ a1 < (200 : Int)) (k2 : (σ 46 a1 ≠ 38) → (σ 46 a1 ≠ 124) → (σ 46 a1 = 41) → (0 < σ 47 7) → (0 : Int) ≤ σ 47 7 ∧ σ 47 7 < (31 : Int)) (k3 : (σ 46 a1 ≠ 38) → (σ 46 a1 ≠ 124) → (σ 46 a1 = 41) → (0 < σ 47 7) → zO G MX3_either [zi (σ 48 (σ 47 7)), zi (σ 49 (σ 47 7))] σ (fun rr σ' => zR G MX3_readJoint 112 [zr 47, zi a1, zi (σ 46 a1), zu] [zi rr] σ' Q)) (k4 : (σ 46 a1 ≠ 38) → (σ 46 a1 = 124) → (0 : Int) ≤ σ 47 7 ∧ σ 47 7 < (31 : Int)) (k5 : (σ 46 a1 ≠ 38) → (σ 46 a1 = 124) → zO G MX3_either [zi (σ 48 (σ 47 7)), zi (σ 49 (σ 47 7))] σ (fun rr σ' => zR G MX3_readJoint 59 [zr 47, zi a1, zi (σ 46 a1), zu] [zi rr, zi (σ 47 7), zr 48] σ' Q)) (k6 : (σ 46 a1 = 38) → -2147483648 ≤ a1 + 1 ∧ a1 + 1 < (2147483648 : Int)) (k7 : (σ 46 a1 = 38) → Q (a1 + 1) (zup σ 47 9 1)) (k8 : (σ 46 a1 ≠ 38) → (σ 46 a1 ≠ 124) → (σ 46 a1 ≠ 41 ∨ (σ 46 a1 = 41 ∧ σ 47 7 ≤ 0)) → -2147483648 ≤ a1 + 1 ∧ a1 + 1 < (2147483648 : Int)) (k9 : (σ 46 a1 ≠ 38) → (σ 46 a1 ≠ 124) → (σ 46 a1 ≠ 41 ∨ (σ 46 a1 = 41 ∧ σ 47 7 ≤ 0)) → Q (a1 + 1) (zup σ 47 13 a1)) : zO G MX3_readJoint [zr 47, zi a1] σ Q := by
  refine zO_of (ls0 := [zr 47, zi a1, zu, zu]) (by decide) (Nat.le_of_ble_eq_true rfl) rfl ?_
  have J146_1 : (σ 46 a1 ≠ 38) → (σ 46 a1 ≠ 124) → (σ 46 a1 ≠ 41 ∨ (σ 46 a1 = 41 ∧ σ 47 7 ≤ 0)) → zR G MX3_readJoint 146 [zr 47, zi a1, zi (σ 46 a1), zu] [] (zup σ 47 13 a1) Q := by
    intro h1 h2 h5
    refine z_iload_n dX3_readJoint_146 rfl rfl ?_
    refine z_iconst dX3_readJoint_147 (by unfold zIn; decide) ?_
    have s8 : -2147483648 ≤ a1 + 1 ∧ a1 + 1 < (2147483648 : Int) := k8 h1 h2 h5
    refine z_iaddN dX3_readJoint_148 s8 ?_
    exact z_ireti rfl dX3_readJoint_149 (k9 h1 h2 h5)
  have J146 : (σ 46 a1 = 38) → zR G MX3_readJoint 146 [zr 47, zi a1, zi (σ 46 a1), zu] [] (zup σ 47 9 1) Q := by
    intro h1
    refine z_iload_n dX3_readJoint_146 rfl rfl ?_
    refine z_iconst dX3_readJoint_147 (by unfold zIn; decide) ?_
    have s6 : -2147483648 ≤ a1 + 1 ∧ a1 + 1 < (2147483648 : Int) := k6 h1
    refine z_iaddN dX3_readJoint_148 s6 ?_
    exact z_ireti rfl dX3_readJoint_149 (k7 h1)
  have J141 : (σ 46 a1 ≠ 38) → (σ 46 a1 ≠ 124) → (σ 46 a1 ≠ 41 ∨ (σ 46 a1 = 41 ∧ σ 47 7 ≤ 0)) → zR G MX3_readJoint 141 [zr 47, zi a1, zi (σ 46 a1), zu] [] σ Q := by
    intro h1 h2 h5
    refine z_aload_n dX3_readJoint_141 rfl rfl ?_
    refine z_iload_n dX3_readJoint_142 rfl rfl ?_
    refine z_putI (k := 13) fpRX3_55 rfl rfl dX3_readJoint_143 ?_
    exact J146_1 h1 h2 h5
  refine z_aload_n dX3_readJoint_0 rfl rfl ?_
  refine z_getfR (k := 1) flRX3_28 rfl rfl dX3_readJoint_1 ?_
  refine z_getfR (k := 10) flRX3_66 rfl rfl dX3_readJoint_4 ?_
  refine z_iload_n dX3_readJoint_7 rfl rfl ?_
  have s1 : (0 : Int) ≤ a1 ∧ a1 < (200 : Int) := k1
  refine z_iald rfl s1.1 s1.2 dX3_readJoint_8 ?_
  refine z_istore_n (ls' := [zr 47, zi a1, zi (σ 46 a1), zu]) dX3_readJoint_9 rfl (by decide) rfl ?_
  refine z_iload_n dX3_readJoint_10 rfl rfl ?_
  refine z_bipush (x := 38) dX3_readJoint_11 (by decide +kernel) (by unfold zIn; decide) ?_
  refine z_icmp_ne dX3_readJoint_13 (tgt := 24) (by decide) (fun h1 => ?_) (fun h1 => ?_)
  · skip
    refine z_iload_n dX3_readJoint_24 rfl rfl ?_
    refine z_bipush (x := 124) dX3_readJoint_25 (by decide +kernel) (by unfold zIn; decide) ?_
    refine z_icmp_ne dX3_readJoint_27 (tgt := 78) (by decide) (fun h2 => ?_) (fun h2 => ?_)
    · skip
      refine z_iload_n dX3_readJoint_78 rfl rfl ?_
      refine z_bipush (x := 41) dX3_readJoint_79 (by decide +kernel) (by unfold zIn; decide) ?_
      refine z_icmp_ne dX3_readJoint_81 (tgt := 141) (by decide) (fun h3 => ?_) (fun h3 => ?_)
      · skip
        exact J141 h1 h2 (Or.inl h3)
      · skip
        refine z_aload_n dX3_readJoint_84 rfl rfl ?_
        refine z_getfI (k := 7) flRX3_75 rfl rfl dX3_readJoint_85 ?_
        refine z_if_le dX3_readJoint_88 (tgt := 141) (by decide) (fun h4 => ?_) (fun h4 => ?_)
        · skip
          exact J141 h1 h2 (Or.inr ⟨h3, h4⟩)
        · skip
          refine z_aload_n dX3_readJoint_91 rfl rfl ?_
          refine z_getfR (k := 2) flRX3_11 rfl rfl dX3_readJoint_92 ?_
          refine z_aload_n dX3_readJoint_95 rfl rfl ?_
          refine z_getfI (k := 7) flRX3_75 rfl rfl dX3_readJoint_96 ?_
          have s2 : (0 : Int) ≤ σ 47 7 ∧ σ 47 7 < (31 : Int) := k2 h1 h2 h3 h4
          refine z_iald rfl s2.1 s2.2 dX3_readJoint_99 ?_
          refine z_aload_n dX3_readJoint_100 rfl rfl ?_
          refine z_getfR (k := 3) flRX3_15 rfl rfl dX3_readJoint_101 ?_
          refine z_aload_n dX3_readJoint_104 rfl rfl ?_
          refine z_getfI (k := 7) flRX3_75 rfl rfl dX3_readJoint_105 ?_
          refine z_iald rfl s2.1 s2.2 dX3_readJoint_108 ?_
          refine z_calls (as := [zi (σ 48 (σ 47 7)), zi (σ 49 (σ 47 7))]) (st := []) mkX3_either lkRX3_82 rfl (by decide) (Nat.le_of_ble_eq_true rfl) rfl dX3_readJoint_109 (k3 h1 h2 h3 h4)
    · skip
      refine z_aload_n dX3_readJoint_30 rfl rfl ?_
      refine z_getfR (k := 2) flRX3_11 rfl rfl dX3_readJoint_31 ?_
      refine z_aload_n dX3_readJoint_34 rfl rfl ?_
      refine z_getfI (k := 7) flRX3_75 rfl rfl dX3_readJoint_35 ?_
      refine z_aload_n dX3_readJoint_38 rfl rfl ?_
      refine z_getfR (k := 2) flRX3_11 rfl rfl dX3_readJoint_39 ?_
      refine z_aload_n dX3_readJoint_42 rfl rfl ?_
      refine z_getfI (k := 7) flRX3_75 rfl rfl dX3_readJoint_43 ?_
      have s4 : (0 : Int) ≤ σ 47 7 ∧ σ 47 7 < (31 : Int) := k4 h1 h2
      refine z_iald rfl s4.1 s4.2 dX3_readJoint_46 ?_
      refine z_aload_n dX3_readJoint_47 rfl rfl ?_
      refine z_getfR (k := 3) flRX3_15 rfl rfl dX3_readJoint_48 ?_
      refine z_aload_n dX3_readJoint_51 rfl rfl ?_
      refine z_getfI (k := 7) flRX3_75 rfl rfl dX3_readJoint_52 ?_
      refine z_iald rfl s4.1 s4.2 dX3_readJoint_55 ?_
      refine z_calls (as := [zi (σ 48 (σ 47 7)), zi (σ 49 (σ 47 7))]) (st := [zi (σ 47 7), zr 48]) mkX3_either lkRX3_82 rfl (by decide) (Nat.le_of_ble_eq_true rfl) rfl dX3_readJoint_56 (k5 h1 h2)
  · skip
    refine z_aload_n dX3_readJoint_16 rfl rfl ?_
    refine z_iconst dX3_readJoint_17 (by unfold zIn; decide) ?_
    refine z_putZ (k := 9) fpRX3_58 rfl rfl (by decide) dX3_readJoint_18 ?_
    refine z_goto dX3_readJoint_21 (tgt := 146) (by decide) ?_
    exact J146 h1
set_option maxRecDepth 20000 in
set_option maxHeartbeats 1000000 in
theorem TX3_readJoint_59 {G : zG} {σ : zS} {Q : Int → zS → Prop} {v1 v2 r t1 : Int}  (k1 : (0 : Int) ≤ t1 ∧ t1 < (31 : Int)) (k2 : (0 : Int) ≤ σ 47 7 ∧ σ 47 7 < (31 : Int)) (k3 : -2147483648 ≤ v1 + 1 ∧ v1 + 1 < (2147483648 : Int)) (k4 : Q (v1 + 1) (zup (zup (zup σ 48 t1 r) 49 (σ 47 7) 1) 47 9 1)) : zR G MX3_readJoint 59 [zr 47, zi v1, zi v2, zu] [zi r, zi t1, zr 48] σ Q := by
  have J146 : zR G MX3_readJoint 146 [zr 47, zi v1, zi v2, zu] [] (zup (zup (zup σ 48 t1 r) 49 (σ 47 7) 1) 47 9 1) Q := by
    refine z_iload_n dX3_readJoint_146 rfl rfl ?_
    refine z_iconst dX3_readJoint_147 (by unfold zIn; decide) ?_
    have s3 : -2147483648 ≤ v1 + 1 ∧ v1 + 1 < (2147483648 : Int) := k3
    refine z_iaddN dX3_readJoint_148 s3 ?_
    exact z_ireti rfl dX3_readJoint_149 (k4)
  have s1 : (0 : Int) ≤ t1 ∧ t1 < (31 : Int) := k1
  refine z_iast rfl s1.1 s1.2 dX3_readJoint_59 ?_
  refine z_aload_n dX3_readJoint_60 rfl rfl ?_
  refine z_getfR (k := 3) flRX3_15 rfl rfl dX3_readJoint_61 ?_
  refine z_aload_n dX3_readJoint_64 rfl rfl ?_
  refine z_getfE (k := 7) (v := σ 47 7) flRX3_75 rfl rfl (zup_of (by decide)) dX3_readJoint_65 ?_
  refine z_iconst dX3_readJoint_68 (by unfold zIn; decide) ?_
  have s2 : (0 : Int) ≤ σ 47 7 ∧ σ 47 7 < (31 : Int) := k2
  refine z_iast rfl s2.1 s2.2 dX3_readJoint_69 ?_
  refine z_aload_n dX3_readJoint_70 rfl rfl ?_
  refine z_iconst dX3_readJoint_71 (by unfold zIn; decide) ?_
  refine z_putZ (k := 9) fpRX3_58 rfl rfl (by decide) dX3_readJoint_72 ?_
  refine z_goto dX3_readJoint_75 (tgt := 146) (by decide) ?_
  exact J146
set_option maxRecDepth 20000 in
set_option maxHeartbeats 1000000 in
theorem TX3_readJoint_112 {G : zG} {σ : zS} {Q : Int → zS → Prop} {v1 v2 r : Int}  (k1 : -2147483648 ≤ σ 47 7 - 1 ∧ σ 47 7 - 1 < (2147483648 : Int)) (k2 : -2147483648 ≤ σ 47 8 - 1 ∧ σ 47 8 - 1 < (2147483648 : Int)) (k3 : zO G MX3_endPart [zr 47, zi r] (zup (zup σ 47 7 (σ 47 7 - 1)) 47 8 (σ 47 8 - 1)) (fun rr σ' => zR G MX3_readJoint 138 [zr 47, zi v1, zi v2, zi r] [] σ' Q)) : zR G MX3_readJoint 112 [zr 47, zi v1, zi v2, zu] [zi r] σ Q := by
  refine z_istore_n (ls' := [zr 47, zi v1, zi v2, zi r]) dX3_readJoint_112 rfl (by decide) rfl ?_
  refine z_aload_n dX3_readJoint_113 rfl rfl ?_
  refine z_dup dX3_readJoint_114 rfl ?_
  refine z_getfI (k := 7) flRX3_75 rfl rfl dX3_readJoint_115 ?_
  refine z_iconst dX3_readJoint_118 (by unfold zIn; decide) ?_
  have s1 : -2147483648 ≤ σ 47 7 - 1 ∧ σ 47 7 - 1 < (2147483648 : Int) := k1
  refine z_isubN dX3_readJoint_119 s1 ?_
  refine z_putI (k := 7) fpRX3_75 rfl rfl dX3_readJoint_120 ?_
  refine z_aload_n dX3_readJoint_123 rfl rfl ?_
  refine z_dup dX3_readJoint_124 rfl ?_
  refine z_getfE (k := 8) (v := σ 47 8) flRX3_112 rfl rfl (zup_oi (by decide)) dX3_readJoint_125 ?_
  refine z_iconst dX3_readJoint_128 (by unfold zIn; decide) ?_
  have s2 : -2147483648 ≤ σ 47 8 - 1 ∧ σ 47 8 - 1 < (2147483648 : Int) := k2
  refine z_isubN dX3_readJoint_129 s2 ?_
  refine z_putI (k := 8) fpRX3_112 rfl rfl dX3_readJoint_130 ?_
  refine z_aload_n dX3_readJoint_133 rfl rfl ?_
  refine z_iload_n dX3_readJoint_134 rfl rfl ?_
  refine z_callv (as := [zi r]) (st := []) mkX3_endPart lkRX3_124 rfl rfl rfl (by decide) (Nat.le_of_ble_eq_true rfl) rfl dX3_readJoint_135 (k3)
set_option maxRecDepth 20000 in
set_option maxHeartbeats 1000000 in
theorem TX3_readJoint_138 {G : zG} {σ : zS} {Q : Int → zS → Prop} {v1 v2 v3 : Int}  (k1 : -2147483648 ≤ v1 + 1 ∧ v1 + 1 < (2147483648 : Int)) (k2 : Q (v1 + 1) σ) : zR G MX3_readJoint 138 [zr 47, zi v1, zi v2, zi v3] [] σ Q := by
  have J146 : zR G MX3_readJoint 146 [zr 47, zi v1, zi v2, zi v3] [] σ Q := by
    refine z_iload_n dX3_readJoint_146 rfl rfl ?_
    refine z_iconst dX3_readJoint_147 (by unfold zIn; decide) ?_
    have s1 : -2147483648 ≤ v1 + 1 ∧ v1 + 1 < (2147483648 : Int) := k1
    refine z_iaddN dX3_readJoint_148 s1 ?_
    exact z_ireti rfl dX3_readJoint_149 (k2)
  refine z_goto dX3_readJoint_138 (tgt := 146) (by decide) ?_
  exact J146
