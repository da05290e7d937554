set_option maxRecDepth 20000 in
set_option maxHeartbeats 1000000 in
theorem TX12_is {G : zG} {σ : zS} {Q : Int → zS → Prop} {a1 a2 a3 a4 : Int}  (k1 : ((0 ≤ a1 ∧ a1 < σ 98 1)) → (0 ≤ a2) → (a2 < 4) → zO G MX12_valueOf [zr 98, zi a1, zi a2, zi a3, zi a4] σ (fun rr σ' => zR G MX12_is 26 [zr 98, zi a1, zi a2, zi a3, zi a4] [zi rr] σ' Q)) (k2 : ((¬ ((0 ≤ a1 ∧ a1 < σ 98 1))) ∨ (((0 ≤ a1 ∧ a1 < σ 98 1)) ∧ a2 < 0) ∨ (((0 ≤ a1 ∧ a1 < σ 98 1)) ∧ 0 ≤ a2 ∧ 4 ≤ a2)) → Q (-1) σ) : zO G MX12_is [zr 98, zi a1, zi a2, zi a3, zi a4] σ Q := by
  refine zO_of (ls0 := [zr 98, zi a1, zi a2, zi a3, zi a4]) (by decide) (Nat.le_of_ble_eq_true rfl) rfl ?_
  have J29 : ((¬ ((0 ≤ a1 ∧ a1 < σ 98 1))) ∨ (((0 ≤ a1 ∧ a1 < σ 98 1)) ∧ a2 < 0) ∨ (((0 ≤ a1 ∧ a1 < σ 98 1)) ∧ 0 ≤ a2 ∧ 4 ≤ a2)) → zR G MX12_is 29 [zr 98, zi a1, zi a2, zi a3, zi a4] [] σ Q := by
    intro h4
    refine z_iconst dX12_is_29 (by unfold zIn; decide) ?_
    exact z_ireti rfl dX12_is_30 (k2 h4)
  refine z_aload_n dX12_is_0 rfl rfl ?_
  refine z_iload_n dX12_is_1 rfl rfl ?_
  refine z_callv (as := [zi a1]) (st := []) mkX12_isOne lkRX12_271 rfl rfl rfl (by decide) (Nat.le_of_ble_eq_true rfl) rfl dX12_is_2 ?_
  refine SX12_isOne ?_
  show zR G MX12_is 5 [zr 98, zi a1, zi a2, zi a3, zi a4] [zi (if (0 ≤ a1 ∧ a1 < σ 98 1) then (1 : Int) else 0)] σ Q
  refine z_if_eq dX12_is_5 (tgt := 29) (by decide) (fun z => ?_) (fun z => ?_)
  · have h1 : ¬ ((0 ≤ a1 ∧ a1 < σ 98 1)) := zb0 z
    exact J29 (Or.inl h1)
  · have h1 : (0 ≤ a1 ∧ a1 < σ 98 1) := zb1 z
    refine z_iload_n dX12_is_8 rfl rfl ?_
    refine z_if_lt dX12_is_9 (tgt := 29) (by decide) (fun h2 => ?_) (fun h2 => ?_)
    · skip
      exact J29 (Or.inr (Or.inl ⟨h1, h2⟩))
    · skip
      refine z_iload_n dX12_is_12 rfl rfl ?_
      refine z_iconst dX12_is_13 (by unfold zIn; decide) ?_
      refine z_icmp_ge dX12_is_14 (tgt := 29) (by decide) (fun h3 => ?_) (fun h3 => ?_)
      · skip
        exact J29 (Or.inr (Or.inr ⟨h1, h2, h3⟩))
      · skip
        refine z_aload_n dX12_is_17 rfl rfl ?_
        refine z_iload_n dX12_is_18 rfl rfl ?_
        refine z_iload_n dX12_is_19 rfl rfl ?_
        refine z_iload_n dX12_is_20 rfl rfl ?_
        refine z_iload dX12_is_21 rfl ?_
        refine z_callv (as := [zi a1, zi a2, zi a3, zi a4]) (st := []) mkX12_valueOf lkRX12_282 rfl rfl rfl (by decide) (Nat.le_of_ble_eq_true rfl) rfl dX12_is_23 (k1 h1 h2 h3)
set_option maxRecDepth 20000 in
set_option maxHeartbeats 1000000 in
theorem TX12_is_26 {G : zG} {σ : zS} {Q : Int → zS → Prop} {v1 v2 v3 v4 r : Int}  (k1 : Q r σ) : zR G MX12_is 26 [zr 98, zi v1, zi v2, zi v3, zi v4] [zi r] σ Q := by
  refine z_goto dX12_is_26 (tgt := 30) (by decide) ?_
  exact z_ireti rfl dX12_is_30 (k1)
set_option maxRecDepth 20000 in
set_option maxHeartbeats 1000000 in
theorem TX12_kinOf {G : zG} {σ : zS} {Q : Int → zS → Prop} {a1 a2 : Int}  (k1 : zO G MX12_climbs [zr 98, zi a1, zi a2, zr 158] σ (fun rr σ' => zR G MX12_kinOf 13 [zr 98, zi a1, zi a2, zi 99, zu, zu] [] σ' Q)) : zO G MX12_kinOf [zr 98, zi a1, zi a2] σ Q := by
  refine zO_of (ls0 := [zr 98, zi a1, zi a2, zu, zu, zu]) (by decide) (Nat.le_of_ble_eq_true rfl) rfl ?_
  refine z_bipush (x := 99) dX12_kinOf_0 (by decide +kernel) (by unfold zIn; decide) ?_
  refine z_istore_n (ls' := [zr 98, zi a1, zi a2, zi 99, zu, zu]) dX12_kinOf_2 rfl (by decide) rfl ?_
  refine z_aload_n dX12_kinOf_3 rfl rfl ?_
  refine z_iload_n dX12_kinOf_4 rfl rfl ?_
  refine z_iload_n dX12_kinOf_5 rfl rfl ?_
  refine z_aload_n dX12_kinOf_6 rfl rfl ?_
  refine z_getfR (k := 74) flRX12_193 rfl rfl dX12_kinOf_7 ?_
  refine z_callv (as := [zi a1, zi a2, zr 158]) (st := []) mkX12_climbs lkRX12_275 rfl rfl rfl (by decide) (Nat.le_of_ble_eq_true rfl) rfl dX12_kinOf_10 (k1)
set_option maxRecDepth 20000 in
set_option maxHeartbeats 1000000 in
theorem TX12_kinOf_13 {G : zG} {σ : zS} {Q : Int → zS → Prop} {v1 v2 v3 : Int}  (k1 : zR G MX12_kinOf 16 [zr 98, zi v1, zi v2, zi v3, zi 0, zu] [] σ Q) : zR G MX12_kinOf 13 [zr 98, zi v1, zi v2, zi v3, zu, zu] [] σ Q := by
  refine z_iconst dX12_kinOf_13 (by unfold zIn; decide) ?_
  refine z_istore (ls' := [zr 98, zi v1, zi v2, zi v3, zi 0, zu]) dX12_kinOf_14 (by decide) rfl ?_
  exact k1
set_option maxRecDepth 20000 in
set_option maxHeartbeats 1000000 in
theorem TX12_kinOf_16 {G : zG} {σ : zS} {Q : Int → zS → Prop} {v1 v2 v3 v4 : Int}  (k1 : (σ 98 1 ≤ v4) → Q v3 σ) (k2 : (v4 < σ 98 1) → (0 : Int) ≤ v4 ∧ v4 < (24 : Int)) (k3 : (v4 < σ 98 1) → (σ 104 v4 ≠ 0) → zO G MX12_climbs [zr 98, zi v4, zi v2, zr 159] σ (fun rr σ' => zR G MX12_kinOf 49 [zr 98, zi v1, zi v2, zi v3, zi v4, zu] [] σ' Q)) (k4 : (v4 < σ 98 1) → (σ 104 v4 = 0) → -2147483648 ≤ v4 + 1 ∧ v4 + 1 < (2147483648 : Int)) (k5 : (v4 < σ 98 1) → (σ 104 v4 = 0) → zR G MX12_kinOf 16 [zr 98, zi v1, zi v2, zi v3, zi (v4 + 1), zu] [] σ Q) : zR G MX12_kinOf 16 [zr 98, zi v1, zi v2, zi v3, zi v4, zu] [] σ Q := by
  have J124 : (v4 < σ 98 1) → (σ 104 v4 = 0) → zR G MX12_kinOf 124 [zr 98, zi v1, zi v2, zi v3, zi v4, zu] [] σ Q := by
    intro h1 h2
    have s4 : -2147483648 ≤ v4 + 1 ∧ v4 + 1 < (2147483648 : Int) := k4 h1 h2
    refine z_iincN (ls' := [zr 98, zi v1, zi v2, zi v3, zi (v4 + 1), zu]) dX12_kinOf_124 rfl (by decide) s4 rfl ?_
    refine z_goto dX12_kinOf_127 (tgt := 16) (by decide) ?_
    exact k5 h1 h2
  refine z_iload dX12_kinOf_16 rfl ?_
  refine z_aload_n dX12_kinOf_18 rfl rfl ?_
  refine z_getfI (k := 1) flRX12_256 rfl rfl dX12_kinOf_19 ?_
  refine z_icmp_ge dX12_kinOf_22 (tgt := 130) (by decide) (fun h1 => ?_) (fun h1 => ?_)
  · skip
    refine z_iload_n dX12_kinOf_130 rfl rfl ?_
    exact z_ireti rfl dX12_kinOf_131 (k1 h1)
  · skip
    refine z_aload_n dX12_kinOf_25 rfl rfl ?_
    refine z_getfR (k := 18) flRX12_29 rfl rfl dX12_kinOf_26 ?_
    refine z_iload dX12_kinOf_29 rfl ?_
    have s2 : (0 : Int) ≤ v4 ∧ v4 < (24 : Int) := k2 h1
    refine z_bald rfl s2.1 s2.2 dX12_kinOf_31 ?_
    refine z_if_ne dX12_kinOf_32 (tgt := 38) (by decide) (fun h2 => ?_) (fun h2 => ?_)
    · skip
      refine z_aload_n dX12_kinOf_38 rfl rfl ?_
      refine z_iload dX12_kinOf_39 rfl ?_
      refine z_iload_n dX12_kinOf_41 rfl rfl ?_
      refine z_aload_n dX12_kinOf_42 rfl rfl ?_
      refine z_getfR (k := 75) flRX12_196 rfl rfl dX12_kinOf_43 ?_
      refine z_callv (as := [zi v4, zi v2, zr 159]) (st := []) mkX12_climbs lkRX12_275 rfl rfl rfl (by decide) (Nat.le_of_ble_eq_true rfl) rfl dX12_kinOf_46 (k3 h1 h2)
    · skip
      refine z_goto dX12_kinOf_35 (tgt := 124) (by decide) ?_
      exact J124 h1 h2
set_option maxRecDepth 20000 in
set_option maxHeartbeats 1000000 in
theorem TX12_kinOf_49 {G : zG} {σ : zS} {Q : Int → zS → Prop} {v1 v2 v3 v4 : Int}  (k1 : zR G MX12_kinOf 52 [zr 98, zi v1, zi v2, zi v3, zi v4, zi 0] [] σ Q) : zR G MX12_kinOf 49 [zr 98, zi v1, zi v2, zi v3, zi v4, zu] [] σ Q := by
  refine z_iconst dX12_kinOf_49 (by unfold zIn; decide) ?_
  refine z_istore (ls' := [zr 98, zi v1, zi v2, zi v3, zi v4, zi 0]) dX12_kinOf_50 (by decide) rfl ?_
  exact k1
set_option maxRecDepth 20000 in
set_option maxHeartbeats 1000000 in
theorem TX12_kinOf_52 {G : zG} {σ : zS} {Q : Int → zS → Prop} {v1 v2 v3 v4 v5 : Int}  (k1 : (v5 < σ 98 1) → (0 : Int) ≤ v5 ∧ v5 < (24 : Int)) (k2 : (v5 < σ 98 1) → (σ 158 v5 ≠ (-1)) → (σ 159 v5 ≠ (-1)) → -2147483648 ≤ σ 158 v5 + σ 159 v5 ∧ σ 158 v5 + σ 159 v5 < (2147483648 : Int)) (k3 : (v5 < σ 98 1) → (σ 158 v5 = (-1) ∨ (σ 158 v5 ≠ (-1) ∧ σ 159 v5 = (-1)) ∨ (σ 158 v5 ≠ (-1) ∧ σ 159 v5 ≠ (-1) ∧ v3 ≤ σ 158 v5 + σ 159 v5)) → -2147483648 ≤ v5 + 1 ∧ v5 + 1 < (2147483648 : Int)) (k4 : (v5 < σ 98 1) → (σ 158 v5 = (-1) ∨ (σ 158 v5 ≠ (-1) ∧ σ 159 v5 = (-1)) ∨ (σ 158 v5 ≠ (-1) ∧ σ 159 v5 ≠ (-1) ∧ v3 ≤ σ 158 v5 + σ 159 v5)) → zR G MX12_kinOf 52 [zr 98, zi v1, zi v2, zi v3, zi v4, zi (v5 + 1)] [] σ Q) (k5 : (v5 < σ 98 1) → (σ 158 v5 ≠ (-1)) → (σ 159 v5 ≠ (-1)) → (σ 158 v5 + σ 159 v5 < v3) → -2147483648 ≤ v5 + 1 ∧ v5 + 1 < (2147483648 : Int)) (k6 : (v5 < σ 98 1) → (σ 158 v5 ≠ (-1)) → (σ 159 v5 ≠ (-1)) → (σ 158 v5 + σ 159 v5 < v3) → zR G MX12_kinOf 52 [zr 98, zi v1, zi v2, zi (σ 158 v5 + σ 159 v5), zi v4, zi (v5 + 1)] [] σ Q) (k7 : (σ 98 1 ≤ v5) → -2147483648 ≤ v4 + 1 ∧ v4 + 1 < (2147483648 : Int)) (k8 : (σ 98 1 ≤ v5) → zR G MX12_kinOf 16 [zr 98, zi v1, zi v2, zi v3, zi (v4 + 1), zu] [] σ Q) : zR G MX12_kinOf 52 [zr 98, zi v1, zi v2, zi v3, zi v4, zi v5] [] σ Q := by
  have J124 : (σ 98 1 ≤ v5) → zR G MX12_kinOf 124 [zr 98, zi v1, zi v2, zi v3, zi v4, zi v5] [] σ Q := by
    intro h1
    have s7 : -2147483648 ≤ v4 + 1 ∧ v4 + 1 < (2147483648 : Int) := k7 h1
    refine z_iincN (ls' := [zr 98, zi v1, zi v2, zi v3, zi (v4 + 1), zi v5]) dX12_kinOf_124 rfl (by decide) s7 rfl ?_
    refine z_goto dX12_kinOf_127 (tgt := 16) (by decide) ?_
    exact zR_fg [false, false, false, false, false, true] (k8 h1)
  have J118_1 : (v5 < σ 98 1) → (σ 158 v5 ≠ (-1)) → (σ 159 v5 ≠ (-1)) → (σ 158 v5 + σ 159 v5 < v3) → zR G MX12_kinOf 118 [zr 98, zi v1, zi v2, zi (σ 158 v5 + σ 159 v5), zi v4, zi v5] [] σ Q := by
    intro h1 h2 h3 h4
    have s5 : -2147483648 ≤ v5 + 1 ∧ v5 + 1 < (2147483648 : Int) := k5 h1 h2 h3 h4
    refine z_iincN (ls' := [zr 98, zi v1, zi v2, zi (σ 158 v5 + σ 159 v5), zi v4, zi (v5 + 1)]) dX12_kinOf_118 rfl (by decide) s5 rfl ?_
    refine z_goto dX12_kinOf_121 (tgt := 52) (by decide) ?_
    exact k6 h1 h2 h3 h4
  have J118 : (v5 < σ 98 1) → (σ 158 v5 = (-1) ∨ (σ 158 v5 ≠ (-1) ∧ σ 159 v5 = (-1)) ∨ (σ 158 v5 ≠ (-1) ∧ σ 159 v5 ≠ (-1) ∧ v3 ≤ σ 158 v5 + σ 159 v5)) → zR G MX12_kinOf 118 [zr 98, zi v1, zi v2, zi v3, zi v4, zi v5] [] σ Q := by
    intro h1 h5
    have s3 : -2147483648 ≤ v5 + 1 ∧ v5 + 1 < (2147483648 : Int) := k3 h1 h5
    refine z_iincN (ls' := [zr 98, zi v1, zi v2, zi v3, zi v4, zi (v5 + 1)]) dX12_kinOf_118 rfl (by decide) s3 rfl ?_
    refine z_goto dX12_kinOf_121 (tgt := 52) (by decide) ?_
    exact k4 h1 h5
  refine z_iload dX12_kinOf_52 rfl ?_
  refine z_aload_n dX12_kinOf_54 rfl rfl ?_
  refine z_getfI (k := 1) flRX12_256 rfl rfl dX12_kinOf_55 ?_
  refine z_icmp_ge dX12_kinOf_58 (tgt := 124) (by decide) (fun h1 => ?_) (fun h1 => ?_)
  · skip
    exact J124 h1
  · skip
    refine z_aload_n dX12_kinOf_61 rfl rfl ?_
    refine z_getfR (k := 74) flRX12_193 rfl rfl dX12_kinOf_62 ?_
    refine z_iload dX12_kinOf_65 rfl ?_
    have s1 : (0 : Int) ≤ v5 ∧ v5 < (24 : Int) := k1 h1
    refine z_iald rfl s1.1 s1.2 dX12_kinOf_67 ?_
    refine z_iconst dX12_kinOf_68 (by unfold zIn; decide) ?_
    refine z_icmp_eq dX12_kinOf_69 (tgt := 118) (by decide) (fun h2 => ?_) (fun h2 => ?_)
    · skip
      exact J118 h1 (Or.inl h2)
    · skip
      refine z_aload_n dX12_kinOf_72 rfl rfl ?_
      refine z_getfR (k := 75) flRX12_196 rfl rfl dX12_kinOf_73 ?_
      refine z_iload dX12_kinOf_76 rfl ?_
      refine z_iald rfl s1.1 s1.2 dX12_kinOf_78 ?_
      refine z_iconst dX12_kinOf_79 (by unfold zIn; decide) ?_
      refine z_icmp_eq dX12_kinOf_80 (tgt := 118) (by decide) (fun h3 => ?_) (fun h3 => ?_)
      · skip
        exact J118 h1 (Or.inr (Or.inl ⟨h2, h3⟩))
      · skip
        refine z_aload_n dX12_kinOf_83 rfl rfl ?_
        refine z_getfR (k := 74) flRX12_193 rfl rfl dX12_kinOf_84 ?_
        refine z_iload dX12_kinOf_87 rfl ?_
        refine z_iald rfl s1.1 s1.2 dX12_kinOf_89 ?_
        refine z_aload_n dX12_kinOf_90 rfl rfl ?_
        refine z_getfR (k := 75) flRX12_196 rfl rfl dX12_kinOf_91 ?_
        refine z_iload dX12_kinOf_94 rfl ?_
        refine z_iald rfl s1.1 s1.2 dX12_kinOf_96 ?_
        have s2 : -2147483648 ≤ σ 158 v5 + σ 159 v5 ∧ σ 158 v5 + σ 159 v5 < (2147483648 : Int) := k2 h1 h2 h3
        refine z_iaddN dX12_kinOf_97 s2 ?_
        refine z_iload_n dX12_kinOf_98 rfl rfl ?_
        refine z_icmp_ge dX12_kinOf_99 (tgt := 118) (by decide) (fun h4 => ?_) (fun h4 => ?_)
        · skip
          exact J118 h1 (Or.inr (Or.inr ⟨h2, h3, h4⟩))
        · skip
          refine z_aload_n dX12_kinOf_102 rfl rfl ?_
          refine z_getfR (k := 74) flRX12_193 rfl rfl dX12_kinOf_103 ?_
          refine z_iload dX12_kinOf_106 rfl ?_
          refine z_iald rfl s1.1 s1.2 dX12_kinOf_108 ?_
          refine z_aload_n dX12_kinOf_109 rfl rfl ?_
          refine z_getfR (k := 75) flRX12_196 rfl rfl dX12_kinOf_110 ?_
          refine z_iload dX12_kinOf_113 rfl ?_
          refine z_iald rfl s1.1 s1.2 dX12_kinOf_115 ?_
          refine z_iaddN dX12_kinOf_116 s2 ?_
          refine z_istore_n (ls' := [zr 98, zi v1, zi v2, zi (σ 158 v5 + σ 159 v5), zi v4, zi v5]) dX12_kinOf_117 rfl (by decide) rfl ?_
          exact J118_1 h1 h2 h3 h4
set_option maxRecDepth 20000 in
set_option maxHeartbeats 1000000 in
theorem TX12_nearOf {G : zG} {σ : zS} {Q : Int → zS → Prop} {a1 a2 : Int}  (k1 : zO G MX12_kinOf [zr 98, zi a1, zi a2] σ (fun rr σ' => zR G MX12_nearOf 6 [zr 98, zi a1, zi a2, zu, zu, zu, zu] [zi rr] σ' Q)) : zO G MX12_nearOf [zr 98, zi a1, zi a2] σ Q := by
  refine zO_of (ls0 := [zr 98, zi a1, zi a2, zu, zu, zu, zu]) (by decide) (Nat.le_of_ble_eq_true rfl) rfl ?_
  refine z_aload_n dX12_nearOf_0 rfl rfl ?_
  refine z_iload_n dX12_nearOf_1 rfl rfl ?_
  refine z_iload_n dX12_nearOf_2 rfl rfl ?_
  refine z_callv (as := [zi a1, zi a2]) (st := []) mkX12_kinOf lkRX12_286 rfl rfl rfl (by decide) (Nat.le_of_ble_eq_true rfl) rfl dX12_nearOf_3 (k1)
set_option maxRecDepth 20000 in
set_option maxHeartbeats 1000000 in
theorem TX12_nearOf_6 {G : zG} {σ : zS} {Q : Int → zS → Prop} {v1 v2 r : Int}  (k1 : zO G MX12_climbs [zr 98, zi v1, zi v2, zr 158] σ (fun rr σ' => zR G MX12_nearOf 17 [zr 98, zi v1, zi v2, zi r, zu, zu, zu] [] σ' Q)) : zR G MX12_nearOf 6 [zr 98, zi v1, zi v2, zu, zu, zu, zu] [zi r] σ Q := by
  refine z_istore_n (ls' := [zr 98, zi v1, zi v2, zi r, zu, zu, zu]) dX12_nearOf_6 rfl (by decide) rfl ?_
  refine z_aload_n dX12_nearOf_7 rfl rfl ?_
  refine z_iload_n dX12_nearOf_8 rfl rfl ?_
  refine z_iload_n dX12_nearOf_9 rfl rfl ?_
  refine z_aload_n dX12_nearOf_10 rfl rfl ?_
  refine z_getfR (k := 74) flRX12_193 rfl rfl dX12_nearOf_11 ?_
  refine z_callv (as := [zi v1, zi v2, zr 158]) (st := []) mkX12_climbs lkRX12_275 rfl rfl rfl (by decide) (Nat.le_of_ble_eq_true rfl) rfl dX12_nearOf_14 (k1)
set_option maxRecDepth 20000 in
set_option maxHeartbeats 1000000 in
theorem TX12_nearOf_17 {G : zG} {σ : zS} {Q : Int → zS → Prop} {v1 v2 v3 : Int}  (k1 : zR G MX12_nearOf 20 [zr 98, zi v1, zi v2, zi v3, zi 0, zu, zu] [] σ Q) : zR G MX12_nearOf 17 [zr 98, zi v1, zi v2, zi v3, zu, zu, zu] [] σ Q := by
  refine z_iconst dX12_nearOf_17 (by unfold zIn; decide) ?_
  refine z_istore (ls' := [zr 98, zi v1, zi v2, zi v3, zi 0, zu, zu]) dX12_nearOf_18 (by decide) rfl ?_
  exact k1
set_option maxRecDepth 20000 in
set_option maxHeartbeats 1000000 in
theorem TX12_nearOf_20 {G : zG} {σ : zS} {Q : Int → zS → Prop} {v1 v2 v3 v4 : Int}  (k1 : (σ 98 1 ≤ v4) → Q v3 σ) (k2 : (v4 < σ 98 1) → zR G MX12_nearOf 32 [zr 98, zi v1, zi v2, zi v3, zi v4, zi 0, zu] [] σ Q) : zR G MX12_nearOf 20 [zr 98, zi v1, zi v2, zi v3, zi v4, zu, zu] [] σ Q := by
  refine z_iload dX12_nearOf_20 rfl ?_
  refine z_aload_n dX12_nearOf_22 rfl rfl ?_
  refine z_getfI (k := 1) flRX12_256 rfl rfl dX12_nearOf_23 ?_
  refine z_icmp_ge dX12_nearOf_26 (tgt := 128) (by decide) (fun h1 => ?_) (fun h1 => ?_)
  · skip
    refine z_iload_n dX12_nearOf_128 rfl rfl ?_
    exact z_ireti rfl dX12_nearOf_129 (k1 h1)
  · skip
    refine z_iconst dX12_nearOf_29 (by unfold zIn; decide) ?_
    refine z_istore (ls' := [zr 98, zi v1, zi v2, zi v3, zi v4, zi 0, zu]) dX12_nearOf_30 (by decide) rfl ?_
    exact k2 h1
set_option maxRecDepth 20000 in
set_option maxHeartbeats 1000000 in
theorem TX12_nearOf_32 {G : zG} {σ : zS} {Q : Int → zS → Prop} {v1 v2 v3 v4 v5 : Int}  (k1 : (2 ≤ v5) → -2147483648 ≤ v4 + 1 ∧ v4 + 1 < (2147483648 : Int)) (k2 : (2 ≤ v5) → zR G MX12_nearOf 20 [zr 98, zi v1, zi v2, zi v3, zi (v4 + 1), zu, zu] [] σ Q) (k3 : (v5 < 2) → -2147483648 ≤ 2 * v4 ∧ 2 * v4 < (2147483648 : Int)) (k4 : (v5 < 2) → -2147483648 ≤ (2 * v4) + v5 ∧ (2 * v4) + v5 < (2147483648 : Int)) (k5 : (v5 < 2) → (0 : Int) ≤ (2 * v4) + v5 ∧ (2 * v4) + v5 < (48 : Int)) (k6 : (v5 < 2) → (σ 102 ((2 * v4) + v5) ≠ (-1)) → (σ 103 ((2 * v4) + v5) ≤ v2) → (0 : Int) ≤ v4 ∧ v4 < (24 : Int)) (k7 : (v5 < 2) → (σ 102 ((2 * v4) + v5) = (-1) ∨ (σ 102 ((2 * v4) + v5) ≠ (-1) ∧ v2 < σ 103 ((2 * v4) + v5))) → (0 : Int) ≤ v4 ∧ v4 < (24 : Int)) (k8 : (v5 < 2) → (σ 102 ((2 * v4) + v5) = (-1) ∨ (σ 102 ((2 * v4) + v5) ≠ (-1) ∧ v2 < σ 103 ((2 * v4) + v5))) → (σ 158 v4 ≠ (-1)) → -2147483648 ≤ σ 158 v4 + 1 ∧ σ 158 v4 + 1 < (2147483648 : Int)) (k9 : (v5 < 2) → (σ 102 ((2 * v4) + v5) ≠ (-1)) → (σ 103 ((2 * v4) + v5) ≤ v2) → (σ 158 v4 = (-1) ∨ σ 158 v4 ≠ (-1)) → -2147483648 ≤ v5 + 1 ∧ v5 + 1 < (2147483648 : Int)) (k10 : (v5 < 2) → (σ 102 ((2 * v4) + v5) ≠ (-1)) → (σ 103 ((2 * v4) + v5) ≤ v2) → (σ 158 v4 = (-1) ∨ σ 158 v4 ≠ (-1)) → zR G MX12_nearOf 32 [zr 98, zi v1, zi v2, zi v3, zi v4, zi (v5 + 1), zu] [] σ Q) (k11 : (v5 < 2) → (σ 102 ((2 * v4) + v5) = (-1) ∨ (σ 102 ((2 * v4) + v5) ≠ (-1) ∧ v2 < σ 103 ((2 * v4) + v5))) → (σ 158 v4 = (-1) ∨ (σ 158 v4 ≠ (-1) ∧ v3 ≤ σ 158 v4 + 1)) → -2147483648 ≤ v5 + 1 ∧ v5 + 1 < (2147483648 : Int)) (k12 : (v5 < 2) → (σ 102 ((2 * v4) + v5) = (-1) ∨ (σ 102 ((2 * v4) + v5) ≠ (-1) ∧ v2 < σ 103 ((2 * v4) + v5))) → (σ 158 v4 = (-1) ∨ (σ 158 v4 ≠ (-1) ∧ v3 ≤ σ 158 v4 + 1)) → zR G MX12_nearOf 32 [zr 98, zi v1, zi v2, zi v3, zi v4, zi (v5 + 1), zu] [] σ Q) (k13 : (v5 < 2) → (σ 102 ((2 * v4) + v5) = (-1) ∨ (σ 102 ((2 * v4) + v5) ≠ (-1) ∧ v2 < σ 103 ((2 * v4) + v5))) → (σ 158 v4 ≠ (-1)) → (σ 158 v4 + 1 < v3) → -2147483648 ≤ v5 + 1 ∧ v5 + 1 < (2147483648 : Int)) (k14 : (v5 < 2) → (σ 102 ((2 * v4) + v5) = (-1) ∨ (σ 102 ((2 * v4) + v5) ≠ (-1) ∧ v2 < σ 103 ((2 * v4) + v5))) → (σ 158 v4 ≠ (-1)) → (σ 158 v4 + 1 < v3) → zR G MX12_nearOf 32 [zr 98, zi v1, zi v2, zi (σ 158 v4 + 1), zi v4, zi (v5 + 1), zu] [] σ Q) : zR G MX12_nearOf 32 [zr 98, zi v1, zi v2, zi v3, zi v4, zi v5, zu] [] σ Q := by
  have J116_2 : (v5 < 2) → (σ 102 ((2 * v4) + v5) = (-1) ∨ (σ 102 ((2 * v4) + v5) ≠ (-1) ∧ v2 < σ 103 ((2 * v4) + v5))) → (σ 158 v4 ≠ (-1)) → (σ 158 v4 + 1 < v3) → zR G MX12_nearOf 116 [zr 98, zi v1, zi v2, zi (σ 158 v4 + 1), zi v4, zi v5, zi 1] [] σ Q := by
    intro h1 h6 h7 h9
    have s13 : -2147483648 ≤ v5 + 1 ∧ v5 + 1 < (2147483648 : Int) := k13 h1 h6 h7 h9
    refine z_iincN (ls' := [zr 98, zi v1, zi v2, zi (σ 158 v4 + 1), zi v4, zi (v5 + 1), zi 1]) dX12_nearOf_116 rfl (by decide) s13 rfl ?_
    refine z_goto dX12_nearOf_119 (tgt := 32) (by decide) ?_
    exact zR_fg [false, false, false, false, false, false, true] (k14 h1 h6 h7 h9)
  have J116_1 : (v5 < 2) → (σ 102 ((2 * v4) + v5) = (-1) ∨ (σ 102 ((2 * v4) + v5) ≠ (-1) ∧ v2 < σ 103 ((2 * v4) + v5))) → (σ 158 v4 = (-1) ∨ (σ 158 v4 ≠ (-1) ∧ v3 ≤ σ 158 v4 + 1)) → zR G MX12_nearOf 116 [zr 98, zi v1, zi v2, zi v3, zi v4, zi v5, zi 1] [] σ Q := by
    intro h1 h6 h11
    have s11 : -2147483648 ≤ v5 + 1 ∧ v5 + 1 < (2147483648 : Int) := k11 h1 h6 h11
    refine z_iincN (ls' := [zr 98, zi v1, zi v2, zi v3, zi v4, zi (v5 + 1), zi 1]) dX12_nearOf_116 rfl (by decide) s11 rfl ?_
    refine z_goto dX12_nearOf_119 (tgt := 32) (by decide) ?_
    exact zR_fg [false, false, false, false, false, false, true] (k12 h1 h6 h11)
  have J116 : (v5 < 2) → (σ 102 ((2 * v4) + v5) ≠ (-1)) → (σ 103 ((2 * v4) + v5) ≤ v2) → (σ 158 v4 = (-1) ∨ σ 158 v4 ≠ (-1)) → zR G MX12_nearOf 116 [zr 98, zi v1, zi v2, zi v3, zi v4, zi v5, zi 0] [] σ Q := by
    intro h1 h2 h3 h10
    have s9 : -2147483648 ≤ v5 + 1 ∧ v5 + 1 < (2147483648 : Int) := k9 h1 h2 h3 h10
    refine z_iincN (ls' := [zr 98, zi v1, zi v2, zi v3, zi v4, zi (v5 + 1), zi 0]) dX12_nearOf_116 rfl (by decide) s9 rfl ?_
    refine z_goto dX12_nearOf_119 (tgt := 32) (by decide) ?_
    exact zR_fg [false, false, false, false, false, false, true] (k10 h1 h2 h3 h10)
  have J70 : (v5 < 2) → (σ 102 ((2 * v4) + v5) = (-1) ∨ (σ 102 ((2 * v4) + v5) ≠ (-1) ∧ v2 < σ 103 ((2 * v4) + v5))) → zR G MX12_nearOf 70 [zr 98, zi v1, zi v2, zi v3, zi v4, zi v5, zu] [] σ Q := by
    intro h1 h6
    refine z_iconst dX12_nearOf_70 (by unfold zIn; decide) ?_
    refine z_goto dX12_nearOf_71 (tgt := 75) (by decide) ?_
    refine z_istore (ls' := [zr 98, zi v1, zi v2, zi v3, zi v4, zi v5, zi 1]) dX12_nearOf_75 (by decide) rfl ?_
    refine z_aload_n dX12_nearOf_77 rfl rfl ?_
    refine z_getfR (k := 74) flRX12_193 rfl rfl dX12_nearOf_78 ?_
    refine z_iload dX12_nearOf_81 rfl ?_
    have s7 : (0 : Int) ≤ v4 ∧ v4 < (24 : Int) := k7 h1 h6
    refine z_iald rfl s7.1 s7.2 dX12_nearOf_83 ?_
    refine z_iconst dX12_nearOf_84 (by unfold zIn; decide) ?_
    refine z_icmp_eq dX12_nearOf_85 (tgt := 116) (by decide) (fun h7 => ?_) (fun h7 => ?_)
    · skip
      exact J116_1 h1 h6 (Or.inl h7)
    · skip
      refine z_iload dX12_nearOf_88 rfl ?_
      refine z_if_eq dX12_nearOf_90 (tgt := 116) (by decide) (fun z => absurd z (by decide)) (fun z => ?_)
      refine z_aload_n dX12_nearOf_93 rfl rfl ?_
      refine z_getfR (k := 74) flRX12_193 rfl rfl dX12_nearOf_94 ?_
      refine z_iload dX12_nearOf_97 rfl ?_
      refine z_iald rfl s7.1 s7.2 dX12_nearOf_99 ?_
      refine z_iconst dX12_nearOf_100 (by unfold zIn; decide) ?_
      have s8 : -2147483648 ≤ σ 158 v4 + 1 ∧ σ 158 v4 + 1 < (2147483648 : Int) := k8 h1 h6 h7
      refine z_iaddN dX12_nearOf_101 s8 ?_
      refine z_iload_n dX12_nearOf_102 rfl rfl ?_
      refine z_icmp_ge dX12_nearOf_103 (tgt := 116) (by decide) (fun h9 => ?_) (fun h9 => ?_)
      · skip
        exact J116_1 h1 h6 (Or.inr ⟨h7, h9⟩)
      · skip
        refine z_aload_n dX12_nearOf_106 rfl rfl ?_
        refine z_getfR (k := 74) flRX12_193 rfl rfl dX12_nearOf_107 ?_
        refine z_iload dX12_nearOf_110 rfl ?_
        refine z_iald rfl s7.1 s7.2 dX12_nearOf_112 ?_
        refine z_iconst dX12_nearOf_113 (by unfold zIn; decide) ?_
        refine z_iaddN dX12_nearOf_114 s8 ?_
        refine z_istore_n (ls' := [zr 98, zi v1, zi v2, zi (σ 158 v4 + 1), zi v4, zi v5, zi 1]) dX12_nearOf_115 rfl (by decide) rfl ?_
        exact J116_2 h1 h6 h7 h9
  refine z_iload dX12_nearOf_32 rfl ?_
  refine z_iconst dX12_nearOf_34 (by unfold zIn; decide) ?_
  refine z_icmp_ge dX12_nearOf_35 (tgt := 122) (by decide) (fun h1 => ?_) (fun h1 => ?_)
  · skip
    have s1 : -2147483648 ≤ v4 + 1 ∧ v4 + 1 < (2147483648 : Int) := k1 h1
    refine z_iincN (ls' := [zr 98, zi v1, zi v2, zi v3, zi (v4 + 1), zi v5, zu]) dX12_nearOf_122 rfl (by decide) s1 rfl ?_
    refine z_goto dX12_nearOf_125 (tgt := 20) (by decide) ?_
    exact zR_fg [false, false, false, false, false, true, false] (k2 h1)
  · skip
    refine z_aload_n dX12_nearOf_38 rfl rfl ?_
    refine z_getfR (k := 16) flRX12_23 rfl rfl dX12_nearOf_39 ?_
    refine z_iconst dX12_nearOf_42 (by unfold zIn; decide) ?_
    refine z_iload dX12_nearOf_43 rfl ?_
    have s3 : -2147483648 ≤ 2 * v4 ∧ 2 * v4 < (2147483648 : Int) := k3 h1
    refine z_imulN dX12_nearOf_45 s3 ?_
    refine z_iload dX12_nearOf_46 rfl ?_
    have s4 : -2147483648 ≤ (2 * v4) + v5 ∧ (2 * v4) + v5 < (2147483648 : Int) := k4 h1
    refine z_iaddN dX12_nearOf_48 s4 ?_
    have s5 : (0 : Int) ≤ (2 * v4) + v5 ∧ (2 * v4) + v5 < (48 : Int) := k5 h1
    refine z_iald rfl s5.1 s5.2 dX12_nearOf_49 ?_
    refine z_iconst dX12_nearOf_50 (by unfold zIn; decide) ?_
    refine z_icmp_eq dX12_nearOf_51 (tgt := 70) (by decide) (fun h2 => ?_) (fun h2 => ?_)
    · skip
      exact J70 h1 (Or.inl h2)
    · skip
      refine z_aload_n dX12_nearOf_54 rfl rfl ?_
      refine z_getfR (k := 17) flRX12_26 rfl rfl dX12_nearOf_55 ?_
      refine z_iconst dX12_nearOf_58 (by unfold zIn; decide) ?_
      refine z_iload dX12_nearOf_59 rfl ?_
      refine z_imulN dX12_nearOf_61 s3 ?_
      refine z_iload dX12_nearOf_62 rfl ?_
      refine z_iaddN dX12_nearOf_64 s4 ?_
      refine z_iald rfl s5.1 s5.2 dX12_nearOf_65 ?_
      refine z_iload_n dX12_nearOf_66 rfl rfl ?_
      refine z_icmp_le dX12_nearOf_67 (tgt := 74) (by decide) (fun h3 => ?_) (fun h3 => ?_)
      · skip
        refine z_iconst dX12_nearOf_74 (by unfold zIn; decide) ?_
        refine z_istore (ls' := [zr 98, zi v1, zi v2, zi v3, zi v4, zi v5, zi 0]) dX12_nearOf_75 (by decide) rfl ?_
        refine z_aload_n dX12_nearOf_77 rfl rfl ?_
        refine z_getfR (k := 74) flRX12_193 rfl rfl dX12_nearOf_78 ?_
        refine z_iload dX12_nearOf_81 rfl ?_
        have s6 : (0 : Int) ≤ v4 ∧ v4 < (24 : Int) := k6 h1 h2 h3
        refine z_iald rfl s6.1 s6.2 dX12_nearOf_83 ?_
        refine z_iconst dX12_nearOf_84 (by unfold zIn; decide) ?_
        refine z_icmp_eq dX12_nearOf_85 (tgt := 116) (by decide) (fun h4 => ?_) (fun h4 => ?_)
        · skip
          exact J116 h1 h2 h3 (Or.inl h4)
        · skip
          refine z_iload dX12_nearOf_88 rfl ?_
          refine z_if_eq dX12_nearOf_90 (tgt := 116) (by decide) (fun z => ?_) (fun z => absurd z (by decide))
          exact J116 h1 h2 h3 (Or.inr h4)
      · skip
        exact J70 h1 (Or.inr ⟨h2, h3⟩)
set_option maxRecDepth 20000 in
set_option maxHeartbeats 1000000 in
theorem TX12_kin {G : zG} {σ : zS} {Q : Int → zS → Prop} {a1 a2 a3 : Int}  (k1 : ((0 ≤ a1 ∧ a1 < σ 98 1)) → (a2 = 0) → zO G MX12_kinOf [zr 98, zi a1, zi a3] σ (fun rr σ' => zR G MX12_kin 29 [zr 98, zi a1, zi a2, zi a3] [zi rr] σ' Q)) (k2 : ((0 ≤ a1 ∧ a1 < σ 98 1)) → (a2 ≠ 0) → zO G MX12_nearOf [zr 98, zi a1, zi a3] σ (fun rr σ' => zR G MX12_kin 20 [zr 98, zi a1, zi a2, zi a3] [zi rr] σ' Q)) (k3 : (¬ ((0 ≤ a1 ∧ a1 < σ 98 1))) → Q (-1) σ) : zO G MX12_kin [zr 98, zi a1, zi a2, zi a3] σ Q := by
  refine zO_of (ls0 := [zr 98, zi a1, zi a2, zi a3]) (by decide) (Nat.le_of_ble_eq_true rfl) rfl ?_
  refine z_aload_n dX12_kin_0 rfl rfl ?_
  refine z_iload_n dX12_kin_1 rfl rfl ?_
  refine z_callv (as := [zi a1]) (st := []) mkX12_isOne lkRX12_271 rfl rfl rfl (by decide) (Nat.le_of_ble_eq_true rfl) rfl dX12_kin_2 ?_
  refine SX12_isOne ?_
  show zR G MX12_kin 5 [zr 98, zi a1, zi a2, zi a3] [zi (if (0 ≤ a1 ∧ a1 < σ 98 1) then (1 : Int) else 0)] σ Q
  refine z_if_ne dX12_kin_5 (tgt := 10) (by decide) (fun z => ?_) (fun z => ?_)
  · have h1 : (0 ≤ a1 ∧ a1 < σ 98 1) := zb1 z
    refine z_iload_n dX12_kin_10 rfl rfl ?_
    refine z_if_eq dX12_kin_11 (tgt := 23) (by decide) (fun h2 => ?_) (fun h2 => ?_)
    · skip
      refine z_aload_n dX12_kin_23 rfl rfl ?_
      refine z_iload_n dX12_kin_24 rfl rfl ?_
      refine z_iload_n dX12_kin_25 rfl rfl ?_
      refine z_callv (as := [zi a1, zi a3]) (st := []) mkX12_kinOf lkRX12_286 rfl rfl rfl (by decide) (Nat.le_of_ble_eq_true rfl) rfl dX12_kin_26 (k1 h1 h2)
    · skip
      refine z_aload_n dX12_kin_14 rfl rfl ?_
      refine z_iload_n dX12_kin_15 rfl rfl ?_
      refine z_iload_n dX12_kin_16 rfl rfl ?_
      refine z_callv (as := [zi a1, zi a3]) (st := []) mkX12_nearOf lkRX12_290 rfl rfl rfl (by decide) (Nat.le_of_ble_eq_true rfl) rfl dX12_kin_17 (k2 h1 h2)
  · have h1 : ¬ ((0 ≤ a1 ∧ a1 < σ 98 1)) := zb0 z
    refine z_iconst dX12_kin_8 (by unfold zIn; decide) ?_
    exact z_ireti rfl dX12_kin_9 (k3 h1)
set_option maxRecDepth 20000 in
set_option maxHeartbeats 1000000 in
theorem TX12_kin_20 {G : zG} {σ : zS} {Q : Int → zS → Prop} {v1 v2 v3 r : Int}  (k1 : Q r σ) : zR G MX12_kin 20 [zr 98, zi v1, zi v2, zi v3] [zi r] σ Q := by
  refine z_goto dX12_kin_20 (tgt := 29) (by decide) ?_
  exact z_ireti rfl dX12_kin_29 (k1)
set_option maxRecDepth 20000 in
set_option maxHeartbeats 1000000 in
theorem TX12_kin_29 {G : zG} {σ : zS} {Q : Int → zS → Prop} {v1 v2 v3 r : Int}  (k1 : Q r σ) : zR G MX12_kin 29 [zr 98, zi v1, zi v2, zi v3] [zi r] σ Q := by
  exact z_ireti rfl dX12_kin_29 (k1)
set_option maxRecDepth 20000 in
set_option maxHeartbeats 1000000 in
theorem TX12_settles {G : zG} {σ : zS} {Q : Int → zS → Prop} {a1 : Int}  (k1 : ((0 ≤ a1 ∧ a1 < σ 98 1)) → zO G MX12_nearOf [zr 98, zi a1, zi (σ 98 0)] σ (fun rr σ' => zR G MX12_settles 19 [zr 98, zi a1, zu, zu, zu] [zi rr] σ' Q)) (k2 : (¬ ((0 ≤ a1 ∧ a1 < σ 98 1))) → Q (-1) σ) : zO G MX12_settles [zr 98, zi a1] σ Q := by
  refine zO_of (ls0 := [zr 98, zi a1, zu, zu, zu]) (by decide) (Nat.le_of_ble_eq_true rfl) rfl ?_
  refine z_aload_n dX12_settles_0 rfl rfl ?_
  refine z_iload_n dX12_settles_1 rfl rfl ?_
  refine z_callv (as := [zi a1]) (st := []) mkX12_isOne lkRX12_271 rfl rfl rfl (by decide) (Nat.le_of_ble_eq_true rfl) rfl dX12_settles_2 ?_
  refine SX12_isOne ?_
  show zR G MX12_settles 5 [zr 98, zi a1, zu, zu, zu] [zi (if (0 ≤ a1 ∧ a1 < σ 98 1) then (1 : Int) else 0)] σ Q
  refine z_if_ne dX12_settles_5 (tgt := 10) (by decide) (fun z => ?_) (fun z => ?_)
  · have h1 : (0 ≤ a1 ∧ a1 < σ 98 1) := zb1 z
    refine z_aload_n dX12_settles_10 rfl rfl ?_
    refine z_iload_n dX12_settles_11 rfl rfl ?_
    refine z_aload_n dX12_settles_12 rfl rfl ?_
    refine z_getfI (k := 0) flRX12_262 rfl rfl dX12_settles_13 ?_
    refine z_callv (as := [zi a1, zi (σ 98 0)]) (st := []) mkX12_nearOf lkRX12_290 rfl rfl rfl (by decide) (Nat.le_of_ble_eq_true rfl) rfl dX12_settles_16 (k1 h1)
  · have h1 : ¬ ((0 ≤ a1 ∧ a1 < σ 98 1)) := zb0 z
    refine z_iconst dX12_settles_8 (by unfold zIn; decide) ?_
    exact z_ireti rfl dX12_settles_9 (k2 h1)
set_option maxRecDepth 20000 in
set_option maxHeartbeats 1000000 in
theorem TX12_settles_19 {G : zG} {σ : zS} {Q : Int → zS → Prop} {v1 r : Int}  (k1 : zO G MX12_kinOf [zr 98, zi v1, zi (σ 98 0)] σ (fun rr σ' => zR G MX12_settles 30 [zr 98, zi v1, zi r, zu, zu] [zi rr, zi r] σ' Q)) : zR G MX12_settles 19 [zr 98, zi v1, zu, zu, zu] [zi r] σ Q := by
  refine z_istore_n (ls' := [zr 98, zi v1, zi r, zu, zu]) dX12_settles_19 rfl (by decide) rfl ?_
  refine z_iload_n dX12_settles_20 rfl rfl ?_
  refine z_aload_n dX12_settles_21 rfl rfl ?_
  refine z_iload_n dX12_settles_22 rfl rfl ?_
  refine z_aload_n dX12_settles_23 rfl rfl ?_
  refine z_getfI (k := 0) flRX12_262 rfl rfl dX12_settles_24 ?_
  refine z_callv (as := [zi v1, zi (σ 98 0)]) (st := [zi r]) mkX12_kinOf lkRX12_286 rfl rfl rfl (by decide) (Nat.le_of_ble_eq_true rfl) rfl dX12_settles_27 (k1)
set_option maxRecDepth 20000 in
set_option maxHeartbeats 1000000 in
theorem TX12_settles_30 {G : zG} {σ : zS} {Q : Int → zS → Prop} {v1 v2 r t1 : Int}  (k1 : (t1 ≠ r) → zO G MX12_climbs [zr 98, zi v1, zi (σ 98 0), zr 158] σ (fun rr σ' => zR G MX12_settles 48 [zr 98, zi v1, zi v2, zu, zu] [] σ' Q)) (k2 : (t1 = r) → Q (-1) σ) : zR G MX12_settles 30 [zr 98, zi v1, zi v2, zu, zu] [zi r, zi t1] σ Q := by
  refine z_icmp_ne dX12_settles_30 (tgt := 35) (by decide) (fun h1 => ?_) (fun h1 => ?_)
  · skip
    refine z_aload_n dX12_settles_35 rfl rfl ?_
    refine z_iload_n dX12_settles_36 rfl rfl ?_
    refine z_aload_n dX12_settles_37 rfl rfl ?_
    refine z_getfI (k := 0) flRX12_262 rfl rfl dX12_settles_38 ?_
    refine z_aload_n dX12_settles_41 rfl rfl ?_
    refine z_getfR (k := 74) flRX12_193 rfl rfl dX12_settles_42 ?_
    refine z_callv (as := [zi v1, zi (σ 98 0), zr 158]) (st := []) mkX12_climbs lkRX12_275 rfl rfl rfl (by decide) (Nat.le_of_ble_eq_true rfl) rfl dX12_settles_45 (k1 h1)
  · skip
    refine z_iconst dX12_settles_33 (by unfold zIn; decide) ?_
    exact z_ireti rfl dX12_settles_34 (k2 h1)
set_option maxRecDepth 20000 in
set_option maxHeartbeats 1000000 in
theorem TX12_settles_48 {G : zG} {σ : zS} {Q : Int → zS → Prop} {v1 v2 : Int}  (k1 : zR G MX12_settles 50 [zr 98, zi v1, zi v2, zi 0, zu] [] σ Q) : zR G MX12_settles 48 [zr 98, zi v1, zi v2, zu, zu] [] σ Q := by
  refine z_iconst dX12_settles_48 (by unfold zIn; decide) ?_
  refine z_istore_n (ls' := [zr 98, zi v1, zi v2, zi 0, zu]) dX12_settles_49 rfl (by decide) rfl ?_
  exact k1
set_option maxRecDepth 20000 in
set_option maxHeartbeats 1000000 in
theorem TX12_settles_50 {G : zG} {σ : zS} {Q : Int → zS → Prop} {v1 v2 v3 : Int}  (k1 : (σ 98 1 ≤ v3) → Q (-1) σ) (k2 : (v3 < σ 98 1) → zR G MX12_settles 61 [zr 98, zi v1, zi v2, zi v3, zi 0] [] σ Q) : zR G MX12_settles 50 [zr 98, zi v1, zi v2, zi v3, zu] [] σ Q := by
  refine z_iload_n dX12_settles_50 rfl rfl ?_
  refine z_aload_n dX12_settles_51 rfl rfl ?_
  refine z_getfI (k := 1) flRX12_256 rfl rfl dX12_settles_52 ?_
  refine z_icmp_ge dX12_settles_55 (tgt := 123) (by decide) (fun h1 => ?_) (fun h1 => ?_)
  · skip
    refine z_iconst dX12_settles_123 (by unfold zIn; decide) ?_
    exact z_ireti rfl dX12_settles_124 (k1 h1)
  · skip
    refine z_iconst dX12_settles_58 (by unfold zIn; decide) ?_
    refine z_istore (ls' := [zr 98, zi v1, zi v2, zi v3, zi 0]) dX12_settles_59 (by decide) rfl ?_
    exact k2 h1
set_option maxRecDepth 20000 in
set_option maxHeartbeats 1000000 in
theorem TX12_settles_61 {G : zG} {σ : zS} {Q : Int → zS → Prop} {v1 v2 v3 v4 : Int}  (k1 : (2 ≤ v4) → -2147483648 ≤ v3 + 1 ∧ v3 + 1 < (2147483648 : Int)) (k2 : (2 ≤ v4) → zR G MX12_settles 50 [zr 98, zi v1, zi v2, zi (v3 + 1), zu] [] σ Q) (k3 : (v4 < 2) → (0 : Int) ≤ v3 ∧ v3 < (24 : Int)) (k4 : (v4 < 2) → -2147483648 ≤ σ 158 v3 + 1 ∧ σ 158 v3 + 1 < (2147483648 : Int)) (k5 : (v4 < 2) → (σ 158 v3 + 1 = v2) → (σ 158 v3 ≠ (-1)) → -2147483648 ≤ 2 * v3 ∧ 2 * v3 < (2147483648 : Int)) (k6 : (v4 < 2) → (σ 158 v3 + 1 = v2) → (σ 158 v3 ≠ (-1)) → -2147483648 ≤ (2 * v3) + v4 ∧ (2 * v3) + v4 < (2147483648 : Int)) (k7 : (v4 < 2) → (σ 158 v3 + 1 = v2) → (σ 158 v3 ≠ (-1)) → (0 : Int) ≤ (2 * v3) + v4 ∧ (2 * v3) + v4 < (48 : Int)) (k8 : (v4 < 2) → (σ 158 v3 + 1 = v2) → (σ 158 v3 ≠ (-1)) → (σ 102 ((2 * v3) + v4) = (-1)) → Q ((2 * v3) + v4) σ) (k9 : (v4 < 2) → (σ 158 v3 + 1 ≠ v2 ∨ (σ 158 v3 + 1 = v2 ∧ σ 158 v3 = (-1)) ∨ (σ 158 v3 + 1 = v2 ∧ σ 158 v3 ≠ (-1) ∧ σ 102 ((2 * v3) + v4) ≠ (-1))) → -2147483648 ≤ v4 + 1 ∧ v4 + 1 < (2147483648 : Int)) (k10 : (v4 < 2) → (σ 158 v3 + 1 ≠ v2 ∨ (σ 158 v3 + 1 = v2 ∧ σ 158 v3 = (-1)) ∨ (σ 158 v3 + 1 = v2 ∧ σ 158 v3 ≠ (-1) ∧ σ 102 ((2 * v3) + v4) ≠ (-1))) → zR G MX12_settles 61 [zr 98, zi v1, zi v2, zi v3, zi (v4 + 1)] [] σ Q) : zR G MX12_settles 61 [zr 98, zi v1, zi v2, zi v3, zi v4] [] σ Q := by
  have J111 : (v4 < 2) → (σ 158 v3 + 1 ≠ v2 ∨ (σ 158 v3 + 1 = v2 ∧ σ 158 v3 = (-1)) ∨ (σ 158 v3 + 1 = v2 ∧ σ 158 v3 ≠ (-1) ∧ σ 102 ((2 * v3) + v4) ≠ (-1))) → zR G MX12_settles 111 [zr 98, zi v1, zi v2, zi v3, zi v4] [] σ Q := by
    intro h1 h5
    have s9 : -2147483648 ≤ v4 + 1 ∧ v4 + 1 < (2147483648 : Int) := k9 h1 h5
    refine z_iincN (ls' := [zr 98, zi v1, zi v2, zi v3, zi (v4 + 1)]) dX12_settles_111 rfl (by decide) s9 rfl ?_
    refine z_goto dX12_settles_114 (tgt := 61) (by decide) ?_
    exact k10 h1 h5
  refine z_iload dX12_settles_61 rfl ?_
  refine z_iconst dX12_settles_63 (by unfold zIn; decide) ?_
  refine z_icmp_ge dX12_settles_64 (tgt := 117) (by decide) (fun h1 => ?_) (fun h1 => ?_)
  · skip
    have s1 : -2147483648 ≤ v3 + 1 ∧ v3 + 1 < (2147483648 : Int) := k1 h1
    refine z_iincN (ls' := [zr 98, zi v1, zi v2, zi (v3 + 1), zi v4]) dX12_settles_117 rfl (by decide) s1 rfl ?_
    refine z_goto dX12_settles_120 (tgt := 50) (by decide) ?_
    exact zR_fg [false, false, false, false, true] (k2 h1)
  · skip
    refine z_aload_n dX12_settles_67 rfl rfl ?_
    refine z_getfR (k := 74) flRX12_193 rfl rfl dX12_settles_68 ?_
    refine z_iload_n dX12_settles_71 rfl rfl ?_
    have s3 : (0 : Int) ≤ v3 ∧ v3 < (24 : Int) := k3 h1
    refine z_iald rfl s3.1 s3.2 dX12_settles_72 ?_
    refine z_iconst dX12_settles_73 (by unfold zIn; decide) ?_
    have s4 : -2147483648 ≤ σ 158 v3 + 1 ∧ σ 158 v3 + 1 < (2147483648 : Int) := k4 h1
    refine z_iaddN dX12_settles_74 s4 ?_
    refine z_iload_n dX12_settles_75 rfl rfl ?_
    refine z_icmp_ne dX12_settles_76 (tgt := 111) (by decide) (fun h2 => ?_) (fun h2 => ?_)
    · skip
      exact J111 h1 (Or.inl h2)
    · skip
      refine z_aload_n dX12_settles_79 rfl rfl ?_
      refine z_getfR (k := 74) flRX12_193 rfl rfl dX12_settles_80 ?_
      refine z_iload_n dX12_settles_83 rfl rfl ?_
      refine z_iald rfl s3.1 s3.2 dX12_settles_84 ?_
      refine z_iconst dX12_settles_85 (by unfold zIn; decide) ?_
      refine z_icmp_eq dX12_settles_86 (tgt := 111) (by decide) (fun h3 => ?_) (fun h3 => ?_)
      · skip
        exact J111 h1 (Or.inr (Or.inl ⟨h2, h3⟩))
      · skip
        refine z_aload_n dX12_settles_89 rfl rfl ?_
        refine z_getfR (k := 16) flRX12_23 rfl rfl dX12_settles_90 ?_
        refine z_iconst dX12_settles_93 (by unfold zIn; decide) ?_
        refine z_iload_n dX12_settles_94 rfl rfl ?_
        have s5 : -2147483648 ≤ 2 * v3 ∧ 2 * v3 < (2147483648 : Int) := k5 h1 h2 h3
        refine z_imulN dX12_settles_95 s5 ?_
        refine z_iload dX12_settles_96 rfl ?_
        have s6 : -2147483648 ≤ (2 * v3) + v4 ∧ (2 * v3) + v4 < (2147483648 : Int) := k6 h1 h2 h3
        refine z_iaddN dX12_settles_98 s6 ?_
        have s7 : (0 : Int) ≤ (2 * v3) + v4 ∧ (2 * v3) + v4 < (48 : Int) := k7 h1 h2 h3
        refine z_iald rfl s7.1 s7.2 dX12_settles_99 ?_
        refine z_iconst dX12_settles_100 (by unfold zIn; decide) ?_
        refine z_icmp_ne dX12_settles_101 (tgt := 111) (by decide) (fun h4 => ?_) (fun h4 => ?_)
        · skip
          exact J111 h1 (Or.inr (Or.inr ⟨h2, h3, h4⟩))
        · skip
          refine z_iconst dX12_settles_104 (by unfold zIn; decide) ?_
          refine z_iload_n dX12_settles_105 rfl rfl ?_
          refine z_imulN dX12_settles_106 s5 ?_
          refine z_iload dX12_settles_107 rfl ?_
          refine z_iaddN dX12_settles_109 s6 ?_
          exact z_ireti rfl dX12_settles_110 (k8 h1 h2 h3 h4)
set_option maxRecDepth 20000 in
set_option maxHeartbeats 1000000 in
theorem TX12_row {G : zG} {σ : zS} {Q : Int → zS → Prop} {a1 a2 a3 : Int}  (k1 : ((0 ≤ a1 ∧ a1 < 10)) → (0 ≤ a3) → (0 ≤ a2) → (a2 ≤ 3) → (a3 ≤ 80) → (0 : Int) ≤ a1 ∧ a1 < (10 : Int)) (k2 : ((0 ≤ a1 ∧ a1 < 10)) → (0 ≤ a3) → (0 ≤ a2) → (a2 ≤ 3) → (a3 ≤ 80) → zR G MX12_row 77 [zr 98, zi a1, zi a2, zi a3, zi 0] [] (zup (zup (zup σ 111 a1 1) 112 a1 a2) 113 a1 a3) Q) (k3 : ((0 ≤ a1 ∧ a1 < 10)) → (0 ≤ a3) → (0 ≤ a2) → (a2 ≤ 3) → (80 < a3) → -2147483648 ≤ -(-7) ∧ -(-7) < (2147483648 : Int)) (k4 : ((0 ≤ a1 ∧ a1 < 10)) → (0 ≤ a3) → (0 ≤ a2) → (a2 ≤ 3) → (80 < a3) → (0 : Int) ≤ -(-7) ∧ -(-7) < (8 : Int)) (k5 : ((0 ≤ a1 ∧ a1 < 10)) → (0 ≤ a3) → (0 ≤ a2) → (a2 ≤ 3) → (80 < a3) → Q (-7) (zup σ 157 (-(-7)) (zW ((σ 157 (-(-7))) + 1)))) (k6 : ((0 ≤ a1 ∧ a1 < 10)) → (a3 < 0) → -2147483648 ≤ -(-4) ∧ -(-4) < (2147483648 : Int)) (k7 : ((0 ≤ a1 ∧ a1 < 10)) → (a3 < 0) → (0 : Int) ≤ -(-4) ∧ -(-4) < (8 : Int)) (k8 : ((0 ≤ a1 ∧ a1 < 10)) → (a3 < 0) → Q (-4) (zup σ 157 (-(-4)) (zW ((σ 157 (-(-4))) + 1)))) (k9 : (¬ ((0 ≤ a1 ∧ a1 < 10))) → -2147483648 ≤ -(-1) ∧ -(-1) < (2147483648 : Int)) (k10 : (¬ ((0 ≤ a1 ∧ a1 < 10))) → (0 : Int) ≤ -(-1) ∧ -(-1) < (8 : Int)) (k11 : (¬ ((0 ≤ a1 ∧ a1 < 10))) → Q (-1) (zup σ 157 (-(-1)) (zW ((σ 157 (-(-1))) + 1)))) (k12 : ((0 ≤ a1 ∧ a1 < 10)) → (0 ≤ a3) → (a2 < 0 ∨ (0 ≤ a2 ∧ 3 < a2)) → -2147483648 ≤ -(-6) ∧ -(-6) < (2147483648 : Int)) (k13 : ((0 ≤ a1 ∧ a1 < 10)) → (0 ≤ a3) → (a2 < 0 ∨ (0 ≤ a2 ∧ 3 < a2)) → (0 : Int) ≤ -(-6) ∧ -(-6) < (8 : Int)) (k14 : ((0 ≤ a1 ∧ a1 < 10)) → (0 ≤ a3) → (a2 < 0 ∨ (0 ≤ a2 ∧ 3 < a2)) → Q (-6) (zup σ 157 (-(-6)) (zW ((σ 157 (-(-6))) + 1)))) : zO G MX12_row [zr 98, zi a1, zi a2, zi a3] σ Q := by
  refine zO_of (ls0 := [zr 98, zi a1, zi a2, zi a3, zu]) (by decide) (Nat.le_of_ble_eq_true rfl) rfl ?_
  have J33 : ((0 ≤ a1 ∧ a1 < 10)) → (0 ≤ a3) → (a2 < 0 ∨ (0 ≤ a2 ∧ 3 < a2)) → zR G MX12_row 33 [zr 98, zi a1, zi a2, zi a3, zu] [] σ Q := by
    intro h1 h2 h6
    refine z_aload_n dX12_row_33 rfl rfl ?_
    refine z_bipush (x := (-6)) dX12_row_34 (by decide +kernel) (by unfold zIn; decide) ?_
    have s12 : -2147483648 ≤ -(-6) ∧ -(-6) < (2147483648 : Int) := k12 h1 h2 h6
    have s13 : (0 : Int) ≤ -(-6) ∧ -(-6) < (8 : Int) := k13 h1 h2 h6
    refine z_callv (as := [zi (-6)]) (st := []) mkX12_no lkRX12_267 rfl rfl rfl (by decide) (Nat.le_of_ble_eq_true rfl) rfl dX12_row_36 ?_
    refine SX12_no s12 s13 ?_
    show zR G MX12_row 39 [zr 98, zi a1, zi a2, zi a3, zu] [zi (-6)] (zup σ 157 (-(-6)) (zW ((σ 157 (-(-6))) + 1))) Q
    exact z_ireti rfl dX12_row_39 (k14 h1 h2 h6)
  refine z_iload_n dX12_row_0 rfl rfl ?_
  refine z_calls (as := [zi a1]) (st := []) mkX12_isShelf lkRX12_293 rfl (by decide) (Nat.le_of_ble_eq_true rfl) rfl dX12_row_1 ?_
  refine SX12_isShelf ?_
  show zR G MX12_row 4 [zr 98, zi a1, zi a2, zi a3, zu] [zi (if (0 ≤ a1 ∧ a1 < 10) then (1 : Int) else 0)] σ Q
  refine z_if_ne dX12_row_4 (tgt := 13) (by decide) (fun z => ?_) (fun z => ?_)
  · have h1 : (0 ≤ a1 ∧ a1 < 10) := zb1 z
    refine z_iload_n dX12_row_13 rfl rfl ?_
    refine z_if_ge dX12_row_14 (tgt := 24) (by decide) (fun h2 => ?_) (fun h2 => ?_)
    · skip
      refine z_iload_n dX12_row_24 rfl rfl ?_
      refine z_if_lt dX12_row_25 (tgt := 33) (by decide) (fun h3 => ?_) (fun h3 => ?_)
      · skip
        exact J33 h1 h2 (Or.inl h3)
      · skip
        refine z_iload_n dX12_row_28 rfl rfl ?_
        refine z_iconst dX12_row_29 (by unfold zIn; decide) ?_
        refine z_icmp_le dX12_row_30 (tgt := 40) (by decide) (fun h4 => ?_) (fun h4 => ?_)
        · skip
          refine z_iload_n dX12_row_40 rfl rfl ?_
          refine z_bipush (x := 80) dX12_row_41 (by decide +kernel) (by unfold zIn; decide) ?_
          refine z_icmp_le dX12_row_43 (tgt := 53) (by decide) (fun h5 => ?_) (fun h5 => ?_)
          · skip
            refine z_aload_n dX12_row_53 rfl rfl ?_
            refine z_getfR (k := 25) flRX12_51 rfl rfl dX12_row_54 ?_
            refine z_iload_n dX12_row_57 rfl rfl ?_
            refine z_iconst dX12_row_58 (by unfold zIn; decide) ?_
            have s1 : (0 : Int) ≤ a1 ∧ a1 < (10 : Int) := k1 h1 h2 h3 h4 h5
            refine z_iast rfl s1.1 s1.2 dX12_row_59 ?_
            refine z_aload_n dX12_row_60 rfl rfl ?_
            refine z_getfR (k := 26) flRX12_54 rfl rfl dX12_row_61 ?_
            refine z_iload_n dX12_row_64 rfl rfl ?_
            refine z_iload_n dX12_row_65 rfl rfl ?_
            refine z_iast rfl s1.1 s1.2 dX12_row_66 ?_
            refine z_aload_n dX12_row_67 rfl rfl ?_
            refine z_getfR (k := 27) flRX12_57 rfl rfl dX12_row_68 ?_
            refine z_iload_n dX12_row_71 rfl rfl ?_
            refine z_iload_n dX12_row_72 rfl rfl ?_
            refine z_iast rfl s1.1 s1.2 dX12_row_73 ?_
            refine z_iconst dX12_row_74 (by unfold zIn; decide) ?_
            refine z_istore (ls' := [zr 98, zi a1, zi a2, zi a3, zi 0]) dX12_row_75 (by decide) rfl ?_
            exact k2 h1 h2 h3 h4 h5
          · skip
            refine z_aload_n dX12_row_46 rfl rfl ?_
            refine z_bipush (x := (-7)) dX12_row_47 (by decide +kernel) (by unfold zIn; decide) ?_
            have s3 : -2147483648 ≤ -(-7) ∧ -(-7) < (2147483648 : Int) := k3 h1 h2 h3 h4 h5
            have s4 : (0 : Int) ≤ -(-7) ∧ -(-7) < (8 : Int) := k4 h1 h2 h3 h4 h5
            refine z_callv (as := [zi (-7)]) (st := []) mkX12_no lkRX12_267 rfl rfl rfl (by decide) (Nat.le_of_ble_eq_true rfl) rfl dX12_row_49 ?_
            refine SX12_no s3 s4 ?_
            show zR G MX12_row 52 [zr 98, zi a1, zi a2, zi a3, zu] [zi (-7)] (zup σ 157 (-(-7)) (zW ((σ 157 (-(-7))) + 1))) Q
            exact z_ireti rfl dX12_row_52 (k5 h1 h2 h3 h4 h5)
        · skip
          exact J33 h1 h2 (Or.inr ⟨h3, h4⟩)
    · skip
      refine z_aload_n dX12_row_17 rfl rfl ?_
      refine z_bipush (x := (-4)) dX12_row_18 (by decide +kernel) (by unfold zIn; decide) ?_
      have s6 : -2147483648 ≤ -(-4) ∧ -(-4) < (2147483648 : Int) := k6 h1 h2
      have s7 : (0 : Int) ≤ -(-4) ∧ -(-4) < (8 : Int) := k7 h1 h2
      refine z_callv (as := [zi (-4)]) (st := []) mkX12_no lkRX12_267 rfl rfl rfl (by decide) (Nat.le_of_ble_eq_true rfl) rfl dX12_row_20 ?_
      refine SX12_no s6 s7 ?_
      show zR G MX12_row 23 [zr 98, zi a1, zi a2, zi a3, zu] [zi (-4)] (zup σ 157 (-(-4)) (zW ((σ 157 (-(-4))) + 1))) Q
      exact z_ireti rfl dX12_row_23 (k8 h1 h2)
  · have h1 : ¬ ((0 ≤ a1 ∧ a1 < 10)) := zb0 z
    refine z_aload_n dX12_row_7 rfl rfl ?_
    refine z_iconst dX12_row_8 (by unfold zIn; decide) ?_
    have s9 : -2147483648 ≤ -(-1) ∧ -(-1) < (2147483648 : Int) := k9 h1
    have s10 : (0 : Int) ≤ -(-1) ∧ -(-1) < (8 : Int) := k10 h1
    refine z_callv (as := [zi (-1)]) (st := []) mkX12_no lkRX12_267 rfl rfl rfl (by decide) (Nat.le_of_ble_eq_true rfl) rfl dX12_row_9 ?_
    refine SX12_no s9 s10 ?_
    show zR G MX12_row 12 [zr 98, zi a1, zi a2, zi a3, zu] [zi (-1)] (zup σ 157 (-(-1)) (zW ((σ 157 (-(-1))) + 1))) Q
    exact z_ireti rfl dX12_row_12 (k11 h1)
set_option maxRecDepth 20000 in
set_option maxHeartbeats 1000000 in
theorem TX12_row_77 {G : zG} {σ : zS} {Q : Int → zS → Prop} {v1 v2 v3 v4 : Int}  (k1 : (80 ≤ v4) → Q 1 σ) (k2 : (v4 < 80) → -2147483648 ≤ 80 * v1 ∧ 80 * v1 < (2147483648 : Int)) (k3 : (v4 < 80) → -2147483648 ≤ (80 * v1) + v4 ∧ (80 * v1) + v4 < (2147483648 : Int)) (k4 : (v4 < 80) → (0 : Int) ≤ (80 * v1) + v4 ∧ (80 * v1) + v4 < (800 : Int)) (k5 : (v4 < 80) → -2147483648 ≤ v4 + 1 ∧ v4 + 1 < (2147483648 : Int)) (k6 : (v4 < 80) → zR G MX12_row 77 [zr 98, zi v1, zi v2, zi v3, zi (v4 + 1)] [] (zup σ 115 ((80 * v1) + v4) 0) Q) : zR G MX12_row 77 [zr 98, zi v1, zi v2, zi v3, zi v4] [] σ Q := by
  refine z_iload dX12_row_77 rfl ?_
  refine z_bipush (x := 80) dX12_row_79 (by decide +kernel) (by unfold zIn; decide) ?_
  refine z_icmp_ge dX12_row_81 (tgt := 103) (by decide) (fun h1 => ?_) (fun h1 => ?_)
  · skip
    refine z_iconst dX12_row_103 (by unfold zIn; decide) ?_
    exact z_ireti rfl dX12_row_104 (k1 h1)
  · skip
    refine z_aload_n dX12_row_84 rfl rfl ?_
    refine z_getfR (k := 29) flRX12_63 rfl rfl dX12_row_85 ?_
    refine z_bipush (x := 80) dX12_row_88 (by decide +kernel) (by unfold zIn; decide) ?_
    refine z_iload_n dX12_row_90 rfl rfl ?_
    have s2 : -2147483648 ≤ 80 * v1 ∧ 80 * v1 < (2147483648 : Int) := k2 h1
    refine z_imulN dX12_row_91 s2 ?_
    refine z_iload dX12_row_92 rfl ?_
    have s3 : -2147483648 ≤ (80 * v1) + v4 ∧ (80 * v1) + v4 < (2147483648 : Int) := k3 h1
    refine z_iaddN dX12_row_94 s3 ?_
    refine z_lconst (x := 0) dX12_row_95 (by decide +kernel) (by unfold zLn; decide) ?_
    have s4 : (0 : Int) ≤ (80 * v1) + v4 ∧ (80 * v1) + v4 < (800 : Int) := k4 h1
    refine z_last rfl s4.1 s4.2 dX12_row_96 ?_
    have s5 : -2147483648 ≤ v4 + 1 ∧ v4 + 1 < (2147483648 : Int) := k5 h1
    refine z_iincN (ls' := [zr 98, zi v1, zi v2, zi v3, zi (v4 + 1)]) dX12_row_97 rfl (by decide) s5 rfl ?_
    refine z_goto dX12_row_100 (tgt := 77) (by decide) ?_
    exact k6 h1
set_option maxRecDepth 20000 in
set_option maxHeartbeats 1000000 in
theorem TX12_set {G : zG} {σ : zS} {Q : Int → zS → Prop} {a1 a2 a3 : Int}  (k1 : ((0 ≤ a1 ∧ a1 < 10)) → (0 : Int) ≤ a1 ∧ a1 < (10 : Int)) (k2 : ((0 ≤ a1 ∧ a1 < 10)) → (σ 111 a1 ≠ 2) → (σ 111 a1 ≠ 0) → (0 ≤ a2) → (a2 < σ 113 a1) → -2147483648 ≤ 80 * a1 ∧ 80 * a1 < (2147483648 : Int)) (k3 : ((0 ≤ a1 ∧ a1 < 10)) → (σ 111 a1 ≠ 2) → (σ 111 a1 ≠ 0) → (0 ≤ a2) → (a2 < σ 113 a1) → -2147483648 ≤ (80 * a1) + a2 ∧ (80 * a1) + a2 < (2147483648 : Int)) (k4 : ((0 ≤ a1 ∧ a1 < 10)) → (σ 111 a1 ≠ 2) → (σ 111 a1 ≠ 0) → (0 ≤ a2) → (a2 < σ 113 a1) → (σ 112 a1 ≠ 0) → (σ 112 a1 ≠ 1) → (σ 112 a1 ≠ 2) → (0 : Int) ≤ (80 * a1) + a2 ∧ (80 * a1) + a2 < (800 : Int)) (k5 : ((0 ≤ a1 ∧ a1 < 10)) → (σ 111 a1 ≠ 2) → (σ 111 a1 ≠ 0) → (0 ≤ a2) → (a2 < σ 113 a1) → (σ 112 a1 ≠ 0) → (σ 112 a1 ≠ 1) → (σ 112 a1 ≠ 2) → Q 1 (zup σ 115 ((80 * a1) + a2) a3)) (k6 : ((0 ≤ a1 ∧ a1 < 10)) → (σ 111 a1 ≠ 2) → (σ 111 a1 ≠ 0) → (0 ≤ a2) → (a2 < σ 113 a1) → (σ 112 a1 ≠ 0) → (σ 112 a1 ≠ 1) → (σ 112 a1 = 2) → (0 : Int) ≤ (80 * a1) + a2 ∧ (80 * a1) + a2 < (800 : Int)) (k7 : ((0 ≤ a1 ∧ a1 < 10)) → (σ 111 a1 ≠ 2) → (σ 111 a1 ≠ 0) → (0 ≤ a2) → (a2 < σ 113 a1) → (σ 112 a1 ≠ 0) → (σ 112 a1 ≠ 1) → (σ 112 a1 = 2) → Q 1 (zup σ 115 ((80 * a1) + a2) (zW a3))) (k8 : ((0 ≤ a1 ∧ a1 < 10)) → (σ 111 a1 ≠ 2) → (σ 111 a1 ≠ 0) → (0 ≤ a2) → (a2 < σ 113 a1) → (σ 112 a1 ≠ 0) → (σ 112 a1 = 1) → (0 : Int) ≤ (80 * a1) + a2 ∧ (80 * a1) + a2 < (800 : Int)) (k9 : ((0 ≤ a1 ∧ a1 < 10)) → (σ 111 a1 ≠ 2) → (σ 111 a1 ≠ 0) → (0 ≤ a2) → (a2 < σ 113 a1) → (σ 112 a1 ≠ 0) → (σ 112 a1 = 1) → Q 1 (zup σ 115 ((80 * a1) + a2) (zi2s (zW a3)))) (k10 : ((0 ≤ a1 ∧ a1 < 10)) → (σ 111 a1 ≠ 2) → (σ 111 a1 ≠ 0) → (0 ≤ a2) → (a2 < σ 113 a1) → (σ 112 a1 = 0) → (0 : Int) ≤ (80 * a1) + a2 ∧ (80 * a1) + a2 < (800 : Int)) (k11 : ((0 ≤ a1 ∧ a1 < 10)) → (σ 111 a1 ≠ 2) → (σ 111 a1 ≠ 0) → (0 ≤ a2) → (a2 < σ 113 a1) → (σ 112 a1 = 0) → Q 1 (zup σ 115 ((80 * a1) + a2) (zi2b (zW a3)))) (k12 : ((0 ≤ a1 ∧ a1 < 10)) → (σ 111 a1 ≠ 2) → (σ 111 a1 = 0) → -2147483648 ≤ -(-3) ∧ -(-3) < (2147483648 : Int)) (k13 : ((0 ≤ a1 ∧ a1 < 10)) → (σ 111 a1 ≠ 2) → (σ 111 a1 = 0) → (0 : Int) ≤ -(-3) ∧ -(-3) < (8 : Int)) (k14 : ((0 ≤ a1 ∧ a1 < 10)) → (σ 111 a1 ≠ 2) → (σ 111 a1 = 0) → Q (-3) (zup σ 157 (-(-3)) (zW ((σ 157 (-(-3))) + 1)))) (k15 : ((0 ≤ a1 ∧ a1 < 10)) → (σ 111 a1 = 2) → -2147483648 ≤ -(-2) ∧ -(-2) < (2147483648 : Int)) (k16 : ((0 ≤ a1 ∧ a1 < 10)) → (σ 111 a1 = 2) → (0 : Int) ≤ -(-2) ∧ -(-2) < (8 : Int)) (k17 : ((0 ≤ a1 ∧ a1 < 10)) → (σ 111 a1 = 2) → Q (-2) (zup σ 157 (-(-2)) (zW ((σ 157 (-(-2))) + 1)))) (k18 : (¬ ((0 ≤ a1 ∧ a1 < 10))) → -2147483648 ≤ -(-1) ∧ -(-1) < (2147483648 : Int)) (k19 : (¬ ((0 ≤ a1 ∧ a1 < 10))) → (0 : Int) ≤ -(-1) ∧ -(-1) < (8 : Int)) (k20 : (¬ ((0 ≤ a1 ∧ a1 < 10))) → Q (-1) (zup σ 157 (-(-1)) (zW ((σ 157 (-(-1))) + 1)))) (k21 : ((0 ≤ a1 ∧ a1 < 10)) → (σ 111 a1 ≠ 2) → (σ 111 a1 ≠ 0) → (a2 < 0 ∨ (0 ≤ a2 ∧ σ 113 a1 ≤ a2)) → -2147483648 ≤ -(-5) ∧ -(-5) < (2147483648 : Int)) (k22 : ((0 ≤ a1 ∧ a1 < 10)) → (σ 111 a1 ≠ 2) → (σ 111 a1 ≠ 0) → (a2 < 0 ∨ (0 ≤ a2 ∧ σ 113 a1 ≤ a2)) → (0 : Int) ≤ -(-5) ∧ -(-5) < (8 : Int)) (k23 : ((0 ≤ a1 ∧ a1 < 10)) → (σ 111 a1 ≠ 2) → (σ 111 a1 ≠ 0) → (a2 < 0 ∨ (0 ≤ a2 ∧ σ 113 a1 ≤ a2)) → Q (-5) (zup σ 157 (-(-5)) (zW ((σ 157 (-(-5))) + 1)))) : zO G MX12_set [zr 98, zi a1, zi a2, zl a3] σ Q := by
  refine zO_of (ls0 := [zr 98, zi a1, zi a2, zl a3, zu]) (by decide) (Nat.le_of_ble_eq_true rfl) rfl ?_
  have J60 : ((0 ≤ a1 ∧ a1 < 10)) → (σ 111 a1 ≠ 2) → (σ 111 a1 ≠ 0) → (a2 < 0 ∨ (0 ≤ a2 ∧ σ 113 a1 ≤ a2)) → zR G MX12_set 60 [zr 98, zi a1, zi a2, zl a3, zu] [] σ Q := by
    intro h1 h2 h3 h9
    refine z_aload_n dX12_set_60 rfl rfl ?_
    refine z_bipush (x := (-5)) dX12_set_61 (by decide +kernel) (by unfold zIn; decide) ?_
    have s21 : -2147483648 ≤ -(-5) ∧ -(-5) < (2147483648 : Int) := k21 h1 h2 h3 h9
    have s22 : (0 : Int) ≤ -(-5) ∧ -(-5) < (8 : Int) := k22 h1 h2 h3 h9
    refine z_callv (as := [zi (-5)]) (st := []) mkX12_no lkRX12_267 rfl rfl rfl (by decide) (Nat.le_of_ble_eq_true rfl) rfl dX12_set_63 ?_
    refine SX12_no s21 s22 ?_
    show zR G MX12_set 66 [zr 98, zi a1, zi a2, zl a3, zu] [zi (-5)] (zup σ 157 (-(-5)) (zW ((σ 157 (-(-5))) + 1))) Q
    exact z_ireti rfl dX12_set_66 (k23 h1 h2 h3 h9)
  refine z_iload_n dX12_set_0 rfl rfl ?_
  refine z_calls (as := [zi a1]) (st := []) mkX12_isShelf lkRX12_293 rfl (by decide) (Nat.le_of_ble_eq_true rfl) rfl dX12_set_1 ?_
  refine SX12_isShelf ?_
  show zR G MX12_set 4 [zr 98, zi a1, zi a2, zl a3, zu] [zi (if (0 ≤ a1 ∧ a1 < 10) then (1 : Int) else 0)] σ Q
  refine z_if_ne dX12_set_4 (tgt := 13) (by decide) (fun z => ?_) (fun z => ?_)
  · have h1 : (0 ≤ a1 ∧ a1 < 10) := zb1 z
    refine z_aload_n dX12_set_13 rfl rfl ?_
    refine z_getfR (k := 25) flRX12_51 rfl rfl dX12_set_14 ?_
    refine z_iload_n dX12_set_17 rfl rfl ?_
    have s1 : (0 : Int) ≤ a1 ∧ a1 < (10 : Int) := k1 h1
    refine z_iald rfl s1.1 s1.2 dX12_set_18 ?_
    refine z_iconst dX12_set_19 (by unfold zIn; decide) ?_
    refine z_icmp_ne dX12_set_20 (tgt := 30) (by decide) (fun h2 => ?_) (fun h2 => ?_)
    · skip
      refine z_aload_n dX12_set_30 rfl rfl ?_
      refine z_getfR (k := 25) flRX12_51 rfl rfl dX12_set_31 ?_
      refine z_iload_n dX12_set_34 rfl rfl ?_
      refine z_iald rfl s1.1 s1.2 dX12_set_35 ?_
      refine z_if_ne dX12_set_36 (tgt := 46) (by decide) (fun h3 => ?_) (fun h3 => ?_)
      · skip
        refine z_iload_n dX12_set_46 rfl rfl ?_
        refine z_if_lt dX12_set_47 (tgt := 60) (by decide) (fun h4 => ?_) (fun h4 => ?_)
        · skip
          exact J60 h1 h2 h3 (Or.inl h4)
        · skip
          refine z_iload_n dX12_set_50 rfl rfl ?_
          refine z_aload_n dX12_set_51 rfl rfl ?_
          refine z_getfR (k := 27) flRX12_57 rfl rfl dX12_set_52 ?_
          refine z_iload_n dX12_set_55 rfl rfl ?_
          refine z_iald rfl s1.1 s1.2 dX12_set_56 ?_
          refine z_icmp_lt dX12_set_57 (tgt := 67) (by decide) (fun h5 => ?_) (fun h5 => ?_)
          · skip
            refine z_aload_n dX12_set_67 rfl rfl ?_
            refine z_getfR (k := 29) flRX12_63 rfl rfl dX12_set_68 ?_
            refine z_bipush (x := 80) dX12_set_71 (by decide +kernel) (by unfold zIn; decide) ?_
            refine z_iload_n dX12_set_73 rfl rfl ?_
            have s2 : -2147483648 ≤ 80 * a1 ∧ 80 * a1 < (2147483648 : Int) := k2 h1 h2 h3 h4 h5
            refine z_imulN dX12_set_74 s2 ?_
            refine z_iload_n dX12_set_75 rfl rfl ?_
            have s3 : -2147483648 ≤ (80 * a1) + a2 ∧ (80 * a1) + a2 < (2147483648 : Int) := k3 h1 h2 h3 h4 h5
            refine z_iaddN dX12_set_76 s3 ?_
            refine z_aload_n dX12_set_77 rfl rfl ?_
            refine z_getfR (k := 26) flRX12_54 rfl rfl dX12_set_78 ?_
            refine z_iload_n dX12_set_81 rfl rfl ?_
            refine z_iald rfl s1.1 s1.2 dX12_set_82 ?_
            refine z_if_ne dX12_set_83 (tgt := 93) (by decide) (fun h6 => ?_) (fun h6 => ?_)
            · skip
              refine z_aload_n dX12_set_93 rfl rfl ?_
              refine z_getfR (k := 26) flRX12_54 rfl rfl dX12_set_94 ?_
              refine z_iload_n dX12_set_97 rfl rfl ?_
              refine z_iald rfl s1.1 s1.2 dX12_set_98 ?_
              refine z_iconst dX12_set_99 (by unfold zIn; decide) ?_
              refine z_icmp_ne dX12_set_100 (tgt := 110) (by decide) (fun h7 => ?_) (fun h7 => ?_)
              · skip
                refine z_aload_n dX12_set_110 rfl rfl ?_
                refine z_getfR (k := 26) flRX12_54 rfl rfl dX12_set_111 ?_
                refine z_iload_n dX12_set_114 rfl rfl ?_
                refine z_iald rfl s1.1 s1.2 dX12_set_115 ?_
                refine z_iconst dX12_set_116 (by unfold zIn; decide) ?_
                refine z_icmp_ne dX12_set_117 (tgt := 126) (by decide) (fun h8 => ?_) (fun h8 => ?_)
                · skip
                  refine z_lload_n dX12_set_126 rfl rfl ?_
                  have s4 : (0 : Int) ≤ (80 * a1) + a2 ∧ (80 * a1) + a2 < (800 : Int) := k4 h1 h2 h3 h4 h5 h6 h7 h8
                  refine z_last rfl s4.1 s4.2 dX12_set_127 ?_
                  refine z_iconst dX12_set_128 (by unfold zIn; decide) ?_
                  exact z_ireti rfl dX12_set_129 (k5 h1 h2 h3 h4 h5 h6 h7 h8)
                · skip
                  refine z_lload_n dX12_set_120 rfl rfl ?_
                  refine z_l2i dX12_set_121 ?_
                  refine z_i2l dX12_set_122 ?_
                  refine z_goto dX12_set_123 (tgt := 127) (by decide) ?_
                  have s6 : (0 : Int) ≤ (80 * a1) + a2 ∧ (80 * a1) + a2 < (800 : Int) := k6 h1 h2 h3 h4 h5 h6 h7 h8
                  refine z_last rfl s6.1 s6.2 dX12_set_127 ?_
                  refine z_iconst dX12_set_128 (by unfold zIn; decide) ?_
                  exact z_ireti rfl dX12_set_129 (k7 h1 h2 h3 h4 h5 h6 h7 h8)
              · skip
                refine z_lload_n dX12_set_103 rfl rfl ?_
                refine z_l2i dX12_set_104 ?_
                refine z_i2s dX12_set_105 ?_
                refine z_i2l dX12_set_106 ?_
                refine z_goto dX12_set_107 (tgt := 127) (by decide) ?_
                have s8 : (0 : Int) ≤ (80 * a1) + a2 ∧ (80 * a1) + a2 < (800 : Int) := k8 h1 h2 h3 h4 h5 h6 h7
                refine z_last rfl s8.1 s8.2 dX12_set_127 ?_
                refine z_iconst dX12_set_128 (by unfold zIn; decide) ?_
                exact z_ireti rfl dX12_set_129 (k9 h1 h2 h3 h4 h5 h6 h7)
            · skip
              refine z_lload_n dX12_set_86 rfl rfl ?_
              refine z_l2i dX12_set_87 ?_
              refine z_i2b dX12_set_88 ?_
              refine z_i2l dX12_set_89 ?_
              refine z_goto dX12_set_90 (tgt := 127) (by decide) ?_
              have s10 : (0 : Int) ≤ (80 * a1) + a2 ∧ (80 * a1) + a2 < (800 : Int) := k10 h1 h2 h3 h4 h5 h6
              refine z_last rfl s10.1 s10.2 dX12_set_127 ?_
              refine z_iconst dX12_set_128 (by unfold zIn; decide) ?_
              exact z_ireti rfl dX12_set_129 (k11 h1 h2 h3 h4 h5 h6)
          · skip
            exact J60 h1 h2 h3 (Or.inr ⟨h4, h5⟩)
      · skip
        refine z_aload_n dX12_set_39 rfl rfl ?_
        refine z_bipush (x := (-3)) dX12_set_40 (by decide +kernel) (by unfold zIn; decide) ?_
        have s12 : -2147483648 ≤ -(-3) ∧ -(-3) < (2147483648 : Int) := k12 h1 h2 h3
        have s13 : (0 : Int) ≤ -(-3) ∧ -(-3) < (8 : Int) := k13 h1 h2 h3
        refine z_callv (as := [zi (-3)]) (st := []) mkX12_no lkRX12_267 rfl rfl rfl (by decide) (Nat.le_of_ble_eq_true rfl) rfl dX12_set_42 ?_
        refine SX12_no s12 s13 ?_
        show zR G MX12_set 45 [zr 98, zi a1, zi a2, zl a3, zu] [zi (-3)] (zup σ 157 (-(-3)) (zW ((σ 157 (-(-3))) + 1))) Q
        exact z_ireti rfl dX12_set_45 (k14 h1 h2 h3)
    · skip
      refine z_aload_n dX12_set_23 rfl rfl ?_
      refine z_bipush (x := (-2)) dX12_set_24 (by decide +kernel) (by unfold zIn; decide) ?_
      have s15 : -2147483648 ≤ -(-2) ∧ -(-2) < (2147483648 : Int) := k15 h1 h2
      have s16 : (0 : Int) ≤ -(-2) ∧ -(-2) < (8 : Int) := k16 h1 h2
      refine z_callv (as := [zi (-2)]) (st := []) mkX12_no lkRX12_267 rfl rfl rfl (by decide) (Nat.le_of_ble_eq_true rfl) rfl dX12_set_26 ?_
      refine SX12_no s15 s16 ?_
      show zR G MX12_set 29 [zr 98, zi a1, zi a2, zl a3, zu] [zi (-2)] (zup σ 157 (-(-2)) (zW ((σ 157 (-(-2))) + 1))) Q
      exact z_ireti rfl dX12_set_29 (k17 h1 h2)
  · have h1 : ¬ ((0 ≤ a1 ∧ a1 < 10)) := zb0 z
    refine z_aload_n dX12_set_7 rfl rfl ?_
    refine z_iconst dX12_set_8 (by unfold zIn; decide) ?_
    have s18 : -2147483648 ≤ -(-1) ∧ -(-1) < (2147483648 : Int) := k18 h1
    have s19 : (0 : Int) ≤ -(-1) ∧ -(-1) < (8 : Int) := k19 h1
    refine z_callv (as := [zi (-1)]) (st := []) mkX12_no lkRX12_267 rfl rfl rfl (by decide) (Nat.le_of_ble_eq_true rfl) rfl dX12_set_9 ?_
    refine SX12_no s18 s19 ?_
    show zR G MX12_set 12 [zr 98, zi a1, zi a2, zl a3, zu] [zi (-1)] (zup σ 157 (-(-1)) (zW ((σ 157 (-(-1))) + 1))) Q
    exact z_ireti rfl dX12_set_12 (k20 h1)
set_option maxRecDepth 20000 in
set_option maxHeartbeats 1000000 in
theorem TX12_copy {G : zG} {σ : zS} {Q : Int → zS → Prop} {a1 a2 a3 a4 a5 : Int}  (k1 : ((0 ≤ a1 ∧ a1 < 10)) → ((0 ≤ a2 ∧ a2 < 10)) → (0 : Int) ≤ a1 ∧ a1 < (10 : Int)) (k2 : ((0 ≤ a1 ∧ a1 < 10)) → ((0 ≤ a2 ∧ a2 < 10)) → (σ 111 a1 ≠ 2) → (0 : Int) ≤ a2 ∧ a2 < (10 : Int)) (k3 : ((¬ ((0 ≤ a1 ∧ a1 < 10))) ∨ (((0 ≤ a1 ∧ a1 < 10)) ∧ (¬ ((0 ≤ a2 ∧ a2 < 10))))) → -2147483648 ≤ -(-1) ∧ -(-1) < (2147483648 : Int)) (k4 : ((¬ ((0 ≤ a1 ∧ a1 < 10))) ∨ (((0 ≤ a1 ∧ a1 < 10)) ∧ (¬ ((0 ≤ a2 ∧ a2 < 10))))) → (0 : Int) ≤ -(-1) ∧ -(-1) < (8 : Int)) (k5 : ((¬ ((0 ≤ a1 ∧ a1 < 10))) ∨ (((0 ≤ a1 ∧ a1 < 10)) ∧ (¬ ((0 ≤ a2 ∧ a2 < 10))))) → Q (-1) (zup σ 157 (-(-1)) (zW ((σ 157 (-(-1))) + 1)))) (k6 : ((0 ≤ a1 ∧ a1 < 10)) → ((0 ≤ a2 ∧ a2 < 10)) → (σ 111 a1 = 2 ∨ (σ 111 a1 ≠ 2 ∧ σ 111 a2 = 2) ∨ (σ 111 a1 ≠ 2 ∧ σ 111 a2 ≠ 2 ∧ σ 111 a1 = 1 ∧ σ 111 a2 = 1 ∧ σ 112 a1 ≠ σ 112 a2)) → -2147483648 ≤ -(-2) ∧ -(-2) < (2147483648 : Int)) (k7 : ((0 ≤ a1 ∧ a1 < 10)) → ((0 ≤ a2 ∧ a2 < 10)) → (σ 111 a1 = 2 ∨ (σ 111 a1 ≠ 2 ∧ σ 111 a2 = 2) ∨ (σ 111 a1 ≠ 2 ∧ σ 111 a2 ≠ 2 ∧ σ 111 a1 = 1 ∧ σ 111 a2 = 1 ∧ σ 112 a1 ≠ σ 112 a2)) → (0 : Int) ≤ -(-2) ∧ -(-2) < (8 : Int)) (k8 : ((0 ≤ a1 ∧ a1 < 10)) → ((0 ≤ a2 ∧ a2 < 10)) → (σ 111 a1 = 2 ∨ (σ 111 a1 ≠ 2 ∧ σ 111 a2 = 2) ∨ (σ 111 a1 ≠ 2 ∧ σ 111 a2 ≠ 2 ∧ σ 111 a1 = 1 ∧ σ 111 a2 = 1 ∧ σ 112 a1 ≠ σ 112 a2)) → Q (-2) (zup σ 157 (-(-2)) (zW ((σ 157 (-(-2))) + 1)))) (k9 : ((0 ≤ a1 ∧ a1 < 10)) → ((0 ≤ a2 ∧ a2 < 10)) → (σ 111 a1 ≠ 2) → (σ 111 a2 ≠ 2) → (σ 111 a1 ≠ 1 ∨ (σ 111 a1 = 1 ∧ σ 111 a2 ≠ 1) ∨ (σ 111 a1 = 1 ∧ σ 111 a2 = 1 ∧ σ 112 a1 = σ 112 a2)) → (0 : Int) ≤ a1 ∧ a1 < (10 : Int)) (k10 : ((0 ≤ a1 ∧ a1 < 10)) → ((0 ≤ a2 ∧ a2 < 10)) → (σ 111 a1 ≠ 2) → (σ 111 a2 ≠ 2) → (σ 111 a1 ≠ 1 ∨ (σ 111 a1 = 1 ∧ σ 111 a2 ≠ 1) ∨ (σ 111 a1 = 1 ∧ σ 111 a2 = 1 ∧ σ 112 a1 = σ 112 a2)) → (σ 111 a1 ≠ 0) → (0 : Int) ≤ a2 ∧ a2 < (10 : Int)) (k11 : ((0 ≤ a1 ∧ a1 < 10)) → ((0 ≤ a2 ∧ a2 < 10)) → (σ 111 a1 ≠ 2) → (σ 111 a2 ≠ 2) → (σ 111 a1 ≠ 1 ∨ (σ 111 a1 = 1 ∧ σ 111 a2 ≠ 1) ∨ (σ 111 a1 = 1 ∧ σ 111 a2 = 1 ∧ σ 112 a1 = σ 112 a2)) → (σ 111 a1 ≠ 0) → (σ 111 a2 ≠ 0) → (0 ≤ a5) → (0 ≤ a3) → (0 ≤ a4) → -2147483648 ≤ σ 113 a1 - a5 ∧ σ 113 a1 - a5 < (2147483648 : Int)) (k12 : ((0 ≤ a1 ∧ a1 < 10)) → ((0 ≤ a2 ∧ a2 < 10)) → (σ 111 a1 ≠ 2) → (σ 111 a2 ≠ 2) → (σ 111 a1 ≠ 1 ∨ (σ 111 a1 = 1 ∧ σ 111 a2 ≠ 1) ∨ (σ 111 a1 = 1 ∧ σ 111 a2 = 1 ∧ σ 112 a1 = σ 112 a2)) → (σ 111 a1 ≠ 0) → (σ 111 a2 ≠ 0) → (0 ≤ a5) → (0 ≤ a3) → (0 ≤ a4) → (a3 ≤ σ 113 a1 - a5) → -2147483648 ≤ σ 113 a2 - a5 ∧ σ 113 a2 - a5 < (2147483648 : Int)) (k13 : ((0 ≤ a1 ∧ a1 < 10)) → ((0 ≤ a2 ∧ a2 < 10)) → (σ 111 a1 ≠ 2) → (σ 111 a2 ≠ 2) → (σ 111 a1 ≠ 1 ∨ (σ 111 a1 = 1 ∧ σ 111 a2 ≠ 1) ∨ (σ 111 a1 = 1 ∧ σ 111 a2 = 1 ∧ σ 112 a1 = σ 112 a2)) → (σ 111 a1 ≠ 0) → (σ 111 a2 ≠ 0) → (0 ≤ a5) → (0 ≤ a3) → (0 ≤ a4) → (a3 ≤ σ 113 a1 - a5) → (a4 ≤ σ 113 a2 - a5) → zR G MX12_copy 165 [zr 98, zi a1, zi a2, zi a3, zi a4, zi a5, zi 0] [] σ Q) (k14 : ((0 ≤ a1 ∧ a1 < 10)) → ((0 ≤ a2 ∧ a2 < 10)) → (σ 111 a1 ≠ 2) → (σ 111 a2 ≠ 2) → (σ 111 a1 ≠ 1 ∨ (σ 111 a1 = 1 ∧ σ 111 a2 ≠ 1) ∨ (σ 111 a1 = 1 ∧ σ 111 a2 = 1 ∧ σ 112 a1 = σ 112 a2)) → (σ 111 a1 ≠ 0) → (σ 111 a2 ≠ 0) → (a5 < 0) → -2147483648 ≤ -(-4) ∧ -(-4) < (2147483648 : Int)) (k15 : ((0 ≤ a1 ∧ a1 < 10)) → ((0 ≤ a2 ∧ a2 < 10)) → (σ 111 a1 ≠ 2) → (σ 111 a2 ≠ 2) → (σ 111 a1 ≠ 1 ∨ (σ 111 a1 = 1 ∧ σ 111 a2 ≠ 1) ∨ (σ 111 a1 = 1 ∧ σ 111 a2 = 1 ∧ σ 112 a1 = σ 112 a2)) → (σ 111 a1 ≠ 0) → (σ 111 a2 ≠ 0) → (a5 < 0) → (0 : Int) ≤ -(-4) ∧ -(-4) < (8 : Int)) (k16 : ((0 ≤ a1 ∧ a1 < 10)) → ((0 ≤ a2 ∧ a2 < 10)) → (σ 111 a1 ≠ 2) → (σ 111 a2 ≠ 2) → (σ 111 a1 ≠ 1 ∨ (σ 111 a1 = 1 ∧ σ 111 a2 ≠ 1) ∨ (σ 111 a1 = 1 ∧ σ 111 a2 = 1 ∧ σ 112 a1 = σ 112 a2)) → (σ 111 a1 ≠ 0) → (σ 111 a2 ≠ 0) → (a5 < 0) → Q (-4) (zup σ 157 (-(-4)) (zW ((σ 157 (-(-4))) + 1)))) (k17 : ((0 ≤ a1 ∧ a1 < 10)) → ((0 ≤ a2 ∧ a2 < 10)) → (σ 111 a1 ≠ 2) → (σ 111 a2 ≠ 2) → (σ 111 a1 ≠ 1 ∨ (σ 111 a1 = 1 ∧ σ 111 a2 ≠ 1) ∨ (σ 111 a1 = 1 ∧ σ 111 a2 = 1 ∧ σ 112 a1 = σ 112 a2)) → (σ 111 a1 = 0 ∨ (σ 111 a1 ≠ 0 ∧ σ 111 a2 = 0)) → -2147483648 ≤ -(-3) ∧ -(-3) < (2147483648 : Int)) (k18 : ((0 ≤ a1 ∧ a1 < 10)) → ((0 ≤ a2 ∧ a2 < 10)) → (σ 111 a1 ≠ 2) → (σ 111 a2 ≠ 2) → (σ 111 a1 ≠ 1 ∨ (σ 111 a1 = 1 ∧ σ 111 a2 ≠ 1) ∨ (σ 111 a1 = 1 ∧ σ 111 a2 = 1 ∧ σ 112 a1 = σ 112 a2)) → (σ 111 a1 = 0 ∨ (σ 111 a1 ≠ 0 ∧ σ 111 a2 = 0)) → (0 : Int) ≤ -(-3) ∧ -(-3) < (8 : Int)) (k19 : ((0 ≤ a1 ∧ a1 < 10)) → ((0 ≤ a2 ∧ a2 < 10)) → (σ 111 a1 ≠ 2) → (σ 111 a2 ≠ 2) → (σ 111 a1 ≠ 1 ∨ (σ 111 a1 = 1 ∧ σ 111 a2 ≠ 1) ∨ (σ 111 a1 = 1 ∧ σ 111 a2 = 1 ∧ σ 112 a1 = σ 112 a2)) → (σ 111 a1 = 0 ∨ (σ 111 a1 ≠ 0 ∧ σ 111 a2 = 0)) → Q (-3) (zup σ 157 (-(-3)) (zW ((σ 157 (-(-3))) + 1)))) (k20 : ((0 ≤ a1 ∧ a1 < 10)) → ((0 ≤ a2 ∧ a2 < 10)) → (σ 111 a1 ≠ 2) → (σ 111 a2 ≠ 2) → (σ 111 a1 ≠ 1 ∨ (σ 111 a1 = 1 ∧ σ 111 a2 ≠ 1) ∨ (σ 111 a1 = 1 ∧ σ 111 a2 = 1 ∧ σ 112 a1 = σ 112 a2)) → (σ 111 a1 ≠ 0) → (σ 111 a2 ≠ 0) → (0 ≤ a5) → (a3 < 0 ∨ (0 ≤ a3 ∧ a4 < 0) ∨ (0 ≤ a3 ∧ 0 ≤ a4 ∧ σ 113 a1 - a5 < a3) ∨ (0 ≤ a3 ∧ 0 ≤ a4 ∧ a3 ≤ σ 113 a1 - a5 ∧ σ 113 a2 - a5 < a4)) → -2147483648 ≤ -(-5) ∧ -(-5) < (2147483648 : Int)) (k21 : ((0 ≤ a1 ∧ a1 < 10)) → ((0 ≤ a2 ∧ a2 < 10)) → (σ 111 a1 ≠ 2) → (σ 111 a2 ≠ 2) → (σ 111 a1 ≠ 1 ∨ (σ 111 a1 = 1 ∧ σ 111 a2 ≠ 1) ∨ (σ 111 a1 = 1 ∧ σ 111 a2 = 1 ∧ σ 112 a1 = σ 112 a2)) → (σ 111 a1 ≠ 0) → (σ 111 a2 ≠ 0) → (0 ≤ a5) → (a3 < 0 ∨ (0 ≤ a3 ∧ a4 < 0) ∨ (0 ≤ a3 ∧ 0 ≤ a4 ∧ σ 113 a1 - a5 < a3) ∨ (0 ≤ a3 ∧ 0 ≤ a4 ∧ a3 ≤ σ 113 a1 - a5 ∧ σ 113 a2 - a5 < a4)) → (0 : Int) ≤ -(-5) ∧ -(-5) < (8 : Int)) (k22 : ((0 ≤ a1 ∧ a1 < 10)) → ((0 ≤ a2 ∧ a2 < 10)) → (σ 111 a1 ≠ 2) → (σ 111 a2 ≠ 2) → (σ 111 a1 ≠ 1 ∨ (σ 111 a1 = 1 ∧ σ 111 a2 ≠ 1) ∨ (σ 111 a1 = 1 ∧ σ 111 a2 = 1 ∧ σ 112 a1 = σ 112 a2)) → (σ 111 a1 ≠ 0) → (σ 111 a2 ≠ 0) → (0 ≤ a5) → (a3 < 0 ∨ (0 ≤ a3 ∧ a4 < 0) ∨ (0 ≤ a3 ∧ 0 ≤ a4 ∧ σ 113 a1 - a5 < a3) ∨ (0 ≤ a3 ∧ 0 ≤ a4 ∧ a3 ≤ σ 113 a1 - a5 ∧ σ 113 a2 - a5 < a4)) → Q (-5) (zup σ 157 (-(-5)) (zW ((σ 157 (-(-5))) + 1)))) : zO G MX12_copy [zr 98, zi a1, zi a2, zi a3, zi a4, zi a5] σ Q := by
  refine zO_of (ls0 := [zr 98, zi a1, zi a2, zi a3, zi a4, zi a5, zu]) (by decide) (Nat.le_of_ble_eq_true rfl) rfl ?_
  have J155 : ((0 ≤ a1 ∧ a1 < 10)) → ((0 ≤ a2 ∧ a2 < 10)) → (σ 111 a1 ≠ 2) → (σ 111 a2 ≠ 2) → (σ 111 a1 ≠ 1 ∨ (σ 111 a1 = 1 ∧ σ 111 a2 ≠ 1) ∨ (σ 111 a1 = 1 ∧ σ 111 a2 = 1 ∧ σ 112 a1 = σ 112 a2)) → (σ 111 a1 ≠ 0) → (σ 111 a2 ≠ 0) → (0 ≤ a5) → (a3 < 0 ∨ (0 ≤ a3 ∧ a4 < 0) ∨ (0 ≤ a3 ∧ 0 ≤ a4 ∧ σ 113 a1 - a5 < a3) ∨ (0 ≤ a3 ∧ 0 ≤ a4 ∧ a3 ≤ σ 113 a1 - a5 ∧ σ 113 a2 - a5 < a4)) → zR G MX12_copy 155 [zr 98, zi a1, zi a2, zi a3, zi a4, zi a5, zu] [] σ Q := by
    intro h1 h2 h3 h4 h10 h11 h12 h13 h19
    refine z_aload_n dX12_copy_155 rfl rfl ?_
    refine z_bipush (x := (-5)) dX12_copy_156 (by decide +kernel) (by unfold zIn; decide) ?_
    have s20 : -2147483648 ≤ -(-5) ∧ -(-5) < (2147483648 : Int) := k20 h1 h2 h3 h4 h10 h11 h12 h13 h19
    have s21 : (0 : Int) ≤ -(-5) ∧ -(-5) < (8 : Int) := k21 h1 h2 h3 h4 h10 h11 h12 h13 h19
    refine z_callv (as := [zi (-5)]) (st := []) mkX12_no lkRX12_267 rfl rfl rfl (by decide) (Nat.le_of_ble_eq_true rfl) rfl dX12_copy_158 ?_
    refine SX12_no s20 s21 ?_
    show zR G MX12_copy 161 [zr 98, zi a1, zi a2, zi a3, zi a4, zi a5, zu] [zi (-5)] (zup σ 157 (-(-5)) (zW ((σ 157 (-(-5))) + 1))) Q
    exact z_ireti rfl dX12_copy_161 (k22 h1 h2 h3 h4 h10 h11 h12 h13 h19)
  have J100 : ((0 ≤ a1 ∧ a1 < 10)) → ((0 ≤ a2 ∧ a2 < 10)) → (σ 111 a1 ≠ 2) → (σ 111 a2 ≠ 2) → (σ 111 a1 ≠ 1 ∨ (σ 111 a1 = 1 ∧ σ 111 a2 ≠ 1) ∨ (σ 111 a1 = 1 ∧ σ 111 a2 = 1 ∧ σ 112 a1 = σ 112 a2)) → (σ 111 a1 = 0 ∨ (σ 111 a1 ≠ 0 ∧ σ 111 a2 = 0)) → zR G MX12_copy 100 [zr 98, zi a1, zi a2, zi a3, zi a4, zi a5, zu] [] σ Q := by
    intro h1 h2 h3 h4 h10 h18
    refine z_aload_n dX12_copy_100 rfl rfl ?_
    refine z_bipush (x := (-3)) dX12_copy_101 (by decide +kernel) (by unfold zIn; decide) ?_
    have s17 : -2147483648 ≤ -(-3) ∧ -(-3) < (2147483648 : Int) := k17 h1 h2 h3 h4 h10 h18
    have s18 : (0 : Int) ≤ -(-3) ∧ -(-3) < (8 : Int) := k18 h1 h2 h3 h4 h10 h18
    refine z_callv (as := [zi (-3)]) (st := []) mkX12_no lkRX12_267 rfl rfl rfl (by decide) (Nat.le_of_ble_eq_true rfl) rfl dX12_copy_103 ?_
    refine SX12_no s17 s18 ?_
    show zR G MX12_copy 106 [zr 98, zi a1, zi a2, zi a3, zi a4, zi a5, zu] [zi (-3)] (zup σ 157 (-(-3)) (zW ((σ 157 (-(-3))) + 1))) Q
    exact z_ireti rfl dX12_copy_106 (k19 h1 h2 h3 h4 h10 h18)
  have J82 : ((0 ≤ a1 ∧ a1 < 10)) → ((0 ≤ a2 ∧ a2 < 10)) → (σ 111 a1 ≠ 2) → (σ 111 a2 ≠ 2) → (σ 111 a1 ≠ 1 ∨ (σ 111 a1 = 1 ∧ σ 111 a2 ≠ 1) ∨ (σ 111 a1 = 1 ∧ σ 111 a2 = 1 ∧ σ 112 a1 = σ 112 a2)) → zR G MX12_copy 82 [zr 98, zi a1, zi a2, zi a3, zi a4, zi a5, zu] [] σ Q := by
    intro h1 h2 h3 h4 h10
    refine z_aload_n dX12_copy_82 rfl rfl ?_
    refine z_getfR (k := 25) flRX12_51 rfl rfl dX12_copy_83 ?_
    refine z_iload_n dX12_copy_86 rfl rfl ?_
    have s9 : (0 : Int) ≤ a1 ∧ a1 < (10 : Int) := k9 h1 h2 h3 h4 h10
    refine z_iald rfl s9.1 s9.2 dX12_copy_87 ?_
    refine z_if_eq dX12_copy_88 (tgt := 100) (by decide) (fun h11 => ?_) (fun h11 => ?_)
    · skip
      exact J100 h1 h2 h3 h4 h10 (Or.inl h11)
    · skip
      refine z_aload_n dX12_copy_91 rfl rfl ?_
      refine z_getfR (k := 25) flRX12_51 rfl rfl dX12_copy_92 ?_
      refine z_iload_n dX12_copy_95 rfl rfl ?_
      have s10 : (0 : Int) ≤ a2 ∧ a2 < (10 : Int) := k10 h1 h2 h3 h4 h10 h11
      refine z_iald rfl s10.1 s10.2 dX12_copy_96 ?_
      refine z_if_ne dX12_copy_97 (tgt := 107) (by decide) (fun h12 => ?_) (fun h12 => ?_)
      · skip
        refine z_iload dX12_copy_107 rfl ?_
        refine z_if_ge dX12_copy_109 (tgt := 119) (by decide) (fun h13 => ?_) (fun h13 => ?_)
        · skip
          refine z_iload_n dX12_copy_119 rfl rfl ?_
          refine z_if_lt dX12_copy_120 (tgt := 155) (by decide) (fun h14 => ?_) (fun h14 => ?_)
          · skip
            exact J155 h1 h2 h3 h4 h10 h11 h12 h13 (Or.inl h14)
          · skip
            refine z_iload dX12_copy_123 rfl ?_
            refine z_if_lt dX12_copy_125 (tgt := 155) (by decide) (fun h15 => ?_) (fun h15 => ?_)
            · skip
              exact J155 h1 h2 h3 h4 h10 h11 h12 h13 (Or.inr (Or.inl ⟨h14, h15⟩))
            · skip
              refine z_iload_n dX12_copy_128 rfl rfl ?_
              refine z_aload_n dX12_copy_129 rfl rfl ?_
              refine z_getfR (k := 27) flRX12_57 rfl rfl dX12_copy_130 ?_
              refine z_iload_n dX12_copy_133 rfl rfl ?_
              refine z_iald rfl s9.1 s9.2 dX12_copy_134 ?_
              refine z_iload dX12_copy_135 rfl ?_
              have s11 : -2147483648 ≤ σ 113 a1 - a5 ∧ σ 113 a1 - a5 < (2147483648 : Int) := k11 h1 h2 h3 h4 h10 h11 h12 h13 h14 h15
              refine z_isubN dX12_copy_137 s11 ?_
              refine z_icmp_gt dX12_copy_138 (tgt := 155) (by decide) (fun h16 => ?_) (fun h16 => ?_)
              · skip
                exact J155 h1 h2 h3 h4 h10 h11 h12 h13 (Or.inr (Or.inr (Or.inl ⟨h14, h15, h16⟩)))
              · skip
                refine z_iload dX12_copy_141 rfl ?_
                refine z_aload_n dX12_copy_143 rfl rfl ?_
                refine z_getfR (k := 27) flRX12_57 rfl rfl dX12_copy_144 ?_
                refine z_iload_n dX12_copy_147 rfl rfl ?_
                refine z_iald rfl s10.1 s10.2 dX12_copy_148 ?_
                refine z_iload dX12_copy_149 rfl ?_
                have s12 : -2147483648 ≤ σ 113 a2 - a5 ∧ σ 113 a2 - a5 < (2147483648 : Int) := k12 h1 h2 h3 h4 h10 h11 h12 h13 h14 h15 h16
                refine z_isubN dX12_copy_151 s12 ?_
                refine z_icmp_le dX12_copy_152 (tgt := 162) (by decide) (fun h17 => ?_) (fun h17 => ?_)
                · skip
                  refine z_iconst dX12_copy_162 (by unfold zIn; decide) ?_
                  refine z_istore (ls' := [zr 98, zi a1, zi a2, zi a3, zi a4, zi a5, zi 0]) dX12_copy_163 (by decide) rfl ?_
                  exact k13 h1 h2 h3 h4 h10 h11 h12 h13 h14 h15 h16 h17
                · skip
                  exact J155 h1 h2 h3 h4 h10 h11 h12 h13 (Or.inr (Or.inr (Or.inr ⟨h14, h15, h16, h17⟩)))
        · skip
          refine z_aload_n dX12_copy_112 rfl rfl ?_
          refine z_bipush (x := (-4)) dX12_copy_113 (by decide +kernel) (by unfold zIn; decide) ?_
          have s14 : -2147483648 ≤ -(-4) ∧ -(-4) < (2147483648 : Int) := k14 h1 h2 h3 h4 h10 h11 h12 h13
          have s15 : (0 : Int) ≤ -(-4) ∧ -(-4) < (8 : Int) := k15 h1 h2 h3 h4 h10 h11 h12 h13
          refine z_callv (as := [zi (-4)]) (st := []) mkX12_no lkRX12_267 rfl rfl rfl (by decide) (Nat.le_of_ble_eq_true rfl) rfl dX12_copy_115 ?_
          refine SX12_no s14 s15 ?_
          show zR G MX12_copy 118 [zr 98, zi a1, zi a2, zi a3, zi a4, zi a5, zu] [zi (-4)] (zup σ 157 (-(-4)) (zW ((σ 157 (-(-4))) + 1))) Q
          exact z_ireti rfl dX12_copy_118 (k16 h1 h2 h3 h4 h10 h11 h12 h13)
      · skip
        exact J100 h1 h2 h3 h4 h10 (Or.inr ⟨h11, h12⟩)
  have J75 : ((0 ≤ a1 ∧ a1 < 10)) → ((0 ≤ a2 ∧ a2 < 10)) → (σ 111 a1 = 2 ∨ (σ 111 a1 ≠ 2 ∧ σ 111 a2 = 2) ∨ (σ 111 a1 ≠ 2 ∧ σ 111 a2 ≠ 2 ∧ σ 111 a1 = 1 ∧ σ 111 a2 = 1 ∧ σ 112 a1 ≠ σ 112 a2)) → zR G MX12_copy 75 [zr 98, zi a1, zi a2, zi a3, zi a4, zi a5, zu] [] σ Q := by
    intro h1 h2 h9
    refine z_aload_n dX12_copy_75 rfl rfl ?_
    refine z_bipush (x := (-2)) dX12_copy_76 (by decide +kernel) (by unfold zIn; decide) ?_
    have s6 : -2147483648 ≤ -(-2) ∧ -(-2) < (2147483648 : Int) := k6 h1 h2 h9
    have s7 : (0 : Int) ≤ -(-2) ∧ -(-2) < (8 : Int) := k7 h1 h2 h9
    refine z_callv (as := [zi (-2)]) (st := []) mkX12_no lkRX12_267 rfl rfl rfl (by decide) (Nat.le_of_ble_eq_true rfl) rfl dX12_copy_78 ?_
    refine SX12_no s6 s7 ?_
    show zR G MX12_copy 81 [zr 98, zi a1, zi a2, zi a3, zi a4, zi a5, zu] [zi (-2)] (zup σ 157 (-(-2)) (zW ((σ 157 (-(-2))) + 1))) Q
    exact z_ireti rfl dX12_copy_81 (k8 h1 h2 h9)
  have J14 : ((¬ ((0 ≤ a1 ∧ a1 < 10))) ∨ (((0 ≤ a1 ∧ a1 < 10)) ∧ (¬ ((0 ≤ a2 ∧ a2 < 10))))) → zR G MX12_copy 14 [zr 98, zi a1, zi a2, zi a3, zi a4, zi a5, zu] [] σ Q := by
    intro h8
    refine z_aload_n dX12_copy_14 rfl rfl ?_
    refine z_iconst dX12_copy_15 (by unfold zIn; decide) ?_
    have s3 : -2147483648 ≤ -(-1) ∧ -(-1) < (2147483648 : Int) := k3 h8
    have s4 : (0 : Int) ≤ -(-1) ∧ -(-1) < (8 : Int) := k4 h8
    refine z_callv (as := [zi (-1)]) (st := []) mkX12_no lkRX12_267 rfl rfl rfl (by decide) (Nat.le_of_ble_eq_true rfl) rfl dX12_copy_16 ?_
    refine SX12_no s3 s4 ?_
    show zR G MX12_copy 19 [zr 98, zi a1, zi a2, zi a3, zi a4, zi a5, zu] [zi (-1)] (zup σ 157 (-(-1)) (zW ((σ 157 (-(-1))) + 1))) Q
    exact z_ireti rfl dX12_copy_19 (k5 h8)
  refine z_iload_n dX12_copy_0 rfl rfl ?_
  refine z_calls (as := [zi a1]) (st := []) mkX12_isShelf lkRX12_293 rfl (by decide) (Nat.le_of_ble_eq_true rfl) rfl dX12_copy_1 ?_
  refine SX12_isShelf ?_
  show zR G MX12_copy 4 [zr 98, zi a1, zi a2, zi a3, zi a4, zi a5, zu] [zi (if (0 ≤ a1 ∧ a1 < 10) then (1 : Int) else 0)] σ Q
  refine z_if_eq dX12_copy_4 (tgt := 14) (by decide) (fun z => ?_) (fun z => ?_)
  · have h1 : ¬ ((0 ≤ a1 ∧ a1 < 10)) := zb0 z
    exact J14 (Or.inl h1)
  · have h1 : (0 ≤ a1 ∧ a1 < 10) := zb1 z
    refine z_iload_n dX12_copy_7 rfl rfl ?_
    refine z_calls (as := [zi a2]) (st := []) mkX12_isShelf lkRX12_293 rfl (by decide) (Nat.le_of_ble_eq_true rfl) rfl dX12_copy_8 ?_
    refine SX12_isShelf ?_
    show zR G MX12_copy 11 [zr 98, zi a1, zi a2, zi a3, zi a4, zi a5, zu] [zi (if (0 ≤ a2 ∧ a2 < 10) then (1 : Int) else 0)] σ Q
    refine z_if_ne dX12_copy_11 (tgt := 20) (by decide) (fun z => ?_) (fun z => ?_)
    · have h2 : (0 ≤ a2 ∧ a2 < 10) := zb1 z
      refine z_aload_n dX12_copy_20 rfl rfl ?_
      refine z_getfR (k := 25) flRX12_51 rfl rfl dX12_copy_21 ?_
      refine z_iload_n dX12_copy_24 rfl rfl ?_
      have s1 : (0 : Int) ≤ a1 ∧ a1 < (10 : Int) := k1 h1 h2
      refine z_iald rfl s1.1 s1.2 dX12_copy_25 ?_
      refine z_iconst dX12_copy_26 (by unfold zIn; decide) ?_
      refine z_icmp_eq dX12_copy_27 (tgt := 75) (by decide) (fun h3 => ?_) (fun h3 => ?_)
      · skip
        exact J75 h1 h2 (Or.inl h3)
      · skip
        refine z_aload_n dX12_copy_30 rfl rfl ?_
        refine z_getfR (k := 25) flRX12_51 rfl rfl dX12_copy_31 ?_
        refine z_iload_n dX12_copy_34 rfl rfl ?_
        have s2 : (0 : Int) ≤ a2 ∧ a2 < (10 : Int) := k2 h1 h2 h3
        refine z_iald rfl s2.1 s2.2 dX12_copy_35 ?_
        refine z_iconst dX12_copy_36 (by unfold zIn; decide) ?_
        refine z_icmp_eq dX12_copy_37 (tgt := 75) (by decide) (fun h4 => ?_) (fun h4 => ?_)
        · skip
          exact J75 h1 h2 (Or.inr (Or.inl ⟨h3, h4⟩))
        · skip
          refine z_aload_n dX12_copy_40 rfl rfl ?_
          refine z_getfR (k := 25) flRX12_51 rfl rfl dX12_copy_41 ?_
          refine z_iload_n dX12_copy_44 rfl rfl ?_
          refine z_iald rfl s1.1 s1.2 dX12_copy_45 ?_
          refine z_iconst dX12_copy_46 (by unfold zIn; decide) ?_
          refine z_icmp_ne dX12_copy_47 (tgt := 82) (by decide) (fun h5 => ?_) (fun h5 => ?_)
          · skip
            exact J82 h1 h2 h3 h4 (Or.inl h5)
          · skip
            refine z_aload_n dX12_copy_50 rfl rfl ?_
            refine z_getfR (k := 25) flRX12_51 rfl rfl dX12_copy_51 ?_
            refine z_iload_n dX12_copy_54 rfl rfl ?_
            refine z_iald rfl s2.1 s2.2 dX12_copy_55 ?_
            refine z_iconst dX12_copy_56 (by unfold zIn; decide) ?_
            refine z_icmp_ne dX12_copy_57 (tgt := 82) (by decide) (fun h6 => ?_) (fun h6 => ?_)
            · skip
              exact J82 h1 h2 h3 h4 (Or.inr (Or.inl ⟨h5, h6⟩))
            · skip
              refine z_aload_n dX12_copy_60 rfl rfl ?_
              refine z_getfR (k := 26) flRX12_54 rfl rfl dX12_copy_61 ?_
              refine z_iload_n dX12_copy_64 rfl rfl ?_
              refine z_iald rfl s1.1 s1.2 dX12_copy_65 ?_
              refine z_aload_n dX12_copy_66 rfl rfl ?_
              refine z_getfR (k := 26) flRX12_54 rfl rfl dX12_copy_67 ?_
              refine z_iload_n dX12_copy_70 rfl rfl ?_
              refine z_iald rfl s2.1 s2.2 dX12_copy_71 ?_
              refine z_icmp_eq dX12_copy_72 (tgt := 82) (by decide) (fun h7 => ?_) (fun h7 => ?_)
              · skip
                exact J82 h1 h2 h3 h4 (Or.inr (Or.inr ⟨h5, h6, h7⟩))
              · skip
                exact J75 h1 h2 (Or.inr (Or.inr ⟨h3, h4, h5, h6, h7⟩))
    · have h2 : ¬ ((0 ≤ a2 ∧ a2 < 10)) := zb0 z
      exact J14 (Or.inr ⟨h1, h2⟩)
set_option maxRecDepth 20000 in
set_option maxHeartbeats 1000000 in
theorem TX12_copy_165 {G : zG} {σ : zS} {Q : Int → zS → Prop} {v1 v2 v3 v4 v5 v6 : Int}  (k1 : (v5 ≤ v6) → zR G MX12_copy 202 [zr 98, zi v1, zi v2, zi v3, zi v4, zi v5, zi 0] [] σ Q) (k2 : (v6 < v5) → -2147483648 ≤ 80 * v1 ∧ 80 * v1 < (2147483648 : Int)) (k3 : (v6 < v5) → -2147483648 ≤ (80 * v1) + v3 ∧ (80 * v1) + v3 < (2147483648 : Int)) (k4 : (v6 < v5) → -2147483648 ≤ ((80 * v1) + v3) + v6 ∧ ((80 * v1) + v3) + v6 < (2147483648 : Int)) (k5 : (v6 < v5) → (0 : Int) ≤ ((80 * v1) + v3) + v6 ∧ ((80 * v1) + v3) + v6 < (800 : Int)) (k6 : (v6 < v5) → (0 : Int) ≤ v6 ∧ v6 < (80 : Int)) (k7 : (v6 < v5) → -2147483648 ≤ v6 + 1 ∧ v6 + 1 < (2147483648 : Int)) (k8 : (v6 < v5) → zR G MX12_copy 165 [zr 98, zi v1, zi v2, zi v3, zi v4, zi v5, zi (v6 + 1)] [] (zup σ 116 v6 (σ 115 (((80 * v1) + v3) + v6))) Q) : zR G MX12_copy 165 [zr 98, zi v1, zi v2, zi v3, zi v4, zi v5, zi v6] [] σ Q := by
  refine z_iload dX12_copy_165 rfl ?_
  refine z_iload dX12_copy_167 rfl ?_
  refine z_icmp_ge dX12_copy_169 (tgt := 199) (by decide) (fun h1 => ?_) (fun h1 => ?_)
  · skip
    refine z_iconst dX12_copy_199 (by unfold zIn; decide) ?_
    refine z_istore (ls' := [zr 98, zi v1, zi v2, zi v3, zi v4, zi v5, zi 0]) dX12_copy_200 (by decide) rfl ?_
    exact k1 h1
  · skip
    refine z_aload_n dX12_copy_172 rfl rfl ?_
    refine z_getfR (k := 30) flRX12_67 rfl rfl dX12_copy_173 ?_
    refine z_iload dX12_copy_176 rfl ?_
    refine z_aload_n dX12_copy_178 rfl rfl ?_
    refine z_getfR (k := 29) flRX12_63 rfl rfl dX12_copy_179 ?_
    refine z_bipush (x := 80) dX12_copy_182 (by decide +kernel) (by unfold zIn; decide) ?_
    refine z_iload_n dX12_copy_184 rfl rfl ?_
    have s2 : -2147483648 ≤ 80 * v1 ∧ 80 * v1 < (2147483648 : Int) := k2 h1
    refine z_imulN dX12_copy_185 s2 ?_
    refine z_iload_n dX12_copy_186 rfl rfl ?_
    have s3 : -2147483648 ≤ (80 * v1) + v3 ∧ (80 * v1) + v3 < (2147483648 : Int) := k3 h1
    refine z_iaddN dX12_copy_187 s3 ?_
    refine z_iload dX12_copy_188 rfl ?_
    have s4 : -2147483648 ≤ ((80 * v1) + v3) + v6 ∧ ((80 * v1) + v3) + v6 < (2147483648 : Int) := k4 h1
    refine z_iaddN dX12_copy_190 s4 ?_
    have s5 : (0 : Int) ≤ ((80 * v1) + v3) + v6 ∧ ((80 * v1) + v3) + v6 < (800 : Int) := k5 h1
    refine z_lald rfl s5.1 s5.2 dX12_copy_191 ?_
    have s6 : (0 : Int) ≤ v6 ∧ v6 < (80 : Int) := k6 h1
    refine z_last rfl s6.1 s6.2 dX12_copy_192 ?_
    have s7 : -2147483648 ≤ v6 + 1 ∧ v6 + 1 < (2147483648 : Int) := k7 h1
    refine z_iincN (ls' := [zr 98, zi v1, zi v2, zi v3, zi v4, zi v5, zi (v6 + 1)]) dX12_copy_193 rfl (by decide) s7 rfl ?_
    refine z_goto dX12_copy_196 (tgt := 165) (by decide) ?_
    exact k8 h1
set_option maxRecDepth 20000 in
set_option maxHeartbeats 1000000 in
theorem TX12_copy_202 {G : zG} {σ : zS} {Q : Int → zS → Prop} {v1 v2 v3 v4 v5 v6 : Int}  (k1 : (v5 ≤ v6) → Q 1 σ) (k2 : (v6 < v5) → -2147483648 ≤ 80 * v2 ∧ 80 * v2 < (2147483648 : Int)) (k3 : (v6 < v5) → -2147483648 ≤ (80 * v2) + v4 ∧ (80 * v2) + v4 < (2147483648 : Int)) (k4 : (v6 < v5) → -2147483648 ≤ ((80 * v2) + v4) + v6 ∧ ((80 * v2) + v4) + v6 < (2147483648 : Int)) (k5 : (v6 < v5) → (0 : Int) ≤ v6 ∧ v6 < (80 : Int)) (k6 : (v6 < v5) → (0 : Int) ≤ ((80 * v2) + v4) + v6 ∧ ((80 * v2) + v4) + v6 < (800 : Int)) (k7 : (v6 < v5) → -2147483648 ≤ v6 + 1 ∧ v6 + 1 < (2147483648 : Int)) (k8 : (v6 < v5) → zR G MX12_copy 202 [zr 98, zi v1, zi v2, zi v3, zi v4, zi v5, zi (v6 + 1)] [] (zup σ 115 (((80 * v2) + v4) + v6) (σ 116 v6)) Q) : zR G MX12_copy 202 [zr 98, zi v1, zi v2, zi v3, zi v4, zi v5, zi v6] [] σ Q := by
  refine z_iload dX12_copy_202 rfl ?_
  refine z_iload dX12_copy_204 rfl ?_
  refine z_icmp_ge dX12_copy_206 (tgt := 237) (by decide) (fun h1 => ?_) (fun h1 => ?_)
  · skip
    refine z_iconst dX12_copy_237 (by unfold zIn; decide) ?_
    exact z_ireti rfl dX12_copy_238 (k1 h1)
  · skip
    refine z_aload_n dX12_copy_209 rfl rfl ?_
    refine z_getfR (k := 29) flRX12_63 rfl rfl dX12_copy_210 ?_
    refine z_bipush (x := 80) dX12_copy_213 (by decide +kernel) (by unfold zIn; decide) ?_
    refine z_iload_n dX12_copy_215 rfl rfl ?_
    have s2 : -2147483648 ≤ 80 * v2 ∧ 80 * v2 < (2147483648 : Int) := k2 h1
    refine z_imulN dX12_copy_216 s2 ?_
    refine z_iload dX12_copy_217 rfl ?_
    have s3 : -2147483648 ≤ (80 * v2) + v4 ∧ (80 * v2) + v4 < (2147483648 : Int) := k3 h1
    refine z_iaddN dX12_copy_219 s3 ?_
    refine z_iload dX12_copy_220 rfl ?_
    have s4 : -2147483648 ≤ ((80 * v2) + v4) + v6 ∧ ((80 * v2) + v4) + v6 < (2147483648 : Int) := k4 h1
    refine z_iaddN dX12_copy_222 s4 ?_
    refine z_aload_n dX12_copy_223 rfl rfl ?_
    refine z_getfR (k := 30) flRX12_67 rfl rfl dX12_copy_224 ?_
    refine z_iload dX12_copy_227 rfl ?_
    have s5 : (0 : Int) ≤ v6 ∧ v6 < (80 : Int) := k5 h1
    refine z_lald rfl s5.1 s5.2 dX12_copy_229 ?_
    have s6 : (0 : Int) ≤ ((80 * v2) + v4) + v6 ∧ ((80 * v2) + v4) + v6 < (800 : Int) := k6 h1
    refine z_last rfl s6.1 s6.2 dX12_copy_230 ?_
    have s7 : -2147483648 ≤ v6 + 1 ∧ v6 + 1 < (2147483648 : Int) := k7 h1
    refine z_iincN (ls' := [zr 98, zi v1, zi v2, zi v3, zi v4, zi v5, zi (v6 + 1)]) dX12_copy_231 rfl (by decide) s7 rfl ?_
    refine z_goto dX12_copy_234 (tgt := 202) (by decide) ?_
    exact k8 h1
set_option maxRecDepth 20000 in
set_option maxHeartbeats 1000000 in
theorem TX12_element {G : zG} {σ : zS} {Q : Int → zS → Prop} {a1 a2 : Int}  (k1 : ((0 ≤ a1 ∧ a1 < 10)) → (0 : Int) ≤ a1 ∧ a1 < (10 : Int)) (k2 : ((0 ≤ a1 ∧ a1 < 10)) → (σ 111 a1 = 1) → (0 ≤ a2) → (a2 < σ 113 a1) → -2147483648 ≤ 80 * a1 ∧ 80 * a1 < (2147483648 : Int)) (k3 : ((0 ≤ a1 ∧ a1 < 10)) → (σ 111 a1 = 1) → (0 ≤ a2) → (a2 < σ 113 a1) → -2147483648 ≤ (80 * a1) + a2 ∧ (80 * a1) + a2 < (2147483648 : Int)) (k4 : ((0 ≤ a1 ∧ a1 < 10)) → (σ 111 a1 = 1) → (0 ≤ a2) → (a2 < σ 113 a1) → (0 : Int) ≤ (80 * a1) + a2 ∧ (80 * a1) + a2 < (800 : Int)) (k5 : ((0 ≤ a1 ∧ a1 < 10)) → (σ 111 a1 = 1) → (0 ≤ a2) → (a2 < σ 113 a1) → Q (σ 115 ((80 * a1) + a2)) σ) (k6 : ((¬ ((0 ≤ a1 ∧ a1 < 10))) ∨ (((0 ≤ a1 ∧ a1 < 10)) ∧ σ 111 a1 ≠ 1) ∨ (((0 ≤ a1 ∧ a1 < 10)) ∧ σ 111 a1 = 1 ∧ a2 < 0) ∨ (((0 ≤ a1 ∧ a1 < 10)) ∧ σ 111 a1 = 1 ∧ 0 ≤ a2 ∧ σ 113 a1 ≤ a2)) → Q 0 σ) : zO G MX12_element [zr 98, zi a1, zi a2] σ Q := by
  refine zO_of (ls0 := [zr 98, zi a1, zi a2]) (by decide) (Nat.le_of_ble_eq_true rfl) rfl ?_
  have J45 : ((¬ ((0 ≤ a1 ∧ a1 < 10))) ∨ (((0 ≤ a1 ∧ a1 < 10)) ∧ σ 111 a1 ≠ 1) ∨ (((0 ≤ a1 ∧ a1 < 10)) ∧ σ 111 a1 = 1 ∧ a2 < 0) ∨ (((0 ≤ a1 ∧ a1 < 10)) ∧ σ 111 a1 = 1 ∧ 0 ≤ a2 ∧ σ 113 a1 ≤ a2)) → zR G MX12_element 45 [zr 98, zi a1, zi a2] [] σ Q := by
    intro h5
    refine z_lconst (x := 0) dX12_element_45 (by decide +kernel) (by unfold zLn; decide) ?_
    exact z_lret rfl dX12_element_46 (k6 h5)
  refine z_iload_n dX12_element_0 rfl rfl ?_
  refine z_calls (as := [zi a1]) (st := []) mkX12_isShelf lkRX12_293 rfl (by decide) (Nat.le_of_ble_eq_true rfl) rfl dX12_element_1 ?_
  refine SX12_isShelf ?_
  show zR G MX12_element 4 [zr 98, zi a1, zi a2] [zi (if (0 ≤ a1 ∧ a1 < 10) then (1 : Int) else 0)] σ Q
  refine z_if_eq dX12_element_4 (tgt := 45) (by decide) (fun z => ?_) (fun z => ?_)
  · have h1 : ¬ ((0 ≤ a1 ∧ a1 < 10)) := zb0 z
    exact J45 (Or.inl h1)
  · have h1 : (0 ≤ a1 ∧ a1 < 10) := zb1 z
    refine z_aload_n dX12_element_7 rfl rfl ?_
    refine z_getfR (k := 25) flRX12_51 rfl rfl dX12_element_8 ?_
    refine z_iload_n dX12_element_11 rfl rfl ?_
    have s1 : (0 : Int) ≤ a1 ∧ a1 < (10 : Int) := k1 h1
    refine z_iald rfl s1.1 s1.2 dX12_element_12 ?_
    refine z_iconst dX12_element_13 (by unfold zIn; decide) ?_
    refine z_icmp_ne dX12_element_14 (tgt := 45) (by decide) (fun h2 => ?_) (fun h2 => ?_)
    · skip
      exact J45 (Or.inr (Or.inl ⟨h1, h2⟩))
    · skip
      refine z_iload_n dX12_element_17 rfl rfl ?_
      refine z_if_lt dX12_element_18 (tgt := 45) (by decide) (fun h3 => ?_) (fun h3 => ?_)
      · skip
        exact J45 (Or.inr (Or.inr (Or.inl ⟨h1, h2, h3⟩)))
      · skip
        refine z_iload_n dX12_element_21 rfl rfl ?_
        refine z_aload_n dX12_element_22 rfl rfl ?_
        refine z_getfR (k := 27) flRX12_57 rfl rfl dX12_element_23 ?_
        refine z_iload_n dX12_element_26 rfl rfl ?_
        refine z_iald rfl s1.1 s1.2 dX12_element_27 ?_
        refine z_icmp_ge dX12_element_28 (tgt := 45) (by decide) (fun h4 => ?_) (fun h4 => ?_)
        · skip
          exact J45 (Or.inr (Or.inr (Or.inr ⟨h1, h2, h3, h4⟩)))
        · skip
          refine z_aload_n dX12_element_31 rfl rfl ?_
          refine z_getfR (k := 29) flRX12_63 rfl rfl dX12_element_32 ?_
          refine z_bipush (x := 80) dX12_element_35 (by decide +kernel) (by unfold zIn; decide) ?_
          refine z_iload_n dX12_element_37 rfl rfl ?_
          have s2 : -2147483648 ≤ 80 * a1 ∧ 80 * a1 < (2147483648 : Int) := k2 h1 h2 h3 h4
          refine z_imulN dX12_element_38 s2 ?_
          refine z_iload_n dX12_element_39 rfl rfl ?_
          have s3 : -2147483648 ≤ (80 * a1) + a2 ∧ (80 * a1) + a2 < (2147483648 : Int) := k3 h1 h2 h3 h4
          refine z_iaddN dX12_element_40 s3 ?_
          have s4 : (0 : Int) ≤ (80 * a1) + a2 ∧ (80 * a1) + a2 < (800 : Int) := k4 h1 h2 h3 h4
          refine z_lald rfl s4.1 s4.2 dX12_element_41 ?_
          refine z_goto dX12_element_42 (tgt := 46) (by decide) ?_
          exact z_lret rfl dX12_element_46 (k5 h1 h2 h3 h4)
set_option maxRecDepth 20000 in
set_option maxHeartbeats 1000000 in
theorem TX12_show {G : zG} {σ : zS} {Q : Int → zS → Prop} {a1 a2 : Int}  (k1 : ((¬ ((0 ≤ a1 ∧ a1 < 10))) ∨ (((0 ≤ a1 ∧ a1 < 10)) ∧ a2 ≠ (-1) ∧ (¬ ((0 ≤ a2 ∧ a2 < σ 98 1))))) → -2147483648 ≤ -(-1) ∧ -(-1) < (2147483648 : Int)) (k2 : ((¬ ((0 ≤ a1 ∧ a1 < 10))) ∨ (((0 ≤ a1 ∧ a1 < 10)) ∧ a2 ≠ (-1) ∧ (¬ ((0 ≤ a2 ∧ a2 < σ 98 1))))) → (0 : Int) ≤ -(-1) ∧ -(-1) < (8 : Int)) (k3 : ((¬ ((0 ≤ a1 ∧ a1 < 10))) ∨ (((0 ≤ a1 ∧ a1 < 10)) ∧ a2 ≠ (-1) ∧ (¬ ((0 ≤ a2 ∧ a2 < σ 98 1))))) → Q (-1) (zup σ 157 (-(-1)) (zW ((σ 157 (-(-1))) + 1)))) (k4 : ((0 ≤ a1 ∧ a1 < 10)) → (a2 = (-1) ∨ (a2 ≠ (-1) ∧ ((0 ≤ a2 ∧ a2 < σ 98 1)))) → (a2 ≠ (-1)) → (0 : Int) ≤ a1 ∧ a1 < (10 : Int)) (k5 : ((0 ≤ a1 ∧ a1 < 10)) → (a2 = (-1) ∨ (a2 ≠ (-1) ∧ ((0 ≤ a2 ∧ a2 < σ 98 1)))) → (a2 ≠ (-1)) → (a2 ≠ (-1)) → Q 1 (zup (zup σ 111 a1 2) 114 a1 a2)) (k6 : ((0 ≤ a1 ∧ a1 < 10)) → (a2 = (-1) ∨ (a2 ≠ (-1) ∧ ((0 ≤ a2 ∧ a2 < σ 98 1)))) → (a2 ≠ (-1)) → (a2 = (-1)) → Q 0 (zup (zup σ 111 a1 2) 114 a1 a2)) (k7 : ((0 ≤ a1 ∧ a1 < 10)) → (a2 = (-1) ∨ (a2 ≠ (-1) ∧ ((0 ≤ a2 ∧ a2 < σ 98 1)))) → (a2 = (-1)) → (0 : Int) ≤ a1 ∧ a1 < (10 : Int)) (k8 : ((0 ≤ a1 ∧ a1 < 10)) → (a2 = (-1) ∨ (a2 ≠ (-1) ∧ ((0 ≤ a2 ∧ a2 < σ 98 1)))) → (a2 = (-1)) → (a2 ≠ (-1)) → Q 1 (zup (zup σ 111 a1 0) 114 a1 a2)) (k9 : ((0 ≤ a1 ∧ a1 < 10)) → (a2 = (-1) ∨ (a2 ≠ (-1) ∧ ((0 ≤ a2 ∧ a2 < σ 98 1)))) → (a2 = (-1)) → (a2 = (-1)) → Q 0 (zup (zup σ 111 a1 0) 114 a1 a2)) : zO G MX12_show [zr 98, zi a1, zi a2] σ Q := by
  refine zO_of (ls0 := [zr 98, zi a1, zi a2]) (by decide) (Nat.le_of_ble_eq_true rfl) rfl ?_
  have J26 : ((0 ≤ a1 ∧ a1 < 10)) → (a2 = (-1) ∨ (a2 ≠ (-1) ∧ ((0 ≤ a2 ∧ a2 < σ 98 1)))) → zR G MX12_show 26 [zr 98, zi a1, zi a2] [] σ Q := by
    intro h1 h5
    refine z_aload_n dX12_show_26 rfl rfl ?_
    refine z_getfR (k := 25) flRX12_51 rfl rfl dX12_show_27 ?_
    refine z_iload_n dX12_show_30 rfl rfl ?_
    refine z_iload_n dX12_show_31 rfl rfl ?_
    refine z_iconst dX12_show_32 (by unfold zIn; decide) ?_
    refine z_icmp_ne dX12_show_33 (tgt := 40) (by decide) (fun h6 => ?_) (fun h6 => ?_)
    · skip
      refine z_iconst dX12_show_40 (by unfold zIn; decide) ?_
      have s4 : (0 : Int) ≤ a1 ∧ a1 < (10 : Int) := k4 h1 h5 h6
      refine z_iast rfl s4.1 s4.2 dX12_show_41 ?_
      refine z_aload_n dX12_show_42 rfl rfl ?_
      refine z_getfR (k := 28) flRX12_60 rfl rfl dX12_show_43 ?_
      refine z_iload_n dX12_show_46 rfl rfl ?_
      refine z_iload_n dX12_show_47 rfl rfl ?_
      refine z_iast rfl s4.1 s4.2 dX12_show_48 ?_
      refine z_iload_n dX12_show_49 rfl rfl ?_
      refine z_iconst dX12_show_50 (by unfold zIn; decide) ?_
      refine z_icmp_ne dX12_show_51 (tgt := 58) (by decide) (fun h7 => ?_) (fun h7 => ?_)
      · skip
        refine z_iconst dX12_show_58 (by unfold zIn; decide) ?_
        exact z_ireti rfl dX12_show_59 (k5 h1 h5 h6 h7)
      · skip
        refine z_iconst dX12_show_54 (by unfold zIn; decide) ?_
        refine z_goto dX12_show_55 (tgt := 59) (by decide) ?_
        exact z_ireti rfl dX12_show_59 (k6 h1 h5 h6 h7)
    · skip
      refine z_iconst dX12_show_36 (by unfold zIn; decide) ?_
      refine z_goto dX12_show_37 (tgt := 41) (by decide) ?_
      have s7 : (0 : Int) ≤ a1 ∧ a1 < (10 : Int) := k7 h1 h5 h6
      refine z_iast rfl s7.1 s7.2 dX12_show_41 ?_
      refine z_aload_n dX12_show_42 rfl rfl ?_
      refine z_getfR (k := 28) flRX12_60 rfl rfl dX12_show_43 ?_
      refine z_iload_n dX12_show_46 rfl rfl ?_
      refine z_iload_n dX12_show_47 rfl rfl ?_
      refine z_iast rfl s7.1 s7.2 dX12_show_48 ?_
      refine z_iload_n dX12_show_49 rfl rfl ?_
      refine z_iconst dX12_show_50 (by unfold zIn; decide) ?_
      refine z_icmp_ne dX12_show_51 (tgt := 58) (by decide) (fun h8 => ?_) (fun h8 => ?_)
      · skip
        refine z_iconst dX12_show_58 (by unfold zIn; decide) ?_
        exact z_ireti rfl dX12_show_59 (k8 h1 h5 h6 h8)
      · skip
        refine z_iconst dX12_show_54 (by unfold zIn; decide) ?_
        refine z_goto dX12_show_55 (tgt := 59) (by decide) ?_
        exact z_ireti rfl dX12_show_59 (k9 h1 h5 h6 h8)
  have J20 : ((¬ ((0 ≤ a1 ∧ a1 < 10))) ∨ (((0 ≤ a1 ∧ a1 < 10)) ∧ a2 ≠ (-1) ∧ (¬ ((0 ≤ a2 ∧ a2 < σ 98 1))))) → zR G MX12_show 20 [zr 98, zi a1, zi a2] [] σ Q := by
    intro h4
    refine z_aload_n dX12_show_20 rfl rfl ?_
    refine z_iconst dX12_show_21 (by unfold zIn; decide) ?_
    have s1 : -2147483648 ≤ -(-1) ∧ -(-1) < (2147483648 : Int) := k1 h4
    have s2 : (0 : Int) ≤ -(-1) ∧ -(-1) < (8 : Int) := k2 h4
    refine z_callv (as := [zi (-1)]) (st := []) mkX12_no lkRX12_267 rfl rfl rfl (by decide) (Nat.le_of_ble_eq_true rfl) rfl dX12_show_22 ?_
    refine SX12_no s1 s2 ?_
    show zR G MX12_show 25 [zr 98, zi a1, zi a2] [zi (-1)] (zup σ 157 (-(-1)) (zW ((σ 157 (-(-1))) + 1))) Q
    exact z_ireti rfl dX12_show_25 (k3 h4)
  refine z_iload_n dX12_show_0 rfl rfl ?_
  refine z_calls (as := [zi a1]) (st := []) mkX12_isShelf lkRX12_293 rfl (by decide) (Nat.le_of_ble_eq_true rfl) rfl dX12_show_1 ?_
  refine SX12_isShelf ?_
  show zR G MX12_show 4 [zr 98, zi a1, zi a2] [zi (if (0 ≤ a1 ∧ a1 < 10) then (1 : Int) else 0)] σ Q
  refine z_if_eq dX12_show_4 (tgt := 20) (by decide) (fun z => ?_) (fun z => ?_)
  · have h1 : ¬ ((0 ≤ a1 ∧ a1 < 10)) := zb0 z
    exact J20 (Or.inl h1)
  · have h1 : (0 ≤ a1 ∧ a1 < 10) := zb1 z
    refine z_iload_n dX12_show_7 rfl rfl ?_
    refine z_iconst dX12_show_8 (by unfold zIn; decide) ?_
    refine z_icmp_eq dX12_show_9 (tgt := 26) (by decide) (fun h2 => ?_) (fun h2 => ?_)
    · skip
      exact J26 h1 (Or.inl h2)
    · skip
      refine z_aload_n dX12_show_12 rfl rfl ?_
      refine z_iload_n dX12_show_13 rfl rfl ?_
      refine z_callv (as := [zi a2]) (st := []) mkX12_isOne lkRX12_271 rfl rfl rfl (by decide) (Nat.le_of_ble_eq_true rfl) rfl dX12_show_14 ?_
      refine SX12_isOne ?_
      show zR G MX12_show 17 [zr 98, zi a1, zi a2] [zi (if (0 ≤ a2 ∧ a2 < σ 98 1) then (1 : Int) else 0)] σ Q
      refine z_if_ne dX12_show_17 (tgt := 26) (by decide) (fun z => ?_) (fun z => ?_)
      · have h3 : (0 ≤ a2 ∧ a2 < σ 98 1) := zb1 z
        exact J26 h1 (Or.inr ⟨h2, h3⟩)
      · have h3 : ¬ ((0 ≤ a2 ∧ a2 < σ 98 1)) := zb0 z
        exact J20 (Or.inr ⟨h1, h2, h3⟩)
