set_option maxRecDepth 20000 in
set_option maxHeartbeats 1000000 in
theorem TX4_dueIn {G : zG} {σ : zS} {Q : Int → zS → Prop} {a1 a2 : Int}  (k1 : zO G MX4_endOf [zr 68, zi a1] σ (fun rr σ' => zR G MX4_dueIn 6 [zr 68, zi a1, zi a2] [zi rr, zi a2] σ' Q)) : zO G MX4_dueIn [zr 68, zi a1, zi a2] σ Q := by
  refine zO_of (ls0 := [zr 68, zi a1, zi a2]) (by decide) (Nat.le_of_ble_eq_true rfl) rfl ?_
  refine z_iload_n dX4_dueIn_0 rfl rfl ?_
  refine z_aload_n dX4_dueIn_1 rfl rfl ?_
  refine z_iload_n dX4_dueIn_2 rfl rfl ?_
  refine z_callv (as := [zi a1]) (st := [zi a2]) mkX4_endOf lkRX4_80 rfl rfl rfl (by decide) (Nat.le_of_ble_eq_true rfl) rfl dX4_dueIn_3 (k1)
set_option maxRecDepth 20000 in
set_option maxHeartbeats 1000000 in
theorem TX4_dueIn_6 {G : zG} {σ : zS} {Q : Int → zS → Prop} {v1 v2 r t1 : Int}  (k1 : (r < t1) → (0 : Int) ≤ v1 ∧ v1 < (8 : Int)) (k2 : (r < t1) → Q (σ 69 v1) σ) (k3 : (t1 ≤ r) → zO G MX4_reservedIn [zr 68, zi v1, zi v2] σ (fun rr σ' => zR G MX4_dueIn 15 [zr 68, zi v1, zi v2] [zi rr] σ' Q)) : zR G MX4_dueIn 6 [zr 68, zi v1, zi v2] [zi r, zi t1] σ Q := by
  refine z_icmp_gt dX4_dueIn_6 (tgt := 18) (by decide) (fun h1 => ?_) (fun h1 => ?_)
  · skip
    refine z_aload_n dX4_dueIn_18 rfl rfl ?_
    refine z_getfR (k := 1) flRX4_11 rfl rfl dX4_dueIn_19 ?_
    refine z_iload_n dX4_dueIn_22 rfl rfl ?_
    have s1 : (0 : Int) ≤ v1 ∧ v1 < (8 : Int) := k1 h1
    refine z_iald rfl s1.1 s1.2 dX4_dueIn_23 ?_
    exact z_ireti rfl dX4_dueIn_24 (k2 h1)
  · skip
    refine z_aload_n dX4_dueIn_9 rfl rfl ?_
    refine z_iload_n dX4_dueIn_10 rfl rfl ?_
    refine z_iload_n dX4_dueIn_11 rfl rfl ?_
    refine z_callv (as := [zi v1, zi v2]) (st := []) mkX4_reservedIn lkRX4_83 rfl rfl rfl (by decide) (Nat.le_of_ble_eq_true rfl) rfl dX4_dueIn_12 (k3 h1)
set_option maxRecDepth 20000 in
set_option maxHeartbeats 1000000 in
theorem TX4_dueIn_15 {G : zG} {σ : zS} {Q : Int → zS → Prop} {v1 v2 r : Int}  (k1 : Q r σ) : zR G MX4_dueIn 15 [zr 68, zi v1, zi v2] [zi r] σ Q := by
  refine z_goto dX4_dueIn_15 (tgt := 24) (by decide) ?_
  exact z_ireti rfl dX4_dueIn_24 (k1)
set_option maxRecDepth 20000 in
set_option maxHeartbeats 1000000 in
theorem TX11_rent {G : zG} {σ : zS} {Q : Int → zS → Prop} {a1 a2 : Int}  (k1 : ((0 ≤ a1 ∧ a1 < σ 68 11)) → ((0 ≤ a2 ∧ a2 ≤ 200)) → zO G MX4_dueIn [zr 68, zi a1, zi a2] σ (fun rr σ' => zR G MX11_rent 31 [zr 0, zi a1, zi a2] [zi rr] σ' Q)) (k2 : ((¬ ((0 ≤ a1 ∧ a1 < σ 68 11))) ∨ (((0 ≤ a1 ∧ a1 < σ 68 11)) ∧ (¬ ((0 ≤ a2 ∧ a2 ≤ 200))))) → Q (-1) σ) : zO G MX11_rent [zr 0, zi a1, zi a2] σ Q := by
  refine zO_of (ls0 := [zr 0, zi a1, zi a2]) (by decide) (Nat.le_of_ble_eq_true rfl) rfl ?_
  have J34 : ((¬ ((0 ≤ a1 ∧ a1 < σ 68 11))) ∨ (((0 ≤ a1 ∧ a1 < σ 68 11)) ∧ (¬ ((0 ≤ a2 ∧ a2 ≤ 200))))) → zR G MX11_rent 34 [zr 0, zi a1, zi a2] [] σ Q := by
    intro h3
    refine z_iconst dX11_rent_34 (by unfold zIn; decide) ?_
    exact z_ireti rfl dX11_rent_35 (k2 h3)
  refine z_aload_n dX11_rent_0 rfl rfl ?_
  refine z_getfR (k := 7) flRX11_70 rfl rfl dX11_rent_1 ?_
  refine z_iload_n dX11_rent_4 rfl rfl ?_
  refine z_callv (as := [zi a1]) (st := []) mkX4_has lkRX11_364 rfl rfl rfl (by decide) (Nat.le_of_ble_eq_true rfl) rfl dX11_rent_5 ?_
  refine SX4_has ?_
  show zR G MX11_rent 8 [zr 0, zi a1, zi a2] [zi (if (0 ≤ a1 ∧ a1 < σ 68 11) then (1 : Int) else 0)] σ Q
  refine z_if_eq dX11_rent_8 (tgt := 34) (by decide) (fun z => ?_) (fun z => ?_)
  · have h1 : ¬ ((0 ≤ a1 ∧ a1 < σ 68 11)) := zb0 z
    exact J34 (Or.inl h1)
  · have h1 : (0 ≤ a1 ∧ a1 < σ 68 11) := zb1 z
    refine z_iload_n dX11_rent_11 rfl rfl ?_
    refine z_iconst dX11_rent_12 (by unfold zIn; decide) ?_
    refine z_sipush (x := 200) dX11_rent_13 (by decide +kernel) (by unfold zIn; decide) ?_
    refine z_calls (as := [zi a2, zi 0, zi 200]) (st := []) mkX11_within lkRX11_111 rfl (by decide) (Nat.le_of_ble_eq_true rfl) rfl dX11_rent_16 ?_
    refine SX11_within ?_
    show zR G MX11_rent 19 [zr 0, zi a1, zi a2] [zi (if (0 ≤ a2 ∧ a2 ≤ 200) then (1 : Int) else 0)] σ Q
    refine z_if_eq dX11_rent_19 (tgt := 34) (by decide) (fun z => ?_) (fun z => ?_)
    · have h2 : ¬ ((0 ≤ a2 ∧ a2 ≤ 200)) := zb0 z
      exact J34 (Or.inr ⟨h1, h2⟩)
    · have h2 : (0 ≤ a2 ∧ a2 ≤ 200) := zb1 z
      refine z_aload_n dX11_rent_22 rfl rfl ?_
      refine z_getfR (k := 7) flRX11_70 rfl rfl dX11_rent_23 ?_
      refine z_iload_n dX11_rent_26 rfl rfl ?_
      refine z_iload_n dX11_rent_27 rfl rfl ?_
      refine z_callv (as := [zi a1, zi a2]) (st := []) mkX4_dueIn lkRX11_368 rfl rfl rfl (by decide) (Nat.le_of_ble_eq_true rfl) rfl dX11_rent_28 (k1 h1 h2)
set_option maxRecDepth 20000 in
set_option maxHeartbeats 1000000 in
theorem TX11_rent_31 {G : zG} {σ : zS} {Q : Int → zS → Prop} {v1 v2 r : Int}  (k1 : Q r σ) : zR G MX11_rent 31 [zr 0, zi v1, zi v2] [zi r] σ Q := by
  refine z_goto dX11_rent_31 (tgt := 35) (by decide) ?_
  exact z_ireti rfl dX11_rent_35 (k1)
set_option maxRecDepth 20000 in
set_option maxHeartbeats 1000000 in
theorem TX11_table {G : zG} {σ : zS} {Q : Int → zS → Prop} {a1 : Int}  (k1 : zO G MX11_rowTrouble [zr 0, zi a1] σ (fun rr σ' => zR G MX11_table 5 [zr 0, zi a1, zu, zu, zu] [zi rr] σ' Q)) : zO G MX11_table [zr 0, zi a1] σ Q := by
  refine zO_of (ls0 := [zr 0, zi a1, zu, zu, zu]) (by decide) (Nat.le_of_ble_eq_true rfl) rfl ?_
  refine z_aload_n dX11_table_0 rfl rfl ?_
  refine z_iload_n dX11_table_1 rfl rfl ?_
  refine z_callv (as := [zi a1]) (st := []) mkX11_rowTrouble lkRX11_198 rfl rfl rfl (by decide) (Nat.le_of_ble_eq_true rfl) rfl dX11_table_2 (k1)
set_option maxRecDepth 20000 in
set_option maxHeartbeats 1000000 in
theorem TX11_table_5 {G : zG} {σ : zS} {Q : Int → zS → Prop} {v1 r : Int}  (k1 : (r = 0) → (0 : Int) ≤ v1 ∧ v1 < (10 : Int)) (k2 : (r = 0) → zR G MX11_table 26 [zr 0, zi v1, zi r, zr (2 + 2 * v1.toNat), zi 0] [] σ Q) (k3 : (r ≠ 0) → -2147483648 ≤ -r ∧ -r < (2147483648 : Int)) (k4 : (r ≠ 0) → (0 : Int) ≤ -r ∧ -r < (8 : Int)) (k5 : (r ≠ 0) → Q r (zup σ 97 (-r) (zW ((σ 97 (-r)) + 1)))) : zR G MX11_table 5 [zr 0, zi v1, zu, zu, zu] [zi r] σ Q := by
  refine z_istore_n (ls' := [zr 0, zi v1, zi r, zu, zu]) dX11_table_5 rfl (by decide) rfl ?_
  refine z_iload_n dX11_table_6 rfl rfl ?_
  refine z_if_eq dX11_table_7 (tgt := 16) (by decide) (fun h1 => ?_) (fun h1 => ?_)
  · skip
    refine z_aload_n dX11_table_16 rfl rfl ?_
    refine z_getfR (k := 0) flRX11_11 rfl rfl dX11_table_17 ?_
    refine z_iload_n dX11_table_20 rfl rfl ?_
    have s1 : (0 : Int) ≤ v1 ∧ v1 < (10 : Int) := k1 h1
    refine z_aald (r := 2 + 2 * v1.toNat) rfl s1.1 s1.2 (zsh_v s1.1 s1.2) dX11_table_21 ?_
    refine z_astore_n (ls' := [zr 0, zi v1, zi r, zr (2 + 2 * v1.toNat), zu]) dX11_table_22 rfl (by decide) rfl ?_
    refine z_iconst dX11_table_23 (by unfold zIn; decide) ?_
    refine z_istore (ls' := [zr 0, zi v1, zi r, zr (2 + 2 * v1.toNat), zi 0]) dX11_table_24 (by decide) rfl ?_
    exact k2 h1
  · skip
    refine z_aload_n dX11_table_10 rfl rfl ?_
    refine z_iload_n dX11_table_11 rfl rfl ?_
    have s3 : -2147483648 ≤ -r ∧ -r < (2147483648 : Int) := k3 h1
    have s4 : (0 : Int) ≤ -r ∧ -r < (8 : Int) := k4 h1
    refine z_callv (as := [zi r]) (st := []) mkX11_refuse lkRX11_132 rfl rfl rfl (by decide) (Nat.le_of_ble_eq_true rfl) rfl dX11_table_12 ?_
    refine SX11_refuse s3 s4 ?_
    show zR G MX11_table 15 [zr 0, zi v1, zi r, zu, zu] [zi r] (zup σ 97 (-r) (zW ((σ 97 (-r)) + 1))) Q
    exact z_ireti rfl dX11_table_15 (k5 h1)
set_option maxRecDepth 20000 in
set_option maxHeartbeats 1000000 in
theorem TX11_table_26 {G : zG} {σ : zS} {Q : Int → zS → Prop} {v1 v2 v4 : Int} {q3 q3e : Nat} (hq3 : zsh q3 = (4, 9, [some q3e, none, none, none])) (hq3e : zsh q3e = (2, 80, [])) (k1 : (σ q3 2 ≤ v4) → zO G MX9_copyLetters [zr q3, zr 78, zi 0] σ (fun rr σ' => zR G MX11_table 80 [zr 0, zi v1, zi v2, zr q3, zi v4] [zi rr, zr 68] σ' Q)) (k2 : (v4 < σ q3 2) → (0 : Int) ≤ v4 ∧ v4 < (80 : Int)) (k3 : (v4 < σ q3 2) → ((0 ≤ (zW (σ q3e v4)) ∧ (zW (σ q3e v4)) ≤ 10000)) → -2147483648 ≤ v4 + 1 ∧ v4 + 1 < (2147483648 : Int)) (k4 : (v4 < σ q3 2) → ((0 ≤ (zW (σ q3e v4)) ∧ (zW (σ q3e v4)) ≤ 10000)) → zR G MX11_table 26 [zr 0, zi v1, zi v2, zr q3, zi (v4 + 1)] [] σ Q) (k5 : (v4 < σ q3 2) → (¬ ((0 ≤ (zW (σ q3e v4)) ∧ (zW (σ q3e v4)) ≤ 10000))) → -2147483648 ≤ -(-6) ∧ -(-6) < (2147483648 : Int)) (k6 : (v4 < σ q3 2) → (¬ ((0 ≤ (zW (σ q3e v4)) ∧ (zW (σ q3e v4)) ≤ 10000))) → (0 : Int) ≤ -(-6) ∧ -(-6) < (8 : Int)) (k7 : (v4 < σ q3 2) → (¬ ((0 ≤ (zW (σ q3e v4)) ∧ (zW (σ q3e v4)) ≤ 10000))) → Q (-6) (zup σ 97 (-(-6)) (zW ((σ 97 (-(-6))) + 1)))) : zR G MX11_table 26 [zr 0, zi v1, zi v2, zr q3, zi v4] [] σ Q := by
  refine z_iload dX11_table_26 rfl ?_
  refine z_aload_n dX11_table_28 rfl rfl ?_
  refine z_getfI (k := 2) flRX11_235 hq3 rfl dX11_table_29 ?_
  refine z_icmp_ge dX11_table_32 (tgt := 64) (by decide) (fun h1 => ?_) (fun h1 => ?_)
  · skip
    refine z_aload_n dX11_table_64 rfl rfl ?_
    refine z_getfR (k := 7) flRX11_70 rfl rfl dX11_table_65 ?_
    refine z_aload_n dX11_table_68 rfl rfl ?_
    refine z_aload_n dX11_table_69 rfl rfl ?_
    refine z_getfR (k := 7) flRX11_70 rfl rfl dX11_table_70 ?_
    refine z_getfR (k := 10) flRX11_374 rfl rfl dX11_table_73 ?_
    refine z_iconst dX11_table_76 (by unfold zIn; decide) ?_
    refine z_callv (as := [zr 78, zi 0]) (st := [zr 68]) mkX9_copyLetters lkRX11_377 rfl hq3 rfl (by decide) (Nat.le_of_ble_eq_true rfl) rfl dX11_table_77 (k1 h1)
  · skip
    refine z_aload_n dX11_table_35 rfl rfl ?_
    refine z_iload dX11_table_36 rfl ?_
    have s2 : (0 : Int) ≤ v4 ∧ v4 < (80 : Int) := k2 h1
    refine z_callv (as := [zi v4]) (st := []) mkX9_letter lkRX11_371 rfl hq3 rfl (by decide) (Nat.le_of_ble_eq_true rfl) rfl dX11_table_38 ?_
    refine SX9_letter hq3 hq3e s2 ?_
    show zR G MX11_table 41 [zr 0, zi v1, zi v2, zr q3, zi v4] [zi (zW (σ q3e v4))] σ Q
    refine z_iconst dX11_table_41 (by unfold zIn; decide) ?_
    refine z_sipush (x := 10000) dX11_table_42 (by decide +kernel) (by unfold zIn; decide) ?_
    refine z_calls (as := [zi (zW (σ q3e v4)), zi 0, zi 10000]) (st := []) mkX11_within lkRX11_111 rfl (by decide) (Nat.le_of_ble_eq_true rfl) rfl dX11_table_45 ?_
    refine SX11_within ?_
    show zR G MX11_table 48 [zr 0, zi v1, zi v2, zr q3, zi v4] [zi (if (0 ≤ (zW (σ q3e v4)) ∧ (zW (σ q3e v4)) ≤ 10000) then (1 : Int) else 0)] σ Q
    refine z_if_ne dX11_table_48 (tgt := 58) (by decide) (fun z => ?_) (fun z => ?_)
    · have h2 : (0 ≤ (zW (σ q3e v4)) ∧ (zW (σ q3e v4)) ≤ 10000) := zb1 z
      have s3 : -2147483648 ≤ v4 + 1 ∧ v4 + 1 < (2147483648 : Int) := k3 h1 h2
      refine z_iincN (ls' := [zr 0, zi v1, zi v2, zr q3, zi (v4 + 1)]) dX11_table_58 rfl (by decide) s3 rfl ?_
      refine z_goto dX11_table_61 (tgt := 26) (by decide) ?_
      exact k4 h1 h2
    · have h2 : ¬ ((0 ≤ (zW (σ q3e v4)) ∧ (zW (σ q3e v4)) ≤ 10000)) := zb0 z
      refine z_aload_n dX11_table_51 rfl rfl ?_
      refine z_bipush (x := (-6)) dX11_table_52 (by decide +kernel) (by unfold zIn; decide) ?_
      have s5 : -2147483648 ≤ -(-6) ∧ -(-6) < (2147483648 : Int) := k5 h1 h2
      have s6 : (0 : Int) ≤ -(-6) ∧ -(-6) < (8 : Int) := k6 h1 h2
      refine z_callv (as := [zi (-6)]) (st := []) mkX11_refuse lkRX11_132 rfl rfl rfl (by decide) (Nat.le_of_ble_eq_true rfl) rfl dX11_table_54 ?_
      refine SX11_refuse s5 s6 ?_
      show zR G MX11_table 57 [zr 0, zi v1, zi v2, zr q3, zi v4] [zi (-6)] (zup σ 97 (-(-6)) (zW ((σ 97 (-(-6))) + 1))) Q
      exact z_ireti rfl dX11_table_57 (k7 h1 h2)
set_option maxRecDepth 20000 in
set_option maxHeartbeats 1000000 in
theorem TX11_table_80 {G : zG} {σ : zS} {Q : Int → zS → Prop} {v1 v2 v4 r : Int} {q3 q3e : Nat} (hq3 : zsh q3 = (4, 9, [some q3e, none, none, none])) (hq3e : zsh q3e = (2, 80, [])) (k1 : Q ((zup σ 68 13 r) q3 2) (zup σ 68 13 r)) : zR G MX11_table 80 [zr 0, zi v1, zi v2, zr q3, zi v4] [zi r, zr 68] σ Q := by
  refine z_putI (k := 13) fpRX11_381 rfl rfl dX11_table_80 ?_
  refine z_aload_n dX11_table_83 rfl rfl ?_
  refine z_getfI (k := 2) flRX11_235 hq3 rfl dX11_table_84 ?_
  exact z_ireti rfl dX11_table_87 (k1)
set_option maxRecDepth 20000 in
set_option maxHeartbeats 1000000 in
theorem TX4_rate {G : zG} {σ : zS} {Q : Int → zS → Prop} {a1 : Int}  (k1 : (σ 68 13 ≠ 0) → -2147483648 ≤ σ 68 13 - 1 ∧ σ 68 13 - 1 < (2147483648 : Int)) (k2 : (σ 68 13 ≠ 0) → (0 : Int) ≤ max 0 (min a1 (σ 68 13 - 1)) ∧ max 0 (min a1 (σ 68 13 - 1)) < (80 : Int)) (k3 : (σ 68 13 ≠ 0) → Q (σ 78 (max 0 (min a1 (σ 68 13 - 1)))) σ) (k4 : (σ 68 13 = 0) → Q 0 σ) : zO G MX4_rate [zr 68, zi a1] σ Q := by
  refine zO_of (ls0 := [zr 68, zi a1]) (by decide) (Nat.le_of_ble_eq_true rfl) rfl ?_
  refine z_aload_n dX4_rate_0 rfl rfl ?_
  refine z_getfI (k := 13) flRX4_49 rfl rfl dX4_rate_1 ?_
  refine z_if_ne dX4_rate_4 (tgt := 9) (by decide) (fun h1 => ?_) (fun h1 => ?_)
  · skip
    refine z_aload_n dX4_rate_9 rfl rfl ?_
    refine z_getfR (k := 10) flRX4_39 rfl rfl dX4_rate_10 ?_
    refine z_iconst dX4_rate_13 (by unfold zIn; decide) ?_
    refine z_iload_n dX4_rate_14 rfl rfl ?_
    refine z_aload_n dX4_rate_15 rfl rfl ?_
    refine z_getfI (k := 13) flRX4_49 rfl rfl dX4_rate_16 ?_
    refine z_iconst dX4_rate_19 (by unfold zIn; decide) ?_
    have s1 : -2147483648 ≤ σ 68 13 - 1 ∧ σ 68 13 - 1 < (2147483648 : Int) := k1 h1
    refine z_isubN dX4_rate_20 s1 ?_
    refine z_min lkRX4_86 (by decide) (by decide) (Nat.le_of_ble_eq_true rfl) dX4_rate_21 ?_
    refine z_max lkRX4_70 (by decide) (by decide) (Nat.le_of_ble_eq_true rfl) dX4_rate_24 ?_
    have s2 : (0 : Int) ≤ max 0 (min a1 (σ 68 13 - 1)) ∧ max 0 (min a1 (σ 68 13 - 1)) < (80 : Int) := k2 h1
    refine z_iald rfl s2.1 s2.2 dX4_rate_27 ?_
    exact z_ireti rfl dX4_rate_28 (k3 h1)
  · skip
    refine z_iconst dX4_rate_7 (by unfold zIn; decide) ?_
    exact z_ireti rfl dX4_rate_8 (k4 h1)
set_option maxRecDepth 20000 in
set_option maxHeartbeats 1000000 in
theorem TX4_fineFor {G : zG} {σ : zS} {Q : Int → zS → Prop} {a1 a2 : Int}  (k1 : (0 : Int) ≤ a1 ∧ a1 < (8 : Int)) (k2 : zO G MX4_rate [zr 68, zi (σ 73 a1)] σ (fun rr σ' => zR G MX4_fineFor 17 [zr 68, zi a1, zi a2] [zi rr, zi (σ 69 a1), zi 0] σ' Q)) : zO G MX4_fineFor [zr 68, zi a1, zi a2] σ Q := by
  refine zO_of (ls0 := [zr 68, zi a1, zi a2]) (by decide) (Nat.le_of_ble_eq_true rfl) rfl ?_
  refine z_iconst dX4_fineFor_0 (by unfold zIn; decide) ?_
  refine z_aload_n dX4_fineFor_1 rfl rfl ?_
  refine z_getfR (k := 1) flRX4_11 rfl rfl dX4_fineFor_2 ?_
  refine z_iload_n dX4_fineFor_5 rfl rfl ?_
  have s1 : (0 : Int) ≤ a1 ∧ a1 < (8 : Int) := k1
  refine z_iald rfl s1.1 s1.2 dX4_fineFor_6 ?_
  refine z_aload_n dX4_fineFor_7 rfl rfl ?_
  refine z_aload_n dX4_fineFor_8 rfl rfl ?_
  refine z_getfR (k := 5) flRX4_24 rfl rfl dX4_fineFor_9 ?_
  refine z_iload_n dX4_fineFor_12 rfl rfl ?_
  refine z_iald rfl s1.1 s1.2 dX4_fineFor_13 ?_
  refine z_callv (as := [zi (σ 73 a1)]) (st := [zi (σ 69 a1), zi 0]) mkX4_rate lkRX4_89 rfl rfl rfl (by decide) (Nat.le_of_ble_eq_true rfl) rfl dX4_fineFor_14 (k2)
set_option maxRecDepth 20000 in
set_option maxHeartbeats 1000000 in
theorem TX4_fineFor_17 {G : zG} {σ : zS} {Q : Int → zS → Prop} {v1 v2 r t1 t2 : Int}  (k1 : zO G MX4_rate [zr 68, zi v2] σ (fun rr σ' => zR G MX4_fineFor 22 [zr 68, zi v1, zi v2] [zi rr, zi r, zi t1, zi t2] σ' Q)) : zR G MX4_fineFor 17 [zr 68, zi v1, zi v2] [zi r, zi t1, zi t2] σ Q := by
  refine z_aload_n dX4_fineFor_17 rfl rfl ?_
  refine z_iload_n dX4_fineFor_18 rfl rfl ?_
  refine z_callv (as := [zi v2]) (st := [zi r, zi t1, zi t2]) mkX4_rate lkRX4_89 rfl rfl rfl (by decide) (Nat.le_of_ble_eq_true rfl) rfl dX4_fineFor_19 (k1)
set_option maxRecDepth 20000 in
set_option maxHeartbeats 1000000 in
theorem TX4_fineFor_22 {G : zG} {σ : zS} {Q : Int → zS → Prop} {v1 v2 r t1 t2 t3 : Int}  (k1 : -2147483648 ≤ t1 - r ∧ t1 - r < (2147483648 : Int)) (k2 : -2147483648 ≤ t2 * (t1 - r) ∧ t2 * (t1 - r) < (2147483648 : Int)) (k3 : Q (max t3 (zdiv (t2 * (t1 - r)) 100)) σ) : zR G MX4_fineFor 22 [zr 68, zi v1, zi v2] [zi r, zi t1, zi t2, zi t3] σ Q := by
  have s1 : -2147483648 ≤ t1 - r ∧ t1 - r < (2147483648 : Int) := k1
  refine z_isubN dX4_fineFor_22 s1 ?_
  have s2 : -2147483648 ≤ t2 * (t1 - r) ∧ t2 * (t1 - r) < (2147483648 : Int) := k2
  refine z_imulN dX4_fineFor_23 s2 ?_
  refine z_bipush (x := 100) dX4_fineFor_24 (by decide +kernel) (by unfold zIn; decide) ?_
  refine z_idiv dX4_fineFor_26 (by decide) ?_
  refine z_max lkRX4_70 (by decide) (by decide) (Nat.le_of_ble_eq_true rfl) dX4_fineFor_27 ?_
  exact z_ireti rfl dX4_fineFor_30 (k3)
set_option maxRecDepth 20000 in
set_option maxHeartbeats 1000000 in
theorem TX11_renew {G : zG} {σ : zS} {Q : Int → zS → Prop} {a1 : Int}  (k1 : ((0 ≤ a1 ∧ a1 < σ 68 11)) → zO G MX4_endOf [zr 68, zi a1] σ (fun rr σ' => zR G MX11_renew 25 [zr 0, zi a1, zu, zu] [zi rr] σ' Q)) (k2 : (¬ ((0 ≤ a1 ∧ a1 < σ 68 11))) → -2147483648 ≤ -(-1) ∧ -(-1) < (2147483648 : Int)) (k3 : (¬ ((0 ≤ a1 ∧ a1 < σ 68 11))) → (0 : Int) ≤ -(-1) ∧ -(-1) < (8 : Int)) (k4 : (¬ ((0 ≤ a1 ∧ a1 < σ 68 11))) → Q (-1) (zup σ 97 (-(-1)) (zW ((σ 97 (-(-1))) + 1)))) : zO G MX11_renew [zr 0, zi a1] σ Q := by
  refine zO_of (ls0 := [zr 0, zi a1, zu, zu]) (by decide) (Nat.le_of_ble_eq_true rfl) rfl ?_
  refine z_aload_n dX11_renew_0 rfl rfl ?_
  refine z_getfR (k := 7) flRX11_70 rfl rfl dX11_renew_1 ?_
  refine z_iload_n dX11_renew_4 rfl rfl ?_
  refine z_callv (as := [zi a1]) (st := []) mkX4_has lkRX11_364 rfl rfl rfl (by decide) (Nat.le_of_ble_eq_true rfl) rfl dX11_renew_5 ?_
  refine SX4_has ?_
  show zR G MX11_renew 8 [zr 0, zi a1, zu, zu] [zi (if (0 ≤ a1 ∧ a1 < σ 68 11) then (1 : Int) else 0)] σ Q
  refine z_if_ne dX11_renew_8 (tgt := 17) (by decide) (fun z => ?_) (fun z => ?_)
  · have h1 : (0 ≤ a1 ∧ a1 < σ 68 11) := zb1 z
    refine z_aload_n dX11_renew_17 rfl rfl ?_
    refine z_getfR (k := 7) flRX11_70 rfl rfl dX11_renew_18 ?_
    refine z_iload_n dX11_renew_21 rfl rfl ?_
    refine z_callv (as := [zi a1]) (st := []) mkX4_endOf lkRX11_365 rfl rfl rfl (by decide) (Nat.le_of_ble_eq_true rfl) rfl dX11_renew_22 (k1 h1)
  · have h1 : ¬ ((0 ≤ a1 ∧ a1 < σ 68 11)) := zb0 z
    refine z_aload_n dX11_renew_11 rfl rfl ?_
    refine z_iconst dX11_renew_12 (by unfold zIn; decide) ?_
    have s2 : -2147483648 ≤ -(-1) ∧ -(-1) < (2147483648 : Int) := k2 h1
    have s3 : (0 : Int) ≤ -(-1) ∧ -(-1) < (8 : Int) := k3 h1
    refine z_callv (as := [zi (-1)]) (st := []) mkX11_refuse lkRX11_132 rfl rfl rfl (by decide) (Nat.le_of_ble_eq_true rfl) rfl dX11_renew_13 ?_
    refine SX11_refuse s2 s3 ?_
    show zR G MX11_renew 16 [zr 0, zi a1, zu, zu] [zi (-1)] (zup σ 97 (-(-1)) (zW ((σ 97 (-(-1))) + 1))) Q
    exact z_ireti rfl dX11_renew_16 (k4 h1)
set_option maxRecDepth 20000 in
set_option maxHeartbeats 1000000 in
theorem TX11_renew_25 {G : zG} {σ : zS} {Q : Int → zS → Prop} {v1 r : Int}  (k1 : -2147483648 ≤ r - zdiv (σ 0 13) 365 ∧ r - zdiv (σ 0 13) 365 < (2147483648 : Int)) (k2 : (0 : Int) ≤ v1 ∧ v1 < (8 : Int)) (k3 : (¬ (σ 75 v1 ≠ 0)) → (0 ≤ r - zdiv (σ 0 13) 365) → (¬ (400 ≤ σ 79 4)) → zO G MX4_fineFor [zr 68, zi v1, zi (r - zdiv (σ 0 13) 365)] σ (fun rr σ' => zR G MX11_renew 79 [zr 0, zi v1, zi (r - zdiv (σ 0 13) 365), zu] [zi rr] σ' Q)) (k4 : (¬ (σ 75 v1 ≠ 0)) → (0 ≤ r - zdiv (σ 0 13) 365) → (400 ≤ σ 79 4) → -2147483648 ≤ -(-7) ∧ -(-7) < (2147483648 : Int)) (k5 : (¬ (σ 75 v1 ≠ 0)) → (0 ≤ r - zdiv (σ 0 13) 365) → (400 ≤ σ 79 4) → (0 : Int) ≤ -(-7) ∧ -(-7) < (8 : Int)) (k6 : (¬ (σ 75 v1 ≠ 0)) → (0 ≤ r - zdiv (σ 0 13) 365) → (400 ≤ σ 79 4) → Q (-7) (zup σ 97 (-(-7)) (zW ((σ 97 (-(-7))) + 1)))) (k7 : (σ 75 v1 ≠ 0 ∨ ((¬ (σ 75 v1 ≠ 0)) ∧ r - zdiv (σ 0 13) 365 < 0)) → -2147483648 ≤ -(-6) ∧ -(-6) < (2147483648 : Int)) (k8 : (σ 75 v1 ≠ 0 ∨ ((¬ (σ 75 v1 ≠ 0)) ∧ r - zdiv (σ 0 13) 365 < 0)) → (0 : Int) ≤ -(-6) ∧ -(-6) < (8 : Int)) (k9 : (σ 75 v1 ≠ 0 ∨ ((¬ (σ 75 v1 ≠ 0)) ∧ r - zdiv (σ 0 13) 365 < 0)) → Q (-6) (zup σ 97 (-(-6)) (zW ((σ 97 (-(-6))) + 1)))) : zR G MX11_renew 25 [zr 0, zi v1, zu, zu] [zi r] σ Q := by
  have J46 : (σ 75 v1 ≠ 0 ∨ ((¬ (σ 75 v1 ≠ 0)) ∧ r - zdiv (σ 0 13) 365 < 0)) → zR G MX11_renew 46 [zr 0, zi v1, zi (r - zdiv (σ 0 13) 365), zu] [] σ Q := by
    intro h4
    refine z_aload_n dX11_renew_46 rfl rfl ?_
    refine z_bipush (x := (-6)) dX11_renew_47 (by decide +kernel) (by unfold zIn; decide) ?_
    have s7 : -2147483648 ≤ -(-6) ∧ -(-6) < (2147483648 : Int) := k7 h4
    have s8 : (0 : Int) ≤ -(-6) ∧ -(-6) < (8 : Int) := k8 h4
    refine z_callv (as := [zi (-6)]) (st := []) mkX11_refuse lkRX11_132 rfl rfl rfl (by decide) (Nat.le_of_ble_eq_true rfl) rfl dX11_renew_49 ?_
    refine SX11_refuse s7 s8 ?_
    show zR G MX11_renew 52 [zr 0, zi v1, zi (r - zdiv (σ 0 13) 365), zu] [zi (-6)] (zup σ 97 (-(-6)) (zW ((σ 97 (-(-6))) + 1))) Q
    exact z_ireti rfl dX11_renew_52 (k9 h4)
  refine z_aload_n dX11_renew_25 rfl rfl ?_
  refine z_callv (as := []) (st := [zi r]) mkX11_thisYear lkRX11_384 rfl rfl rfl (by decide) (Nat.le_of_ble_eq_true rfl) rfl dX11_renew_26 ?_
  refine SX11_thisYear ?_
  show zR G MX11_renew 29 [zr 0, zi v1, zu, zu] [zi (zdiv (σ 0 13) 365), zi r] σ Q
  have s1 : -2147483648 ≤ r - zdiv (σ 0 13) 365 ∧ r - zdiv (σ 0 13) 365 < (2147483648 : Int) := k1
  refine z_isubN dX11_renew_29 s1 ?_
  refine z_istore_n (ls' := [zr 0, zi v1, zi (r - zdiv (σ 0 13) 365), zu]) dX11_renew_30 rfl (by decide) rfl ?_
  refine z_aload_n dX11_renew_31 rfl rfl ?_
  refine z_getfR (k := 7) flRX11_70 rfl rfl dX11_renew_32 ?_
  refine z_iload_n dX11_renew_35 rfl rfl ?_
  have s2 : (0 : Int) ≤ v1 ∧ v1 < (8 : Int) := k2
  refine z_callv (as := [zi v1]) (st := []) mkX4_isForLives lkRX11_388 rfl rfl rfl (by decide) (Nat.le_of_ble_eq_true rfl) rfl dX11_renew_36 ?_
  refine SX4_isForLives s2 ?_
  show zR G MX11_renew 39 [zr 0, zi v1, zi (r - zdiv (σ 0 13) 365), zu] [zi (if σ 75 v1 ≠ 0 then (1 : Int) else 0)] σ Q
  refine z_if_ne dX11_renew_39 (tgt := 46) (by decide) (fun z => ?_) (fun z => ?_)
  · have h1 : σ 75 v1 ≠ 0 := zb1 z
    exact J46 (Or.inl h1)
  · have h1 : ¬ (σ 75 v1 ≠ 0) := zb0 z
    refine z_iload_n dX11_renew_42 rfl rfl ?_
    refine z_if_ge dX11_renew_43 (tgt := 53) (by decide) (fun h2 => ?_) (fun h2 => ?_)
    · skip
      refine z_aload_n dX11_renew_53 rfl rfl ?_
      refine z_getfR (k := 8) flRX11_77 rfl rfl dX11_renew_54 ?_
      refine z_callv (as := []) (st := []) mkX0_isFull lkRX11_391 rfl rfl rfl (by decide) (Nat.le_of_ble_eq_true rfl) rfl dX11_renew_57 ?_
      refine SX0_isFull ?_
      show zR G MX11_renew 60 [zr 0, zi v1, zi (r - zdiv (σ 0 13) 365), zu] [zi (if 400 ≤ σ 79 4 then (1 : Int) else 0)] σ Q
      refine z_if_eq dX11_renew_60 (tgt := 70) (by decide) (fun z => ?_) (fun z => ?_)
      · have h3 : ¬ (400 ≤ σ 79 4) := zb0 z
        refine z_aload_n dX11_renew_70 rfl rfl ?_
        refine z_getfR (k := 7) flRX11_70 rfl rfl dX11_renew_71 ?_
        refine z_iload_n dX11_renew_74 rfl rfl ?_
        refine z_iload_n dX11_renew_75 rfl rfl ?_
        refine z_callv (as := [zi v1, zi (r - zdiv (σ 0 13) 365)]) (st := []) mkX4_fineFor lkRX11_395 rfl rfl rfl (by decide) (Nat.le_of_ble_eq_true rfl) rfl dX11_renew_76 (k3 h1 h2 h3)
      · have h3 : 400 ≤ σ 79 4 := zb1 z
        refine z_aload_n dX11_renew_63 rfl rfl ?_
        refine z_bipush (x := (-7)) dX11_renew_64 (by decide +kernel) (by unfold zIn; decide) ?_
        have s4 : -2147483648 ≤ -(-7) ∧ -(-7) < (2147483648 : Int) := k4 h1 h2 h3
        have s5 : (0 : Int) ≤ -(-7) ∧ -(-7) < (8 : Int) := k5 h1 h2 h3
        refine z_callv (as := [zi (-7)]) (st := []) mkX11_refuse lkRX11_132 rfl rfl rfl (by decide) (Nat.le_of_ble_eq_true rfl) rfl dX11_renew_66 ?_
        refine SX11_refuse s4 s5 ?_
        show zR G MX11_renew 69 [zr 0, zi v1, zi (r - zdiv (σ 0 13) 365), zu] [zi (-7)] (zup σ 97 (-(-7)) (zW ((σ 97 (-(-7))) + 1))) Q
        exact z_ireti rfl dX11_renew_69 (k6 h1 h2 h3)
    · skip
      exact J46 (Or.inr ⟨h1, h2⟩)
set_option maxRecDepth 20000 in
set_option maxHeartbeats 1000000 in
theorem TX11_renew_79 {G : zG} {σ : zS} {Q : Int → zS → Prop} {v1 v2 r : Int}  (k1 : -2147483648 ≤ σ 79 3 + r ∧ σ 79 3 + r < (2147483648 : Int)) (k2 : -2147483648 ≤ σ 79 4 + 1 ∧ σ 79 4 + 1 < (2147483648 : Int)) (k3 : -2147483648 ≤ 110 * 1 ∧ 110 * 1 < (2147483648 : Int)) (k4 : -2147483648 ≤ (110 * 1) + (zdiv (σ 0 13) 365) ∧ (110 * 1) + (zdiv (σ 0 13) 365) < (2147483648 : Int)) (k5 : (0 : Int) ≤ (110 * 1) + (zdiv (σ 0 13) 365) ∧ (110 * 1) + (zdiv (σ 0 13) 365) < (440 : Int)) (k6 : -2147483648 ≤ (σ 80 ((110 * 1) + (zdiv (σ 0 13) 365))) + r ∧ (σ 80 ((110 * 1) + (zdiv (σ 0 13) 365))) + r < (2147483648 : Int)) (k7 : (0 : Int) ≤ v1 ∧ v1 < (8 : Int)) (k8 : -2147483648 ≤ (zdiv ((zup (zup (zup σ 79 3 (σ 79 3 + r)) 79 4 (σ 79 4 + 1)) 80 ((110 * 1) + (zdiv (σ 0 13) 365)) ((σ 80 ((110 * 1) + (zdiv (σ 0 13) 365))) + r)) 0 13) 365) + σ 73 v1 ∧ (zdiv ((zup (zup (zup σ 79 3 (σ 79 3 + r)) 79 4 (σ 79 4 + 1)) 80 ((110 * 1) + (zdiv (σ 0 13) 365)) ((σ 80 ((110 * 1) + (zdiv (σ 0 13) 365))) + r)) 0 13) 365) + σ 73 v1 < (2147483648 : Int)) (k9 : Q r (zup (zup (zup (zup σ 79 3 (σ 79 3 + r)) 79 4 (σ 79 4 + 1)) 80 ((110 * 1) + (zdiv (σ 0 13) 365)) ((σ 80 ((110 * 1) + (zdiv (σ 0 13) 365))) + r)) 74 v1 ((zdiv ((zup (zup (zup σ 79 3 (σ 79 3 + r)) 79 4 (σ 79 4 + 1)) 80 ((110 * 1) + (zdiv (σ 0 13) 365)) ((σ 80 ((110 * 1) + (zdiv (σ 0 13) 365))) + r)) 0 13) 365) + σ 73 v1))) : zR G MX11_renew 79 [zr 0, zi v1, zi v2, zu] [zi r] σ Q := by
  refine z_istore_n (ls' := [zr 0, zi v1, zi v2, zi r]) dX11_renew_79 rfl (by decide) rfl ?_
  refine z_aload_n dX11_renew_80 rfl rfl ?_
  refine z_getfR (k := 8) flRX11_77 rfl rfl dX11_renew_81 ?_
  refine z_iconst dX11_renew_84 (by unfold zIn; decide) ?_
  refine z_aload_n dX11_renew_85 rfl rfl ?_
  refine z_callv (as := []) (st := [zi 1, zr 79]) mkX11_thisYear lkRX11_384 rfl rfl rfl (by decide) (Nat.le_of_ble_eq_true rfl) rfl dX11_renew_86 ?_
  refine SX11_thisYear ?_
  show zR G MX11_renew 89 [zr 0, zi v1, zi v2, zi r] [zi (zdiv (σ 0 13) 365), zi 1, zr 79] σ Q
  refine z_iload_n dX11_renew_89 rfl rfl ?_
  have s1 : -2147483648 ≤ σ 79 3 + r ∧ σ 79 3 + r < (2147483648 : Int) := k1
  have s2 : -2147483648 ≤ σ 79 4 + 1 ∧ σ 79 4 + 1 < (2147483648 : Int) := k2
  have s3 : -2147483648 ≤ 110 * 1 ∧ 110 * 1 < (2147483648 : Int) := k3
  have s4 : -2147483648 ≤ (110 * 1) + (zdiv (σ 0 13) 365) ∧ (110 * 1) + (zdiv (σ 0 13) 365) < (2147483648 : Int) := k4
  have s5 : (0 : Int) ≤ (110 * 1) + (zdiv (σ 0 13) 365) ∧ (110 * 1) + (zdiv (σ 0 13) 365) < (440 : Int) := k5
  have s6 : -2147483648 ≤ (σ 80 ((110 * 1) + (zdiv (σ 0 13) 365))) + r ∧ (σ 80 ((110 * 1) + (zdiv (σ 0 13) 365))) + r < (2147483648 : Int) := k6
  refine z_callv (as := [zi 1, zi (zdiv (σ 0 13) 365), zi r]) (st := []) mkX0_enter lkRX11_398 rfl rfl rfl (by decide) (Nat.le_of_ble_eq_true rfl) rfl dX11_renew_90 ?_
  refine SX0_enter s1 s2 s3 s4 s5 s6 ?_
  show zR G MX11_renew 93 [zr 0, zi v1, zi v2, zi r] [] (zup (zup (zup σ 79 3 (σ 79 3 + r)) 79 4 (σ 79 4 + 1)) 80 ((110 * 1) + (zdiv (σ 0 13) 365)) ((σ 80 ((110 * 1) + (zdiv (σ 0 13) 365))) + r)) Q
  refine z_aload_n dX11_renew_93 rfl rfl ?_
  refine z_getfR (k := 7) flRX11_70 rfl rfl dX11_renew_94 ?_
  refine z_getfR (k := 6) flRX11_339 rfl rfl dX11_renew_97 ?_
  refine z_iload_n dX11_renew_100 rfl rfl ?_
  refine z_aload_n dX11_renew_101 rfl rfl ?_
  refine z_callv (as := []) (st := [zi v1, zr 74]) mkX11_thisYear lkRX11_384 rfl rfl rfl (by decide) (Nat.le_of_ble_eq_true rfl) rfl dX11_renew_102 ?_
  refine SX11_thisYear ?_
  show zR G MX11_renew 105 [zr 0, zi v1, zi v2, zi r] [zi (zdiv ((zup (zup (zup σ 79 3 (σ 79 3 + r)) 79 4 (σ 79 4 + 1)) 80 ((110 * 1) + (zdiv (σ 0 13) 365)) ((σ 80 ((110 * 1) + (zdiv (σ 0 13) 365))) + r)) 0 13) 365), zi v1, zr 74] (zup (zup (zup σ 79 3 (σ 79 3 + r)) 79 4 (σ 79 4 + 1)) 80 ((110 * 1) + (zdiv (σ 0 13) 365)) ((σ 80 ((110 * 1) + (zdiv (σ 0 13) 365))) + r)) Q
  refine z_aload_n dX11_renew_105 rfl rfl ?_
  refine z_getfR (k := 7) flRX11_70 rfl rfl dX11_renew_106 ?_
  refine z_getfR (k := 5) flRX11_342 rfl rfl dX11_renew_109 ?_
  refine z_iload_n dX11_renew_112 rfl rfl ?_
  have s7 : (0 : Int) ≤ v1 ∧ v1 < (8 : Int) := k7
  refine z_ialdE (v := σ 73 v1) rfl s7.1 s7.2 ((zup_of (by decide)).trans ((zup_of (by decide)).trans (zup_of (by decide)))) dX11_renew_113 ?_
  have s8 : -2147483648 ≤ (zdiv ((zup (zup (zup σ 79 3 (σ 79 3 + r)) 79 4 (σ 79 4 + 1)) 80 ((110 * 1) + (zdiv (σ 0 13) 365)) ((σ 80 ((110 * 1) + (zdiv (σ 0 13) 365))) + r)) 0 13) 365) + σ 73 v1 ∧ (zdiv ((zup (zup (zup σ 79 3 (σ 79 3 + r)) 79 4 (σ 79 4 + 1)) 80 ((110 * 1) + (zdiv (σ 0 13) 365)) ((σ 80 ((110 * 1) + (zdiv (σ 0 13) 365))) + r)) 0 13) 365) + σ 73 v1 < (2147483648 : Int) := k8
  refine z_iaddN dX11_renew_114 s8 ?_
  refine z_iast rfl s7.1 s7.2 dX11_renew_115 ?_
  refine z_iload_n dX11_renew_116 rfl rfl ?_
  exact z_ireti rfl dX11_renew_117 (k9)
set_option maxRecDepth 20000 in
set_option maxHeartbeats 1000000 in
theorem TX11_rents {G : zG} {σ : zS} {Q : Int → zS → Prop}  (k1 : (σ 79 5 ≠ zdiv (σ 0 13) 365) → (¬ (400 ≤ σ 79 4)) → zR G MX11_rents 42 [zr 0, zi 0, zi 0] [] σ Q) (k2 : (σ 79 5 ≠ zdiv (σ 0 13) 365) → (400 ≤ σ 79 4) → -2147483648 ≤ -(-7) ∧ -(-7) < (2147483648 : Int)) (k3 : (σ 79 5 ≠ zdiv (σ 0 13) 365) → (400 ≤ σ 79 4) → (0 : Int) ≤ -(-7) ∧ -(-7) < (8 : Int)) (k4 : (σ 79 5 ≠ zdiv (σ 0 13) 365) → (400 ≤ σ 79 4) → Q (-7) (zup σ 97 (-(-7)) (zW ((σ 97 (-(-7))) + 1)))) (k5 : (σ 79 5 = zdiv (σ 0 13) 365) → -2147483648 ≤ -(-6) ∧ -(-6) < (2147483648 : Int)) (k6 : (σ 79 5 = zdiv (σ 0 13) 365) → (0 : Int) ≤ -(-6) ∧ -(-6) < (8 : Int)) (k7 : (σ 79 5 = zdiv (σ 0 13) 365) → Q (-6) (zup σ 97 (-(-6)) (zW ((σ 97 (-(-6))) + 1)))) : zO G MX11_rents [zr 0] σ Q := by
  refine zO_of (ls0 := [zr 0, zu, zu]) (by decide) (Nat.le_of_ble_eq_true rfl) rfl ?_
  refine z_aload_n dX11_rents_0 rfl rfl ?_
  refine z_getfR (k := 8) flRX11_77 rfl rfl dX11_rents_1 ?_
  refine z_getfI (k := 5) flRX11_401 rfl rfl dX11_rents_4 ?_
  refine z_aload_n dX11_rents_7 rfl rfl ?_
  refine z_callv (as := []) (st := [zi (σ 79 5)]) mkX11_thisYear lkRX11_384 rfl rfl rfl (by decide) (Nat.le_of_ble_eq_true rfl) rfl dX11_rents_8 ?_
  refine SX11_thisYear ?_
  show zR G MX11_rents 11 [zr 0, zu, zu] [zi (zdiv (σ 0 13) 365), zi (σ 79 5)] σ Q
  refine z_icmp_ne dX11_rents_11 (tgt := 21) (by decide) (fun h1 => ?_) (fun h1 => ?_)
  · skip
    refine z_aload_n dX11_rents_21 rfl rfl ?_
    refine z_getfR (k := 8) flRX11_77 rfl rfl dX11_rents_22 ?_
    refine z_callv (as := []) (st := []) mkX0_isFull lkRX11_391 rfl rfl rfl (by decide) (Nat.le_of_ble_eq_true rfl) rfl dX11_rents_25 ?_
    refine SX0_isFull ?_
    show zR G MX11_rents 28 [zr 0, zu, zu] [zi (if 400 ≤ σ 79 4 then (1 : Int) else 0)] σ Q
    refine z_if_eq dX11_rents_28 (tgt := 38) (by decide) (fun z => ?_) (fun z => ?_)
    · have h2 : ¬ (400 ≤ σ 79 4) := zb0 z
      refine z_iconst dX11_rents_38 (by unfold zIn; decide) ?_
      refine z_istore_n (ls' := [zr 0, zi 0, zu]) dX11_rents_39 rfl (by decide) rfl ?_
      refine z_iconst dX11_rents_40 (by unfold zIn; decide) ?_
      refine z_istore_n (ls' := [zr 0, zi 0, zi 0]) dX11_rents_41 rfl (by decide) rfl ?_
      exact k1 h1 h2
    · have h2 : 400 ≤ σ 79 4 := zb1 z
      refine z_aload_n dX11_rents_31 rfl rfl ?_
      refine z_bipush (x := (-7)) dX11_rents_32 (by decide +kernel) (by unfold zIn; decide) ?_
      have s2 : -2147483648 ≤ -(-7) ∧ -(-7) < (2147483648 : Int) := k2 h1 h2
      have s3 : (0 : Int) ≤ -(-7) ∧ -(-7) < (8 : Int) := k3 h1 h2
      refine z_callv (as := [zi (-7)]) (st := []) mkX11_refuse lkRX11_132 rfl rfl rfl (by decide) (Nat.le_of_ble_eq_true rfl) rfl dX11_rents_34 ?_
      refine SX11_refuse s2 s3 ?_
      show zR G MX11_rents 37 [zr 0, zu, zu] [zi (-7)] (zup σ 97 (-(-7)) (zW ((σ 97 (-(-7))) + 1))) Q
      exact z_ireti rfl dX11_rents_37 (k4 h1 h2)
  · skip
    refine z_aload_n dX11_rents_14 rfl rfl ?_
    refine z_bipush (x := (-6)) dX11_rents_15 (by decide +kernel) (by unfold zIn; decide) ?_
    have s5 : -2147483648 ≤ -(-6) ∧ -(-6) < (2147483648 : Int) := k5 h1
    have s6 : (0 : Int) ≤ -(-6) ∧ -(-6) < (8 : Int) := k6 h1
    refine z_callv (as := [zi (-6)]) (st := []) mkX11_refuse lkRX11_132 rfl rfl rfl (by decide) (Nat.le_of_ble_eq_true rfl) rfl dX11_rents_17 ?_
    refine SX11_refuse s5 s6 ?_
    show zR G MX11_rents 20 [zr 0, zu, zu] [zi (-6)] (zup σ 97 (-(-6)) (zW ((σ 97 (-(-6))) + 1))) Q
    exact z_ireti rfl dX11_rents_20 (k7 h1)
set_option maxRecDepth 20000 in
set_option maxHeartbeats 1000000 in
theorem TX11_rents_42 {G : zG} {σ : zS} {Q : Int → zS → Prop} {v1 v2 : Int}  (k1 : (σ 68 11 ≤ v2) → -2147483648 ≤ σ 79 3 + v1 ∧ σ 79 3 + v1 < (2147483648 : Int)) (k2 : (σ 68 11 ≤ v2) → -2147483648 ≤ σ 79 4 + 1 ∧ σ 79 4 + 1 < (2147483648 : Int)) (k3 : (σ 68 11 ≤ v2) → -2147483648 ≤ 110 * 0 ∧ 110 * 0 < (2147483648 : Int)) (k4 : (σ 68 11 ≤ v2) → -2147483648 ≤ (110 * 0) + (zdiv (σ 0 13) 365) ∧ (110 * 0) + (zdiv (σ 0 13) 365) < (2147483648 : Int)) (k5 : (σ 68 11 ≤ v2) → (0 : Int) ≤ (110 * 0) + (zdiv (σ 0 13) 365) ∧ (110 * 0) + (zdiv (σ 0 13) 365) < (440 : Int)) (k6 : (σ 68 11 ≤ v2) → -2147483648 ≤ (σ 80 ((110 * 0) + (zdiv (σ 0 13) 365))) + v1 ∧ (σ 80 ((110 * 0) + (zdiv (σ 0 13) 365))) + v1 < (2147483648 : Int)) (k7 : (σ 68 11 ≤ v2) → Q v1 (zup (zup (zup (zup σ 79 3 (σ 79 3 + v1)) 79 4 (σ 79 4 + 1)) 80 ((110 * 0) + (zdiv (σ 0 13) 365)) ((σ 80 ((110 * 0) + (zdiv (σ 0 13) 365))) + v1)) 79 5 (zdiv ((zup (zup (zup σ 79 3 (σ 79 3 + v1)) 79 4 (σ 79 4 + 1)) 80 ((110 * 0) + (zdiv (σ 0 13) 365)) ((σ 80 ((110 * 0) + (zdiv (σ 0 13) 365))) + v1)) 0 13) 365))) (k8 : (v2 < σ 68 11) → zO G MX4_dueIn [zr 68, zi v2, zi (zdiv (σ 0 13) 365)] σ (fun rr σ' => zR G MX11_rents 66 [zr 0, zi v1, zi v2] [zi rr, zi v1] σ' Q)) : zR G MX11_rents 42 [zr 0, zi v1, zi v2] [] σ Q := by
  refine z_iload_n dX11_rents_42 rfl rfl ?_
  refine z_aload_n dX11_rents_43 rfl rfl ?_
  refine z_getfR (k := 7) flRX11_70 rfl rfl dX11_rents_44 ?_
  refine z_getfI (k := 11) flRX11_338 rfl rfl dX11_rents_47 ?_
  refine z_icmp_ge dX11_rents_50 (tgt := 74) (by decide) (fun h1 => ?_) (fun h1 => ?_)
  · skip
    refine z_aload_n dX11_rents_74 rfl rfl ?_
    refine z_getfR (k := 8) flRX11_77 rfl rfl dX11_rents_75 ?_
    refine z_iconst dX11_rents_78 (by unfold zIn; decide) ?_
    refine z_aload_n dX11_rents_79 rfl rfl ?_
    refine z_callv (as := []) (st := [zi 0, zr 79]) mkX11_thisYear lkRX11_384 rfl rfl rfl (by decide) (Nat.le_of_ble_eq_true rfl) rfl dX11_rents_80 ?_
    refine SX11_thisYear ?_
    show zR G MX11_rents 83 [zr 0, zi v1, zi v2] [zi (zdiv (σ 0 13) 365), zi 0, zr 79] σ Q
    refine z_iload_n dX11_rents_83 rfl rfl ?_
    have s1 : -2147483648 ≤ σ 79 3 + v1 ∧ σ 79 3 + v1 < (2147483648 : Int) := k1 h1
    have s2 : -2147483648 ≤ σ 79 4 + 1 ∧ σ 79 4 + 1 < (2147483648 : Int) := k2 h1
    have s3 : -2147483648 ≤ 110 * 0 ∧ 110 * 0 < (2147483648 : Int) := k3 h1
    have s4 : -2147483648 ≤ (110 * 0) + (zdiv (σ 0 13) 365) ∧ (110 * 0) + (zdiv (σ 0 13) 365) < (2147483648 : Int) := k4 h1
    have s5 : (0 : Int) ≤ (110 * 0) + (zdiv (σ 0 13) 365) ∧ (110 * 0) + (zdiv (σ 0 13) 365) < (440 : Int) := k5 h1
    have s6 : -2147483648 ≤ (σ 80 ((110 * 0) + (zdiv (σ 0 13) 365))) + v1 ∧ (σ 80 ((110 * 0) + (zdiv (σ 0 13) 365))) + v1 < (2147483648 : Int) := k6 h1
    refine z_callv (as := [zi 0, zi (zdiv (σ 0 13) 365), zi v1]) (st := []) mkX0_enter lkRX11_398 rfl rfl rfl (by decide) (Nat.le_of_ble_eq_true rfl) rfl dX11_rents_84 ?_
    refine SX0_enter s1 s2 s3 s4 s5 s6 ?_
    show zR G MX11_rents 87 [zr 0, zi v1, zi v2] [] (zup (zup (zup σ 79 3 (σ 79 3 + v1)) 79 4 (σ 79 4 + 1)) 80 ((110 * 0) + (zdiv (σ 0 13) 365)) ((σ 80 ((110 * 0) + (zdiv (σ 0 13) 365))) + v1)) Q
    refine z_aload_n dX11_rents_87 rfl rfl ?_
    refine z_getfR (k := 8) flRX11_77 rfl rfl dX11_rents_88 ?_
    refine z_aload_n dX11_rents_91 rfl rfl ?_
    refine z_callv (as := []) (st := [zr 79]) mkX11_thisYear lkRX11_384 rfl rfl rfl (by decide) (Nat.le_of_ble_eq_true rfl) rfl dX11_rents_92 ?_
    refine SX11_thisYear ?_
    show zR G MX11_rents 95 [zr 0, zi v1, zi v2] [zi (zdiv ((zup (zup (zup σ 79 3 (σ 79 3 + v1)) 79 4 (σ 79 4 + 1)) 80 ((110 * 0) + (zdiv (σ 0 13) 365)) ((σ 80 ((110 * 0) + (zdiv (σ 0 13) 365))) + v1)) 0 13) 365), zr 79] (zup (zup (zup σ 79 3 (σ 79 3 + v1)) 79 4 (σ 79 4 + 1)) 80 ((110 * 0) + (zdiv (σ 0 13) 365)) ((σ 80 ((110 * 0) + (zdiv (σ 0 13) 365))) + v1)) Q
    refine z_putI (k := 5) fpRX11_401 rfl rfl dX11_rents_95 ?_
    refine z_iload_n dX11_rents_98 rfl rfl ?_
    exact z_ireti rfl dX11_rents_99 (k7 h1)
  · skip
    refine z_iload_n dX11_rents_53 rfl rfl ?_
    refine z_aload_n dX11_rents_54 rfl rfl ?_
    refine z_getfR (k := 7) flRX11_70 rfl rfl dX11_rents_55 ?_
    refine z_iload_n dX11_rents_58 rfl rfl ?_
    refine z_aload_n dX11_rents_59 rfl rfl ?_
    refine z_callv (as := []) (st := [zi v2, zr 68, zi v1]) mkX11_thisYear lkRX11_384 rfl rfl rfl (by decide) (Nat.le_of_ble_eq_true rfl) rfl dX11_rents_60 ?_
    refine SX11_thisYear ?_
    show zR G MX11_rents 63 [zr 0, zi v1, zi v2] [zi (zdiv (σ 0 13) 365), zi v2, zr 68, zi v1] σ Q
    refine z_callv (as := [zi v2, zi (zdiv (σ 0 13) 365)]) (st := [zi v1]) mkX4_dueIn lkRX11_368 rfl rfl rfl (by decide) (Nat.le_of_ble_eq_true rfl) rfl dX11_rents_63 (k8 h1)
set_option maxRecDepth 20000 in
set_option maxHeartbeats 1000000 in
theorem TX11_rents_66 {G : zG} {σ : zS} {Q : Int → zS → Prop} {v1 v2 r t1 : Int}  (k1 : -2147483648 ≤ t1 + r ∧ t1 + r < (2147483648 : Int)) (k2 : -2147483648 ≤ v2 + 1 ∧ v2 + 1 < (2147483648 : Int)) (k3 : zR G MX11_rents 42 [zr 0, zi (t1 + r), zi (v2 + 1)] [] σ Q) : zR G MX11_rents 66 [zr 0, zi v1, zi v2] [zi r, zi t1] σ Q := by
  have s1 : -2147483648 ≤ t1 + r ∧ t1 + r < (2147483648 : Int) := k1
  refine z_iaddN dX11_rents_66 s1 ?_
  refine z_istore_n (ls' := [zr 0, zi (t1 + r), zi v2]) dX11_rents_67 rfl (by decide) rfl ?_
  have s2 : -2147483648 ≤ v2 + 1 ∧ v2 + 1 < (2147483648 : Int) := k2
  refine z_iincN (ls' := [zr 0, zi (t1 + r), zi (v2 + 1)]) dX11_rents_68 rfl (by decide) s2 rfl ?_
  refine z_goto dX11_rents_71 (tgt := 42) (by decide) ?_
  exact k3
set_option maxRecDepth 20000 in
set_option maxHeartbeats 1000000 in
theorem TX0_beginYear {G : zG} {σ : zS} {Q : Int → zS → Prop} {a1 : Int}  (k1 : (a1 ≠ σ 79 7) → zO G MJ7_fill_53178 [zr 81, zi 0] (zup σ 79 7 a1) (fun rr σ' => zR G MX0_beginYear 21 [zr 79, zi a1] [] σ' Q)) (k2 : (a1 = σ 79 7) → Q 0 σ) : zO G MX0_beginYear [zr 79, zi a1] σ Q := by
  refine zO_of (ls0 := [zr 79, zi a1]) (by decide) (Nat.le_of_ble_eq_true rfl) rfl ?_
  have J21 : (a1 = σ 79 7) → zR G MX0_beginYear 21 [zr 79, zi a1] [] σ Q := by
    intro h1
    exact z_vret rfl dX0_beginYear_21 (k2 h1)
  refine z_iload_n dX0_beginYear_0 rfl rfl ?_
  refine z_aload_n dX0_beginYear_1 rfl rfl ?_
  refine z_getfI (k := 7) flRX0_34 rfl rfl dX0_beginYear_2 ?_
  refine z_icmp_eq dX0_beginYear_5 (tgt := 21) (by decide) (fun h1 => ?_) (fun h1 => ?_)
  · skip
    exact J21 h1
  · skip
    refine z_aload_n dX0_beginYear_8 rfl rfl ?_
    refine z_iload_n dX0_beginYear_9 rfl rfl ?_
    refine z_putI (k := 7) fpRX0_34 rfl rfl dX0_beginYear_10 ?_
    refine z_aload_n dX0_beginYear_13 rfl rfl ?_
    refine z_getfR (k := 1) flRX0_15 rfl rfl dX0_beginYear_14 ?_
    refine z_iconst dX0_beginYear_17 (by unfold zIn; decide) ?_
    refine z_calls (as := [zr 81, zi 0]) (st := []) mkJ7_fill_53178 lkRX0_37 rfl (by decide) (Nat.le_of_ble_eq_true rfl) rfl dX0_beginYear_18 (k1 h1)
set_option maxRecDepth 20000 in
set_option maxHeartbeats 1000000 in
theorem TX0_beginYear_21 {G : zG} {σ : zS} {Q : Int → zS → Prop} {v1 : Int}  (k1 : Q 0 σ) : zR G MX0_beginYear 21 [zr 79, zi v1] [] σ Q := by
  exact z_vret rfl dX0_beginYear_21 (k1)
set_option maxRecDepth 20000 in
set_option maxHeartbeats 1000000 in
theorem TX0_keep {G : zG} {σ : zS} {Q : Int → zS → Prop} {a1 a2 a3 : Int}  (k1 : zO G MX0_beginYear [zr 79, zi a3] σ (fun rr σ' => zR G MX0_keep 5 [zr 79, zi a1, zi a2, zi a3, zu] [] σ' Q)) : zO G MX0_keep [zr 79, zi a1, zi a2, zi a3] σ Q := by
  refine zO_of (ls0 := [zr 79, zi a1, zi a2, zi a3, zu]) (by decide) (Nat.le_of_ble_eq_true rfl) rfl ?_
  refine z_aload_n dX0_keep_0 rfl rfl ?_
  refine z_iload_n dX0_keep_1 rfl rfl ?_
  refine z_callv (as := [zi a3]) (st := []) mkX0_beginYear lkRX0_43 rfl rfl rfl (by decide) (Nat.le_of_ble_eq_true rfl) rfl dX0_keep_2 (k1)
set_option maxRecDepth 20000 in
set_option maxHeartbeats 1000000 in
theorem TX0_keep_5 {G : zG} {σ : zS} {Q : Int → zS → Prop} {v1 v2 v3 : Int}  (k1 : (0 : Int) ≤ v1 ∧ v1 < (24 : Int)) (k2 : Q (σ 81 v1) (zup σ 81 v1 v2)) : zR G MX0_keep 5 [zr 79, zi v1, zi v2, zi v3, zu] [] σ Q := by
  refine z_aload_n dX0_keep_5 rfl rfl ?_
  refine z_getfR (k := 1) flRX0_15 rfl rfl dX0_keep_6 ?_
  refine z_iload_n dX0_keep_9 rfl rfl ?_
  have s1 : (0 : Int) ≤ v1 ∧ v1 < (24 : Int) := k1
  refine z_iald rfl s1.1 s1.2 dX0_keep_10 ?_
  refine z_istore (ls' := [zr 79, zi v1, zi v2, zi v3, zi (σ 81 v1)]) dX0_keep_11 (by decide) rfl ?_
  refine z_aload_n dX0_keep_13 rfl rfl ?_
  refine z_getfR (k := 1) flRX0_15 rfl rfl dX0_keep_14 ?_
  refine z_iload_n dX0_keep_17 rfl rfl ?_
  refine z_iload_n dX0_keep_18 rfl rfl ?_
  refine z_iast rfl s1.1 s1.2 dX0_keep_19 ?_
  refine z_iload dX0_keep_20 rfl ?_
  exact z_ireti rfl dX0_keep_22 (k2)
set_option maxRecDepth 20000 in
set_option maxHeartbeats 1000000 in
theorem TX11_kept {G : zG} {σ : zS} {Q : Int → zS → Prop} {a1 a2 : Int}  (k1 : ((0 ≤ a1 ∧ a1 < σ 22 12)) → (¬ ((0 ≤ a2 ∧ a2 ≤ 365))) → -2147483648 ≤ -(-6) ∧ -(-6) < (2147483648 : Int)) (k2 : ((0 ≤ a1 ∧ a1 < σ 22 12)) → (¬ ((0 ≤ a2 ∧ a2 ≤ 365))) → (0 : Int) ≤ -(-6) ∧ -(-6) < (8 : Int)) (k3 : ((0 ≤ a1 ∧ a1 < σ 22 12)) → (¬ ((0 ≤ a2 ∧ a2 ≤ 365))) → Q (-6) (zup σ 97 (-(-6)) (zW ((σ 97 (-(-6))) + 1)))) (k4 : ((0 ≤ a1 ∧ a1 < σ 22 12)) → ((0 ≤ a2 ∧ a2 ≤ 365)) → zO G MX0_keep [zr 79, zi a1, zi a2, zi (zdiv (σ 0 13) 365)] σ (fun rr σ' => zR G MX11_kept 41 [zr 0, zi a1, zi a2] [zi rr] σ' Q)) (k5 : (¬ ((0 ≤ a1 ∧ a1 < σ 22 12))) → -2147483648 ≤ -(-1) ∧ -(-1) < (2147483648 : Int)) (k6 : (¬ ((0 ≤ a1 ∧ a1 < σ 22 12))) → (0 : Int) ≤ -(-1) ∧ -(-1) < (8 : Int)) (k7 : (¬ ((0 ≤ a1 ∧ a1 < σ 22 12))) → Q (-1) (zup σ 97 (-(-1)) (zW ((σ 97 (-(-1))) + 1)))) : zO G MX11_kept [zr 0, zi a1, zi a2] σ Q := by
  refine zO_of (ls0 := [zr 0, zi a1, zi a2]) (by decide) (Nat.le_of_ble_eq_true rfl) rfl ?_
  refine z_aload_n dX11_kept_0 rfl rfl ?_
  refine z_getfR (k := 1) flRX11_18 rfl rfl dX11_kept_1 ?_
  refine z_iload_n dX11_kept_4 rfl rfl ?_
  refine z_callv (as := [zi a1]) (st := []) mkX5_has lkRX11_146 rfl rfl rfl (by decide) (Nat.le_of_ble_eq_true rfl) rfl dX11_kept_5 ?_
  refine SX5_has ?_
  show zR G MX11_kept 8 [zr 0, zi a1, zi a2] [zi (if (0 ≤ a1 ∧ a1 < σ 22 12) then (1 : Int) else 0)] σ Q
  refine z_if_ne dX11_kept_8 (tgt := 17) (by decide) (fun z => ?_) (fun z => ?_)
  · have h1 : (0 ≤ a1 ∧ a1 < σ 22 12) := zb1 z
    refine z_iload_n dX11_kept_17 rfl rfl ?_
    refine z_iconst dX11_kept_18 (by unfold zIn; decide) ?_
    refine z_sipush (x := 365) dX11_kept_19 (by decide +kernel) (by unfold zIn; decide) ?_
    refine z_calls (as := [zi a2, zi 0, zi 365]) (st := []) mkX11_within lkRX11_111 rfl (by decide) (Nat.le_of_ble_eq_true rfl) rfl dX11_kept_22 ?_
    refine SX11_within ?_
    show zR G MX11_kept 25 [zr 0, zi a1, zi a2] [zi (if (0 ≤ a2 ∧ a2 ≤ 365) then (1 : Int) else 0)] σ Q
    refine z_if_eq dX11_kept_25 (tgt := 44) (by decide) (fun z => ?_) (fun z => ?_)
    · have h2 : ¬ ((0 ≤ a2 ∧ a2 ≤ 365)) := zb0 z
      refine z_aload_n dX11_kept_44 rfl rfl ?_
      refine z_bipush (x := (-6)) dX11_kept_45 (by decide +kernel) (by unfold zIn; decide) ?_
      have s1 : -2147483648 ≤ -(-6) ∧ -(-6) < (2147483648 : Int) := k1 h1 h2
      have s2 : (0 : Int) ≤ -(-6) ∧ -(-6) < (8 : Int) := k2 h1 h2
      refine z_callv (as := [zi (-6)]) (st := []) mkX11_refuse lkRX11_132 rfl rfl rfl (by decide) (Nat.le_of_ble_eq_true rfl) rfl dX11_kept_47 ?_
      refine SX11_refuse s1 s2 ?_
      show zR G MX11_kept 50 [zr 0, zi a1, zi a2] [zi (-6)] (zup σ 97 (-(-6)) (zW ((σ 97 (-(-6))) + 1))) Q
      exact z_ireti rfl dX11_kept_50 (k3 h1 h2)
    · have h2 : (0 ≤ a2 ∧ a2 ≤ 365) := zb1 z
      refine z_aload_n dX11_kept_28 rfl rfl ?_
      refine z_getfR (k := 8) flRX11_77 rfl rfl dX11_kept_29 ?_
      refine z_iload_n dX11_kept_32 rfl rfl ?_
      refine z_iload_n dX11_kept_33 rfl rfl ?_
      refine z_aload_n dX11_kept_34 rfl rfl ?_
      refine z_callv (as := []) (st := [zi a2, zi a1, zr 79]) mkX11_thisYear lkRX11_384 rfl rfl rfl (by decide) (Nat.le_of_ble_eq_true rfl) rfl dX11_kept_35 ?_
      refine SX11_thisYear ?_
      show zR G MX11_kept 38 [zr 0, zi a1, zi a2] [zi (zdiv (σ 0 13) 365), zi a2, zi a1, zr 79] σ Q
      refine z_callv (as := [zi a1, zi a2, zi (zdiv (σ 0 13) 365)]) (st := []) mkX0_keep lkRX11_404 rfl rfl rfl (by decide) (Nat.le_of_ble_eq_true rfl) rfl dX11_kept_38 (k4 h1 h2)
  · have h1 : ¬ ((0 ≤ a1 ∧ a1 < σ 22 12)) := zb0 z
    refine z_aload_n dX11_kept_11 rfl rfl ?_
    refine z_iconst dX11_kept_12 (by unfold zIn; decide) ?_
    have s5 : -2147483648 ≤ -(-1) ∧ -(-1) < (2147483648 : Int) := k5 h1
    have s6 : (0 : Int) ≤ -(-1) ∧ -(-1) < (8 : Int) := k6 h1
    refine z_callv (as := [zi (-1)]) (st := []) mkX11_refuse lkRX11_132 rfl rfl rfl (by decide) (Nat.le_of_ble_eq_true rfl) rfl dX11_kept_13 ?_
    refine SX11_refuse s5 s6 ?_
    show zR G MX11_kept 16 [zr 0, zi a1, zi a2] [zi (-1)] (zup σ 97 (-(-1)) (zW ((σ 97 (-(-1))) + 1))) Q
    exact z_ireti rfl dX11_kept_16 (k7 h1)
set_option maxRecDepth 20000 in
set_option maxHeartbeats 1000000 in
theorem TX11_kept_41 {G : zG} {σ : zS} {Q : Int → zS → Prop} {v1 v2 r : Int}  (k1 : Q r σ) : zR G MX11_kept 41 [zr 0, zi v1, zi v2] [zi r] σ Q := by
  refine z_goto dX11_kept_41 (tgt := 50) (by decide) ?_
  exact z_ireti rfl dX11_kept_50 (k1)
set_option maxRecDepth 20000 in
set_option maxHeartbeats 1000000 in
theorem TX0_part {G : zG} {σ : zS} {Q : Int → zS → Prop} {a1 a2 a3 : Int}  (k1 : zO G MX0_beginYear [zr 79, zi a3] σ (fun rr σ' => zR G MX0_part 5 [zr 79, zi a1, zi a2, zi a3, zu, zu, zu, zu] [] σ' Q)) : zO G MX0_part [zr 79, zi a1, zi a2, zi a3] σ Q := by
  refine zO_of (ls0 := [zr 79, zi a1, zi a2, zi a3, zu, zu, zu, zu]) (by decide) (Nat.le_of_ble_eq_true rfl) rfl ?_
  refine z_aload_n dX0_part_0 rfl rfl ?_
  refine z_iload_n dX0_part_1 rfl rfl ?_
  refine z_callv (as := [zi a3]) (st := []) mkX0_beginYear lkRX0_43 rfl rfl rfl (by decide) (Nat.le_of_ble_eq_true rfl) rfl dX0_part_2 (k1)
set_option maxRecDepth 20000 in
set_option maxHeartbeats 1000000 in
theorem TX0_part_5 {G : zG} {σ : zS} {Q : Int → zS → Prop} {v1 v2 v3 : Int}  (k1 : zR G MX0_part 11 [zr 79, zi v1, zi v2, zi v3, zi 0, zi 0, zu, zu] [] σ Q) : zR G MX0_part 5 [zr 79, zi v1, zi v2, zi v3, zu, zu, zu, zu] [] σ Q := by
  refine z_iconst dX0_part_5 (by unfold zIn; decide) ?_
  refine z_istore (ls' := [zr 79, zi v1, zi v2, zi v3, zi 0, zu, zu, zu]) dX0_part_6 (by decide) rfl ?_
  refine z_iconst dX0_part_8 (by unfold zIn; decide) ?_
  refine z_istore (ls' := [zr 79, zi v1, zi v2, zi v3, zi 0, zi 0, zu, zu]) dX0_part_9 (by decide) rfl ?_
  exact k1
set_option maxRecDepth 20000 in
set_option maxHeartbeats 1000000 in
theorem TX0_part_11 {G : zG} {σ : zS} {Q : Int → zS → Prop} {v1 v2 v3 v4 v5 : Int}  (k1 : (24 ≤ v5) → zR G MX0_part 49 [zr 79, zi v1, zi v2, zi v3, zi v4, zi 0, zi 0, zu] [] σ Q) (k2 : (v5 < 24) → (0 : Int) ≤ v5 ∧ v5 < (24 : Int)) (k3 : (v5 < 24) → -2147483648 ≤ zand (zushr v2 v5) 1 * σ 81 v5 ∧ zand (zushr v2 v5) 1 * σ 81 v5 < (2147483648 : Int)) (k4 : (v5 < 24) → -2147483648 ≤ v4 + (zand (zushr v2 v5) 1 * σ 81 v5) ∧ v4 + (zand (zushr v2 v5) 1 * σ 81 v5) < (2147483648 : Int)) (k5 : (v5 < 24) → -2147483648 ≤ v5 + 1 ∧ v5 + 1 < (2147483648 : Int)) (k6 : (v5 < 24) → zR G MX0_part 11 [zr 79, zi v1, zi v2, zi v3, zi (v4 + (zand (zushr v2 v5) 1 * σ 81 v5)), zi (v5 + 1), zu, zu] [] σ Q) : zR G MX0_part 11 [zr 79, zi v1, zi v2, zi v3, zi v4, zi v5, zu, zu] [] σ Q := by
  refine z_iload dX0_part_11 rfl ?_
  refine z_bipush (x := 24) dX0_part_13 (by decide +kernel) (by unfold zIn; decide) ?_
  refine z_icmp_ge dX0_part_15 (tgt := 43) (by decide) (fun h1 => ?_) (fun h1 => ?_)
  · skip
    refine z_iconst dX0_part_43 (by unfold zIn; decide) ?_
    refine z_istore (ls' := [zr 79, zi v1, zi v2, zi v3, zi v4, zi 0, zu, zu]) dX0_part_44 (by decide) rfl ?_
    refine z_iconst dX0_part_46 (by unfold zIn; decide) ?_
    refine z_istore (ls' := [zr 79, zi v1, zi v2, zi v3, zi v4, zi 0, zi 0, zu]) dX0_part_47 (by decide) rfl ?_
    exact k1 h1
  · skip
    refine z_iload dX0_part_18 rfl ?_
    refine z_iload_n dX0_part_20 rfl rfl ?_
    refine z_iload dX0_part_21 rfl ?_
    refine z_iushr dX0_part_23 ?_
    refine z_iconst dX0_part_24 (by unfold zIn; decide) ?_
    refine z_iand dX0_part_25 ?_
    refine z_aload_n dX0_part_26 rfl rfl ?_
    refine z_getfR (k := 1) flRX0_15 rfl rfl dX0_part_27 ?_
    refine z_iload dX0_part_30 rfl ?_
    have s2 : (0 : Int) ≤ v5 ∧ v5 < (24 : Int) := k2 h1
    refine z_iald rfl s2.1 s2.2 dX0_part_32 ?_
    have s3 : -2147483648 ≤ zand (zushr v2 v5) 1 * σ 81 v5 ∧ zand (zushr v2 v5) 1 * σ 81 v5 < (2147483648 : Int) := k3 h1
    refine z_imulN dX0_part_33 s3 ?_
    have s4 : -2147483648 ≤ v4 + (zand (zushr v2 v5) 1 * σ 81 v5) ∧ v4 + (zand (zushr v2 v5) 1 * σ 81 v5) < (2147483648 : Int) := k4 h1
    refine z_iaddN dX0_part_34 s4 ?_
    refine z_istore (ls' := [zr 79, zi v1, zi v2, zi v3, zi (v4 + (zand (zushr v2 v5) 1 * σ 81 v5)), zi v5, zu, zu]) dX0_part_35 (by decide) rfl ?_
    have s5 : -2147483648 ≤ v5 + 1 ∧ v5 + 1 < (2147483648 : Int) := k5 h1
    refine z_iincN (ls' := [zr 79, zi v1, zi v2, zi v3, zi (v4 + (zand (zushr v2 v5) 1 * σ 81 v5)), zi (v5 + 1), zu, zu]) dX0_part_37 rfl (by decide) s5 rfl ?_
    refine z_goto dX0_part_40 (tgt := 11) (by decide) ?_
    exact k6 h1
set_option maxRecDepth 20000 in
set_option maxHeartbeats 1000000 in
theorem TX0_part_49 {G : zG} {σ : zS} {Q : Int → zS → Prop} {v1 v2 v3 v4 v5 v6 : Int}  (k1 : (v6 < 24) → (0 < v4) → (0 : Int) ≤ v6 ∧ v6 < (24 : Int)) (k2 : (v6 < 24) → (0 < v4) → -2147483648 ≤ zand (zushr v2 v6) 1 * σ 81 v6 ∧ zand (zushr v2 v6) 1 * σ 81 v6 < (2147483648 : Int)) (k3 : (v6 < 24) → (0 < v4) → -9223372036854775808 ≤ v1 * (zand (zushr v2 v6) 1 * σ 81 v6) ∧ v1 * (zand (zushr v2 v6) 1 * σ 81 v6) < (9223372036854775808 : Int)) (k4 : (v6 < 24) → (0 < v4) → v4 ≠ 0) (k5 : (v6 < 24) → (0 < v4) → -2147483648 ≤ v5 + (zW (zldiv (v1 * (zand (zushr v2 v6) 1 * σ 81 v6)) v4)) ∧ v5 + (zW (zldiv (v1 * (zand (zushr v2 v6) 1 * σ 81 v6)) v4)) < (2147483648 : Int)) (k6 : (v6 < 24) → (0 < v4) → -2147483648 ≤ v6 + 1 ∧ v6 + 1 < (2147483648 : Int)) (k7 : (v6 < 24) → (0 < v4) → zR G MX0_part 49 [zr 79, zi v1, zi v2, zi v3, zi v4, zi (v5 + (zW (zldiv (v1 * (zand (zushr v2 v6) 1 * σ 81 v6)) v4))), zi (v6 + 1), zu] [] (zup σ 82 v6 (zW (σ 82 v6 + (zW (zldiv (v1 * (zand (zushr v2 v6) 1 * σ 81 v6)) v4))))) Q) (k8 : (24 ≤ v6 ∨ (v6 < 24 ∧ v4 ≤ 0)) → -2147483648 ≤ -v5 ∧ -v5 < (2147483648 : Int)) (k9 : (24 ≤ v6 ∨ (v6 < 24 ∧ v4 ≤ 0)) → -2147483648 ≤ σ 79 3 + (-v5) ∧ σ 79 3 + (-v5) < (2147483648 : Int)) (k10 : (24 ≤ v6 ∨ (v6 < 24 ∧ v4 ≤ 0)) → -2147483648 ≤ σ 79 4 + 1 ∧ σ 79 4 + 1 < (2147483648 : Int)) (k11 : (24 ≤ v6 ∨ (v6 < 24 ∧ v4 ≤ 0)) → -2147483648 ≤ 110 * 2 ∧ 110 * 2 < (2147483648 : Int)) (k12 : (24 ≤ v6 ∨ (v6 < 24 ∧ v4 ≤ 0)) → -2147483648 ≤ (110 * 2) + v3 ∧ (110 * 2) + v3 < (2147483648 : Int)) (k13 : (24 ≤ v6 ∨ (v6 < 24 ∧ v4 ≤ 0)) → (0 : Int) ≤ (110 * 2) + v3 ∧ (110 * 2) + v3 < (440 : Int)) (k14 : (24 ≤ v6 ∨ (v6 < 24 ∧ v4 ≤ 0)) → -2147483648 ≤ (σ 80 ((110 * 2) + v3)) + (-v5) ∧ (σ 80 ((110 * 2) + v3)) + (-v5) < (2147483648 : Int)) (k15 : (24 ≤ v6 ∨ (v6 < 24 ∧ v4 ≤ 0)) → Q v5 (zup (zup (zup (zup σ 79 3 (σ 79 3 + (-v5))) 79 4 (σ 79 4 + 1)) 80 ((110 * 2) + v3) ((σ 80 ((110 * 2) + v3)) + (-v5))) 79 6 v3)) : zR G MX0_part 49 [zr 79, zi v1, zi v2, zi v3, zi v4, zi v5, zi v6, zu] [] σ Q := by
  have J111 : (24 ≤ v6 ∨ (v6 < 24 ∧ v4 ≤ 0)) → zR G MX0_part 111 [zr 79, zi v1, zi v2, zi v3, zi v4, zi v5, zi v6, zu] [] σ Q := by
    intro h3
    refine z_aload_n dX0_part_111 rfl rfl ?_
    refine z_iconst dX0_part_112 (by unfold zIn; decide) ?_
    refine z_iload_n dX0_part_113 rfl rfl ?_
    refine z_iload dX0_part_114 rfl ?_
    have s8 : -2147483648 ≤ -v5 ∧ -v5 < (2147483648 : Int) := k8 h3
    refine z_inegN dX0_part_116 s8 ?_
    have s9 : -2147483648 ≤ σ 79 3 + (-v5) ∧ σ 79 3 + (-v5) < (2147483648 : Int) := k9 h3
    have s10 : -2147483648 ≤ σ 79 4 + 1 ∧ σ 79 4 + 1 < (2147483648 : Int) := k10 h3
    have s11 : -2147483648 ≤ 110 * 2 ∧ 110 * 2 < (2147483648 : Int) := k11 h3
    have s12 : -2147483648 ≤ (110 * 2) + v3 ∧ (110 * 2) + v3 < (2147483648 : Int) := k12 h3
    have s13 : (0 : Int) ≤ (110 * 2) + v3 ∧ (110 * 2) + v3 < (440 : Int) := k13 h3
    have s14 : -2147483648 ≤ (σ 80 ((110 * 2) + v3)) + (-v5) ∧ (σ 80 ((110 * 2) + v3)) + (-v5) < (2147483648 : Int) := k14 h3
    refine z_callv (as := [zi 2, zi v3, zi (-v5)]) (st := []) mkX0_enter lkRX0_47 rfl rfl rfl (by decide) (Nat.le_of_ble_eq_true rfl) rfl dX0_part_117 ?_
    refine SX0_enter s9 s10 s11 s12 s13 s14 ?_
    show zR G MX0_part 120 [zr 79, zi v1, zi v2, zi v3, zi v4, zi v5, zi v6, zu] [] (zup (zup (zup σ 79 3 (σ 79 3 + (-v5))) 79 4 (σ 79 4 + 1)) 80 ((110 * 2) + v3) ((σ 80 ((110 * 2) + v3)) + (-v5))) Q
    refine z_aload_n dX0_part_120 rfl rfl ?_
    refine z_iload_n dX0_part_121 rfl rfl ?_
    refine z_putI (k := 6) fpRX0_31 rfl rfl dX0_part_122 ?_
    refine z_iload dX0_part_125 rfl ?_
    exact z_ireti rfl dX0_part_127 (k15 h3)
  refine z_iload dX0_part_49 rfl ?_
  refine z_bipush (x := 24) dX0_part_51 (by decide +kernel) (by unfold zIn; decide) ?_
  refine z_icmp_ge dX0_part_53 (tgt := 111) (by decide) (fun h1 => ?_) (fun h1 => ?_)
  · skip
    exact J111 (Or.inl h1)
  · skip
    refine z_iload dX0_part_56 rfl ?_
    refine z_if_le dX0_part_58 (tgt := 111) (by decide) (fun h2 => ?_) (fun h2 => ?_)
    · skip
      exact J111 (Or.inr ⟨h1, h2⟩)
    · skip
      refine z_iload_n dX0_part_61 rfl rfl ?_
      refine z_i2l dX0_part_62 ?_
      refine z_iload_n dX0_part_63 rfl rfl ?_
      refine z_iload dX0_part_64 rfl ?_
      refine z_iushr dX0_part_66 ?_
      refine z_iconst dX0_part_67 (by unfold zIn; decide) ?_
      refine z_iand dX0_part_68 ?_
      refine z_aload_n dX0_part_69 rfl rfl ?_
      refine z_getfR (k := 1) flRX0_15 rfl rfl dX0_part_70 ?_
      refine z_iload dX0_part_73 rfl ?_
      have s1 : (0 : Int) ≤ v6 ∧ v6 < (24 : Int) := k1 h1 h2
      refine z_iald rfl s1.1 s1.2 dX0_part_75 ?_
      have s2 : -2147483648 ≤ zand (zushr v2 v6) 1 * σ 81 v6 ∧ zand (zushr v2 v6) 1 * σ 81 v6 < (2147483648 : Int) := k2 h1 h2
      refine z_imulN dX0_part_76 s2 ?_
      refine z_i2l dX0_part_77 ?_
      have s3 : -9223372036854775808 ≤ v1 * (zand (zushr v2 v6) 1 * σ 81 v6) ∧ v1 * (zand (zushr v2 v6) 1 * σ 81 v6) < (9223372036854775808 : Int) := k3 h1 h2
      refine z_lmulN dX0_part_78 s3 ?_
      refine z_iload dX0_part_79 rfl ?_
      refine z_i2l dX0_part_81 ?_
      have s4 : v4 ≠ 0 := k4 h1 h2
      refine z_ldiv dX0_part_82 s4 ?_
      refine z_l2i dX0_part_83 ?_
      refine z_istore (ls' := [zr 79, zi v1, zi v2, zi v3, zi v4, zi v5, zi v6, zi (zW (zldiv (v1 * (zand (zushr v2 v6) 1 * σ 81 v6)) v4))]) dX0_part_84 (by decide) rfl ?_
      refine z_aload_n dX0_part_86 rfl rfl ?_
      refine z_getfR (k := 2) flRX0_18 rfl rfl dX0_part_87 ?_
      refine z_iload dX0_part_90 rfl ?_
      refine z_dup2 dX0_part_92 rfl rfl ?_
      refine z_iald rfl s1.1 s1.2 dX0_part_93 ?_
      refine z_iload dX0_part_94 rfl ?_
      refine z_iadd dX0_part_96 ?_
      refine z_iast rfl s1.1 s1.2 dX0_part_97 ?_
      refine z_iload dX0_part_98 rfl ?_
      refine z_iload dX0_part_100 rfl ?_
      have s5 : -2147483648 ≤ v5 + (zW (zldiv (v1 * (zand (zushr v2 v6) 1 * σ 81 v6)) v4)) ∧ v5 + (zW (zldiv (v1 * (zand (zushr v2 v6) 1 * σ 81 v6)) v4)) < (2147483648 : Int) := k5 h1 h2
      refine z_iaddN dX0_part_102 s5 ?_
      refine z_istore (ls' := [zr 79, zi v1, zi v2, zi v3, zi v4, zi (v5 + (zW (zldiv (v1 * (zand (zushr v2 v6) 1 * σ 81 v6)) v4))), zi v6, zi (zW (zldiv (v1 * (zand (zushr v2 v6) 1 * σ 81 v6)) v4))]) dX0_part_103 (by decide) rfl ?_
      have s6 : -2147483648 ≤ v6 + 1 ∧ v6 + 1 < (2147483648 : Int) := k6 h1 h2
      refine z_iincN (ls' := [zr 79, zi v1, zi v2, zi v3, zi v4, zi (v5 + (zW (zldiv (v1 * (zand (zushr v2 v6) 1 * σ 81 v6)) v4))), zi (v6 + 1), zi (zW (zldiv (v1 * (zand (zushr v2 v6) 1 * σ 81 v6)) v4))]) dX0_part_105 rfl (by decide) s6 rfl ?_
      refine z_goto dX0_part_108 (tgt := 49) (by decide) ?_
      exact zR_fg [false, false, false, false, false, false, false, true] (k7 h1 h2)
set_option maxRecDepth 20000 in
set_option maxHeartbeats 1000000 in
theorem TX11_dividend {G : zG} {σ : zS} {Q : Int → zS → Prop} {a1 : Int}  (k1 : ((0 ≤ a1 ∧ a1 ≤ (σ 79 3))) → (σ 79 6 ≠ zdiv (σ 0 13) 365) → (¬ (400 ≤ σ 79 4)) → zO G MX6_holdersOf [zr 52, zi 1] σ (fun rr σ' => zR G MX11_dividend 66 [zr 0, zi a1] [zi rr, zi a1, zr 79] σ' Q)) (k2 : ((0 ≤ a1 ∧ a1 ≤ (σ 79 3))) → (σ 79 6 ≠ zdiv (σ 0 13) 365) → (400 ≤ σ 79 4) → -2147483648 ≤ -(-7) ∧ -(-7) < (2147483648 : Int)) (k3 : ((0 ≤ a1 ∧ a1 ≤ (σ 79 3))) → (σ 79 6 ≠ zdiv (σ 0 13) 365) → (400 ≤ σ 79 4) → (0 : Int) ≤ -(-7) ∧ -(-7) < (8 : Int)) (k4 : ((0 ≤ a1 ∧ a1 ≤ (σ 79 3))) → (σ 79 6 ≠ zdiv (σ 0 13) 365) → (400 ≤ σ 79 4) → Q (-7) (zup σ 97 (-(-7)) (zW ((σ 97 (-(-7))) + 1)))) (k5 : ((¬ ((0 ≤ a1 ∧ a1 ≤ (σ 79 3)))) ∨ (((0 ≤ a1 ∧ a1 ≤ (σ 79 3))) ∧ σ 79 6 = zdiv (σ 0 13) 365)) → -2147483648 ≤ -(-6) ∧ -(-6) < (2147483648 : Int)) (k6 : ((¬ ((0 ≤ a1 ∧ a1 ≤ (σ 79 3)))) ∨ (((0 ≤ a1 ∧ a1 ≤ (σ 79 3))) ∧ σ 79 6 = zdiv (σ 0 13) 365)) → (0 : Int) ≤ -(-6) ∧ -(-6) < (8 : Int)) (k7 : ((¬ ((0 ≤ a1 ∧ a1 ≤ (σ 79 3)))) ∨ (((0 ≤ a1 ∧ a1 ≤ (σ 79 3))) ∧ σ 79 6 = zdiv (σ 0 13) 365)) → Q (-6) (zup σ 97 (-(-6)) (zW ((σ 97 (-(-6))) + 1)))) : zO G MX11_dividend [zr 0, zi a1] σ Q := by
  refine zO_of (ls0 := [zr 0, zi a1]) (by decide) (Nat.le_of_ble_eq_true rfl) rfl ?_
  have J29 : ((¬ ((0 ≤ a1 ∧ a1 ≤ (σ 79 3)))) ∨ (((0 ≤ a1 ∧ a1 ≤ (σ 79 3))) ∧ σ 79 6 = zdiv (σ 0 13) 365)) → zR G MX11_dividend 29 [zr 0, zi a1] [] σ Q := by
    intro h4
    refine z_aload_n dX11_dividend_29 rfl rfl ?_
    refine z_bipush (x := (-6)) dX11_dividend_30 (by decide +kernel) (by unfold zIn; decide) ?_
    have s5 : -2147483648 ≤ -(-6) ∧ -(-6) < (2147483648 : Int) := k5 h4
    have s6 : (0 : Int) ≤ -(-6) ∧ -(-6) < (8 : Int) := k6 h4
    refine z_callv (as := [zi (-6)]) (st := []) mkX11_refuse lkRX11_132 rfl rfl rfl (by decide) (Nat.le_of_ble_eq_true rfl) rfl dX11_dividend_32 ?_
    refine SX11_refuse s5 s6 ?_
    show zR G MX11_dividend 35 [zr 0, zi a1] [zi (-6)] (zup σ 97 (-(-6)) (zW ((σ 97 (-(-6))) + 1))) Q
    exact z_ireti rfl dX11_dividend_35 (k7 h4)
  refine z_iload_n dX11_dividend_0 rfl rfl ?_
  refine z_iconst dX11_dividend_1 (by unfold zIn; decide) ?_
  refine z_aload_n dX11_dividend_2 rfl rfl ?_
  refine z_getfR (k := 8) flRX11_77 rfl rfl dX11_dividend_3 ?_
  refine z_getfI (k := 3) flRX11_407 rfl rfl dX11_dividend_6 ?_
  refine z_calls (as := [zi a1, zi 0, zi (σ 79 3)]) (st := []) mkX11_within lkRX11_111 rfl (by decide) (Nat.le_of_ble_eq_true rfl) rfl dX11_dividend_9 ?_
  refine SX11_within ?_
  show zR G MX11_dividend 12 [zr 0, zi a1] [zi (if (0 ≤ a1 ∧ a1 ≤ (σ 79 3)) then (1 : Int) else 0)] σ Q
  refine z_if_eq dX11_dividend_12 (tgt := 29) (by decide) (fun z => ?_) (fun z => ?_)
  · have h1 : ¬ ((0 ≤ a1 ∧ a1 ≤ (σ 79 3))) := zb0 z
    exact J29 (Or.inl h1)
  · have h1 : (0 ≤ a1 ∧ a1 ≤ (σ 79 3)) := zb1 z
    refine z_aload_n dX11_dividend_15 rfl rfl ?_
    refine z_getfR (k := 8) flRX11_77 rfl rfl dX11_dividend_16 ?_
    refine z_getfI (k := 6) flRX11_410 rfl rfl dX11_dividend_19 ?_
    refine z_aload_n dX11_dividend_22 rfl rfl ?_
    refine z_callv (as := []) (st := [zi (σ 79 6)]) mkX11_thisYear lkRX11_384 rfl rfl rfl (by decide) (Nat.le_of_ble_eq_true rfl) rfl dX11_dividend_23 ?_
    refine SX11_thisYear ?_
    show zR G MX11_dividend 26 [zr 0, zi a1] [zi (zdiv (σ 0 13) 365), zi (σ 79 6)] σ Q
    refine z_icmp_ne dX11_dividend_26 (tgt := 36) (by decide) (fun h2 => ?_) (fun h2 => ?_)
    · skip
      refine z_aload_n dX11_dividend_36 rfl rfl ?_
      refine z_getfR (k := 8) flRX11_77 rfl rfl dX11_dividend_37 ?_
      refine z_callv (as := []) (st := []) mkX0_isFull lkRX11_391 rfl rfl rfl (by decide) (Nat.le_of_ble_eq_true rfl) rfl dX11_dividend_40 ?_
      refine SX0_isFull ?_
      show zR G MX11_dividend 43 [zr 0, zi a1] [zi (if 400 ≤ σ 79 4 then (1 : Int) else 0)] σ Q
      refine z_if_eq dX11_dividend_43 (tgt := 53) (by decide) (fun z => ?_) (fun z => ?_)
      · have h3 : ¬ (400 ≤ σ 79 4) := zb0 z
        refine z_aload_n dX11_dividend_53 rfl rfl ?_
        refine z_getfR (k := 8) flRX11_77 rfl rfl dX11_dividend_54 ?_
        refine z_iload_n dX11_dividend_57 rfl rfl ?_
        refine z_aload_n dX11_dividend_58 rfl rfl ?_
        refine z_getfR (k := 4) flRX11_43 rfl rfl dX11_dividend_59 ?_
        refine z_iconst dX11_dividend_62 (by unfold zIn; decide) ?_
        refine z_callv (as := [zi 1]) (st := [zi a1, zr 79]) mkX6_holdersOf lkRX11_413 rfl rfl rfl (by decide) (Nat.le_of_ble_eq_true rfl) rfl dX11_dividend_63 (k1 h1 h2 h3)
      · have h3 : 400 ≤ σ 79 4 := zb1 z
        refine z_aload_n dX11_dividend_46 rfl rfl ?_
        refine z_bipush (x := (-7)) dX11_dividend_47 (by decide +kernel) (by unfold zIn; decide) ?_
        have s2 : -2147483648 ≤ -(-7) ∧ -(-7) < (2147483648 : Int) := k2 h1 h2 h3
        have s3 : (0 : Int) ≤ -(-7) ∧ -(-7) < (8 : Int) := k3 h1 h2 h3
        refine z_callv (as := [zi (-7)]) (st := []) mkX11_refuse lkRX11_132 rfl rfl rfl (by decide) (Nat.le_of_ble_eq_true rfl) rfl dX11_dividend_49 ?_
        refine SX11_refuse s2 s3 ?_
        show zR G MX11_dividend 52 [zr 0, zi a1] [zi (-7)] (zup σ 97 (-(-7)) (zW ((σ 97 (-(-7))) + 1))) Q
        exact z_ireti rfl dX11_dividend_52 (k4 h1 h2 h3)
    · skip
      exact J29 (Or.inr ⟨h1, h2⟩)
set_option maxRecDepth 20000 in
set_option maxHeartbeats 1000000 in
theorem TX11_dividend_66 {G : zG} {σ : zS} {Q : Int → zS → Prop} {v1 r t1 : Int}  (k1 : zO G MX0_part [zr 79, zi t1, zi r, zi (zdiv (σ 0 13) 365)] σ (fun rr σ' => zR G MX11_dividend 73 [zr 0, zi v1] [zi rr] σ' Q)) : zR G MX11_dividend 66 [zr 0, zi v1] [zi r, zi t1, zr 79] σ Q := by
  refine z_aload_n dX11_dividend_66 rfl rfl ?_
  refine z_callv (as := []) (st := [zi r, zi t1, zr 79]) mkX11_thisYear lkRX11_384 rfl rfl rfl (by decide) (Nat.le_of_ble_eq_true rfl) rfl dX11_dividend_67 ?_
  refine SX11_thisYear ?_
  show zR G MX11_dividend 70 [zr 0, zi v1] [zi (zdiv (σ 0 13) 365), zi r, zi t1, zr 79] σ Q
  refine z_callv (as := [zi t1, zi r, zi (zdiv (σ 0 13) 365)]) (st := []) mkX0_part lkRX11_416 rfl rfl rfl (by decide) (Nat.le_of_ble_eq_true rfl) rfl dX11_dividend_70 (k1)
set_option maxRecDepth 20000 in
set_option maxHeartbeats 1000000 in
theorem TX11_dividend_73 {G : zG} {σ : zS} {Q : Int → zS → Prop} {v1 r : Int}  (k1 : Q r σ) : zR G MX11_dividend 73 [zr 0, zi v1] [zi r] σ Q := by
  exact z_ireti rfl dX11_dividend_73 (k1)
set_option maxRecDepth 20000 in
set_option maxHeartbeats 1000000 in
theorem TX11_got {G : zG} {σ : zS} {Q : Int → zS → Prop} {a1 : Int}  (k1 : (¬ ((0 ≤ a1 ∧ a1 < σ 22 12))) → Q (-1) σ) (k2 : ((0 ≤ a1 ∧ a1 < σ 22 12)) → (0 : Int) ≤ a1 ∧ a1 < (24 : Int)) (k3 : ((0 ≤ a1 ∧ a1 < σ 22 12)) → Q (σ 82 a1) σ) : zO G MX11_got [zr 0, zi a1] σ Q := by
  refine zO_of (ls0 := [zr 0, zi a1]) (by decide) (Nat.le_of_ble_eq_true rfl) rfl ?_
  refine z_aload_n dX11_got_0 rfl rfl ?_
  refine z_getfR (k := 1) flRX11_18 rfl rfl dX11_got_1 ?_
  refine z_iload_n dX11_got_4 rfl rfl ?_
  refine z_callv (as := [zi a1]) (st := []) mkX5_has lkRX11_146 rfl rfl rfl (by decide) (Nat.le_of_ble_eq_true rfl) rfl dX11_got_5 ?_
  refine SX5_has ?_
  show zR G MX11_got 8 [zr 0, zi a1] [zi (if (0 ≤ a1 ∧ a1 < σ 22 12) then (1 : Int) else 0)] σ Q
  refine z_if_eq dX11_got_8 (tgt := 23) (by decide) (fun z => ?_) (fun z => ?_)
  · have h1 : ¬ ((0 ≤ a1 ∧ a1 < σ 22 12)) := zb0 z
    refine z_iconst dX11_got_23 (by unfold zIn; decide) ?_
    exact z_ireti rfl dX11_got_24 (k1 h1)
  · have h1 : (0 ≤ a1 ∧ a1 < σ 22 12) := zb1 z
    refine z_aload_n dX11_got_11 rfl rfl ?_
    refine z_getfR (k := 8) flRX11_77 rfl rfl dX11_got_12 ?_
    refine z_getfR (k := 2) flRX11_419 rfl rfl dX11_got_15 ?_
    refine z_iload_n dX11_got_18 rfl rfl ?_
    have s2 : (0 : Int) ≤ a1 ∧ a1 < (24 : Int) := k2 h1
    refine z_iald rfl s2.1 s2.2 dX11_got_19 ?_
    refine z_goto dX11_got_20 (tgt := 24) (by decide) ?_
    exact z_ireti rfl dX11_got_24 (k3 h1)
set_option maxRecDepth 20000 in
set_option maxHeartbeats 1000000 in
theorem TX11_other {G : zG} {σ : zS} {Q : Int → zS → Prop} {a1 : Int}  (k1 : (((-99999) ≤ a1 ∧ a1 ≤ 99999)) → -2147483648 ≤ σ 79 3 + a1 ∧ σ 79 3 + a1 < (2147483648 : Int)) (k2 : (((-99999) ≤ a1 ∧ a1 ≤ 99999)) → (0 ≤ σ 79 3 + a1) → (¬ (400 ≤ σ 79 4)) → -2147483648 ≤ σ 79 4 + 1 ∧ σ 79 4 + 1 < (2147483648 : Int)) (k3 : (((-99999) ≤ a1 ∧ a1 ≤ 99999)) → (0 ≤ σ 79 3 + a1) → (¬ (400 ≤ σ 79 4)) → -2147483648 ≤ 110 * 3 ∧ 110 * 3 < (2147483648 : Int)) (k4 : (((-99999) ≤ a1 ∧ a1 ≤ 99999)) → (0 ≤ σ 79 3 + a1) → (¬ (400 ≤ σ 79 4)) → -2147483648 ≤ (110 * 3) + (zdiv (σ 0 13) 365) ∧ (110 * 3) + (zdiv (σ 0 13) 365) < (2147483648 : Int)) (k5 : (((-99999) ≤ a1 ∧ a1 ≤ 99999)) → (0 ≤ σ 79 3 + a1) → (¬ (400 ≤ σ 79 4)) → (0 : Int) ≤ (110 * 3) + (zdiv (σ 0 13) 365) ∧ (110 * 3) + (zdiv (σ 0 13) 365) < (440 : Int)) (k6 : (((-99999) ≤ a1 ∧ a1 ≤ 99999)) → (0 ≤ σ 79 3 + a1) → (¬ (400 ≤ σ 79 4)) → -2147483648 ≤ (σ 80 ((110 * 3) + (zdiv (σ 0 13) 365))) + a1 ∧ (σ 80 ((110 * 3) + (zdiv (σ 0 13) 365))) + a1 < (2147483648 : Int)) (k7 : (((-99999) ≤ a1 ∧ a1 ≤ 99999)) → (0 ≤ σ 79 3 + a1) → (¬ (400 ≤ σ 79 4)) → Q (σ 79 3 + a1) (zup (zup (zup σ 79 3 (σ 79 3 + a1)) 79 4 (σ 79 4 + 1)) 80 ((110 * 3) + (zdiv (σ 0 13) 365)) ((σ 80 ((110 * 3) + (zdiv (σ 0 13) 365))) + a1))) (k8 : (((-99999) ≤ a1 ∧ a1 ≤ 99999)) → (0 ≤ σ 79 3 + a1) → (400 ≤ σ 79 4) → -2147483648 ≤ -(-7) ∧ -(-7) < (2147483648 : Int)) (k9 : (((-99999) ≤ a1 ∧ a1 ≤ 99999)) → (0 ≤ σ 79 3 + a1) → (400 ≤ σ 79 4) → (0 : Int) ≤ -(-7) ∧ -(-7) < (8 : Int)) (k10 : (((-99999) ≤ a1 ∧ a1 ≤ 99999)) → (0 ≤ σ 79 3 + a1) → (400 ≤ σ 79 4) → Q (-7) (zup σ 97 (-(-7)) (zW ((σ 97 (-(-7))) + 1)))) (k11 : ((¬ (((-99999) ≤ a1 ∧ a1 ≤ 99999))) ∨ ((((-99999) ≤ a1 ∧ a1 ≤ 99999)) ∧ σ 79 3 + a1 < 0)) → -2147483648 ≤ -(-6) ∧ -(-6) < (2147483648 : Int)) (k12 : ((¬ (((-99999) ≤ a1 ∧ a1 ≤ 99999))) ∨ ((((-99999) ≤ a1 ∧ a1 ≤ 99999)) ∧ σ 79 3 + a1 < 0)) → (0 : Int) ≤ -(-6) ∧ -(-6) < (8 : Int)) (k13 : ((¬ (((-99999) ≤ a1 ∧ a1 ≤ 99999))) ∨ ((((-99999) ≤ a1 ∧ a1 ≤ 99999)) ∧ σ 79 3 + a1 < 0)) → Q (-6) (zup σ 97 (-(-6)) (zW ((σ 97 (-(-6))) + 1)))) : zO G MX11_other [zr 0, zi a1] σ Q := by
  refine zO_of (ls0 := [zr 0, zi a1]) (by decide) (Nat.le_of_ble_eq_true rfl) rfl ?_
  have J25 : ((¬ (((-99999) ≤ a1 ∧ a1 ≤ 99999))) ∨ ((((-99999) ≤ a1 ∧ a1 ≤ 99999)) ∧ σ 79 3 + a1 < 0)) → zR G MX11_other 25 [zr 0, zi a1] [] σ Q := by
    intro h4
    refine z_aload_n dX11_other_25 rfl rfl ?_
    refine z_bipush (x := (-6)) dX11_other_26 (by decide +kernel) (by unfold zIn; decide) ?_
    have s11 : -2147483648 ≤ -(-6) ∧ -(-6) < (2147483648 : Int) := k11 h4
    have s12 : (0 : Int) ≤ -(-6) ∧ -(-6) < (8 : Int) := k12 h4
    refine z_callv (as := [zi (-6)]) (st := []) mkX11_refuse lkRX11_132 rfl rfl rfl (by decide) (Nat.le_of_ble_eq_true rfl) rfl dX11_other_28 ?_
    refine SX11_refuse s11 s12 ?_
    show zR G MX11_other 31 [zr 0, zi a1] [zi (-6)] (zup σ 97 (-(-6)) (zW ((σ 97 (-(-6))) + 1))) Q
    exact z_ireti rfl dX11_other_31 (k13 h4)
  refine z_iload_n dX11_other_0 rfl rfl ?_
  refine z_ldcw (x := (-99999)) (zin_5 (List.mem_of_getElem? (i := 204) (by decide +kernel))) (by unfold zIn; decide) dX11_other_1 ?_
  refine z_ldcw (x := 99999) (zin_5 (List.mem_of_getElem? (i := 205) (by decide +kernel))) (by unfold zIn; decide) dX11_other_4 ?_
  refine z_calls (as := [zi a1, zi (-99999), zi 99999]) (st := []) mkX11_within lkRX11_111 rfl (by decide) (Nat.le_of_ble_eq_true rfl) rfl dX11_other_7 ?_
  refine SX11_within ?_
  show zR G MX11_other 10 [zr 0, zi a1] [zi (if ((-99999) ≤ a1 ∧ a1 ≤ 99999) then (1 : Int) else 0)] σ Q
  refine z_if_eq dX11_other_10 (tgt := 25) (by decide) (fun z => ?_) (fun z => ?_)
  · have h1 : ¬ (((-99999) ≤ a1 ∧ a1 ≤ 99999)) := zb0 z
    exact J25 (Or.inl h1)
  · have h1 : ((-99999) ≤ a1 ∧ a1 ≤ 99999) := zb1 z
    refine z_aload_n dX11_other_13 rfl rfl ?_
    refine z_getfR (k := 8) flRX11_77 rfl rfl dX11_other_14 ?_
    refine z_getfI (k := 3) flRX11_407 rfl rfl dX11_other_17 ?_
    refine z_iload_n dX11_other_20 rfl rfl ?_
    have s1 : -2147483648 ≤ σ 79 3 + a1 ∧ σ 79 3 + a1 < (2147483648 : Int) := k1 h1
    refine z_iaddN dX11_other_21 s1 ?_
    refine z_if_ge dX11_other_22 (tgt := 32) (by decide) (fun h2 => ?_) (fun h2 => ?_)
    · skip
      refine z_aload_n dX11_other_32 rfl rfl ?_
      refine z_getfR (k := 8) flRX11_77 rfl rfl dX11_other_33 ?_
      refine z_callv (as := []) (st := []) mkX0_isFull lkRX11_391 rfl rfl rfl (by decide) (Nat.le_of_ble_eq_true rfl) rfl dX11_other_36 ?_
      refine SX0_isFull ?_
      show zR G MX11_other 39 [zr 0, zi a1] [zi (if 400 ≤ σ 79 4 then (1 : Int) else 0)] σ Q
      refine z_if_eq dX11_other_39 (tgt := 49) (by decide) (fun z => ?_) (fun z => ?_)
      · have h3 : ¬ (400 ≤ σ 79 4) := zb0 z
        refine z_aload_n dX11_other_49 rfl rfl ?_
        refine z_getfR (k := 8) flRX11_77 rfl rfl dX11_other_50 ?_
        refine z_iconst dX11_other_53 (by unfold zIn; decide) ?_
        refine z_aload_n dX11_other_54 rfl rfl ?_
        refine z_callv (as := []) (st := [zi 3, zr 79]) mkX11_thisYear lkRX11_384 rfl rfl rfl (by decide) (Nat.le_of_ble_eq_true rfl) rfl dX11_other_55 ?_
        refine SX11_thisYear ?_
        show zR G MX11_other 58 [zr 0, zi a1] [zi (zdiv (σ 0 13) 365), zi 3, zr 79] σ Q
        refine z_iload_n dX11_other_58 rfl rfl ?_
        have s2 : -2147483648 ≤ σ 79 4 + 1 ∧ σ 79 4 + 1 < (2147483648 : Int) := k2 h1 h2 h3
        have s3 : -2147483648 ≤ 110 * 3 ∧ 110 * 3 < (2147483648 : Int) := k3 h1 h2 h3
        have s4 : -2147483648 ≤ (110 * 3) + (zdiv (σ 0 13) 365) ∧ (110 * 3) + (zdiv (σ 0 13) 365) < (2147483648 : Int) := k4 h1 h2 h3
        have s5 : (0 : Int) ≤ (110 * 3) + (zdiv (σ 0 13) 365) ∧ (110 * 3) + (zdiv (σ 0 13) 365) < (440 : Int) := k5 h1 h2 h3
        have s6 : -2147483648 ≤ (σ 80 ((110 * 3) + (zdiv (σ 0 13) 365))) + a1 ∧ (σ 80 ((110 * 3) + (zdiv (σ 0 13) 365))) + a1 < (2147483648 : Int) := k6 h1 h2 h3
        refine z_callv (as := [zi 3, zi (zdiv (σ 0 13) 365), zi a1]) (st := []) mkX0_enter lkRX11_398 rfl rfl rfl (by decide) (Nat.le_of_ble_eq_true rfl) rfl dX11_other_59 ?_
        refine SX0_enter s1 s2 s3 s4 s5 s6 ?_
        show zR G MX11_other 62 [zr 0, zi a1] [] (zup (zup (zup σ 79 3 (σ 79 3 + a1)) 79 4 (σ 79 4 + 1)) 80 ((110 * 3) + (zdiv (σ 0 13) 365)) ((σ 80 ((110 * 3) + (zdiv (σ 0 13) 365))) + a1)) Q
        refine z_aload_n dX11_other_62 rfl rfl ?_
        refine z_getfR (k := 8) flRX11_77 rfl rfl dX11_other_63 ?_
        refine z_getfE (k := 3) (v := σ 79 3 + a1) flRX11_407 rfl rfl ((zup_of (by decide)).trans ((zup_oi (by decide)).trans (zup_same))) dX11_other_66 ?_
        exact z_ireti rfl dX11_other_69 (k7 h1 h2 h3)
      · have h3 : 400 ≤ σ 79 4 := zb1 z
        refine z_aload_n dX11_other_42 rfl rfl ?_
        refine z_bipush (x := (-7)) dX11_other_43 (by decide +kernel) (by unfold zIn; decide) ?_
        have s8 : -2147483648 ≤ -(-7) ∧ -(-7) < (2147483648 : Int) := k8 h1 h2 h3
        have s9 : (0 : Int) ≤ -(-7) ∧ -(-7) < (8 : Int) := k9 h1 h2 h3
        refine z_callv (as := [zi (-7)]) (st := []) mkX11_refuse lkRX11_132 rfl rfl rfl (by decide) (Nat.le_of_ble_eq_true rfl) rfl dX11_other_45 ?_
        refine SX11_refuse s8 s9 ?_
        show zR G MX11_other 48 [zr 0, zi a1] [zi (-7)] (zup σ 97 (-(-7)) (zW ((σ 97 (-(-7))) + 1))) Q
        exact z_ireti rfl dX11_other_48 (k10 h1 h2 h3)
    · skip
      exact J25 (Or.inr ⟨h1, h2⟩)
set_option maxRecDepth 20000 in
set_option maxHeartbeats 1000000 in
theorem TX11_head {G : zG} {σ : zS} {Q : Int → zS → Prop} {a1 a2 : Int}  (k1 : ((0 ≤ a1 ∧ a1 ≤ 3)) → (¬ ((0 ≤ a2 ∧ a2 ≤ 109))) → Q 0 σ) (k2 : ((0 ≤ a1 ∧ a1 ≤ 3)) → ((0 ≤ a2 ∧ a2 ≤ 109)) → -2147483648 ≤ 110 * a1 ∧ 110 * a1 < (2147483648 : Int)) (k3 : ((0 ≤ a1 ∧ a1 ≤ 3)) → ((0 ≤ a2 ∧ a2 ≤ 109)) → -2147483648 ≤ (110 * a1) + a2 ∧ (110 * a1) + a2 < (2147483648 : Int)) (k4 : ((0 ≤ a1 ∧ a1 ≤ 3)) → ((0 ≤ a2 ∧ a2 ≤ 109)) → (0 : Int) ≤ (110 * a1) + a2 ∧ (110 * a1) + a2 < (440 : Int)) (k5 : ((0 ≤ a1 ∧ a1 ≤ 3)) → ((0 ≤ a2 ∧ a2 ≤ 109)) → Q (σ 80 ((110 * a1) + a2)) σ) (k6 : (¬ ((0 ≤ a1 ∧ a1 ≤ 3))) → Q (-1000001) σ) : zO G MX11_head [zr 0, zi a1, zi a2] σ Q := by
  refine zO_of (ls0 := [zr 0, zi a1, zi a2]) (by decide) (Nat.le_of_ble_eq_true rfl) rfl ?_
  refine z_iload_n dX11_head_0 rfl rfl ?_
  refine z_iconst dX11_head_1 (by unfold zIn; decide) ?_
  refine z_iconst dX11_head_2 (by unfold zIn; decide) ?_
  refine z_calls (as := [zi a1, zi 0, zi 3]) (st := []) mkX11_within lkRX11_111 rfl (by decide) (Nat.le_of_ble_eq_true rfl) rfl dX11_head_3 ?_
  refine SX11_within ?_
  show zR G MX11_head 6 [zr 0, zi a1, zi a2] [zi (if (0 ≤ a1 ∧ a1 ≤ 3) then (1 : Int) else 0)] σ Q
  refine z_if_ne dX11_head_6 (tgt := 13) (by decide) (fun z => ?_) (fun z => ?_)
  · have h1 : (0 ≤ a1 ∧ a1 ≤ 3) := zb1 z
    refine z_iload_n dX11_head_13 rfl rfl ?_
    refine z_iconst dX11_head_14 (by unfold zIn; decide) ?_
    refine z_bipush (x := 109) dX11_head_15 (by decide +kernel) (by unfold zIn; decide) ?_
    refine z_calls (as := [zi a2, zi 0, zi 109]) (st := []) mkX11_within lkRX11_111 rfl (by decide) (Nat.le_of_ble_eq_true rfl) rfl dX11_head_17 ?_
    refine SX11_within ?_
    show zR G MX11_head 20 [zr 0, zi a1, zi a2] [zi (if (0 ≤ a2 ∧ a2 ≤ 109) then (1 : Int) else 0)] σ Q
    refine z_if_eq dX11_head_20 (tgt := 40) (by decide) (fun z => ?_) (fun z => ?_)
    · have h2 : ¬ ((0 ≤ a2 ∧ a2 ≤ 109)) := zb0 z
      refine z_iconst dX11_head_40 (by unfold zIn; decide) ?_
      exact z_ireti rfl dX11_head_41 (k1 h1 h2)
    · have h2 : (0 ≤ a2 ∧ a2 ≤ 109) := zb1 z
      refine z_aload_n dX11_head_23 rfl rfl ?_
      refine z_getfR (k := 8) flRX11_77 rfl rfl dX11_head_24 ?_
      refine z_getfR (k := 0) flRX11_425 rfl rfl dX11_head_27 ?_
      refine z_bipush (x := 110) dX11_head_30 (by decide +kernel) (by unfold zIn; decide) ?_
      refine z_iload_n dX11_head_32 rfl rfl ?_
      have s2 : -2147483648 ≤ 110 * a1 ∧ 110 * a1 < (2147483648 : Int) := k2 h1 h2
      refine z_imulN dX11_head_33 s2 ?_
      refine z_iload_n dX11_head_34 rfl rfl ?_
      have s3 : -2147483648 ≤ (110 * a1) + a2 ∧ (110 * a1) + a2 < (2147483648 : Int) := k3 h1 h2
      refine z_iaddN dX11_head_35 s3 ?_
      have s4 : (0 : Int) ≤ (110 * a1) + a2 ∧ (110 * a1) + a2 < (440 : Int) := k4 h1 h2
      refine z_iald rfl s4.1 s4.2 dX11_head_36 ?_
      refine z_goto dX11_head_37 (tgt := 41) (by decide) ?_
      exact z_ireti rfl dX11_head_41 (k5 h1 h2)
  · have h1 : ¬ ((0 ≤ a1 ∧ a1 ≤ 3)) := zb0 z
    refine z_ldcw (x := (-1000001)) (zin_5 (List.mem_of_getElem? (i := 210) (by decide +kernel))) (by unfold zIn; decide) dX11_head_9 ?_
    exact z_ireti rfl dX11_head_12 (k6 h1)
set_option maxRecDepth 20000 in
set_option maxHeartbeats 1000000 in
theorem TX11_roof {G : zG} {σ : zS} {Q : Int → zS → Prop} {a1 a2 : Int}  (k1 : ((1 ≤ a1 ∧ a1 ≤ 99999)) → ((0 ≤ a2 ∧ a2 ≤ 9999)) → (σ 83 9 ≠ 2) → (0 : Int) ≤ σ 83 9 ∧ σ 83 9 < (2 : Int)) (k2 : ((1 ≤ a1 ∧ a1 ≤ 99999)) → ((0 ≤ a2 ∧ a2 ≤ 9999)) → (σ 83 9 ≠ 2) → -2147483648 ≤ σ 83 9 + 1 ∧ σ 83 9 + 1 < (2147483648 : Int)) (k3 : ((1 ≤ a1 ∧ a1 ≤ 99999)) → ((0 ≤ a2 ∧ a2 ≤ 9999)) → (σ 83 9 ≠ 2) → Q (σ 83 9) (zup (zup (zup σ 84 (σ 83 9) a1) 85 (σ 83 9) a2) 83 9 (σ 83 9 + 1))) (k4 : ((1 ≤ a1 ∧ a1 ≤ 99999)) → ((0 ≤ a2 ∧ a2 ≤ 9999)) → (σ 83 9 = 2) → -2147483648 ≤ -(-7) ∧ -(-7) < (2147483648 : Int)) (k5 : ((1 ≤ a1 ∧ a1 ≤ 99999)) → ((0 ≤ a2 ∧ a2 ≤ 9999)) → (σ 83 9 = 2) → (0 : Int) ≤ -(-7) ∧ -(-7) < (8 : Int)) (k6 : ((1 ≤ a1 ∧ a1 ≤ 99999)) → ((0 ≤ a2 ∧ a2 ≤ 9999)) → (σ 83 9 = 2) → Q (-7) (zup σ 97 (-(-7)) (zW ((σ 97 (-(-7))) + 1)))) (k7 : ((¬ ((1 ≤ a1 ∧ a1 ≤ 99999))) ∨ (((1 ≤ a1 ∧ a1 ≤ 99999)) ∧ (¬ ((0 ≤ a2 ∧ a2 ≤ 9999))))) → -2147483648 ≤ -(-6) ∧ -(-6) < (2147483648 : Int)) (k8 : ((¬ ((1 ≤ a1 ∧ a1 ≤ 99999))) ∨ (((1 ≤ a1 ∧ a1 ≤ 99999)) ∧ (¬ ((0 ≤ a2 ∧ a2 ≤ 9999))))) → (0 : Int) ≤ -(-6) ∧ -(-6) < (8 : Int)) (k9 : ((¬ ((1 ≤ a1 ∧ a1 ≤ 99999))) ∨ (((1 ≤ a1 ∧ a1 ≤ 99999)) ∧ (¬ ((0 ≤ a2 ∧ a2 ≤ 9999))))) → Q (-6) (zup σ 97 (-(-6)) (zW ((σ 97 (-(-6))) + 1)))) : zO G MX11_roof [zr 0, zi a1, zi a2] σ Q := by
  refine zO_of (ls0 := [zr 0, zi a1, zi a2]) (by decide) (Nat.le_of_ble_eq_true rfl) rfl ?_
  have J22 : ((¬ ((1 ≤ a1 ∧ a1 ≤ 99999))) ∨ (((1 ≤ a1 ∧ a1 ≤ 99999)) ∧ (¬ ((0 ≤ a2 ∧ a2 ≤ 9999))))) → zR G MX11_roof 22 [zr 0, zi a1, zi a2] [] σ Q := by
    intro h4
    refine z_aload_n dX11_roof_22 rfl rfl ?_
    refine z_bipush (x := (-6)) dX11_roof_23 (by decide +kernel) (by unfold zIn; decide) ?_
    have s7 : -2147483648 ≤ -(-6) ∧ -(-6) < (2147483648 : Int) := k7 h4
    have s8 : (0 : Int) ≤ -(-6) ∧ -(-6) < (8 : Int) := k8 h4
    refine z_callv (as := [zi (-6)]) (st := []) mkX11_refuse lkRX11_132 rfl rfl rfl (by decide) (Nat.le_of_ble_eq_true rfl) rfl dX11_roof_25 ?_
    refine SX11_refuse s7 s8 ?_
    show zR G MX11_roof 28 [zr 0, zi a1, zi a2] [zi (-6)] (zup σ 97 (-(-6)) (zW ((σ 97 (-(-6))) + 1))) Q
    exact z_ireti rfl dX11_roof_28 (k9 h4)
  refine z_iload_n dX11_roof_0 rfl rfl ?_
  refine z_iconst dX11_roof_1 (by unfold zIn; decide) ?_
  refine z_ldcw (x := 99999) (zin_5 (List.mem_of_getElem? (i := 205) (by decide +kernel))) (by unfold zIn; decide) dX11_roof_2 ?_
  refine z_calls (as := [zi a1, zi 1, zi 99999]) (st := []) mkX11_within lkRX11_111 rfl (by decide) (Nat.le_of_ble_eq_true rfl) rfl dX11_roof_5 ?_
  refine SX11_within ?_
  show zR G MX11_roof 8 [zr 0, zi a1, zi a2] [zi (if (1 ≤ a1 ∧ a1 ≤ 99999) then (1 : Int) else 0)] σ Q
  refine z_if_eq dX11_roof_8 (tgt := 22) (by decide) (fun z => ?_) (fun z => ?_)
  · have h1 : ¬ ((1 ≤ a1 ∧ a1 ≤ 99999)) := zb0 z
    exact J22 (Or.inl h1)
  · have h1 : (1 ≤ a1 ∧ a1 ≤ 99999) := zb1 z
    refine z_iload_n dX11_roof_11 rfl rfl ?_
    refine z_iconst dX11_roof_12 (by unfold zIn; decide) ?_
    refine z_sipush (x := 9999) dX11_roof_13 (by decide +kernel) (by unfold zIn; decide) ?_
    refine z_calls (as := [zi a2, zi 0, zi 9999]) (st := []) mkX11_within lkRX11_111 rfl (by decide) (Nat.le_of_ble_eq_true rfl) rfl dX11_roof_16 ?_
    refine SX11_within ?_
    show zR G MX11_roof 19 [zr 0, zi a1, zi a2] [zi (if (0 ≤ a2 ∧ a2 ≤ 9999) then (1 : Int) else 0)] σ Q
    refine z_if_ne dX11_roof_19 (tgt := 29) (by decide) (fun z => ?_) (fun z => ?_)
    · have h2 : (0 ≤ a2 ∧ a2 ≤ 9999) := zb1 z
      refine z_aload_n dX11_roof_29 rfl rfl ?_
      refine z_getfR (k := 9) flRX11_86 rfl rfl dX11_roof_30 ?_
      refine z_getfI (k := 9) flRX11_428 rfl rfl dX11_roof_33 ?_
      refine z_iconst dX11_roof_36 (by unfold zIn; decide) ?_
      refine z_icmp_ne dX11_roof_37 (tgt := 49) (by decide) (fun h3 => ?_) (fun h3 => ?_)
      · skip
        refine z_aload_n dX11_roof_49 rfl rfl ?_
        refine z_getfR (k := 9) flRX11_86 rfl rfl dX11_roof_50 ?_
        refine z_iload_n dX11_roof_53 rfl rfl ?_
        refine z_iload_n dX11_roof_54 rfl rfl ?_
        have s1 : (0 : Int) ≤ σ 83 9 ∧ σ 83 9 < (2 : Int) := k1 h1 h2 h3
        have s2 : -2147483648 ≤ σ 83 9 + 1 ∧ σ 83 9 + 1 < (2147483648 : Int) := k2 h1 h2 h3
        refine z_callv (as := [zi a1, zi a2]) (st := []) mkX7_addRoof lkRX11_431 rfl rfl rfl (by decide) (Nat.le_of_ble_eq_true rfl) rfl dX11_roof_55 ?_
        refine SX7_addRoof s1 s2 ?_
        show zR G MX11_roof 58 [zr 0, zi a1, zi a2] [zi (σ 83 9)] (zup (zup (zup σ 84 (σ 83 9) a1) 85 (σ 83 9) a2) 83 9 (σ 83 9 + 1)) Q
        exact z_ireti rfl dX11_roof_58 (k3 h1 h2 h3)
      · skip
        refine z_aload_n dX11_roof_40 rfl rfl ?_
        refine z_bipush (x := (-7)) dX11_roof_41 (by decide +kernel) (by unfold zIn; decide) ?_
        have s4 : -2147483648 ≤ -(-7) ∧ -(-7) < (2147483648 : Int) := k4 h1 h2 h3
        have s5 : (0 : Int) ≤ -(-7) ∧ -(-7) < (8 : Int) := k5 h1 h2 h3
        refine z_callv (as := [zi (-7)]) (st := []) mkX11_refuse lkRX11_132 rfl rfl rfl (by decide) (Nat.le_of_ble_eq_true rfl) rfl dX11_roof_43 ?_
        refine SX11_refuse s4 s5 ?_
        show zR G MX11_roof 46 [zr 0, zi a1, zi a2] [zi (-7)] (zup σ 97 (-(-7)) (zW ((σ 97 (-(-7))) + 1))) Q
        refine z_goto dX11_roof_46 (tgt := 58) (by decide) ?_
        exact z_ireti rfl dX11_roof_58 (k6 h1 h2 h3)
    · have h2 : ¬ ((0 ≤ a2 ∧ a2 ≤ 9999)) := zb0 z
      exact J22 (Or.inr ⟨h1, h2⟩)
set_option maxRecDepth 20000 in
set_option maxHeartbeats 1000000 in
theorem TX7_gainByRenewing {G : zG} {σ : zS} {Q : Int → zS → Prop} {a1 a2 a3 : Int}  (k1 : -2147483648 ≤ 10 * a1 ∧ 10 * a1 < (2147483648 : Int)) (k2 : -2147483648 ≤ (10 * a1) + a3 ∧ (10 * a1) + a3 < (2147483648 : Int)) (k3 : zO G MX4_fineFor [zr 68, zi a1, zi 0] σ (fun rr σ' => zR G MX7_gainByRenewing 23 [zr 83, zi a1, zi a2, zi a3, zi (10 * a1), zu] [zi rr, zi ((10 * a1) + a3), zr 87] σ' Q)) : zO G MX7_gainByRenewing [zr 83, zi a1, zi a2, zi a3] σ Q := by
  refine zO_of (ls0 := [zr 83, zi a1, zi a2, zi a3, zu, zu]) (by decide) (Nat.le_of_ble_eq_true rfl) rfl ?_
  refine z_bipush (x := 10) dX7_gainByRenewing_0 (by decide +kernel) (by unfold zIn; decide) ?_
  refine z_iload_n dX7_gainByRenewing_2 rfl rfl ?_
  have s1 : -2147483648 ≤ 10 * a1 ∧ 10 * a1 < (2147483648 : Int) := k1
  refine z_imulN dX7_gainByRenewing_3 s1 ?_
  refine z_istore (ls' := [zr 83, zi a1, zi a2, zi a3, zi (10 * a1), zu]) dX7_gainByRenewing_4 (by decide) rfl ?_
  refine z_aload_n dX7_gainByRenewing_6 rfl rfl ?_
  refine z_getfR (k := 5) flRX7_23 rfl rfl dX7_gainByRenewing_7 ?_
  refine z_iload dX7_gainByRenewing_10 rfl ?_
  refine z_iload_n dX7_gainByRenewing_12 rfl rfl ?_
  have s2 : -2147483648 ≤ (10 * a1) + a3 ∧ (10 * a1) + a3 < (2147483648 : Int) := k2
  refine z_iaddN dX7_gainByRenewing_13 s2 ?_
  refine z_aload_n dX7_gainByRenewing_14 rfl rfl ?_
  refine z_getfR (k := 0) flRX7_51 rfl rfl dX7_gainByRenewing_15 ?_
  refine z_iload_n dX7_gainByRenewing_18 rfl rfl ?_
  refine z_iconst dX7_gainByRenewing_19 (by unfold zIn; decide) ?_
  refine z_callv (as := [zi a1, zi 0]) (st := [zi ((10 * a1) + a3), zr 87]) mkX4_fineFor lkRX7_92 rfl rfl rfl (by decide) (Nat.le_of_ble_eq_true rfl) rfl dX7_gainByRenewing_20 (k3)
set_option maxRecDepth 20000 in
set_option maxHeartbeats 1000000 in
theorem TX7_gainByRenewing_23 {G : zG} {σ : zS} {Q : Int → zS → Prop} {v1 v2 v3 v4 r t1 : Int}  (k1 : (0 : Int) ≤ t1 ∧ t1 < (80 : Int)) (k2 : -2147483648 ≤ v3 + 1 ∧ v3 + 1 < (2147483648 : Int)) (k3 : zR G MX7_gainByRenewing 29 [zr 83, zi v1, zi v2, zi v3, zi v4, zi (v3 + 1)] [] (zup σ 87 t1 r) Q) : zR G MX7_gainByRenewing 23 [zr 83, zi v1, zi v2, zi v3, zi v4, zu] [zi r, zi t1, zr 87] σ Q := by
  have s1 : (0 : Int) ≤ t1 ∧ t1 < (80 : Int) := k1
  refine z_iast rfl s1.1 s1.2 dX7_gainByRenewing_23 ?_
  refine z_iload_n dX7_gainByRenewing_24 rfl rfl ?_
  refine z_iconst dX7_gainByRenewing_25 (by unfold zIn; decide) ?_
  have s2 : -2147483648 ≤ v3 + 1 ∧ v3 + 1 < (2147483648 : Int) := k2
  refine z_iaddN dX7_gainByRenewing_26 s2 ?_
  refine z_istore (ls' := [zr 83, zi v1, zi v2, zi v3, zi v4, zi (v3 + 1)]) dX7_gainByRenewing_27 (by decide) rfl ?_
  exact k3
set_option maxRecDepth 20000 in
set_option maxHeartbeats 1000000 in
theorem TX7_gainByRenewing_29 {G : zG} {σ : zS} {Q : Int → zS → Prop} {v1 v2 v3 v4 v5 : Int}  (k1 : (σ 83 10 ≤ v5) → Q 0 σ) (k2 : (v5 < σ 83 10) → -2147483648 ≤ v4 + v5 ∧ v4 + v5 < (2147483648 : Int)) (k3 : (v5 < σ 83 10) → -2147483648 ≤ v2 + v5 ∧ v2 + v5 < (2147483648 : Int)) (k4 : (v5 < σ 83 10) → zO G MX4_reservedIn [zr 68, zi v1, zi (v2 + v5)] σ (fun rr σ' => zR G MX7_gainByRenewing 59 [zr 83, zi v1, zi v2, zi v3, zi v4, zi v5] [zi rr, zi (v4 + v5), zr 87] σ' Q)) : zR G MX7_gainByRenewing 29 [zr 83, zi v1, zi v2, zi v3, zi v4, zi v5] [] σ Q := by
  refine z_iload dX7_gainByRenewing_29 rfl ?_
  refine z_aload_n dX7_gainByRenewing_31 rfl rfl ?_
  refine z_getfI (k := 10) flRX7_39 rfl rfl dX7_gainByRenewing_32 ?_
  refine z_icmp_ge dX7_gainByRenewing_35 (tgt := 76) (by decide) (fun h1 => ?_) (fun h1 => ?_)
  · skip
    exact z_vret rfl dX7_gainByRenewing_76 (k1 h1)
  · skip
    refine z_aload_n dX7_gainByRenewing_38 rfl rfl ?_
    refine z_getfR (k := 5) flRX7_23 rfl rfl dX7_gainByRenewing_39 ?_
    refine z_iload dX7_gainByRenewing_42 rfl ?_
    refine z_iload dX7_gainByRenewing_44 rfl ?_
    have s2 : -2147483648 ≤ v4 + v5 ∧ v4 + v5 < (2147483648 : Int) := k2 h1
    refine z_iaddN dX7_gainByRenewing_46 s2 ?_
    refine z_aload_n dX7_gainByRenewing_47 rfl rfl ?_
    refine z_getfR (k := 0) flRX7_51 rfl rfl dX7_gainByRenewing_48 ?_
    refine z_iload_n dX7_gainByRenewing_51 rfl rfl ?_
    refine z_iload_n dX7_gainByRenewing_52 rfl rfl ?_
    refine z_iload dX7_gainByRenewing_53 rfl ?_
    have s3 : -2147483648 ≤ v2 + v5 ∧ v2 + v5 < (2147483648 : Int) := k3 h1
    refine z_iaddN dX7_gainByRenewing_55 s3 ?_
    refine z_callv (as := [zi v1, zi (v2 + v5)]) (st := [zi (v4 + v5), zr 87]) mkX4_reservedIn lkRX7_95 rfl rfl rfl (by decide) (Nat.le_of_ble_eq_true rfl) rfl dX7_gainByRenewing_56 (k4 h1)
set_option maxRecDepth 20000 in
set_option maxHeartbeats 1000000 in
theorem TX7_gainByRenewing_59 {G : zG} {σ : zS} {Q : Int → zS → Prop} {v1 v2 v3 v4 v5 r t1 : Int}  (k1 : (0 : Int) ≤ v1 ∧ v1 < (8 : Int)) (k2 : -2147483648 ≤ r - σ 69 v1 ∧ r - σ 69 v1 < (2147483648 : Int)) (k3 : (0 : Int) ≤ t1 ∧ t1 < (80 : Int)) (k4 : -2147483648 ≤ v5 + 1 ∧ v5 + 1 < (2147483648 : Int)) (k5 : zR G MX7_gainByRenewing 29 [zr 83, zi v1, zi v2, zi v3, zi v4, zi (v5 + 1)] [] (zup σ 87 t1 (r - σ 69 v1)) Q) : zR G MX7_gainByRenewing 59 [zr 83, zi v1, zi v2, zi v3, zi v4, zi v5] [zi r, zi t1, zr 87] σ Q := by
  refine z_aload_n dX7_gainByRenewing_59 rfl rfl ?_
  refine z_getfR (k := 0) flRX7_51 rfl rfl dX7_gainByRenewing_60 ?_
  refine z_getfR (k := 1) flRX7_98 rfl rfl dX7_gainByRenewing_63 ?_
  refine z_iload_n dX7_gainByRenewing_66 rfl rfl ?_
  have s1 : (0 : Int) ≤ v1 ∧ v1 < (8 : Int) := k1
  refine z_iald rfl s1.1 s1.2 dX7_gainByRenewing_67 ?_
  have s2 : -2147483648 ≤ r - σ 69 v1 ∧ r - σ 69 v1 < (2147483648 : Int) := k2
  refine z_isubN dX7_gainByRenewing_68 s2 ?_
  have s3 : (0 : Int) ≤ t1 ∧ t1 < (80 : Int) := k3
  refine z_iast rfl s3.1 s3.2 dX7_gainByRenewing_69 ?_
  have s4 : -2147483648 ≤ v5 + 1 ∧ v5 + 1 < (2147483648 : Int) := k4
  refine z_iincN (ls' := [zr 83, zi v1, zi v2, zi v3, zi v4, zi (v5 + 1)]) dX7_gainByRenewing_70 rfl (by decide) s4 rfl ?_
  refine z_goto dX7_gainByRenewing_73 (tgt := 29) (by decide) ?_
  exact k5
set_option maxRecDepth 20000 in
set_option maxHeartbeats 1000000 in
theorem TX7_prepare {G : zG} {σ : zS} {Q : Int → zS → Prop} {a1 a2 a3 : Int}  (k1 : -2147483648 ≤ -a3 ∧ -a3 < (2147483648 : Int)) (k2 : zO G MJ7_fill_53178 [zr 86, zi (-a3)] (zup (zup σ 83 10 a2) 83 11 0) (fun rr σ' => zR G MX7_prepare 19 [zr 83, zi a1, zi a2, zi a3, zu, zu, zu, zu] [] σ' Q)) : zO G MX7_prepare [zr 83, zi a1, zi a2, zi a3] σ Q := by
  refine zO_of (ls0 := [zr 83, zi a1, zi a2, zi a3, zu, zu, zu, zu]) (by decide) (Nat.le_of_ble_eq_true rfl) rfl ?_
  refine z_aload_n dX7_prepare_0 rfl rfl ?_
  refine z_iload_n dX7_prepare_1 rfl rfl ?_
  refine z_putI (k := 10) fpRX7_39 rfl rfl dX7_prepare_2 ?_
  refine z_aload_n dX7_prepare_5 rfl rfl ?_
  refine z_iconst dX7_prepare_6 (by unfold zIn; decide) ?_
  refine z_putI (k := 11) fpRX7_42 rfl rfl dX7_prepare_7 ?_
  refine z_aload_n dX7_prepare_10 rfl rfl ?_
  refine z_getfR (k := 4) flRX7_18 rfl rfl dX7_prepare_11 ?_
  refine z_iload_n dX7_prepare_14 rfl rfl ?_
  have s1 : -2147483648 ≤ -a3 ∧ -a3 < (2147483648 : Int) := k1
  refine z_inegN dX7_prepare_15 s1 ?_
  refine z_calls (as := [zr 86, zi (-a3)]) (st := []) mkJ7_fill_53178 lkRX7_59 rfl (by decide) (Nat.le_of_ble_eq_true rfl) rfl dX7_prepare_16 (k2)
set_option maxRecDepth 20000 in
set_option maxHeartbeats 1000000 in
theorem TX7_prepare_19 {G : zG} {σ : zS} {Q : Int → zS → Prop} {v1 v2 v3 : Int}  (k1 : zO G MJ7_fill_53178 [zr 87, zi 0] σ (fun rr σ' => zR G MX7_prepare 27 [zr 83, zi v1, zi v2, zi v3, zu, zu, zu, zu] [] σ' Q)) : zR G MX7_prepare 19 [zr 83, zi v1, zi v2, zi v3, zu, zu, zu, zu] [] σ Q := by
  refine z_aload_n dX7_prepare_19 rfl rfl ?_
  refine z_getfR (k := 5) flRX7_23 rfl rfl dX7_prepare_20 ?_
  refine z_iconst dX7_prepare_23 (by unfold zIn; decide) ?_
  refine z_calls (as := [zr 87, zi 0]) (st := []) mkJ7_fill_53178 lkRX7_59 rfl (by decide) (Nat.le_of_ble_eq_true rfl) rfl dX7_prepare_24 (k1)
set_option maxRecDepth 20000 in
set_option maxHeartbeats 1000000 in
theorem TX7_prepare_27 {G : zG} {σ : zS} {Q : Int → zS → Prop} {v1 v2 v3 : Int}  (k1 : -2147483648 ≤ σ 86 0 + σ 79 3 ∧ σ 86 0 + σ 79 3 < (2147483648 : Int)) (k2 : (σ 79 5 ≠ v1) → zR G MX7_prepare 64 [zr 83, zi v1, zi v2, zi v3, zi 0, zi 0, zu, zu] [] (zup σ 86 0 (σ 86 0 + σ 79 3)) Q) (k3 : (σ 79 5 = v1) → zR G MX7_prepare 64 [zr 83, zi v1, zi v2, zi v3, zi 1, zi 0, zu, zu] [] (zup σ 86 0 (σ 86 0 + σ 79 3)) Q) : zR G MX7_prepare 27 [zr 83, zi v1, zi v2, zi v3, zu, zu, zu, zu] [] σ Q := by
  refine z_aload_n dX7_prepare_27 rfl rfl ?_
  refine z_getfR (k := 4) flRX7_18 rfl rfl dX7_prepare_28 ?_
  refine z_iconst dX7_prepare_31 (by unfold zIn; decide) ?_
  refine z_dup2 dX7_prepare_32 rfl rfl ?_
  refine z_iald rfl (by decide) (by decide) dX7_prepare_33 ?_
  refine z_aload_n dX7_prepare_34 rfl rfl ?_
  refine z_getfR (k := 1) flRX7_55 rfl rfl dX7_prepare_35 ?_
  refine z_getfI (k := 3) flRX7_65 rfl rfl dX7_prepare_38 ?_
  have s1 : -2147483648 ≤ σ 86 0 + σ 79 3 ∧ σ 86 0 + σ 79 3 < (2147483648 : Int) := k1
  refine z_iaddN dX7_prepare_41 s1 ?_
  refine z_iast rfl (by decide) (by decide) dX7_prepare_42 ?_
  refine z_aload_n dX7_prepare_43 rfl rfl ?_
  refine z_getfR (k := 1) flRX7_55 rfl rfl dX7_prepare_44 ?_
  refine z_getfE (k := 5) (v := σ 79 5) flRX7_70 rfl rfl (zup_of (by decide)) dX7_prepare_47 ?_
  refine z_iload_n dX7_prepare_50 rfl rfl ?_
  refine z_icmp_ne dX7_prepare_51 (tgt := 58) (by decide) (fun h1 => ?_) (fun h1 => ?_)
  · skip
    refine z_iconst dX7_prepare_58 (by unfold zIn; decide) ?_
    refine z_istore (ls' := [zr 83, zi v1, zi v2, zi v3, zi 0, zu, zu, zu]) dX7_prepare_59 (by decide) rfl ?_
    refine z_iconst dX7_prepare_61 (by unfold zIn; decide) ?_
    refine z_istore (ls' := [zr 83, zi v1, zi v2, zi v3, zi 0, zi 0, zu, zu]) dX7_prepare_62 (by decide) rfl ?_
    exact k2 h1
  · skip
    refine z_iconst dX7_prepare_54 (by unfold zIn; decide) ?_
    refine z_goto dX7_prepare_55 (tgt := 59) (by decide) ?_
    refine z_istore (ls' := [zr 83, zi v1, zi v2, zi v3, zi 1, zu, zu, zu]) dX7_prepare_59 (by decide) rfl ?_
    refine z_iconst dX7_prepare_61 (by unfold zIn; decide) ?_
    refine z_istore (ls' := [zr 83, zi v1, zi v2, zi v3, zi 1, zi 0, zu, zu]) dX7_prepare_62 (by decide) rfl ?_
    exact k3 h1
set_option maxRecDepth 20000 in
set_option maxHeartbeats 1000000 in
theorem TX7_prepare_64 {G : zG} {σ : zS} {Q : Int → zS → Prop} {v1 v2 v3 v4 v5 : Int}  (k1 : (σ 68 11 ≤ v5) → Q 0 σ) (k2 : (v5 < σ 68 11) → zO G MX4_endOf [zr 68, zi v5] σ (fun rr σ' => zR G MX7_prepare 85 [zr 83, zi v1, zi v2, zi v3, zi v4, zi v5, zu, zu] [zi rr] σ' Q)) : zR G MX7_prepare 64 [zr 83, zi v1, zi v2, zi v3, zi v4, zi v5, zu, zu] [] σ Q := by
  refine z_iload dX7_prepare_64 rfl ?_
  refine z_aload_n dX7_prepare_66 rfl rfl ?_
  refine z_getfR (k := 0) flRX7_51 rfl rfl dX7_prepare_67 ?_
  refine z_getfI (k := 11) flRX7_73 rfl rfl dX7_prepare_70 ?_
  refine z_icmp_ge dX7_prepare_73 (tgt := 185) (by decide) (fun h1 => ?_) (fun h1 => ?_)
  · skip
    exact z_vret rfl dX7_prepare_185 (k1 h1)
  · skip
    refine z_aload_n dX7_prepare_76 rfl rfl ?_
    refine z_getfR (k := 0) flRX7_51 rfl rfl dX7_prepare_77 ?_
    refine z_iload dX7_prepare_80 rfl ?_
    refine z_callv (as := [zi v5]) (st := []) mkX4_endOf lkRX7_76 rfl rfl rfl (by decide) (Nat.le_of_ble_eq_true rfl) rfl dX7_prepare_82 (k2 h1)
set_option maxRecDepth 20000 in
set_option maxHeartbeats 1000000 in
theorem TX7_prepare_85 {G : zG} {σ : zS} {Q : Int → zS → Prop} {v1 v2 v3 v4 v5 r : Int}  (k1 : -2147483648 ≤ r - v1 ∧ r - v1 < (2147483648 : Int)) (k2 : zR G MX7_prepare 93 [zr 83, zi v1, zi v2, zi v3, zi v4, zi v5, zi (r - v1), zi v4] [] σ Q) : zR G MX7_prepare 85 [zr 83, zi v1, zi v2, zi v3, zi v4, zi v5, zu, zu] [zi r] σ Q := by
  refine z_iload_n dX7_prepare_85 rfl rfl ?_
  have s1 : -2147483648 ≤ r - v1 ∧ r - v1 < (2147483648 : Int) := k1
  refine z_isubN dX7_prepare_86 s1 ?_
  refine z_istore (ls' := [zr 83, zi v1, zi v2, zi v3, zi v4, zi v5, zi (r - v1), zu]) dX7_prepare_87 (by decide) rfl ?_
  refine z_iload dX7_prepare_89 rfl ?_
  refine z_istore (ls' := [zr 83, zi v1, zi v2, zi v3, zi v4, zi v5, zi (r - v1), zi v4]) dX7_prepare_91 (by decide) rfl ?_
  exact k2
set_option maxRecDepth 20000 in
set_option maxHeartbeats 1000000 in
theorem TX7_prepare_93 {G : zG} {σ : zS} {Q : Int → zS → Prop} {v1 v2 v3 v4 v5 v6 v7 : Int}  (k1 : (σ 83 10 ≤ v7) → (0 : Int) ≤ v5 ∧ v5 < (8 : Int)) (k2 : (σ 83 10 ≤ v7) → (¬ (σ 75 v5 ≠ 0)) → (0 ≤ v6) → (v6 < σ 83 10) → zO G MX7_gainByRenewing [zr 83, zi v5, zi v1, zi v6] (zup σ 83 11 (zor (σ 83 11) (zshl 1 v5))) (fun rr σ' => zR G MX7_prepare 179 [zr 83, zi v1, zi v2, zi v3, zi v4, zi v5, zi v6, zi v7] [] σ' Q)) (k3 : (v7 < σ 83 10) → (0 : Int) ≤ v7 ∧ v7 < (10 : Int)) (k4 : (v7 < σ 83 10) → -2147483648 ≤ v1 + v7 ∧ v1 + v7 < (2147483648 : Int)) (k5 : (v7 < σ 83 10) → zO G MX4_dueIn [zr 68, zi v5, zi (v1 + v7)] σ (fun rr σ' => zR G MX7_prepare 123 [zr 83, zi v1, zi v2, zi v3, zi v4, zi v5, zi v6, zi v7] [zi rr, zi (σ 86 v7), zi v7, zr 86] σ' Q)) (k6 : (σ 83 10 ≤ v7) → (σ 75 v5 ≠ 0 ∨ ((¬ (σ 75 v5 ≠ 0)) ∧ v6 < 0) ∨ ((¬ (σ 75 v5 ≠ 0)) ∧ 0 ≤ v6 ∧ σ 83 10 ≤ v6)) → -2147483648 ≤ v5 + 1 ∧ v5 + 1 < (2147483648 : Int)) (k7 : (σ 83 10 ≤ v7) → (σ 75 v5 ≠ 0 ∨ ((¬ (σ 75 v5 ≠ 0)) ∧ v6 < 0) ∨ ((¬ (σ 75 v5 ≠ 0)) ∧ 0 ≤ v6 ∧ σ 83 10 ≤ v6)) → zR G MX7_prepare 64 [zr 83, zi v1, zi v2, zi v3, zi v4, zi (v5 + 1), zu, zu] [] σ Q) : zR G MX7_prepare 93 [zr 83, zi v1, zi v2, zi v3, zi v4, zi v5, zi v6, zi v7] [] σ Q := by
  have J179 : (σ 83 10 ≤ v7) → (σ 75 v5 ≠ 0 ∨ ((¬ (σ 75 v5 ≠ 0)) ∧ v6 < 0) ∨ ((¬ (σ 75 v5 ≠ 0)) ∧ 0 ≤ v6 ∧ σ 83 10 ≤ v6)) → zR G MX7_prepare 179 [zr 83, zi v1, zi v2, zi v3, zi v4, zi v5, zi v6, zi v7] [] σ Q := by
    intro h1 h5
    have s6 : -2147483648 ≤ v5 + 1 ∧ v5 + 1 < (2147483648 : Int) := k6 h1 h5
    refine z_iincN (ls' := [zr 83, zi v1, zi v2, zi v3, zi v4, zi (v5 + 1), zi v6, zi v7]) dX7_prepare_179 rfl (by decide) s6 rfl ?_
    refine z_goto dX7_prepare_182 (tgt := 64) (by decide) ?_
    exact zR_fg [false, false, false, false, false, false, true, true] (k7 h1 h5)
  refine z_iload dX7_prepare_93 rfl ?_
  refine z_aload_n dX7_prepare_95 rfl rfl ?_
  refine z_getfI (k := 10) flRX7_39 rfl rfl dX7_prepare_96 ?_
  refine z_icmp_ge dX7_prepare_99 (tgt := 131) (by decide) (fun h1 => ?_) (fun h1 => ?_)
  · skip
    refine z_aload_n dX7_prepare_131 rfl rfl ?_
    refine z_getfR (k := 0) flRX7_51 rfl rfl dX7_prepare_132 ?_
    refine z_iload dX7_prepare_135 rfl ?_
    have s1 : (0 : Int) ≤ v5 ∧ v5 < (8 : Int) := k1 h1
    refine z_callv (as := [zi v5]) (st := []) mkX4_isForLives lkRX7_84 rfl rfl rfl (by decide) (Nat.le_of_ble_eq_true rfl) rfl dX7_prepare_137 ?_
    refine SX4_isForLives s1 ?_
    show zR G MX7_prepare 140 [zr 83, zi v1, zi v2, zi v3, zi v4, zi v5, zi v6, zi v7] [zi (if σ 75 v5 ≠ 0 then (1 : Int) else 0)] σ Q
    refine z_if_ne dX7_prepare_140 (tgt := 179) (by decide) (fun z => ?_) (fun z => ?_)
    · have h2 : σ 75 v5 ≠ 0 := zb1 z
      exact J179 h1 (Or.inl h2)
    · have h2 : ¬ (σ 75 v5 ≠ 0) := zb0 z
      refine z_iload dX7_prepare_143 rfl ?_
      refine z_if_lt dX7_prepare_145 (tgt := 179) (by decide) (fun h3 => ?_) (fun h3 => ?_)
      · skip
        exact J179 h1 (Or.inr (Or.inl ⟨h2, h3⟩))
      · skip
        refine z_iload dX7_prepare_148 rfl ?_
        refine z_aload_n dX7_prepare_150 rfl rfl ?_
        refine z_getfI (k := 10) flRX7_39 rfl rfl dX7_prepare_151 ?_
        refine z_icmp_ge dX7_prepare_154 (tgt := 179) (by decide) (fun h4 => ?_) (fun h4 => ?_)
        · skip
          exact J179 h1 (Or.inr (Or.inr ⟨h2, h3, h4⟩))
        · skip
          refine z_aload_n dX7_prepare_157 rfl rfl ?_
          refine z_dup dX7_prepare_158 rfl ?_
          refine z_getfI (k := 11) flRX7_42 rfl rfl dX7_prepare_159 ?_
          refine z_iconst dX7_prepare_162 (by unfold zIn; decide) ?_
          refine z_iload dX7_prepare_163 rfl ?_
          refine z_ishl dX7_prepare_165 ?_
          refine z_ior dX7_prepare_166 ?_
          refine z_putI (k := 11) fpRX7_42 rfl rfl dX7_prepare_167 ?_
          refine z_aload_n dX7_prepare_170 rfl rfl ?_
          refine z_iload dX7_prepare_171 rfl ?_
          refine z_iload_n dX7_prepare_173 rfl rfl ?_
          refine z_iload dX7_prepare_174 rfl ?_
          refine z_callv (as := [zi v5, zi v1, zi v6]) (st := []) mkX7_gainByRenewing lkRX7_88 rfl rfl rfl (by decide) (Nat.le_of_ble_eq_true rfl) rfl dX7_prepare_176 (k2 h1 h2 h3 h4)
  · skip
    refine z_aload_n dX7_prepare_102 rfl rfl ?_
    refine z_getfR (k := 4) flRX7_18 rfl rfl dX7_prepare_103 ?_
    refine z_iload dX7_prepare_106 rfl ?_
    refine z_dup2 dX7_prepare_108 rfl rfl ?_
    have s3 : (0 : Int) ≤ v7 ∧ v7 < (10 : Int) := k3 h1
    refine z_iald rfl s3.1 s3.2 dX7_prepare_109 ?_
    refine z_aload_n dX7_prepare_110 rfl rfl ?_
    refine z_getfR (k := 0) flRX7_51 rfl rfl dX7_prepare_111 ?_
    refine z_iload dX7_prepare_114 rfl ?_
    refine z_iload_n dX7_prepare_116 rfl rfl ?_
    refine z_iload dX7_prepare_117 rfl ?_
    have s4 : -2147483648 ≤ v1 + v7 ∧ v1 + v7 < (2147483648 : Int) := k4 h1
    refine z_iaddN dX7_prepare_119 s4 ?_
    refine z_callv (as := [zi v5, zi (v1 + v7)]) (st := [zi (σ 86 v7), zi v7, zr 86]) mkX4_dueIn lkRX7_80 rfl rfl rfl (by decide) (Nat.le_of_ble_eq_true rfl) rfl dX7_prepare_120 (k5 h1)
set_option maxRecDepth 20000 in
set_option maxHeartbeats 1000000 in
theorem TX7_prepare_123 {G : zG} {σ : zS} {Q : Int → zS → Prop} {v1 v2 v3 v4 v5 v6 v7 r t1 t2 : Int}  (k1 : -2147483648 ≤ t1 + r ∧ t1 + r < (2147483648 : Int)) (k2 : (0 : Int) ≤ t2 ∧ t2 < (10 : Int)) (k3 : -2147483648 ≤ v7 + 1 ∧ v7 + 1 < (2147483648 : Int)) (k4 : zR G MX7_prepare 93 [zr 83, zi v1, zi v2, zi v3, zi v4, zi v5, zi v6, zi (v7 + 1)] [] (zup σ 86 t2 (t1 + r)) Q) : zR G MX7_prepare 123 [zr 83, zi v1, zi v2, zi v3, zi v4, zi v5, zi v6, zi v7] [zi r, zi t1, zi t2, zr 86] σ Q := by
  have s1 : -2147483648 ≤ t1 + r ∧ t1 + r < (2147483648 : Int) := k1
  refine z_iaddN dX7_prepare_123 s1 ?_
  have s2 : (0 : Int) ≤ t2 ∧ t2 < (10 : Int) := k2
  refine z_iast rfl s2.1 s2.2 dX7_prepare_124 ?_
  have s3 : -2147483648 ≤ v7 + 1 ∧ v7 + 1 < (2147483648 : Int) := k3
  refine z_iincN (ls' := [zr 83, zi v1, zi v2, zi v3, zi v4, zi v5, zi v6, zi (v7 + 1)]) dX7_prepare_125 rfl (by decide) s3 rfl ?_
  refine z_goto dX7_prepare_128 (tgt := 93) (by decide) ?_
  exact k4
set_option maxRecDepth 20000 in
set_option maxHeartbeats 1000000 in
theorem TX7_prepare_179 {G : zG} {σ : zS} {Q : Int → zS → Prop} {v1 v2 v3 v4 v5 v6 v7 : Int}  (k1 : -2147483648 ≤ v5 + 1 ∧ v5 + 1 < (2147483648 : Int)) (k2 : zR G MX7_prepare 64 [zr 83, zi v1, zi v2, zi v3, zi v4, zi (v5 + 1), zu, zu] [] σ Q) : zR G MX7_prepare 179 [zr 83, zi v1, zi v2, zi v3, zi v4, zi v5, zi v6, zi v7] [] σ Q := by
  have s1 : -2147483648 ≤ v5 + 1 ∧ v5 + 1 < (2147483648 : Int) := k1
  refine z_iincN (ls' := [zr 83, zi v1, zi v2, zi v3, zi v4, zi (v5 + 1), zi v6, zi v7]) dX7_prepare_179 rfl (by decide) s1 rfl ?_
  refine z_goto dX7_prepare_182 (tgt := 64) (by decide) ?_
  exact zR_fg [false, false, false, false, false, false, true, true] (k2)
