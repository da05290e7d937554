set_option maxRecDepth 20000 in
set_option maxHeartbeats 1000000 in
theorem TX11_choose {G : zG} {σ : zS} {Q : Int → zS → Prop}  (k1 : zO G MX8_chooseAll [zr 94] σ (fun rr σ' => zR G MX11_choose 7 [zr 0] [zi rr] σ' Q)) : zO G MX11_choose [zr 0] σ Q := by
  refine zO_of (ls0 := [zr 0]) (by decide) (Nat.le_of_ble_eq_true rfl) rfl ?_
  refine z_aload_n dX11_choose_0 rfl rfl ?_
  refine z_getfR (k := 11) flRX11_98 rfl rfl dX11_choose_1 ?_
  refine z_callv (as := []) (st := []) mkX8_chooseAll lkRX11_455 rfl rfl rfl (by decide) (Nat.le_of_ble_eq_true rfl) rfl dX11_choose_4 (k1)
set_option maxRecDepth 20000 in
set_option maxHeartbeats 1000000 in
theorem TX11_choose_7 {G : zG} {σ : zS} {Q : Int → zS → Prop} {r : Int}  (k1 : Q r σ) : zR G MX11_choose 7 [zr 0] [zi r] σ Q := by
  exact z_ireti rfl dX11_choose_7 (k1)
set_option maxRecDepth 20000 in
set_option maxHeartbeats 1000000 in
theorem TX8_wantedFor {G : zG} {σ : zS} {Q : Int → zS → Prop} {a1 a2 : Int}  (k1 : (0 : Int) ≤ a1 ∧ a1 < (9 : Int)) (k2 : zO G MX1_firstOf [zr 91, zi (σ 96 a1), zi a2] σ (fun rr σ' => zR G MX8_wantedFor 14 [zr 94, zi a1, zi a2, zu] [zi rr] σ' Q)) : zO G MX8_wantedFor [zr 94, zi a1, zi a2] σ Q := by
  refine zO_of (ls0 := [zr 94, zi a1, zi a2, zu]) (by decide) (Nat.le_of_ble_eq_true rfl) rfl ?_
  refine z_aload_n dX8_wantedFor_0 rfl rfl ?_
  refine z_getfR (k := 1) flRX8_26 rfl rfl dX8_wantedFor_1 ?_
  refine z_aload_n dX8_wantedFor_4 rfl rfl ?_
  refine z_getfR (k := 3) flRX8_15 rfl rfl dX8_wantedFor_5 ?_
  refine z_iload_n dX8_wantedFor_8 rfl rfl ?_
  have s1 : (0 : Int) ≤ a1 ∧ a1 < (9 : Int) := k1
  refine z_iald rfl s1.1 s1.2 dX8_wantedFor_9 ?_
  refine z_iload_n dX8_wantedFor_10 rfl rfl ?_
  refine z_callv (as := [zi (σ 96 a1), zi a2]) (st := []) mkX1_firstOf lkRX8_48 rfl rfl rfl (by decide) (Nat.le_of_ble_eq_true rfl) rfl dX8_wantedFor_11 (k2)
set_option maxRecDepth 20000 in
set_option maxHeartbeats 1000000 in
theorem TX8_wantedFor_14 {G : zG} {σ : zS} {Q : Int → zS → Prop} {v1 v2 r : Int}  (k1 : (r ≠ (-1)) → Q r σ) (k2 : (r = (-1)) → Q v1 σ) : zR G MX8_wantedFor 14 [zr 94, zi v1, zi v2, zu] [zi r] σ Q := by
  refine z_istore_n (ls' := [zr 94, zi v1, zi v2, zi r]) dX8_wantedFor_14 rfl (by decide) rfl ?_
  refine z_iload_n dX8_wantedFor_15 rfl rfl ?_
  refine z_iconst dX8_wantedFor_16 (by unfold zIn; decide) ?_
  refine z_icmp_ne dX8_wantedFor_17 (tgt := 24) (by decide) (fun h1 => ?_) (fun h1 => ?_)
  · skip
    refine z_iload_n dX8_wantedFor_24 rfl rfl ?_
    exact z_ireti rfl dX8_wantedFor_25 (k1 h1)
  · skip
    refine z_iload_n dX8_wantedFor_20 rfl rfl ?_
    refine z_goto dX8_wantedFor_21 (tgt := 25) (by decide) ?_
    exact z_ireti rfl dX8_wantedFor_25 (k2 h1)
set_option maxRecDepth 20000 in
set_option maxHeartbeats 1000000 in
theorem TX8_closeRing {G : zG} {σ : zS} {Q : Int → zS → Prop} {a1 : Int}  (k1 : zR G MX8_closeRing 2 [zr 94, zi a1, zi 0, zu, zu, zu] [] σ Q) : zO G MX8_closeRing [zr 94, zi a1] σ Q := by
  refine zO_of (ls0 := [zr 94, zi a1, zu, zu, zu, zu]) (by decide) (Nat.le_of_ble_eq_true rfl) rfl ?_
  refine z_iconst dX8_closeRing_0 (by unfold zIn; decide) ?_
  refine z_istore_n (ls' := [zr 94, zi a1, zi 0, zu, zu, zu]) dX8_closeRing_1 rfl (by decide) rfl ?_
  exact k1
set_option maxRecDepth 20000 in
set_option maxHeartbeats 1000000 in
theorem TX8_closeRing_2 {G : zG} {σ : zS} {Q : Int → zS → Prop} {v1 v2 : Int}  (k1 : (v2 < 8) → (zand (zushr v1 v2) 1 = 0) → -2147483648 ≤ v2 + 1 ∧ v2 + 1 < (2147483648 : Int)) (k2 : (v2 < 8) → (zand (zushr v1 v2) 1 = 0) → zR G MX8_closeRing 2 [zr 94, zi v1, zi (v2 + 1), zu, zu, zu] [] σ Q) (k3 : (8 ≤ v2 ∨ (v2 < 8 ∧ zand (zushr v1 v2) 1 ≠ 0)) → zR G MX8_closeRing 24 [zr 94, zi v1, zi v2, zi 0, zu, zu] [] σ Q) : zR G MX8_closeRing 2 [zr 94, zi v1, zi v2, zu, zu, zu] [] σ Q := by
  have J22 : (8 ≤ v2 ∨ (v2 < 8 ∧ zand (zushr v1 v2) 1 ≠ 0)) → zR G MX8_closeRing 22 [zr 94, zi v1, zi v2, zu, zu, zu] [] σ Q := by
    intro h3
    refine z_iconst dX8_closeRing_22 (by unfold zIn; decide) ?_
    refine z_istore_n (ls' := [zr 94, zi v1, zi v2, zi 0, zu, zu]) dX8_closeRing_23 rfl (by decide) rfl ?_
    exact k3 h3
  refine z_iload_n dX8_closeRing_2 rfl rfl ?_
  refine z_bipush (x := 8) dX8_closeRing_3 (by decide +kernel) (by unfold zIn; decide) ?_
  refine z_icmp_ge dX8_closeRing_5 (tgt := 22) (by decide) (fun h1 => ?_) (fun h1 => ?_)
  · skip
    exact J22 (Or.inl h1)
  · skip
    refine z_iload_n dX8_closeRing_8 rfl rfl ?_
    refine z_iload_n dX8_closeRing_9 rfl rfl ?_
    refine z_iushr dX8_closeRing_10 ?_
    refine z_iconst dX8_closeRing_11 (by unfold zIn; decide) ?_
    refine z_iand dX8_closeRing_12 ?_
    refine z_if_ne dX8_closeRing_13 (tgt := 22) (by decide) (fun h2 => ?_) (fun h2 => ?_)
    · skip
      exact J22 (Or.inr ⟨h1, h2⟩)
    · skip
      have s1 : -2147483648 ≤ v2 + 1 ∧ v2 + 1 < (2147483648 : Int) := k1 h1 h2
      refine z_iincN (ls' := [zr 94, zi v1, zi (v2 + 1), zu, zu, zu]) dX8_closeRing_16 rfl (by decide) s1 rfl ?_
      refine z_goto dX8_closeRing_19 (tgt := 2) (by decide) ?_
      exact k2 h1 h2
set_option maxRecDepth 20000 in
set_option maxHeartbeats 1000000 in
theorem TX8_closeRing_24 {G : zG} {σ : zS} {Q : Int → zS → Prop} {v1 v2 v3 : Int}  (k1 : (9 ≤ v3) → zR G MX8_closeRing 48 [zr 94, zi v1, zi v2, zi 0, zi 0, zu] [] σ Q) (k2 : (v3 < 9) → zO G MX8_wantedFor [zr 94, zi v2, zi v1] σ (fun rr σ' => zR G MX8_closeRing 36 [zr 94, zi v1, zi v2, zi v3, zu, zu] [zi rr] σ' Q)) : zR G MX8_closeRing 24 [zr 94, zi v1, zi v2, zi v3, zu, zu] [] σ Q := by
  refine z_iload_n dX8_closeRing_24 rfl rfl ?_
  refine z_bipush (x := 9) dX8_closeRing_25 (by decide +kernel) (by unfold zIn; decide) ?_
  refine z_icmp_ge dX8_closeRing_27 (tgt := 43) (by decide) (fun h1 => ?_) (fun h1 => ?_)
  · skip
    refine z_iconst dX8_closeRing_43 (by unfold zIn; decide) ?_
    refine z_istore_n (ls' := [zr 94, zi v1, zi v2, zi 0, zu, zu]) dX8_closeRing_44 rfl (by decide) rfl ?_
    refine z_iconst dX8_closeRing_45 (by unfold zIn; decide) ?_
    refine z_istore (ls' := [zr 94, zi v1, zi v2, zi 0, zi 0, zu]) dX8_closeRing_46 (by decide) rfl ?_
    exact k1 h1
  · skip
    refine z_aload_n dX8_closeRing_30 rfl rfl ?_
    refine z_iload_n dX8_closeRing_31 rfl rfl ?_
    refine z_iload_n dX8_closeRing_32 rfl rfl ?_
    refine z_callv (as := [zi v2, zi v1]) (st := []) mkX8_wantedFor lkRX8_58 rfl rfl rfl (by decide) (Nat.le_of_ble_eq_true rfl) rfl dX8_closeRing_33 (k2 h1)
set_option maxRecDepth 20000 in
set_option maxHeartbeats 1000000 in
theorem TX8_closeRing_36 {G : zG} {σ : zS} {Q : Int → zS → Prop} {v1 v2 v3 r : Int}  (k1 : -2147483648 ≤ v3 + 1 ∧ v3 + 1 < (2147483648 : Int)) (k2 : zR G MX8_closeRing 24 [zr 94, zi v1, zi r, zi (v3 + 1), zu, zu] [] σ Q) : zR G MX8_closeRing 36 [zr 94, zi v1, zi v2, zi v3, zu, zu] [zi r] σ Q := by
  refine z_istore_n (ls' := [zr 94, zi v1, zi r, zi v3, zu, zu]) dX8_closeRing_36 rfl (by decide) rfl ?_
  have s1 : -2147483648 ≤ v3 + 1 ∧ v3 + 1 < (2147483648 : Int) := k1
  refine z_iincN (ls' := [zr 94, zi v1, zi r, zi (v3 + 1), zu, zu]) dX8_closeRing_37 rfl (by decide) s1 rfl ?_
  refine z_goto dX8_closeRing_40 (tgt := 24) (by decide) ?_
  exact k2
set_option maxRecDepth 20000 in
set_option maxHeartbeats 1000000 in
theorem TX8_closeRing_48 {G : zG} {σ : zS} {Q : Int → zS → Prop} {v1 v2 v3 v4 : Int}  (k1 : (v4 < 9) → (zand (zushr v3 v2) 1 = 0) → zO G MX8_wantedFor [zr 94, zi v2, zi v1] σ (fun rr σ' => zR G MX8_closeRing 75 [zr 94, zi v1, zi v2, zi (zor v3 (zshl 1 v2)), zi v4, zu] [zi rr] σ' Q)) (k2 : (9 ≤ v4 ∨ (v4 < 9 ∧ zand (zushr v3 v2) 1 ≠ 0)) → Q v3 σ) : zR G MX8_closeRing 48 [zr 94, zi v1, zi v2, zi v3, zi v4, zu] [] σ Q := by
  have J99 : (9 ≤ v4 ∨ (v4 < 9 ∧ zand (zushr v3 v2) 1 ≠ 0)) → zR G MX8_closeRing 99 [zr 94, zi v1, zi v2, zi v3, zi v4, zu] [] σ Q := by
    intro h3
    refine z_iload_n dX8_closeRing_99 rfl rfl ?_
    exact z_ireti rfl dX8_closeRing_100 (k2 h3)
  refine z_iload dX8_closeRing_48 rfl ?_
  refine z_bipush (x := 9) dX8_closeRing_50 (by decide +kernel) (by unfold zIn; decide) ?_
  refine z_icmp_ge dX8_closeRing_52 (tgt := 99) (by decide) (fun h1 => ?_) (fun h1 => ?_)
  · skip
    exact J99 (Or.inl h1)
  · skip
    refine z_iload_n dX8_closeRing_55 rfl rfl ?_
    refine z_iload_n dX8_closeRing_56 rfl rfl ?_
    refine z_iushr dX8_closeRing_57 ?_
    refine z_iconst dX8_closeRing_58 (by unfold zIn; decide) ?_
    refine z_iand dX8_closeRing_59 ?_
    refine z_if_ne dX8_closeRing_60 (tgt := 99) (by decide) (fun h2 => ?_) (fun h2 => ?_)
    · skip
      exact J99 (Or.inr ⟨h1, h2⟩)
    · skip
      refine z_iload_n dX8_closeRing_63 rfl rfl ?_
      refine z_iconst dX8_closeRing_64 (by unfold zIn; decide) ?_
      refine z_iload_n dX8_closeRing_65 rfl rfl ?_
      refine z_ishl dX8_closeRing_66 ?_
      refine z_ior dX8_closeRing_67 ?_
      refine z_istore_n (ls' := [zr 94, zi v1, zi v2, zi (zor v3 (zshl 1 v2)), zi v4, zu]) dX8_closeRing_68 rfl (by decide) rfl ?_
      refine z_aload_n dX8_closeRing_69 rfl rfl ?_
      refine z_iload_n dX8_closeRing_70 rfl rfl ?_
      refine z_iload_n dX8_closeRing_71 rfl rfl ?_
      refine z_callv (as := [zi v2, zi v1]) (st := []) mkX8_wantedFor lkRX8_58 rfl rfl rfl (by decide) (Nat.le_of_ble_eq_true rfl) rfl dX8_closeRing_72 (k1 h1 h2)
set_option maxRecDepth 20000 in
set_option maxHeartbeats 1000000 in
theorem TX8_closeRing_75 {G : zG} {σ : zS} {Q : Int → zS → Prop} {v1 v2 v3 v4 r : Int}  (k1 : (0 : Int) ≤ v2 ∧ v2 < (9 : Int)) (k2 : (0 : Int) ≤ σ 96 v2 ∧ σ 96 v2 < (24 : Int)) (k3 : -2147483648 ≤ v4 + 1 ∧ v4 + 1 < (2147483648 : Int)) (k4 : zR G MX8_closeRing 48 [zr 94, zi v1, zi r, zi v3, zi (v4 + 1), zu] [] (zup σ 95 (σ 96 v2) r) Q) : zR G MX8_closeRing 75 [zr 94, zi v1, zi v2, zi v3, zi v4, zu] [zi r] σ Q := by
  refine z_istore (ls' := [zr 94, zi v1, zi v2, zi v3, zi v4, zi r]) dX8_closeRing_75 (by decide) rfl ?_
  refine z_aload_n dX8_closeRing_77 rfl rfl ?_
  refine z_getfR (k := 2) flRX8_9 rfl rfl dX8_closeRing_78 ?_
  refine z_aload_n dX8_closeRing_81 rfl rfl ?_
  refine z_getfR (k := 3) flRX8_15 rfl rfl dX8_closeRing_82 ?_
  refine z_iload_n dX8_closeRing_85 rfl rfl ?_
  have s1 : (0 : Int) ≤ v2 ∧ v2 < (9 : Int) := k1
  refine z_iald rfl s1.1 s1.2 dX8_closeRing_86 ?_
  refine z_iload dX8_closeRing_87 rfl ?_
  have s2 : (0 : Int) ≤ σ 96 v2 ∧ σ 96 v2 < (24 : Int) := k2
  refine z_iast rfl s2.1 s2.2 dX8_closeRing_89 ?_
  refine z_iload dX8_closeRing_90 rfl ?_
  refine z_istore_n (ls' := [zr 94, zi v1, zi r, zi v3, zi v4, zi r]) dX8_closeRing_92 rfl (by decide) rfl ?_
  have s3 : -2147483648 ≤ v4 + 1 ∧ v4 + 1 < (2147483648 : Int) := k3
  refine z_iincN (ls' := [zr 94, zi v1, zi r, zi v3, zi (v4 + 1), zi r]) dX8_closeRing_93 rfl (by decide) s3 rfl ?_
  refine z_goto dX8_closeRing_96 (tgt := 48) (by decide) ?_
  exact zR_fg [false, false, false, false, false, true] (k4)
set_option maxRecDepth 20000 in
set_option maxHeartbeats 1000000 in
theorem TX8_exchangeAll {G : zG} {σ : zS} {Q : Int → zS → Prop}  (k1 : zR G MX8_exchangeAll 4 [zr 94, zi 0, zi 0, zu, zu] [] σ Q) : zO G MX8_exchangeAll [zr 94] σ Q := by
  refine zO_of (ls0 := [zr 94, zu, zu, zu, zu]) (by decide) (Nat.le_of_ble_eq_true rfl) rfl ?_
  refine z_iconst dX8_exchangeAll_0 (by unfold zIn; decide) ?_
  refine z_istore_n (ls' := [zr 94, zi 0, zu, zu, zu]) dX8_exchangeAll_1 rfl (by decide) rfl ?_
  refine z_iconst dX8_exchangeAll_2 (by unfold zIn; decide) ?_
  refine z_istore_n (ls' := [zr 94, zi 0, zi 0, zu, zu]) dX8_exchangeAll_3 rfl (by decide) rfl ?_
  exact k1
set_option maxRecDepth 20000 in
set_option maxHeartbeats 1000000 in
theorem TX8_exchangeAll_4 {G : zG} {σ : zS} {Q : Int → zS → Prop} {v1 v2 : Int}  (k1 : (24 ≤ v2) → zR G MX8_exchangeAll 53 [zr 94, zi v1, zi v1, zi 0, zu] [] σ Q) (k2 : (v2 < 24) → (0 : Int) ≤ v2 ∧ v2 < (24 : Int)) (k3 : (v2 < 24) → (σ 95 v2 ≠ (-1)) → (0 : Int) ≤ σ 95 v2 ∧ σ 95 v2 < (9 : Int)) (k4 : (v2 < 24) → (σ 95 v2 = (-1)) → -2147483648 ≤ v2 + 1 ∧ v2 + 1 < (2147483648 : Int)) (k5 : (v2 < 24) → (σ 95 v2 = (-1)) → zR G MX8_exchangeAll 4 [zr 94, zi v1, zi (v2 + 1), zu, zu] [] σ Q) (k6 : (v2 < 24) → (σ 95 v2 ≠ (-1)) → -2147483648 ≤ v2 + 1 ∧ v2 + 1 < (2147483648 : Int)) (k7 : (v2 < 24) → (σ 95 v2 ≠ (-1)) → zR G MX8_exchangeAll 4 [zr 94, zi (zor v1 (zshl 1 (σ 95 v2))), zi (v2 + 1), zu, zu] [] (zup σ 96 (σ 95 v2) v2) Q) : zR G MX8_exchangeAll 4 [zr 94, zi v1, zi v2, zu, zu] [] σ Q := by
  have J43_1 : (v2 < 24) → (σ 95 v2 ≠ (-1)) → zR G MX8_exchangeAll 43 [zr 94, zi (zor v1 (zshl 1 (σ 95 v2))), zi v2, zu, zu] [] (zup σ 96 (σ 95 v2) v2) Q := by
    intro h1 h2
    have s6 : -2147483648 ≤ v2 + 1 ∧ v2 + 1 < (2147483648 : Int) := k6 h1 h2
    refine z_iincN (ls' := [zr 94, zi (zor v1 (zshl 1 (σ 95 v2))), zi (v2 + 1), zu, zu]) dX8_exchangeAll_43 rfl (by decide) s6 rfl ?_
    refine z_goto dX8_exchangeAll_46 (tgt := 4) (by decide) ?_
    exact k7 h1 h2
  have J43 : (v2 < 24) → (σ 95 v2 = (-1)) → zR G MX8_exchangeAll 43 [zr 94, zi v1, zi v2, zu, zu] [] σ Q := by
    intro h1 h2
    have s4 : -2147483648 ≤ v2 + 1 ∧ v2 + 1 < (2147483648 : Int) := k4 h1 h2
    refine z_iincN (ls' := [zr 94, zi v1, zi (v2 + 1), zu, zu]) dX8_exchangeAll_43 rfl (by decide) s4 rfl ?_
    refine z_goto dX8_exchangeAll_46 (tgt := 4) (by decide) ?_
    exact k5 h1 h2
  refine z_iload_n dX8_exchangeAll_4 rfl rfl ?_
  refine z_bipush (x := 24) dX8_exchangeAll_5 (by decide +kernel) (by unfold zIn; decide) ?_
  refine z_icmp_ge dX8_exchangeAll_7 (tgt := 49) (by decide) (fun h1 => ?_) (fun h1 => ?_)
  · skip
    refine z_iload_n dX8_exchangeAll_49 rfl rfl ?_
    refine z_istore_n (ls' := [zr 94, zi v1, zi v1, zu, zu]) dX8_exchangeAll_50 rfl (by decide) rfl ?_
    refine z_iconst dX8_exchangeAll_51 (by unfold zIn; decide) ?_
    refine z_istore_n (ls' := [zr 94, zi v1, zi v1, zi 0, zu]) dX8_exchangeAll_52 rfl (by decide) rfl ?_
    exact k1 h1
  · skip
    refine z_aload_n dX8_exchangeAll_10 rfl rfl ?_
    refine z_getfR (k := 2) flRX8_9 rfl rfl dX8_exchangeAll_11 ?_
    refine z_iload_n dX8_exchangeAll_14 rfl rfl ?_
    have s2 : (0 : Int) ≤ v2 ∧ v2 < (24 : Int) := k2 h1
    refine z_iald rfl s2.1 s2.2 dX8_exchangeAll_15 ?_
    refine z_iconst dX8_exchangeAll_16 (by unfold zIn; decide) ?_
    refine z_icmp_eq dX8_exchangeAll_17 (tgt := 43) (by decide) (fun h2 => ?_) (fun h2 => ?_)
    · skip
      exact J43 h1 h2
    · skip
      refine z_iload_n dX8_exchangeAll_20 rfl rfl ?_
      refine z_iconst dX8_exchangeAll_21 (by unfold zIn; decide) ?_
      refine z_aload_n dX8_exchangeAll_22 rfl rfl ?_
      refine z_getfR (k := 2) flRX8_9 rfl rfl dX8_exchangeAll_23 ?_
      refine z_iload_n dX8_exchangeAll_26 rfl rfl ?_
      refine z_iald rfl s2.1 s2.2 dX8_exchangeAll_27 ?_
      refine z_ishl dX8_exchangeAll_28 ?_
      refine z_ior dX8_exchangeAll_29 ?_
      refine z_istore_n (ls' := [zr 94, zi (zor v1 (zshl 1 (σ 95 v2))), zi v2, zu, zu]) dX8_exchangeAll_30 rfl (by decide) rfl ?_
      refine z_aload_n dX8_exchangeAll_31 rfl rfl ?_
      refine z_getfR (k := 3) flRX8_15 rfl rfl dX8_exchangeAll_32 ?_
      refine z_aload_n dX8_exchangeAll_35 rfl rfl ?_
      refine z_getfR (k := 2) flRX8_9 rfl rfl dX8_exchangeAll_36 ?_
      refine z_iload_n dX8_exchangeAll_39 rfl rfl ?_
      refine z_iald rfl s2.1 s2.2 dX8_exchangeAll_40 ?_
      refine z_iload_n dX8_exchangeAll_41 rfl rfl ?_
      have s3 : (0 : Int) ≤ σ 95 v2 ∧ σ 95 v2 < (9 : Int) := k3 h1 h2
      refine z_iast rfl s3.1 s3.2 dX8_exchangeAll_42 ?_
      exact J43_1 h1 h2
set_option maxRecDepth 20000 in
set_option maxHeartbeats 1000000 in
theorem TX8_exchangeAll_53 {G : zG} {σ : zS} {Q : Int → zS → Prop} {v1 v2 v3 : Int}  (k1 : (v3 < 9) → (v1 ≠ 0) → zO G MX8_closeRing [zr 94, zi v1] σ (fun rr σ' => zR G MX8_exchangeAll 69 [zr 94, zi v1, zi v2, zi v3, zu] [zi rr, zi v1] σ' Q)) (k2 : (9 ≤ v3 ∨ (v3 < 9 ∧ v1 = 0)) → zR G MX8_exchangeAll 84 [zr 94, zi v1, zi v2, zi 0, zi 0] [] σ Q) : zR G MX8_exchangeAll 53 [zr 94, zi v1, zi v2, zi v3, zu] [] σ Q := by
  have J79 : (9 ≤ v3 ∨ (v3 < 9 ∧ v1 = 0)) → zR G MX8_exchangeAll 79 [zr 94, zi v1, zi v2, zi v3, zu] [] σ Q := by
    intro h3
    refine z_iconst dX8_exchangeAll_79 (by unfold zIn; decide) ?_
    refine z_istore_n (ls' := [zr 94, zi v1, zi v2, zi 0, zu]) dX8_exchangeAll_80 rfl (by decide) rfl ?_
    refine z_iconst dX8_exchangeAll_81 (by unfold zIn; decide) ?_
    refine z_istore (ls' := [zr 94, zi v1, zi v2, zi 0, zi 0]) dX8_exchangeAll_82 (by decide) rfl ?_
    exact k2 h3
  refine z_iload_n dX8_exchangeAll_53 rfl rfl ?_
  refine z_bipush (x := 9) dX8_exchangeAll_54 (by decide +kernel) (by unfold zIn; decide) ?_
  refine z_icmp_ge dX8_exchangeAll_56 (tgt := 79) (by decide) (fun h1 => ?_) (fun h1 => ?_)
  · skip
    exact J79 (Or.inl h1)
  · skip
    refine z_iload_n dX8_exchangeAll_59 rfl rfl ?_
    refine z_if_eq dX8_exchangeAll_60 (tgt := 79) (by decide) (fun h2 => ?_) (fun h2 => ?_)
    · skip
      exact J79 (Or.inr ⟨h1, h2⟩)
    · skip
      refine z_iload_n dX8_exchangeAll_63 rfl rfl ?_
      refine z_aload_n dX8_exchangeAll_64 rfl rfl ?_
      refine z_iload_n dX8_exchangeAll_65 rfl rfl ?_
      refine z_callv (as := [zi v1]) (st := [zi v1]) mkX8_closeRing lkRX8_54 rfl rfl rfl (by decide) (Nat.le_of_ble_eq_true rfl) rfl dX8_exchangeAll_66 (k1 h1 h2)
set_option maxRecDepth 20000 in
set_option maxHeartbeats 1000000 in
theorem TX8_exchangeAll_69 {G : zG} {σ : zS} {Q : Int → zS → Prop} {v1 v2 v3 r t1 : Int}  (k1 : -2147483648 ≤ v3 + 1 ∧ v3 + 1 < (2147483648 : Int)) (k2 : zR G MX8_exchangeAll 53 [zr 94, zi (zand t1 (zxor r (-1))), zi v2, zi (v3 + 1), zu] [] σ Q) : zR G MX8_exchangeAll 69 [zr 94, zi v1, zi v2, zi v3, zu] [zi r, zi t1] σ Q := by
  refine z_iconst dX8_exchangeAll_69 (by unfold zIn; decide) ?_
  refine z_ixor dX8_exchangeAll_70 ?_
  refine z_iand dX8_exchangeAll_71 ?_
  refine z_istore_n (ls' := [zr 94, zi (zand t1 (zxor r (-1))), zi v2, zi v3, zu]) dX8_exchangeAll_72 rfl (by decide) rfl ?_
  have s1 : -2147483648 ≤ v3 + 1 ∧ v3 + 1 < (2147483648 : Int) := k1
  refine z_iincN (ls' := [zr 94, zi (zand t1 (zxor r (-1))), zi v2, zi (v3 + 1), zu]) dX8_exchangeAll_73 rfl (by decide) s1 rfl ?_
  refine z_goto dX8_exchangeAll_76 (tgt := 53) (by decide) ?_
  exact k2
set_option maxRecDepth 20000 in
set_option maxHeartbeats 1000000 in
theorem TX8_exchangeAll_84 {G : zG} {σ : zS} {Q : Int → zS → Prop} {v1 v2 v3 v4 : Int}  (k1 : (9 ≤ v4) → Q v3 σ) (k2 : (v4 < 9) → (zand (zushr v2 v4) 1 ≠ 0) → (0 : Int) ≤ v4 ∧ v4 < (9 : Int)) (k3 : (v4 < 9) → (zand (zushr v2 v4) 1 ≠ 0) → (0 : Int) ≤ σ 96 v4 ∧ σ 96 v4 < (24 : Int)) (k4 : (v4 < 9) → (zand (zushr v2 v4) 1 ≠ 0) → (σ 95 (σ 96 v4) ≠ v4) → -2147483648 ≤ v3 + 1 ∧ v3 + 1 < (2147483648 : Int)) (k5 : (v4 < 9) → (zand (zushr v2 v4) 1 = 0 ∨ (zand (zushr v2 v4) 1 ≠ 0 ∧ σ 95 (σ 96 v4) = v4)) → -2147483648 ≤ v4 + 1 ∧ v4 + 1 < (2147483648 : Int)) (k6 : (v4 < 9) → (zand (zushr v2 v4) 1 = 0 ∨ (zand (zushr v2 v4) 1 ≠ 0 ∧ σ 95 (σ 96 v4) = v4)) → zR G MX8_exchangeAll 84 [zr 94, zi v1, zi v2, zi v3, zi (v4 + 1)] [] σ Q) (k7 : (v4 < 9) → (zand (zushr v2 v4) 1 ≠ 0) → (σ 95 (σ 96 v4) ≠ v4) → -2147483648 ≤ v4 + 1 ∧ v4 + 1 < (2147483648 : Int)) (k8 : (v4 < 9) → (zand (zushr v2 v4) 1 ≠ 0) → (σ 95 (σ 96 v4) ≠ v4) → zR G MX8_exchangeAll 84 [zr 94, zi v1, zi v2, zi (v3 + 1), zi (v4 + 1)] [] σ Q) : zR G MX8_exchangeAll 84 [zr 94, zi v1, zi v2, zi v3, zi v4] [] σ Q := by
  have J120_1 : (v4 < 9) → (zand (zushr v2 v4) 1 ≠ 0) → (σ 95 (σ 96 v4) ≠ v4) → zR G MX8_exchangeAll 120 [zr 94, zi v1, zi v2, zi (v3 + 1), zi v4] [] σ Q := by
    intro h1 h2 h3
    have s7 : -2147483648 ≤ v4 + 1 ∧ v4 + 1 < (2147483648 : Int) := k7 h1 h2 h3
    refine z_iincN (ls' := [zr 94, zi v1, zi v2, zi (v3 + 1), zi (v4 + 1)]) dX8_exchangeAll_120 rfl (by decide) s7 rfl ?_
    refine z_goto dX8_exchangeAll_123 (tgt := 84) (by decide) ?_
    exact k8 h1 h2 h3
  have J120 : (v4 < 9) → (zand (zushr v2 v4) 1 = 0 ∨ (zand (zushr v2 v4) 1 ≠ 0 ∧ σ 95 (σ 96 v4) = v4)) → zR G MX8_exchangeAll 120 [zr 94, zi v1, zi v2, zi v3, zi v4] [] σ Q := by
    intro h1 h4
    have s5 : -2147483648 ≤ v4 + 1 ∧ v4 + 1 < (2147483648 : Int) := k5 h1 h4
    refine z_iincN (ls' := [zr 94, zi v1, zi v2, zi v3, zi (v4 + 1)]) dX8_exchangeAll_120 rfl (by decide) s5 rfl ?_
    refine z_goto dX8_exchangeAll_123 (tgt := 84) (by decide) ?_
    exact k6 h1 h4
  refine z_iload dX8_exchangeAll_84 rfl ?_
  refine z_bipush (x := 9) dX8_exchangeAll_86 (by decide +kernel) (by unfold zIn; decide) ?_
  refine z_icmp_ge dX8_exchangeAll_88 (tgt := 126) (by decide) (fun h1 => ?_) (fun h1 => ?_)
  · skip
    refine z_iload_n dX8_exchangeAll_126 rfl rfl ?_
    exact z_ireti rfl dX8_exchangeAll_127 (k1 h1)
  · skip
    refine z_iload_n dX8_exchangeAll_91 rfl rfl ?_
    refine z_iload dX8_exchangeAll_92 rfl ?_
    refine z_iushr dX8_exchangeAll_94 ?_
    refine z_iconst dX8_exchangeAll_95 (by unfold zIn; decide) ?_
    refine z_iand dX8_exchangeAll_96 ?_
    refine z_if_eq dX8_exchangeAll_97 (tgt := 120) (by decide) (fun h2 => ?_) (fun h2 => ?_)
    · skip
      exact J120 h1 (Or.inl h2)
    · skip
      refine z_aload_n dX8_exchangeAll_100 rfl rfl ?_
      refine z_getfR (k := 2) flRX8_9 rfl rfl dX8_exchangeAll_101 ?_
      refine z_aload_n dX8_exchangeAll_104 rfl rfl ?_
      refine z_getfR (k := 3) flRX8_15 rfl rfl dX8_exchangeAll_105 ?_
      refine z_iload dX8_exchangeAll_108 rfl ?_
      have s2 : (0 : Int) ≤ v4 ∧ v4 < (9 : Int) := k2 h1 h2
      refine z_iald rfl s2.1 s2.2 dX8_exchangeAll_110 ?_
      have s3 : (0 : Int) ≤ σ 96 v4 ∧ σ 96 v4 < (24 : Int) := k3 h1 h2
      refine z_iald rfl s3.1 s3.2 dX8_exchangeAll_111 ?_
      refine z_iload dX8_exchangeAll_112 rfl ?_
      refine z_icmp_eq dX8_exchangeAll_114 (tgt := 120) (by decide) (fun h3 => ?_) (fun h3 => ?_)
      · skip
        exact J120 h1 (Or.inr ⟨h2, h3⟩)
      · skip
        have s4 : -2147483648 ≤ v3 + 1 ∧ v3 + 1 < (2147483648 : Int) := k4 h1 h2 h3
        refine z_iincN (ls' := [zr 94, zi v1, zi v2, zi (v3 + 1), zi v4]) dX8_exchangeAll_117 rfl (by decide) s4 rfl ?_
        exact J120_1 h1 h2 h3
set_option maxRecDepth 20000 in
set_option maxHeartbeats 1000000 in
theorem TX11_exchange {G : zG} {σ : zS} {Q : Int → zS → Prop}  (k1 : zO G MX8_exchangeAll [zr 94] σ (fun rr σ' => zR G MX11_exchange 7 [zr 0] [zi rr] σ' Q)) : zO G MX11_exchange [zr 0] σ Q := by
  refine zO_of (ls0 := [zr 0]) (by decide) (Nat.le_of_ble_eq_true rfl) rfl ?_
  refine z_aload_n dX11_exchange_0 rfl rfl ?_
  refine z_getfR (k := 11) flRX11_98 rfl rfl dX11_exchange_1 ?_
  refine z_callv (as := []) (st := []) mkX8_exchangeAll lkRX11_458 rfl rfl rfl (by decide) (Nat.le_of_ble_eq_true rfl) rfl dX11_exchange_4 (k1)
set_option maxRecDepth 20000 in
set_option maxHeartbeats 1000000 in
theorem TX11_exchange_7 {G : zG} {σ : zS} {Q : Int → zS → Prop} {r : Int}  (k1 : Q r σ) : zR G MX11_exchange 7 [zr 0] [zi r] σ Q := by
  exact z_ireti rfl dX11_exchange_7 (k1)
set_option maxRecDepth 20000 in
set_option maxHeartbeats 1000000 in
theorem TX11_roomOf {G : zG} {σ : zS} {Q : Int → zS → Prop} {a1 : Int}  (k1 : (¬ ((0 ≤ a1 ∧ a1 < σ 22 12))) → Q (-1) σ) (k2 : ((0 ≤ a1 ∧ a1 < σ 22 12)) → (0 : Int) ≤ a1 ∧ a1 < (24 : Int)) (k3 : ((0 ≤ a1 ∧ a1 < σ 22 12)) → Q (σ 95 a1) σ) : zO G MX11_roomOf [zr 0, zi a1] σ Q := by
  refine zO_of (ls0 := [zr 0, zi a1]) (by decide) (Nat.le_of_ble_eq_true rfl) rfl ?_
  refine z_aload_n dX11_roomOf_0 rfl rfl ?_
  refine z_getfR (k := 1) flRX11_18 rfl rfl dX11_roomOf_1 ?_
  refine z_iload_n dX11_roomOf_4 rfl rfl ?_
  refine z_callv (as := [zi a1]) (st := []) mkX5_has lkRX11_146 rfl rfl rfl (by decide) (Nat.le_of_ble_eq_true rfl) rfl dX11_roomOf_5 ?_
  refine SX5_has ?_
  show zR G MX11_roomOf 8 [zr 0, zi a1] [zi (if (0 ≤ a1 ∧ a1 < σ 22 12) then (1 : Int) else 0)] σ Q
  refine z_if_eq dX11_roomOf_8 (tgt := 23) (by decide) (fun z => ?_) (fun z => ?_)
  · have h1 : ¬ ((0 ≤ a1 ∧ a1 < σ 22 12)) := zb0 z
    refine z_iconst dX11_roomOf_23 (by unfold zIn; decide) ?_
    exact z_ireti rfl dX11_roomOf_24 (k1 h1)
  · have h1 : (0 ≤ a1 ∧ a1 < σ 22 12) := zb1 z
    refine z_aload_n dX11_roomOf_11 rfl rfl ?_
    refine z_getfR (k := 11) flRX11_98 rfl rfl dX11_roomOf_12 ?_
    refine z_getfR (k := 2) flRX11_461 rfl rfl dX11_roomOf_15 ?_
    refine z_iload_n dX11_roomOf_18 rfl rfl ?_
    have s2 : (0 : Int) ≤ a1 ∧ a1 < (24 : Int) := k2 h1
    refine z_iald rfl s2.1 s2.2 dX11_roomOf_19 ?_
    refine z_goto dX11_roomOf_20 (tgt := 24) (by decide) ?_
    exact z_ireti rfl dX11_roomOf_24 (k3 h1)
set_option maxRecDepth 20000 in
set_option maxHeartbeats 1000000 in
theorem TX6_howManyHeld {G : zG} {σ : zS} {Q : Int → zS → Prop}  (k1 : zR G MX6_howManyHeld 4 [zr 52, zi 0, zi 0] [] σ Q) : zO G MX6_howManyHeld [zr 52] σ Q := by
  refine zO_of (ls0 := [zr 52, zu, zu]) (by decide) (Nat.le_of_ble_eq_true rfl) rfl ?_
  refine z_iconst dX6_howManyHeld_0 (by unfold zIn; decide) ?_
  refine z_istore_n (ls' := [zr 52, zi 0, zu]) dX6_howManyHeld_1 rfl (by decide) rfl ?_
  refine z_iconst dX6_howManyHeld_2 (by unfold zIn; decide) ?_
  refine z_istore_n (ls' := [zr 52, zi 0, zi 0]) dX6_howManyHeld_3 rfl (by decide) rfl ?_
  exact k1
set_option maxRecDepth 20000 in
set_option maxHeartbeats 1000000 in
theorem TX6_howManyHeld_4 {G : zG} {σ : zS} {Q : Int → zS → Prop} {v1 v2 : Int}  (k1 : (σ 52 7 ≤ v2) → Q v1 σ) (k2 : (v2 < σ 52 7) → (0 : Int) ≤ v2 ∧ v2 < (12 : Int)) (k3 : (v2 < σ 52 7) → (σ 54 v2 ≠ (-1)) → -2147483648 ≤ v1 + 1 ∧ v1 + 1 < (2147483648 : Int)) (k4 : (v2 < σ 52 7) → (σ 54 v2 ≠ (-1)) → -2147483648 ≤ v2 + 1 ∧ v2 + 1 < (2147483648 : Int)) (k5 : (v2 < σ 52 7) → (σ 54 v2 ≠ (-1)) → zR G MX6_howManyHeld 4 [zr 52, zi (v1 + 1), zi (v2 + 1)] [] σ Q) (k6 : (v2 < σ 52 7) → (σ 54 v2 = (-1)) → -2147483648 ≤ v1 + 0 ∧ v1 + 0 < (2147483648 : Int)) (k7 : (v2 < σ 52 7) → (σ 54 v2 = (-1)) → -2147483648 ≤ v2 + 1 ∧ v2 + 1 < (2147483648 : Int)) (k8 : (v2 < σ 52 7) → (σ 54 v2 = (-1)) → zR G MX6_howManyHeld 4 [zr 52, zi (v1 + 0), zi (v2 + 1)] [] σ Q) : zR G MX6_howManyHeld 4 [zr 52, zi v1, zi v2] [] σ Q := by
  refine z_iload_n dX6_howManyHeld_4 rfl rfl ?_
  refine z_aload_n dX6_howManyHeld_5 rfl rfl ?_
  refine z_getfI (k := 7) flRX6_30 rfl rfl dX6_howManyHeld_6 ?_
  refine z_icmp_ge dX6_howManyHeld_9 (tgt := 36) (by decide) (fun h1 => ?_) (fun h1 => ?_)
  · skip
    refine z_iload_n dX6_howManyHeld_36 rfl rfl ?_
    exact z_ireti rfl dX6_howManyHeld_37 (k1 h1)
  · skip
    refine z_iload_n dX6_howManyHeld_12 rfl rfl ?_
    refine z_aload_n dX6_howManyHeld_13 rfl rfl ?_
    refine z_getfR (k := 2) flRX6_15 rfl rfl dX6_howManyHeld_14 ?_
    refine z_iload_n dX6_howManyHeld_17 rfl rfl ?_
    have s2 : (0 : Int) ≤ v2 ∧ v2 < (12 : Int) := k2 h1
    refine z_iald rfl s2.1 s2.2 dX6_howManyHeld_18 ?_
    refine z_iconst dX6_howManyHeld_19 (by unfold zIn; decide) ?_
    refine z_icmp_ne dX6_howManyHeld_20 (tgt := 27) (by decide) (fun h2 => ?_) (fun h2 => ?_)
    · skip
      refine z_iconst dX6_howManyHeld_27 (by unfold zIn; decide) ?_
      have s3 : -2147483648 ≤ v1 + 1 ∧ v1 + 1 < (2147483648 : Int) := k3 h1 h2
      refine z_iaddN dX6_howManyHeld_28 s3 ?_
      refine z_istore_n (ls' := [zr 52, zi (v1 + 1), zi v2]) dX6_howManyHeld_29 rfl (by decide) rfl ?_
      have s4 : -2147483648 ≤ v2 + 1 ∧ v2 + 1 < (2147483648 : Int) := k4 h1 h2
      refine z_iincN (ls' := [zr 52, zi (v1 + 1), zi (v2 + 1)]) dX6_howManyHeld_30 rfl (by decide) s4 rfl ?_
      refine z_goto dX6_howManyHeld_33 (tgt := 4) (by decide) ?_
      exact k5 h1 h2
    · skip
      refine z_iconst dX6_howManyHeld_23 (by unfold zIn; decide) ?_
      refine z_goto dX6_howManyHeld_24 (tgt := 28) (by decide) ?_
      have s6 : -2147483648 ≤ v1 + 0 ∧ v1 + 0 < (2147483648 : Int) := k6 h1 h2
      refine z_iaddN dX6_howManyHeld_28 s6 ?_
      refine z_istore_n (ls' := [zr 52, zi (v1 + 0), zi v2]) dX6_howManyHeld_29 rfl (by decide) rfl ?_
      have s7 : -2147483648 ≤ v2 + 1 ∧ v2 + 1 < (2147483648 : Int) := k7 h1 h2
      refine z_iincN (ls' := [zr 52, zi (v1 + 0), zi (v2 + 1)]) dX6_howManyHeld_30 rfl (by decide) s7 rfl ?_
      refine z_goto dX6_howManyHeld_33 (tgt := 4) (by decide) ?_
      exact k8 h1 h2
set_option maxRecDepth 20000 in
set_option maxHeartbeats 1000000 in
theorem TX11_status {G : zG} {σ : zS} {Q : Int → zS → Prop} {a1 : Int}  (k1 : (a1 = 0) → Q (σ 22 12) σ) (k2 : (a1 = 1) → Q (σ 22 14) σ) (k3 : (a1 = 2) → Q (σ 35 11) σ) (k4 : (a1 = 3) → Q (σ 52 7) σ) (k5 : (a1 = 4) → zO G MX6_howManyHeld [zr 52] σ (fun rr σ' => zR G MX11_status 131 [zr 0, zi a1] [zi rr] σ' Q)) (k6 : (a1 = 5) → Q (σ 68 11) σ) (k7 : (a1 = 6) → Q (σ 68 12) σ) (k8 : (a1 = 7) → Q (σ 79 4) σ) (k9 : (a1 = 8) → Q (σ 0 13) σ) (k10 : (a1 = 9) → Q (σ 79 3) σ) (k11 : (a1 = 10) → Q (σ 94 4) σ) (k12 : (a1 = 18) → Q (σ 65 10) σ) (k13 : ((a1 < 0 ∨ 18 < a1) ∨ a1 = 11 ∨ a1 = 12 ∨ a1 = 13 ∨ a1 = 14 ∨ a1 = 15 ∨ a1 = 16 ∨ a1 = 17) → (¬ ((11 ≤ a1 ∧ a1 ≤ 17))) → Q (-1) σ) (k14 : ((a1 < 0 ∨ 18 < a1) ∨ a1 = 11 ∨ a1 = 12 ∨ a1 = 13 ∨ a1 = 14 ∨ a1 = 15 ∨ a1 = 16 ∨ a1 = 17) → ((11 ≤ a1 ∧ a1 ≤ 17)) → -2147483648 ≤ a1 - 10 ∧ a1 - 10 < (2147483648 : Int)) (k15 : ((a1 < 0 ∨ 18 < a1) ∨ a1 = 11 ∨ a1 = 12 ∨ a1 = 13 ∨ a1 = 14 ∨ a1 = 15 ∨ a1 = 16 ∨ a1 = 17) → ((11 ≤ a1 ∧ a1 ≤ 17)) → (0 : Int) ≤ a1 - 10 ∧ a1 - 10 < (8 : Int)) (k16 : ((a1 < 0 ∨ 18 < a1) ∨ a1 = 11 ∨ a1 = 12 ∨ a1 = 13 ∨ a1 = 14 ∨ a1 = 15 ∨ a1 = 16 ∨ a1 = 17) → ((11 ≤ a1 ∧ a1 ≤ 17)) → Q (σ 97 (a1 - 10)) σ) : zO G MX11_status [zr 0, zi a1] σ Q := by
  refine zO_of (ls0 := [zr 0, zi a1]) (by decide) (Nat.le_of_ble_eq_true rfl) rfl ?_
  have J185 : ((a1 < 0 ∨ 18 < a1) ∨ a1 = 11 ∨ a1 = 12 ∨ a1 = 13 ∨ a1 = 14 ∨ a1 = 15 ∨ a1 = 16 ∨ a1 = 17) → zR G MX11_status 185 [zr 0, zi a1] [] σ Q := by
    intro h2
    refine z_iload_n dX11_status_185 rfl rfl ?_
    refine z_bipush (x := 11) dX11_status_186 (by decide +kernel) (by unfold zIn; decide) ?_
    refine z_bipush (x := 17) dX11_status_188 (by decide +kernel) (by unfold zIn; decide) ?_
    refine z_calls (as := [zi a1, zi 11, zi 17]) (st := []) mkX11_within lkRX11_111 rfl (by decide) (Nat.le_of_ble_eq_true rfl) rfl dX11_status_190 ?_
    refine SX11_within ?_
    show zR G MX11_status 193 [zr 0, zi a1] [zi (if (11 ≤ a1 ∧ a1 ≤ 17) then (1 : Int) else 0)] σ Q
    refine z_if_eq dX11_status_193 (tgt := 208) (by decide) (fun z => ?_) (fun z => ?_)
    · have h3 : ¬ ((11 ≤ a1 ∧ a1 ≤ 17)) := zb0 z
      refine z_iconst dX11_status_208 (by unfold zIn; decide) ?_
      exact z_ireti rfl dX11_status_209 (k13 h2 h3)
    · have h3 : (11 ≤ a1 ∧ a1 ≤ 17) := zb1 z
      refine z_aload_n dX11_status_196 rfl rfl ?_
      refine z_getfR (k := 12) flRX11_102 rfl rfl dX11_status_197 ?_
      refine z_iload_n dX11_status_200 rfl rfl ?_
      refine z_bipush (x := 10) dX11_status_201 (by decide +kernel) (by unfold zIn; decide) ?_
      have s14 : -2147483648 ≤ a1 - 10 ∧ a1 - 10 < (2147483648 : Int) := k14 h2 h3
      refine z_isubN dX11_status_203 s14 ?_
      have s15 : (0 : Int) ≤ a1 - 10 ∧ a1 - 10 < (8 : Int) := k15 h2 h3
      refine z_iald rfl s15.1 s15.2 dX11_status_204 ?_
      refine z_goto dX11_status_205 (tgt := 209) (by decide) ?_
      exact z_ireti rfl dX11_status_209 (k16 h2 h3)
  refine z_iload_n dX11_status_0 rfl rfl ?_
  show zR G MX11_status 1 [zr 0, zi a1] [zi a1] σ Q
  by_cases h1 : a1 < 0 ∨ 18 < a1
  · refine z_tabOut dX11_status_1 h1 (tgt := 185) (by decide) ?_
    exact J185 (Or.inl h1)
  have h1 : a1 = 0 ∨ a1 = 1 ∨ a1 = 2 ∨ a1 = 3 ∨ a1 = 4 ∨ a1 = 5 ∨ a1 = 6 ∨ a1 = 7 ∨ a1 = 8 ∨ a1 = 9 ∨ a1 = 10 ∨ a1 = 11 ∨ a1 = 12 ∨ a1 = 13 ∨ a1 = 14 ∨ a1 = 15 ∨ a1 = 16 ∨ a1 = 17 ∨ a1 = 18 := by omega
  rcases h1 with h1 | h1 | h1 | h1 | h1 | h1 | h1 | h1 | h1 | h1 | h1 | h1 | h1 | h1 | h1 | h1 | h1 | h1 | h1
  · refine z_tabIn dX11_status_1 (by omega) (by omega) (by rw [h1]; rfl) (tgt := 92) (by decide) ?_
    refine z_aload_n dX11_status_92 rfl rfl ?_
    refine z_getfR (k := 1) flRX11_18 rfl rfl dX11_status_93 ?_
    refine z_getfI (k := 12) flRX11_140 rfl rfl dX11_status_96 ?_
    exact z_ireti rfl dX11_status_99 (k1 h1)
  · refine z_tabIn dX11_status_1 (by omega) (by omega) (by rw [h1]; rfl) (tgt := 100) (by decide) ?_
    refine z_aload_n dX11_status_100 rfl rfl ?_
    refine z_getfR (k := 1) flRX11_18 rfl rfl dX11_status_101 ?_
    refine z_getfI (k := 14) flRX11_162 rfl rfl dX11_status_104 ?_
    exact z_ireti rfl dX11_status_107 (k2 h1)
  · refine z_tabIn dX11_status_1 (by omega) (by omega) (by rw [h1]; rfl) (tgt := 108) (by decide) ?_
    refine z_aload_n dX11_status_108 rfl rfl ?_
    refine z_getfR (k := 2) flRX11_25 rfl rfl dX11_status_109 ?_
    refine z_getfI (k := 11) flRX11_242 rfl rfl dX11_status_112 ?_
    exact z_ireti rfl dX11_status_115 (k3 h1)
  · refine z_tabIn dX11_status_1 (by omega) (by omega) (by rw [h1]; rfl) (tgt := 116) (by decide) ?_
    refine z_aload_n dX11_status_116 rfl rfl ?_
    refine z_getfR (k := 4) flRX11_43 rfl rfl dX11_status_117 ?_
    refine z_getfI (k := 7) flRX11_279 rfl rfl dX11_status_120 ?_
    exact z_ireti rfl dX11_status_123 (k4 h1)
  · refine z_tabIn dX11_status_1 (by omega) (by omega) (by rw [h1]; rfl) (tgt := 124) (by decide) ?_
    refine z_aload_n dX11_status_124 rfl rfl ?_
    refine z_getfR (k := 4) flRX11_43 rfl rfl dX11_status_125 ?_
    refine z_callv (as := []) (st := []) mkX6_howManyHeld lkRX11_464 rfl rfl rfl (by decide) (Nat.le_of_ble_eq_true rfl) rfl dX11_status_128 (k5 h1)
  · refine z_tabIn dX11_status_1 (by omega) (by omega) (by rw [h1]; rfl) (tgt := 132) (by decide) ?_
    refine z_aload_n dX11_status_132 rfl rfl ?_
    refine z_getfR (k := 7) flRX11_70 rfl rfl dX11_status_133 ?_
    refine z_getfI (k := 11) flRX11_338 rfl rfl dX11_status_136 ?_
    exact z_ireti rfl dX11_status_139 (k6 h1)
  · refine z_tabIn dX11_status_1 (by omega) (by omega) (by rw [h1]; rfl) (tgt := 140) (by decide) ?_
    refine z_aload_n dX11_status_140 rfl rfl ?_
    refine z_getfR (k := 7) flRX11_70 rfl rfl dX11_status_141 ?_
    refine z_getfI (k := 12) flRX11_358 rfl rfl dX11_status_144 ?_
    exact z_ireti rfl dX11_status_147 (k7 h1)
  · refine z_tabIn dX11_status_1 (by omega) (by omega) (by rw [h1]; rfl) (tgt := 148) (by decide) ?_
    refine z_aload_n dX11_status_148 rfl rfl ?_
    refine z_getfR (k := 8) flRX11_77 rfl rfl dX11_status_149 ?_
    refine z_getfI (k := 4) flRX11_467 rfl rfl dX11_status_152 ?_
    exact z_ireti rfl dX11_status_155 (k8 h1)
  · refine z_tabIn dX11_status_1 (by omega) (by omega) (by rw [h1]; rfl) (tgt := 156) (by decide) ?_
    refine z_aload_n dX11_status_156 rfl rfl ?_
    refine z_getfI (k := 13) flRX11_106 rfl rfl dX11_status_157 ?_
    exact z_ireti rfl dX11_status_160 (k9 h1)
  · refine z_tabIn dX11_status_1 (by omega) (by omega) (by rw [h1]; rfl) (tgt := 161) (by decide) ?_
    refine z_aload_n dX11_status_161 rfl rfl ?_
    refine z_getfR (k := 8) flRX11_77 rfl rfl dX11_status_162 ?_
    refine z_getfI (k := 3) flRX11_407 rfl rfl dX11_status_165 ?_
    exact z_ireti rfl dX11_status_168 (k10 h1)
  · refine z_tabIn dX11_status_1 (by omega) (by omega) (by rw [h1]; rfl) (tgt := 169) (by decide) ?_
    refine z_aload_n dX11_status_169 rfl rfl ?_
    refine z_getfR (k := 11) flRX11_98 rfl rfl dX11_status_170 ?_
    refine z_getfI (k := 4) flRX11_454 rfl rfl dX11_status_173 ?_
    exact z_ireti rfl dX11_status_176 (k11 h1)
  · refine z_tabIn dX11_status_1 (by omega) (by omega) (by rw [h1]; rfl) (tgt := 185) (by decide) ?_
    exact J185 (Or.inr (Or.inl h1))
  · refine z_tabIn dX11_status_1 (by omega) (by omega) (by rw [h1]; rfl) (tgt := 185) (by decide) ?_
    exact J185 (Or.inr (Or.inr (Or.inl h1)))
  · refine z_tabIn dX11_status_1 (by omega) (by omega) (by rw [h1]; rfl) (tgt := 185) (by decide) ?_
    exact J185 (Or.inr (Or.inr (Or.inr (Or.inl h1))))
  · refine z_tabIn dX11_status_1 (by omega) (by omega) (by rw [h1]; rfl) (tgt := 185) (by decide) ?_
    exact J185 (Or.inr (Or.inr (Or.inr (Or.inr (Or.inl h1)))))
  · refine z_tabIn dX11_status_1 (by omega) (by omega) (by rw [h1]; rfl) (tgt := 185) (by decide) ?_
    exact J185 (Or.inr (Or.inr (Or.inr (Or.inr (Or.inr (Or.inl h1))))))
  · refine z_tabIn dX11_status_1 (by omega) (by omega) (by rw [h1]; rfl) (tgt := 185) (by decide) ?_
    exact J185 (Or.inr (Or.inr (Or.inr (Or.inr (Or.inr (Or.inr (Or.inl h1)))))))
  · refine z_tabIn dX11_status_1 (by omega) (by omega) (by rw [h1]; rfl) (tgt := 185) (by decide) ?_
    exact J185 (Or.inr (Or.inr (Or.inr (Or.inr (Or.inr (Or.inr (Or.inr h1)))))))
  · refine z_tabIn dX11_status_1 (by omega) (by omega) (by rw [h1]; rfl) (tgt := 177) (by decide) ?_
    refine z_aload_n dX11_status_177 rfl rfl ?_
    refine z_getfR (k := 6) flRX11_61 rfl rfl dX11_status_178 ?_
    refine z_getfI (k := 10) flRX11_470 rfl rfl dX11_status_181 ?_
    exact z_ireti rfl dX11_status_184 (k12 h1)
set_option maxRecDepth 20000 in
set_option maxHeartbeats 1000000 in
theorem TX11_status_131 {G : zG} {σ : zS} {Q : Int → zS → Prop} {v1 r : Int}  (k1 : Q r σ) : zR G MX11_status 131 [zr 0, zi v1] [zi r] σ Q := by
  exact z_ireti rfl dX11_status_131 (k1)
set_option maxRecDepth 20000 in
set_option maxHeartbeats 1000000 in
theorem TX12_person {G : zG} {σ : zS} {Q : Int → zS → Prop} {a1 : Int}  (k1 : ((-40000) ≤ a1) → (a1 ≤ 40000) → (σ 98 1 ≠ 24) → (0 : Int) ≤ σ 98 1 ∧ σ 98 1 < (24 : Int)) (k2 : ((-40000) ≤ a1) → (a1 ≤ 40000) → (σ 98 1 ≠ 24) → -2147483648 ≤ σ 98 1 + 1 ∧ σ 98 1 + 1 < (2147483648 : Int)) (k3 : ((-40000) ≤ a1) → (a1 ≤ 40000) → (σ 98 1 ≠ 24) → Q (σ 98 1) (zup (zup σ 99 (σ 98 1) a1) 98 1 (σ 98 1 + 1))) (k4 : ((-40000) ≤ a1) → (a1 ≤ 40000) → (σ 98 1 = 24) → -2147483648 ≤ -(-7) ∧ -(-7) < (2147483648 : Int)) (k5 : ((-40000) ≤ a1) → (a1 ≤ 40000) → (σ 98 1 = 24) → (0 : Int) ≤ -(-7) ∧ -(-7) < (8 : Int)) (k6 : ((-40000) ≤ a1) → (a1 ≤ 40000) → (σ 98 1 = 24) → Q (-7) (zup σ 157 (-(-7)) (zW ((σ 157 (-(-7))) + 1)))) (k7 : (a1 < (-40000) ∨ ((-40000) ≤ a1 ∧ 40000 < a1)) → -2147483648 ≤ -(-6) ∧ -(-6) < (2147483648 : Int)) (k8 : (a1 < (-40000) ∨ ((-40000) ≤ a1 ∧ 40000 < a1)) → (0 : Int) ≤ -(-6) ∧ -(-6) < (8 : Int)) (k9 : (a1 < (-40000) ∨ ((-40000) ≤ a1 ∧ 40000 < a1)) → Q (-6) (zup σ 157 (-(-6)) (zW ((σ 157 (-(-6))) + 1)))) : zO G MX12_person [zr 98, zi a1] σ Q := by
  refine zO_of (ls0 := [zr 98, zi a1]) (by decide) (Nat.le_of_ble_eq_true rfl) rfl ?_
  have J14 : (a1 < (-40000) ∨ ((-40000) ≤ a1 ∧ 40000 < a1)) → zR G MX12_person 14 [zr 98, zi a1] [] σ Q := by
    intro h4
    refine z_aload_n dX12_person_14 rfl rfl ?_
    refine z_bipush (x := (-6)) dX12_person_15 (by decide +kernel) (by unfold zIn; decide) ?_
    have s7 : -2147483648 ≤ -(-6) ∧ -(-6) < (2147483648 : Int) := k7 h4
    have s8 : (0 : Int) ≤ -(-6) ∧ -(-6) < (8 : Int) := k8 h4
    refine z_callv (as := [zi (-6)]) (st := []) mkX12_no lkRX12_267 rfl rfl rfl (by decide) (Nat.le_of_ble_eq_true rfl) rfl dX12_person_17 ?_
    refine SX12_no s7 s8 ?_
    show zR G MX12_person 20 [zr 98, zi a1] [zi (-6)] (zup σ 157 (-(-6)) (zW ((σ 157 (-(-6))) + 1))) Q
    exact z_ireti rfl dX12_person_20 (k9 h4)
  refine z_iload_n dX12_person_0 rfl rfl ?_
  refine z_ldcw (x := (-40000)) (zin_7 (List.mem_of_getElem? (i := 197) (by decide +kernel))) (by unfold zIn; decide) dX12_person_1 ?_
  refine z_icmp_lt dX12_person_4 (tgt := 14) (by decide) (fun h1 => ?_) (fun h1 => ?_)
  · skip
    exact J14 (Or.inl h1)
  · skip
    refine z_iload_n dX12_person_7 rfl rfl ?_
    refine z_ldcw (x := 40000) (zin_7 (List.mem_of_getElem? (i := 198) (by decide +kernel))) (by unfold zIn; decide) dX12_person_8 ?_
    refine z_icmp_le dX12_person_11 (tgt := 21) (by decide) (fun h2 => ?_) (fun h2 => ?_)
    · skip
      refine z_aload_n dX12_person_21 rfl rfl ?_
      refine z_getfI (k := 1) flRX12_256 rfl rfl dX12_person_22 ?_
      refine z_bipush (x := 24) dX12_person_25 (by decide +kernel) (by unfold zIn; decide) ?_
      refine z_icmp_ne dX12_person_27 (tgt := 37) (by decide) (fun h3 => ?_) (fun h3 => ?_)
      · skip
        refine z_aload_n dX12_person_37 rfl rfl ?_
        refine z_getfR (k := 13) flRX12_13 rfl rfl dX12_person_38 ?_
        refine z_aload_n dX12_person_41 rfl rfl ?_
        refine z_getfI (k := 1) flRX12_256 rfl rfl dX12_person_42 ?_
        refine z_iload_n dX12_person_45 rfl rfl ?_
        have s1 : (0 : Int) ≤ σ 98 1 ∧ σ 98 1 < (24 : Int) := k1 h1 h2 h3
        refine z_iast rfl s1.1 s1.2 dX12_person_46 ?_
        refine z_aload_n dX12_person_47 rfl rfl ?_
        refine z_dup dX12_person_48 rfl ?_
        refine z_getfE (k := 1) (v := σ 98 1) flRX12_256 rfl rfl (zup_of (by decide)) dX12_person_49 ?_
        refine z_dup_x1 dX12_person_52 rfl rfl ?_
        refine z_iconst dX12_person_53 (by unfold zIn; decide) ?_
        have s2 : -2147483648 ≤ σ 98 1 + 1 ∧ σ 98 1 + 1 < (2147483648 : Int) := k2 h1 h2 h3
        refine z_iaddN dX12_person_54 s2 ?_
        refine z_putI (k := 1) fpRX12_256 rfl rfl dX12_person_55 ?_
        exact z_ireti rfl dX12_person_58 (k3 h1 h2 h3)
      · skip
        refine z_aload_n dX12_person_30 rfl rfl ?_
        refine z_bipush (x := (-7)) dX12_person_31 (by decide +kernel) (by unfold zIn; decide) ?_
        have s4 : -2147483648 ≤ -(-7) ∧ -(-7) < (2147483648 : Int) := k4 h1 h2 h3
        have s5 : (0 : Int) ≤ -(-7) ∧ -(-7) < (8 : Int) := k5 h1 h2 h3
        refine z_callv (as := [zi (-7)]) (st := []) mkX12_no lkRX12_267 rfl rfl rfl (by decide) (Nat.le_of_ble_eq_true rfl) rfl dX12_person_33 ?_
        refine SX12_no s4 s5 ?_
        show zR G MX12_person 36 [zr 98, zi a1] [zi (-7)] (zup σ 157 (-(-7)) (zW ((σ 157 (-(-7))) + 1))) Q
        exact z_ireti rfl dX12_person_36 (k6 h1 h2 h3)
    · skip
      exact J14 (Or.inr ⟨h1, h2⟩)
set_option maxRecDepth 20000 in
set_option maxHeartbeats 1000000 in
theorem TX12_founder {G : zG} {σ : zS} {Q : Int → zS → Prop} {a1 : Int}  (k1 : ((0 ≤ a1 ∧ a1 < σ 98 1)) → (0 : Int) ≤ a1 ∧ a1 < (24 : Int)) (k2 : ((0 ≤ a1 ∧ a1 < σ 98 1)) → (σ 104 a1 = 0) → Q 1 (zup σ 104 a1 1)) (k3 : ((0 ≤ a1 ∧ a1 < σ 98 1)) → (σ 104 a1 ≠ 0) → Q 0 σ) (k4 : (¬ ((0 ≤ a1 ∧ a1 < σ 98 1))) → -2147483648 ≤ -(-1) ∧ -(-1) < (2147483648 : Int)) (k5 : (¬ ((0 ≤ a1 ∧ a1 < σ 98 1))) → (0 : Int) ≤ -(-1) ∧ -(-1) < (8 : Int)) (k6 : (¬ ((0 ≤ a1 ∧ a1 < σ 98 1))) → Q (-1) (zup σ 157 (-(-1)) (zW ((σ 157 (-(-1))) + 1)))) : zO G MX12_founder [zr 98, zi a1] σ Q := by
  refine zO_of (ls0 := [zr 98, zi a1]) (by decide) (Nat.le_of_ble_eq_true rfl) rfl ?_
  refine z_aload_n dX12_founder_0 rfl rfl ?_
  refine z_iload_n dX12_founder_1 rfl rfl ?_
  refine z_callv (as := [zi a1]) (st := []) mkX12_isOne lkRX12_271 rfl rfl rfl (by decide) (Nat.le_of_ble_eq_true rfl) rfl dX12_founder_2 ?_
  refine SX12_isOne ?_
  show zR G MX12_founder 5 [zr 98, zi a1] [zi (if (0 ≤ a1 ∧ a1 < σ 98 1) then (1 : Int) else 0)] σ Q
  refine z_if_ne dX12_founder_5 (tgt := 14) (by decide) (fun z => ?_) (fun z => ?_)
  · have h1 : (0 ≤ a1 ∧ a1 < σ 98 1) := zb1 z
    refine z_aload_n dX12_founder_14 rfl rfl ?_
    refine z_getfR (k := 18) flRX12_29 rfl rfl dX12_founder_15 ?_
    refine z_iload_n dX12_founder_18 rfl rfl ?_
    have s1 : (0 : Int) ≤ a1 ∧ a1 < (24 : Int) := k1 h1
    refine z_bald rfl s1.1 s1.2 dX12_founder_19 ?_
    refine z_if_eq dX12_founder_20 (tgt := 25) (by decide) (fun h2 => ?_) (fun h2 => ?_)
    · skip
      refine z_aload_n dX12_founder_25 rfl rfl ?_
      refine z_getfR (k := 18) flRX12_29 rfl rfl dX12_founder_26 ?_
      refine z_iload_n dX12_founder_29 rfl rfl ?_
      refine z_iconst dX12_founder_30 (by unfold zIn; decide) ?_
      refine z_bast rfl s1.1 s1.2 (by decide) dX12_founder_31 ?_
      refine z_iconst dX12_founder_32 (by unfold zIn; decide) ?_
      exact z_ireti rfl dX12_founder_33 (k2 h1 h2)
    · skip
      refine z_iconst dX12_founder_23 (by unfold zIn; decide) ?_
      exact z_ireti rfl dX12_founder_24 (k3 h1 h2)
  · have h1 : ¬ ((0 ≤ a1 ∧ a1 < σ 98 1)) := zb0 z
    refine z_aload_n dX12_founder_8 rfl rfl ?_
    refine z_iconst dX12_founder_9 (by unfold zIn; decide) ?_
    have s4 : -2147483648 ≤ -(-1) ∧ -(-1) < (2147483648 : Int) := k4 h1
    have s5 : (0 : Int) ≤ -(-1) ∧ -(-1) < (8 : Int) := k5 h1
    refine z_callv (as := [zi (-1)]) (st := []) mkX12_no lkRX12_267 rfl rfl rfl (by decide) (Nat.le_of_ble_eq_true rfl) rfl dX12_founder_10 ?_
    refine SX12_no s4 s5 ?_
    show zR G MX12_founder 13 [zr 98, zi a1] [zi (-1)] (zup σ 157 (-(-1)) (zW ((σ 157 (-(-1))) + 1))) Q
    exact z_ireti rfl dX12_founder_13 (k6 h1)
set_option maxRecDepth 20000 in
set_option maxHeartbeats 1000000 in
theorem TX12_climbs {G : zG} {σ : zS} {Q : Int → zS → Prop} {a1 a2 : Int} {a3 a3n : Nat} (ha3 : zsh a3 = (0, a3n, [])) (k1 : zR G MX12_climbs 3 [zr 98, zi a1, zi a2, zr a3, zi 0, zu, zu, zu, zu] [] σ Q) : zO G MX12_climbs [zr 98, zi a1, zi a2, zr a3] σ Q := by
  refine zO_of (ls0 := [zr 98, zi a1, zi a2, zr a3, zu, zu, zu, zu, zu]) (by decide) (Nat.le_of_ble_eq_true rfl) rfl ?_
  refine z_iconst dX12_climbs_0 (by unfold zIn; decide) ?_
  refine z_istore (ls' := [zr 98, zi a1, zi a2, zr a3, zi 0, zu, zu, zu, zu]) dX12_climbs_1 (by decide) rfl ?_
  exact k1
set_option maxRecDepth 20000 in
set_option maxHeartbeats 1000000 in
theorem TX12_climbs_3 {G : zG} {σ : zS} {Q : Int → zS → Prop} {v1 v2 v4 : Int} {a3 a3n : Nat} (ha3 : zsh a3 = (0, a3n, [])) (k1 : (σ 98 1 ≤ v4) → (0 : Int) ≤ v1 ∧ v1 < (a3n : Int)) (k2 : (σ 98 1 ≤ v4) → -2147483648 ≤ 0 + 1 ∧ 0 + 1 < (2147483648 : Int)) (k3 : (σ 98 1 ≤ v4) → zR G MX12_climbs 44 [zr 98, zi v1, zi v2, zr a3, zi (0 + 1), zi 0, zu, zu, zu] [] (zup (zup σ a3 v1 0) 160 0 v1) Q) (k4 : (v4 < σ 98 1) → (0 : Int) ≤ v4 ∧ v4 < (a3n : Int)) (k5 : (v4 < σ 98 1) → -2147483648 ≤ v4 + 1 ∧ v4 + 1 < (2147483648 : Int)) (k6 : (v4 < σ 98 1) → zR G MX12_climbs 3 [zr 98, zi v1, zi v2, zr a3, zi (v4 + 1), zu, zu, zu, zu] [] (zup σ a3 v4 (-1)) Q) : zR G MX12_climbs 3 [zr 98, zi v1, zi v2, zr a3, zi v4, zu, zu, zu, zu] [] σ Q := by
  refine z_iload dX12_climbs_3 rfl ?_
  refine z_aload_n dX12_climbs_5 rfl rfl ?_
  refine z_getfI (k := 1) flRX12_256 rfl rfl dX12_climbs_6 ?_
  refine z_icmp_ge dX12_climbs_9 (tgt := 23) (by decide) (fun h1 => ?_) (fun h1 => ?_)
  · skip
    refine z_iconst dX12_climbs_23 (by unfold zIn; decide) ?_
    refine z_istore (ls' := [zr 98, zi v1, zi v2, zr a3, zi 0, zu, zu, zu, zu]) dX12_climbs_24 (by decide) rfl ?_
    refine z_aload_n dX12_climbs_26 rfl rfl ?_
    refine z_iload_n dX12_climbs_27 rfl rfl ?_
    refine z_iconst dX12_climbs_28 (by unfold zIn; decide) ?_
    have s1 : (0 : Int) ≤ v1 ∧ v1 < (a3n : Int) := k1 h1
    refine z_iast ha3 s1.1 s1.2 dX12_climbs_29 ?_
    refine z_aload_n dX12_climbs_30 rfl rfl ?_
    refine z_getfR (k := 76) flRX12_199 rfl rfl dX12_climbs_31 ?_
    refine z_iload dX12_climbs_34 rfl ?_
    have s2 : -2147483648 ≤ 0 + 1 ∧ 0 + 1 < (2147483648 : Int) := k2 h1
    refine z_iincN (ls' := [zr 98, zi v1, zi v2, zr a3, zi (0 + 1), zu, zu, zu, zu]) dX12_climbs_36 rfl (by decide) s2 rfl ?_
    refine z_iload_n dX12_climbs_39 rfl rfl ?_
    refine z_iast rfl (by decide) (by decide) dX12_climbs_40 ?_
    refine z_iconst dX12_climbs_41 (by unfold zIn; decide) ?_
    refine z_istore (ls' := [zr 98, zi v1, zi v2, zr a3, zi (0 + 1), zi 0, zu, zu, zu]) dX12_climbs_42 (by decide) rfl ?_
    exact k3 h1
  · skip
    refine z_aload_n dX12_climbs_12 rfl rfl ?_
    refine z_iload dX12_climbs_13 rfl ?_
    refine z_iconst dX12_climbs_15 (by unfold zIn; decide) ?_
    have s4 : (0 : Int) ≤ v4 ∧ v4 < (a3n : Int) := k4 h1
    refine z_iast ha3 s4.1 s4.2 dX12_climbs_16 ?_
    have s5 : -2147483648 ≤ v4 + 1 ∧ v4 + 1 < (2147483648 : Int) := k5 h1
    refine z_iincN (ls' := [zr 98, zi v1, zi v2, zr a3, zi (v4 + 1), zu, zu, zu, zu]) dX12_climbs_17 rfl (by decide) s5 rfl ?_
    refine z_goto dX12_climbs_20 (tgt := 3) (by decide) ?_
    exact k6 h1
set_option maxRecDepth 20000 in
set_option maxHeartbeats 1000000 in
theorem TX12_climbs_44 {G : zG} {σ : zS} {Q : Int → zS → Prop} {v1 v2 v4 v5 : Int} {a3 a3n : Nat} (ha3 : zsh a3 = (0, a3n, [])) (k1 : (v4 ≤ v5) → Q 0 σ) (k2 : (v5 < v4) → (0 : Int) ≤ v5 ∧ v5 < (24 : Int)) (k3 : (v5 < v4) → zR G MX12_climbs 63 [zr 98, zi v1, zi v2, zr a3, zi v4, zi v5, zi (σ 160 v5), zi 0, zu] [] σ Q) : zR G MX12_climbs 44 [zr 98, zi v1, zi v2, zr a3, zi v4, zi v5, zu, zu, zu] [] σ Q := by
  refine z_iload dX12_climbs_44 rfl ?_
  refine z_iload dX12_climbs_46 rfl ?_
  refine z_icmp_ge dX12_climbs_48 (tgt := 150) (by decide) (fun h1 => ?_) (fun h1 => ?_)
  · skip
    exact z_vret rfl dX12_climbs_150 (k1 h1)
  · skip
    refine z_aload_n dX12_climbs_51 rfl rfl ?_
    refine z_getfR (k := 76) flRX12_199 rfl rfl dX12_climbs_52 ?_
    refine z_iload dX12_climbs_55 rfl ?_
    have s2 : (0 : Int) ≤ v5 ∧ v5 < (24 : Int) := k2 h1
    refine z_iald rfl s2.1 s2.2 dX12_climbs_57 ?_
    refine z_istore (ls' := [zr 98, zi v1, zi v2, zr a3, zi v4, zi v5, zi (σ 160 v5), zu, zu]) dX12_climbs_58 (by decide) rfl ?_
    refine z_iconst dX12_climbs_60 (by unfold zIn; decide) ?_
    refine z_istore (ls' := [zr 98, zi v1, zi v2, zr a3, zi v4, zi v5, zi (σ 160 v5), zi 0, zu]) dX12_climbs_61 (by decide) rfl ?_
    exact k3 h1
set_option maxRecDepth 20000 in
set_option maxHeartbeats 1000000 in
theorem TX12_climbs_63 {G : zG} {σ : zS} {Q : Int → zS → Prop} {v1 v2 v4 v5 v6 v7 : Int} {a3 a3n : Nat} (ha3 : zsh a3 = (0, a3n, [])) (k1 : (2 ≤ v7) → -2147483648 ≤ v5 + 1 ∧ v5 + 1 < (2147483648 : Int)) (k2 : (2 ≤ v7) → zR G MX12_climbs 44 [zr 98, zi v1, zi v2, zr a3, zi v4, zi (v5 + 1), zu, zu, zu] [] σ Q) (k3 : (v7 < 2) → -2147483648 ≤ 2 * v6 ∧ 2 * v6 < (2147483648 : Int)) (k4 : (v7 < 2) → -2147483648 ≤ (2 * v6) + v7 ∧ (2 * v6) + v7 < (2147483648 : Int)) (k5 : (v7 < 2) → (0 : Int) ≤ (2 * v6) + v7 ∧ (2 * v6) + v7 < (48 : Int)) (k6 : (v7 < 2) → (σ 102 ((2 * v6) + v7) ≠ (-1)) → (σ 103 ((2 * v6) + v7) ≤ v2) → (0 : Int) ≤ σ 102 ((2 * v6) + v7) ∧ σ 102 ((2 * v6) + v7) < (a3n : Int)) (k7 : (v7 < 2) → (σ 102 ((2 * v6) + v7) ≠ (-1)) → (σ 103 ((2 * v6) + v7) ≤ v2) → (σ a3 (σ 102 ((2 * v6) + v7)) = (-1)) → (0 : Int) ≤ v6 ∧ v6 < (a3n : Int)) (k8 : (v7 < 2) → (σ 102 ((2 * v6) + v7) ≠ (-1)) → (σ 103 ((2 * v6) + v7) ≤ v2) → (σ a3 (σ 102 ((2 * v6) + v7)) = (-1)) → -2147483648 ≤ σ a3 v6 + 1 ∧ σ a3 v6 + 1 < (2147483648 : Int)) (k9 : (v7 < 2) → (σ 102 ((2 * v6) + v7) ≠ (-1)) → (σ 103 ((2 * v6) + v7) ≤ v2) → (σ a3 (σ 102 ((2 * v6) + v7)) = (-1)) → -2147483648 ≤ v4 + 1 ∧ v4 + 1 < (2147483648 : Int)) (k10 : (v7 < 2) → (σ 102 ((2 * v6) + v7) ≠ (-1)) → (σ 103 ((2 * v6) + v7) ≤ v2) → (σ a3 (σ 102 ((2 * v6) + v7)) = (-1)) → (0 : Int) ≤ v4 ∧ v4 < (24 : Int)) (k11 : (v7 < 2) → (σ 102 ((2 * v6) + v7) = (-1) ∨ (σ 102 ((2 * v6) + v7) ≠ (-1) ∧ v2 < σ 103 ((2 * v6) + v7)) ∨ (σ 102 ((2 * v6) + v7) ≠ (-1) ∧ σ 103 ((2 * v6) + v7) ≤ v2 ∧ σ a3 (σ 102 ((2 * v6) + v7)) ≠ (-1))) → -2147483648 ≤ v7 + 1 ∧ v7 + 1 < (2147483648 : Int)) (k12 : (v7 < 2) → (σ 102 ((2 * v6) + v7) = (-1) ∨ (σ 102 ((2 * v6) + v7) ≠ (-1) ∧ v2 < σ 103 ((2 * v6) + v7)) ∨ (σ 102 ((2 * v6) + v7) ≠ (-1) ∧ σ 103 ((2 * v6) + v7) ≤ v2 ∧ σ a3 (σ 102 ((2 * v6) + v7)) ≠ (-1))) → zR G MX12_climbs 63 [zr 98, zi v1, zi v2, zr a3, zi v4, zi v5, zi v6, zi (v7 + 1), zu] [] σ Q) (k13 : (v7 < 2) → (σ 102 ((2 * v6) + v7) ≠ (-1)) → (σ 103 ((2 * v6) + v7) ≤ v2) → (σ a3 (σ 102 ((2 * v6) + v7)) = (-1)) → -2147483648 ≤ v7 + 1 ∧ v7 + 1 < (2147483648 : Int)) (k14 : (v7 < 2) → (σ 102 ((2 * v6) + v7) ≠ (-1)) → (σ 103 ((2 * v6) + v7) ≤ v2) → (σ a3 (σ 102 ((2 * v6) + v7)) = (-1)) → zR G MX12_climbs 63 [zr 98, zi v1, zi v2, zr a3, zi (v4 + 1), zi v5, zi v6, zi (v7 + 1), zu] [] (zup (zup σ a3 (σ 102 ((2 * v6) + v7)) (σ a3 v6 + 1)) 160 v4 (σ 102 ((2 * v6) + v7))) Q) : zR G MX12_climbs 63 [zr 98, zi v1, zi v2, zr a3, zi v4, zi v5, zi v6, zi v7, zu] [] σ Q := by
  have J138_1 : (v7 < 2) → (σ 102 ((2 * v6) + v7) ≠ (-1)) → (σ 103 ((2 * v6) + v7) ≤ v2) → (σ a3 (σ 102 ((2 * v6) + v7)) = (-1)) → zR G MX12_climbs 138 [zr 98, zi v1, zi v2, zr a3, zi (v4 + 1), zi v5, zi v6, zi v7, zi (σ 102 ((2 * v6) + v7))] [] (zup (zup σ a3 (σ 102 ((2 * v6) + v7)) (σ a3 v6 + 1)) 160 v4 (σ 102 ((2 * v6) + v7))) Q := by
    intro h1 h2 h3 h4
    have s13 : -2147483648 ≤ v7 + 1 ∧ v7 + 1 < (2147483648 : Int) := k13 h1 h2 h3 h4
    refine z_iincN (ls' := [zr 98, zi v1, zi v2, zr a3, zi (v4 + 1), zi v5, zi v6, zi (v7 + 1), zi (σ 102 ((2 * v6) + v7))]) dX12_climbs_138 rfl (by decide) s13 rfl ?_
    refine z_goto dX12_climbs_141 (tgt := 63) (by decide) ?_
    exact zR_fg [false, false, false, false, false, false, false, false, true] (k14 h1 h2 h3 h4)
  have J138 : (v7 < 2) → (σ 102 ((2 * v6) + v7) = (-1) ∨ (σ 102 ((2 * v6) + v7) ≠ (-1) ∧ v2 < σ 103 ((2 * v6) + v7)) ∨ (σ 102 ((2 * v6) + v7) ≠ (-1) ∧ σ 103 ((2 * v6) + v7) ≤ v2 ∧ σ a3 (σ 102 ((2 * v6) + v7)) ≠ (-1))) → zR G MX12_climbs 138 [zr 98, zi v1, zi v2, zr a3, zi v4, zi v5, zi v6, zi v7, zi (σ 102 ((2 * v6) + v7))] [] σ Q := by
    intro h1 h5
    have s11 : -2147483648 ≤ v7 + 1 ∧ v7 + 1 < (2147483648 : Int) := k11 h1 h5
    refine z_iincN (ls' := [zr 98, zi v1, zi v2, zr a3, zi v4, zi v5, zi v6, zi (v7 + 1), zi (σ 102 ((2 * v6) + v7))]) dX12_climbs_138 rfl (by decide) s11 rfl ?_
    refine z_goto dX12_climbs_141 (tgt := 63) (by decide) ?_
    exact zR_fg [false, false, false, false, false, false, false, false, true] (k12 h1 h5)
  refine z_iload dX12_climbs_63 rfl ?_
  refine z_iconst dX12_climbs_65 (by unfold zIn; decide) ?_
  refine z_icmp_ge dX12_climbs_66 (tgt := 144) (by decide) (fun h1 => ?_) (fun h1 => ?_)
  · skip
    have s1 : -2147483648 ≤ v5 + 1 ∧ v5 + 1 < (2147483648 : Int) := k1 h1
    refine z_iincN (ls' := [zr 98, zi v1, zi v2, zr a3, zi v4, zi (v5 + 1), zi v6, zi v7, zu]) dX12_climbs_144 rfl (by decide) s1 rfl ?_
    refine z_goto dX12_climbs_147 (tgt := 44) (by decide) ?_
    exact zR_fg [false, false, false, false, false, false, true, true, false] (k2 h1)
  · skip
    refine z_aload_n dX12_climbs_69 rfl rfl ?_
    refine z_getfR (k := 16) flRX12_23 rfl rfl dX12_climbs_70 ?_
    refine z_iconst dX12_climbs_73 (by unfold zIn; decide) ?_
    refine z_iload dX12_climbs_74 rfl ?_
    have s3 : -2147483648 ≤ 2 * v6 ∧ 2 * v6 < (2147483648 : Int) := k3 h1
    refine z_imulN dX12_climbs_76 s3 ?_
    refine z_iload dX12_climbs_77 rfl ?_
    have s4 : -2147483648 ≤ (2 * v6) + v7 ∧ (2 * v6) + v7 < (2147483648 : Int) := k4 h1
    refine z_iaddN dX12_climbs_79 s4 ?_
    have s5 : (0 : Int) ≤ (2 * v6) + v7 ∧ (2 * v6) + v7 < (48 : Int) := k5 h1
    refine z_iald rfl s5.1 s5.2 dX12_climbs_80 ?_
    refine z_istore (ls' := [zr 98, zi v1, zi v2, zr a3, zi v4, zi v5, zi v6, zi v7, zi (σ 102 ((2 * v6) + v7))]) dX12_climbs_81 (by decide) rfl ?_
    refine z_iload dX12_climbs_83 rfl ?_
    refine z_iconst dX12_climbs_85 (by unfold zIn; decide) ?_
    refine z_icmp_eq dX12_climbs_86 (tgt := 138) (by decide) (fun h2 => ?_) (fun h2 => ?_)
    · skip
      exact J138 h1 (Or.inl h2)
    · skip
      refine z_aload_n dX12_climbs_89 rfl rfl ?_
      refine z_getfR (k := 17) flRX12_26 rfl rfl dX12_climbs_90 ?_
      refine z_iconst dX12_climbs_93 (by unfold zIn; decide) ?_
      refine z_iload dX12_climbs_94 rfl ?_
      refine z_imulN dX12_climbs_96 s3 ?_
      refine z_iload dX12_climbs_97 rfl ?_
      refine z_iaddN dX12_climbs_99 s4 ?_
      refine z_iald rfl s5.1 s5.2 dX12_climbs_100 ?_
      refine z_iload_n dX12_climbs_101 rfl rfl ?_
      refine z_icmp_gt dX12_climbs_102 (tgt := 138) (by decide) (fun h3 => ?_) (fun h3 => ?_)
      · skip
        exact J138 h1 (Or.inr (Or.inl ⟨h2, h3⟩))
      · skip
        refine z_aload_n dX12_climbs_105 rfl rfl ?_
        refine z_iload dX12_climbs_106 rfl ?_
        have s6 : (0 : Int) ≤ σ 102 ((2 * v6) + v7) ∧ σ 102 ((2 * v6) + v7) < (a3n : Int) := k6 h1 h2 h3
        refine z_iald ha3 s6.1 s6.2 dX12_climbs_108 ?_
        refine z_iconst dX12_climbs_109 (by unfold zIn; decide) ?_
        refine z_icmp_eq dX12_climbs_110 (tgt := 116) (by decide) (fun h4 => ?_) (fun h4 => ?_)
        · skip
          refine z_aload_n dX12_climbs_116 rfl rfl ?_
          refine z_iload dX12_climbs_117 rfl ?_
          refine z_aload_n dX12_climbs_119 rfl rfl ?_
          refine z_iload dX12_climbs_120 rfl ?_
          have s7 : (0 : Int) ≤ v6 ∧ v6 < (a3n : Int) := k7 h1 h2 h3 h4
          refine z_iald ha3 s7.1 s7.2 dX12_climbs_122 ?_
          refine z_iconst dX12_climbs_123 (by unfold zIn; decide) ?_
          have s8 : -2147483648 ≤ σ a3 v6 + 1 ∧ σ a3 v6 + 1 < (2147483648 : Int) := k8 h1 h2 h3 h4
          refine z_iaddN dX12_climbs_124 s8 ?_
          refine z_iast ha3 s6.1 s6.2 dX12_climbs_125 ?_
          refine z_aload_n dX12_climbs_126 rfl rfl ?_
          refine z_getfR (k := 76) flRX12_199 rfl rfl dX12_climbs_127 ?_
          refine z_iload dX12_climbs_130 rfl ?_
          have s9 : -2147483648 ≤ v4 + 1 ∧ v4 + 1 < (2147483648 : Int) := k9 h1 h2 h3 h4
          refine z_iincN (ls' := [zr 98, zi v1, zi v2, zr a3, zi (v4 + 1), zi v5, zi v6, zi v7, zi (σ 102 ((2 * v6) + v7))]) dX12_climbs_132 rfl (by decide) s9 rfl ?_
          refine z_iload dX12_climbs_135 rfl ?_
          have s10 : (0 : Int) ≤ v4 ∧ v4 < (24 : Int) := k10 h1 h2 h3 h4
          refine z_iast rfl s10.1 s10.2 dX12_climbs_137 ?_
          exact J138_1 h1 h2 h3 h4
        · skip
          refine z_goto dX12_climbs_113 (tgt := 138) (by decide) ?_
          exact J138 h1 (Or.inr (Or.inr ⟨h2, h3, h4⟩))
set_option maxRecDepth 20000 in
set_option maxHeartbeats 1000000 in
theorem TX12_link {G : zG} {σ : zS} {Q : Int → zS → Prop} {a1 a2 a3 : Int}  (k1 : ((0 ≤ a1 ∧ a1 < σ 98 1)) → ((0 ≤ a3 ∧ a3 < σ 98 1)) → (0 ≤ a2) → (a2 ≤ 1) → -2147483648 ≤ 2 * a1 ∧ 2 * a1 < (2147483648 : Int)) (k2 : ((0 ≤ a1 ∧ a1 < σ 98 1)) → ((0 ≤ a3 ∧ a3 < σ 98 1)) → (0 ≤ a2) → (a2 ≤ 1) → -2147483648 ≤ (2 * a1) + a2 ∧ (2 * a1) + a2 < (2147483648 : Int)) (k3 : ((0 ≤ a1 ∧ a1 < σ 98 1)) → ((0 ≤ a3 ∧ a3 < σ 98 1)) → (0 ≤ a2) → (a2 ≤ 1) → (0 : Int) ≤ (2 * a1) + a2 ∧ (2 * a1) + a2 < (48 : Int)) (k4 : ((0 ≤ a1 ∧ a1 < σ 98 1)) → ((0 ≤ a3 ∧ a3 < σ 98 1)) → (0 ≤ a2) → (a2 ≤ 1) → (σ 102 ((2 * a1) + a2) = (-1)) → (a3 ≠ a1) → zO G MX12_climbs [zr 98, zi a3, zi (σ 98 0), zr 158] σ (fun rr σ' => zR G MX12_link 70 [zr 98, zi a1, zi a2, zi a3] [] σ' Q)) (k5 : ((¬ ((0 ≤ a1 ∧ a1 < σ 98 1))) ∨ (((0 ≤ a1 ∧ a1 < σ 98 1)) ∧ (¬ ((0 ≤ a3 ∧ a3 < σ 98 1))))) → -2147483648 ≤ -(-1) ∧ -(-1) < (2147483648 : Int)) (k6 : ((¬ ((0 ≤ a1 ∧ a1 < σ 98 1))) ∨ (((0 ≤ a1 ∧ a1 < σ 98 1)) ∧ (¬ ((0 ≤ a3 ∧ a3 < σ 98 1))))) → (0 : Int) ≤ -(-1) ∧ -(-1) < (8 : Int)) (k7 : ((¬ ((0 ≤ a1 ∧ a1 < σ 98 1))) ∨ (((0 ≤ a1 ∧ a1 < σ 98 1)) ∧ (¬ ((0 ≤ a3 ∧ a3 < σ 98 1))))) → Q (-1) (zup σ 157 (-(-1)) (zW ((σ 157 (-(-1))) + 1)))) (k8 : ((0 ≤ a1 ∧ a1 < σ 98 1)) → ((0 ≤ a3 ∧ a3 < σ 98 1)) → (a2 < 0 ∨ (0 ≤ a2 ∧ 1 < a2) ∨ (0 ≤ a2 ∧ a2 ≤ 1 ∧ σ 102 ((2 * a1) + a2) ≠ (-1)) ∨ (0 ≤ a2 ∧ a2 ≤ 1 ∧ σ 102 ((2 * a1) + a2) = (-1) ∧ a3 = a1)) → -2147483648 ≤ -(-6) ∧ -(-6) < (2147483648 : Int)) (k9 : ((0 ≤ a1 ∧ a1 < σ 98 1)) → ((0 ≤ a3 ∧ a3 < σ 98 1)) → (a2 < 0 ∨ (0 ≤ a2 ∧ 1 < a2) ∨ (0 ≤ a2 ∧ a2 ≤ 1 ∧ σ 102 ((2 * a1) + a2) ≠ (-1)) ∨ (0 ≤ a2 ∧ a2 ≤ 1 ∧ σ 102 ((2 * a1) + a2) = (-1) ∧ a3 = a1)) → (0 : Int) ≤ -(-6) ∧ -(-6) < (8 : Int)) (k10 : ((0 ≤ a1 ∧ a1 < σ 98 1)) → ((0 ≤ a3 ∧ a3 < σ 98 1)) → (a2 < 0 ∨ (0 ≤ a2 ∧ 1 < a2) ∨ (0 ≤ a2 ∧ a2 ≤ 1 ∧ σ 102 ((2 * a1) + a2) ≠ (-1)) ∨ (0 ≤ a2 ∧ a2 ≤ 1 ∧ σ 102 ((2 * a1) + a2) = (-1) ∧ a3 = a1)) → Q (-6) (zup σ 157 (-(-6)) (zW ((σ 157 (-(-6))) + 1)))) : zO G MX12_link [zr 98, zi a1, zi a2, zi a3] σ Q := by
  refine zO_of (ls0 := [zr 98, zi a1, zi a2, zi a3]) (by decide) (Nat.le_of_ble_eq_true rfl) rfl ?_
  have J50 : ((0 ≤ a1 ∧ a1 < σ 98 1)) → ((0 ≤ a3 ∧ a3 < σ 98 1)) → (a2 < 0 ∨ (0 ≤ a2 ∧ 1 < a2) ∨ (0 ≤ a2 ∧ a2 ≤ 1 ∧ σ 102 ((2 * a1) + a2) ≠ (-1)) ∨ (0 ≤ a2 ∧ a2 ≤ 1 ∧ σ 102 ((2 * a1) + a2) = (-1) ∧ a3 = a1)) → zR G MX12_link 50 [zr 98, zi a1, zi a2, zi a3] [] σ Q := by
    intro h1 h2 h8
    refine z_aload_n dX12_link_50 rfl rfl ?_
    refine z_bipush (x := (-6)) dX12_link_51 (by decide +kernel) (by unfold zIn; decide) ?_
    have s8 : -2147483648 ≤ -(-6) ∧ -(-6) < (2147483648 : Int) := k8 h1 h2 h8
    have s9 : (0 : Int) ≤ -(-6) ∧ -(-6) < (8 : Int) := k9 h1 h2 h8
    refine z_callv (as := [zi (-6)]) (st := []) mkX12_no lkRX12_267 rfl rfl rfl (by decide) (Nat.le_of_ble_eq_true rfl) rfl dX12_link_53 ?_
    refine SX12_no s8 s9 ?_
    show zR G MX12_link 56 [zr 98, zi a1, zi a2, zi a3] [zi (-6)] (zup σ 157 (-(-6)) (zW ((σ 157 (-(-6))) + 1))) Q
    exact z_ireti rfl dX12_link_56 (k10 h1 h2 h8)
  have J16 : ((¬ ((0 ≤ a1 ∧ a1 < σ 98 1))) ∨ (((0 ≤ a1 ∧ a1 < σ 98 1)) ∧ (¬ ((0 ≤ a3 ∧ a3 < σ 98 1))))) → zR G MX12_link 16 [zr 98, zi a1, zi a2, zi a3] [] σ Q := by
    intro h7
    refine z_aload_n dX12_link_16 rfl rfl ?_
    refine z_iconst dX12_link_17 (by unfold zIn; decide) ?_
    have s5 : -2147483648 ≤ -(-1) ∧ -(-1) < (2147483648 : Int) := k5 h7
    have s6 : (0 : Int) ≤ -(-1) ∧ -(-1) < (8 : Int) := k6 h7
    refine z_callv (as := [zi (-1)]) (st := []) mkX12_no lkRX12_267 rfl rfl rfl (by decide) (Nat.le_of_ble_eq_true rfl) rfl dX12_link_18 ?_
    refine SX12_no s5 s6 ?_
    show zR G MX12_link 21 [zr 98, zi a1, zi a2, zi a3] [zi (-1)] (zup σ 157 (-(-1)) (zW ((σ 157 (-(-1))) + 1))) Q
    exact z_ireti rfl dX12_link_21 (k7 h7)
  refine z_aload_n dX12_link_0 rfl rfl ?_
  refine z_iload_n dX12_link_1 rfl rfl ?_
  refine z_callv (as := [zi a1]) (st := []) mkX12_isOne lkRX12_271 rfl rfl rfl (by decide) (Nat.le_of_ble_eq_true rfl) rfl dX12_link_2 ?_
  refine SX12_isOne ?_
  show zR G MX12_link 5 [zr 98, zi a1, zi a2, zi a3] [zi (if (0 ≤ a1 ∧ a1 < σ 98 1) then (1 : Int) else 0)] σ Q
  refine z_if_eq dX12_link_5 (tgt := 16) (by decide) (fun z => ?_) (fun z => ?_)
  · have h1 : ¬ ((0 ≤ a1 ∧ a1 < σ 98 1)) := zb0 z
    exact J16 (Or.inl h1)
  · have h1 : (0 ≤ a1 ∧ a1 < σ 98 1) := zb1 z
    refine z_aload_n dX12_link_8 rfl rfl ?_
    refine z_iload_n dX12_link_9 rfl rfl ?_
    refine z_callv (as := [zi a3]) (st := []) mkX12_isOne lkRX12_271 rfl rfl rfl (by decide) (Nat.le_of_ble_eq_true rfl) rfl dX12_link_10 ?_
    refine SX12_isOne ?_
    show zR G MX12_link 13 [zr 98, zi a1, zi a2, zi a3] [zi (if (0 ≤ a3 ∧ a3 < σ 98 1) then (1 : Int) else 0)] σ Q
    refine z_if_ne dX12_link_13 (tgt := 22) (by decide) (fun z => ?_) (fun z => ?_)
    · have h2 : (0 ≤ a3 ∧ a3 < σ 98 1) := zb1 z
      refine z_iload_n dX12_link_22 rfl rfl ?_
      refine z_if_lt dX12_link_23 (tgt := 50) (by decide) (fun h3 => ?_) (fun h3 => ?_)
      · skip
        exact J50 h1 h2 (Or.inl h3)
      · skip
        refine z_iload_n dX12_link_26 rfl rfl ?_
        refine z_iconst dX12_link_27 (by unfold zIn; decide) ?_
        refine z_icmp_gt dX12_link_28 (tgt := 50) (by decide) (fun h4 => ?_) (fun h4 => ?_)
        · skip
          exact J50 h1 h2 (Or.inr (Or.inl ⟨h3, h4⟩))
        · skip
          refine z_aload_n dX12_link_31 rfl rfl ?_
          refine z_getfR (k := 16) flRX12_23 rfl rfl dX12_link_32 ?_
          refine z_iconst dX12_link_35 (by unfold zIn; decide) ?_
          refine z_iload_n dX12_link_36 rfl rfl ?_
          have s1 : -2147483648 ≤ 2 * a1 ∧ 2 * a1 < (2147483648 : Int) := k1 h1 h2 h3 h4
          refine z_imulN dX12_link_37 s1 ?_
          refine z_iload_n dX12_link_38 rfl rfl ?_
          have s2 : -2147483648 ≤ (2 * a1) + a2 ∧ (2 * a1) + a2 < (2147483648 : Int) := k2 h1 h2 h3 h4
          refine z_iaddN dX12_link_39 s2 ?_
          have s3 : (0 : Int) ≤ (2 * a1) + a2 ∧ (2 * a1) + a2 < (48 : Int) := k3 h1 h2 h3 h4
          refine z_iald rfl s3.1 s3.2 dX12_link_40 ?_
          refine z_iconst dX12_link_41 (by unfold zIn; decide) ?_
          refine z_icmp_ne dX12_link_42 (tgt := 50) (by decide) (fun h5 => ?_) (fun h5 => ?_)
          · skip
            exact J50 h1 h2 (Or.inr (Or.inr (Or.inl ⟨h3, h4, h5⟩)))
          · skip
            refine z_iload_n dX12_link_45 rfl rfl ?_
            refine z_iload_n dX12_link_46 rfl rfl ?_
            refine z_icmp_ne dX12_link_47 (tgt := 57) (by decide) (fun h6 => ?_) (fun h6 => ?_)
            · skip
              refine z_aload_n dX12_link_57 rfl rfl ?_
              refine z_iload_n dX12_link_58 rfl rfl ?_
              refine z_aload_n dX12_link_59 rfl rfl ?_
              refine z_getfI (k := 0) flRX12_262 rfl rfl dX12_link_60 ?_
              refine z_aload_n dX12_link_63 rfl rfl ?_
              refine z_getfR (k := 74) flRX12_193 rfl rfl dX12_link_64 ?_
              refine z_callv (as := [zi a3, zi (σ 98 0), zr 158]) (st := []) mkX12_climbs lkRX12_275 rfl rfl rfl (by decide) (Nat.le_of_ble_eq_true rfl) rfl dX12_link_67 (k4 h1 h2 h3 h4 h5 h6)
            · skip
              exact J50 h1 h2 (Or.inr (Or.inr (Or.inr ⟨h3, h4, h5, h6⟩)))
    · have h2 : ¬ ((0 ≤ a3 ∧ a3 < σ 98 1)) := zb0 z
      exact J16 (Or.inr ⟨h1, h2⟩)
set_option maxRecDepth 20000 in
set_option maxHeartbeats 1000000 in
theorem TX12_link_70 {G : zG} {σ : zS} {Q : Int → zS → Prop} {v1 v2 v3 : Int}  (k1 : (0 : Int) ≤ v1 ∧ v1 < (24 : Int)) (k2 : (σ 158 v1 = (-1)) → -2147483648 ≤ 2 * v1 ∧ 2 * v1 < (2147483648 : Int)) (k3 : (σ 158 v1 = (-1)) → -2147483648 ≤ (2 * v1) + v2 ∧ (2 * v1) + v2 < (2147483648 : Int)) (k4 : (σ 158 v1 = (-1)) → (0 : Int) ≤ (2 * v1) + v2 ∧ (2 * v1) + v2 < (48 : Int)) (k5 : (σ 158 v1 = (-1)) → Q 1 (zup (zup σ 102 ((2 * v1) + v2) v3) 103 ((2 * v1) + v2) (σ 98 0))) (k6 : (σ 158 v1 ≠ (-1)) → -2147483648 ≤ -(-6) ∧ -(-6) < (2147483648 : Int)) (k7 : (σ 158 v1 ≠ (-1)) → (0 : Int) ≤ -(-6) ∧ -(-6) < (8 : Int)) (k8 : (σ 158 v1 ≠ (-1)) → Q (-6) (zup σ 157 (-(-6)) (zW ((σ 157 (-(-6))) + 1)))) : zR G MX12_link 70 [zr 98, zi v1, zi v2, zi v3] [] σ Q := by
  refine z_aload_n dX12_link_70 rfl rfl ?_
  refine z_getfR (k := 74) flRX12_193 rfl rfl dX12_link_71 ?_
  refine z_iload_n dX12_link_74 rfl rfl ?_
  have s1 : (0 : Int) ≤ v1 ∧ v1 < (24 : Int) := k1
  refine z_iald rfl s1.1 s1.2 dX12_link_75 ?_
  refine z_iconst dX12_link_76 (by unfold zIn; decide) ?_
  refine z_icmp_eq dX12_link_77 (tgt := 87) (by decide) (fun h1 => ?_) (fun h1 => ?_)
  · skip
    refine z_aload_n dX12_link_87 rfl rfl ?_
    refine z_getfR (k := 16) flRX12_23 rfl rfl dX12_link_88 ?_
    refine z_iconst dX12_link_91 (by unfold zIn; decide) ?_
    refine z_iload_n dX12_link_92 rfl rfl ?_
    have s2 : -2147483648 ≤ 2 * v1 ∧ 2 * v1 < (2147483648 : Int) := k2 h1
    refine z_imulN dX12_link_93 s2 ?_
    refine z_iload_n dX12_link_94 rfl rfl ?_
    have s3 : -2147483648 ≤ (2 * v1) + v2 ∧ (2 * v1) + v2 < (2147483648 : Int) := k3 h1
    refine z_iaddN dX12_link_95 s3 ?_
    refine z_iload_n dX12_link_96 rfl rfl ?_
    have s4 : (0 : Int) ≤ (2 * v1) + v2 ∧ (2 * v1) + v2 < (48 : Int) := k4 h1
    refine z_iast rfl s4.1 s4.2 dX12_link_97 ?_
    refine z_aload_n dX12_link_98 rfl rfl ?_
    refine z_getfR (k := 17) flRX12_26 rfl rfl dX12_link_99 ?_
    refine z_iconst dX12_link_102 (by unfold zIn; decide) ?_
    refine z_iload_n dX12_link_103 rfl rfl ?_
    refine z_imulN dX12_link_104 s2 ?_
    refine z_iload_n dX12_link_105 rfl rfl ?_
    refine z_iaddN dX12_link_106 s3 ?_
    refine z_aload_n dX12_link_107 rfl rfl ?_
    refine z_getfE (k := 0) (v := σ 98 0) flRX12_262 rfl rfl (zup_of (by decide)) dX12_link_108 ?_
    refine z_iast rfl s4.1 s4.2 dX12_link_111 ?_
    refine z_iconst dX12_link_112 (by unfold zIn; decide) ?_
    exact z_ireti rfl dX12_link_113 (k5 h1)
  · skip
    refine z_aload_n dX12_link_80 rfl rfl ?_
    refine z_bipush (x := (-6)) dX12_link_81 (by decide +kernel) (by unfold zIn; decide) ?_
    have s6 : -2147483648 ≤ -(-6) ∧ -(-6) < (2147483648 : Int) := k6 h1
    have s7 : (0 : Int) ≤ -(-6) ∧ -(-6) < (8 : Int) := k7 h1
    refine z_callv (as := [zi (-6)]) (st := []) mkX12_no lkRX12_267 rfl rfl rfl (by decide) (Nat.le_of_ble_eq_true rfl) rfl dX12_link_83 ?_
    refine SX12_no s6 s7 ?_
    show zR G MX12_link 86 [zr 98, zi v1, zi v2, zi v3] [zi (-6)] (zup σ 157 (-(-6)) (zW ((σ 157 (-(-6))) + 1))) Q
    exact z_ireti rfl dX12_link_86 (k8 h1)
set_option maxRecDepth 20000 in
set_option maxHeartbeats 1000000 in
theorem TX12_fact {G : zG} {σ : zS} {Q : Int → zS → Prop} {a1 a2 a3 a4 : Int}  (k1 : ((0 ≤ a1 ∧ a1 < σ 98 1)) → (0 ≤ a2) → (a2 ≤ 3) → (0 ≤ a3) → (a3 ≤ 9999) → ((-40000) ≤ a4) → (a4 ≤ 40000) → (σ 98 2 ≠ 400) → (0 : Int) ≤ σ 98 2 ∧ σ 98 2 < (400 : Int)) (k2 : ((0 ≤ a1 ∧ a1 < σ 98 1)) → (0 ≤ a2) → (a2 ≤ 3) → (0 ≤ a3) → (a3 ≤ 9999) → ((-40000) ≤ a4) → (a4 ≤ 40000) → (σ 98 2 ≠ 400) → -2147483648 ≤ σ 98 2 + 1 ∧ σ 98 2 + 1 < (2147483648 : Int)) (k3 : ((0 ≤ a1 ∧ a1 < σ 98 1)) → (0 ≤ a2) → (a2 ≤ 3) → (0 ≤ a3) → (a3 ≤ 9999) → ((-40000) ≤ a4) → (a4 ≤ 40000) → (σ 98 2 ≠ 400) → Q (σ 98 2 + 1) (zup (zup (zup (zup (zup (zup σ 106 (σ 98 2) a1) 107 (σ 98 2) a2) 108 (σ 98 2) a3) 109 (σ 98 2) a4) 110 (σ 98 2) (σ 98 0)) 98 2 (σ 98 2 + 1))) (k4 : ((0 ≤ a1 ∧ a1 < σ 98 1)) → (0 ≤ a2) → (a2 ≤ 3) → (0 ≤ a3) → (a3 ≤ 9999) → ((-40000) ≤ a4) → (a4 ≤ 40000) → (σ 98 2 = 400) → -2147483648 ≤ -(-7) ∧ -(-7) < (2147483648 : Int)) (k5 : ((0 ≤ a1 ∧ a1 < σ 98 1)) → (0 ≤ a2) → (a2 ≤ 3) → (0 ≤ a3) → (a3 ≤ 9999) → ((-40000) ≤ a4) → (a4 ≤ 40000) → (σ 98 2 = 400) → (0 : Int) ≤ -(-7) ∧ -(-7) < (8 : Int)) (k6 : ((0 ≤ a1 ∧ a1 < σ 98 1)) → (0 ≤ a2) → (a2 ≤ 3) → (0 ≤ a3) → (a3 ≤ 9999) → ((-40000) ≤ a4) → (a4 ≤ 40000) → (σ 98 2 = 400) → Q (-7) (zup σ 157 (-(-7)) (zW ((σ 157 (-(-7))) + 1)))) (k7 : (¬ ((0 ≤ a1 ∧ a1 < σ 98 1))) → -2147483648 ≤ -(-1) ∧ -(-1) < (2147483648 : Int)) (k8 : (¬ ((0 ≤ a1 ∧ a1 < σ 98 1))) → (0 : Int) ≤ -(-1) ∧ -(-1) < (8 : Int)) (k9 : (¬ ((0 ≤ a1 ∧ a1 < σ 98 1))) → Q (-1) (zup σ 157 (-(-1)) (zW ((σ 157 (-(-1))) + 1)))) (k10 : ((0 ≤ a1 ∧ a1 < σ 98 1)) → (a2 < 0 ∨ (0 ≤ a2 ∧ 3 < a2) ∨ (0 ≤ a2 ∧ a2 ≤ 3 ∧ a3 < 0) ∨ (0 ≤ a2 ∧ a2 ≤ 3 ∧ 0 ≤ a3 ∧ 9999 < a3) ∨ (0 ≤ a2 ∧ a2 ≤ 3 ∧ 0 ≤ a3 ∧ a3 ≤ 9999 ∧ a4 < (-40000)) ∨ (0 ≤ a2 ∧ a2 ≤ 3 ∧ 0 ≤ a3 ∧ a3 ≤ 9999 ∧ (-40000) ≤ a4 ∧ 40000 < a4)) → -2147483648 ≤ -(-6) ∧ -(-6) < (2147483648 : Int)) (k11 : ((0 ≤ a1 ∧ a1 < σ 98 1)) → (a2 < 0 ∨ (0 ≤ a2 ∧ 3 < a2) ∨ (0 ≤ a2 ∧ a2 ≤ 3 ∧ a3 < 0) ∨ (0 ≤ a2 ∧ a2 ≤ 3 ∧ 0 ≤ a3 ∧ 9999 < a3) ∨ (0 ≤ a2 ∧ a2 ≤ 3 ∧ 0 ≤ a3 ∧ a3 ≤ 9999 ∧ a4 < (-40000)) ∨ (0 ≤ a2 ∧ a2 ≤ 3 ∧ 0 ≤ a3 ∧ a3 ≤ 9999 ∧ (-40000) ≤ a4 ∧ 40000 < a4)) → (0 : Int) ≤ -(-6) ∧ -(-6) < (8 : Int)) (k12 : ((0 ≤ a1 ∧ a1 < σ 98 1)) → (a2 < 0 ∨ (0 ≤ a2 ∧ 3 < a2) ∨ (0 ≤ a2 ∧ a2 ≤ 3 ∧ a3 < 0) ∨ (0 ≤ a2 ∧ a2 ≤ 3 ∧ 0 ≤ a3 ∧ 9999 < a3) ∨ (0 ≤ a2 ∧ a2 ≤ 3 ∧ 0 ≤ a3 ∧ a3 ≤ 9999 ∧ a4 < (-40000)) ∨ (0 ≤ a2 ∧ a2 ≤ 3 ∧ 0 ≤ a3 ∧ a3 ≤ 9999 ∧ (-40000) ≤ a4 ∧ 40000 < a4)) → Q (-6) (zup σ 157 (-(-6)) (zW ((σ 157 (-(-6))) + 1)))) : zO G MX12_fact [zr 98, zi a1, zi a2, zi a3, zi a4] σ Q := by
  refine zO_of (ls0 := [zr 98, zi a1, zi a2, zi a3, zi a4]) (by decide) (Nat.le_of_ble_eq_true rfl) rfl ?_
  have J50 : ((0 ≤ a1 ∧ a1 < σ 98 1)) → (a2 < 0 ∨ (0 ≤ a2 ∧ 3 < a2) ∨ (0 ≤ a2 ∧ a2 ≤ 3 ∧ a3 < 0) ∨ (0 ≤ a2 ∧ a2 ≤ 3 ∧ 0 ≤ a3 ∧ 9999 < a3) ∨ (0 ≤ a2 ∧ a2 ≤ 3 ∧ 0 ≤ a3 ∧ a3 ≤ 9999 ∧ a4 < (-40000)) ∨ (0 ≤ a2 ∧ a2 ≤ 3 ∧ 0 ≤ a3 ∧ a3 ≤ 9999 ∧ (-40000) ≤ a4 ∧ 40000 < a4)) → zR G MX12_fact 50 [zr 98, zi a1, zi a2, zi a3, zi a4] [] σ Q := by
    intro h1 h9
    refine z_aload_n dX12_fact_50 rfl rfl ?_
    refine z_bipush (x := (-6)) dX12_fact_51 (by decide +kernel) (by unfold zIn; decide) ?_
    have s10 : -2147483648 ≤ -(-6) ∧ -(-6) < (2147483648 : Int) := k10 h1 h9
    have s11 : (0 : Int) ≤ -(-6) ∧ -(-6) < (8 : Int) := k11 h1 h9
    refine z_callv (as := [zi (-6)]) (st := []) mkX12_no lkRX12_267 rfl rfl rfl (by decide) (Nat.le_of_ble_eq_true rfl) rfl dX12_fact_53 ?_
    refine SX12_no s10 s11 ?_
    show zR G MX12_fact 56 [zr 98, zi a1, zi a2, zi a3, zi a4] [zi (-6)] (zup σ 157 (-(-6)) (zW ((σ 157 (-(-6))) + 1))) Q
    exact z_ireti rfl dX12_fact_56 (k12 h1 h9)
  refine z_aload_n dX12_fact_0 rfl rfl ?_
  refine z_iload_n dX12_fact_1 rfl rfl ?_
  refine z_callv (as := [zi a1]) (st := []) mkX12_isOne lkRX12_271 rfl rfl rfl (by decide) (Nat.le_of_ble_eq_true rfl) rfl dX12_fact_2 ?_
  refine SX12_isOne ?_
  show zR G MX12_fact 5 [zr 98, zi a1, zi a2, zi a3, zi a4] [zi (if (0 ≤ a1 ∧ a1 < σ 98 1) then (1 : Int) else 0)] σ Q
  refine z_if_ne dX12_fact_5 (tgt := 14) (by decide) (fun z => ?_) (fun z => ?_)
  · have h1 : (0 ≤ a1 ∧ a1 < σ 98 1) := zb1 z
    refine z_iload_n dX12_fact_14 rfl rfl ?_
    refine z_if_lt dX12_fact_15 (tgt := 50) (by decide) (fun h2 => ?_) (fun h2 => ?_)
    · skip
      exact J50 h1 (Or.inl h2)
    · skip
      refine z_iload_n dX12_fact_18 rfl rfl ?_
      refine z_iconst dX12_fact_19 (by unfold zIn; decide) ?_
      refine z_icmp_gt dX12_fact_20 (tgt := 50) (by decide) (fun h3 => ?_) (fun h3 => ?_)
      · skip
        exact J50 h1 (Or.inr (Or.inl ⟨h2, h3⟩))
      · skip
        refine z_iload_n dX12_fact_23 rfl rfl ?_
        refine z_if_lt dX12_fact_24 (tgt := 50) (by decide) (fun h4 => ?_) (fun h4 => ?_)
        · skip
          exact J50 h1 (Or.inr (Or.inr (Or.inl ⟨h2, h3, h4⟩)))
        · skip
          refine z_iload_n dX12_fact_27 rfl rfl ?_
          refine z_sipush (x := 9999) dX12_fact_28 (by decide +kernel) (by unfold zIn; decide) ?_
          refine z_icmp_gt dX12_fact_31 (tgt := 50) (by decide) (fun h5 => ?_) (fun h5 => ?_)
          · skip
            exact J50 h1 (Or.inr (Or.inr (Or.inr (Or.inl ⟨h2, h3, h4, h5⟩))))
          · skip
            refine z_iload dX12_fact_34 rfl ?_
            refine z_ldcw (x := (-40000)) (zin_7 (List.mem_of_getElem? (i := 197) (by decide +kernel))) (by unfold zIn; decide) dX12_fact_36 ?_
            refine z_icmp_lt dX12_fact_39 (tgt := 50) (by decide) (fun h6 => ?_) (fun h6 => ?_)
            · skip
              exact J50 h1 (Or.inr (Or.inr (Or.inr (Or.inr (Or.inl ⟨h2, h3, h4, h5, h6⟩)))))
            · skip
              refine z_iload dX12_fact_42 rfl ?_
              refine z_ldcw (x := 40000) (zin_7 (List.mem_of_getElem? (i := 198) (by decide +kernel))) (by unfold zIn; decide) dX12_fact_44 ?_
              refine z_icmp_le dX12_fact_47 (tgt := 57) (by decide) (fun h7 => ?_) (fun h7 => ?_)
              · skip
                refine z_aload_n dX12_fact_57 rfl rfl ?_
                refine z_getfI (k := 2) flRX12_279 rfl rfl dX12_fact_58 ?_
                refine z_sipush (x := 400) dX12_fact_61 (by decide +kernel) (by unfold zIn; decide) ?_
                refine z_icmp_ne dX12_fact_64 (tgt := 74) (by decide) (fun h8 => ?_) (fun h8 => ?_)
                · skip
                  refine z_aload_n dX12_fact_74 rfl rfl ?_
                  refine z_getfR (k := 20) flRX12_36 rfl rfl dX12_fact_75 ?_
                  refine z_aload_n dX12_fact_78 rfl rfl ?_
                  refine z_getfI (k := 2) flRX12_279 rfl rfl dX12_fact_79 ?_
                  refine z_iload_n dX12_fact_82 rfl rfl ?_
                  have s1 : (0 : Int) ≤ σ 98 2 ∧ σ 98 2 < (400 : Int) := k1 h1 h2 h3 h4 h5 h6 h7 h8
                  refine z_iast rfl s1.1 s1.2 dX12_fact_83 ?_
                  refine z_aload_n dX12_fact_84 rfl rfl ?_
                  refine z_getfR (k := 21) flRX12_39 rfl rfl dX12_fact_85 ?_
                  refine z_aload_n dX12_fact_88 rfl rfl ?_
                  refine z_getfE (k := 2) (v := σ 98 2) flRX12_279 rfl rfl (zup_of (by decide)) dX12_fact_89 ?_
                  refine z_iload_n dX12_fact_92 rfl rfl ?_
                  refine z_iast rfl s1.1 s1.2 dX12_fact_93 ?_
                  refine z_aload_n dX12_fact_94 rfl rfl ?_
                  refine z_getfR (k := 22) flRX12_42 rfl rfl dX12_fact_95 ?_
                  refine z_aload_n dX12_fact_98 rfl rfl ?_
                  refine z_getfE (k := 2) (v := σ 98 2) flRX12_279 rfl rfl ((zup_of (by decide)).trans (zup_of (by decide))) dX12_fact_99 ?_
                  refine z_iload_n dX12_fact_102 rfl rfl ?_
                  refine z_iast rfl s1.1 s1.2 dX12_fact_103 ?_
                  refine z_aload_n dX12_fact_104 rfl rfl ?_
                  refine z_getfR (k := 23) flRX12_45 rfl rfl dX12_fact_105 ?_
                  refine z_aload_n dX12_fact_108 rfl rfl ?_
                  refine z_getfE (k := 2) (v := σ 98 2) flRX12_279 rfl rfl ((zup_of (by decide)).trans ((zup_of (by decide)).trans (zup_of (by decide)))) dX12_fact_109 ?_
                  refine z_iload dX12_fact_112 rfl ?_
                  refine z_iast rfl s1.1 s1.2 dX12_fact_114 ?_
                  refine z_aload_n dX12_fact_115 rfl rfl ?_
                  refine z_getfR (k := 24) flRX12_48 rfl rfl dX12_fact_116 ?_
                  refine z_aload_n dX12_fact_119 rfl rfl ?_
                  refine z_getfE (k := 2) (v := σ 98 2) flRX12_279 rfl rfl ((zup_of (by decide)).trans ((zup_of (by decide)).trans ((zup_of (by decide)).trans (zup_of (by decide))))) dX12_fact_120 ?_
                  refine z_aload_n dX12_fact_123 rfl rfl ?_
                  refine z_getfE (k := 0) (v := σ 98 0) flRX12_262 rfl rfl ((zup_of (by decide)).trans ((zup_of (by decide)).trans ((zup_of (by decide)).trans (zup_of (by decide))))) dX12_fact_124 ?_
                  refine z_iast rfl s1.1 s1.2 dX12_fact_127 ?_
                  refine z_aload_n dX12_fact_128 rfl rfl ?_
                  refine z_dup dX12_fact_129 rfl ?_
                  refine z_getfE (k := 2) (v := σ 98 2) flRX12_279 rfl rfl ((zup_of (by decide)).trans ((zup_of (by decide)).trans ((zup_of (by decide)).trans ((zup_of (by decide)).trans (zup_of (by decide)))))) dX12_fact_130 ?_
                  refine z_iconst dX12_fact_133 (by unfold zIn; decide) ?_
                  have s2 : -2147483648 ≤ σ 98 2 + 1 ∧ σ 98 2 + 1 < (2147483648 : Int) := k2 h1 h2 h3 h4 h5 h6 h7 h8
                  refine z_iaddN dX12_fact_134 s2 ?_
                  refine z_dup_x1 dX12_fact_135 rfl rfl ?_
                  refine z_putI (k := 2) fpRX12_279 rfl rfl dX12_fact_136 ?_
                  exact z_ireti rfl dX12_fact_139 (k3 h1 h2 h3 h4 h5 h6 h7 h8)
                · skip
                  refine z_aload_n dX12_fact_67 rfl rfl ?_
                  refine z_bipush (x := (-7)) dX12_fact_68 (by decide +kernel) (by unfold zIn; decide) ?_
                  have s4 : -2147483648 ≤ -(-7) ∧ -(-7) < (2147483648 : Int) := k4 h1 h2 h3 h4 h5 h6 h7 h8
                  have s5 : (0 : Int) ≤ -(-7) ∧ -(-7) < (8 : Int) := k5 h1 h2 h3 h4 h5 h6 h7 h8
                  refine z_callv (as := [zi (-7)]) (st := []) mkX12_no lkRX12_267 rfl rfl rfl (by decide) (Nat.le_of_ble_eq_true rfl) rfl dX12_fact_70 ?_
                  refine SX12_no s4 s5 ?_
                  show zR G MX12_fact 73 [zr 98, zi a1, zi a2, zi a3, zi a4] [zi (-7)] (zup σ 157 (-(-7)) (zW ((σ 157 (-(-7))) + 1))) Q
                  exact z_ireti rfl dX12_fact_73 (k6 h1 h2 h3 h4 h5 h6 h7 h8)
              · skip
                exact J50 h1 (Or.inr (Or.inr (Or.inr (Or.inr (Or.inr ⟨h2, h3, h4, h5, h6, h7⟩)))))
  · have h1 : ¬ ((0 ≤ a1 ∧ a1 < σ 98 1)) := zb0 z
    refine z_aload_n dX12_fact_8 rfl rfl ?_
    refine z_iconst dX12_fact_9 (by unfold zIn; decide) ?_
    have s7 : -2147483648 ≤ -(-1) ∧ -(-1) < (2147483648 : Int) := k7 h1
    have s8 : (0 : Int) ≤ -(-1) ∧ -(-1) < (8 : Int) := k8 h1
    refine z_callv (as := [zi (-1)]) (st := []) mkX12_no lkRX12_267 rfl rfl rfl (by decide) (Nat.le_of_ble_eq_true rfl) rfl dX12_fact_10 ?_
    refine SX12_no s7 s8 ?_
    show zR G MX12_fact 13 [zr 98, zi a1, zi a2, zi a3, zi a4] [zi (-1)] (zup σ 157 (-(-1)) (zW ((σ 157 (-(-1))) + 1))) Q
    exact z_ireti rfl dX12_fact_13 (k9 h1)
set_option maxRecDepth 20000 in
set_option maxHeartbeats 1000000 in
theorem TX12_death {G : zG} {σ : zS} {Q : Int → zS → Prop} {a1 a2 : Int}  (k1 : ((0 ≤ a1 ∧ a1 < σ 98 1)) → (0 : Int) ≤ a1 ∧ a1 < (24 : Int)) (k2 : ((0 ≤ a1 ∧ a1 < σ 98 1)) → (σ 105 a1 = 0) → (σ 99 a1 ≤ a2) → (a2 ≤ σ 98 0) → Q 1 (zup (zup (zup σ 105 a1 1) 100 a1 a2) 101 a1 (σ 98 0))) (k3 : (¬ ((0 ≤ a1 ∧ a1 < σ 98 1))) → -2147483648 ≤ -(-1) ∧ -(-1) < (2147483648 : Int)) (k4 : (¬ ((0 ≤ a1 ∧ a1 < σ 98 1))) → (0 : Int) ≤ -(-1) ∧ -(-1) < (8 : Int)) (k5 : (¬ ((0 ≤ a1 ∧ a1 < σ 98 1))) → Q (-1) (zup σ 157 (-(-1)) (zW ((σ 157 (-(-1))) + 1)))) (k6 : ((0 ≤ a1 ∧ a1 < σ 98 1)) → (σ 105 a1 ≠ 0 ∨ (σ 105 a1 = 0 ∧ a2 < σ 99 a1) ∨ (σ 105 a1 = 0 ∧ σ 99 a1 ≤ a2 ∧ σ 98 0 < a2)) → -2147483648 ≤ -(-6) ∧ -(-6) < (2147483648 : Int)) (k7 : ((0 ≤ a1 ∧ a1 < σ 98 1)) → (σ 105 a1 ≠ 0 ∨ (σ 105 a1 = 0 ∧ a2 < σ 99 a1) ∨ (σ 105 a1 = 0 ∧ σ 99 a1 ≤ a2 ∧ σ 98 0 < a2)) → (0 : Int) ≤ -(-6) ∧ -(-6) < (8 : Int)) (k8 : ((0 ≤ a1 ∧ a1 < σ 98 1)) → (σ 105 a1 ≠ 0 ∨ (σ 105 a1 = 0 ∧ a2 < σ 99 a1) ∨ (σ 105 a1 = 0 ∧ σ 99 a1 ≤ a2 ∧ σ 98 0 < a2)) → Q (-6) (zup σ 157 (-(-6)) (zW ((σ 157 (-(-6))) + 1)))) : zO G MX12_death [zr 98, zi a1, zi a2] σ Q := by
  refine zO_of (ls0 := [zr 98, zi a1, zi a2]) (by decide) (Nat.le_of_ble_eq_true rfl) rfl ?_
  have J41 : ((0 ≤ a1 ∧ a1 < σ 98 1)) → (σ 105 a1 ≠ 0 ∨ (σ 105 a1 = 0 ∧ a2 < σ 99 a1) ∨ (σ 105 a1 = 0 ∧ σ 99 a1 ≤ a2 ∧ σ 98 0 < a2)) → zR G MX12_death 41 [zr 98, zi a1, zi a2] [] σ Q := by
    intro h1 h5
    refine z_aload_n dX12_death_41 rfl rfl ?_
    refine z_bipush (x := (-6)) dX12_death_42 (by decide +kernel) (by unfold zIn; decide) ?_
    have s6 : -2147483648 ≤ -(-6) ∧ -(-6) < (2147483648 : Int) := k6 h1 h5
    have s7 : (0 : Int) ≤ -(-6) ∧ -(-6) < (8 : Int) := k7 h1 h5
    refine z_callv (as := [zi (-6)]) (st := []) mkX12_no lkRX12_267 rfl rfl rfl (by decide) (Nat.le_of_ble_eq_true rfl) rfl dX12_death_44 ?_
    refine SX12_no s6 s7 ?_
    show zR G MX12_death 47 [zr 98, zi a1, zi a2] [zi (-6)] (zup σ 157 (-(-6)) (zW ((σ 157 (-(-6))) + 1))) Q
    exact z_ireti rfl dX12_death_47 (k8 h1 h5)
  refine z_aload_n dX12_death_0 rfl rfl ?_
  refine z_iload_n dX12_death_1 rfl rfl ?_
  refine z_callv (as := [zi a1]) (st := []) mkX12_isOne lkRX12_271 rfl rfl rfl (by decide) (Nat.le_of_ble_eq_true rfl) rfl dX12_death_2 ?_
  refine SX12_isOne ?_
  show zR G MX12_death 5 [zr 98, zi a1, zi a2] [zi (if (0 ≤ a1 ∧ a1 < σ 98 1) then (1 : Int) else 0)] σ Q
  refine z_if_ne dX12_death_5 (tgt := 14) (by decide) (fun z => ?_) (fun z => ?_)
  · have h1 : (0 ≤ a1 ∧ a1 < σ 98 1) := zb1 z
    refine z_aload_n dX12_death_14 rfl rfl ?_
    refine z_getfR (k := 19) flRX12_33 rfl rfl dX12_death_15 ?_
    refine z_iload_n dX12_death_18 rfl rfl ?_
    have s1 : (0 : Int) ≤ a1 ∧ a1 < (24 : Int) := k1 h1
    refine z_bald rfl s1.1 s1.2 dX12_death_19 ?_
    refine z_if_ne dX12_death_20 (tgt := 41) (by decide) (fun h2 => ?_) (fun h2 => ?_)
    · skip
      exact J41 h1 (Or.inl h2)
    · skip
      refine z_iload_n dX12_death_23 rfl rfl ?_
      refine z_aload_n dX12_death_24 rfl rfl ?_
      refine z_getfR (k := 13) flRX12_13 rfl rfl dX12_death_25 ?_
      refine z_iload_n dX12_death_28 rfl rfl ?_
      refine z_iald rfl s1.1 s1.2 dX12_death_29 ?_
      refine z_icmp_lt dX12_death_30 (tgt := 41) (by decide) (fun h3 => ?_) (fun h3 => ?_)
      · skip
        exact J41 h1 (Or.inr (Or.inl ⟨h2, h3⟩))
      · skip
        refine z_iload_n dX12_death_33 rfl rfl ?_
        refine z_aload_n dX12_death_34 rfl rfl ?_
        refine z_getfI (k := 0) flRX12_262 rfl rfl dX12_death_35 ?_
        refine z_icmp_le dX12_death_38 (tgt := 48) (by decide) (fun h4 => ?_) (fun h4 => ?_)
        · skip
          refine z_aload_n dX12_death_48 rfl rfl ?_
          refine z_getfR (k := 19) flRX12_33 rfl rfl dX12_death_49 ?_
          refine z_iload_n dX12_death_52 rfl rfl ?_
          refine z_iconst dX12_death_53 (by unfold zIn; decide) ?_
          refine z_bast rfl s1.1 s1.2 (by decide) dX12_death_54 ?_
          refine z_aload_n dX12_death_55 rfl rfl ?_
          refine z_getfR (k := 14) flRX12_17 rfl rfl dX12_death_56 ?_
          refine z_iload_n dX12_death_59 rfl rfl ?_
          refine z_iload_n dX12_death_60 rfl rfl ?_
          refine z_iast rfl s1.1 s1.2 dX12_death_61 ?_
          refine z_aload_n dX12_death_62 rfl rfl ?_
          refine z_getfR (k := 15) flRX12_20 rfl rfl dX12_death_63 ?_
          refine z_iload_n dX12_death_66 rfl rfl ?_
          refine z_aload_n dX12_death_67 rfl rfl ?_
          refine z_getfE (k := 0) (v := σ 98 0) flRX12_262 rfl rfl ((zup_of (by decide)).trans (zup_of (by decide))) dX12_death_68 ?_
          refine z_iast rfl s1.1 s1.2 dX12_death_71 ?_
          refine z_iconst dX12_death_72 (by unfold zIn; decide) ?_
          exact z_ireti rfl dX12_death_73 (k2 h1 h2 h3 h4)
        · skip
          exact J41 h1 (Or.inr (Or.inr ⟨h2, h3, h4⟩))
  · have h1 : ¬ ((0 ≤ a1 ∧ a1 < σ 98 1)) := zb0 z
    refine z_aload_n dX12_death_8 rfl rfl ?_
    refine z_iconst dX12_death_9 (by unfold zIn; decide) ?_
    have s3 : -2147483648 ≤ -(-1) ∧ -(-1) < (2147483648 : Int) := k3 h1
    have s4 : (0 : Int) ≤ -(-1) ∧ -(-1) < (8 : Int) := k4 h1
    refine z_callv (as := [zi (-1)]) (st := []) mkX12_no lkRX12_267 rfl rfl rfl (by decide) (Nat.le_of_ble_eq_true rfl) rfl dX12_death_10 ?_
    refine SX12_no s3 s4 ?_
    show zR G MX12_death 13 [zr 98, zi a1, zi a2] [zi (-1)] (zup σ 157 (-(-1)) (zW ((σ 157 (-(-1))) + 1))) Q
    exact z_ireti rfl dX12_death_13 (k5 h1)
set_option maxRecDepth 20000 in
set_option maxHeartbeats 1000000 in
theorem TX12_valueOf {G : zG} {σ : zS} {Q : Int → zS → Prop} {a1 a2 a3 a4 : Int}  (k1 : zR G MX12_valueOf 6 [zr 98, zi a1, zi a2, zi a3, zi a4, zi (-1), zi 0] [] σ Q) : zO G MX12_valueOf [zr 98, zi a1, zi a2, zi a3, zi a4] σ Q := by
  refine zO_of (ls0 := [zr 98, zi a1, zi a2, zi a3, zi a4, zu, zu]) (by decide) (Nat.le_of_ble_eq_true rfl) rfl ?_
  refine z_iconst dX12_valueOf_0 (by unfold zIn; decide) ?_
  refine z_istore (ls' := [zr 98, zi a1, zi a2, zi a3, zi a4, zi (-1), zu]) dX12_valueOf_1 (by decide) rfl ?_
  refine z_iconst dX12_valueOf_3 (by unfold zIn; decide) ?_
  refine z_istore (ls' := [zr 98, zi a1, zi a2, zi a3, zi a4, zi (-1), zi 0]) dX12_valueOf_4 (by decide) rfl ?_
  exact k1
set_option maxRecDepth 20000 in
set_option maxHeartbeats 1000000 in
theorem TX12_valueOf_6 {G : zG} {σ : zS} {Q : Int → zS → Prop} {v1 v2 v3 v4 v5 v6 : Int}  (k1 : (σ 98 2 ≤ v6) → (v5 ≠ (-1)) → (0 : Int) ≤ v5 ∧ v5 < (400 : Int)) (k2 : (σ 98 2 ≤ v6) → (v5 ≠ (-1)) → Q (σ 108 v5) σ) (k3 : (σ 98 2 ≤ v6) → (v5 = (-1)) → Q 0 σ) (k4 : (v6 < σ 98 2) → (0 : Int) ≤ v6 ∧ v6 < (400 : Int)) (k5 : (v6 < σ 98 2) → (σ 106 v6 = v1) → (σ 107 v6 = v2) → (σ 109 v6 ≤ v3) → (σ 110 v6 ≤ v4) → (v5 ≠ (-1)) → (0 : Int) ≤ v5 ∧ v5 < (400 : Int)) (k6 : (v6 < σ 98 2) → (σ 106 v6 ≠ v1 ∨ (σ 106 v6 = v1 ∧ σ 107 v6 ≠ v2) ∨ (σ 106 v6 = v1 ∧ σ 107 v6 = v2 ∧ v3 < σ 109 v6) ∨ (σ 106 v6 = v1 ∧ σ 107 v6 = v2 ∧ σ 109 v6 ≤ v3 ∧ σ 110 v6 ≤ v4 ∧ v5 ≠ (-1) ∧ σ 109 v6 < σ 109 v5) ∨ (σ 106 v6 = v1 ∧ σ 107 v6 = v2 ∧ σ 109 v6 ≤ v3 ∧ v4 < σ 110 v6)) → -2147483648 ≤ v6 + 1 ∧ v6 + 1 < (2147483648 : Int)) (k7 : (v6 < σ 98 2) → (σ 106 v6 ≠ v1 ∨ (σ 106 v6 = v1 ∧ σ 107 v6 ≠ v2) ∨ (σ 106 v6 = v1 ∧ σ 107 v6 = v2 ∧ v3 < σ 109 v6) ∨ (σ 106 v6 = v1 ∧ σ 107 v6 = v2 ∧ σ 109 v6 ≤ v3 ∧ σ 110 v6 ≤ v4 ∧ v5 ≠ (-1) ∧ σ 109 v6 < σ 109 v5) ∨ (σ 106 v6 = v1 ∧ σ 107 v6 = v2 ∧ σ 109 v6 ≤ v3 ∧ v4 < σ 110 v6)) → zR G MX12_valueOf 6 [zr 98, zi v1, zi v2, zi v3, zi v4, zi v5, zi (v6 + 1)] [] σ Q) (k8 : (v6 < σ 98 2) → (σ 106 v6 = v1) → (σ 107 v6 = v2) → (σ 109 v6 ≤ v3) → (σ 110 v6 ≤ v4) → (v5 = (-1) ∨ (v5 ≠ (-1) ∧ σ 109 v5 ≤ σ 109 v6)) → -2147483648 ≤ v6 + 1 ∧ v6 + 1 < (2147483648 : Int)) (k9 : (v6 < σ 98 2) → (σ 106 v6 = v1) → (σ 107 v6 = v2) → (σ 109 v6 ≤ v3) → (σ 110 v6 ≤ v4) → (v5 = (-1) ∨ (v5 ≠ (-1) ∧ σ 109 v5 ≤ σ 109 v6)) → zR G MX12_valueOf 6 [zr 98, zi v1, zi v2, zi v3, zi v4, zi v6, zi (v6 + 1)] [] σ Q) : zR G MX12_valueOf 6 [zr 98, zi v1, zi v2, zi v3, zi v4, zi v5, zi v6] [] σ Q := by
  have J90_1 : (v6 < σ 98 2) → (σ 106 v6 = v1) → (σ 107 v6 = v2) → (σ 109 v6 ≤ v3) → (σ 110 v6 ≤ v4) → (v5 = (-1) ∨ (v5 ≠ (-1) ∧ σ 109 v5 ≤ σ 109 v6)) → zR G MX12_valueOf 90 [zr 98, zi v1, zi v2, zi v3, zi v4, zi v6, zi v6] [] σ Q := by
    intro h1 h3 h4 h5 h6 h9
    have s8 : -2147483648 ≤ v6 + 1 ∧ v6 + 1 < (2147483648 : Int) := k8 h1 h3 h4 h5 h6 h9
    refine z_iincN (ls' := [zr 98, zi v1, zi v2, zi v3, zi v4, zi v6, zi (v6 + 1)]) dX12_valueOf_90 rfl (by decide) s8 rfl ?_
    refine z_goto dX12_valueOf_93 (tgt := 6) (by decide) ?_
    exact k9 h1 h3 h4 h5 h6 h9
  have J90 : (v6 < σ 98 2) → (σ 106 v6 ≠ v1 ∨ (σ 106 v6 = v1 ∧ σ 107 v6 ≠ v2) ∨ (σ 106 v6 = v1 ∧ σ 107 v6 = v2 ∧ v3 < σ 109 v6) ∨ (σ 106 v6 = v1 ∧ σ 107 v6 = v2 ∧ σ 109 v6 ≤ v3 ∧ σ 110 v6 ≤ v4 ∧ v5 ≠ (-1) ∧ σ 109 v6 < σ 109 v5) ∨ (σ 106 v6 = v1 ∧ σ 107 v6 = v2 ∧ σ 109 v6 ≤ v3 ∧ v4 < σ 110 v6)) → zR G MX12_valueOf 90 [zr 98, zi v1, zi v2, zi v3, zi v4, zi v5, zi v6] [] σ Q := by
    intro h1 h10
    have s6 : -2147483648 ≤ v6 + 1 ∧ v6 + 1 < (2147483648 : Int) := k6 h1 h10
    refine z_iincN (ls' := [zr 98, zi v1, zi v2, zi v3, zi v4, zi v5, zi (v6 + 1)]) dX12_valueOf_90 rfl (by decide) s6 rfl ?_
    refine z_goto dX12_valueOf_93 (tgt := 6) (by decide) ?_
    exact k7 h1 h10
  have J86 : (v6 < σ 98 2) → (σ 106 v6 = v1) → (σ 107 v6 = v2) → (σ 109 v6 ≤ v3) → (σ 110 v6 ≤ v4) → (v5 = (-1) ∨ (v5 ≠ (-1) ∧ σ 109 v5 ≤ σ 109 v6)) → zR G MX12_valueOf 86 [zr 98, zi v1, zi v2, zi v3, zi v4, zi v5, zi v6] [] σ Q := by
    intro h1 h3 h4 h5 h6 h9
    refine z_iload dX12_valueOf_86 rfl ?_
    refine z_istore (ls' := [zr 98, zi v1, zi v2, zi v3, zi v4, zi v6, zi v6]) dX12_valueOf_88 (by decide) rfl ?_
    exact J90_1 h1 h3 h4 h5 h6 h9
  refine z_iload dX12_valueOf_6 rfl ?_
  refine z_aload_n dX12_valueOf_8 rfl rfl ?_
  refine z_getfI (k := 2) flRX12_279 rfl rfl dX12_valueOf_9 ?_
  refine z_icmp_ge dX12_valueOf_12 (tgt := 96) (by decide) (fun h1 => ?_) (fun h1 => ?_)
  · skip
    refine z_iload dX12_valueOf_96 rfl ?_
    refine z_iconst dX12_valueOf_98 (by unfold zIn; decide) ?_
    refine z_icmp_ne dX12_valueOf_99 (tgt := 106) (by decide) (fun h2 => ?_) (fun h2 => ?_)
    · skip
      refine z_aload_n dX12_valueOf_106 rfl rfl ?_
      refine z_getfR (k := 22) flRX12_42 rfl rfl dX12_valueOf_107 ?_
      refine z_iload dX12_valueOf_110 rfl ?_
      have s1 : (0 : Int) ≤ v5 ∧ v5 < (400 : Int) := k1 h1 h2
      refine z_iald rfl s1.1 s1.2 dX12_valueOf_112 ?_
      exact z_ireti rfl dX12_valueOf_113 (k2 h1 h2)
    · skip
      refine z_iconst dX12_valueOf_102 (by unfold zIn; decide) ?_
      refine z_goto dX12_valueOf_103 (tgt := 113) (by decide) ?_
      exact z_ireti rfl dX12_valueOf_113 (k3 h1 h2)
  · skip
    refine z_aload_n dX12_valueOf_15 rfl rfl ?_
    refine z_getfR (k := 20) flRX12_36 rfl rfl dX12_valueOf_16 ?_
    refine z_iload dX12_valueOf_19 rfl ?_
    have s4 : (0 : Int) ≤ v6 ∧ v6 < (400 : Int) := k4 h1
    refine z_iald rfl s4.1 s4.2 dX12_valueOf_21 ?_
    refine z_iload_n dX12_valueOf_22 rfl rfl ?_
    refine z_icmp_ne dX12_valueOf_23 (tgt := 90) (by decide) (fun h3 => ?_) (fun h3 => ?_)
    · skip
      exact J90 h1 (Or.inl h3)
    · skip
      refine z_aload_n dX12_valueOf_26 rfl rfl ?_
      refine z_getfR (k := 21) flRX12_39 rfl rfl dX12_valueOf_27 ?_
      refine z_iload dX12_valueOf_30 rfl ?_
      refine z_iald rfl s4.1 s4.2 dX12_valueOf_32 ?_
      refine z_iload_n dX12_valueOf_33 rfl rfl ?_
      refine z_icmp_ne dX12_valueOf_34 (tgt := 90) (by decide) (fun h4 => ?_) (fun h4 => ?_)
      · skip
        exact J90 h1 (Or.inr (Or.inl ⟨h3, h4⟩))
      · skip
        refine z_aload_n dX12_valueOf_37 rfl rfl ?_
        refine z_getfR (k := 23) flRX12_45 rfl rfl dX12_valueOf_38 ?_
        refine z_iload dX12_valueOf_41 rfl ?_
        refine z_iald rfl s4.1 s4.2 dX12_valueOf_43 ?_
        refine z_iload_n dX12_valueOf_44 rfl rfl ?_
        refine z_icmp_gt dX12_valueOf_45 (tgt := 90) (by decide) (fun h5 => ?_) (fun h5 => ?_)
        · skip
          exact J90 h1 (Or.inr (Or.inr (Or.inl ⟨h3, h4, h5⟩)))
        · skip
          refine z_aload_n dX12_valueOf_48 rfl rfl ?_
          refine z_getfR (k := 24) flRX12_48 rfl rfl dX12_valueOf_49 ?_
          refine z_iload dX12_valueOf_52 rfl ?_
          refine z_iald rfl s4.1 s4.2 dX12_valueOf_54 ?_
          refine z_iload dX12_valueOf_55 rfl ?_
          refine z_icmp_le dX12_valueOf_57 (tgt := 63) (by decide) (fun h6 => ?_) (fun h6 => ?_)
          · skip
            refine z_iload dX12_valueOf_63 rfl ?_
            refine z_iconst dX12_valueOf_65 (by unfold zIn; decide) ?_
            refine z_icmp_eq dX12_valueOf_66 (tgt := 86) (by decide) (fun h7 => ?_) (fun h7 => ?_)
            · skip
              exact J86 h1 h3 h4 h5 h6 (Or.inl h7)
            · skip
              refine z_aload_n dX12_valueOf_69 rfl rfl ?_
              refine z_getfR (k := 23) flRX12_45 rfl rfl dX12_valueOf_70 ?_
              refine z_iload dX12_valueOf_73 rfl ?_
              refine z_iald rfl s4.1 s4.2 dX12_valueOf_75 ?_
              refine z_aload_n dX12_valueOf_76 rfl rfl ?_
              refine z_getfR (k := 23) flRX12_45 rfl rfl dX12_valueOf_77 ?_
              refine z_iload dX12_valueOf_80 rfl ?_
              have s5 : (0 : Int) ≤ v5 ∧ v5 < (400 : Int) := k5 h1 h3 h4 h5 h6 h7
              refine z_iald rfl s5.1 s5.2 dX12_valueOf_82 ?_
              refine z_icmp_lt dX12_valueOf_83 (tgt := 90) (by decide) (fun h8 => ?_) (fun h8 => ?_)
              · skip
                exact J90 h1 (Or.inr (Or.inr (Or.inr (Or.inl ⟨h3, h4, h5, h6, h7, h8⟩))))
              · skip
                exact J86 h1 h3 h4 h5 h6 (Or.inr ⟨h7, h8⟩)
          · skip
            refine z_goto dX12_valueOf_60 (tgt := 90) (by decide) ?_
            exact J90 h1 (Or.inr (Or.inr (Or.inr (Or.inr ⟨h3, h4, h5, h6⟩))))
