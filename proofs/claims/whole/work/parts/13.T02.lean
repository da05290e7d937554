set_option maxRecDepth 20000 in
set_option maxHeartbeats 1000000 in
theorem TX3_readOpening {G : zG} {σ : zS} {Q : Int → zS → Prop} {a1 : Int}  (k1 : (σ 47 8 ≠ 30) → -2147483648 ≤ σ 47 8 + 1 ∧ σ 47 8 + 1 < (2147483648 : Int)) (k2 : (σ 47 8 ≠ 30) → (0 : Int) ≤ a1 ∧ a1 < (200 : Int)) (k3 : (σ 47 8 ≠ 30) → (σ 46 a1 ≠ 33) → -2147483648 ≤ σ 47 7 + 1 ∧ σ 47 7 + 1 < (2147483648 : Int)) (k4 : (σ 47 8 ≠ 30) → (σ 46 a1 ≠ 33) → (0 : Int) ≤ (zup (zup σ 47 8 (σ 47 8 + 1)) 47 7 (σ 47 7 + 1)) 47 7 ∧ (zup (zup σ 47 8 (σ 47 8 + 1)) 47 7 (σ 47 7 + 1)) 47 7 < (31 : Int)) (k5 : (σ 47 8 ≠ 30) → (σ 46 a1 = 33) → (0 : Int) ≤ σ 47 7 ∧ σ 47 7 < (31 : Int)) (k6 : (σ 47 8 ≠ 30) → (σ 46 a1 = 33) → -2147483648 ≤ σ 50 (σ 47 7) + 1 ∧ σ 50 (σ 47 7) + 1 < (2147483648 : Int)) (k7 : (σ 47 8 = 30) → Q a1 (zup σ 47 13 a1)) (k8 : (σ 47 8 ≠ 30) → (σ 46 a1 ≠ 33) → -2147483648 ≤ a1 + 1 ∧ a1 + 1 < (2147483648 : Int)) (k9 : (σ 47 8 ≠ 30) → (σ 46 a1 ≠ 33) → Q (a1 + 1) (zup (zup (zup (zup (zup (zup σ 47 8 (σ 47 8 + 1)) 47 7 (σ 47 7 + 1)) 48 ((zup (zup σ 47 8 (σ 47 8 + 1)) 47 7 (σ 47 7 + 1)) 47 7) 0) 49 ((zup (zup σ 47 8 (σ 47 8 + 1)) 47 7 (σ 47 7 + 1)) 47 7) 1) 50 ((zup (zup σ 47 8 (σ 47 8 + 1)) 47 7 (σ 47 7 + 1)) 47 7) 0) 47 9 1)) (k10 : (σ 47 8 ≠ 30) → (σ 46 a1 = 33) → -2147483648 ≤ a1 + 1 ∧ a1 + 1 < (2147483648 : Int)) (k11 : (σ 47 8 ≠ 30) → (σ 46 a1 = 33) → Q (a1 + 1) (zup (zup σ 47 8 (σ 47 8 + 1)) 50 (σ 47 7) (σ 50 (σ 47 7) + 1))) : zO G MX3_readOpening [zr 47, zi a1] σ Q := by
  refine zO_of (ls0 := [zr 47, zi a1]) (by decide) (Nat.le_of_ble_eq_true rfl) rfl ?_
  have J70_1 : (σ 47 8 ≠ 30) → (σ 46 a1 = 33) → zR G MX3_readOpening 70 [zr 47, zi a1] [] (zup (zup σ 47 8 (σ 47 8 + 1)) 50 (σ 47 7) (σ 50 (σ 47 7) + 1)) Q := by
    intro h1 h2
    refine z_iload_n dX3_readOpening_70 rfl rfl ?_
    refine z_iconst dX3_readOpening_71 (by unfold zIn; decide) ?_
    have s10 : -2147483648 ≤ a1 + 1 ∧ a1 + 1 < (2147483648 : Int) := k10 h1 h2
    refine z_iaddN dX3_readOpening_72 s10 ?_
    exact z_ireti rfl dX3_readOpening_73 (k11 h1 h2)
  have J70 : (σ 47 8 ≠ 30) → (σ 46 a1 ≠ 33) → zR G MX3_readOpening 70 [zr 47, zi a1] [] (zup (zup (zup (zup (zup (zup σ 47 8 (σ 47 8 + 1)) 47 7 (σ 47 7 + 1)) 48 ((zup (zup σ 47 8 (σ 47 8 + 1)) 47 7 (σ 47 7 + 1)) 47 7) 0) 49 ((zup (zup σ 47 8 (σ 47 8 + 1)) 47 7 (σ 47 7 + 1)) 47 7) 1) 50 ((zup (zup σ 47 8 (σ 47 8 + 1)) 47 7 (σ 47 7 + 1)) 47 7) 0) 47 9 1) Q := by
    intro h1 h2
    refine z_iload_n dX3_readOpening_70 rfl rfl ?_
    refine z_iconst dX3_readOpening_71 (by unfold zIn; decide) ?_
    have s8 : -2147483648 ≤ a1 + 1 ∧ a1 + 1 < (2147483648 : Int) := k8 h1 h2
    refine z_iaddN dX3_readOpening_72 s8 ?_
    exact z_ireti rfl dX3_readOpening_73 (k9 h1 h2)
  refine z_aload_n dX3_readOpening_0 rfl rfl ?_
  refine z_getfI (k := 8) flRX3_112 rfl rfl dX3_readOpening_1 ?_
  refine z_bipush (x := 30) dX3_readOpening_4 (by decide +kernel) (by unfold zIn; decide) ?_
  refine z_icmp_ne dX3_readOpening_6 (tgt := 16) (by decide) (fun h1 => ?_) (fun h1 => ?_)
  · skip
    refine z_aload_n dX3_readOpening_16 rfl rfl ?_
    refine z_dup dX3_readOpening_17 rfl ?_
    refine z_getfI (k := 8) flRX3_112 rfl rfl dX3_readOpening_18 ?_
    refine z_iconst dX3_readOpening_21 (by unfold zIn; decide) ?_
    have s1 : -2147483648 ≤ σ 47 8 + 1 ∧ σ 47 8 + 1 < (2147483648 : Int) := k1 h1
    refine z_iaddN dX3_readOpening_22 s1 ?_
    refine z_putI (k := 8) fpRX3_112 rfl rfl dX3_readOpening_23 ?_
    refine z_aload_n dX3_readOpening_26 rfl rfl ?_
    refine z_getfR (k := 1) flRX3_28 rfl rfl dX3_readOpening_27 ?_
    refine z_getfR (k := 10) flRX3_66 rfl rfl dX3_readOpening_30 ?_
    refine z_iload_n dX3_readOpening_33 rfl rfl ?_
    have s2 : (0 : Int) ≤ a1 ∧ a1 < (200 : Int) := k2 h1
    refine z_ialdE (v := σ 46 a1) rfl s2.1 s2.2 (zup_of (by decide)) dX3_readOpening_34 ?_
    refine z_bipush (x := 33) dX3_readOpening_35 (by decide +kernel) (by unfold zIn; decide) ?_
    refine z_icmp_ne dX3_readOpening_37 (tgt := 56) (by decide) (fun h2 => ?_) (fun h2 => ?_)
    · skip
      refine z_aload_n dX3_readOpening_56 rfl rfl ?_
      refine z_dup dX3_readOpening_57 rfl ?_
      refine z_getfE (k := 7) (v := σ 47 7) flRX3_75 rfl rfl (zup_oi (by decide)) dX3_readOpening_58 ?_
      refine z_iconst dX3_readOpening_61 (by unfold zIn; decide) ?_
      have s3 : -2147483648 ≤ σ 47 7 + 1 ∧ σ 47 7 + 1 < (2147483648 : Int) := k3 h1 h2
      refine z_iaddN dX3_readOpening_62 s3 ?_
      refine z_putI (k := 7) fpRX3_75 rfl rfl dX3_readOpening_63 ?_
      refine z_aload_n dX3_readOpening_66 rfl rfl ?_
      have s4 : (0 : Int) ≤ (zup (zup σ 47 8 (σ 47 8 + 1)) 47 7 (σ 47 7 + 1)) 47 7 ∧ (zup (zup σ 47 8 (σ 47 8 + 1)) 47 7 (σ 47 7 + 1)) 47 7 < (31 : Int) := k4 h1 h2
      refine z_callv (as := []) (st := []) mkX3_openLevel lkRX3_115 rfl rfl rfl (by decide) (Nat.le_of_ble_eq_true rfl) rfl dX3_readOpening_67 ?_
      refine SX3_openLevel s4 ?_
      show zR G MX3_readOpening 70 [zr 47, zi a1] [] (zup (zup (zup (zup (zup (zup σ 47 8 (σ 47 8 + 1)) 47 7 (σ 47 7 + 1)) 48 ((zup (zup σ 47 8 (σ 47 8 + 1)) 47 7 (σ 47 7 + 1)) 47 7) 0) 49 ((zup (zup σ 47 8 (σ 47 8 + 1)) 47 7 (σ 47 7 + 1)) 47 7) 1) 50 ((zup (zup σ 47 8 (σ 47 8 + 1)) 47 7 (σ 47 7 + 1)) 47 7) 0) 47 9 1) Q
      exact J70 h1 h2
    · skip
      refine z_aload_n dX3_readOpening_40 rfl rfl ?_
      refine z_getfR (k := 4) flRX3_18 rfl rfl dX3_readOpening_41 ?_
      refine z_aload_n dX3_readOpening_44 rfl rfl ?_
      refine z_getfE (k := 7) (v := σ 47 7) flRX3_75 rfl rfl (zup_oi (by decide)) dX3_readOpening_45 ?_
      refine z_dup2 dX3_readOpening_48 rfl rfl ?_
      have s5 : (0 : Int) ≤ σ 47 7 ∧ σ 47 7 < (31 : Int) := k5 h1 h2
      refine z_ialdE (v := σ 50 (σ 47 7)) rfl s5.1 s5.2 (zup_of (by decide)) dX3_readOpening_49 ?_
      refine z_iconst dX3_readOpening_50 (by unfold zIn; decide) ?_
      have s6 : -2147483648 ≤ σ 50 (σ 47 7) + 1 ∧ σ 50 (σ 47 7) + 1 < (2147483648 : Int) := k6 h1 h2
      refine z_iaddN dX3_readOpening_51 s6 ?_
      refine z_iast rfl s5.1 s5.2 dX3_readOpening_52 ?_
      refine z_goto dX3_readOpening_53 (tgt := 70) (by decide) ?_
      exact J70_1 h1 h2
  · skip
    refine z_aload_n dX3_readOpening_9 rfl rfl ?_
    refine z_iload_n dX3_readOpening_10 rfl rfl ?_
    refine z_putI (k := 13) fpRX3_55 rfl rfl dX3_readOpening_11 ?_
    refine z_iload_n dX3_readOpening_14 rfl rfl ?_
    exact z_ireti rfl dX3_readOpening_15 (k7 h1)
set_option maxRecDepth 20000 in
set_option maxHeartbeats 1000000 in
theorem TX3_letterAt {G : zG} {σ : zS} {Q : Int → zS → Prop} {a1 : Int}  (k1 : (σ 35 12 ≤ a1) → Q 0 σ) (k2 : (a1 < σ 35 12) → (0 : Int) ≤ a1 ∧ a1 < (200 : Int)) (k3 : (a1 < σ 35 12) → Q (σ 46 a1) σ) : zO G MX3_letterAt [zr 47, zi a1] σ Q := by
  refine zO_of (ls0 := [zr 47, zi a1]) (by decide) (Nat.le_of_ble_eq_true rfl) rfl ?_
  refine z_iload_n dX3_letterAt_0 rfl rfl ?_
  refine z_aload_n dX3_letterAt_1 rfl rfl ?_
  refine z_getfR (k := 1) flRX3_28 rfl rfl dX3_letterAt_2 ?_
  refine z_getfI (k := 12) flRX3_51 rfl rfl dX3_letterAt_5 ?_
  refine z_icmp_ge dX3_letterAt_8 (tgt := 23) (by decide) (fun h1 => ?_) (fun h1 => ?_)
  · skip
    refine z_iconst dX3_letterAt_23 (by unfold zIn; decide) ?_
    exact z_ireti rfl dX3_letterAt_24 (k1 h1)
  · skip
    refine z_aload_n dX3_letterAt_11 rfl rfl ?_
    refine z_getfR (k := 1) flRX3_28 rfl rfl dX3_letterAt_12 ?_
    refine z_getfR (k := 10) flRX3_66 rfl rfl dX3_letterAt_15 ?_
    refine z_iload_n dX3_letterAt_18 rfl rfl ?_
    have s2 : (0 : Int) ≤ a1 ∧ a1 < (200 : Int) := k2 h1
    refine z_iald rfl s2.1 s2.2 dX3_letterAt_19 ?_
    refine z_goto dX3_letterAt_20 (tgt := 24) (by decide) ?_
    exact z_ireti rfl dX3_letterAt_24 (k3 h1)
set_option maxRecDepth 20000 in
set_option maxHeartbeats 1000000 in
theorem TX3_endOfTest {G : zG} {σ : zS} {Q : Int → zS → Prop} {a1 : Int}  (k1 : zO G MX3_letterAt [zr 47, zi a1] σ (fun rr σ' => zR G MX3_endOfTest 5 [zr 47, zi a1, zu, zu, zu, zu] [zi rr] σ' Q)) : zO G MX3_endOfTest [zr 47, zi a1] σ Q := by
  refine zO_of (ls0 := [zr 47, zi a1, zu, zu, zu, zu]) (by decide) (Nat.le_of_ble_eq_true rfl) rfl ?_
  refine z_aload_n dX3_endOfTest_0 rfl rfl ?_
  refine z_iload_n dX3_endOfTest_1 rfl rfl ?_
  refine z_callv (as := [zi a1]) (st := []) mkX3_letterAt lkRX3_127 rfl rfl rfl (by decide) (Nat.le_of_ble_eq_true rfl) rfl dX3_endOfTest_2 (k1)
set_option maxRecDepth 20000 in
set_option maxHeartbeats 1000000 in
theorem TX3_endOfTest_5 {G : zG} {σ : zS} {Q : Int → zS → Prop} {v1 r : Int}  (k1 : (r ≠ 119) → (r ≠ 97) → (r ≠ 107) → (r ≠ 100) → (r ≠ 114) → (r ≠ 116) → Q v1 (zup σ 47 13 v1)) (k2 : (r = 119) → -2147483648 ≤ v1 + 1 ∧ v1 + 1 < (2147483648 : Int)) (k3 : (r = 119) → Q (v1 + 1) σ) (k4 : (r ≠ 119) → (r = 97 ∨ (r ≠ 97 ∧ r = 107) ∨ (r ≠ 97 ∧ r ≠ 107 ∧ r = 100) ∨ (r ≠ 97 ∧ r ≠ 107 ∧ r ≠ 100 ∧ r = 114) ∨ (r ≠ 97 ∧ r ≠ 107 ∧ r ≠ 100 ∧ r ≠ 114 ∧ r = 116)) → -2147483648 ≤ v1 + 1 ∧ v1 + 1 < (2147483648 : Int)) (k5 : (r ≠ 119) → (r = 97 ∨ (r ≠ 97 ∧ r = 107) ∨ (r ≠ 97 ∧ r ≠ 107 ∧ r = 100) ∨ (r ≠ 97 ∧ r ≠ 107 ∧ r ≠ 100 ∧ r = 114) ∨ (r ≠ 97 ∧ r ≠ 107 ∧ r ≠ 100 ∧ r ≠ 114 ∧ r = 116)) → zO G MX3_letterAt [zr 47, zi (v1 + 1)] σ (fun rr σ' => zR G MX3_endOfTest 60 [zr 47, zi v1, zi r, zu, zu, zu] [zi rr] σ' Q)) : zR G MX3_endOfTest 5 [zr 47, zi v1, zu, zu, zu, zu] [zi r] σ Q := by
  have J53 : (r ≠ 119) → (r = 97 ∨ (r ≠ 97 ∧ r = 107) ∨ (r ≠ 97 ∧ r ≠ 107 ∧ r = 100) ∨ (r ≠ 97 ∧ r ≠ 107 ∧ r ≠ 100 ∧ r = 114) ∨ (r ≠ 97 ∧ r ≠ 107 ∧ r ≠ 100 ∧ r ≠ 114 ∧ r = 116)) → zR G MX3_endOfTest 53 [zr 47, zi v1, zi r, zu, zu, zu] [] σ Q := by
    intro h1 h7
    refine z_aload_n dX3_endOfTest_53 rfl rfl ?_
    refine z_iload_n dX3_endOfTest_54 rfl rfl ?_
    refine z_iconst dX3_endOfTest_55 (by unfold zIn; decide) ?_
    have s4 : -2147483648 ≤ v1 + 1 ∧ v1 + 1 < (2147483648 : Int) := k4 h1 h7
    refine z_iaddN dX3_endOfTest_56 s4 ?_
    refine z_callv (as := [zi (v1 + 1)]) (st := []) mkX3_letterAt lkRX3_127 rfl rfl rfl (by decide) (Nat.le_of_ble_eq_true rfl) rfl dX3_endOfTest_57 (k5 h1 h7)
  refine z_istore_n (ls' := [zr 47, zi v1, zi r, zu, zu, zu]) dX3_endOfTest_5 rfl (by decide) rfl ?_
  refine z_iload_n dX3_endOfTest_6 rfl rfl ?_
  refine z_bipush (x := 119) dX3_endOfTest_7 (by decide +kernel) (by unfold zIn; decide) ?_
  refine z_icmp_ne dX3_endOfTest_9 (tgt := 16) (by decide) (fun h1 => ?_) (fun h1 => ?_)
  · skip
    refine z_iload_n dX3_endOfTest_16 rfl rfl ?_
    refine z_bipush (x := 97) dX3_endOfTest_17 (by decide +kernel) (by unfold zIn; decide) ?_
    refine z_icmp_eq dX3_endOfTest_19 (tgt := 53) (by decide) (fun h2 => ?_) (fun h2 => ?_)
    · skip
      exact J53 h1 (Or.inl h2)
    · skip
      refine z_iload_n dX3_endOfTest_22 rfl rfl ?_
      refine z_bipush (x := 107) dX3_endOfTest_23 (by decide +kernel) (by unfold zIn; decide) ?_
      refine z_icmp_eq dX3_endOfTest_25 (tgt := 53) (by decide) (fun h3 => ?_) (fun h3 => ?_)
      · skip
        exact J53 h1 (Or.inr (Or.inl ⟨h2, h3⟩))
      · skip
        refine z_iload_n dX3_endOfTest_28 rfl rfl ?_
        refine z_bipush (x := 100) dX3_endOfTest_29 (by decide +kernel) (by unfold zIn; decide) ?_
        refine z_icmp_eq dX3_endOfTest_31 (tgt := 53) (by decide) (fun h4 => ?_) (fun h4 => ?_)
        · skip
          exact J53 h1 (Or.inr (Or.inr (Or.inl ⟨h2, h3, h4⟩)))
        · skip
          refine z_iload_n dX3_endOfTest_34 rfl rfl ?_
          refine z_bipush (x := 114) dX3_endOfTest_35 (by decide +kernel) (by unfold zIn; decide) ?_
          refine z_icmp_eq dX3_endOfTest_37 (tgt := 53) (by decide) (fun h5 => ?_) (fun h5 => ?_)
          · skip
            exact J53 h1 (Or.inr (Or.inr (Or.inr (Or.inl ⟨h2, h3, h4, h5⟩))))
          · skip
            refine z_iload_n dX3_endOfTest_40 rfl rfl ?_
            refine z_bipush (x := 116) dX3_endOfTest_41 (by decide +kernel) (by unfold zIn; decide) ?_
            refine z_icmp_eq dX3_endOfTest_43 (tgt := 53) (by decide) (fun h6 => ?_) (fun h6 => ?_)
            · skip
              exact J53 h1 (Or.inr (Or.inr (Or.inr (Or.inr ⟨h2, h3, h4, h5, h6⟩))))
            · skip
              refine z_aload_n dX3_endOfTest_46 rfl rfl ?_
              refine z_iload_n dX3_endOfTest_47 rfl rfl ?_
              refine z_putI (k := 13) fpRX3_55 rfl rfl dX3_endOfTest_48 ?_
              refine z_iload_n dX3_endOfTest_51 rfl rfl ?_
              exact z_ireti rfl dX3_endOfTest_52 (k1 h1 h2 h3 h4 h5 h6)
  · skip
    refine z_iload_n dX3_endOfTest_12 rfl rfl ?_
    refine z_iconst dX3_endOfTest_13 (by unfold zIn; decide) ?_
    have s2 : -2147483648 ≤ v1 + 1 ∧ v1 + 1 < (2147483648 : Int) := k2 h1
    refine z_iaddN dX3_endOfTest_14 s2 ?_
    exact z_ireti rfl dX3_endOfTest_15 (k3 h1)
set_option maxRecDepth 20000 in
set_option maxHeartbeats 1000000 in
theorem TX3_endOfTest_60 {G : zG} {σ : zS} {Q : Int → zS → Prop} {v1 v2 r : Int}  (k1 : (r ≠ 60) → (r ≠ 62) → (r ≠ 61) → -2147483648 ≤ v1 + 1 ∧ v1 + 1 < (2147483648 : Int)) (k2 : (r ≠ 60) → (r ≠ 62) → (r ≠ 61) → Q v1 (zup σ 47 13 (v1 + 1))) (k3 : (r = 60 ∨ (r ≠ 60 ∧ r = 62) ∨ (r ≠ 60 ∧ r ≠ 62 ∧ r = 61)) → -2147483648 ≤ v1 + 2 ∧ v1 + 2 < (2147483648 : Int)) (k4 : (r = 60 ∨ (r ≠ 60 ∧ r = 62) ∨ (r ≠ 60 ∧ r ≠ 62 ∧ r = 61)) → zO G MX3_letterAt [zr 47, zi (v1 + 2)] σ (fun rr σ' => zR G MX3_endOfTest 95 [zr 47, zi v1, zi v2, zi r, zu, zu] [zi rr] σ' Q)) : zR G MX3_endOfTest 60 [zr 47, zi v1, zi v2, zu, zu, zu] [zi r] σ Q := by
  have J88 : (r = 60 ∨ (r ≠ 60 ∧ r = 62) ∨ (r ≠ 60 ∧ r ≠ 62 ∧ r = 61)) → zR G MX3_endOfTest 88 [zr 47, zi v1, zi v2, zi r, zu, zu] [] σ Q := by
    intro h4
    refine z_aload_n dX3_endOfTest_88 rfl rfl ?_
    refine z_iload_n dX3_endOfTest_89 rfl rfl ?_
    refine z_iconst dX3_endOfTest_90 (by unfold zIn; decide) ?_
    have s3 : -2147483648 ≤ v1 + 2 ∧ v1 + 2 < (2147483648 : Int) := k3 h4
    refine z_iaddN dX3_endOfTest_91 s3 ?_
    refine z_callv (as := [zi (v1 + 2)]) (st := []) mkX3_letterAt lkRX3_127 rfl rfl rfl (by decide) (Nat.le_of_ble_eq_true rfl) rfl dX3_endOfTest_92 (k4 h4)
  refine z_istore_n (ls' := [zr 47, zi v1, zi v2, zi r, zu, zu]) dX3_endOfTest_60 rfl (by decide) rfl ?_
  refine z_iload_n dX3_endOfTest_61 rfl rfl ?_
  refine z_bipush (x := 60) dX3_endOfTest_62 (by decide +kernel) (by unfold zIn; decide) ?_
  refine z_icmp_eq dX3_endOfTest_64 (tgt := 88) (by decide) (fun h1 => ?_) (fun h1 => ?_)
  · skip
    exact J88 (Or.inl h1)
  · skip
    refine z_iload_n dX3_endOfTest_67 rfl rfl ?_
    refine z_bipush (x := 62) dX3_endOfTest_68 (by decide +kernel) (by unfold zIn; decide) ?_
    refine z_icmp_eq dX3_endOfTest_70 (tgt := 88) (by decide) (fun h2 => ?_) (fun h2 => ?_)
    · skip
      exact J88 (Or.inr (Or.inl ⟨h1, h2⟩))
    · skip
      refine z_iload_n dX3_endOfTest_73 rfl rfl ?_
      refine z_bipush (x := 61) dX3_endOfTest_74 (by decide +kernel) (by unfold zIn; decide) ?_
      refine z_icmp_eq dX3_endOfTest_76 (tgt := 88) (by decide) (fun h3 => ?_) (fun h3 => ?_)
      · skip
        exact J88 (Or.inr (Or.inr ⟨h1, h2, h3⟩))
      · skip
        refine z_aload_n dX3_endOfTest_79 rfl rfl ?_
        refine z_iload_n dX3_endOfTest_80 rfl rfl ?_
        refine z_iconst dX3_endOfTest_81 (by unfold zIn; decide) ?_
        have s1 : -2147483648 ≤ v1 + 1 ∧ v1 + 1 < (2147483648 : Int) := k1 h1 h2 h3
        refine z_iaddN dX3_endOfTest_82 s1 ?_
        refine z_putI (k := 13) fpRX3_55 rfl rfl dX3_endOfTest_83 ?_
        refine z_iload_n dX3_endOfTest_86 rfl rfl ?_
        exact z_ireti rfl dX3_endOfTest_87 (k2 h1 h2 h3)
set_option maxRecDepth 20000 in
set_option maxHeartbeats 1000000 in
theorem TX3_endOfTest_95 {G : zG} {σ : zS} {Q : Int → zS → Prop} {v1 v2 v3 r : Int}  (k1 : (r ≠ 48) → -2147483648 ≤ v1 + 6 ∧ v1 + 6 < (2147483648 : Int)) (k2 : (r ≠ 48) → -2147483648 ≤ v1 + 2 ∧ v1 + 2 < (2147483648 : Int)) (k3 : (r ≠ 48) → zR G MX3_endOfTest 117 [zr 47, zi v1, zi v2, zi v3, zi (v1 + 6), zi (v1 + 2)] [] σ Q) (k4 : (r = 48) → -2147483648 ≤ v1 + 3 ∧ v1 + 3 < (2147483648 : Int)) (k5 : (r = 48) → -2147483648 ≤ v1 + 2 ∧ v1 + 2 < (2147483648 : Int)) (k6 : (r = 48) → zR G MX3_endOfTest 117 [zr 47, zi v1, zi v2, zi v3, zi (v1 + 3), zi (v1 + 2)] [] σ Q) : zR G MX3_endOfTest 95 [zr 47, zi v1, zi v2, zi v3, zu, zu] [zi r] σ Q := by
  refine z_bipush (x := 48) dX3_endOfTest_95 (by decide +kernel) (by unfold zIn; decide) ?_
  refine z_icmp_ne dX3_endOfTest_97 (tgt := 106) (by decide) (fun h1 => ?_) (fun h1 => ?_)
  · skip
    refine z_iload_n dX3_endOfTest_106 rfl rfl ?_
    refine z_bipush (x := 6) dX3_endOfTest_107 (by decide +kernel) (by unfold zIn; decide) ?_
    have s1 : -2147483648 ≤ v1 + 6 ∧ v1 + 6 < (2147483648 : Int) := k1 h1
    refine z_iaddN dX3_endOfTest_109 s1 ?_
    refine z_istore (ls' := [zr 47, zi v1, zi v2, zi v3, zi (v1 + 6), zu]) dX3_endOfTest_110 (by decide) rfl ?_
    refine z_iload_n dX3_endOfTest_112 rfl rfl ?_
    refine z_iconst dX3_endOfTest_113 (by unfold zIn; decide) ?_
    have s2 : -2147483648 ≤ v1 + 2 ∧ v1 + 2 < (2147483648 : Int) := k2 h1
    refine z_iaddN dX3_endOfTest_114 s2 ?_
    refine z_istore (ls' := [zr 47, zi v1, zi v2, zi v3, zi (v1 + 6), zi (v1 + 2)]) dX3_endOfTest_115 (by decide) rfl ?_
    exact k3 h1
  · skip
    refine z_iload_n dX3_endOfTest_100 rfl rfl ?_
    refine z_iconst dX3_endOfTest_101 (by unfold zIn; decide) ?_
    have s4 : -2147483648 ≤ v1 + 3 ∧ v1 + 3 < (2147483648 : Int) := k4 h1
    refine z_iaddN dX3_endOfTest_102 s4 ?_
    refine z_goto dX3_endOfTest_103 (tgt := 110) (by decide) ?_
    refine z_istore (ls' := [zr 47, zi v1, zi v2, zi v3, zi (v1 + 3), zu]) dX3_endOfTest_110 (by decide) rfl ?_
    refine z_iload_n dX3_endOfTest_112 rfl rfl ?_
    refine z_iconst dX3_endOfTest_113 (by unfold zIn; decide) ?_
    have s5 : -2147483648 ≤ v1 + 2 ∧ v1 + 2 < (2147483648 : Int) := k5 h1
    refine z_iaddN dX3_endOfTest_114 s5 ?_
    refine z_istore (ls' := [zr 47, zi v1, zi v2, zi v3, zi (v1 + 3), zi (v1 + 2)]) dX3_endOfTest_115 (by decide) rfl ?_
    exact k6 h1
set_option maxRecDepth 20000 in
set_option maxHeartbeats 1000000 in
theorem TX3_endOfTest_117 {G : zG} {σ : zS} {Q : Int → zS → Prop} {v1 v2 v3 v4 v5 : Int}  (k1 : (v5 < v4) → zO G MX3_letterAt [zr 47, zi v5] σ (fun rr σ' => zR G MX3_endOfTest 130 [zr 47, zi v1, zi v2, zi v3, zi v4, zi v5] [zi rr] σ' Q)) (k2 : (v4 ≤ v5) → -2147483648 ≤ v1 + 2 ∧ v1 + 2 < (2147483648 : Int)) (k3 : (v4 ≤ v5) → (v5 ≠ v1 + 2) → Q v5 σ) (k4 : (v4 ≤ v5) → (v5 = v1 + 2) → Q v5 (zup σ 47 13 v5)) : zR G MX3_endOfTest 117 [zr 47, zi v1, zi v2, zi v3, zi v4, zi v5] [] σ Q := by
  have J166_1 : (v4 ≤ v5) → (v5 = v1 + 2) → zR G MX3_endOfTest 166 [zr 47, zi v1, zi v2, zi v3, zi v4, zi v5] [] (zup σ 47 13 v5) Q := by
    intro h1 h2
    refine z_iload dX3_endOfTest_166 rfl ?_
    exact z_ireti rfl dX3_endOfTest_168 (k4 h1 h2)
  have J166 : (v4 ≤ v5) → (v5 ≠ v1 + 2) → zR G MX3_endOfTest 166 [zr 47, zi v1, zi v2, zi v3, zi v4, zi v5] [] σ Q := by
    intro h1 h2
    refine z_iload dX3_endOfTest_166 rfl ?_
    exact z_ireti rfl dX3_endOfTest_168 (k3 h1 h2)
  have J152 : (v4 ≤ v5) → zR G MX3_endOfTest 152 [zr 47, zi v1, zi v2, zi v3, zi v4, zi v5] [] σ Q := by
    intro h1
    refine z_iload dX3_endOfTest_152 rfl ?_
    refine z_iload_n dX3_endOfTest_154 rfl rfl ?_
    refine z_iconst dX3_endOfTest_155 (by unfold zIn; decide) ?_
    have s2 : -2147483648 ≤ v1 + 2 ∧ v1 + 2 < (2147483648 : Int) := k2 h1
    refine z_iaddN dX3_endOfTest_156 s2 ?_
    refine z_icmp_ne dX3_endOfTest_157 (tgt := 166) (by decide) (fun h2 => ?_) (fun h2 => ?_)
    · skip
      exact J166 h1 h2
    · skip
      refine z_aload_n dX3_endOfTest_160 rfl rfl ?_
      refine z_iload dX3_endOfTest_161 rfl ?_
      refine z_putI (k := 13) fpRX3_55 rfl rfl dX3_endOfTest_163 ?_
      exact J166_1 h1 h2
  refine z_iload dX3_endOfTest_117 rfl ?_
  refine z_iload dX3_endOfTest_119 rfl ?_
  refine z_icmp_ge dX3_endOfTest_121 (tgt := 152) (by decide) (fun h1 => ?_) (fun h1 => ?_)
  · skip
    exact J152 h1
  · skip
    refine z_aload_n dX3_endOfTest_124 rfl rfl ?_
    refine z_iload dX3_endOfTest_125 rfl ?_
    refine z_callv (as := [zi v5]) (st := []) mkX3_letterAt lkRX3_127 rfl rfl rfl (by decide) (Nat.le_of_ble_eq_true rfl) rfl dX3_endOfTest_127 (k1 h1)
set_option maxRecDepth 20000 in
set_option maxHeartbeats 1000000 in
theorem TX3_endOfTest_130 {G : zG} {σ : zS} {Q : Int → zS → Prop} {v1 v2 v3 v4 v5 r : Int}  (k1 : (48 ≤ r) → zO G MX3_letterAt [zr 47, zi v5] σ (fun rr σ' => zR G MX3_endOfTest 141 [zr 47, zi v1, zi v2, zi v3, zi v4, zi v5] [zi rr] σ' Q)) (k2 : (r < 48) → -2147483648 ≤ v1 + 2 ∧ v1 + 2 < (2147483648 : Int)) (k3 : (r < 48) → (v5 ≠ v1 + 2) → Q v5 σ) (k4 : (r < 48) → (v5 = v1 + 2) → Q v5 (zup σ 47 13 v5)) : zR G MX3_endOfTest 130 [zr 47, zi v1, zi v2, zi v3, zi v4, zi v5] [zi r] σ Q := by
  have J166_1 : (r < 48) → (v5 = v1 + 2) → zR G MX3_endOfTest 166 [zr 47, zi v1, zi v2, zi v3, zi v4, zi v5] [] (zup σ 47 13 v5) Q := by
    intro h1 h2
    refine z_iload dX3_endOfTest_166 rfl ?_
    exact z_ireti rfl dX3_endOfTest_168 (k4 h1 h2)
  have J166 : (r < 48) → (v5 ≠ v1 + 2) → zR G MX3_endOfTest 166 [zr 47, zi v1, zi v2, zi v3, zi v4, zi v5] [] σ Q := by
    intro h1 h2
    refine z_iload dX3_endOfTest_166 rfl ?_
    exact z_ireti rfl dX3_endOfTest_168 (k3 h1 h2)
  have J152 : (r < 48) → zR G MX3_endOfTest 152 [zr 47, zi v1, zi v2, zi v3, zi v4, zi v5] [] σ Q := by
    intro h1
    refine z_iload dX3_endOfTest_152 rfl ?_
    refine z_iload_n dX3_endOfTest_154 rfl rfl ?_
    refine z_iconst dX3_endOfTest_155 (by unfold zIn; decide) ?_
    have s2 : -2147483648 ≤ v1 + 2 ∧ v1 + 2 < (2147483648 : Int) := k2 h1
    refine z_iaddN dX3_endOfTest_156 s2 ?_
    refine z_icmp_ne dX3_endOfTest_157 (tgt := 166) (by decide) (fun h2 => ?_) (fun h2 => ?_)
    · skip
      exact J166 h1 h2
    · skip
      refine z_aload_n dX3_endOfTest_160 rfl rfl ?_
      refine z_iload dX3_endOfTest_161 rfl ?_
      refine z_putI (k := 13) fpRX3_55 rfl rfl dX3_endOfTest_163 ?_
      exact J166_1 h1 h2
  refine z_bipush (x := 48) dX3_endOfTest_130 (by decide +kernel) (by unfold zIn; decide) ?_
  refine z_icmp_lt dX3_endOfTest_132 (tgt := 152) (by decide) (fun h1 => ?_) (fun h1 => ?_)
  · skip
    exact J152 h1
  · skip
    refine z_aload_n dX3_endOfTest_135 rfl rfl ?_
    refine z_iload dX3_endOfTest_136 rfl ?_
    refine z_callv (as := [zi v5]) (st := []) mkX3_letterAt lkRX3_127 rfl rfl rfl (by decide) (Nat.le_of_ble_eq_true rfl) rfl dX3_endOfTest_138 (k1 h1)
set_option maxRecDepth 20000 in
set_option maxHeartbeats 1000000 in
theorem TX3_endOfTest_141 {G : zG} {σ : zS} {Q : Int → zS → Prop} {v1 v2 v3 v4 v5 r : Int}  (k1 : (r ≤ 57) → -2147483648 ≤ v5 + 1 ∧ v5 + 1 < (2147483648 : Int)) (k2 : (r ≤ 57) → zR G MX3_endOfTest 117 [zr 47, zi v1, zi v2, zi v3, zi v4, zi (v5 + 1)] [] σ Q) (k3 : (57 < r) → -2147483648 ≤ v1 + 2 ∧ v1 + 2 < (2147483648 : Int)) (k4 : (57 < r) → (v5 ≠ v1 + 2) → Q v5 σ) (k5 : (57 < r) → (v5 = v1 + 2) → Q v5 (zup σ 47 13 v5)) : zR G MX3_endOfTest 141 [zr 47, zi v1, zi v2, zi v3, zi v4, zi v5] [zi r] σ Q := by
  have J166_1 : (57 < r) → (v5 = v1 + 2) → zR G MX3_endOfTest 166 [zr 47, zi v1, zi v2, zi v3, zi v4, zi v5] [] (zup σ 47 13 v5) Q := by
    intro h1 h2
    refine z_iload dX3_endOfTest_166 rfl ?_
    exact z_ireti rfl dX3_endOfTest_168 (k5 h1 h2)
  have J166 : (57 < r) → (v5 ≠ v1 + 2) → zR G MX3_endOfTest 166 [zr 47, zi v1, zi v2, zi v3, zi v4, zi v5] [] σ Q := by
    intro h1 h2
    refine z_iload dX3_endOfTest_166 rfl ?_
    exact z_ireti rfl dX3_endOfTest_168 (k4 h1 h2)
  have J152 : (57 < r) → zR G MX3_endOfTest 152 [zr 47, zi v1, zi v2, zi v3, zi v4, zi v5] [] σ Q := by
    intro h1
    refine z_iload dX3_endOfTest_152 rfl ?_
    refine z_iload_n dX3_endOfTest_154 rfl rfl ?_
    refine z_iconst dX3_endOfTest_155 (by unfold zIn; decide) ?_
    have s3 : -2147483648 ≤ v1 + 2 ∧ v1 + 2 < (2147483648 : Int) := k3 h1
    refine z_iaddN dX3_endOfTest_156 s3 ?_
    refine z_icmp_ne dX3_endOfTest_157 (tgt := 166) (by decide) (fun h2 => ?_) (fun h2 => ?_)
    · skip
      exact J166 h1 h2
    · skip
      refine z_aload_n dX3_endOfTest_160 rfl rfl ?_
      refine z_iload dX3_endOfTest_161 rfl ?_
      refine z_putI (k := 13) fpRX3_55 rfl rfl dX3_endOfTest_163 ?_
      exact J166_1 h1 h2
  refine z_bipush (x := 57) dX3_endOfTest_141 (by decide +kernel) (by unfold zIn; decide) ?_
  refine z_icmp_gt dX3_endOfTest_143 (tgt := 152) (by decide) (fun h1 => ?_) (fun h1 => ?_)
  · skip
    exact J152 h1
  · skip
    have s1 : -2147483648 ≤ v5 + 1 ∧ v5 + 1 < (2147483648 : Int) := k1 h1
    refine z_iincN (ls' := [zr 47, zi v1, zi v2, zi v3, zi v4, zi (v5 + 1)]) dX3_endOfTest_146 rfl (by decide) s1 rfl ?_
    refine z_goto dX3_endOfTest_149 (tgt := 117) (by decide) ?_
    exact k2 h1
set_option maxRecDepth 20000 in
set_option maxHeartbeats 1000000 in
theorem TX3_kinTest {G : zG} {σ : zS} {Q : Int → zS → Prop} {a1 a2 : Int}  (k1 : (a1 ≠ 60) → (a1 ≠ 62) → (σ 22 15 ≠ a2) → (a2 < σ 22 15) → (σ 22 16 ≤ a2) → Q 2 σ) (k2 : (a1 ≠ 60) → (a1 ≠ 62) → (σ 22 15 = a2) → (a2 ≤ σ 22 16) → Q 1 σ) (k3 : (a1 ≠ 60) → (a1 ≠ 62) → (σ 22 15 = a2) → (σ 22 16 < a2) → Q 2 σ) (k4 : (a1 ≠ 60) → (a1 = 62) → (a2 < σ 22 15) → (a2 < σ 22 16) → Q 1 σ) (k5 : (a1 ≠ 60) → (a1 = 62) → (a2 < σ 22 15) → (σ 22 16 ≤ a2) → Q 2 σ) (k6 : (a1 ≠ 60) → (a1 = 62) → (σ 22 15 ≤ a2) → Q 0 σ) (k7 : (a1 = 60) → (a2 ≤ σ 22 15) → (a2 ≤ σ 22 16) → Q 0 σ) (k8 : (a1 = 60) → (a2 ≤ σ 22 15) → (σ 22 16 < a2) → Q 2 σ) (k9 : (a1 = 60) → (σ 22 15 < a2) → Q 1 σ) (k10 : (a1 ≠ 60) → (a1 ≠ 62) → (σ 22 15 ≠ a2) → (σ 22 15 ≤ a2 ∨ (a2 < σ 22 15 ∧ a2 < σ 22 16)) → Q 0 σ) : zO G MX3_kinTest [zr 47, zi a1, zi a2] σ Q := by
  refine zO_of (ls0 := [zr 47, zi a1, zi a2, zu, zu]) (by decide) (Nat.le_of_ble_eq_true rfl) rfl ?_
  have J103 : (a1 ≠ 60) → (a1 ≠ 62) → (σ 22 15 ≠ a2) → (σ 22 15 ≤ a2 ∨ (a2 < σ 22 15 ∧ a2 < σ 22 16)) → zR G MX3_kinTest 103 [zr 47, zi a1, zi a2, zi (σ 22 15), zi (σ 22 16)] [] σ Q := by
    intro h1 h2 h3 h11
    refine z_iconst dX3_kinTest_103 (by unfold zIn; decide) ?_
    exact z_ireti rfl dX3_kinTest_104 (k10 h1 h2 h3 h11)
  refine z_aload_n dX3_kinTest_0 rfl rfl ?_
  refine z_getfR (k := 0) flRX3_24 rfl rfl dX3_kinTest_1 ?_
  refine z_getfI (k := 15) flRX3_136 rfl rfl dX3_kinTest_4 ?_
  refine z_istore_n (ls' := [zr 47, zi a1, zi a2, zi (σ 22 15), zu]) dX3_kinTest_7 rfl (by decide) rfl ?_
  refine z_aload_n dX3_kinTest_8 rfl rfl ?_
  refine z_getfR (k := 0) flRX3_24 rfl rfl dX3_kinTest_9 ?_
  refine z_getfI (k := 16) flRX3_139 rfl rfl dX3_kinTest_12 ?_
  refine z_istore (ls' := [zr 47, zi a1, zi a2, zi (σ 22 15), zi (σ 22 16)]) dX3_kinTest_15 (by decide) rfl ?_
  refine z_iload_n dX3_kinTest_17 rfl rfl ?_
  refine z_bipush (x := 60) dX3_kinTest_18 (by decide +kernel) (by unfold zIn; decide) ?_
  refine z_icmp_ne dX3_kinTest_20 (tgt := 44) (by decide) (fun h1 => ?_) (fun h1 => ?_)
  · skip
    refine z_iload_n dX3_kinTest_44 rfl rfl ?_
    refine z_bipush (x := 62) dX3_kinTest_45 (by decide +kernel) (by unfold zIn; decide) ?_
    refine z_icmp_ne dX3_kinTest_47 (tgt := 71) (by decide) (fun h2 => ?_) (fun h2 => ?_)
    · skip
      refine z_iload_n dX3_kinTest_71 rfl rfl ?_
      refine z_iload_n dX3_kinTest_72 rfl rfl ?_
      refine z_icmp_ne dX3_kinTest_73 (tgt := 88) (by decide) (fun h3 => ?_) (fun h3 => ?_)
      · skip
        refine z_iload_n dX3_kinTest_88 rfl rfl ?_
        refine z_iload_n dX3_kinTest_89 rfl rfl ?_
        refine z_icmp_le dX3_kinTest_90 (tgt := 103) (by decide) (fun h4 => ?_) (fun h4 => ?_)
        · skip
          exact J103 h1 h2 h3 (Or.inl h4)
        · skip
          refine z_iload dX3_kinTest_93 rfl ?_
          refine z_iload_n dX3_kinTest_95 rfl rfl ?_
          refine z_icmp_gt dX3_kinTest_96 (tgt := 103) (by decide) (fun h5 => ?_) (fun h5 => ?_)
          · skip
            exact J103 h1 h2 h3 (Or.inr ⟨h4, h5⟩)
          · skip
            refine z_iconst dX3_kinTest_99 (by unfold zIn; decide) ?_
            refine z_goto dX3_kinTest_100 (tgt := 104) (by decide) ?_
            exact z_ireti rfl dX3_kinTest_104 (k1 h1 h2 h3 h4 h5)
      · skip
        refine z_iload dX3_kinTest_76 rfl ?_
        refine z_iload_n dX3_kinTest_78 rfl rfl ?_
        refine z_icmp_ge dX3_kinTest_79 (tgt := 86) (by decide) (fun h6 => ?_) (fun h6 => ?_)
        · skip
          refine z_iconst dX3_kinTest_86 (by unfold zIn; decide) ?_
          exact z_ireti rfl dX3_kinTest_87 (k2 h1 h2 h3 h6)
        · skip
          refine z_iconst dX3_kinTest_82 (by unfold zIn; decide) ?_
          refine z_goto dX3_kinTest_83 (tgt := 87) (by decide) ?_
          exact z_ireti rfl dX3_kinTest_87 (k3 h1 h2 h3 h6)
    · skip
      refine z_iload_n dX3_kinTest_50 rfl rfl ?_
      refine z_iload_n dX3_kinTest_51 rfl rfl ?_
      refine z_icmp_gt dX3_kinTest_52 (tgt := 59) (by decide) (fun h7 => ?_) (fun h7 => ?_)
      · skip
        refine z_iload dX3_kinTest_59 rfl ?_
        refine z_iload_n dX3_kinTest_61 rfl rfl ?_
        refine z_icmp_gt dX3_kinTest_62 (tgt := 69) (by decide) (fun h8 => ?_) (fun h8 => ?_)
        · skip
          refine z_iconst dX3_kinTest_69 (by unfold zIn; decide) ?_
          exact z_ireti rfl dX3_kinTest_70 (k4 h1 h2 h7 h8)
        · skip
          refine z_iconst dX3_kinTest_65 (by unfold zIn; decide) ?_
          refine z_goto dX3_kinTest_66 (tgt := 70) (by decide) ?_
          exact z_ireti rfl dX3_kinTest_70 (k5 h1 h2 h7 h8)
      · skip
        refine z_iconst dX3_kinTest_55 (by unfold zIn; decide) ?_
        refine z_goto dX3_kinTest_56 (tgt := 70) (by decide) ?_
        exact z_ireti rfl dX3_kinTest_70 (k6 h1 h2 h7)
  · skip
    refine z_iload_n dX3_kinTest_23 rfl rfl ?_
    refine z_iload_n dX3_kinTest_24 rfl rfl ?_
    refine z_icmp_ge dX3_kinTest_25 (tgt := 32) (by decide) (fun h9 => ?_) (fun h9 => ?_)
    · skip
      refine z_iload dX3_kinTest_32 rfl ?_
      refine z_iload_n dX3_kinTest_34 rfl rfl ?_
      refine z_icmp_ge dX3_kinTest_35 (tgt := 42) (by decide) (fun h10 => ?_) (fun h10 => ?_)
      · skip
        refine z_iconst dX3_kinTest_42 (by unfold zIn; decide) ?_
        exact z_ireti rfl dX3_kinTest_43 (k7 h1 h9 h10)
      · skip
        refine z_iconst dX3_kinTest_38 (by unfold zIn; decide) ?_
        refine z_goto dX3_kinTest_39 (tgt := 43) (by decide) ?_
        exact z_ireti rfl dX3_kinTest_43 (k8 h1 h9 h10)
    · skip
      refine z_iconst dX3_kinTest_28 (by unfold zIn; decide) ?_
      refine z_goto dX3_kinTest_29 (tgt := 43) (by decide) ?_
      exact z_ireti rfl dX3_kinTest_43 (k9 h1 h9)
set_option maxRecDepth 20000 in
set_option maxHeartbeats 1000000 in
theorem TX3_plainTest {G : zG} {σ : zS} {Q : Int → zS → Prop} {a1 a2 a3 : Int}  (k1 : (a1 ≠ 100) → (a1 ≠ 114) → (a1 ≠ 116) → (a2 ≠ 60) → (a2 ≠ 62) → (σ 47 6 ≠ a3) → Q 0 σ) (k2 : (a1 ≠ 100) → (a1 ≠ 114) → (a1 ≠ 116) → (a2 ≠ 60) → (a2 ≠ 62) → (σ 47 6 = a3) → Q 1 σ) (k3 : (a1 ≠ 100) → (a1 ≠ 114) → (a1 ≠ 116) → (a2 ≠ 60) → (a2 = 62) → (σ 47 6 ≤ a3) → Q 0 σ) (k4 : (a1 ≠ 100) → (a1 ≠ 114) → (a1 ≠ 116) → (a2 ≠ 60) → (a2 = 62) → (a3 < σ 47 6) → Q 1 σ) (k5 : (a1 ≠ 100) → (a1 ≠ 114) → (a1 ≠ 116) → (a2 = 60) → (a3 ≤ σ 47 6) → Q 0 σ) (k6 : (a1 ≠ 100) → (a1 ≠ 114) → (a1 ≠ 116) → (a2 = 60) → (σ 47 6 < a3) → Q 1 σ) (k7 : (a1 ≠ 100) → (a1 ≠ 114) → (a1 = 116) → (a2 ≠ 60) → (a2 ≠ 62) → (σ 51 3 ≠ a3) → Q 0 σ) (k8 : (a1 ≠ 100) → (a1 ≠ 114) → (a1 = 116) → (a2 ≠ 60) → (a2 ≠ 62) → (σ 51 3 = a3) → Q 1 σ) (k9 : (a1 ≠ 100) → (a1 ≠ 114) → (a1 = 116) → (a2 ≠ 60) → (a2 = 62) → (σ 51 3 ≤ a3) → Q 0 σ) (k10 : (a1 ≠ 100) → (a1 ≠ 114) → (a1 = 116) → (a2 ≠ 60) → (a2 = 62) → (a3 < σ 51 3) → Q 1 σ) (k11 : (a1 ≠ 100) → (a1 ≠ 114) → (a1 = 116) → (a2 = 60) → (a3 ≤ σ 51 3) → Q 0 σ) (k12 : (a1 ≠ 100) → (a1 ≠ 114) → (a1 = 116) → (a2 = 60) → (σ 51 3 < a3) → Q 1 σ) (k13 : (a1 ≠ 100) → (a1 = 114) → (a2 ≠ 60) → (a2 ≠ 62) → (σ 51 2 ≠ a3) → Q 0 σ) (k14 : (a1 ≠ 100) → (a1 = 114) → (a2 ≠ 60) → (a2 ≠ 62) → (σ 51 2 = a3) → Q 1 σ) (k15 : (a1 ≠ 100) → (a1 = 114) → (a2 ≠ 60) → (a2 = 62) → (σ 51 2 ≤ a3) → Q 0 σ) (k16 : (a1 ≠ 100) → (a1 = 114) → (a2 ≠ 60) → (a2 = 62) → (a3 < σ 51 2) → Q 1 σ) (k17 : (a1 ≠ 100) → (a1 = 114) → (a2 = 60) → (a3 ≤ σ 51 2) → Q 0 σ) (k18 : (a1 ≠ 100) → (a1 = 114) → (a2 = 60) → (σ 51 2 < a3) → Q 1 σ) (k19 : (a1 = 100) → (a2 ≠ 60) → (a2 ≠ 62) → (σ 51 0 ≠ a3) → Q 0 σ) (k20 : (a1 = 100) → (a2 ≠ 60) → (a2 ≠ 62) → (σ 51 0 = a3) → Q 1 σ) (k21 : (a1 = 100) → (a2 ≠ 60) → (a2 = 62) → (σ 51 0 ≤ a3) → Q 0 σ) (k22 : (a1 = 100) → (a2 ≠ 60) → (a2 = 62) → (a3 < σ 51 0) → Q 1 σ) (k23 : (a1 = 100) → (a2 = 60) → (a3 ≤ σ 51 0) → Q 0 σ) (k24 : (a1 = 100) → (a2 = 60) → (σ 51 0 < a3) → Q 1 σ) : zO G MX3_plainTest [zr 47, zi a1, zi a2, zi a3] σ Q := by
  refine zO_of (ls0 := [zr 47, zi a1, zi a2, zi a3, zu, zu]) (by decide) (Nat.le_of_ble_eq_true rfl) rfl ?_
  have J54_3 : (a1 = 100) → zR G MX3_plainTest 54 [zr 47, zi a1, zi a2, zi a3, zi (σ 51 0), zu] [] σ Q := by
    intro h1
    refine z_iload_n dX3_plainTest_54 rfl rfl ?_
    refine z_bipush (x := 60) dX3_plainTest_55 (by decide +kernel) (by unfold zIn; decide) ?_
    refine z_icmp_ne dX3_plainTest_57 (tgt := 74) (by decide) (fun h37 => ?_) (fun h37 => ?_)
    · skip
      refine z_iload_n dX3_plainTest_74 rfl rfl ?_
      refine z_bipush (x := 62) dX3_plainTest_75 (by decide +kernel) (by unfold zIn; decide) ?_
      refine z_icmp_ne dX3_plainTest_77 (tgt := 94) (by decide) (fun h38 => ?_) (fun h38 => ?_)
      · skip
        refine z_iload dX3_plainTest_94 rfl ?_
        refine z_iload_n dX3_plainTest_96 rfl rfl ?_
        refine z_icmp_ne dX3_plainTest_97 (tgt := 104) (by decide) (fun h39 => ?_) (fun h39 => ?_)
        · skip
          refine z_iconst dX3_plainTest_104 (by unfold zIn; decide) ?_
          refine z_istore (ls' := [zr 47, zi a1, zi a2, zi a3, zi (σ 51 0), zi 0]) dX3_plainTest_105 (by decide) rfl ?_
          refine z_iload dX3_plainTest_107 rfl ?_
          refine z_if_eq dX3_plainTest_109 (tgt := 116) (by decide) (fun z => ?_) (fun z => absurd z (by decide))
          refine z_iconst dX3_plainTest_116 (by unfold zIn; decide) ?_
          exact z_ireti rfl dX3_plainTest_117 (k19 h1 h37 h38 h39)
        · skip
          refine z_iconst dX3_plainTest_100 (by unfold zIn; decide) ?_
          refine z_goto dX3_plainTest_101 (tgt := 105) (by decide) ?_
          refine z_istore (ls' := [zr 47, zi a1, zi a2, zi a3, zi (σ 51 0), zi 1]) dX3_plainTest_105 (by decide) rfl ?_
          refine z_iload dX3_plainTest_107 rfl ?_
          refine z_if_eq dX3_plainTest_109 (tgt := 116) (by decide) (fun z => absurd z (by decide)) (fun z => ?_)
          refine z_iconst dX3_plainTest_112 (by unfold zIn; decide) ?_
          refine z_goto dX3_plainTest_113 (tgt := 117) (by decide) ?_
          exact z_ireti rfl dX3_plainTest_117 (k20 h1 h37 h38 h39)
      · skip
        refine z_iload dX3_plainTest_80 rfl ?_
        refine z_iload_n dX3_plainTest_82 rfl rfl ?_
        refine z_icmp_le dX3_plainTest_83 (tgt := 90) (by decide) (fun h42 => ?_) (fun h42 => ?_)
        · skip
          refine z_iconst dX3_plainTest_90 (by unfold zIn; decide) ?_
          refine z_goto dX3_plainTest_91 (tgt := 105) (by decide) ?_
          refine z_istore (ls' := [zr 47, zi a1, zi a2, zi a3, zi (σ 51 0), zi 0]) dX3_plainTest_105 (by decide) rfl ?_
          refine z_iload dX3_plainTest_107 rfl ?_
          refine z_if_eq dX3_plainTest_109 (tgt := 116) (by decide) (fun z => ?_) (fun z => absurd z (by decide))
          refine z_iconst dX3_plainTest_116 (by unfold zIn; decide) ?_
          exact z_ireti rfl dX3_plainTest_117 (k21 h1 h37 h38 h42)
        · skip
          refine z_iconst dX3_plainTest_86 (by unfold zIn; decide) ?_
          refine z_goto dX3_plainTest_87 (tgt := 105) (by decide) ?_
          refine z_istore (ls' := [zr 47, zi a1, zi a2, zi a3, zi (σ 51 0), zi 1]) dX3_plainTest_105 (by decide) rfl ?_
          refine z_iload dX3_plainTest_107 rfl ?_
          refine z_if_eq dX3_plainTest_109 (tgt := 116) (by decide) (fun z => absurd z (by decide)) (fun z => ?_)
          refine z_iconst dX3_plainTest_112 (by unfold zIn; decide) ?_
          refine z_goto dX3_plainTest_113 (tgt := 117) (by decide) ?_
          exact z_ireti rfl dX3_plainTest_117 (k22 h1 h37 h38 h42)
    · skip
      refine z_iload dX3_plainTest_60 rfl ?_
      refine z_iload_n dX3_plainTest_62 rfl rfl ?_
      refine z_icmp_ge dX3_plainTest_63 (tgt := 70) (by decide) (fun h45 => ?_) (fun h45 => ?_)
      · skip
        refine z_iconst dX3_plainTest_70 (by unfold zIn; decide) ?_
        refine z_goto dX3_plainTest_71 (tgt := 105) (by decide) ?_
        refine z_istore (ls' := [zr 47, zi a1, zi a2, zi a3, zi (σ 51 0), zi 0]) dX3_plainTest_105 (by decide) rfl ?_
        refine z_iload dX3_plainTest_107 rfl ?_
        refine z_if_eq dX3_plainTest_109 (tgt := 116) (by decide) (fun z => ?_) (fun z => absurd z (by decide))
        refine z_iconst dX3_plainTest_116 (by unfold zIn; decide) ?_
        exact z_ireti rfl dX3_plainTest_117 (k23 h1 h37 h45)
      · skip
        refine z_iconst dX3_plainTest_66 (by unfold zIn; decide) ?_
        refine z_goto dX3_plainTest_67 (tgt := 105) (by decide) ?_
        refine z_istore (ls' := [zr 47, zi a1, zi a2, zi a3, zi (σ 51 0), zi 1]) dX3_plainTest_105 (by decide) rfl ?_
        refine z_iload dX3_plainTest_107 rfl ?_
        refine z_if_eq dX3_plainTest_109 (tgt := 116) (by decide) (fun z => absurd z (by decide)) (fun z => ?_)
        refine z_iconst dX3_plainTest_112 (by unfold zIn; decide) ?_
        refine z_goto dX3_plainTest_113 (tgt := 117) (by decide) ?_
        exact z_ireti rfl dX3_plainTest_117 (k24 h1 h37 h45)
  have J54_2 : (a1 ≠ 100) → (a1 = 114) → zR G MX3_plainTest 54 [zr 47, zi a1, zi a2, zi a3, zi (σ 51 2), zu] [] σ Q := by
    intro h1 h2
    refine z_iload_n dX3_plainTest_54 rfl rfl ?_
    refine z_bipush (x := 60) dX3_plainTest_55 (by decide +kernel) (by unfold zIn; decide) ?_
    refine z_icmp_ne dX3_plainTest_57 (tgt := 74) (by decide) (fun h26 => ?_) (fun h26 => ?_)
    · skip
      refine z_iload_n dX3_plainTest_74 rfl rfl ?_
      refine z_bipush (x := 62) dX3_plainTest_75 (by decide +kernel) (by unfold zIn; decide) ?_
      refine z_icmp_ne dX3_plainTest_77 (tgt := 94) (by decide) (fun h27 => ?_) (fun h27 => ?_)
      · skip
        refine z_iload dX3_plainTest_94 rfl ?_
        refine z_iload_n dX3_plainTest_96 rfl rfl ?_
        refine z_icmp_ne dX3_plainTest_97 (tgt := 104) (by decide) (fun h28 => ?_) (fun h28 => ?_)
        · skip
          refine z_iconst dX3_plainTest_104 (by unfold zIn; decide) ?_
          refine z_istore (ls' := [zr 47, zi a1, zi a2, zi a3, zi (σ 51 2), zi 0]) dX3_plainTest_105 (by decide) rfl ?_
          refine z_iload dX3_plainTest_107 rfl ?_
          refine z_if_eq dX3_plainTest_109 (tgt := 116) (by decide) (fun z => ?_) (fun z => absurd z (by decide))
          refine z_iconst dX3_plainTest_116 (by unfold zIn; decide) ?_
          exact z_ireti rfl dX3_plainTest_117 (k13 h1 h2 h26 h27 h28)
        · skip
          refine z_iconst dX3_plainTest_100 (by unfold zIn; decide) ?_
          refine z_goto dX3_plainTest_101 (tgt := 105) (by decide) ?_
          refine z_istore (ls' := [zr 47, zi a1, zi a2, zi a3, zi (σ 51 2), zi 1]) dX3_plainTest_105 (by decide) rfl ?_
          refine z_iload dX3_plainTest_107 rfl ?_
          refine z_if_eq dX3_plainTest_109 (tgt := 116) (by decide) (fun z => absurd z (by decide)) (fun z => ?_)
          refine z_iconst dX3_plainTest_112 (by unfold zIn; decide) ?_
          refine z_goto dX3_plainTest_113 (tgt := 117) (by decide) ?_
          exact z_ireti rfl dX3_plainTest_117 (k14 h1 h2 h26 h27 h28)
      · skip
        refine z_iload dX3_plainTest_80 rfl ?_
        refine z_iload_n dX3_plainTest_82 rfl rfl ?_
        refine z_icmp_le dX3_plainTest_83 (tgt := 90) (by decide) (fun h31 => ?_) (fun h31 => ?_)
        · skip
          refine z_iconst dX3_plainTest_90 (by unfold zIn; decide) ?_
          refine z_goto dX3_plainTest_91 (tgt := 105) (by decide) ?_
          refine z_istore (ls' := [zr 47, zi a1, zi a2, zi a3, zi (σ 51 2), zi 0]) dX3_plainTest_105 (by decide) rfl ?_
          refine z_iload dX3_plainTest_107 rfl ?_
          refine z_if_eq dX3_plainTest_109 (tgt := 116) (by decide) (fun z => ?_) (fun z => absurd z (by decide))
          refine z_iconst dX3_plainTest_116 (by unfold zIn; decide) ?_
          exact z_ireti rfl dX3_plainTest_117 (k15 h1 h2 h26 h27 h31)
        · skip
          refine z_iconst dX3_plainTest_86 (by unfold zIn; decide) ?_
          refine z_goto dX3_plainTest_87 (tgt := 105) (by decide) ?_
          refine z_istore (ls' := [zr 47, zi a1, zi a2, zi a3, zi (σ 51 2), zi 1]) dX3_plainTest_105 (by decide) rfl ?_
          refine z_iload dX3_plainTest_107 rfl ?_
          refine z_if_eq dX3_plainTest_109 (tgt := 116) (by decide) (fun z => absurd z (by decide)) (fun z => ?_)
          refine z_iconst dX3_plainTest_112 (by unfold zIn; decide) ?_
          refine z_goto dX3_plainTest_113 (tgt := 117) (by decide) ?_
          exact z_ireti rfl dX3_plainTest_117 (k16 h1 h2 h26 h27 h31)
    · skip
      refine z_iload dX3_plainTest_60 rfl ?_
      refine z_iload_n dX3_plainTest_62 rfl rfl ?_
      refine z_icmp_ge dX3_plainTest_63 (tgt := 70) (by decide) (fun h34 => ?_) (fun h34 => ?_)
      · skip
        refine z_iconst dX3_plainTest_70 (by unfold zIn; decide) ?_
        refine z_goto dX3_plainTest_71 (tgt := 105) (by decide) ?_
        refine z_istore (ls' := [zr 47, zi a1, zi a2, zi a3, zi (σ 51 2), zi 0]) dX3_plainTest_105 (by decide) rfl ?_
        refine z_iload dX3_plainTest_107 rfl ?_
        refine z_if_eq dX3_plainTest_109 (tgt := 116) (by decide) (fun z => ?_) (fun z => absurd z (by decide))
        refine z_iconst dX3_plainTest_116 (by unfold zIn; decide) ?_
        exact z_ireti rfl dX3_plainTest_117 (k17 h1 h2 h26 h34)
      · skip
        refine z_iconst dX3_plainTest_66 (by unfold zIn; decide) ?_
        refine z_goto dX3_plainTest_67 (tgt := 105) (by decide) ?_
        refine z_istore (ls' := [zr 47, zi a1, zi a2, zi a3, zi (σ 51 2), zi 1]) dX3_plainTest_105 (by decide) rfl ?_
        refine z_iload dX3_plainTest_107 rfl ?_
        refine z_if_eq dX3_plainTest_109 (tgt := 116) (by decide) (fun z => absurd z (by decide)) (fun z => ?_)
        refine z_iconst dX3_plainTest_112 (by unfold zIn; decide) ?_
        refine z_goto dX3_plainTest_113 (tgt := 117) (by decide) ?_
        exact z_ireti rfl dX3_plainTest_117 (k18 h1 h2 h26 h34)
  have J54_1 : (a1 ≠ 100) → (a1 ≠ 114) → (a1 = 116) → zR G MX3_plainTest 54 [zr 47, zi a1, zi a2, zi a3, zi (σ 51 3), zu] [] σ Q := by
    intro h1 h2 h3
    refine z_iload_n dX3_plainTest_54 rfl rfl ?_
    refine z_bipush (x := 60) dX3_plainTest_55 (by decide +kernel) (by unfold zIn; decide) ?_
    refine z_icmp_ne dX3_plainTest_57 (tgt := 74) (by decide) (fun h15 => ?_) (fun h15 => ?_)
    · skip
      refine z_iload_n dX3_plainTest_74 rfl rfl ?_
      refine z_bipush (x := 62) dX3_plainTest_75 (by decide +kernel) (by unfold zIn; decide) ?_
      refine z_icmp_ne dX3_plainTest_77 (tgt := 94) (by decide) (fun h16 => ?_) (fun h16 => ?_)
      · skip
        refine z_iload dX3_plainTest_94 rfl ?_
        refine z_iload_n dX3_plainTest_96 rfl rfl ?_
        refine z_icmp_ne dX3_plainTest_97 (tgt := 104) (by decide) (fun h17 => ?_) (fun h17 => ?_)
        · skip
          refine z_iconst dX3_plainTest_104 (by unfold zIn; decide) ?_
          refine z_istore (ls' := [zr 47, zi a1, zi a2, zi a3, zi (σ 51 3), zi 0]) dX3_plainTest_105 (by decide) rfl ?_
          refine z_iload dX3_plainTest_107 rfl ?_
          refine z_if_eq dX3_plainTest_109 (tgt := 116) (by decide) (fun z => ?_) (fun z => absurd z (by decide))
          refine z_iconst dX3_plainTest_116 (by unfold zIn; decide) ?_
          exact z_ireti rfl dX3_plainTest_117 (k7 h1 h2 h3 h15 h16 h17)
        · skip
          refine z_iconst dX3_plainTest_100 (by unfold zIn; decide) ?_
          refine z_goto dX3_plainTest_101 (tgt := 105) (by decide) ?_
          refine z_istore (ls' := [zr 47, zi a1, zi a2, zi a3, zi (σ 51 3), zi 1]) dX3_plainTest_105 (by decide) rfl ?_
          refine z_iload dX3_plainTest_107 rfl ?_
          refine z_if_eq dX3_plainTest_109 (tgt := 116) (by decide) (fun z => absurd z (by decide)) (fun z => ?_)
          refine z_iconst dX3_plainTest_112 (by unfold zIn; decide) ?_
          refine z_goto dX3_plainTest_113 (tgt := 117) (by decide) ?_
          exact z_ireti rfl dX3_plainTest_117 (k8 h1 h2 h3 h15 h16 h17)
      · skip
        refine z_iload dX3_plainTest_80 rfl ?_
        refine z_iload_n dX3_plainTest_82 rfl rfl ?_
        refine z_icmp_le dX3_plainTest_83 (tgt := 90) (by decide) (fun h20 => ?_) (fun h20 => ?_)
        · skip
          refine z_iconst dX3_plainTest_90 (by unfold zIn; decide) ?_
          refine z_goto dX3_plainTest_91 (tgt := 105) (by decide) ?_
          refine z_istore (ls' := [zr 47, zi a1, zi a2, zi a3, zi (σ 51 3), zi 0]) dX3_plainTest_105 (by decide) rfl ?_
          refine z_iload dX3_plainTest_107 rfl ?_
          refine z_if_eq dX3_plainTest_109 (tgt := 116) (by decide) (fun z => ?_) (fun z => absurd z (by decide))
          refine z_iconst dX3_plainTest_116 (by unfold zIn; decide) ?_
          exact z_ireti rfl dX3_plainTest_117 (k9 h1 h2 h3 h15 h16 h20)
        · skip
          refine z_iconst dX3_plainTest_86 (by unfold zIn; decide) ?_
          refine z_goto dX3_plainTest_87 (tgt := 105) (by decide) ?_
          refine z_istore (ls' := [zr 47, zi a1, zi a2, zi a3, zi (σ 51 3), zi 1]) dX3_plainTest_105 (by decide) rfl ?_
          refine z_iload dX3_plainTest_107 rfl ?_
          refine z_if_eq dX3_plainTest_109 (tgt := 116) (by decide) (fun z => absurd z (by decide)) (fun z => ?_)
          refine z_iconst dX3_plainTest_112 (by unfold zIn; decide) ?_
          refine z_goto dX3_plainTest_113 (tgt := 117) (by decide) ?_
          exact z_ireti rfl dX3_plainTest_117 (k10 h1 h2 h3 h15 h16 h20)
    · skip
      refine z_iload dX3_plainTest_60 rfl ?_
      refine z_iload_n dX3_plainTest_62 rfl rfl ?_
      refine z_icmp_ge dX3_plainTest_63 (tgt := 70) (by decide) (fun h23 => ?_) (fun h23 => ?_)
      · skip
        refine z_iconst dX3_plainTest_70 (by unfold zIn; decide) ?_
        refine z_goto dX3_plainTest_71 (tgt := 105) (by decide) ?_
        refine z_istore (ls' := [zr 47, zi a1, zi a2, zi a3, zi (σ 51 3), zi 0]) dX3_plainTest_105 (by decide) rfl ?_
        refine z_iload dX3_plainTest_107 rfl ?_
        refine z_if_eq dX3_plainTest_109 (tgt := 116) (by decide) (fun z => ?_) (fun z => absurd z (by decide))
        refine z_iconst dX3_plainTest_116 (by unfold zIn; decide) ?_
        exact z_ireti rfl dX3_plainTest_117 (k11 h1 h2 h3 h15 h23)
      · skip
        refine z_iconst dX3_plainTest_66 (by unfold zIn; decide) ?_
        refine z_goto dX3_plainTest_67 (tgt := 105) (by decide) ?_
        refine z_istore (ls' := [zr 47, zi a1, zi a2, zi a3, zi (σ 51 3), zi 1]) dX3_plainTest_105 (by decide) rfl ?_
        refine z_iload dX3_plainTest_107 rfl ?_
        refine z_if_eq dX3_plainTest_109 (tgt := 116) (by decide) (fun z => absurd z (by decide)) (fun z => ?_)
        refine z_iconst dX3_plainTest_112 (by unfold zIn; decide) ?_
        refine z_goto dX3_plainTest_113 (tgt := 117) (by decide) ?_
        exact z_ireti rfl dX3_plainTest_117 (k12 h1 h2 h3 h15 h23)
  have J54 : (a1 ≠ 100) → (a1 ≠ 114) → (a1 ≠ 116) → zR G MX3_plainTest 54 [zr 47, zi a1, zi a2, zi a3, zi (σ 47 6), zu] [] σ Q := by
    intro h1 h2 h3
    refine z_iload_n dX3_plainTest_54 rfl rfl ?_
    refine z_bipush (x := 60) dX3_plainTest_55 (by decide +kernel) (by unfold zIn; decide) ?_
    refine z_icmp_ne dX3_plainTest_57 (tgt := 74) (by decide) (fun h4 => ?_) (fun h4 => ?_)
    · skip
      refine z_iload_n dX3_plainTest_74 rfl rfl ?_
      refine z_bipush (x := 62) dX3_plainTest_75 (by decide +kernel) (by unfold zIn; decide) ?_
      refine z_icmp_ne dX3_plainTest_77 (tgt := 94) (by decide) (fun h5 => ?_) (fun h5 => ?_)
      · skip
        refine z_iload dX3_plainTest_94 rfl ?_
        refine z_iload_n dX3_plainTest_96 rfl rfl ?_
        refine z_icmp_ne dX3_plainTest_97 (tgt := 104) (by decide) (fun h6 => ?_) (fun h6 => ?_)
        · skip
          refine z_iconst dX3_plainTest_104 (by unfold zIn; decide) ?_
          refine z_istore (ls' := [zr 47, zi a1, zi a2, zi a3, zi (σ 47 6), zi 0]) dX3_plainTest_105 (by decide) rfl ?_
          refine z_iload dX3_plainTest_107 rfl ?_
          refine z_if_eq dX3_plainTest_109 (tgt := 116) (by decide) (fun z => ?_) (fun z => absurd z (by decide))
          refine z_iconst dX3_plainTest_116 (by unfold zIn; decide) ?_
          exact z_ireti rfl dX3_plainTest_117 (k1 h1 h2 h3 h4 h5 h6)
        · skip
          refine z_iconst dX3_plainTest_100 (by unfold zIn; decide) ?_
          refine z_goto dX3_plainTest_101 (tgt := 105) (by decide) ?_
          refine z_istore (ls' := [zr 47, zi a1, zi a2, zi a3, zi (σ 47 6), zi 1]) dX3_plainTest_105 (by decide) rfl ?_
          refine z_iload dX3_plainTest_107 rfl ?_
          refine z_if_eq dX3_plainTest_109 (tgt := 116) (by decide) (fun z => absurd z (by decide)) (fun z => ?_)
          refine z_iconst dX3_plainTest_112 (by unfold zIn; decide) ?_
          refine z_goto dX3_plainTest_113 (tgt := 117) (by decide) ?_
          exact z_ireti rfl dX3_plainTest_117 (k2 h1 h2 h3 h4 h5 h6)
      · skip
        refine z_iload dX3_plainTest_80 rfl ?_
        refine z_iload_n dX3_plainTest_82 rfl rfl ?_
        refine z_icmp_le dX3_plainTest_83 (tgt := 90) (by decide) (fun h9 => ?_) (fun h9 => ?_)
        · skip
          refine z_iconst dX3_plainTest_90 (by unfold zIn; decide) ?_
          refine z_goto dX3_plainTest_91 (tgt := 105) (by decide) ?_
          refine z_istore (ls' := [zr 47, zi a1, zi a2, zi a3, zi (σ 47 6), zi 0]) dX3_plainTest_105 (by decide) rfl ?_
          refine z_iload dX3_plainTest_107 rfl ?_
          refine z_if_eq dX3_plainTest_109 (tgt := 116) (by decide) (fun z => ?_) (fun z => absurd z (by decide))
          refine z_iconst dX3_plainTest_116 (by unfold zIn; decide) ?_
          exact z_ireti rfl dX3_plainTest_117 (k3 h1 h2 h3 h4 h5 h9)
        · skip
          refine z_iconst dX3_plainTest_86 (by unfold zIn; decide) ?_
          refine z_goto dX3_plainTest_87 (tgt := 105) (by decide) ?_
          refine z_istore (ls' := [zr 47, zi a1, zi a2, zi a3, zi (σ 47 6), zi 1]) dX3_plainTest_105 (by decide) rfl ?_
          refine z_iload dX3_plainTest_107 rfl ?_
          refine z_if_eq dX3_plainTest_109 (tgt := 116) (by decide) (fun z => absurd z (by decide)) (fun z => ?_)
          refine z_iconst dX3_plainTest_112 (by unfold zIn; decide) ?_
          refine z_goto dX3_plainTest_113 (tgt := 117) (by decide) ?_
          exact z_ireti rfl dX3_plainTest_117 (k4 h1 h2 h3 h4 h5 h9)
    · skip
      refine z_iload dX3_plainTest_60 rfl ?_
      refine z_iload_n dX3_plainTest_62 rfl rfl ?_
      refine z_icmp_ge dX3_plainTest_63 (tgt := 70) (by decide) (fun h12 => ?_) (fun h12 => ?_)
      · skip
        refine z_iconst dX3_plainTest_70 (by unfold zIn; decide) ?_
        refine z_goto dX3_plainTest_71 (tgt := 105) (by decide) ?_
        refine z_istore (ls' := [zr 47, zi a1, zi a2, zi a3, zi (σ 47 6), zi 0]) dX3_plainTest_105 (by decide) rfl ?_
        refine z_iload dX3_plainTest_107 rfl ?_
        refine z_if_eq dX3_plainTest_109 (tgt := 116) (by decide) (fun z => ?_) (fun z => absurd z (by decide))
        refine z_iconst dX3_plainTest_116 (by unfold zIn; decide) ?_
        exact z_ireti rfl dX3_plainTest_117 (k5 h1 h2 h3 h4 h12)
      · skip
        refine z_iconst dX3_plainTest_66 (by unfold zIn; decide) ?_
        refine z_goto dX3_plainTest_67 (tgt := 105) (by decide) ?_
        refine z_istore (ls' := [zr 47, zi a1, zi a2, zi a3, zi (σ 47 6), zi 1]) dX3_plainTest_105 (by decide) rfl ?_
        refine z_iload dX3_plainTest_107 rfl ?_
        refine z_if_eq dX3_plainTest_109 (tgt := 116) (by decide) (fun z => absurd z (by decide)) (fun z => ?_)
        refine z_iconst dX3_plainTest_112 (by unfold zIn; decide) ?_
        refine z_goto dX3_plainTest_113 (tgt := 117) (by decide) ?_
        exact z_ireti rfl dX3_plainTest_117 (k6 h1 h2 h3 h4 h12)
  refine z_aload_n dX3_plainTest_0 rfl rfl ?_
  refine z_getfI (k := 6) flRX3_100 rfl rfl dX3_plainTest_1 ?_
  refine z_istore (ls' := [zr 47, zi a1, zi a2, zi a3, zi (σ 47 6), zu]) dX3_plainTest_4 (by decide) rfl ?_
  refine z_iload_n dX3_plainTest_6 rfl rfl ?_
  refine z_bipush (x := 100) dX3_plainTest_7 (by decide +kernel) (by unfold zIn; decide) ?_
  refine z_icmp_ne dX3_plainTest_9 (tgt := 23) (by decide) (fun h1 => ?_) (fun h1 => ?_)
  · skip
    refine z_iload_n dX3_plainTest_23 rfl rfl ?_
    refine z_bipush (x := 114) dX3_plainTest_24 (by decide +kernel) (by unfold zIn; decide) ?_
    refine z_icmp_ne dX3_plainTest_26 (tgt := 40) (by decide) (fun h2 => ?_) (fun h2 => ?_)
    · skip
      refine z_iload_n dX3_plainTest_40 rfl rfl ?_
      refine z_bipush (x := 116) dX3_plainTest_41 (by decide +kernel) (by unfold zIn; decide) ?_
      refine z_icmp_ne dX3_plainTest_43 (tgt := 54) (by decide) (fun h3 => ?_) (fun h3 => ?_)
      · skip
        exact J54 h1 h2 h3
      · skip
        refine z_aload_n dX3_plainTest_46 rfl rfl ?_
        refine z_getfR (k := 5) flRX3_21 rfl rfl dX3_plainTest_47 ?_
        refine z_iconst dX3_plainTest_50 (by unfold zIn; decide) ?_
        refine z_iald rfl (by decide) (by decide) dX3_plainTest_51 ?_
        refine z_istore (ls' := [zr 47, zi a1, zi a2, zi a3, zi (σ 51 3), zu]) dX3_plainTest_52 (by decide) rfl ?_
        exact J54_1 h1 h2 h3
    · skip
      refine z_aload_n dX3_plainTest_29 rfl rfl ?_
      refine z_getfR (k := 5) flRX3_21 rfl rfl dX3_plainTest_30 ?_
      refine z_iconst dX3_plainTest_33 (by unfold zIn; decide) ?_
      refine z_iald rfl (by decide) (by decide) dX3_plainTest_34 ?_
      refine z_istore (ls' := [zr 47, zi a1, zi a2, zi a3, zi (σ 51 2), zu]) dX3_plainTest_35 (by decide) rfl ?_
      refine z_goto dX3_plainTest_37 (tgt := 54) (by decide) ?_
      exact J54_2 h1 h2
  · skip
    refine z_aload_n dX3_plainTest_12 rfl rfl ?_
    refine z_getfR (k := 5) flRX3_21 rfl rfl dX3_plainTest_13 ?_
    refine z_iconst dX3_plainTest_16 (by unfold zIn; decide) ?_
    refine z_iald rfl (by decide) (by decide) dX3_plainTest_17 ?_
    refine z_istore (ls' := [zr 47, zi a1, zi a2, zi a3, zi (σ 51 0), zu]) dX3_plainTest_18 (by decide) rfl ?_
    refine z_goto dX3_plainTest_20 (tgt := 54) (by decide) ?_
    exact J54_3 h1
set_option maxRecDepth 20000 in
set_option maxHeartbeats 1000000 in
theorem TX3_valueOfTest {G : zG} {σ : zS} {Q : Int → zS → Prop} {a1 a2 : Int}  (k1 : zO G MX3_letterAt [zr 47, zi a1] σ (fun rr σ' => zR G MX3_valueOfTest 5 [zr 47, zi a1, zi a2, zu, zu, zu] [zi rr] σ' Q)) : zO G MX3_valueOfTest [zr 47, zi a1, zi a2] σ Q := by
  refine zO_of (ls0 := [zr 47, zi a1, zi a2, zu, zu, zu]) (by decide) (Nat.le_of_ble_eq_true rfl) rfl ?_
  refine z_aload_n dX3_valueOfTest_0 rfl rfl ?_
  refine z_iload_n dX3_valueOfTest_1 rfl rfl ?_
  refine z_callv (as := [zi a1]) (st := []) mkX3_letterAt lkRX3_127 rfl rfl rfl (by decide) (Nat.le_of_ble_eq_true rfl) rfl dX3_valueOfTest_2 (k1)
set_option maxRecDepth 20000 in
set_option maxHeartbeats 1000000 in
theorem TX3_valueOfTest_5 {G : zG} {σ : zS} {Q : Int → zS → Prop} {v1 v2 r : Int}  (k1 : (r ≠ 119) → -2147483648 ≤ v1 + 2 ∧ v1 + 2 < (2147483648 : Int)) (k2 : (r ≠ 119) → zR G MX3_valueOfTest 35 [zr 47, zi v1, zi v2, zi r, zi 0, zi (v1 + 2)] [] σ Q) (k3 : (r = 119) → (σ 51 1 ≤ 0) → Q 0 σ) (k4 : (r = 119) → (0 < σ 51 1) → Q 1 σ) : zR G MX3_valueOfTest 5 [zr 47, zi v1, zi v2, zu, zu, zu] [zi r] σ Q := by
  refine z_istore_n (ls' := [zr 47, zi v1, zi v2, zi r, zu, zu]) dX3_valueOfTest_5 rfl (by decide) rfl ?_
  refine z_iload_n dX3_valueOfTest_6 rfl rfl ?_
  refine z_bipush (x := 119) dX3_valueOfTest_7 (by decide +kernel) (by unfold zIn; decide) ?_
  refine z_icmp_ne dX3_valueOfTest_9 (tgt := 27) (by decide) (fun h1 => ?_) (fun h1 => ?_)
  · skip
    refine z_iconst dX3_valueOfTest_27 (by unfold zIn; decide) ?_
    refine z_istore (ls' := [zr 47, zi v1, zi v2, zi r, zi 0, zu]) dX3_valueOfTest_28 (by decide) rfl ?_
    refine z_iload_n dX3_valueOfTest_30 rfl rfl ?_
    refine z_iconst dX3_valueOfTest_31 (by unfold zIn; decide) ?_
    have s1 : -2147483648 ≤ v1 + 2 ∧ v1 + 2 < (2147483648 : Int) := k1 h1
    refine z_iaddN dX3_valueOfTest_32 s1 ?_
    refine z_istore (ls' := [zr 47, zi v1, zi v2, zi r, zi 0, zi (v1 + 2)]) dX3_valueOfTest_33 (by decide) rfl ?_
    exact k2 h1
  · skip
    refine z_aload_n dX3_valueOfTest_12 rfl rfl ?_
    refine z_getfR (k := 5) flRX3_21 rfl rfl dX3_valueOfTest_13 ?_
    refine z_iconst dX3_valueOfTest_16 (by unfold zIn; decide) ?_
    refine z_iald rfl (by decide) (by decide) dX3_valueOfTest_17 ?_
    refine z_if_le dX3_valueOfTest_18 (tgt := 25) (by decide) (fun h2 => ?_) (fun h2 => ?_)
    · skip
      refine z_iconst dX3_valueOfTest_25 (by unfold zIn; decide) ?_
      exact z_ireti rfl dX3_valueOfTest_26 (k3 h1 h2)
    · skip
      refine z_iconst dX3_valueOfTest_21 (by unfold zIn; decide) ?_
      refine z_goto dX3_valueOfTest_22 (tgt := 26) (by decide) ?_
      exact z_ireti rfl dX3_valueOfTest_26 (k4 h1 h2)
set_option maxRecDepth 20000 in
set_option maxHeartbeats 1000000 in
theorem TX3_valueOfTest_35 {G : zG} {σ : zS} {Q : Int → zS → Prop} {v1 v2 v3 v4 v5 : Int}  (k1 : (v2 ≤ v5) → -2147483648 ≤ v1 + 1 ∧ v1 + 1 < (2147483648 : Int)) (k2 : (v2 ≤ v5) → zO G MX3_letterAt [zr 47, zi (v1 + 1)] σ (fun rr σ' => zR G MX3_valueOfTest 71 [zr 47, zi v1, zi v2, zi v3, zi v4, zi v5] [zi rr] σ' Q)) (k3 : (v5 < v2) → -2147483648 ≤ 10 * v4 ∧ 10 * v4 < (2147483648 : Int)) (k4 : (v5 < v2) → zO G MX3_letterAt [zr 47, zi v5] σ (fun rr σ' => zR G MX3_valueOfTest 52 [zr 47, zi v1, zi v2, zi v3, zi v4, zi v5] [zi rr, zi (10 * v4)] σ' Q)) : zR G MX3_valueOfTest 35 [zr 47, zi v1, zi v2, zi v3, zi v4, zi v5] [] σ Q := by
  refine z_iload dX3_valueOfTest_35 rfl ?_
  refine z_iload_n dX3_valueOfTest_37 rfl rfl ?_
  refine z_icmp_ge dX3_valueOfTest_38 (tgt := 64) (by decide) (fun h1 => ?_) (fun h1 => ?_)
  · skip
    refine z_aload_n dX3_valueOfTest_64 rfl rfl ?_
    refine z_iload_n dX3_valueOfTest_65 rfl rfl ?_
    refine z_iconst dX3_valueOfTest_66 (by unfold zIn; decide) ?_
    have s1 : -2147483648 ≤ v1 + 1 ∧ v1 + 1 < (2147483648 : Int) := k1 h1
    refine z_iaddN dX3_valueOfTest_67 s1 ?_
    refine z_callv (as := [zi (v1 + 1)]) (st := []) mkX3_letterAt lkRX3_127 rfl rfl rfl (by decide) (Nat.le_of_ble_eq_true rfl) rfl dX3_valueOfTest_68 (k2 h1)
  · skip
    refine z_bipush (x := 10) dX3_valueOfTest_41 (by decide +kernel) (by unfold zIn; decide) ?_
    refine z_iload dX3_valueOfTest_43 rfl ?_
    have s3 : -2147483648 ≤ 10 * v4 ∧ 10 * v4 < (2147483648 : Int) := k3 h1
    refine z_imulN dX3_valueOfTest_45 s3 ?_
    refine z_aload_n dX3_valueOfTest_46 rfl rfl ?_
    refine z_iload dX3_valueOfTest_47 rfl ?_
    refine z_callv (as := [zi v5]) (st := [zi (10 * v4)]) mkX3_letterAt lkRX3_127 rfl rfl rfl (by decide) (Nat.le_of_ble_eq_true rfl) rfl dX3_valueOfTest_49 (k4 h1)
set_option maxRecDepth 20000 in
set_option maxHeartbeats 1000000 in
theorem TX3_valueOfTest_52 {G : zG} {σ : zS} {Q : Int → zS → Prop} {v1 v2 v3 v4 v5 r t1 : Int}  (k1 : -2147483648 ≤ t1 + r ∧ t1 + r < (2147483648 : Int)) (k2 : -2147483648 ≤ (t1 + r) - 48 ∧ (t1 + r) - 48 < (2147483648 : Int)) (k3 : -2147483648 ≤ v5 + 1 ∧ v5 + 1 < (2147483648 : Int)) (k4 : zR G MX3_valueOfTest 35 [zr 47, zi v1, zi v2, zi v3, zi ((t1 + r) - 48), zi (v5 + 1)] [] σ Q) : zR G MX3_valueOfTest 52 [zr 47, zi v1, zi v2, zi v3, zi v4, zi v5] [zi r, zi t1] σ Q := by
  have s1 : -2147483648 ≤ t1 + r ∧ t1 + r < (2147483648 : Int) := k1
  refine z_iaddN dX3_valueOfTest_52 s1 ?_
  refine z_bipush (x := 48) dX3_valueOfTest_53 (by decide +kernel) (by unfold zIn; decide) ?_
  have s2 : -2147483648 ≤ (t1 + r) - 48 ∧ (t1 + r) - 48 < (2147483648 : Int) := k2
  refine z_isubN dX3_valueOfTest_55 s2 ?_
  refine z_istore (ls' := [zr 47, zi v1, zi v2, zi v3, zi ((t1 + r) - 48), zi v5]) dX3_valueOfTest_56 (by decide) rfl ?_
  have s3 : -2147483648 ≤ v5 + 1 ∧ v5 + 1 < (2147483648 : Int) := k3
  refine z_iincN (ls' := [zr 47, zi v1, zi v2, zi v3, zi ((t1 + r) - 48), zi (v5 + 1)]) dX3_valueOfTest_58 rfl (by decide) s3 rfl ?_
  refine z_goto dX3_valueOfTest_61 (tgt := 35) (by decide) ?_
  exact k4
set_option maxRecDepth 20000 in
set_option maxHeartbeats 1000000 in
theorem TX3_valueOfTest_71 {G : zG} {σ : zS} {Q : Int → zS → Prop} {v1 v2 v3 v4 v5 r : Int}  (k1 : (v3 ≠ 107) → zO G MX3_plainTest [zr 47, zi v3, zi r, zi v4] σ (fun rr σ' => zR G MX3_valueOfTest 99 [zr 47, zi v1, zi v2, zi v3, zi v4, zi r] [zi rr] σ' Q)) (k2 : (v3 = 107) → zO G MX3_kinTest [zr 47, zi r, zi v4] σ (fun rr σ' => zR G MX3_valueOfTest 87 [zr 47, zi v1, zi v2, zi v3, zi v4, zi r] [zi rr] σ' Q)) : zR G MX3_valueOfTest 71 [zr 47, zi v1, zi v2, zi v3, zi v4, zi v5] [zi r] σ Q := by
  refine z_istore (ls' := [zr 47, zi v1, zi v2, zi v3, zi v4, zi r]) dX3_valueOfTest_71 (by decide) rfl ?_
  refine z_iload_n dX3_valueOfTest_73 rfl rfl ?_
  refine z_bipush (x := 107) dX3_valueOfTest_74 (by decide +kernel) (by unfold zIn; decide) ?_
  refine z_icmp_ne dX3_valueOfTest_76 (tgt := 90) (by decide) (fun h1 => ?_) (fun h1 => ?_)
  · skip
    refine z_aload_n dX3_valueOfTest_90 rfl rfl ?_
    refine z_iload_n dX3_valueOfTest_91 rfl rfl ?_
    refine z_iload dX3_valueOfTest_92 rfl ?_
    refine z_iload dX3_valueOfTest_94 rfl ?_
    refine z_callv (as := [zi v3, zi r, zi v4]) (st := []) mkX3_plainTest lkRX3_133 rfl rfl rfl (by decide) (Nat.le_of_ble_eq_true rfl) rfl dX3_valueOfTest_96 (k1 h1)
  · skip
    refine z_aload_n dX3_valueOfTest_79 rfl rfl ?_
    refine z_iload dX3_valueOfTest_80 rfl ?_
    refine z_iload dX3_valueOfTest_82 rfl ?_
    refine z_callv (as := [zi r, zi v4]) (st := []) mkX3_kinTest lkRX3_130 rfl rfl rfl (by decide) (Nat.le_of_ble_eq_true rfl) rfl dX3_valueOfTest_84 (k2 h1)
set_option maxRecDepth 20000 in
set_option maxHeartbeats 1000000 in
theorem TX3_valueOfTest_87 {G : zG} {σ : zS} {Q : Int → zS → Prop} {v1 v2 v3 v4 v5 r : Int}  (k1 : Q r σ) : zR G MX3_valueOfTest 87 [zr 47, zi v1, zi v2, zi v3, zi v4, zi v5] [zi r] σ Q := by
  refine z_goto dX3_valueOfTest_87 (tgt := 99) (by decide) ?_
  exact z_ireti rfl dX3_valueOfTest_99 (k1)
set_option maxRecDepth 20000 in
set_option maxHeartbeats 1000000 in
theorem TX3_valueOfTest_99 {G : zG} {σ : zS} {Q : Int → zS → Prop} {v1 v2 v3 v4 v5 r : Int}  (k1 : Q r σ) : zR G MX3_valueOfTest 99 [zr 47, zi v1, zi v2, zi v3, zi v4, zi v5] [zi r] σ Q := by
  exact z_ireti rfl dX3_valueOfTest_99 (k1)
set_option maxRecDepth 20000 in
set_option maxHeartbeats 1000000 in
theorem TX3_readTest {G : zG} {σ : zS} {Q : Int → zS → Prop} {a1 : Int}  (k1 : zO G MX3_endOfTest [zr 47, zi a1] σ (fun rr σ' => zR G MX3_readTest 5 [zr 47, zi a1, zu, zu] [zi rr] σ' Q)) : zO G MX3_readTest [zr 47, zi a1] σ Q := by
  refine zO_of (ls0 := [zr 47, zi a1, zu, zu]) (by decide) (Nat.le_of_ble_eq_true rfl) rfl ?_
  refine z_aload_n dX3_readTest_0 rfl rfl ?_
  refine z_iload_n dX3_readTest_1 rfl rfl ?_
  refine z_callv (as := [zi a1]) (st := []) mkX3_endOfTest lkRX3_118 rfl rfl rfl (by decide) (Nat.le_of_ble_eq_true rfl) rfl dX3_readTest_2 (k1)
set_option maxRecDepth 20000 in
set_option maxHeartbeats 1000000 in
theorem TX3_readTest_5 {G : zG} {σ : zS} {Q : Int → zS → Prop} {v1 r : Int}  (k1 : (σ 47 13 = (-1)) → zO G MX3_valueOfTest [zr 47, zi v1, zi r] σ (fun rr σ' => zR G MX3_readTest 20 [zr 47, zi v1, zi r, zu] [zi rr] σ' Q)) (k2 : (σ 47 13 ≠ (-1)) → Q r σ) : zR G MX3_readTest 5 [zr 47, zi v1, zu, zu] [zi r] σ Q := by
  have J52 : (σ 47 13 ≠ (-1)) → zR G MX3_readTest 52 [zr 47, zi v1, zi r, zu] [] σ Q := by
    intro h1
    refine z_iload_n dX3_readTest_52 rfl rfl ?_
    exact z_ireti rfl dX3_readTest_53 (k2 h1)
  refine z_istore_n (ls' := [zr 47, zi v1, zi r, zu]) dX3_readTest_5 rfl (by decide) rfl ?_
  refine z_aload_n dX3_readTest_6 rfl rfl ?_
  refine z_getfI (k := 13) flRX3_55 rfl rfl dX3_readTest_7 ?_
  refine z_iconst dX3_readTest_10 (by unfold zIn; decide) ?_
  refine z_icmp_ne dX3_readTest_11 (tgt := 52) (by decide) (fun h1 => ?_) (fun h1 => ?_)
  · skip
    exact J52 h1
  · skip
    refine z_aload_n dX3_readTest_14 rfl rfl ?_
    refine z_iload_n dX3_readTest_15 rfl rfl ?_
    refine z_iload_n dX3_readTest_16 rfl rfl ?_
    refine z_callv (as := [zi v1, zi r]) (st := []) mkX3_valueOfTest lkRX3_121 rfl rfl rfl (by decide) (Nat.le_of_ble_eq_true rfl) rfl dX3_readTest_17 (k1 h1)
set_option maxRecDepth 20000 in
set_option maxHeartbeats 1000000 in
theorem TX3_readTest_20 {G : zG} {σ : zS} {Q : Int → zS → Prop} {v1 v2 r : Int}  (k1 : (σ 47 10 ≠ σ 47 11) → -2147483648 ≤ σ 47 10 + 1 ∧ σ 47 10 + 1 < (2147483648 : Int)) (k2 : (σ 47 10 ≠ σ 47 11) → zO G MX3_endPart [zr 47, zi r] (zup σ 47 10 (σ 47 10 + 1)) (fun rr σ' => zR G MX3_readTest 52 [zr 47, zi v1, zi v2, zi r] [] σ' Q)) (k3 : (σ 47 10 = σ 47 11) → -2147483648 ≤ σ 47 10 + 1 ∧ σ 47 10 + 1 < (2147483648 : Int)) (k4 : (σ 47 10 = σ 47 11) → zO G MX3_endPart [zr 47, zi r] (zup (zup σ 47 12 r) 47 10 (σ 47 10 + 1)) (fun rr σ' => zR G MX3_readTest 52 [zr 47, zi v1, zi v2, zi r] [] σ' Q)) : zR G MX3_readTest 20 [zr 47, zi v1, zi v2, zu] [zi r] σ Q := by
  have J37_1 : (σ 47 10 = σ 47 11) → zR G MX3_readTest 37 [zr 47, zi v1, zi v2, zi r] [] (zup σ 47 12 r) Q := by
    intro h1
    refine z_aload_n dX3_readTest_37 rfl rfl ?_
    refine z_dup dX3_readTest_38 rfl ?_
    refine z_getfE (k := 10) (v := σ 47 10) flRX3_109 rfl rfl (zup_oi (by decide)) dX3_readTest_39 ?_
    refine z_iconst dX3_readTest_42 (by unfold zIn; decide) ?_
    have s3 : -2147483648 ≤ σ 47 10 + 1 ∧ σ 47 10 + 1 < (2147483648 : Int) := k3 h1
    refine z_iaddN dX3_readTest_43 s3 ?_
    refine z_putI (k := 10) fpRX3_109 rfl rfl dX3_readTest_44 ?_
    refine z_aload_n dX3_readTest_47 rfl rfl ?_
    refine z_iload_n dX3_readTest_48 rfl rfl ?_
    refine z_callv (as := [zi r]) (st := []) mkX3_endPart lkRX3_124 rfl rfl rfl (by decide) (Nat.le_of_ble_eq_true rfl) rfl dX3_readTest_49 (k4 h1)
  have J37 : (σ 47 10 ≠ σ 47 11) → zR G MX3_readTest 37 [zr 47, zi v1, zi v2, zi r] [] σ Q := by
    intro h1
    refine z_aload_n dX3_readTest_37 rfl rfl ?_
    refine z_dup dX3_readTest_38 rfl ?_
    refine z_getfI (k := 10) flRX3_109 rfl rfl dX3_readTest_39 ?_
    refine z_iconst dX3_readTest_42 (by unfold zIn; decide) ?_
    have s1 : -2147483648 ≤ σ 47 10 + 1 ∧ σ 47 10 + 1 < (2147483648 : Int) := k1 h1
    refine z_iaddN dX3_readTest_43 s1 ?_
    refine z_putI (k := 10) fpRX3_109 rfl rfl dX3_readTest_44 ?_
    refine z_aload_n dX3_readTest_47 rfl rfl ?_
    refine z_iload_n dX3_readTest_48 rfl rfl ?_
    refine z_callv (as := [zi r]) (st := []) mkX3_endPart lkRX3_124 rfl rfl rfl (by decide) (Nat.le_of_ble_eq_true rfl) rfl dX3_readTest_49 (k2 h1)
  refine z_istore_n (ls' := [zr 47, zi v1, zi v2, zi r]) dX3_readTest_20 rfl (by decide) rfl ?_
  refine z_aload_n dX3_readTest_21 rfl rfl ?_
  refine z_getfI (k := 10) flRX3_109 rfl rfl dX3_readTest_22 ?_
  refine z_aload_n dX3_readTest_25 rfl rfl ?_
  refine z_getfI (k := 11) flRX3_103 rfl rfl dX3_readTest_26 ?_
  refine z_icmp_ne dX3_readTest_29 (tgt := 37) (by decide) (fun h1 => ?_) (fun h1 => ?_)
  · skip
    exact J37 h1
  · skip
    refine z_aload_n dX3_readTest_32 rfl rfl ?_
    refine z_iload_n dX3_readTest_33 rfl rfl ?_
    refine z_putI (k := 12) fpRX3_106 rfl rfl dX3_readTest_34 ?_
    exact J37_1 h1
set_option maxRecDepth 20000 in
set_option maxHeartbeats 1000000 in
theorem TX3_readTest_52 {G : zG} {σ : zS} {Q : Int → zS → Prop} {v1 v2 v3 : Int}  (k1 : Q v2 σ) : zR G MX3_readTest 52 [zr 47, zi v1, zi v2, zi v3] [] σ Q := by
  refine z_iload_n dX3_readTest_52 rfl rfl ?_
  exact z_ireti rfl dX3_readTest_53 (k1)
set_option maxRecDepth 20000 in
set_option maxHeartbeats 1000000 in
theorem TX5_isAlive {G : zG} {σ : zS} {Q : Int → zS → Prop} {a1 a2 a3 : Int}  (k1 : (0 : Int) ≤ a1 ∧ a1 < (24 : Int)) (k2 : (σ 27 a1 = (-1) ∨ (σ 27 a1 ≠ (-1) ∧ a3 < σ 27 a1) ∨ (σ 27 a1 ≠ (-1) ∧ σ 27 a1 ≤ a3 ∧ a2 < σ 26 a1)) → (0 : Int) ≤ a1 ∧ a1 < (24 : Int)) (k3 : (σ 27 a1 = (-1) ∨ (σ 27 a1 ≠ (-1) ∧ a3 < σ 27 a1) ∨ (σ 27 a1 ≠ (-1) ∧ σ 27 a1 ≤ a3 ∧ a2 < σ 26 a1)) → (σ 23 a1 ≤ a2) → Q 1 σ) (k4 : (σ 27 a1 ≠ (-1)) → (σ 27 a1 ≤ a3) → (σ 26 a1 ≤ a2) → (a2 < σ 23 a1 ∨ σ 23 a1 ≤ a2) → Q 0 σ) (k5 : (σ 27 a1 = (-1) ∨ (σ 27 a1 ≠ (-1) ∧ a3 < σ 27 a1) ∨ (σ 27 a1 ≠ (-1) ∧ σ 27 a1 ≤ a3 ∧ a2 < σ 26 a1)) → (a2 < σ 23 a1) → Q 0 σ) : zO G MX5_isAlive [zr 22, zi a1, zi a2, zi a3] σ Q := by
  refine zO_of (ls0 := [zr 22, zi a1, zi a2, zi a3, zu]) (by decide) (Nat.le_of_ble_eq_true rfl) rfl ?_
  have J56_1 : (σ 27 a1 = (-1) ∨ (σ 27 a1 ≠ (-1) ∧ a3 < σ 27 a1) ∨ (σ 27 a1 ≠ (-1) ∧ σ 27 a1 ≤ a3 ∧ a2 < σ 26 a1)) → (a2 < σ 23 a1) → zR G MX5_isAlive 56 [zr 22, zi a1, zi a2, zi a3, zi 0] [] σ Q := by
    intro h6 h7
    refine z_iconst dX5_isAlive_56 (by unfold zIn; decide) ?_
    exact z_iretz rfl (by decide) dX5_isAlive_57 (k5 h6 h7)
  have J56 : (σ 27 a1 ≠ (-1)) → (σ 27 a1 ≤ a3) → (σ 26 a1 ≤ a2) → (a2 < σ 23 a1 ∨ σ 23 a1 ≤ a2) → zR G MX5_isAlive 56 [zr 22, zi a1, zi a2, zi a3, zi 1] [] σ Q := by
    intro h1 h2 h3 h9
    refine z_iconst dX5_isAlive_56 (by unfold zIn; decide) ?_
    exact z_iretz rfl (by decide) dX5_isAlive_57 (k4 h1 h2 h3 h9)
  have J34 : (σ 27 a1 = (-1) ∨ (σ 27 a1 ≠ (-1) ∧ a3 < σ 27 a1) ∨ (σ 27 a1 ≠ (-1) ∧ σ 27 a1 ≤ a3 ∧ a2 < σ 26 a1)) → zR G MX5_isAlive 34 [zr 22, zi a1, zi a2, zi a3, zu] [] σ Q := by
    intro h6
    refine z_iconst dX5_isAlive_34 (by unfold zIn; decide) ?_
    refine z_istore (ls' := [zr 22, zi a1, zi a2, zi a3, zi 0]) dX5_isAlive_35 (by decide) rfl ?_
    refine z_aload_n dX5_isAlive_37 rfl rfl ?_
    refine z_getfR (k := 0) flRX5_9 rfl rfl dX5_isAlive_38 ?_
    refine z_iload_n dX5_isAlive_41 rfl rfl ?_
    have s2 : (0 : Int) ≤ a1 ∧ a1 < (24 : Int) := k2 h6
    refine z_iald rfl s2.1 s2.2 dX5_isAlive_42 ?_
    refine z_iload_n dX5_isAlive_43 rfl rfl ?_
    refine z_icmp_gt dX5_isAlive_44 (tgt := 56) (by decide) (fun h7 => ?_) (fun h7 => ?_)
    · skip
      exact J56_1 h6 h7
    · skip
      refine z_iload dX5_isAlive_47 rfl ?_
      refine z_if_ne dX5_isAlive_49 (tgt := 56) (by decide) (fun z => absurd z (by decide)) (fun z => ?_)
      refine z_iconst dX5_isAlive_52 (by unfold zIn; decide) ?_
      refine z_goto dX5_isAlive_53 (tgt := 57) (by decide) ?_
      exact z_iretz rfl (by decide) dX5_isAlive_57 (k3 h6 h7)
  refine z_aload_n dX5_isAlive_0 rfl rfl ?_
  refine z_getfR (k := 4) flRX5_24 rfl rfl dX5_isAlive_1 ?_
  refine z_iload_n dX5_isAlive_4 rfl rfl ?_
  have s1 : (0 : Int) ≤ a1 ∧ a1 < (24 : Int) := k1
  refine z_iald rfl s1.1 s1.2 dX5_isAlive_5 ?_
  refine z_iconst dX5_isAlive_6 (by unfold zIn; decide) ?_
  refine z_icmp_eq dX5_isAlive_7 (tgt := 34) (by decide) (fun h1 => ?_) (fun h1 => ?_)
  · skip
    exact J34 (Or.inl h1)
  · skip
    refine z_aload_n dX5_isAlive_10 rfl rfl ?_
    refine z_getfR (k := 4) flRX5_24 rfl rfl dX5_isAlive_11 ?_
    refine z_iload_n dX5_isAlive_14 rfl rfl ?_
    refine z_iald rfl s1.1 s1.2 dX5_isAlive_15 ?_
    refine z_iload_n dX5_isAlive_16 rfl rfl ?_
    refine z_icmp_gt dX5_isAlive_17 (tgt := 34) (by decide) (fun h2 => ?_) (fun h2 => ?_)
    · skip
      exact J34 (Or.inr (Or.inl ⟨h1, h2⟩))
    · skip
      refine z_aload_n dX5_isAlive_20 rfl rfl ?_
      refine z_getfR (k := 3) flRX5_21 rfl rfl dX5_isAlive_21 ?_
      refine z_iload_n dX5_isAlive_24 rfl rfl ?_
      refine z_iald rfl s1.1 s1.2 dX5_isAlive_25 ?_
      refine z_iload_n dX5_isAlive_26 rfl rfl ?_
      refine z_icmp_gt dX5_isAlive_27 (tgt := 34) (by decide) (fun h3 => ?_) (fun h3 => ?_)
      · skip
        exact J34 (Or.inr (Or.inr ⟨h1, h2, h3⟩))
      · skip
        refine z_iconst dX5_isAlive_30 (by unfold zIn; decide) ?_
        refine z_goto dX5_isAlive_31 (tgt := 35) (by decide) ?_
        refine z_istore (ls' := [zr 22, zi a1, zi a2, zi a3, zi 1]) dX5_isAlive_35 (by decide) rfl ?_
        refine z_aload_n dX5_isAlive_37 rfl rfl ?_
        refine z_getfR (k := 0) flRX5_9 rfl rfl dX5_isAlive_38 ?_
        refine z_iload_n dX5_isAlive_41 rfl rfl ?_
        refine z_iald rfl s1.1 s1.2 dX5_isAlive_42 ?_
        refine z_iload_n dX5_isAlive_43 rfl rfl ?_
        refine z_icmp_gt dX5_isAlive_44 (tgt := 56) (by decide) (fun h4 => ?_) (fun h4 => ?_)
        · skip
          exact J56 h1 h2 h3 (Or.inl h4)
        · skip
          refine z_iload dX5_isAlive_47 rfl ?_
          refine z_if_ne dX5_isAlive_49 (tgt := 56) (by decide) (fun z => ?_) (fun z => absurd z (by decide))
          exact J56 h1 h2 h3 (Or.inr h4)
set_option maxRecDepth 20000 in
set_option maxHeartbeats 1000000 in
theorem TX3_weigh {G : zG} {σ : zS} {Q : Int → zS → Prop} {a1 a2 a3 a4 a5 : Int}  (k1 : zO G MX10_compose [zr 35, zi a2, zi a3, zi a4] σ (fun rr σ' => zR G MX3_weigh 11 [zr 47, zi a1, zi a2, zi a3, zi a4, zi a5, zu, zu] [] σ' Q)) : zO G MX3_weigh [zr 47, zi a1, zi a2, zi a3, zi a4, zi a5] σ Q := by
  refine zO_of (ls0 := [zr 47, zi a1, zi a2, zi a3, zi a4, zi a5, zu, zu]) (by decide) (Nat.le_of_ble_eq_true rfl) rfl ?_
  refine z_aload_n dX3_weigh_0 rfl rfl ?_
  refine z_getfR (k := 1) flRX3_28 rfl rfl dX3_weigh_1 ?_
  refine z_iload_n dX3_weigh_4 rfl rfl ?_
  refine z_iload_n dX3_weigh_5 rfl rfl ?_
  refine z_iload dX3_weigh_6 rfl ?_
  refine z_callv (as := [zi a2, zi a3, zi a4]) (st := []) mkX10_compose lkRX3_32 rfl rfl rfl (by decide) (Nat.le_of_ble_eq_true rfl) rfl dX3_weigh_8 (k1)
set_option maxRecDepth 20000 in
set_option maxHeartbeats 1000000 in
theorem TX3_weigh_11 {G : zG} {σ : zS} {Q : Int → zS → Prop} {v1 v2 v3 v4 v5 : Int}  (k1 : (v1 ≠ (-1)) → zO G MX3_learn [zr 47, zi v1, zi v3, zi v4] σ (fun rr σ' => zR G MX3_weigh 24 [zr 47, zi v1, zi v2, zi v3, zi v4, zi v5, zu, zu] [] σ' Q)) (k2 : (v1 = (-1)) → (0 : Int) ≤ (zup (zup (zup (zup (zup (zup σ 47 11 v5) 47 12 (-1)) 47 10 0) 47 13 (-1)) 47 8 0) 47 7 0) 47 7 ∧ (zup (zup (zup (zup (zup (zup σ 47 11 v5) 47 12 (-1)) 47 10 0) 47 13 (-1)) 47 8 0) 47 7 0) 47 7 < (31 : Int)) (k3 : (v1 = (-1)) → zR G MX3_weigh 46 [zr 47, zi v1, zi v2, zi v3, zi v4, zi v5, zi 0, zi 0] [] (zup (zup (zup (zup (zup (zup (zup (zup (zup (zup σ 47 11 v5) 47 12 (-1)) 47 10 0) 47 13 (-1)) 47 8 0) 47 7 0) 48 ((zup (zup (zup (zup (zup (zup σ 47 11 v5) 47 12 (-1)) 47 10 0) 47 13 (-1)) 47 8 0) 47 7 0) 47 7) 0) 49 ((zup (zup (zup (zup (zup (zup σ 47 11 v5) 47 12 (-1)) 47 10 0) 47 13 (-1)) 47 8 0) 47 7 0) 47 7) 1) 50 ((zup (zup (zup (zup (zup (zup σ 47 11 v5) 47 12 (-1)) 47 10 0) 47 13 (-1)) 47 8 0) 47 7 0) 47 7) 0) 47 9 1) Q) : zR G MX3_weigh 11 [zr 47, zi v1, zi v2, zi v3, zi v4, zi v5, zu, zu] [] σ Q := by
  have J34 : (v1 = (-1)) → zR G MX3_weigh 34 [zr 47, zi v1, zi v2, zi v3, zi v4, zi v5, zu, zu] [] σ Q := by
    intro h1
    refine z_aload_n dX3_weigh_34 rfl rfl ?_
    refine z_iload dX3_weigh_35 rfl ?_
    have s2 : (0 : Int) ≤ (zup (zup (zup (zup (zup (zup σ 47 11 v5) 47 12 (-1)) 47 10 0) 47 13 (-1)) 47 8 0) 47 7 0) 47 7 ∧ (zup (zup (zup (zup (zup (zup σ 47 11 v5) 47 12 (-1)) 47 10 0) 47 13 (-1)) 47 8 0) 47 7 0) 47 7 < (31 : Int) := k2 h1
    refine z_callv (as := [zi v5]) (st := []) mkX3_begin lkRX3_47 rfl rfl rfl (by decide) (Nat.le_of_ble_eq_true rfl) rfl dX3_weigh_37 ?_
    refine SX3_begin s2 ?_
    show zR G MX3_weigh 40 [zr 47, zi v1, zi v2, zi v3, zi v4, zi v5, zu, zu] [] (zup (zup (zup (zup (zup (zup (zup (zup (zup (zup σ 47 11 v5) 47 12 (-1)) 47 10 0) 47 13 (-1)) 47 8 0) 47 7 0) 48 ((zup (zup (zup (zup (zup (zup σ 47 11 v5) 47 12 (-1)) 47 10 0) 47 13 (-1)) 47 8 0) 47 7 0) 47 7) 0) 49 ((zup (zup (zup (zup (zup (zup σ 47 11 v5) 47 12 (-1)) 47 10 0) 47 13 (-1)) 47 8 0) 47 7 0) 47 7) 1) 50 ((zup (zup (zup (zup (zup (zup σ 47 11 v5) 47 12 (-1)) 47 10 0) 47 13 (-1)) 47 8 0) 47 7 0) 47 7) 0) 47 9 1) Q
    refine z_iconst dX3_weigh_40 (by unfold zIn; decide) ?_
    refine z_istore (ls' := [zr 47, zi v1, zi v2, zi v3, zi v4, zi v5, zi 0, zu]) dX3_weigh_41 (by decide) rfl ?_
    refine z_iconst dX3_weigh_43 (by unfold zIn; decide) ?_
    refine z_istore (ls' := [zr 47, zi v1, zi v2, zi v3, zi v4, zi v5, zi 0, zi 0]) dX3_weigh_44 (by decide) rfl ?_
    exact k3 h1
  refine z_iload_n dX3_weigh_11 rfl rfl ?_
  refine z_iconst dX3_weigh_12 (by unfold zIn; decide) ?_
  refine z_icmp_eq dX3_weigh_13 (tgt := 34) (by decide) (fun h1 => ?_) (fun h1 => ?_)
  · skip
    exact J34 h1
  · skip
    refine z_aload_n dX3_weigh_16 rfl rfl ?_
    refine z_iload_n dX3_weigh_17 rfl rfl ?_
    refine z_iload_n dX3_weigh_18 rfl rfl ?_
    refine z_iload dX3_weigh_19 rfl ?_
    refine z_callv (as := [zi v1, zi v3, zi v4]) (st := []) mkX3_learn lkRX3_38 rfl rfl rfl (by decide) (Nat.le_of_ble_eq_true rfl) rfl dX3_weigh_21 (k1 h1)
set_option maxRecDepth 20000 in
set_option maxHeartbeats 1000000 in
theorem TX3_weigh_24 {G : zG} {σ : zS} {Q : Int → zS → Prop} {v1 v2 v3 v4 v5 : Int}  (k1 : zO G MX5_measure [zr 22, zi v1, zi v4] σ (fun rr σ' => zR G MX3_weigh 34 [zr 47, zi v1, zi v2, zi v3, zi v4, zi v5, zu, zu] [] σ' Q)) : zR G MX3_weigh 24 [zr 47, zi v1, zi v2, zi v3, zi v4, zi v5, zu, zu] [] σ Q := by
  refine z_aload_n dX3_weigh_24 rfl rfl ?_
  refine z_getfR (k := 0) flRX3_24 rfl rfl dX3_weigh_25 ?_
  refine z_iload_n dX3_weigh_28 rfl rfl ?_
  refine z_iload dX3_weigh_29 rfl ?_
  refine z_callv (as := [zi v1, zi v4]) (st := []) mkX5_measure lkRX3_41 rfl rfl rfl (by decide) (Nat.le_of_ble_eq_true rfl) rfl dX3_weigh_31 (k1)
set_option maxRecDepth 20000 in
set_option maxHeartbeats 1000000 in
theorem TX3_weigh_34 {G : zG} {σ : zS} {Q : Int → zS → Prop} {v1 v2 v3 v4 v5 : Int}  (k1 : (0 : Int) ≤ (zup (zup (zup (zup (zup (zup σ 47 11 v5) 47 12 (-1)) 47 10 0) 47 13 (-1)) 47 8 0) 47 7 0) 47 7 ∧ (zup (zup (zup (zup (zup (zup σ 47 11 v5) 47 12 (-1)) 47 10 0) 47 13 (-1)) 47 8 0) 47 7 0) 47 7 < (31 : Int)) (k2 : zR G MX3_weigh 46 [zr 47, zi v1, zi v2, zi v3, zi v4, zi v5, zi 0, zi 0] [] (zup (zup (zup (zup (zup (zup (zup (zup (zup (zup σ 47 11 v5) 47 12 (-1)) 47 10 0) 47 13 (-1)) 47 8 0) 47 7 0) 48 ((zup (zup (zup (zup (zup (zup σ 47 11 v5) 47 12 (-1)) 47 10 0) 47 13 (-1)) 47 8 0) 47 7 0) 47 7) 0) 49 ((zup (zup (zup (zup (zup (zup σ 47 11 v5) 47 12 (-1)) 47 10 0) 47 13 (-1)) 47 8 0) 47 7 0) 47 7) 1) 50 ((zup (zup (zup (zup (zup (zup σ 47 11 v5) 47 12 (-1)) 47 10 0) 47 13 (-1)) 47 8 0) 47 7 0) 47 7) 0) 47 9 1) Q) : zR G MX3_weigh 34 [zr 47, zi v1, zi v2, zi v3, zi v4, zi v5, zu, zu] [] σ Q := by
  refine z_aload_n dX3_weigh_34 rfl rfl ?_
  refine z_iload dX3_weigh_35 rfl ?_
  have s1 : (0 : Int) ≤ (zup (zup (zup (zup (zup (zup σ 47 11 v5) 47 12 (-1)) 47 10 0) 47 13 (-1)) 47 8 0) 47 7 0) 47 7 ∧ (zup (zup (zup (zup (zup (zup σ 47 11 v5) 47 12 (-1)) 47 10 0) 47 13 (-1)) 47 8 0) 47 7 0) 47 7 < (31 : Int) := k1
  refine z_callv (as := [zi v5]) (st := []) mkX3_begin lkRX3_47 rfl rfl rfl (by decide) (Nat.le_of_ble_eq_true rfl) rfl dX3_weigh_37 ?_
  refine SX3_begin s1 ?_
  show zR G MX3_weigh 40 [zr 47, zi v1, zi v2, zi v3, zi v4, zi v5, zu, zu] [] (zup (zup (zup (zup (zup (zup (zup (zup (zup (zup σ 47 11 v5) 47 12 (-1)) 47 10 0) 47 13 (-1)) 47 8 0) 47 7 0) 48 ((zup (zup (zup (zup (zup (zup σ 47 11 v5) 47 12 (-1)) 47 10 0) 47 13 (-1)) 47 8 0) 47 7 0) 47 7) 0) 49 ((zup (zup (zup (zup (zup (zup σ 47 11 v5) 47 12 (-1)) 47 10 0) 47 13 (-1)) 47 8 0) 47 7 0) 47 7) 1) 50 ((zup (zup (zup (zup (zup (zup σ 47 11 v5) 47 12 (-1)) 47 10 0) 47 13 (-1)) 47 8 0) 47 7 0) 47 7) 0) 47 9 1) Q
  refine z_iconst dX3_weigh_40 (by unfold zIn; decide) ?_
  refine z_istore (ls' := [zr 47, zi v1, zi v2, zi v3, zi v4, zi v5, zi 0, zu]) dX3_weigh_41 (by decide) rfl ?_
  refine z_iconst dX3_weigh_43 (by unfold zIn; decide) ?_
  refine z_istore (ls' := [zr 47, zi v1, zi v2, zi v3, zi v4, zi v5, zi 0, zi 0]) dX3_weigh_44 (by decide) rfl ?_
  exact k2
set_option maxRecDepth 20000 in
set_option maxHeartbeats 1000000 in
theorem TX3_weigh_46 {G : zG} {σ : zS} {Q : Int → zS → Prop} {v1 v2 v3 v4 v5 v6 v7 : Int}  (k1 : (v7 < σ 35 12) → (v6 < σ 35 12) → (σ 47 13 = (-1)) → (σ 47 9 ≠ 0) → (0 : Int) ≤ v6 ∧ v6 < (200 : Int)) (k2 : (v7 < σ 35 12) → (v6 < σ 35 12) → (σ 47 13 = (-1)) → (σ 47 9 ≠ 0) → (σ 46 v6 ≠ 33) → (σ 46 v6 ≠ 40) → zO G MX3_readTest [zr 47, zi v6] σ (fun rr σ' => zR G MX3_weigh 141 [zr 47, zi v1, zi v2, zi v3, zi v4, zi v5, zi v6, zi v7] [zi rr] σ' Q)) (k3 : (v7 < σ 35 12) → (v6 < σ 35 12) → (σ 47 13 = (-1)) → (σ 47 9 = 0) → zO G MX3_readJoint [zr 47, zi v6] σ (fun rr σ' => zR G MX3_weigh 91 [zr 47, zi v1, zi v2, zi v3, zi v4, zi v5, zi v6, zi v7] [zi rr] σ' Q)) (k4 : (v7 < σ 35 12) → (v6 < σ 35 12) → (σ 47 13 = (-1)) → (σ 47 9 ≠ 0) → (σ 46 v6 = 33 ∨ (σ 46 v6 ≠ 33 ∧ σ 46 v6 = 40)) → zO G MX3_readOpening [zr 47, zi v6] σ (fun rr σ' => zR G MX3_weigh 132 [zr 47, zi v1, zi v2, zi v3, zi v4, zi v5, zi v6, zi v7] [zi rr] σ' Q)) (k5 : (σ 35 12 ≤ v7 ∨ (v7 < σ 35 12 ∧ σ 35 12 ≤ v6) ∨ (v7 < σ 35 12 ∧ v6 < σ 35 12 ∧ σ 47 13 ≠ (-1))) → (σ 47 13 ≠ (-1) ∨ (σ 47 13 = (-1) ∧ σ 47 9 = 0 ∧ σ 47 7 ≤ 0)) → (σ 47 13 = (-1)) → (v1 ≠ (-1)) → zO G MX5_isAlive [zr 22, zi v1, zi v3, zi v4] σ (fun rr σ' => zR G MX3_weigh 208 [zr 47, zi v1, zi v2, zi v3, zi v4, zi v5, zi v6, zi v7] [zi rr] σ' Q)) (k6 : (σ 35 12 ≤ v7 ∨ (v7 < σ 35 12 ∧ σ 35 12 ≤ v6) ∨ (v7 < σ 35 12 ∧ v6 < σ 35 12 ∧ σ 47 13 ≠ (-1))) → (σ 47 13 ≠ (-1) ∨ (σ 47 13 = (-1) ∧ σ 47 9 = 0 ∧ σ 47 7 ≤ 0)) → (σ 47 13 ≠ (-1)) → Q 3 σ) (k7 : (σ 35 12 ≤ v7 ∨ (v7 < σ 35 12 ∧ σ 35 12 ≤ v6) ∨ (v7 < σ 35 12 ∧ v6 < σ 35 12 ∧ σ 47 13 ≠ (-1))) → (σ 47 13 = (-1)) → (σ 47 9 ≠ 0 ∨ (σ 47 9 = 0 ∧ 0 < σ 47 7)) → (σ 35 12 = (-1)) → (v1 ≠ (-1)) → zO G MX5_isAlive [zr 22, zi v1, zi v3, zi v4] (zup σ 47 13 (σ 35 12)) (fun rr σ' => zR G MX3_weigh 208 [zr 47, zi v1, zi v2, zi v3, zi v4, zi v5, zi v6, zi v7] [zi rr] σ' Q)) (k8 : (σ 35 12 ≤ v7 ∨ (v7 < σ 35 12 ∧ σ 35 12 ≤ v6) ∨ (v7 < σ 35 12 ∧ v6 < σ 35 12 ∧ σ 47 13 ≠ (-1))) → (σ 47 13 = (-1)) → (σ 47 9 ≠ 0 ∨ (σ 47 9 = 0 ∧ 0 < σ 47 7)) → (σ 35 12 ≠ (-1)) → Q 3 (zup σ 47 13 (σ 35 12))) (k9 : (σ 35 12 ≤ v7 ∨ (v7 < σ 35 12 ∧ σ 35 12 ≤ v6) ∨ (v7 < σ 35 12 ∧ v6 < σ 35 12 ∧ σ 47 13 ≠ (-1))) → (σ 47 13 ≠ (-1) ∨ (σ 47 13 = (-1) ∧ σ 47 9 = 0 ∧ σ 47 7 ≤ 0)) → (σ 47 13 = (-1)) → (v1 = (-1)) → Q 0 σ) (k10 : (σ 35 12 ≤ v7 ∨ (v7 < σ 35 12 ∧ σ 35 12 ≤ v6) ∨ (v7 < σ 35 12 ∧ v6 < σ 35 12 ∧ σ 47 13 ≠ (-1))) → (σ 47 13 = (-1)) → (σ 47 9 ≠ 0 ∨ (σ 47 9 = 0 ∧ 0 < σ 47 7)) → (σ 35 12 = (-1)) → (v1 = (-1)) → Q 0 (zup σ 47 13 (σ 35 12))) : zR G MX3_weigh 46 [zr 47, zi v1, zi v2, zi v3, zi v4, zi v5, zi v6, zi v7] [] σ Q := by
  have J229_1 : (σ 35 12 ≤ v7 ∨ (v7 < σ 35 12 ∧ σ 35 12 ≤ v6) ∨ (v7 < σ 35 12 ∧ v6 < σ 35 12 ∧ σ 47 13 ≠ (-1))) → (σ 47 13 = (-1)) → (σ 47 9 ≠ 0 ∨ (σ 47 9 = 0 ∧ 0 < σ 47 7)) → (σ 35 12 = (-1)) → (v1 = (-1)) → zR G MX3_weigh 229 [zr 47, zi v1, zi v2, zi v3, zi v4, zi v5, zi v6, zi v7] [] (zup σ 47 13 (σ 35 12)) Q := by
    intro h8 h9 h12 h16 h17
    refine z_iconst dX3_weigh_229 (by unfold zIn; decide) ?_
    exact z_ireti rfl dX3_weigh_230 (k10 h8 h9 h12 h16 h17)
  have J229 : (σ 35 12 ≤ v7 ∨ (v7 < σ 35 12 ∧ σ 35 12 ≤ v6) ∨ (v7 < σ 35 12 ∧ v6 < σ 35 12 ∧ σ 47 13 ≠ (-1))) → (σ 47 13 ≠ (-1) ∨ (σ 47 13 = (-1) ∧ σ 47 9 = 0 ∧ σ 47 7 ≤ 0)) → (σ 47 13 = (-1)) → (v1 = (-1)) → zR G MX3_weigh 229 [zr 47, zi v1, zi v2, zi v3, zi v4, zi v5, zi v6, zi v7] [] σ Q := by
    intro h8 h13 h14 h15
    refine z_iconst dX3_weigh_229 (by unfold zIn; decide) ?_
    exact z_ireti rfl dX3_weigh_230 (k9 h8 h13 h14 h15)
  have J182_1 : (σ 35 12 ≤ v7 ∨ (v7 < σ 35 12 ∧ σ 35 12 ≤ v6) ∨ (v7 < σ 35 12 ∧ v6 < σ 35 12 ∧ σ 47 13 ≠ (-1))) → (σ 47 13 = (-1)) → (σ 47 9 ≠ 0 ∨ (σ 47 9 = 0 ∧ 0 < σ 47 7)) → zR G MX3_weigh 182 [zr 47, zi v1, zi v2, zi v3, zi v4, zi v5, zi v6, zi v7] [] (zup σ 47 13 (σ 35 12)) Q := by
    intro h8 h9 h12
    refine z_aload_n dX3_weigh_182 rfl rfl ?_
    refine z_getfE (k := 13) (v := σ 35 12) flRX3_55 rfl rfl (zup_same) dX3_weigh_183 ?_
    refine z_iconst dX3_weigh_186 (by unfold zIn; decide) ?_
    refine z_icmp_eq dX3_weigh_187 (tgt := 192) (by decide) (fun h16 => ?_) (fun h16 => ?_)
    · skip
      refine z_iload_n dX3_weigh_192 rfl rfl ?_
      refine z_iconst dX3_weigh_193 (by unfold zIn; decide) ?_
      refine z_icmp_eq dX3_weigh_194 (tgt := 229) (by decide) (fun h17 => ?_) (fun h17 => ?_)
      · skip
        exact J229_1 h8 h9 h12 h16 h17
      · skip
        refine z_aload_n dX3_weigh_197 rfl rfl ?_
        refine z_getfR (k := 0) flRX3_24 rfl rfl dX3_weigh_198 ?_
        refine z_iload_n dX3_weigh_201 rfl rfl ?_
        refine z_iload_n dX3_weigh_202 rfl rfl ?_
        refine z_iload dX3_weigh_203 rfl ?_
        refine z_callv (as := [zi v1, zi v3, zi v4]) (st := []) mkX5_isAlive lkRX3_78 rfl rfl rfl (by decide) (Nat.le_of_ble_eq_true rfl) rfl dX3_weigh_205 (k7 h8 h9 h12 h16 h17)
    · skip
      refine z_iconst dX3_weigh_190 (by unfold zIn; decide) ?_
      exact z_ireti rfl dX3_weigh_191 (k8 h8 h9 h12 h16)
  have J182 : (σ 35 12 ≤ v7 ∨ (v7 < σ 35 12 ∧ σ 35 12 ≤ v6) ∨ (v7 < σ 35 12 ∧ v6 < σ 35 12 ∧ σ 47 13 ≠ (-1))) → (σ 47 13 ≠ (-1) ∨ (σ 47 13 = (-1) ∧ σ 47 9 = 0 ∧ σ 47 7 ≤ 0)) → zR G MX3_weigh 182 [zr 47, zi v1, zi v2, zi v3, zi v4, zi v5, zi v6, zi v7] [] σ Q := by
    intro h8 h13
    refine z_aload_n dX3_weigh_182 rfl rfl ?_
    refine z_getfI (k := 13) flRX3_55 rfl rfl dX3_weigh_183 ?_
    refine z_iconst dX3_weigh_186 (by unfold zIn; decide) ?_
    refine z_icmp_eq dX3_weigh_187 (tgt := 192) (by decide) (fun h14 => ?_) (fun h14 => ?_)
    · skip
      refine z_iload_n dX3_weigh_192 rfl rfl ?_
      refine z_iconst dX3_weigh_193 (by unfold zIn; decide) ?_
      refine z_icmp_eq dX3_weigh_194 (tgt := 229) (by decide) (fun h15 => ?_) (fun h15 => ?_)
      · skip
        exact J229 h8 h13 h14 h15
      · skip
        refine z_aload_n dX3_weigh_197 rfl rfl ?_
        refine z_getfR (k := 0) flRX3_24 rfl rfl dX3_weigh_198 ?_
        refine z_iload_n dX3_weigh_201 rfl rfl ?_
        refine z_iload_n dX3_weigh_202 rfl rfl ?_
        refine z_iload dX3_weigh_203 rfl ?_
        refine z_callv (as := [zi v1, zi v3, zi v4]) (st := []) mkX5_isAlive lkRX3_78 rfl rfl rfl (by decide) (Nat.le_of_ble_eq_true rfl) rfl dX3_weigh_205 (k5 h8 h13 h14 h15)
    · skip
      refine z_iconst dX3_weigh_190 (by unfold zIn; decide) ?_
      exact z_ireti rfl dX3_weigh_191 (k6 h8 h13 h14)
  have J171 : (σ 35 12 ≤ v7 ∨ (v7 < σ 35 12 ∧ σ 35 12 ≤ v6) ∨ (v7 < σ 35 12 ∧ v6 < σ 35 12 ∧ σ 47 13 ≠ (-1))) → (σ 47 13 = (-1)) → (σ 47 9 ≠ 0 ∨ (σ 47 9 = 0 ∧ 0 < σ 47 7)) → zR G MX3_weigh 171 [zr 47, zi v1, zi v2, zi v3, zi v4, zi v5, zi v6, zi v7] [] σ Q := by
    intro h8 h9 h12
    refine z_aload_n dX3_weigh_171 rfl rfl ?_
    refine z_aload_n dX3_weigh_172 rfl rfl ?_
    refine z_getfR (k := 1) flRX3_28 rfl rfl dX3_weigh_173 ?_
    refine z_getfI (k := 12) flRX3_51 rfl rfl dX3_weigh_176 ?_
    refine z_putI (k := 13) fpRX3_55 rfl rfl dX3_weigh_179 ?_
    exact J182_1 h8 h9 h12
  have J149 : (σ 35 12 ≤ v7 ∨ (v7 < σ 35 12 ∧ σ 35 12 ≤ v6) ∨ (v7 < σ 35 12 ∧ v6 < σ 35 12 ∧ σ 47 13 ≠ (-1))) → zR G MX3_weigh 149 [zr 47, zi v1, zi v2, zi v3, zi v4, zi v5, zi v6, zi v7] [] σ Q := by
    intro h8
    refine z_aload_n dX3_weigh_149 rfl rfl ?_
    refine z_getfI (k := 13) flRX3_55 rfl rfl dX3_weigh_150 ?_
    refine z_iconst dX3_weigh_153 (by unfold zIn; decide) ?_
    refine z_icmp_ne dX3_weigh_154 (tgt := 182) (by decide) (fun h9 => ?_) (fun h9 => ?_)
    · skip
      exact J182 h8 (Or.inl h9)
    · skip
      refine z_aload_n dX3_weigh_157 rfl rfl ?_
      refine z_getfI (k := 9) flRX3_58 rfl rfl dX3_weigh_158 ?_
      refine z_if_ne dX3_weigh_161 (tgt := 171) (by decide) (fun h10 => ?_) (fun h10 => ?_)
      · skip
        exact J171 h8 h9 (Or.inl h10)
      · skip
        refine z_aload_n dX3_weigh_164 rfl rfl ?_
        refine z_getfI (k := 7) flRX3_75 rfl rfl dX3_weigh_165 ?_
        refine z_if_le dX3_weigh_168 (tgt := 182) (by decide) (fun h11 => ?_) (fun h11 => ?_)
        · skip
          exact J182 h8 (Or.inr ⟨h9, h10, h11⟩)
        · skip
          exact J171 h8 h9 (Or.inr ⟨h10, h11⟩)
  have J126 : (v7 < σ 35 12) → (v6 < σ 35 12) → (σ 47 13 = (-1)) → (σ 47 9 ≠ 0) → (σ 46 v6 = 33 ∨ (σ 46 v6 ≠ 33 ∧ σ 46 v6 = 40)) → zR G MX3_weigh 126 [zr 47, zi v1, zi v2, zi v3, zi v4, zi v5, zi v6, zi v7] [] σ Q := by
    intro h1 h2 h3 h4 h7
    refine z_aload_n dX3_weigh_126 rfl rfl ?_
    refine z_iload dX3_weigh_127 rfl ?_
    refine z_callv (as := [zi v6]) (st := []) mkX3_readOpening lkRX3_69 rfl rfl rfl (by decide) (Nat.le_of_ble_eq_true rfl) rfl dX3_weigh_129 (k4 h1 h2 h3 h4 h7)
  refine z_iload dX3_weigh_46 rfl ?_
  refine z_aload_n dX3_weigh_48 rfl rfl ?_
  refine z_getfR (k := 1) flRX3_28 rfl rfl dX3_weigh_49 ?_
  refine z_getfI (k := 12) flRX3_51 rfl rfl dX3_weigh_52 ?_
  refine z_icmp_ge dX3_weigh_55 (tgt := 149) (by decide) (fun h1 => ?_) (fun h1 => ?_)
  · skip
    exact J149 (Or.inl h1)
  · skip
    refine z_iload dX3_weigh_58 rfl ?_
    refine z_aload_n dX3_weigh_60 rfl rfl ?_
    refine z_getfR (k := 1) flRX3_28 rfl rfl dX3_weigh_61 ?_
    refine z_getfI (k := 12) flRX3_51 rfl rfl dX3_weigh_64 ?_
    refine z_icmp_ge dX3_weigh_67 (tgt := 149) (by decide) (fun h2 => ?_) (fun h2 => ?_)
    · skip
      exact J149 (Or.inr (Or.inl ⟨h1, h2⟩))
    · skip
      refine z_aload_n dX3_weigh_70 rfl rfl ?_
      refine z_getfI (k := 13) flRX3_55 rfl rfl dX3_weigh_71 ?_
      refine z_iconst dX3_weigh_74 (by unfold zIn; decide) ?_
      refine z_icmp_ne dX3_weigh_75 (tgt := 149) (by decide) (fun h3 => ?_) (fun h3 => ?_)
      · skip
        exact J149 (Or.inr (Or.inr ⟨h1, h2, h3⟩))
      · skip
        refine z_aload_n dX3_weigh_78 rfl rfl ?_
        refine z_getfI (k := 9) flRX3_58 rfl rfl dX3_weigh_79 ?_
        refine z_if_ne dX3_weigh_82 (tgt := 96) (by decide) (fun h4 => ?_) (fun h4 => ?_)
        · skip
          refine z_aload_n dX3_weigh_96 rfl rfl ?_
          refine z_getfR (k := 1) flRX3_28 rfl rfl dX3_weigh_97 ?_
          refine z_getfR (k := 10) flRX3_66 rfl rfl dX3_weigh_100 ?_
          refine z_iload dX3_weigh_103 rfl ?_
          have s1 : (0 : Int) ≤ v6 ∧ v6 < (200 : Int) := k1 h1 h2 h3 h4
          refine z_iald rfl s1.1 s1.2 dX3_weigh_105 ?_
          refine z_bipush (x := 33) dX3_weigh_106 (by decide +kernel) (by unfold zIn; decide) ?_
          refine z_icmp_eq dX3_weigh_108 (tgt := 126) (by decide) (fun h5 => ?_) (fun h5 => ?_)
          · skip
            exact J126 h1 h2 h3 h4 (Or.inl h5)
          · skip
            refine z_aload_n dX3_weigh_111 rfl rfl ?_
            refine z_getfR (k := 1) flRX3_28 rfl rfl dX3_weigh_112 ?_
            refine z_getfR (k := 10) flRX3_66 rfl rfl dX3_weigh_115 ?_
            refine z_iload dX3_weigh_118 rfl ?_
            refine z_iald rfl s1.1 s1.2 dX3_weigh_120 ?_
            refine z_bipush (x := 40) dX3_weigh_121 (by decide +kernel) (by unfold zIn; decide) ?_
            refine z_icmp_ne dX3_weigh_123 (tgt := 135) (by decide) (fun h6 => ?_) (fun h6 => ?_)
            · skip
              refine z_aload_n dX3_weigh_135 rfl rfl ?_
              refine z_iload dX3_weigh_136 rfl ?_
              refine z_callv (as := [zi v6]) (st := []) mkX3_readTest lkRX3_72 rfl rfl rfl (by decide) (Nat.le_of_ble_eq_true rfl) rfl dX3_weigh_138 (k2 h1 h2 h3 h4 h5 h6)
            · skip
              exact J126 h1 h2 h3 h4 (Or.inr ⟨h5, h6⟩)
        · skip
          refine z_aload_n dX3_weigh_85 rfl rfl ?_
          refine z_iload dX3_weigh_86 rfl ?_
          refine z_callv (as := [zi v6]) (st := []) mkX3_readJoint lkRX3_62 rfl rfl rfl (by decide) (Nat.le_of_ble_eq_true rfl) rfl dX3_weigh_88 (k3 h1 h2 h3 h4)
set_option maxRecDepth 20000 in
set_option maxHeartbeats 1000000 in
theorem TX3_weigh_91 {G : zG} {σ : zS} {Q : Int → zS → Prop} {v1 v2 v3 v4 v5 v6 v7 r : Int}  (k1 : -2147483648 ≤ v7 + 1 ∧ v7 + 1 < (2147483648 : Int)) (k2 : zR G MX3_weigh 46 [zr 47, zi v1, zi v2, zi v3, zi v4, zi v5, zi r, zi (v7 + 1)] [] σ Q) : zR G MX3_weigh 91 [zr 47, zi v1, zi v2, zi v3, zi v4, zi v5, zi v6, zi v7] [zi r] σ Q := by
  have J143 : zR G MX3_weigh 143 [zr 47, zi v1, zi v2, zi v3, zi v4, zi v5, zi r, zi v7] [] σ Q := by
    have s1 : -2147483648 ≤ v7 + 1 ∧ v7 + 1 < (2147483648 : Int) := k1
    refine z_iincN (ls' := [zr 47, zi v1, zi v2, zi v3, zi v4, zi v5, zi r, zi (v7 + 1)]) dX3_weigh_143 rfl (by decide) s1 rfl ?_
    refine z_goto dX3_weigh_146 (tgt := 46) (by decide) ?_
    exact k2
  refine z_istore (ls' := [zr 47, zi v1, zi v2, zi v3, zi v4, zi v5, zi r, zi v7]) dX3_weigh_91 (by decide) rfl ?_
  refine z_goto dX3_weigh_93 (tgt := 143) (by decide) ?_
  exact J143
set_option maxRecDepth 20000 in
set_option maxHeartbeats 1000000 in
theorem TX3_weigh_132 {G : zG} {σ : zS} {Q : Int → zS → Prop} {v1 v2 v3 v4 v5 v6 v7 r : Int}  (k1 : -2147483648 ≤ v7 + 1 ∧ v7 + 1 < (2147483648 : Int)) (k2 : zR G MX3_weigh 46 [zr 47, zi v1, zi v2, zi v3, zi v4, zi v5, zi r, zi (v7 + 1)] [] σ Q) : zR G MX3_weigh 132 [zr 47, zi v1, zi v2, zi v3, zi v4, zi v5, zi v6, zi v7] [zi r] σ Q := by
  have J143 : zR G MX3_weigh 143 [zr 47, zi v1, zi v2, zi v3, zi v4, zi v5, zi r, zi v7] [] σ Q := by
    have s1 : -2147483648 ≤ v7 + 1 ∧ v7 + 1 < (2147483648 : Int) := k1
    refine z_iincN (ls' := [zr 47, zi v1, zi v2, zi v3, zi v4, zi v5, zi r, zi (v7 + 1)]) dX3_weigh_143 rfl (by decide) s1 rfl ?_
    refine z_goto dX3_weigh_146 (tgt := 46) (by decide) ?_
    exact k2
  refine z_goto dX3_weigh_132 (tgt := 141) (by decide) ?_
  refine z_istore (ls' := [zr 47, zi v1, zi v2, zi v3, zi v4, zi v5, zi r, zi v7]) dX3_weigh_141 (by decide) rfl ?_
  exact J143
set_option maxRecDepth 20000 in
set_option maxHeartbeats 1000000 in
theorem TX3_weigh_141 {G : zG} {σ : zS} {Q : Int → zS → Prop} {v1 v2 v3 v4 v5 v6 v7 r : Int}  (k1 : -2147483648 ≤ v7 + 1 ∧ v7 + 1 < (2147483648 : Int)) (k2 : zR G MX3_weigh 46 [zr 47, zi v1, zi v2, zi v3, zi v4, zi v5, zi r, zi (v7 + 1)] [] σ Q) : zR G MX3_weigh 141 [zr 47, zi v1, zi v2, zi v3, zi v4, zi v5, zi v6, zi v7] [zi r] σ Q := by
  have J143 : zR G MX3_weigh 143 [zr 47, zi v1, zi v2, zi v3, zi v4, zi v5, zi r, zi v7] [] σ Q := by
    have s1 : -2147483648 ≤ v7 + 1 ∧ v7 + 1 < (2147483648 : Int) := k1
    refine z_iincN (ls' := [zr 47, zi v1, zi v2, zi v3, zi v4, zi v5, zi r, zi (v7 + 1)]) dX3_weigh_143 rfl (by decide) s1 rfl ?_
    refine z_goto dX3_weigh_146 (tgt := 46) (by decide) ?_
    exact k2
  refine z_istore (ls' := [zr 47, zi v1, zi v2, zi v3, zi v4, zi v5, zi r, zi v7]) dX3_weigh_141 (by decide) rfl ?_
  exact J143
set_option maxRecDepth 20000 in
set_option maxHeartbeats 1000000 in
theorem TX3_weigh_208 {G : zG} {σ : zS} {Q : Int → zS → Prop} {v1 v2 v3 v4 v5 v6 v7 r : Int}  (k1 : (r ≠ 0) → zO G MX3_either [zi (σ 48 0), zi (σ 49 0)] σ (fun rr σ' => zR G MX3_weigh 226 [zr 47, zi v1, zi v2, zi v3, zi v4, zi v5, zi v6, zi v7] [zi rr] σ' Q)) (k2 : (r = 0) → Q 0 σ) : zR G MX3_weigh 208 [zr 47, zi v1, zi v2, zi v3, zi v4, zi v5, zi v6, zi v7] [zi r] σ Q := by
  have J229 : (r = 0) → zR G MX3_weigh 229 [zr 47, zi v1, zi v2, zi v3, zi v4, zi v5, zi v6, zi v7] [] σ Q := by
    intro h1
    refine z_iconst dX3_weigh_229 (by unfold zIn; decide) ?_
    exact z_ireti rfl dX3_weigh_230 (k2 h1)
  refine z_if_eq dX3_weigh_208 (tgt := 229) (by decide) (fun h1 => ?_) (fun h1 => ?_)
  · skip
    exact J229 h1
  · skip
    refine z_aload_n dX3_weigh_211 rfl rfl ?_
    refine z_getfR (k := 2) flRX3_11 rfl rfl dX3_weigh_212 ?_
    refine z_iconst dX3_weigh_215 (by unfold zIn; decide) ?_
    refine z_iald rfl (by decide) (by decide) dX3_weigh_216 ?_
    refine z_aload_n dX3_weigh_217 rfl rfl ?_
    refine z_getfR (k := 3) flRX3_15 rfl rfl dX3_weigh_218 ?_
    refine z_iconst dX3_weigh_221 (by unfold zIn; decide) ?_
    refine z_iald rfl (by decide) (by decide) dX3_weigh_222 ?_
    refine z_calls (as := [zi (σ 48 0), zi (σ 49 0)]) (st := []) mkX3_either lkRX3_82 rfl (by decide) (Nat.le_of_ble_eq_true rfl) rfl dX3_weigh_223 (k1 h1)
set_option maxRecDepth 20000 in
set_option maxHeartbeats 1000000 in
theorem TX3_weigh_226 {G : zG} {σ : zS} {Q : Int → zS → Prop} {v1 v2 v3 v4 v5 v6 v7 r : Int}  (k1 : Q r σ) : zR G MX3_weigh 226 [zr 47, zi v1, zi v2, zi v3, zi v4, zi v5, zi v6, zi v7] [zi r] σ Q := by
  refine z_goto dX3_weigh_226 (tgt := 230) (by decide) ?_
  exact z_ireti rfl dX3_weigh_230 (k1)
