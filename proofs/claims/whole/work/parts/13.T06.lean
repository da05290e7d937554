set_option maxRecDepth 20000 in
set_option maxHeartbeats 1000000 in
theorem TX2_begin {G : zG} {σ : zS} {Q : Int → zS → Prop} {a1 : Int}  (k1 : zO G MX2_withBallots [zr 65] (zup σ 65 7 a1) (fun rr σ' => zR G MX2_begin 10 [zr 65, zi a1] [zi rr, zr 65] σ' Q)) : zO G MX2_begin [zr 65, zi a1] σ Q := by
  refine zO_of (ls0 := [zr 65, zi a1]) (by decide) (Nat.le_of_ble_eq_true rfl) rfl ?_
  refine z_aload_n dX2_begin_0 rfl rfl ?_
  refine z_iload_n dX2_begin_1 rfl rfl ?_
  refine z_putI (k := 7) fpRX2_27 rfl rfl dX2_begin_2 ?_
  refine z_aload_n dX2_begin_5 rfl rfl ?_
  refine z_aload_n dX2_begin_6 rfl rfl ?_
  refine z_callv (as := []) (st := [zr 65]) mkX2_withBallots lkRX2_66 rfl rfl rfl (by decide) (Nat.le_of_ble_eq_true rfl) rfl dX2_begin_7 (k1)
set_option maxRecDepth 20000 in
set_option maxHeartbeats 1000000 in
theorem TX2_begin_10 {G : zG} {σ : zS} {Q : Int → zS → Prop} {v1 r : Int}  (k1 : zO G MX2_firstOfficer [zr 65] (zup σ 65 8 r) (fun rr σ' => zR G MX2_begin 18 [zr 65, zi v1] [zi rr, zr 65] σ' Q)) : zR G MX2_begin 10 [zr 65, zi v1] [zi r, zr 65] σ Q := by
  refine z_putI (k := 8) fpRX2_31 rfl rfl dX2_begin_10 ?_
  refine z_aload_n dX2_begin_13 rfl rfl ?_
  refine z_aload_n dX2_begin_14 rfl rfl ?_
  refine z_callv (as := []) (st := [zr 65]) mkX2_firstOfficer lkRX2_90 rfl rfl rfl (by decide) (Nat.le_of_ble_eq_true rfl) rfl dX2_begin_15 (k1)
set_option maxRecDepth 20000 in
set_option maxHeartbeats 1000000 in
theorem TX2_begin_18 {G : zG} {σ : zS} {Q : Int → zS → Prop} {v1 r : Int}  (k1 : zO G MX1_takeOver [zr 62, zr 59] (zup σ 65 9 r) (fun rr σ' => zR G MX2_begin 32 [zr 65, zi v1] [] σ' Q)) : zR G MX2_begin 18 [zr 65, zi v1] [zi r, zr 65] σ Q := by
  refine z_putI (k := 9) fpRX2_34 rfl rfl dX2_begin_18 ?_
  refine z_aload_n dX2_begin_21 rfl rfl ?_
  refine z_getfR (k := 4) flRX2_14 rfl rfl dX2_begin_22 ?_
  refine z_aload_n dX2_begin_25 rfl rfl ?_
  refine z_getfR (k := 3) flRX2_52 rfl rfl dX2_begin_26 ?_
  refine z_callv (as := [zr 59]) (st := []) mkX1_takeOver lkRX2_93 rfl rfl rfl (by decide) (Nat.le_of_ble_eq_true rfl) rfl dX2_begin_29 (k1)
set_option maxRecDepth 20000 in
set_option maxHeartbeats 1000000 in
theorem TX2_begin_32 {G : zG} {σ : zS} {Q : Int → zS → Prop} {v1 : Int}  (k1 : zO G MX2_runRounds [zr 65, zi v1, zi 1] σ (fun rr σ' => zR G MX2_begin 38 [zr 65, zi v1] [zi rr] σ' Q)) : zR G MX2_begin 32 [zr 65, zi v1] [] σ Q := by
  refine z_aload_n dX2_begin_32 rfl rfl ?_
  refine z_iload_n dX2_begin_33 rfl rfl ?_
  refine z_iconst dX2_begin_34 (by unfold zIn; decide) ?_
  refine z_callv (as := [zi v1, zi 1]) (st := []) mkX2_runRounds lkRX2_97 rfl rfl rfl (by decide) (Nat.le_of_ble_eq_true rfl) rfl dX2_begin_35 (k1)
set_option maxRecDepth 20000 in
set_option maxHeartbeats 1000000 in
theorem TX2_begin_38 {G : zG} {σ : zS} {Q : Int → zS → Prop} {v1 r : Int}  (k1 : Q r σ) : zR G MX2_begin 38 [zr 65, zi v1] [zi r] σ Q := by
  exact z_ireti rfl dX2_begin_38 (k1)
set_option maxRecDepth 20000 in
set_option maxHeartbeats 1000000 in
theorem TX11_elect {G : zG} {σ : zS} {Q : Int → zS → Prop} {a1 a2 : Int}  (k1 : ((0 ≤ a1 ∧ a1 < σ 52 7)) → (zushr a2 (σ 22 12) = 0) → (0 : Int) ≤ a1 ∧ a1 < (12 : Int)) (k2 : ((0 ≤ a1 ∧ a1 < σ 52 7)) → (zushr a2 (σ 22 12) = 0) → (σ 54 a1 = (-1)) → zO G MX2_canBe [zr 65, zi (σ 53 a1), zi a2, zi (σ 0 13)] σ (fun rr σ' => zR G MX11_elect 62 [zr 0, zi a1, zi a2, zu] [zi rr] σ' Q)) (k3 : ((¬ ((0 ≤ a1 ∧ a1 < σ 52 7))) ∨ (((0 ≤ a1 ∧ a1 < σ 52 7)) ∧ (¬ (zushr a2 (σ 22 12) = 0)))) → -2147483648 ≤ -(-1) ∧ -(-1) < (2147483648 : Int)) (k4 : ((¬ ((0 ≤ a1 ∧ a1 < σ 52 7))) ∨ (((0 ≤ a1 ∧ a1 < σ 52 7)) ∧ (¬ (zushr a2 (σ 22 12) = 0)))) → (0 : Int) ≤ -(-1) ∧ -(-1) < (8 : Int)) (k5 : ((¬ ((0 ≤ a1 ∧ a1 < σ 52 7))) ∨ (((0 ≤ a1 ∧ a1 < σ 52 7)) ∧ (¬ (zushr a2 (σ 22 12) = 0)))) → Q (-1) (zup σ 97 (-(-1)) (zW ((σ 97 (-(-1))) + 1)))) (k6 : ((0 ≤ a1 ∧ a1 < σ 52 7)) → (zushr a2 (σ 22 12) = 0) → (σ 54 a1 ≠ (-1)) → -2147483648 ≤ -(-6) ∧ -(-6) < (2147483648 : Int)) (k7 : ((0 ≤ a1 ∧ a1 < σ 52 7)) → (zushr a2 (σ 22 12) = 0) → (σ 54 a1 ≠ (-1)) → (0 : Int) ≤ -(-6) ∧ -(-6) < (8 : Int)) (k8 : ((0 ≤ a1 ∧ a1 < σ 52 7)) → (zushr a2 (σ 22 12) = 0) → (σ 54 a1 ≠ (-1)) → Q (-6) (zup σ 97 (-(-6)) (zW ((σ 97 (-(-6))) + 1)))) : zO G MX11_elect [zr 0, zi a1, zi a2] σ Q := by
  refine zO_of (ls0 := [zr 0, zi a1, zi a2, zu]) (by decide) (Nat.le_of_ble_eq_true rfl) rfl ?_
  have J65 : ((0 ≤ a1 ∧ a1 < σ 52 7)) → (zushr a2 (σ 22 12) = 0) → (σ 54 a1 ≠ (-1)) → zR G MX11_elect 65 [zr 0, zi a1, zi a2, zu] [] σ Q := by
    intro h1 h2 h3
    refine z_aload_n dX11_elect_65 rfl rfl ?_
    refine z_bipush (x := (-6)) dX11_elect_66 (by decide +kernel) (by unfold zIn; decide) ?_
    have s6 : -2147483648 ≤ -(-6) ∧ -(-6) < (2147483648 : Int) := k6 h1 h2 h3
    have s7 : (0 : Int) ≤ -(-6) ∧ -(-6) < (8 : Int) := k7 h1 h2 h3
    refine z_callv (as := [zi (-6)]) (st := []) mkX11_refuse lkRX11_132 rfl rfl rfl (by decide) (Nat.le_of_ble_eq_true rfl) rfl dX11_elect_68 ?_
    refine SX11_refuse s6 s7 ?_
    show zR G MX11_elect 71 [zr 0, zi a1, zi a2, zu] [zi (-6)] (zup σ 97 (-(-6)) (zW ((σ 97 (-(-6))) + 1))) Q
    exact z_ireti rfl dX11_elect_71 (k8 h1 h2 h3)
  have J22 : ((¬ ((0 ≤ a1 ∧ a1 < σ 52 7))) ∨ (((0 ≤ a1 ∧ a1 < σ 52 7)) ∧ (¬ (zushr a2 (σ 22 12) = 0)))) → zR G MX11_elect 22 [zr 0, zi a1, zi a2, zu] [] σ Q := by
    intro h4
    refine z_aload_n dX11_elect_22 rfl rfl ?_
    refine z_iconst dX11_elect_23 (by unfold zIn; decide) ?_
    have s3 : -2147483648 ≤ -(-1) ∧ -(-1) < (2147483648 : Int) := k3 h4
    have s4 : (0 : Int) ≤ -(-1) ∧ -(-1) < (8 : Int) := k4 h4
    refine z_callv (as := [zi (-1)]) (st := []) mkX11_refuse lkRX11_132 rfl rfl rfl (by decide) (Nat.le_of_ble_eq_true rfl) rfl dX11_elect_24 ?_
    refine SX11_refuse s3 s4 ?_
    show zR G MX11_elect 27 [zr 0, zi a1, zi a2, zu] [zi (-1)] (zup σ 97 (-(-1)) (zW ((σ 97 (-(-1))) + 1))) Q
    exact z_ireti rfl dX11_elect_27 (k5 h4)
  refine z_aload_n dX11_elect_0 rfl rfl ?_
  refine z_getfR (k := 4) flRX11_43 rfl rfl dX11_elect_1 ?_
  refine z_iload_n dX11_elect_4 rfl rfl ?_
  refine z_callv (as := [zi a1]) (st := []) mkX6_has lkRX11_284 rfl rfl rfl (by decide) (Nat.le_of_ble_eq_true rfl) rfl dX11_elect_5 ?_
  refine SX6_has ?_
  show zR G MX11_elect 8 [zr 0, zi a1, zi a2, zu] [zi (if (0 ≤ a1 ∧ a1 < σ 52 7) then (1 : Int) else 0)] σ Q
  refine z_if_eq dX11_elect_8 (tgt := 22) (by decide) (fun z => ?_) (fun z => ?_)
  · have h1 : ¬ ((0 ≤ a1 ∧ a1 < σ 52 7)) := zb0 z
    exact J22 (Or.inl h1)
  · have h1 : (0 ≤ a1 ∧ a1 < σ 52 7) := zb1 z
    refine z_aload_n dX11_elect_11 rfl rfl ?_
    refine z_getfR (k := 1) flRX11_18 rfl rfl dX11_elect_12 ?_
    refine z_iload_n dX11_elect_15 rfl rfl ?_
    refine z_callv (as := [zi a2]) (st := []) mkX5_hasAll lkRX11_314 rfl rfl rfl (by decide) (Nat.le_of_ble_eq_true rfl) rfl dX11_elect_16 ?_
    refine SX5_hasAll ?_
    show zR G MX11_elect 19 [zr 0, zi a1, zi a2, zu] [zi (if zushr a2 (σ 22 12) = 0 then (1 : Int) else 0)] σ Q
    refine z_if_ne dX11_elect_19 (tgt := 28) (by decide) (fun z => ?_) (fun z => ?_)
    · have h2 : zushr a2 (σ 22 12) = 0 := zb1 z
      refine z_aload_n dX11_elect_28 rfl rfl ?_
      refine z_getfR (k := 4) flRX11_43 rfl rfl dX11_elect_29 ?_
      refine z_getfR (k := 2) flRX11_285 rfl rfl dX11_elect_32 ?_
      refine z_iload_n dX11_elect_35 rfl rfl ?_
      have s1 : (0 : Int) ≤ a1 ∧ a1 < (12 : Int) := k1 h1 h2
      refine z_iald rfl s1.1 s1.2 dX11_elect_36 ?_
      refine z_iconst dX11_elect_37 (by unfold zIn; decide) ?_
      refine z_icmp_ne dX11_elect_38 (tgt := 65) (by decide) (fun h3 => ?_) (fun h3 => ?_)
      · skip
        exact J65 h1 h2 h3
      · skip
        refine z_aload_n dX11_elect_41 rfl rfl ?_
        refine z_getfR (k := 6) flRX11_61 rfl rfl dX11_elect_42 ?_
        refine z_aload_n dX11_elect_45 rfl rfl ?_
        refine z_getfR (k := 4) flRX11_43 rfl rfl dX11_elect_46 ?_
        refine z_getfR (k := 1) flRX11_288 rfl rfl dX11_elect_49 ?_
        refine z_iload_n dX11_elect_52 rfl rfl ?_
        refine z_iald rfl s1.1 s1.2 dX11_elect_53 ?_
        refine z_iload_n dX11_elect_54 rfl rfl ?_
        refine z_aload_n dX11_elect_55 rfl rfl ?_
        refine z_getfI (k := 13) flRX11_106 rfl rfl dX11_elect_56 ?_
        refine z_callv (as := [zi (σ 53 a1), zi a2, zi (σ 0 13)]) (st := []) mkX2_canBe lkRX11_317 rfl rfl rfl (by decide) (Nat.le_of_ble_eq_true rfl) rfl dX11_elect_59 (k2 h1 h2 h3)
    · have h2 : ¬ (zushr a2 (σ 22 12) = 0) := zb0 z
      exact J22 (Or.inr ⟨h1, h2⟩)
set_option maxRecDepth 20000 in
set_option maxHeartbeats 1000000 in
theorem TX11_elect_62 {G : zG} {σ : zS} {Q : Int → zS → Prop} {v1 v2 r : Int}  (k1 : (r ≠ 0) → zO G MX2_begin [zr 65, zi v2] σ (fun rr σ' => zR G MX11_elect 80 [zr 0, zi v1, zi v2, zu] [zi rr] σ' Q)) (k2 : (r = 0) → -2147483648 ≤ -(-6) ∧ -(-6) < (2147483648 : Int)) (k3 : (r = 0) → (0 : Int) ≤ -(-6) ∧ -(-6) < (8 : Int)) (k4 : (r = 0) → Q (-6) (zup σ 97 (-(-6)) (zW ((σ 97 (-(-6))) + 1)))) : zR G MX11_elect 62 [zr 0, zi v1, zi v2, zu] [zi r] σ Q := by
  have J65 : (r = 0) → zR G MX11_elect 65 [zr 0, zi v1, zi v2, zu] [] σ Q := by
    intro h1
    refine z_aload_n dX11_elect_65 rfl rfl ?_
    refine z_bipush (x := (-6)) dX11_elect_66 (by decide +kernel) (by unfold zIn; decide) ?_
    have s2 : -2147483648 ≤ -(-6) ∧ -(-6) < (2147483648 : Int) := k2 h1
    have s3 : (0 : Int) ≤ -(-6) ∧ -(-6) < (8 : Int) := k3 h1
    refine z_callv (as := [zi (-6)]) (st := []) mkX11_refuse lkRX11_132 rfl rfl rfl (by decide) (Nat.le_of_ble_eq_true rfl) rfl dX11_elect_68 ?_
    refine SX11_refuse s2 s3 ?_
    show zR G MX11_elect 71 [zr 0, zi v1, zi v2, zu] [zi (-6)] (zup σ 97 (-(-6)) (zW ((σ 97 (-(-6))) + 1))) Q
    exact z_ireti rfl dX11_elect_71 (k4 h1)
  refine z_if_ne dX11_elect_62 (tgt := 72) (by decide) (fun h1 => ?_) (fun h1 => ?_)
  · skip
    refine z_aload_n dX11_elect_72 rfl rfl ?_
    refine z_getfR (k := 6) flRX11_61 rfl rfl dX11_elect_73 ?_
    refine z_iload_n dX11_elect_76 rfl rfl ?_
    refine z_callv (as := [zi v2]) (st := []) mkX2_begin lkRX11_320 rfl rfl rfl (by decide) (Nat.le_of_ble_eq_true rfl) rfl dX11_elect_77 (k1 h1)
  · skip
    exact J65 h1
set_option maxRecDepth 20000 in
set_option maxHeartbeats 1000000 in
theorem TX11_elect_80 {G : zG} {σ : zS} {Q : Int → zS → Prop} {v1 v2 r : Int}  (k1 : (0 : Int) ≤ v1 ∧ v1 < (12 : Int)) (k2 : Q r (zup (zup (zup (zup σ 54 v1 r) 55 v1 (σ 0 13)) 56 v1 (-1)) 57 v1 0)) : zR G MX11_elect 80 [zr 0, zi v1, zi v2, zu] [zi r] σ Q := by
  refine z_istore_n (ls' := [zr 0, zi v1, zi v2, zi r]) dX11_elect_80 rfl (by decide) rfl ?_
  refine z_aload_n dX11_elect_81 rfl rfl ?_
  refine z_getfR (k := 4) flRX11_43 rfl rfl dX11_elect_82 ?_
  refine z_iload_n dX11_elect_85 rfl rfl ?_
  refine z_iload_n dX11_elect_86 rfl rfl ?_
  refine z_aload_n dX11_elect_87 rfl rfl ?_
  refine z_getfI (k := 13) flRX11_106 rfl rfl dX11_elect_88 ?_
  have s1 : (0 : Int) ≤ v1 ∧ v1 < (12 : Int) := k1
  refine z_callv (as := [zi r, zi v1, zi (σ 0 13)]) (st := []) mkX6_come lkRX11_294 rfl rfl rfl (by decide) (Nat.le_of_ble_eq_true rfl) rfl dX11_elect_91 ?_
  refine SX6_come s1 ?_
  show zR G MX11_elect 94 [zr 0, zi v1, zi v2, zi r] [] (zup (zup (zup (zup σ 54 v1 r) 55 v1 (σ 0 13)) 56 v1 (-1)) 57 v1 0) Q
  refine z_iload_n dX11_elect_94 rfl rfl ?_
  exact z_ireti rfl dX11_elect_95 (k2)
set_option maxRecDepth 20000 in
set_option maxHeartbeats 1000000 in
theorem TX2_votesIn {G : zG} {σ : zS} {Q : Int → zS → Prop} {a1 a2 : Int}  (k1 : (0 ≤ a1) → (a1 < σ 65 10) → -2147483648 ≤ 24 * a1 ∧ 24 * a1 < (2147483648 : Int)) (k2 : (0 ≤ a1) → (a1 < σ 65 10) → -2147483648 ≤ (24 * a1) + a2 ∧ (24 * a1) + a2 < (2147483648 : Int)) (k3 : (0 ≤ a1) → (a1 < σ 65 10) → (0 : Int) ≤ (24 * a1) + a2 ∧ (24 * a1) + a2 < (576 : Int)) (k4 : (0 ≤ a1) → (a1 < σ 65 10) → Q (σ 66 ((24 * a1) + a2)) σ) (k5 : (a1 < 0 ∨ (0 ≤ a1 ∧ σ 65 10 ≤ a1)) → Q (-1) σ) : zO G MX2_votesIn [zr 65, zi a1, zi a2] σ Q := by
  refine zO_of (ls0 := [zr 65, zi a1, zi a2]) (by decide) (Nat.le_of_ble_eq_true rfl) rfl ?_
  have J26 : (a1 < 0 ∨ (0 ≤ a1 ∧ σ 65 10 ≤ a1)) → zR G MX2_votesIn 26 [zr 65, zi a1, zi a2] [] σ Q := by
    intro h3
    refine z_iconst dX2_votesIn_26 (by unfold zIn; decide) ?_
    exact z_ireti rfl dX2_votesIn_27 (k5 h3)
  refine z_iload_n dX2_votesIn_0 rfl rfl ?_
  refine z_if_lt dX2_votesIn_1 (tgt := 26) (by decide) (fun h1 => ?_) (fun h1 => ?_)
  · skip
    exact J26 (Or.inl h1)
  · skip
    refine z_iload_n dX2_votesIn_4 rfl rfl ?_
    refine z_aload_n dX2_votesIn_5 rfl rfl ?_
    refine z_getfI (k := 10) flRX2_37 rfl rfl dX2_votesIn_6 ?_
    refine z_icmp_ge dX2_votesIn_9 (tgt := 26) (by decide) (fun h2 => ?_) (fun h2 => ?_)
    · skip
      exact J26 (Or.inr ⟨h1, h2⟩)
    · skip
      refine z_aload_n dX2_votesIn_12 rfl rfl ?_
      refine z_getfR (k := 5) flRX2_20 rfl rfl dX2_votesIn_13 ?_
      refine z_bipush (x := 24) dX2_votesIn_16 (by decide +kernel) (by unfold zIn; decide) ?_
      refine z_iload_n dX2_votesIn_18 rfl rfl ?_
      have s1 : -2147483648 ≤ 24 * a1 ∧ 24 * a1 < (2147483648 : Int) := k1 h1 h2
      refine z_imulN dX2_votesIn_19 s1 ?_
      refine z_iload_n dX2_votesIn_20 rfl rfl ?_
      have s2 : -2147483648 ≤ (24 * a1) + a2 ∧ (24 * a1) + a2 < (2147483648 : Int) := k2 h1 h2
      refine z_iaddN dX2_votesIn_21 s2 ?_
      have s3 : (0 : Int) ≤ (24 * a1) + a2 ∧ (24 * a1) + a2 < (576 : Int) := k3 h1 h2
      refine z_iald rfl s3.1 s3.2 dX2_votesIn_22 ?_
      refine z_goto dX2_votesIn_23 (tgt := 27) (by decide) ?_
      exact z_ireti rfl dX2_votesIn_27 (k4 h1 h2)
set_option maxRecDepth 20000 in
set_option maxHeartbeats 1000000 in
theorem TX11_votes {G : zG} {σ : zS} {Q : Int → zS → Prop} {a1 a2 : Int}  (k1 : (¬ ((0 ≤ a2 ∧ a2 < σ 22 12))) → Q (-1) σ) (k2 : ((0 ≤ a2 ∧ a2 < σ 22 12)) → zO G MX2_votesIn [zr 65, zi a1, zi a2] σ (fun rr σ' => zR G MX11_votes 20 [zr 0, zi a1, zi a2] [zi rr] σ' Q)) : zO G MX11_votes [zr 0, zi a1, zi a2] σ Q := by
  refine zO_of (ls0 := [zr 0, zi a1, zi a2]) (by decide) (Nat.le_of_ble_eq_true rfl) rfl ?_
  refine z_aload_n dX11_votes_0 rfl rfl ?_
  refine z_getfR (k := 1) flRX11_18 rfl rfl dX11_votes_1 ?_
  refine z_iload_n dX11_votes_4 rfl rfl ?_
  refine z_callv (as := [zi a2]) (st := []) mkX5_has lkRX11_146 rfl rfl rfl (by decide) (Nat.le_of_ble_eq_true rfl) rfl dX11_votes_5 ?_
  refine SX5_has ?_
  show zR G MX11_votes 8 [zr 0, zi a1, zi a2] [zi (if (0 ≤ a2 ∧ a2 < σ 22 12) then (1 : Int) else 0)] σ Q
  refine z_if_eq dX11_votes_8 (tgt := 23) (by decide) (fun z => ?_) (fun z => ?_)
  · have h1 : ¬ ((0 ≤ a2 ∧ a2 < σ 22 12)) := zb0 z
    refine z_iconst dX11_votes_23 (by unfold zIn; decide) ?_
    exact z_ireti rfl dX11_votes_24 (k1 h1)
  · have h1 : (0 ≤ a2 ∧ a2 < σ 22 12) := zb1 z
    refine z_aload_n dX11_votes_11 rfl rfl ?_
    refine z_getfR (k := 6) flRX11_61 rfl rfl dX11_votes_12 ?_
    refine z_iload_n dX11_votes_15 rfl rfl ?_
    refine z_iload_n dX11_votes_16 rfl rfl ?_
    refine z_callv (as := [zi a1, zi a2]) (st := []) mkX2_votesIn lkRX11_323 rfl rfl rfl (by decide) (Nat.le_of_ble_eq_true rfl) rfl dX11_votes_17 (k2 h1)
set_option maxRecDepth 20000 in
set_option maxHeartbeats 1000000 in
theorem TX11_votes_20 {G : zG} {σ : zS} {Q : Int → zS → Prop} {v1 v2 r : Int}  (k1 : Q r σ) : zR G MX11_votes 20 [zr 0, zi v1, zi v2] [zi r] σ Q := by
  refine z_goto dX11_votes_20 (tgt := 24) (by decide) ?_
  exact z_ireti rfl dX11_votes_24 (k1)
set_option maxRecDepth 20000 in
set_option maxHeartbeats 1000000 in
theorem TX2_electedWithout {G : zG} {σ : zS} {Q : Int → zS → Prop} {a1 : Int}  (k1 : (zand (σ 65 7) (zxor (zshl 1 a1) (-1)) ≠ σ 65 7) → (zand (σ 65 7) (zxor (zshl 1 a1) (-1)) ≠ 0) → zO G MX2_runRounds [zr 65, zi (zand (σ 65 7) (zxor (zshl 1 a1) (-1))), zi 0] σ (fun rr σ' => zR G MX2_electedWithout 33 [zr 65, zi a1, zi (zand (σ 65 7) (zxor (zshl 1 a1) (-1)))] [zi rr] σ' Q)) (k2 : (zand (σ 65 7) (zxor (zshl 1 a1) (-1)) = σ 65 7 ∨ (zand (σ 65 7) (zxor (zshl 1 a1) (-1)) ≠ σ 65 7 ∧ zand (σ 65 7) (zxor (zshl 1 a1) (-1)) = 0)) → Q (-1) σ) : zO G MX2_electedWithout [zr 65, zi a1] σ Q := by
  refine zO_of (ls0 := [zr 65, zi a1, zu]) (by decide) (Nat.le_of_ble_eq_true rfl) rfl ?_
  have J23 : (zand (σ 65 7) (zxor (zshl 1 a1) (-1)) = σ 65 7 ∨ (zand (σ 65 7) (zxor (zshl 1 a1) (-1)) ≠ σ 65 7 ∧ zand (σ 65 7) (zxor (zshl 1 a1) (-1)) = 0)) → zR G MX2_electedWithout 23 [zr 65, zi a1, zi (zand (σ 65 7) (zxor (zshl 1 a1) (-1)))] [] σ Q := by
    intro h3
    refine z_iconst dX2_electedWithout_23 (by unfold zIn; decide) ?_
    refine z_goto dX2_electedWithout_24 (tgt := 33) (by decide) ?_
    exact z_ireti rfl dX2_electedWithout_33 (k2 h3)
  refine z_aload_n dX2_electedWithout_0 rfl rfl ?_
  refine z_getfI (k := 7) flRX2_27 rfl rfl dX2_electedWithout_1 ?_
  refine z_iconst dX2_electedWithout_4 (by unfold zIn; decide) ?_
  refine z_iload_n dX2_electedWithout_5 rfl rfl ?_
  refine z_ishl dX2_electedWithout_6 ?_
  refine z_iconst dX2_electedWithout_7 (by unfold zIn; decide) ?_
  refine z_ixor dX2_electedWithout_8 ?_
  refine z_iand dX2_electedWithout_9 ?_
  refine z_istore_n (ls' := [zr 65, zi a1, zi (zand (σ 65 7) (zxor (zshl 1 a1) (-1)))]) dX2_electedWithout_10 rfl (by decide) rfl ?_
  refine z_iload_n dX2_electedWithout_11 rfl rfl ?_
  refine z_aload_n dX2_electedWithout_12 rfl rfl ?_
  refine z_getfI (k := 7) flRX2_27 rfl rfl dX2_electedWithout_13 ?_
  refine z_icmp_eq dX2_electedWithout_16 (tgt := 23) (by decide) (fun h1 => ?_) (fun h1 => ?_)
  · skip
    exact J23 (Or.inl h1)
  · skip
    refine z_iload_n dX2_electedWithout_19 rfl rfl ?_
    refine z_if_ne dX2_electedWithout_20 (tgt := 27) (by decide) (fun h2 => ?_) (fun h2 => ?_)
    · skip
      refine z_aload_n dX2_electedWithout_27 rfl rfl ?_
      refine z_iload_n dX2_electedWithout_28 rfl rfl ?_
      refine z_iconst dX2_electedWithout_29 (by unfold zIn; decide) ?_
      refine z_callv (as := [zi (zand (σ 65 7) (zxor (zshl 1 a1) (-1))), zi 0]) (st := []) mkX2_runRounds lkRX2_97 rfl rfl rfl (by decide) (Nat.le_of_ble_eq_true rfl) rfl dX2_electedWithout_30 (k1 h1 h2)
    · skip
      exact J23 (Or.inr ⟨h1, h2⟩)
set_option maxRecDepth 20000 in
set_option maxHeartbeats 1000000 in
theorem TX2_electedWithout_33 {G : zG} {σ : zS} {Q : Int → zS → Prop} {v1 v2 r : Int}  (k1 : Q r σ) : zR G MX2_electedWithout 33 [zr 65, zi v1, zi v2] [zi r] σ Q := by
  exact z_ireti rfl dX2_electedWithout_33 (k1)
set_option maxRecDepth 20000 in
set_option maxHeartbeats 1000000 in
theorem TX11_without {G : zG} {σ : zS} {Q : Int → zS → Prop} {a1 : Int}  (k1 : (¬ ((0 ≤ a1 ∧ a1 < σ 22 12))) → Q (-1) σ) (k2 : ((0 ≤ a1 ∧ a1 < σ 22 12)) → zO G MX2_electedWithout [zr 65, zi a1] σ (fun rr σ' => zR G MX11_without 19 [zr 0, zi a1] [zi rr] σ' Q)) : zO G MX11_without [zr 0, zi a1] σ Q := by
  refine zO_of (ls0 := [zr 0, zi a1]) (by decide) (Nat.le_of_ble_eq_true rfl) rfl ?_
  refine z_aload_n dX11_without_0 rfl rfl ?_
  refine z_getfR (k := 1) flRX11_18 rfl rfl dX11_without_1 ?_
  refine z_iload_n dX11_without_4 rfl rfl ?_
  refine z_callv (as := [zi a1]) (st := []) mkX5_has lkRX11_146 rfl rfl rfl (by decide) (Nat.le_of_ble_eq_true rfl) rfl dX11_without_5 ?_
  refine SX5_has ?_
  show zR G MX11_without 8 [zr 0, zi a1] [zi (if (0 ≤ a1 ∧ a1 < σ 22 12) then (1 : Int) else 0)] σ Q
  refine z_if_eq dX11_without_8 (tgt := 22) (by decide) (fun z => ?_) (fun z => ?_)
  · have h1 : ¬ ((0 ≤ a1 ∧ a1 < σ 22 12)) := zb0 z
    refine z_iconst dX11_without_22 (by unfold zIn; decide) ?_
    exact z_ireti rfl dX11_without_23 (k1 h1)
  · have h1 : (0 ≤ a1 ∧ a1 < σ 22 12) := zb1 z
    refine z_aload_n dX11_without_11 rfl rfl ?_
    refine z_getfR (k := 6) flRX11_61 rfl rfl dX11_without_12 ?_
    refine z_iload_n dX11_without_15 rfl rfl ?_
    refine z_callv (as := [zi a1]) (st := []) mkX2_electedWithout lkRX11_326 rfl rfl rfl (by decide) (Nat.le_of_ble_eq_true rfl) rfl dX11_without_16 (k2 h1)
set_option maxRecDepth 20000 in
set_option maxHeartbeats 1000000 in
theorem TX11_without_19 {G : zG} {σ : zS} {Q : Int → zS → Prop} {v1 r : Int}  (k1 : Q r σ) : zR G MX11_without 19 [zr 0, zi v1] [zi r] σ Q := by
  refine z_goto dX11_without_19 (tgt := 23) (by decide) ?_
  exact z_ireti rfl dX11_without_23 (k1)
set_option maxRecDepth 20000 in
set_option maxHeartbeats 1000000 in
theorem TX6_lineUpFellows {G : zG} {σ : zS} {Q : Int → zS → Prop}  (k1 : zR G MX6_lineUpFellows 4 [zr 52, zi 0, zi 0, zu] [] σ Q) : zO G MX6_lineUpFellows [zr 52] σ Q := by
  refine zO_of (ls0 := [zr 52, zu, zu, zu]) (by decide) (Nat.le_of_ble_eq_true rfl) rfl ?_
  refine z_iconst dX6_lineUpFellows_0 (by unfold zIn; decide) ?_
  refine z_istore_n (ls' := [zr 52, zi 0, zu, zu]) dX6_lineUpFellows_1 rfl (by decide) rfl ?_
  refine z_iconst dX6_lineUpFellows_2 (by unfold zIn; decide) ?_
  refine z_istore_n (ls' := [zr 52, zi 0, zi 0, zu]) dX6_lineUpFellows_3 rfl (by decide) rfl ?_
  exact k1
set_option maxRecDepth 20000 in
set_option maxHeartbeats 1000000 in
theorem TX6_lineUpFellows_4 {G : zG} {σ : zS} {Q : Int → zS → Prop} {v1 v2 : Int}  (k1 : (σ 52 7 ≤ v2) → Q v1 σ) (k2 : (v2 < σ 52 7) → (0 : Int) ≤ v2 ∧ v2 < (12 : Int)) (k3 : (v2 < σ 52 7) → (σ 53 v2 = 1) → (σ 54 v2 ≠ (-1)) → -2147483648 ≤ v1 + 1 ∧ v1 + 1 < (2147483648 : Int)) (k4 : (v2 < σ 52 7) → (σ 53 v2 = 1) → (σ 54 v2 ≠ (-1)) → zR G MX6_lineUpFellows 37 [zr 52, zi (v1 + 1), zi v2, zi v1] [] σ Q) (k5 : (v2 < σ 52 7) → (σ 53 v2 ≠ 1 ∨ (σ 53 v2 = 1 ∧ σ 54 v2 = (-1))) → -2147483648 ≤ v2 + 1 ∧ v2 + 1 < (2147483648 : Int)) (k6 : (v2 < σ 52 7) → (σ 53 v2 ≠ 1 ∨ (σ 53 v2 = 1 ∧ σ 54 v2 = (-1))) → zR G MX6_lineUpFellows 4 [zr 52, zi v1, zi (v2 + 1), zu] [] σ Q) : zR G MX6_lineUpFellows 4 [zr 52, zi v1, zi v2, zu] [] σ Q := by
  have J84 : (v2 < σ 52 7) → (σ 53 v2 ≠ 1 ∨ (σ 53 v2 = 1 ∧ σ 54 v2 = (-1))) → zR G MX6_lineUpFellows 84 [zr 52, zi v1, zi v2, zu] [] σ Q := by
    intro h1 h4
    have s5 : -2147483648 ≤ v2 + 1 ∧ v2 + 1 < (2147483648 : Int) := k5 h1 h4
    refine z_iincN (ls' := [zr 52, zi v1, zi (v2 + 1), zu]) dX6_lineUpFellows_84 rfl (by decide) s5 rfl ?_
    refine z_goto dX6_lineUpFellows_87 (tgt := 4) (by decide) ?_
    exact k6 h1 h4
  refine z_iload_n dX6_lineUpFellows_4 rfl rfl ?_
  refine z_aload_n dX6_lineUpFellows_5 rfl rfl ?_
  refine z_getfI (k := 7) flRX6_30 rfl rfl dX6_lineUpFellows_6 ?_
  refine z_icmp_ge dX6_lineUpFellows_9 (tgt := 90) (by decide) (fun h1 => ?_) (fun h1 => ?_)
  · skip
    refine z_iload_n dX6_lineUpFellows_90 rfl rfl ?_
    exact z_ireti rfl dX6_lineUpFellows_91 (k1 h1)
  · skip
    refine z_aload_n dX6_lineUpFellows_12 rfl rfl ?_
    refine z_getfR (k := 1) flRX6_11 rfl rfl dX6_lineUpFellows_13 ?_
    refine z_iload_n dX6_lineUpFellows_16 rfl rfl ?_
    have s2 : (0 : Int) ≤ v2 ∧ v2 < (12 : Int) := k2 h1
    refine z_iald rfl s2.1 s2.2 dX6_lineUpFellows_17 ?_
    refine z_iconst dX6_lineUpFellows_18 (by unfold zIn; decide) ?_
    refine z_icmp_ne dX6_lineUpFellows_19 (tgt := 84) (by decide) (fun h2 => ?_) (fun h2 => ?_)
    · skip
      exact J84 h1 (Or.inl h2)
    · skip
      refine z_aload_n dX6_lineUpFellows_22 rfl rfl ?_
      refine z_getfR (k := 2) flRX6_15 rfl rfl dX6_lineUpFellows_23 ?_
      refine z_iload_n dX6_lineUpFellows_26 rfl rfl ?_
      refine z_iald rfl s2.1 s2.2 dX6_lineUpFellows_27 ?_
      refine z_iconst dX6_lineUpFellows_28 (by unfold zIn; decide) ?_
      refine z_icmp_eq dX6_lineUpFellows_29 (tgt := 84) (by decide) (fun h3 => ?_) (fun h3 => ?_)
      · skip
        exact J84 h1 (Or.inr ⟨h2, h3⟩)
      · skip
        refine z_iload_n dX6_lineUpFellows_32 rfl rfl ?_
        have s3 : -2147483648 ≤ v1 + 1 ∧ v1 + 1 < (2147483648 : Int) := k3 h1 h2 h3
        refine z_iincN (ls' := [zr 52, zi (v1 + 1), zi v2, zu]) dX6_lineUpFellows_33 rfl (by decide) s3 rfl ?_
        refine z_istore_n (ls' := [zr 52, zi (v1 + 1), zi v2, zi v1]) dX6_lineUpFellows_36 rfl (by decide) rfl ?_
        exact k4 h1 h2 h3
set_option maxRecDepth 20000 in
set_option maxHeartbeats 1000000 in
theorem TX6_lineUpFellows_37 {G : zG} {σ : zS} {Q : Int → zS → Prop} {v1 v2 v3 : Int}  (k1 : (0 < v3) → -2147483648 ≤ v3 - 1 ∧ v3 - 1 < (2147483648 : Int)) (k2 : (0 < v3) → (0 : Int) ≤ v3 - 1 ∧ v3 - 1 < (12 : Int)) (k3 : (0 < v3) → (0 : Int) ≤ v2 ∧ v2 < (12 : Int)) (k4 : (0 < v3) → (0 : Int) ≤ (σ 58 (v3 - 1)) ∧ (σ 58 (v3 - 1)) < (12 : Int)) (k5 : (0 < v3) → ((σ 55 v2 = σ 55 (σ 58 (v3 - 1)) ∧ σ 54 v2 < σ 54 (σ 58 (v3 - 1))) ∨ (σ 55 v2 ≠ σ 55 (σ 58 (v3 - 1)) ∧ σ 55 v2 < σ 55 (σ 58 (v3 - 1)))) → (0 : Int) ≤ v3 ∧ v3 < (12 : Int)) (k6 : (0 < v3) → ((σ 55 v2 = σ 55 (σ 58 (v3 - 1)) ∧ σ 54 v2 < σ 54 (σ 58 (v3 - 1))) ∨ (σ 55 v2 ≠ σ 55 (σ 58 (v3 - 1)) ∧ σ 55 v2 < σ 55 (σ 58 (v3 - 1)))) → -2147483648 ≤ v3 + (-1) ∧ v3 + (-1) < (2147483648 : Int)) (k7 : (0 < v3) → ((σ 55 v2 = σ 55 (σ 58 (v3 - 1)) ∧ σ 54 v2 < σ 54 (σ 58 (v3 - 1))) ∨ (σ 55 v2 ≠ σ 55 (σ 58 (v3 - 1)) ∧ σ 55 v2 < σ 55 (σ 58 (v3 - 1)))) → zR G MX6_lineUpFellows 37 [zr 52, zi v1, zi v2, zi (v3 + (-1))] [] (zup σ 58 v3 (σ 58 (v3 - 1))) Q) (k8 : (v3 ≤ 0 ∨ (0 < v3 ∧ (¬ ((σ 55 v2 = σ 55 (σ 58 (v3 - 1)) ∧ σ 54 v2 < σ 54 (σ 58 (v3 - 1))) ∨ (σ 55 v2 ≠ σ 55 (σ 58 (v3 - 1)) ∧ σ 55 v2 < σ 55 (σ 58 (v3 - 1))))))) → (0 : Int) ≤ v3 ∧ v3 < (12 : Int)) (k9 : (v3 ≤ 0 ∨ (0 < v3 ∧ (¬ ((σ 55 v2 = σ 55 (σ 58 (v3 - 1)) ∧ σ 54 v2 < σ 54 (σ 58 (v3 - 1))) ∨ (σ 55 v2 ≠ σ 55 (σ 58 (v3 - 1)) ∧ σ 55 v2 < σ 55 (σ 58 (v3 - 1))))))) → -2147483648 ≤ v2 + 1 ∧ v2 + 1 < (2147483648 : Int)) (k10 : (v3 ≤ 0 ∨ (0 < v3 ∧ (¬ ((σ 55 v2 = σ 55 (σ 58 (v3 - 1)) ∧ σ 54 v2 < σ 54 (σ 58 (v3 - 1))) ∨ (σ 55 v2 ≠ σ 55 (σ 58 (v3 - 1)) ∧ σ 55 v2 < σ 55 (σ 58 (v3 - 1))))))) → zR G MX6_lineUpFellows 4 [zr 52, zi v1, zi (v2 + 1), zu] [] (zup σ 58 v3 v2) Q) : zR G MX6_lineUpFellows 37 [zr 52, zi v1, zi v2, zi v3] [] σ Q := by
  have J84 : (v3 ≤ 0 ∨ (0 < v3 ∧ (¬ ((σ 55 v2 = σ 55 (σ 58 (v3 - 1)) ∧ σ 54 v2 < σ 54 (σ 58 (v3 - 1))) ∨ (σ 55 v2 ≠ σ 55 (σ 58 (v3 - 1)) ∧ σ 55 v2 < σ 55 (σ 58 (v3 - 1))))))) → zR G MX6_lineUpFellows 84 [zr 52, zi v1, zi v2, zi v3] [] (zup σ 58 v3 v2) Q := by
    intro h3
    have s9 : -2147483648 ≤ v2 + 1 ∧ v2 + 1 < (2147483648 : Int) := k9 h3
    refine z_iincN (ls' := [zr 52, zi v1, zi (v2 + 1), zi v3]) dX6_lineUpFellows_84 rfl (by decide) s9 rfl ?_
    refine z_goto dX6_lineUpFellows_87 (tgt := 4) (by decide) ?_
    exact zR_fg [false, false, false, true] (k10 h3)
  have J77 : (v3 ≤ 0 ∨ (0 < v3 ∧ (¬ ((σ 55 v2 = σ 55 (σ 58 (v3 - 1)) ∧ σ 54 v2 < σ 54 (σ 58 (v3 - 1))) ∨ (σ 55 v2 ≠ σ 55 (σ 58 (v3 - 1)) ∧ σ 55 v2 < σ 55 (σ 58 (v3 - 1))))))) → zR G MX6_lineUpFellows 77 [zr 52, zi v1, zi v2, zi v3] [] σ Q := by
    intro h3
    refine z_aload_n dX6_lineUpFellows_77 rfl rfl ?_
    refine z_getfR (k := 6) flRX6_27 rfl rfl dX6_lineUpFellows_78 ?_
    refine z_iload_n dX6_lineUpFellows_81 rfl rfl ?_
    refine z_iload_n dX6_lineUpFellows_82 rfl rfl ?_
    have s8 : (0 : Int) ≤ v3 ∧ v3 < (12 : Int) := k8 h3
    refine z_iast rfl s8.1 s8.2 dX6_lineUpFellows_83 ?_
    exact J84 h3
  refine z_iload_n dX6_lineUpFellows_37 rfl rfl ?_
  refine z_if_le dX6_lineUpFellows_38 (tgt := 77) (by decide) (fun h1 => ?_) (fun h1 => ?_)
  · skip
    exact J77 (Or.inl h1)
  · skip
    refine z_aload_n dX6_lineUpFellows_41 rfl rfl ?_
    refine z_iload_n dX6_lineUpFellows_42 rfl rfl ?_
    refine z_aload_n dX6_lineUpFellows_43 rfl rfl ?_
    refine z_getfR (k := 6) flRX6_27 rfl rfl dX6_lineUpFellows_44 ?_
    refine z_iload_n dX6_lineUpFellows_47 rfl rfl ?_
    refine z_iconst dX6_lineUpFellows_48 (by unfold zIn; decide) ?_
    have s1 : -2147483648 ≤ v3 - 1 ∧ v3 - 1 < (2147483648 : Int) := k1 h1
    refine z_isubN dX6_lineUpFellows_49 s1 ?_
    have s2 : (0 : Int) ≤ v3 - 1 ∧ v3 - 1 < (12 : Int) := k2 h1
    refine z_iald rfl s2.1 s2.2 dX6_lineUpFellows_50 ?_
    have s3 : (0 : Int) ≤ v2 ∧ v2 < (12 : Int) := k3 h1
    have s4 : (0 : Int) ≤ (σ 58 (v3 - 1)) ∧ (σ 58 (v3 - 1)) < (12 : Int) := k4 h1
    refine z_callv (as := [zi v2, zi (σ 58 (v3 - 1))]) (st := []) mkX6_isSenior lkRX6_62 rfl rfl rfl (by decide) (Nat.le_of_ble_eq_true rfl) rfl dX6_lineUpFellows_51 ?_
    refine SX6_isSenior s3 s4 ?_
    show zR G MX6_lineUpFellows 54 [zr 52, zi v1, zi v2, zi v3] [zi (if (σ 55 v2 = σ 55 (σ 58 (v3 - 1)) ∧ σ 54 v2 < σ 54 (σ 58 (v3 - 1))) ∨ (σ 55 v2 ≠ σ 55 (σ 58 (v3 - 1)) ∧ σ 55 v2 < σ 55 (σ 58 (v3 - 1))) then (1 : Int) else 0)] σ Q
    refine z_if_eq dX6_lineUpFellows_54 (tgt := 77) (by decide) (fun z => ?_) (fun z => ?_)
    · have h2 : ¬ ((σ 55 v2 = σ 55 (σ 58 (v3 - 1)) ∧ σ 54 v2 < σ 54 (σ 58 (v3 - 1))) ∨ (σ 55 v2 ≠ σ 55 (σ 58 (v3 - 1)) ∧ σ 55 v2 < σ 55 (σ 58 (v3 - 1)))) := zb0 z
      exact J77 (Or.inr ⟨h1, h2⟩)
    · have h2 : (σ 55 v2 = σ 55 (σ 58 (v3 - 1)) ∧ σ 54 v2 < σ 54 (σ 58 (v3 - 1))) ∨ (σ 55 v2 ≠ σ 55 (σ 58 (v3 - 1)) ∧ σ 55 v2 < σ 55 (σ 58 (v3 - 1))) := zb1 z
      refine z_aload_n dX6_lineUpFellows_57 rfl rfl ?_
      refine z_getfR (k := 6) flRX6_27 rfl rfl dX6_lineUpFellows_58 ?_
      refine z_iload_n dX6_lineUpFellows_61 rfl rfl ?_
      refine z_aload_n dX6_lineUpFellows_62 rfl rfl ?_
      refine z_getfR (k := 6) flRX6_27 rfl rfl dX6_lineUpFellows_63 ?_
      refine z_iload_n dX6_lineUpFellows_66 rfl rfl ?_
      refine z_iconst dX6_lineUpFellows_67 (by unfold zIn; decide) ?_
      refine z_isubN dX6_lineUpFellows_68 s1 ?_
      refine z_iald rfl s2.1 s2.2 dX6_lineUpFellows_69 ?_
      have s5 : (0 : Int) ≤ v3 ∧ v3 < (12 : Int) := k5 h1 h2
      refine z_iast rfl s5.1 s5.2 dX6_lineUpFellows_70 ?_
      have s6 : -2147483648 ≤ v3 + (-1) ∧ v3 + (-1) < (2147483648 : Int) := k6 h1 h2
      refine z_iincN (ls' := [zr 52, zi v1, zi v2, zi (v3 + (-1))]) dX6_lineUpFellows_71 rfl (by decide) s6 rfl ?_
      refine z_goto dX6_lineUpFellows_74 (tgt := 37) (by decide) ?_
      exact k7 h1 h2
set_option maxRecDepth 20000 in
set_option maxHeartbeats 1000000 in
theorem TX6_nextFor {G : zG} {σ : zS} {Q : Int → zS → Prop} {a1 a2 : Int}  (k1 : (0 : Int) ≤ a1 ∧ a1 < (12 : Int)) (k2 : (σ 53 a1 = 3) → (σ 54 a1 = (-1)) → zO G MX6_lineUpFellows [zr 52] σ (fun rr σ' => zR G MX6_nextFor 26 [zr 52, zi a1, zi a2, zu, zu, zu] [zi rr] σ' Q)) (k3 : (σ 53 a1 ≠ 3 ∨ (σ 53 a1 = 3 ∧ σ 54 a1 ≠ (-1))) → Q (-1) σ) : zO G MX6_nextFor [zr 52, zi a1, zi a2] σ Q := by
  refine zO_of (ls0 := [zr 52, zi a1, zi a2, zu, zu, zu]) (by decide) (Nat.le_of_ble_eq_true rfl) rfl ?_
  have J20 : (σ 53 a1 ≠ 3 ∨ (σ 53 a1 = 3 ∧ σ 54 a1 ≠ (-1))) → zR G MX6_nextFor 20 [zr 52, zi a1, zi a2, zu, zu, zu] [] σ Q := by
    intro h3
    refine z_iconst dX6_nextFor_20 (by unfold zIn; decide) ?_
    exact z_ireti rfl dX6_nextFor_21 (k3 h3)
  refine z_aload_n dX6_nextFor_0 rfl rfl ?_
  refine z_getfR (k := 1) flRX6_11 rfl rfl dX6_nextFor_1 ?_
  refine z_iload_n dX6_nextFor_4 rfl rfl ?_
  have s1 : (0 : Int) ≤ a1 ∧ a1 < (12 : Int) := k1
  refine z_iald rfl s1.1 s1.2 dX6_nextFor_5 ?_
  refine z_iconst dX6_nextFor_6 (by unfold zIn; decide) ?_
  refine z_icmp_ne dX6_nextFor_7 (tgt := 20) (by decide) (fun h1 => ?_) (fun h1 => ?_)
  · skip
    exact J20 (Or.inl h1)
  · skip
    refine z_aload_n dX6_nextFor_10 rfl rfl ?_
    refine z_getfR (k := 2) flRX6_15 rfl rfl dX6_nextFor_11 ?_
    refine z_iload_n dX6_nextFor_14 rfl rfl ?_
    refine z_iald rfl s1.1 s1.2 dX6_nextFor_15 ?_
    refine z_iconst dX6_nextFor_16 (by unfold zIn; decide) ?_
    refine z_icmp_eq dX6_nextFor_17 (tgt := 22) (by decide) (fun h2 => ?_) (fun h2 => ?_)
    · skip
      refine z_aload_n dX6_nextFor_22 rfl rfl ?_
      refine z_callv (as := []) (st := []) mkX6_lineUpFellows lkRX6_65 rfl rfl rfl (by decide) (Nat.le_of_ble_eq_true rfl) rfl dX6_nextFor_23 (k2 h1 h2)
    · skip
      exact J20 (Or.inr ⟨h1, h2⟩)
set_option maxRecDepth 20000 in
set_option maxHeartbeats 1000000 in
theorem TX6_nextFor_26 {G : zG} {σ : zS} {Q : Int → zS → Prop} {v1 v2 r : Int}  (k1 : zR G MX6_nextFor 30 [zr 52, zi v1, zi v2, zi r, zi 0, zu] [] σ Q) : zR G MX6_nextFor 26 [zr 52, zi v1, zi v2, zu, zu, zu] [zi r] σ Q := by
  refine z_istore_n (ls' := [zr 52, zi v1, zi v2, zi r, zu, zu]) dX6_nextFor_26 rfl (by decide) rfl ?_
  refine z_iconst dX6_nextFor_27 (by unfold zIn; decide) ?_
  refine z_istore (ls' := [zr 52, zi v1, zi v2, zi r, zi 0, zu]) dX6_nextFor_28 (by decide) rfl ?_
  exact k1
set_option maxRecDepth 20000 in
set_option maxHeartbeats 1000000 in
theorem TX6_nextFor_30 {G : zG} {σ : zS} {Q : Int → zS → Prop} {v1 v2 v3 v4 : Int}  (k1 : (v3 ≤ v4) → Q (-1) σ) (k2 : (v4 < v3) → (0 : Int) ≤ v4 ∧ v4 < (12 : Int)) (k3 : (v4 < v3) → (0 : Int) ≤ σ 58 v4 ∧ σ 58 v4 < (12 : Int)) (k4 : (v4 < v3) → (0 : Int) ≤ v1 ∧ v1 < (12 : Int)) (k5 : (v4 < v3) → (zand (zushr (σ 57 v1) (σ 54 (σ 58 v4))) 1 = 0) → zO G MX6_canTake [zr 52, zi (σ 54 (σ 58 v4)), zi 3, zi v2] σ (fun rr σ' => zR G MX6_nextFor 72 [zr 52, zi v1, zi v2, zi v3, zi v4, zi (σ 54 (σ 58 v4))] [zi rr] σ' Q)) (k6 : (v4 < v3) → (zand (zushr (σ 57 v1) (σ 54 (σ 58 v4))) 1 ≠ 0) → -2147483648 ≤ v4 + 1 ∧ v4 + 1 < (2147483648 : Int)) (k7 : (v4 < v3) → (zand (zushr (σ 57 v1) (σ 54 (σ 58 v4))) 1 ≠ 0) → zR G MX6_nextFor 30 [zr 52, zi v1, zi v2, zi v3, zi (v4 + 1), zu] [] σ Q) : zR G MX6_nextFor 30 [zr 52, zi v1, zi v2, zi v3, zi v4, zu] [] σ Q := by
  have J78 : (v4 < v3) → (zand (zushr (σ 57 v1) (σ 54 (σ 58 v4))) 1 ≠ 0) → zR G MX6_nextFor 78 [zr 52, zi v1, zi v2, zi v3, zi v4, zi (σ 54 (σ 58 v4))] [] σ Q := by
    intro h1 h2
    have s6 : -2147483648 ≤ v4 + 1 ∧ v4 + 1 < (2147483648 : Int) := k6 h1 h2
    refine z_iincN (ls' := [zr 52, zi v1, zi v2, zi v3, zi (v4 + 1), zi (σ 54 (σ 58 v4))]) dX6_nextFor_78 rfl (by decide) s6 rfl ?_
    refine z_goto dX6_nextFor_81 (tgt := 30) (by decide) ?_
    exact zR_fg [false, false, false, false, false, true] (k7 h1 h2)
  refine z_iload dX6_nextFor_30 rfl ?_
  refine z_iload_n dX6_nextFor_32 rfl rfl ?_
  refine z_icmp_ge dX6_nextFor_33 (tgt := 84) (by decide) (fun h1 => ?_) (fun h1 => ?_)
  · skip
    refine z_iconst dX6_nextFor_84 (by unfold zIn; decide) ?_
    exact z_ireti rfl dX6_nextFor_85 (k1 h1)
  · skip
    refine z_aload_n dX6_nextFor_36 rfl rfl ?_
    refine z_getfR (k := 2) flRX6_15 rfl rfl dX6_nextFor_37 ?_
    refine z_aload_n dX6_nextFor_40 rfl rfl ?_
    refine z_getfR (k := 6) flRX6_27 rfl rfl dX6_nextFor_41 ?_
    refine z_iload dX6_nextFor_44 rfl ?_
    have s2 : (0 : Int) ≤ v4 ∧ v4 < (12 : Int) := k2 h1
    refine z_iald rfl s2.1 s2.2 dX6_nextFor_46 ?_
    have s3 : (0 : Int) ≤ σ 58 v4 ∧ σ 58 v4 < (12 : Int) := k3 h1
    refine z_iald rfl s3.1 s3.2 dX6_nextFor_47 ?_
    refine z_istore (ls' := [zr 52, zi v1, zi v2, zi v3, zi v4, zi (σ 54 (σ 58 v4))]) dX6_nextFor_48 (by decide) rfl ?_
    refine z_aload_n dX6_nextFor_50 rfl rfl ?_
    refine z_getfR (k := 5) flRX6_24 rfl rfl dX6_nextFor_51 ?_
    refine z_iload_n dX6_nextFor_54 rfl rfl ?_
    have s4 : (0 : Int) ≤ v1 ∧ v1 < (12 : Int) := k4 h1
    refine z_iald rfl s4.1 s4.2 dX6_nextFor_55 ?_
    refine z_iload dX6_nextFor_56 rfl ?_
    refine z_iushr dX6_nextFor_58 ?_
    refine z_iconst dX6_nextFor_59 (by unfold zIn; decide) ?_
    refine z_iand dX6_nextFor_60 ?_
    refine z_if_ne dX6_nextFor_61 (tgt := 78) (by decide) (fun h2 => ?_) (fun h2 => ?_)
    · skip
      exact J78 h1 h2
    · skip
      refine z_aload_n dX6_nextFor_64 rfl rfl ?_
      refine z_iload dX6_nextFor_65 rfl ?_
      refine z_iconst dX6_nextFor_67 (by unfold zIn; decide) ?_
      refine z_iload_n dX6_nextFor_68 rfl rfl ?_
      refine z_callv (as := [zi (σ 54 (σ 58 v4)), zi 3, zi v2]) (st := []) mkX6_canTake lkRX6_69 rfl rfl rfl (by decide) (Nat.le_of_ble_eq_true rfl) rfl dX6_nextFor_69 (k5 h1 h2)
set_option maxRecDepth 20000 in
set_option maxHeartbeats 1000000 in
theorem TX6_nextFor_72 {G : zG} {σ : zS} {Q : Int → zS → Prop} {v1 v2 v3 v4 v5 r : Int}  (k1 : (r ≠ 0) → Q v5 σ) (k2 : (r = 0) → -2147483648 ≤ v4 + 1 ∧ v4 + 1 < (2147483648 : Int)) (k3 : (r = 0) → zR G MX6_nextFor 30 [zr 52, zi v1, zi v2, zi v3, zi (v4 + 1), zu] [] σ Q) : zR G MX6_nextFor 72 [zr 52, zi v1, zi v2, zi v3, zi v4, zi v5] [zi r] σ Q := by
  have J78 : (r = 0) → zR G MX6_nextFor 78 [zr 52, zi v1, zi v2, zi v3, zi v4, zi v5] [] σ Q := by
    intro h1
    have s2 : -2147483648 ≤ v4 + 1 ∧ v4 + 1 < (2147483648 : Int) := k2 h1
    refine z_iincN (ls' := [zr 52, zi v1, zi v2, zi v3, zi (v4 + 1), zi v5]) dX6_nextFor_78 rfl (by decide) s2 rfl ?_
    refine z_goto dX6_nextFor_81 (tgt := 30) (by decide) ?_
    exact zR_fg [false, false, false, false, false, true] (k3 h1)
  refine z_if_eq dX6_nextFor_72 (tgt := 78) (by decide) (fun h1 => ?_) (fun h1 => ?_)
  · skip
    exact J78 h1
  · skip
    refine z_iload dX6_nextFor_75 rfl ?_
    exact z_ireti rfl dX6_nextFor_77 (k1 h1)
set_option maxRecDepth 20000 in
set_option maxHeartbeats 1000000 in
theorem TX11_asked {G : zG} {σ : zS} {Q : Int → zS → Prop} {a1 : Int}  (k1 : (¬ ((0 ≤ a1 ∧ a1 < σ 52 7))) → Q (-1) σ) (k2 : ((0 ≤ a1 ∧ a1 < σ 52 7)) → zO G MX6_nextFor [zr 52, zi a1, zi (σ 0 13)] σ (fun rr σ' => zR G MX11_asked 23 [zr 0, zi a1] [zi rr] σ' Q)) : zO G MX11_asked [zr 0, zi a1] σ Q := by
  refine zO_of (ls0 := [zr 0, zi a1]) (by decide) (Nat.le_of_ble_eq_true rfl) rfl ?_
  refine z_aload_n dX11_asked_0 rfl rfl ?_
  refine z_getfR (k := 4) flRX11_43 rfl rfl dX11_asked_1 ?_
  refine z_iload_n dX11_asked_4 rfl rfl ?_
  refine z_callv (as := [zi a1]) (st := []) mkX6_has lkRX11_284 rfl rfl rfl (by decide) (Nat.le_of_ble_eq_true rfl) rfl dX11_asked_5 ?_
  refine SX6_has ?_
  show zR G MX11_asked 8 [zr 0, zi a1] [zi (if (0 ≤ a1 ∧ a1 < σ 52 7) then (1 : Int) else 0)] σ Q
  refine z_if_eq dX11_asked_8 (tgt := 26) (by decide) (fun z => ?_) (fun z => ?_)
  · have h1 : ¬ ((0 ≤ a1 ∧ a1 < σ 52 7)) := zb0 z
    refine z_iconst dX11_asked_26 (by unfold zIn; decide) ?_
    exact z_ireti rfl dX11_asked_27 (k1 h1)
  · have h1 : (0 ≤ a1 ∧ a1 < σ 52 7) := zb1 z
    refine z_aload_n dX11_asked_11 rfl rfl ?_
    refine z_getfR (k := 4) flRX11_43 rfl rfl dX11_asked_12 ?_
    refine z_iload_n dX11_asked_15 rfl rfl ?_
    refine z_aload_n dX11_asked_16 rfl rfl ?_
    refine z_getfI (k := 13) flRX11_106 rfl rfl dX11_asked_17 ?_
    refine z_callv (as := [zi a1, zi (σ 0 13)]) (st := []) mkX6_nextFor lkRX11_329 rfl rfl rfl (by decide) (Nat.le_of_ble_eq_true rfl) rfl dX11_asked_20 (k2 h1)
set_option maxRecDepth 20000 in
set_option maxHeartbeats 1000000 in
theorem TX11_asked_23 {G : zG} {σ : zS} {Q : Int → zS → Prop} {v1 r : Int}  (k1 : Q r σ) : zR G MX11_asked 23 [zr 0, zi v1] [zi r] σ Q := by
  refine z_goto dX11_asked_23 (tgt := 27) (by decide) ?_
  exact z_ireti rfl dX11_asked_27 (k1)
set_option maxRecDepth 20000 in
set_option maxHeartbeats 1000000 in
theorem TX11_answer {G : zG} {σ : zS} {Q : Int → zS → Prop} {a1 a2 : Int}  (k1 : ((0 ≤ a1 ∧ a1 < σ 52 7)) → zO G MX6_nextFor [zr 52, zi a1, zi (σ 0 13)] σ (fun rr σ' => zR G MX11_answer 29 [zr 0, zi a1, zi a2, zu] [zi rr] σ' Q)) (k2 : (¬ ((0 ≤ a1 ∧ a1 < σ 52 7))) → -2147483648 ≤ -(-1) ∧ -(-1) < (2147483648 : Int)) (k3 : (¬ ((0 ≤ a1 ∧ a1 < σ 52 7))) → (0 : Int) ≤ -(-1) ∧ -(-1) < (8 : Int)) (k4 : (¬ ((0 ≤ a1 ∧ a1 < σ 52 7))) → Q (-1) (zup σ 97 (-(-1)) (zW ((σ 97 (-(-1))) + 1)))) : zO G MX11_answer [zr 0, zi a1, zi a2] σ Q := by
  refine zO_of (ls0 := [zr 0, zi a1, zi a2, zu]) (by decide) (Nat.le_of_ble_eq_true rfl) rfl ?_
  refine z_aload_n dX11_answer_0 rfl rfl ?_
  refine z_getfR (k := 4) flRX11_43 rfl rfl dX11_answer_1 ?_
  refine z_iload_n dX11_answer_4 rfl rfl ?_
  refine z_callv (as := [zi a1]) (st := []) mkX6_has lkRX11_284 rfl rfl rfl (by decide) (Nat.le_of_ble_eq_true rfl) rfl dX11_answer_5 ?_
  refine SX6_has ?_
  show zR G MX11_answer 8 [zr 0, zi a1, zi a2, zu] [zi (if (0 ≤ a1 ∧ a1 < σ 52 7) then (1 : Int) else 0)] σ Q
  refine z_if_ne dX11_answer_8 (tgt := 17) (by decide) (fun z => ?_) (fun z => ?_)
  · have h1 : (0 ≤ a1 ∧ a1 < σ 52 7) := zb1 z
    refine z_aload_n dX11_answer_17 rfl rfl ?_
    refine z_getfR (k := 4) flRX11_43 rfl rfl dX11_answer_18 ?_
    refine z_iload_n dX11_answer_21 rfl rfl ?_
    refine z_aload_n dX11_answer_22 rfl rfl ?_
    refine z_getfI (k := 13) flRX11_106 rfl rfl dX11_answer_23 ?_
    refine z_callv (as := [zi a1, zi (σ 0 13)]) (st := []) mkX6_nextFor lkRX11_329 rfl rfl rfl (by decide) (Nat.le_of_ble_eq_true rfl) rfl dX11_answer_26 (k1 h1)
  · have h1 : ¬ ((0 ≤ a1 ∧ a1 < σ 52 7)) := zb0 z
    refine z_aload_n dX11_answer_11 rfl rfl ?_
    refine z_iconst dX11_answer_12 (by unfold zIn; decide) ?_
    have s2 : -2147483648 ≤ -(-1) ∧ -(-1) < (2147483648 : Int) := k2 h1
    have s3 : (0 : Int) ≤ -(-1) ∧ -(-1) < (8 : Int) := k3 h1
    refine z_callv (as := [zi (-1)]) (st := []) mkX11_refuse lkRX11_132 rfl rfl rfl (by decide) (Nat.le_of_ble_eq_true rfl) rfl dX11_answer_13 ?_
    refine SX11_refuse s2 s3 ?_
    show zR G MX11_answer 16 [zr 0, zi a1, zi a2, zu] [zi (-1)] (zup σ 97 (-(-1)) (zW ((σ 97 (-(-1))) + 1))) Q
    exact z_ireti rfl dX11_answer_16 (k4 h1)
set_option maxRecDepth 20000 in
set_option maxHeartbeats 1000000 in
theorem TX11_answer_29 {G : zG} {σ : zS} {Q : Int → zS → Prop} {v1 v2 r : Int}  (k1 : (r ≠ (-1)) → (v2 = 0) → (0 : Int) ≤ v1 ∧ v1 < (12 : Int)) (k2 : (r ≠ (-1)) → (v2 ≠ 0) → (0 : Int) ≤ v1 ∧ v1 < (12 : Int)) (k3 : (r = (-1)) → -2147483648 ≤ -(-6) ∧ -(-6) < (2147483648 : Int)) (k4 : (r = (-1)) → (0 : Int) ≤ -(-6) ∧ -(-6) < (8 : Int)) (k5 : (r = (-1)) → Q (-6) (zup σ 97 (-(-6)) (zW ((σ 97 (-(-6))) + 1)))) (k6 : (r ≠ (-1)) → (v2 = 0) → Q r (zup σ 57 v1 (zor (σ 57 v1) (zshl 1 r)))) (k7 : (r ≠ (-1)) → (v2 ≠ 0) → Q r (zup (zup (zup (zup σ 54 v1 r) 55 v1 (σ 0 13)) 56 v1 (-1)) 57 v1 0)) : zR G MX11_answer 29 [zr 0, zi v1, zi v2, zu] [zi r] σ Q := by
  have J77_1 : (r ≠ (-1)) → (v2 ≠ 0) → zR G MX11_answer 77 [zr 0, zi v1, zi v2, zi r] [] (zup (zup (zup (zup σ 54 v1 r) 55 v1 (σ 0 13)) 56 v1 (-1)) 57 v1 0) Q := by
    intro h1 h2
    refine z_iload_n dX11_answer_77 rfl rfl ?_
    exact z_ireti rfl dX11_answer_78 (k7 h1 h2)
  have J77 : (r ≠ (-1)) → (v2 = 0) → zR G MX11_answer 77 [zr 0, zi v1, zi v2, zi r] [] (zup σ 57 v1 (zor (σ 57 v1) (zshl 1 r))) Q := by
    intro h1 h2
    refine z_iload_n dX11_answer_77 rfl rfl ?_
    exact z_ireti rfl dX11_answer_78 (k6 h1 h2)
  refine z_istore_n (ls' := [zr 0, zi v1, zi v2, zi r]) dX11_answer_29 rfl (by decide) rfl ?_
  refine z_iload_n dX11_answer_30 rfl rfl ?_
  refine z_iconst dX11_answer_31 (by unfold zIn; decide) ?_
  refine z_icmp_ne dX11_answer_32 (tgt := 42) (by decide) (fun h1 => ?_) (fun h1 => ?_)
  · skip
    refine z_iload_n dX11_answer_42 rfl rfl ?_
    refine z_if_eq dX11_answer_43 (tgt := 62) (by decide) (fun h2 => ?_) (fun h2 => ?_)
    · skip
      refine z_aload_n dX11_answer_62 rfl rfl ?_
      refine z_getfR (k := 4) flRX11_43 rfl rfl dX11_answer_63 ?_
      refine z_getfR (k := 5) flRX11_332 rfl rfl dX11_answer_66 ?_
      refine z_iload_n dX11_answer_69 rfl rfl ?_
      refine z_dup2 dX11_answer_70 rfl rfl ?_
      have s1 : (0 : Int) ≤ v1 ∧ v1 < (12 : Int) := k1 h1 h2
      refine z_iald rfl s1.1 s1.2 dX11_answer_71 ?_
      refine z_iconst dX11_answer_72 (by unfold zIn; decide) ?_
      refine z_iload_n dX11_answer_73 rfl rfl ?_
      refine z_ishl dX11_answer_74 ?_
      refine z_ior dX11_answer_75 ?_
      refine z_iast rfl s1.1 s1.2 dX11_answer_76 ?_
      exact J77 h1 h2
    · skip
      refine z_aload_n dX11_answer_46 rfl rfl ?_
      refine z_getfR (k := 4) flRX11_43 rfl rfl dX11_answer_47 ?_
      refine z_iload_n dX11_answer_50 rfl rfl ?_
      refine z_iload_n dX11_answer_51 rfl rfl ?_
      refine z_aload_n dX11_answer_52 rfl rfl ?_
      refine z_getfI (k := 13) flRX11_106 rfl rfl dX11_answer_53 ?_
      have s2 : (0 : Int) ≤ v1 ∧ v1 < (12 : Int) := k2 h1 h2
      refine z_callv (as := [zi r, zi v1, zi (σ 0 13)]) (st := []) mkX6_come lkRX11_294 rfl rfl rfl (by decide) (Nat.le_of_ble_eq_true rfl) rfl dX11_answer_56 ?_
      refine SX6_come s2 ?_
      show zR G MX11_answer 59 [zr 0, zi v1, zi v2, zi r] [] (zup (zup (zup (zup σ 54 v1 r) 55 v1 (σ 0 13)) 56 v1 (-1)) 57 v1 0) Q
      refine z_goto dX11_answer_59 (tgt := 77) (by decide) ?_
      exact J77_1 h1 h2
  · skip
    refine z_aload_n dX11_answer_35 rfl rfl ?_
    refine z_bipush (x := (-6)) dX11_answer_36 (by decide +kernel) (by unfold zIn; decide) ?_
    have s3 : -2147483648 ≤ -(-6) ∧ -(-6) < (2147483648 : Int) := k3 h1
    have s4 : (0 : Int) ≤ -(-6) ∧ -(-6) < (8 : Int) := k4 h1
    refine z_callv (as := [zi (-6)]) (st := []) mkX11_refuse lkRX11_132 rfl rfl rfl (by decide) (Nat.le_of_ble_eq_true rfl) rfl dX11_answer_38 ?_
    refine SX11_refuse s3 s4 ?_
    show zR G MX11_answer 41 [zr 0, zi v1, zi v2, zi r] [zi (-6)] (zup σ 97 (-(-6)) (zW ((σ 97 (-(-6))) + 1))) Q
    exact z_ireti rfl dX11_answer_41 (k5 h1)
set_option maxRecDepth 20000 in
set_option maxHeartbeats 1000000 in
theorem TX11_lease {G : zG} {σ : zS} {Q : Int → zS → Prop} {a1 a2 a3 a4 a5 a6 : Int}  (k1 : ((((1 ≤ a1 ∧ a1 ≤ 9999)) ∧ ((0 ≤ a2 ∧ a2 ≤ 999)) ∧ ((0 ≤ a3 ∧ a3 ≤ 999)) ∧ ((0 ≤ a4 ∧ a4 ≤ 51)))) → ((1 ≤ a5 ∧ a5 ≤ 40)) → ((0 ≤ a6 ∧ a6 ≤ 200)) → (σ 68 11 ≠ 8) → (0 : Int) ≤ σ 68 11 ∧ σ 68 11 < (8 : Int)) (k2 : ((((1 ≤ a1 ∧ a1 ≤ 9999)) ∧ ((0 ≤ a2 ∧ a2 ≤ 999)) ∧ ((0 ≤ a3 ∧ a3 ≤ 999)) ∧ ((0 ≤ a4 ∧ a4 ≤ 51)))) → ((1 ≤ a5 ∧ a5 ≤ 40)) → ((0 ≤ a6 ∧ a6 ≤ 200)) → (σ 68 11 ≠ 8) → (0 : Int) ≤ (zup (zup σ 74 (σ 68 11) a6) 73 (σ 68 11) a5) 68 11 ∧ (zup (zup σ 74 (σ 68 11) a6) 73 (σ 68 11) a5) 68 11 < (8 : Int)) (k3 : ((((1 ≤ a1 ∧ a1 ≤ 9999)) ∧ ((0 ≤ a2 ∧ a2 ≤ 999)) ∧ ((0 ≤ a3 ∧ a3 ≤ 999)) ∧ ((0 ≤ a4 ∧ a4 ≤ 51)))) → ((1 ≤ a5 ∧ a5 ≤ 40)) → ((0 ≤ a6 ∧ a6 ≤ 200)) → (σ 68 11 ≠ 8) → -2147483648 ≤ (zup (zup σ 74 (σ 68 11) a6) 73 (σ 68 11) a5) 68 11 + 1 ∧ (zup (zup σ 74 (σ 68 11) a6) 73 (σ 68 11) a5) 68 11 + 1 < (2147483648 : Int)) (k4 : ((((1 ≤ a1 ∧ a1 ≤ 9999)) ∧ ((0 ≤ a2 ∧ a2 ≤ 999)) ∧ ((0 ≤ a3 ∧ a3 ≤ 999)) ∧ ((0 ≤ a4 ∧ a4 ≤ 51)))) → ((1 ≤ a5 ∧ a5 ≤ 40)) → ((0 ≤ a6 ∧ a6 ≤ 200)) → (σ 68 11 ≠ 8) → Q ((zup (zup σ 74 (σ 68 11) a6) 73 (σ 68 11) a5) 68 11) (zup (zup (zup (zup (zup (zup (zup σ 74 (σ 68 11) a6) 73 (σ 68 11) a5) 69 ((zup (zup σ 74 (σ 68 11) a6) 73 (σ 68 11) a5) 68 11) a1) 70 ((zup (zup σ 74 (σ 68 11) a6) 73 (σ 68 11) a5) 68 11) a2) 71 ((zup (zup σ 74 (σ 68 11) a6) 73 (σ 68 11) a5) 68 11) a3) 72 ((zup (zup σ 74 (σ 68 11) a6) 73 (σ 68 11) a5) 68 11) a4) 68 11 ((zup (zup σ 74 (σ 68 11) a6) 73 (σ 68 11) a5) 68 11 + 1))) (k5 : ((((1 ≤ a1 ∧ a1 ≤ 9999)) ∧ ((0 ≤ a2 ∧ a2 ≤ 999)) ∧ ((0 ≤ a3 ∧ a3 ≤ 999)) ∧ ((0 ≤ a4 ∧ a4 ≤ 51)))) → ((1 ≤ a5 ∧ a5 ≤ 40)) → ((0 ≤ a6 ∧ a6 ≤ 200)) → (σ 68 11 = 8) → -2147483648 ≤ -(-7) ∧ -(-7) < (2147483648 : Int)) (k6 : ((((1 ≤ a1 ∧ a1 ≤ 9999)) ∧ ((0 ≤ a2 ∧ a2 ≤ 999)) ∧ ((0 ≤ a3 ∧ a3 ≤ 999)) ∧ ((0 ≤ a4 ∧ a4 ≤ 51)))) → ((1 ≤ a5 ∧ a5 ≤ 40)) → ((0 ≤ a6 ∧ a6 ≤ 200)) → (σ 68 11 = 8) → (0 : Int) ≤ -(-7) ∧ -(-7) < (8 : Int)) (k7 : ((((1 ≤ a1 ∧ a1 ≤ 9999)) ∧ ((0 ≤ a2 ∧ a2 ≤ 999)) ∧ ((0 ≤ a3 ∧ a3 ≤ 999)) ∧ ((0 ≤ a4 ∧ a4 ≤ 51)))) → ((1 ≤ a5 ∧ a5 ≤ 40)) → ((0 ≤ a6 ∧ a6 ≤ 200)) → (σ 68 11 = 8) → Q (-7) (zup σ 97 (-(-7)) (zW ((σ 97 (-(-7))) + 1)))) (k8 : ((¬ ((((1 ≤ a1 ∧ a1 ≤ 9999)) ∧ ((0 ≤ a2 ∧ a2 ≤ 999)) ∧ ((0 ≤ a3 ∧ a3 ≤ 999)) ∧ ((0 ≤ a4 ∧ a4 ≤ 51))))) ∨ (((((1 ≤ a1 ∧ a1 ≤ 9999)) ∧ ((0 ≤ a2 ∧ a2 ≤ 999)) ∧ ((0 ≤ a3 ∧ a3 ≤ 999)) ∧ ((0 ≤ a4 ∧ a4 ≤ 51)))) ∧ (¬ ((1 ≤ a5 ∧ a5 ≤ 40)))) ∨ (((((1 ≤ a1 ∧ a1 ≤ 9999)) ∧ ((0 ≤ a2 ∧ a2 ≤ 999)) ∧ ((0 ≤ a3 ∧ a3 ≤ 999)) ∧ ((0 ≤ a4 ∧ a4 ≤ 51)))) ∧ ((1 ≤ a5 ∧ a5 ≤ 40)) ∧ (¬ ((0 ≤ a6 ∧ a6 ≤ 200))))) → -2147483648 ≤ -(-6) ∧ -(-6) < (2147483648 : Int)) (k9 : ((¬ ((((1 ≤ a1 ∧ a1 ≤ 9999)) ∧ ((0 ≤ a2 ∧ a2 ≤ 999)) ∧ ((0 ≤ a3 ∧ a3 ≤ 999)) ∧ ((0 ≤ a4 ∧ a4 ≤ 51))))) ∨ (((((1 ≤ a1 ∧ a1 ≤ 9999)) ∧ ((0 ≤ a2 ∧ a2 ≤ 999)) ∧ ((0 ≤ a3 ∧ a3 ≤ 999)) ∧ ((0 ≤ a4 ∧ a4 ≤ 51)))) ∧ (¬ ((1 ≤ a5 ∧ a5 ≤ 40)))) ∨ (((((1 ≤ a1 ∧ a1 ≤ 9999)) ∧ ((0 ≤ a2 ∧ a2 ≤ 999)) ∧ ((0 ≤ a3 ∧ a3 ≤ 999)) ∧ ((0 ≤ a4 ∧ a4 ≤ 51)))) ∧ ((1 ≤ a5 ∧ a5 ≤ 40)) ∧ (¬ ((0 ≤ a6 ∧ a6 ≤ 200))))) → (0 : Int) ≤ -(-6) ∧ -(-6) < (8 : Int)) (k10 : ((¬ ((((1 ≤ a1 ∧ a1 ≤ 9999)) ∧ ((0 ≤ a2 ∧ a2 ≤ 999)) ∧ ((0 ≤ a3 ∧ a3 ≤ 999)) ∧ ((0 ≤ a4 ∧ a4 ≤ 51))))) ∨ (((((1 ≤ a1 ∧ a1 ≤ 9999)) ∧ ((0 ≤ a2 ∧ a2 ≤ 999)) ∧ ((0 ≤ a3 ∧ a3 ≤ 999)) ∧ ((0 ≤ a4 ∧ a4 ≤ 51)))) ∧ (¬ ((1 ≤ a5 ∧ a5 ≤ 40)))) ∨ (((((1 ≤ a1 ∧ a1 ≤ 9999)) ∧ ((0 ≤ a2 ∧ a2 ≤ 999)) ∧ ((0 ≤ a3 ∧ a3 ≤ 999)) ∧ ((0 ≤ a4 ∧ a4 ≤ 51)))) ∧ ((1 ≤ a5 ∧ a5 ≤ 40)) ∧ (¬ ((0 ≤ a6 ∧ a6 ≤ 200))))) → Q (-6) (zup σ 97 (-(-6)) (zW ((σ 97 (-(-6))) + 1)))) : zO G MX11_lease [zr 0, zi a1, zi a2, zi a3, zi a4, zi a5, zi a6] σ Q := by
  refine zO_of (ls0 := [zr 0, zi a1, zi a2, zi a3, zi a4, zi a5, zi a6]) (by decide) (Nat.le_of_ble_eq_true rfl) rfl ?_
  have J34 : ((¬ ((((1 ≤ a1 ∧ a1 ≤ 9999)) ∧ ((0 ≤ a2 ∧ a2 ≤ 999)) ∧ ((0 ≤ a3 ∧ a3 ≤ 999)) ∧ ((0 ≤ a4 ∧ a4 ≤ 51))))) ∨ (((((1 ≤ a1 ∧ a1 ≤ 9999)) ∧ ((0 ≤ a2 ∧ a2 ≤ 999)) ∧ ((0 ≤ a3 ∧ a3 ≤ 999)) ∧ ((0 ≤ a4 ∧ a4 ≤ 51)))) ∧ (¬ ((1 ≤ a5 ∧ a5 ≤ 40)))) ∨ (((((1 ≤ a1 ∧ a1 ≤ 9999)) ∧ ((0 ≤ a2 ∧ a2 ≤ 999)) ∧ ((0 ≤ a3 ∧ a3 ≤ 999)) ∧ ((0 ≤ a4 ∧ a4 ≤ 51)))) ∧ ((1 ≤ a5 ∧ a5 ≤ 40)) ∧ (¬ ((0 ≤ a6 ∧ a6 ≤ 200))))) → zR G MX11_lease 34 [zr 0, zi a1, zi a2, zi a3, zi a4, zi a5, zi a6] [] σ Q := by
    intro h5
    refine z_aload_n dX11_lease_34 rfl rfl ?_
    refine z_bipush (x := (-6)) dX11_lease_35 (by decide +kernel) (by unfold zIn; decide) ?_
    have s8 : -2147483648 ≤ -(-6) ∧ -(-6) < (2147483648 : Int) := k8 h5
    have s9 : (0 : Int) ≤ -(-6) ∧ -(-6) < (8 : Int) := k9 h5
    refine z_callv (as := [zi (-6)]) (st := []) mkX11_refuse lkRX11_132 rfl rfl rfl (by decide) (Nat.le_of_ble_eq_true rfl) rfl dX11_lease_37 ?_
    refine SX11_refuse s8 s9 ?_
    show zR G MX11_lease 40 [zr 0, zi a1, zi a2, zi a3, zi a4, zi a5, zi a6] [zi (-6)] (zup σ 97 (-(-6)) (zW ((σ 97 (-(-6))) + 1))) Q
    exact z_ireti rfl dX11_lease_40 (k10 h5)
  refine z_iload_n dX11_lease_0 rfl rfl ?_
  refine z_iload_n dX11_lease_1 rfl rfl ?_
  refine z_iload_n dX11_lease_2 rfl rfl ?_
  refine z_iload dX11_lease_3 rfl ?_
  refine z_calls (as := [zi a1, zi a2, zi a3, zi a4]) (st := []) mkX11_areTerms lkRX11_335 rfl (by decide) (Nat.le_of_ble_eq_true rfl) rfl dX11_lease_5 ?_
  refine SX11_areTerms ?_
  show zR G MX11_lease 8 [zr 0, zi a1, zi a2, zi a3, zi a4, zi a5, zi a6] [zi (if (((1 ≤ a1 ∧ a1 ≤ 9999)) ∧ ((0 ≤ a2 ∧ a2 ≤ 999)) ∧ ((0 ≤ a3 ∧ a3 ≤ 999)) ∧ ((0 ≤ a4 ∧ a4 ≤ 51))) then (1 : Int) else 0)] σ Q
  refine z_if_eq dX11_lease_8 (tgt := 34) (by decide) (fun z => ?_) (fun z => ?_)
  · have h1 : ¬ ((((1 ≤ a1 ∧ a1 ≤ 9999)) ∧ ((0 ≤ a2 ∧ a2 ≤ 999)) ∧ ((0 ≤ a3 ∧ a3 ≤ 999)) ∧ ((0 ≤ a4 ∧ a4 ≤ 51)))) := zb0 z
    exact J34 (Or.inl h1)
  · have h1 : (((1 ≤ a1 ∧ a1 ≤ 9999)) ∧ ((0 ≤ a2 ∧ a2 ≤ 999)) ∧ ((0 ≤ a3 ∧ a3 ≤ 999)) ∧ ((0 ≤ a4 ∧ a4 ≤ 51))) := zb1 z
    refine z_iload dX11_lease_11 rfl ?_
    refine z_iconst dX11_lease_13 (by unfold zIn; decide) ?_
    refine z_bipush (x := 40) dX11_lease_14 (by decide +kernel) (by unfold zIn; decide) ?_
    refine z_calls (as := [zi a5, zi 1, zi 40]) (st := []) mkX11_within lkRX11_111 rfl (by decide) (Nat.le_of_ble_eq_true rfl) rfl dX11_lease_16 ?_
    refine SX11_within ?_
    show zR G MX11_lease 19 [zr 0, zi a1, zi a2, zi a3, zi a4, zi a5, zi a6] [zi (if (1 ≤ a5 ∧ a5 ≤ 40) then (1 : Int) else 0)] σ Q
    refine z_if_eq dX11_lease_19 (tgt := 34) (by decide) (fun z => ?_) (fun z => ?_)
    · have h2 : ¬ ((1 ≤ a5 ∧ a5 ≤ 40)) := zb0 z
      exact J34 (Or.inr (Or.inl ⟨h1, h2⟩))
    · have h2 : (1 ≤ a5 ∧ a5 ≤ 40) := zb1 z
      refine z_iload dX11_lease_22 rfl ?_
      refine z_iconst dX11_lease_24 (by unfold zIn; decide) ?_
      refine z_sipush (x := 200) dX11_lease_25 (by decide +kernel) (by unfold zIn; decide) ?_
      refine z_calls (as := [zi a6, zi 0, zi 200]) (st := []) mkX11_within lkRX11_111 rfl (by decide) (Nat.le_of_ble_eq_true rfl) rfl dX11_lease_28 ?_
      refine SX11_within ?_
      show zR G MX11_lease 31 [zr 0, zi a1, zi a2, zi a3, zi a4, zi a5, zi a6] [zi (if (0 ≤ a6 ∧ a6 ≤ 200) then (1 : Int) else 0)] σ Q
      refine z_if_ne dX11_lease_31 (tgt := 41) (by decide) (fun z => ?_) (fun z => ?_)
      · have h3 : (0 ≤ a6 ∧ a6 ≤ 200) := zb1 z
        refine z_aload_n dX11_lease_41 rfl rfl ?_
        refine z_getfR (k := 7) flRX11_70 rfl rfl dX11_lease_42 ?_
        refine z_getfI (k := 11) flRX11_338 rfl rfl dX11_lease_45 ?_
        refine z_bipush (x := 8) dX11_lease_48 (by decide +kernel) (by unfold zIn; decide) ?_
        refine z_icmp_ne dX11_lease_50 (tgt := 60) (by decide) (fun h4 => ?_) (fun h4 => ?_)
        · skip
          refine z_aload_n dX11_lease_60 rfl rfl ?_
          refine z_getfR (k := 7) flRX11_70 rfl rfl dX11_lease_61 ?_
          refine z_getfR (k := 6) flRX11_339 rfl rfl dX11_lease_64 ?_
          refine z_aload_n dX11_lease_67 rfl rfl ?_
          refine z_getfR (k := 7) flRX11_70 rfl rfl dX11_lease_68 ?_
          refine z_getfI (k := 11) flRX11_338 rfl rfl dX11_lease_71 ?_
          refine z_iload dX11_lease_74 rfl ?_
          have s1 : (0 : Int) ≤ σ 68 11 ∧ σ 68 11 < (8 : Int) := k1 h1 h2 h3 h4
          refine z_iast rfl s1.1 s1.2 dX11_lease_76 ?_
          refine z_aload_n dX11_lease_77 rfl rfl ?_
          refine z_getfR (k := 7) flRX11_70 rfl rfl dX11_lease_78 ?_
          refine z_getfR (k := 5) flRX11_342 rfl rfl dX11_lease_81 ?_
          refine z_aload_n dX11_lease_84 rfl rfl ?_
          refine z_getfR (k := 7) flRX11_70 rfl rfl dX11_lease_85 ?_
          refine z_getfE (k := 11) (v := σ 68 11) flRX11_338 rfl rfl (zup_of (by decide)) dX11_lease_88 ?_
          refine z_iload dX11_lease_91 rfl ?_
          refine z_iast rfl s1.1 s1.2 dX11_lease_93 ?_
          refine z_aload_n dX11_lease_94 rfl rfl ?_
          refine z_getfR (k := 7) flRX11_70 rfl rfl dX11_lease_95 ?_
          refine z_iload_n dX11_lease_98 rfl rfl ?_
          refine z_iload_n dX11_lease_99 rfl rfl ?_
          refine z_iload_n dX11_lease_100 rfl rfl ?_
          refine z_iload dX11_lease_101 rfl ?_
          have s2 : (0 : Int) ≤ (zup (zup σ 74 (σ 68 11) a6) 73 (σ 68 11) a5) 68 11 ∧ (zup (zup σ 74 (σ 68 11) a6) 73 (σ 68 11) a5) 68 11 < (8 : Int) := k2 h1 h2 h3 h4
          have s3 : -2147483648 ≤ (zup (zup σ 74 (σ 68 11) a6) 73 (σ 68 11) a5) 68 11 + 1 ∧ (zup (zup σ 74 (σ 68 11) a6) 73 (σ 68 11) a5) 68 11 + 1 < (2147483648 : Int) := k3 h1 h2 h3 h4
          refine z_callv (as := [zi a1, zi a2, zi a3, zi a4]) (st := []) mkX4_add lkRX11_345 rfl rfl rfl (by decide) (Nat.le_of_ble_eq_true rfl) rfl dX11_lease_103 ?_
          refine SX4_add s2 s3 ?_
          show zR G MX11_lease 106 [zr 0, zi a1, zi a2, zi a3, zi a4, zi a5, zi a6] [zi ((zup (zup σ 74 (σ 68 11) a6) 73 (σ 68 11) a5) 68 11)] (zup (zup (zup (zup (zup (zup (zup σ 74 (σ 68 11) a6) 73 (σ 68 11) a5) 69 ((zup (zup σ 74 (σ 68 11) a6) 73 (σ 68 11) a5) 68 11) a1) 70 ((zup (zup σ 74 (σ 68 11) a6) 73 (σ 68 11) a5) 68 11) a2) 71 ((zup (zup σ 74 (σ 68 11) a6) 73 (σ 68 11) a5) 68 11) a3) 72 ((zup (zup σ 74 (σ 68 11) a6) 73 (σ 68 11) a5) 68 11) a4) 68 11 ((zup (zup σ 74 (σ 68 11) a6) 73 (σ 68 11) a5) 68 11 + 1)) Q
          exact z_ireti rfl dX11_lease_106 (k4 h1 h2 h3 h4)
        · skip
          refine z_aload_n dX11_lease_53 rfl rfl ?_
          refine z_bipush (x := (-7)) dX11_lease_54 (by decide +kernel) (by unfold zIn; decide) ?_
          have s5 : -2147483648 ≤ -(-7) ∧ -(-7) < (2147483648 : Int) := k5 h1 h2 h3 h4
          have s6 : (0 : Int) ≤ -(-7) ∧ -(-7) < (8 : Int) := k6 h1 h2 h3 h4
          refine z_callv (as := [zi (-7)]) (st := []) mkX11_refuse lkRX11_132 rfl rfl rfl (by decide) (Nat.le_of_ble_eq_true rfl) rfl dX11_lease_56 ?_
          refine SX11_refuse s5 s6 ?_
          show zR G MX11_lease 59 [zr 0, zi a1, zi a2, zi a3, zi a4, zi a5, zi a6] [zi (-7)] (zup σ 97 (-(-7)) (zW ((σ 97 (-(-7))) + 1))) Q
          exact z_ireti rfl dX11_lease_59 (k7 h1 h2 h3 h4)
      · have h3 : ¬ ((0 ≤ a6 ∧ a6 ≤ 200)) := zb0 z
        exact J34 (Or.inr (Or.inr ⟨h1, h2, h3⟩))
set_option maxRecDepth 20000 in
set_option maxHeartbeats 1000000 in
theorem TX11_lives {G : zG} {σ : zS} {Q : Int → zS → Prop} {a1 a2 a3 a4 a5 : Int}  (k1 : (zushr a5 (σ 22 12) = 0) → ((((1 ≤ a1 ∧ a1 ≤ 9999)) ∧ ((0 ≤ a2 ∧ a2 ≤ 999)) ∧ ((0 ≤ a3 ∧ a3 ≤ 999)) ∧ ((0 ≤ a4 ∧ a4 ≤ 51)))) → zO G MJ6_bitCount_0f7a4 [zi a5] σ (fun rr σ' => zR G MX11_lives 34 [zr 0, zi a1, zi a2, zi a3, zi a4, zi a5] [zi rr] σ' Q)) (k2 : (¬ (zushr a5 (σ 22 12) = 0)) → -2147483648 ≤ -(-1) ∧ -(-1) < (2147483648 : Int)) (k3 : (¬ (zushr a5 (σ 22 12) = 0)) → (0 : Int) ≤ -(-1) ∧ -(-1) < (8 : Int)) (k4 : (¬ (zushr a5 (σ 22 12) = 0)) → Q (-1) (zup σ 97 (-(-1)) (zW ((σ 97 (-(-1))) + 1)))) (k5 : (zushr a5 (σ 22 12) = 0) → (¬ ((((1 ≤ a1 ∧ a1 ≤ 9999)) ∧ ((0 ≤ a2 ∧ a2 ≤ 999)) ∧ ((0 ≤ a3 ∧ a3 ≤ 999)) ∧ ((0 ≤ a4 ∧ a4 ≤ 51))))) → -2147483648 ≤ -(-6) ∧ -(-6) < (2147483648 : Int)) (k6 : (zushr a5 (σ 22 12) = 0) → (¬ ((((1 ≤ a1 ∧ a1 ≤ 9999)) ∧ ((0 ≤ a2 ∧ a2 ≤ 999)) ∧ ((0 ≤ a3 ∧ a3 ≤ 999)) ∧ ((0 ≤ a4 ∧ a4 ≤ 51))))) → (0 : Int) ≤ -(-6) ∧ -(-6) < (8 : Int)) (k7 : (zushr a5 (σ 22 12) = 0) → (¬ ((((1 ≤ a1 ∧ a1 ≤ 9999)) ∧ ((0 ≤ a2 ∧ a2 ≤ 999)) ∧ ((0 ≤ a3 ∧ a3 ≤ 999)) ∧ ((0 ≤ a4 ∧ a4 ≤ 51))))) → Q (-6) (zup σ 97 (-(-6)) (zW ((σ 97 (-(-6))) + 1)))) : zO G MX11_lives [zr 0, zi a1, zi a2, zi a3, zi a4, zi a5] σ Q := by
  refine zO_of (ls0 := [zr 0, zi a1, zi a2, zi a3, zi a4, zi a5]) (by decide) (Nat.le_of_ble_eq_true rfl) rfl ?_
  have J42 : (zushr a5 (σ 22 12) = 0) → (¬ ((((1 ≤ a1 ∧ a1 ≤ 9999)) ∧ ((0 ≤ a2 ∧ a2 ≤ 999)) ∧ ((0 ≤ a3 ∧ a3 ≤ 999)) ∧ ((0 ≤ a4 ∧ a4 ≤ 51))))) → zR G MX11_lives 42 [zr 0, zi a1, zi a2, zi a3, zi a4, zi a5] [] σ Q := by
    intro h1 h2
    refine z_aload_n dX11_lives_42 rfl rfl ?_
    refine z_bipush (x := (-6)) dX11_lives_43 (by decide +kernel) (by unfold zIn; decide) ?_
    have s5 : -2147483648 ≤ -(-6) ∧ -(-6) < (2147483648 : Int) := k5 h1 h2
    have s6 : (0 : Int) ≤ -(-6) ∧ -(-6) < (8 : Int) := k6 h1 h2
    refine z_callv (as := [zi (-6)]) (st := []) mkX11_refuse lkRX11_132 rfl rfl rfl (by decide) (Nat.le_of_ble_eq_true rfl) rfl dX11_lives_45 ?_
    refine SX11_refuse s5 s6 ?_
    show zR G MX11_lives 48 [zr 0, zi a1, zi a2, zi a3, zi a4, zi a5] [zi (-6)] (zup σ 97 (-(-6)) (zW ((σ 97 (-(-6))) + 1))) Q
    exact z_ireti rfl dX11_lives_48 (k7 h1 h2)
  refine z_aload_n dX11_lives_0 rfl rfl ?_
  refine z_getfR (k := 1) flRX11_18 rfl rfl dX11_lives_1 ?_
  refine z_iload dX11_lives_4 rfl ?_
  refine z_callv (as := [zi a5]) (st := []) mkX5_hasAll lkRX11_314 rfl rfl rfl (by decide) (Nat.le_of_ble_eq_true rfl) rfl dX11_lives_6 ?_
  refine SX5_hasAll ?_
  show zR G MX11_lives 9 [zr 0, zi a1, zi a2, zi a3, zi a4, zi a5] [zi (if zushr a5 (σ 22 12) = 0 then (1 : Int) else 0)] σ Q
  refine z_if_ne dX11_lives_9 (tgt := 18) (by decide) (fun z => ?_) (fun z => ?_)
  · have h1 : zushr a5 (σ 22 12) = 0 := zb1 z
    refine z_iload_n dX11_lives_18 rfl rfl ?_
    refine z_iload_n dX11_lives_19 rfl rfl ?_
    refine z_iload_n dX11_lives_20 rfl rfl ?_
    refine z_iload dX11_lives_21 rfl ?_
    refine z_calls (as := [zi a1, zi a2, zi a3, zi a4]) (st := []) mkX11_areTerms lkRX11_335 rfl (by decide) (Nat.le_of_ble_eq_true rfl) rfl dX11_lives_23 ?_
    refine SX11_areTerms ?_
    show zR G MX11_lives 26 [zr 0, zi a1, zi a2, zi a3, zi a4, zi a5] [zi (if (((1 ≤ a1 ∧ a1 ≤ 9999)) ∧ ((0 ≤ a2 ∧ a2 ≤ 999)) ∧ ((0 ≤ a3 ∧ a3 ≤ 999)) ∧ ((0 ≤ a4 ∧ a4 ≤ 51))) then (1 : Int) else 0)] σ Q
    refine z_if_eq dX11_lives_26 (tgt := 42) (by decide) (fun z => ?_) (fun z => ?_)
    · have h2 : ¬ ((((1 ≤ a1 ∧ a1 ≤ 9999)) ∧ ((0 ≤ a2 ∧ a2 ≤ 999)) ∧ ((0 ≤ a3 ∧ a3 ≤ 999)) ∧ ((0 ≤ a4 ∧ a4 ≤ 51)))) := zb0 z
      exact J42 h1 h2
    · have h2 : (((1 ≤ a1 ∧ a1 ≤ 9999)) ∧ ((0 ≤ a2 ∧ a2 ≤ 999)) ∧ ((0 ≤ a3 ∧ a3 ≤ 999)) ∧ ((0 ≤ a4 ∧ a4 ≤ 51))) := zb1 z
      refine z_iload dX11_lives_29 rfl ?_
      refine z_calls (as := [zi a5]) (st := []) mkJ6_bitCount_0f7a4 lkRX11_347 rfl (by decide) (Nat.le_of_ble_eq_true rfl) rfl dX11_lives_31 (k1 h1 h2)
  · have h1 : ¬ (zushr a5 (σ 22 12) = 0) := zb0 z
    refine z_aload_n dX11_lives_12 rfl rfl ?_
    refine z_iconst dX11_lives_13 (by unfold zIn; decide) ?_
    have s2 : -2147483648 ≤ -(-1) ∧ -(-1) < (2147483648 : Int) := k2 h1
    have s3 : (0 : Int) ≤ -(-1) ∧ -(-1) < (8 : Int) := k3 h1
    refine z_callv (as := [zi (-1)]) (st := []) mkX11_refuse lkRX11_132 rfl rfl rfl (by decide) (Nat.le_of_ble_eq_true rfl) rfl dX11_lives_14 ?_
    refine SX11_refuse s2 s3 ?_
    show zR G MX11_lives 17 [zr 0, zi a1, zi a2, zi a3, zi a4, zi a5] [zi (-1)] (zup σ 97 (-(-1)) (zW ((σ 97 (-(-1))) + 1))) Q
    exact z_ireti rfl dX11_lives_17 (k4 h1)
set_option maxRecDepth 20000 in
set_option maxHeartbeats 1000000 in
theorem TX11_lives_34 {G : zG} {σ : zS} {Q : Int → zS → Prop} {v1 v2 v3 v4 v5 r : Int}  (k1 : ((1 ≤ r ∧ r ≤ 3)) → (σ 68 11 ≠ 8) → (0 : Int) ≤ σ 68 11 ∧ σ 68 11 < (8 : Int)) (k2 : ((1 ≤ r ∧ r ≤ 3)) → (σ 68 11 ≠ 8) → (0 : Int) ≤ (zup σ 75 (σ 68 11) v5) 68 11 ∧ (zup σ 75 (σ 68 11) v5) 68 11 < (8 : Int)) (k3 : ((1 ≤ r ∧ r ≤ 3)) → (σ 68 11 ≠ 8) → -2147483648 ≤ (zup σ 75 (σ 68 11) v5) 68 11 + 1 ∧ (zup σ 75 (σ 68 11) v5) 68 11 + 1 < (2147483648 : Int)) (k4 : ((1 ≤ r ∧ r ≤ 3)) → (σ 68 11 ≠ 8) → Q ((zup σ 75 (σ 68 11) v5) 68 11) (zup (zup (zup (zup (zup (zup σ 75 (σ 68 11) v5) 69 ((zup σ 75 (σ 68 11) v5) 68 11) v1) 70 ((zup σ 75 (σ 68 11) v5) 68 11) v2) 71 ((zup σ 75 (σ 68 11) v5) 68 11) v3) 72 ((zup σ 75 (σ 68 11) v5) 68 11) v4) 68 11 ((zup σ 75 (σ 68 11) v5) 68 11 + 1))) (k5 : ((1 ≤ r ∧ r ≤ 3)) → (σ 68 11 = 8) → -2147483648 ≤ -(-7) ∧ -(-7) < (2147483648 : Int)) (k6 : ((1 ≤ r ∧ r ≤ 3)) → (σ 68 11 = 8) → (0 : Int) ≤ -(-7) ∧ -(-7) < (8 : Int)) (k7 : ((1 ≤ r ∧ r ≤ 3)) → (σ 68 11 = 8) → Q (-7) (zup σ 97 (-(-7)) (zW ((σ 97 (-(-7))) + 1)))) (k8 : (¬ ((1 ≤ r ∧ r ≤ 3))) → -2147483648 ≤ -(-6) ∧ -(-6) < (2147483648 : Int)) (k9 : (¬ ((1 ≤ r ∧ r ≤ 3))) → (0 : Int) ≤ -(-6) ∧ -(-6) < (8 : Int)) (k10 : (¬ ((1 ≤ r ∧ r ≤ 3))) → Q (-6) (zup σ 97 (-(-6)) (zW ((σ 97 (-(-6))) + 1)))) : zR G MX11_lives 34 [zr 0, zi v1, zi v2, zi v3, zi v4, zi v5] [zi r] σ Q := by
  have J42 : (¬ ((1 ≤ r ∧ r ≤ 3))) → zR G MX11_lives 42 [zr 0, zi v1, zi v2, zi v3, zi v4, zi v5] [] σ Q := by
    intro h1
    refine z_aload_n dX11_lives_42 rfl rfl ?_
    refine z_bipush (x := (-6)) dX11_lives_43 (by decide +kernel) (by unfold zIn; decide) ?_
    have s8 : -2147483648 ≤ -(-6) ∧ -(-6) < (2147483648 : Int) := k8 h1
    have s9 : (0 : Int) ≤ -(-6) ∧ -(-6) < (8 : Int) := k9 h1
    refine z_callv (as := [zi (-6)]) (st := []) mkX11_refuse lkRX11_132 rfl rfl rfl (by decide) (Nat.le_of_ble_eq_true rfl) rfl dX11_lives_45 ?_
    refine SX11_refuse s8 s9 ?_
    show zR G MX11_lives 48 [zr 0, zi v1, zi v2, zi v3, zi v4, zi v5] [zi (-6)] (zup σ 97 (-(-6)) (zW ((σ 97 (-(-6))) + 1))) Q
    exact z_ireti rfl dX11_lives_48 (k10 h1)
  refine z_iconst dX11_lives_34 (by unfold zIn; decide) ?_
  refine z_iconst dX11_lives_35 (by unfold zIn; decide) ?_
  refine z_calls (as := [zi r, zi 1, zi 3]) (st := []) mkX11_within lkRX11_111 rfl (by decide) (Nat.le_of_ble_eq_true rfl) rfl dX11_lives_36 ?_
  refine SX11_within ?_
  show zR G MX11_lives 39 [zr 0, zi v1, zi v2, zi v3, zi v4, zi v5] [zi (if (1 ≤ r ∧ r ≤ 3) then (1 : Int) else 0)] σ Q
  refine z_if_ne dX11_lives_39 (tgt := 49) (by decide) (fun z => ?_) (fun z => ?_)
  · have h1 : (1 ≤ r ∧ r ≤ 3) := zb1 z
    refine z_aload_n dX11_lives_49 rfl rfl ?_
    refine z_getfR (k := 7) flRX11_70 rfl rfl dX11_lives_50 ?_
    refine z_getfI (k := 11) flRX11_338 rfl rfl dX11_lives_53 ?_
    refine z_bipush (x := 8) dX11_lives_56 (by decide +kernel) (by unfold zIn; decide) ?_
    refine z_icmp_ne dX11_lives_58 (tgt := 68) (by decide) (fun h2 => ?_) (fun h2 => ?_)
    · skip
      refine z_aload_n dX11_lives_68 rfl rfl ?_
      refine z_getfR (k := 7) flRX11_70 rfl rfl dX11_lives_69 ?_
      refine z_getfR (k := 7) flRX11_352 rfl rfl dX11_lives_72 ?_
      refine z_aload_n dX11_lives_75 rfl rfl ?_
      refine z_getfR (k := 7) flRX11_70 rfl rfl dX11_lives_76 ?_
      refine z_getfI (k := 11) flRX11_338 rfl rfl dX11_lives_79 ?_
      refine z_iload dX11_lives_82 rfl ?_
      have s1 : (0 : Int) ≤ σ 68 11 ∧ σ 68 11 < (8 : Int) := k1 h1 h2
      refine z_iast rfl s1.1 s1.2 dX11_lives_84 ?_
      refine z_aload_n dX11_lives_85 rfl rfl ?_
      refine z_getfR (k := 7) flRX11_70 rfl rfl dX11_lives_86 ?_
      refine z_iload_n dX11_lives_89 rfl rfl ?_
      refine z_iload_n dX11_lives_90 rfl rfl ?_
      refine z_iload_n dX11_lives_91 rfl rfl ?_
      refine z_iload dX11_lives_92 rfl ?_
      have s2 : (0 : Int) ≤ (zup σ 75 (σ 68 11) v5) 68 11 ∧ (zup σ 75 (σ 68 11) v5) 68 11 < (8 : Int) := k2 h1 h2
      have s3 : -2147483648 ≤ (zup σ 75 (σ 68 11) v5) 68 11 + 1 ∧ (zup σ 75 (σ 68 11) v5) 68 11 + 1 < (2147483648 : Int) := k3 h1 h2
      refine z_callv (as := [zi v1, zi v2, zi v3, zi v4]) (st := []) mkX4_add lkRX11_345 rfl rfl rfl (by decide) (Nat.le_of_ble_eq_true rfl) rfl dX11_lives_94 ?_
      refine SX4_add s2 s3 ?_
      show zR G MX11_lives 97 [zr 0, zi v1, zi v2, zi v3, zi v4, zi v5] [zi ((zup σ 75 (σ 68 11) v5) 68 11)] (zup (zup (zup (zup (zup (zup σ 75 (σ 68 11) v5) 69 ((zup σ 75 (σ 68 11) v5) 68 11) v1) 70 ((zup σ 75 (σ 68 11) v5) 68 11) v2) 71 ((zup σ 75 (σ 68 11) v5) 68 11) v3) 72 ((zup σ 75 (σ 68 11) v5) 68 11) v4) 68 11 ((zup σ 75 (σ 68 11) v5) 68 11 + 1)) Q
      exact z_ireti rfl dX11_lives_97 (k4 h1 h2)
    · skip
      refine z_aload_n dX11_lives_61 rfl rfl ?_
      refine z_bipush (x := (-7)) dX11_lives_62 (by decide +kernel) (by unfold zIn; decide) ?_
      have s5 : -2147483648 ≤ -(-7) ∧ -(-7) < (2147483648 : Int) := k5 h1 h2
      have s6 : (0 : Int) ≤ -(-7) ∧ -(-7) < (8 : Int) := k6 h1 h2
      refine z_callv (as := [zi (-7)]) (st := []) mkX11_refuse lkRX11_132 rfl rfl rfl (by decide) (Nat.le_of_ble_eq_true rfl) rfl dX11_lives_64 ?_
      refine SX11_refuse s5 s6 ?_
      show zR G MX11_lives 67 [zr 0, zi v1, zi v2, zi v3, zi v4, zi v5] [zi (-7)] (zup σ 97 (-(-7)) (zW ((σ 97 (-(-7))) + 1))) Q
      exact z_ireti rfl dX11_lives_67 (k7 h1 h2)
  · have h1 : ¬ ((1 ≤ r ∧ r ≤ 3)) := zb0 z
    exact J42 h1
set_option maxRecDepth 20000 in
set_option maxHeartbeats 1000000 in
theorem TX4_isPriced {G : zG} {σ : zS} {Q : Int → zS → Prop} {a1 : Int}  (k1 : zR G MX4_isPriced 2 [zr 68, zi a1, zi 0] [] σ Q) : zO G MX4_isPriced [zr 68, zi a1] σ Q := by
  refine zO_of (ls0 := [zr 68, zi a1, zu]) (by decide) (Nat.le_of_ble_eq_true rfl) rfl ?_
  refine z_iconst dX4_isPriced_0 (by unfold zIn; decide) ?_
  refine z_istore_n (ls' := [zr 68, zi a1, zi 0]) dX4_isPriced_1 rfl (by decide) rfl ?_
  exact k1
set_option maxRecDepth 20000 in
set_option maxHeartbeats 1000000 in
theorem TX4_isPriced_2 {G : zG} {σ : zS} {Q : Int → zS → Prop} {v1 v2 : Int}  (k1 : (σ 68 12 ≤ v2) → Q 0 σ) (k2 : (v2 < σ 68 12) → (0 : Int) ≤ v2 ∧ v2 < (200 : Int)) (k3 : (v2 < σ 68 12) → (σ 76 v2 ≠ v1) → -2147483648 ≤ v2 + 1 ∧ v2 + 1 < (2147483648 : Int)) (k4 : (v2 < σ 68 12) → (σ 76 v2 ≠ v1) → zR G MX4_isPriced 2 [zr 68, zi v1, zi (v2 + 1)] [] σ Q) (k5 : (v2 < σ 68 12) → (σ 76 v2 = v1) → Q 1 σ) : zR G MX4_isPriced 2 [zr 68, zi v1, zi v2] [] σ Q := by
  refine z_iload_n dX4_isPriced_2 rfl rfl ?_
  refine z_aload_n dX4_isPriced_3 rfl rfl ?_
  refine z_getfI (k := 12) flRX4_46 rfl rfl dX4_isPriced_4 ?_
  refine z_icmp_ge dX4_isPriced_7 (tgt := 28) (by decide) (fun h1 => ?_) (fun h1 => ?_)
  · skip
    refine z_iconst dX4_isPriced_28 (by unfold zIn; decide) ?_
    exact z_iretz rfl (by decide) dX4_isPriced_29 (k1 h1)
  · skip
    refine z_aload_n dX4_isPriced_10 rfl rfl ?_
    refine z_getfR (k := 8) flRX4_33 rfl rfl dX4_isPriced_11 ?_
    refine z_iload_n dX4_isPriced_14 rfl rfl ?_
    have s2 : (0 : Int) ≤ v2 ∧ v2 < (200 : Int) := k2 h1
    refine z_iald rfl s2.1 s2.2 dX4_isPriced_15 ?_
    refine z_iload_n dX4_isPriced_16 rfl rfl ?_
    refine z_icmp_ne dX4_isPriced_17 (tgt := 22) (by decide) (fun h2 => ?_) (fun h2 => ?_)
    · skip
      have s3 : -2147483648 ≤ v2 + 1 ∧ v2 + 1 < (2147483648 : Int) := k3 h1 h2
      refine z_iincN (ls' := [zr 68, zi v1, zi (v2 + 1)]) dX4_isPriced_22 rfl (by decide) s3 rfl ?_
      refine z_goto dX4_isPriced_25 (tgt := 2) (by decide) ?_
      exact k4 h1 h2
    · skip
      refine z_iconst dX4_isPriced_20 (by unfold zIn; decide) ?_
      exact z_iretz rfl (by decide) dX4_isPriced_21 (k5 h1 h2)
set_option maxRecDepth 20000 in
set_option maxHeartbeats 1000000 in
theorem TX11_price {G : zG} {σ : zS} {Q : Int → zS → Prop} {a1 a2 a3 : Int}  (k1 : ((0 ≤ a1 ∧ a1 ≤ 200)) → ((0 ≤ a2 ∧ a2 ≤ 51)) → ((0 ≤ a3 ∧ a3 ≤ 999)) → -2147483648 ≤ 52 * a1 ∧ 52 * a1 < (2147483648 : Int)) (k2 : ((0 ≤ a1 ∧ a1 ≤ 200)) → ((0 ≤ a2 ∧ a2 ≤ 51)) → ((0 ≤ a3 ∧ a3 ≤ 999)) → -2147483648 ≤ (52 * a1) + a2 ∧ (52 * a1) + a2 < (2147483648 : Int)) (k3 : ((0 ≤ a1 ∧ a1 ≤ 200)) → ((0 ≤ a2 ∧ a2 ≤ 51)) → ((0 ≤ a3 ∧ a3 ≤ 999)) → zO G MX4_isPriced [zr 68, zi ((52 * a1) + a2)] σ (fun rr σ' => zR G MX11_price 45 [zr 0, zi a1, zi a2, zi a3] [zi rr] σ' Q)) (k4 : ((¬ ((0 ≤ a1 ∧ a1 ≤ 200))) ∨ (((0 ≤ a1 ∧ a1 ≤ 200)) ∧ (¬ ((0 ≤ a2 ∧ a2 ≤ 51)))) ∨ (((0 ≤ a1 ∧ a1 ≤ 200)) ∧ ((0 ≤ a2 ∧ a2 ≤ 51)) ∧ (¬ ((0 ≤ a3 ∧ a3 ≤ 999))))) → -2147483648 ≤ -(-6) ∧ -(-6) < (2147483648 : Int)) (k5 : ((¬ ((0 ≤ a1 ∧ a1 ≤ 200))) ∨ (((0 ≤ a1 ∧ a1 ≤ 200)) ∧ (¬ ((0 ≤ a2 ∧ a2 ≤ 51)))) ∨ (((0 ≤ a1 ∧ a1 ≤ 200)) ∧ ((0 ≤ a2 ∧ a2 ≤ 51)) ∧ (¬ ((0 ≤ a3 ∧ a3 ≤ 999))))) → (0 : Int) ≤ -(-6) ∧ -(-6) < (8 : Int)) (k6 : ((¬ ((0 ≤ a1 ∧ a1 ≤ 200))) ∨ (((0 ≤ a1 ∧ a1 ≤ 200)) ∧ (¬ ((0 ≤ a2 ∧ a2 ≤ 51)))) ∨ (((0 ≤ a1 ∧ a1 ≤ 200)) ∧ ((0 ≤ a2 ∧ a2 ≤ 51)) ∧ (¬ ((0 ≤ a3 ∧ a3 ≤ 999))))) → Q (-6) (zup σ 97 (-(-6)) (zW ((σ 97 (-(-6))) + 1)))) : zO G MX11_price [zr 0, zi a1, zi a2, zi a3] σ Q := by
  refine zO_of (ls0 := [zr 0, zi a1, zi a2, zi a3]) (by decide) (Nat.le_of_ble_eq_true rfl) rfl ?_
  have J48 : ((¬ ((0 ≤ a1 ∧ a1 ≤ 200))) ∨ (((0 ≤ a1 ∧ a1 ≤ 200)) ∧ (¬ ((0 ≤ a2 ∧ a2 ≤ 51)))) ∨ (((0 ≤ a1 ∧ a1 ≤ 200)) ∧ ((0 ≤ a2 ∧ a2 ≤ 51)) ∧ (¬ ((0 ≤ a3 ∧ a3 ≤ 999))))) → zR G MX11_price 48 [zr 0, zi a1, zi a2, zi a3] [] σ Q := by
    intro h4
    refine z_aload_n dX11_price_48 rfl rfl ?_
    refine z_bipush (x := (-6)) dX11_price_49 (by decide +kernel) (by unfold zIn; decide) ?_
    have s4 : -2147483648 ≤ -(-6) ∧ -(-6) < (2147483648 : Int) := k4 h4
    have s5 : (0 : Int) ≤ -(-6) ∧ -(-6) < (8 : Int) := k5 h4
    refine z_callv (as := [zi (-6)]) (st := []) mkX11_refuse lkRX11_132 rfl rfl rfl (by decide) (Nat.le_of_ble_eq_true rfl) rfl dX11_price_51 ?_
    refine SX11_refuse s4 s5 ?_
    show zR G MX11_price 54 [zr 0, zi a1, zi a2, zi a3] [zi (-6)] (zup σ 97 (-(-6)) (zW ((σ 97 (-(-6))) + 1))) Q
    exact z_ireti rfl dX11_price_54 (k6 h4)
  refine z_iload_n dX11_price_0 rfl rfl ?_
  refine z_iconst dX11_price_1 (by unfold zIn; decide) ?_
  refine z_sipush (x := 200) dX11_price_2 (by decide +kernel) (by unfold zIn; decide) ?_
  refine z_calls (as := [zi a1, zi 0, zi 200]) (st := []) mkX11_within lkRX11_111 rfl (by decide) (Nat.le_of_ble_eq_true rfl) rfl dX11_price_5 ?_
  refine SX11_within ?_
  show zR G MX11_price 8 [zr 0, zi a1, zi a2, zi a3] [zi (if (0 ≤ a1 ∧ a1 ≤ 200) then (1 : Int) else 0)] σ Q
  refine z_if_eq dX11_price_8 (tgt := 48) (by decide) (fun z => ?_) (fun z => ?_)
  · have h1 : ¬ ((0 ≤ a1 ∧ a1 ≤ 200)) := zb0 z
    exact J48 (Or.inl h1)
  · have h1 : (0 ≤ a1 ∧ a1 ≤ 200) := zb1 z
    refine z_iload_n dX11_price_11 rfl rfl ?_
    refine z_iconst dX11_price_12 (by unfold zIn; decide) ?_
    refine z_bipush (x := 51) dX11_price_13 (by decide +kernel) (by unfold zIn; decide) ?_
    refine z_calls (as := [zi a2, zi 0, zi 51]) (st := []) mkX11_within lkRX11_111 rfl (by decide) (Nat.le_of_ble_eq_true rfl) rfl dX11_price_15 ?_
    refine SX11_within ?_
    show zR G MX11_price 18 [zr 0, zi a1, zi a2, zi a3] [zi (if (0 ≤ a2 ∧ a2 ≤ 51) then (1 : Int) else 0)] σ Q
    refine z_if_eq dX11_price_18 (tgt := 48) (by decide) (fun z => ?_) (fun z => ?_)
    · have h2 : ¬ ((0 ≤ a2 ∧ a2 ≤ 51)) := zb0 z
      exact J48 (Or.inr (Or.inl ⟨h1, h2⟩))
    · have h2 : (0 ≤ a2 ∧ a2 ≤ 51) := zb1 z
      refine z_iload_n dX11_price_21 rfl rfl ?_
      refine z_iconst dX11_price_22 (by unfold zIn; decide) ?_
      refine z_sipush (x := 999) dX11_price_23 (by decide +kernel) (by unfold zIn; decide) ?_
      refine z_calls (as := [zi a3, zi 0, zi 999]) (st := []) mkX11_within lkRX11_111 rfl (by decide) (Nat.le_of_ble_eq_true rfl) rfl dX11_price_26 ?_
      refine SX11_within ?_
      show zR G MX11_price 29 [zr 0, zi a1, zi a2, zi a3] [zi (if (0 ≤ a3 ∧ a3 ≤ 999) then (1 : Int) else 0)] σ Q
      refine z_if_eq dX11_price_29 (tgt := 48) (by decide) (fun z => ?_) (fun z => ?_)
      · have h3 : ¬ ((0 ≤ a3 ∧ a3 ≤ 999)) := zb0 z
        exact J48 (Or.inr (Or.inr ⟨h1, h2, h3⟩))
      · have h3 : (0 ≤ a3 ∧ a3 ≤ 999) := zb1 z
        refine z_aload_n dX11_price_32 rfl rfl ?_
        refine z_getfR (k := 7) flRX11_70 rfl rfl dX11_price_33 ?_
        refine z_bipush (x := 52) dX11_price_36 (by decide +kernel) (by unfold zIn; decide) ?_
        refine z_iload_n dX11_price_38 rfl rfl ?_
        have s1 : -2147483648 ≤ 52 * a1 ∧ 52 * a1 < (2147483648 : Int) := k1 h1 h2 h3
        refine z_imulN dX11_price_39 s1 ?_
        refine z_iload_n dX11_price_40 rfl rfl ?_
        have s2 : -2147483648 ≤ (52 * a1) + a2 ∧ (52 * a1) + a2 < (2147483648 : Int) := k2 h1 h2 h3
        refine z_iaddN dX11_price_41 s2 ?_
        refine z_callv (as := [zi ((52 * a1) + a2)]) (st := []) mkX4_isPriced lkRX11_355 rfl rfl rfl (by decide) (Nat.le_of_ble_eq_true rfl) rfl dX11_price_42 (k3 h1 h2 h3)
set_option maxRecDepth 20000 in
set_option maxHeartbeats 1000000 in
theorem TX11_price_45 {G : zG} {σ : zS} {Q : Int → zS → Prop} {v1 v2 v3 r : Int}  (k1 : (r = 0) → (σ 68 12 ≠ 200) → -2147483648 ≤ 52 * v1 ∧ 52 * v1 < (2147483648 : Int)) (k2 : (r = 0) → (σ 68 12 ≠ 200) → -2147483648 ≤ (52 * v1) + v2 ∧ (52 * v1) + v2 < (2147483648 : Int)) (k3 : (r = 0) → (σ 68 12 ≠ 200) → (0 : Int) ≤ σ 68 12 ∧ σ 68 12 < (200 : Int)) (k4 : (r = 0) → (σ 68 12 ≠ 200) → -2147483648 ≤ σ 68 12 + 1 ∧ σ 68 12 + 1 < (2147483648 : Int)) (k5 : (r = 0) → (σ 68 12 ≠ 200) → Q (σ 68 12 + 1) (zup (zup (zup σ 76 (σ 68 12) ((52 * v1) + v2)) 77 (σ 68 12) v3) 68 12 (σ 68 12 + 1))) (k6 : (r = 0) → (σ 68 12 = 200) → -2147483648 ≤ -(-7) ∧ -(-7) < (2147483648 : Int)) (k7 : (r = 0) → (σ 68 12 = 200) → (0 : Int) ≤ -(-7) ∧ -(-7) < (8 : Int)) (k8 : (r = 0) → (σ 68 12 = 200) → Q (-7) (zup σ 97 (-(-7)) (zW ((σ 97 (-(-7))) + 1)))) (k9 : (r ≠ 0) → -2147483648 ≤ -(-6) ∧ -(-6) < (2147483648 : Int)) (k10 : (r ≠ 0) → (0 : Int) ≤ -(-6) ∧ -(-6) < (8 : Int)) (k11 : (r ≠ 0) → Q (-6) (zup σ 97 (-(-6)) (zW ((σ 97 (-(-6))) + 1)))) : zR G MX11_price 45 [zr 0, zi v1, zi v2, zi v3] [zi r] σ Q := by
  have J48 : (r ≠ 0) → zR G MX11_price 48 [zr 0, zi v1, zi v2, zi v3] [] σ Q := by
    intro h1
    refine z_aload_n dX11_price_48 rfl rfl ?_
    refine z_bipush (x := (-6)) dX11_price_49 (by decide +kernel) (by unfold zIn; decide) ?_
    have s9 : -2147483648 ≤ -(-6) ∧ -(-6) < (2147483648 : Int) := k9 h1
    have s10 : (0 : Int) ≤ -(-6) ∧ -(-6) < (8 : Int) := k10 h1
    refine z_callv (as := [zi (-6)]) (st := []) mkX11_refuse lkRX11_132 rfl rfl rfl (by decide) (Nat.le_of_ble_eq_true rfl) rfl dX11_price_51 ?_
    refine SX11_refuse s9 s10 ?_
    show zR G MX11_price 54 [zr 0, zi v1, zi v2, zi v3] [zi (-6)] (zup σ 97 (-(-6)) (zW ((σ 97 (-(-6))) + 1))) Q
    exact z_ireti rfl dX11_price_54 (k11 h1)
  refine z_if_eq dX11_price_45 (tgt := 55) (by decide) (fun h1 => ?_) (fun h1 => ?_)
  · skip
    refine z_aload_n dX11_price_55 rfl rfl ?_
    refine z_getfR (k := 7) flRX11_70 rfl rfl dX11_price_56 ?_
    refine z_getfI (k := 12) flRX11_358 rfl rfl dX11_price_59 ?_
    refine z_sipush (x := 200) dX11_price_62 (by decide +kernel) (by unfold zIn; decide) ?_
    refine z_icmp_ne dX11_price_65 (tgt := 77) (by decide) (fun h2 => ?_) (fun h2 => ?_)
    · skip
      refine z_aload_n dX11_price_77 rfl rfl ?_
      refine z_getfR (k := 7) flRX11_70 rfl rfl dX11_price_78 ?_
      refine z_bipush (x := 52) dX11_price_81 (by decide +kernel) (by unfold zIn; decide) ?_
      refine z_iload_n dX11_price_83 rfl rfl ?_
      have s1 : -2147483648 ≤ 52 * v1 ∧ 52 * v1 < (2147483648 : Int) := k1 h1 h2
      refine z_imulN dX11_price_84 s1 ?_
      refine z_iload_n dX11_price_85 rfl rfl ?_
      have s2 : -2147483648 ≤ (52 * v1) + v2 ∧ (52 * v1) + v2 < (2147483648 : Int) := k2 h1 h2
      refine z_iaddN dX11_price_86 s2 ?_
      refine z_iload_n dX11_price_87 rfl rfl ?_
      have s3 : (0 : Int) ≤ σ 68 12 ∧ σ 68 12 < (200 : Int) := k3 h1 h2
      have s4 : -2147483648 ≤ σ 68 12 + 1 ∧ σ 68 12 + 1 < (2147483648 : Int) := k4 h1 h2
      refine z_callv (as := [zi ((52 * v1) + v2), zi v3]) (st := []) mkX4_tellPrice lkRX11_361 rfl rfl rfl (by decide) (Nat.le_of_ble_eq_true rfl) rfl dX11_price_88 ?_
      refine SX4_tellPrice s3 s4 ?_
      show zR G MX11_price 91 [zr 0, zi v1, zi v2, zi v3] [zi (σ 68 12 + 1)] (zup (zup (zup σ 76 (σ 68 12) ((52 * v1) + v2)) 77 (σ 68 12) v3) 68 12 (σ 68 12 + 1)) Q
      exact z_ireti rfl dX11_price_91 (k5 h1 h2)
    · skip
      refine z_aload_n dX11_price_68 rfl rfl ?_
      refine z_bipush (x := (-7)) dX11_price_69 (by decide +kernel) (by unfold zIn; decide) ?_
      have s6 : -2147483648 ≤ -(-7) ∧ -(-7) < (2147483648 : Int) := k6 h1 h2
      have s7 : (0 : Int) ≤ -(-7) ∧ -(-7) < (8 : Int) := k7 h1 h2
      refine z_callv (as := [zi (-7)]) (st := []) mkX11_refuse lkRX11_132 rfl rfl rfl (by decide) (Nat.le_of_ble_eq_true rfl) rfl dX11_price_71 ?_
      refine SX11_refuse s6 s7 ?_
      show zR G MX11_price 74 [zr 0, zi v1, zi v2, zi v3] [zi (-7)] (zup σ 97 (-(-7)) (zW ((σ 97 (-(-7))) + 1))) Q
      refine z_goto dX11_price_74 (tgt := 91) (by decide) ?_
      exact z_ireti rfl dX11_price_91 (k8 h1 h2)
  · skip
    exact J48 h1
set_option maxRecDepth 20000 in
set_option maxHeartbeats 1000000 in
theorem TX4_endOf {G : zG} {σ : zS} {Q : Int → zS → Prop} {a1 : Int}  (k1 : (0 : Int) ≤ a1 ∧ a1 < (8 : Int)) (k2 : (σ 75 a1 ≠ 0) → zR G MX4_endOf 20 [zr 68, zi a1, zi (-40000), zi 0] [] σ Q) (k3 : (¬ (σ 75 a1 ≠ 0)) → Q (σ 74 a1) σ) : zO G MX4_endOf [zr 68, zi a1] σ Q := by
  refine zO_of (ls0 := [zr 68, zi a1, zu, zu]) (by decide) (Nat.le_of_ble_eq_true rfl) rfl ?_
  refine z_aload_n dX4_endOf_0 rfl rfl ?_
  refine z_iload_n dX4_endOf_1 rfl rfl ?_
  have s1 : (0 : Int) ≤ a1 ∧ a1 < (8 : Int) := k1
  refine z_callv (as := [zi a1]) (st := []) mkX4_isForLives lkRX4_56 rfl rfl rfl (by decide) (Nat.le_of_ble_eq_true rfl) rfl dX4_endOf_2 ?_
  refine SX4_isForLives s1 ?_
  show zR G MX4_endOf 5 [zr 68, zi a1, zu, zu] [zi (if σ 75 a1 ≠ 0 then (1 : Int) else 0)] σ Q
  refine z_if_ne dX4_endOf_5 (tgt := 15) (by decide) (fun z => ?_) (fun z => ?_)
  · have h1 : σ 75 a1 ≠ 0 := zb1 z
    refine z_ldc (x := (-40000)) (zin_5 (List.mem_of_getElem? (i := 118) (by decide +kernel))) (by unfold zIn; decide) dX4_endOf_15 ?_
    refine z_istore_n (ls' := [zr 68, zi a1, zi (-40000), zu]) dX4_endOf_17 rfl (by decide) rfl ?_
    refine z_iconst dX4_endOf_18 (by unfold zIn; decide) ?_
    refine z_istore_n (ls' := [zr 68, zi a1, zi (-40000), zi 0]) dX4_endOf_19 rfl (by decide) rfl ?_
    exact k2 h1
  · have h1 : ¬ (σ 75 a1 ≠ 0) := zb0 z
    refine z_aload_n dX4_endOf_8 rfl rfl ?_
    refine z_getfR (k := 6) flRX4_27 rfl rfl dX4_endOf_9 ?_
    refine z_iload_n dX4_endOf_12 rfl rfl ?_
    refine z_iald rfl s1.1 s1.2 dX4_endOf_13 ?_
    exact z_ireti rfl dX4_endOf_14 (k3 h1)
set_option maxRecDepth 20000 in
set_option maxHeartbeats 1000000 in
theorem TX4_endOf_20 {G : zG} {σ : zS} {Q : Int → zS → Prop} {v1 v2 v3 : Int}  (k1 : (σ 22 12 ≤ v3) → Q (zdiv v2 365) σ) (k2 : (v3 < σ 22 12) → (0 : Int) ≤ v1 ∧ v1 < (8 : Int)) (k3 : (v3 < σ 22 12) → (zand (zushr (σ 75 v1) v3) 1 ≠ 0) → (0 : Int) ≤ v3 ∧ v3 < (24 : Int)) (k4 : (v3 < σ 22 12) → (zand (zushr (σ 75 v1) v3) 1 ≠ 0) → (σ 27 v3 = (-1)) → Q 1000 σ) (k5 : (v3 < σ 22 12) → (zand (zushr (σ 75 v1) v3) 1 = 0) → -2147483648 ≤ v3 + 1 ∧ v3 + 1 < (2147483648 : Int)) (k6 : (v3 < σ 22 12) → (zand (zushr (σ 75 v1) v3) 1 = 0) → zR G MX4_endOf 20 [zr 68, zi v1, zi v2, zi (v3 + 1)] [] σ Q) (k7 : (v3 < σ 22 12) → (zand (zushr (σ 75 v1) v3) 1 ≠ 0) → (σ 27 v3 ≠ (-1)) → -2147483648 ≤ v3 + 1 ∧ v3 + 1 < (2147483648 : Int)) (k8 : (v3 < σ 22 12) → (zand (zushr (σ 75 v1) v3) 1 ≠ 0) → (σ 27 v3 ≠ (-1)) → zR G MX4_endOf 20 [zr 68, zi v1, zi (max v2 (σ 26 v3)), zi (v3 + 1)] [] σ Q) : zR G MX4_endOf 20 [zr 68, zi v1, zi v2, zi v3] [] σ Q := by
  have J75_1 : (v3 < σ 22 12) → (zand (zushr (σ 75 v1) v3) 1 ≠ 0) → (σ 27 v3 ≠ (-1)) → zR G MX4_endOf 75 [zr 68, zi v1, zi (max v2 (σ 26 v3)), zi v3] [] σ Q := by
    intro h1 h2 h3
    have s7 : -2147483648 ≤ v3 + 1 ∧ v3 + 1 < (2147483648 : Int) := k7 h1 h2 h3
    refine z_iincN (ls' := [zr 68, zi v1, zi (max v2 (σ 26 v3)), zi (v3 + 1)]) dX4_endOf_75 rfl (by decide) s7 rfl ?_
    refine z_goto dX4_endOf_78 (tgt := 20) (by decide) ?_
    exact k8 h1 h2 h3
  have J75 : (v3 < σ 22 12) → (zand (zushr (σ 75 v1) v3) 1 = 0) → zR G MX4_endOf 75 [zr 68, zi v1, zi v2, zi v3] [] σ Q := by
    intro h1 h2
    have s5 : -2147483648 ≤ v3 + 1 ∧ v3 + 1 < (2147483648 : Int) := k5 h1 h2
    refine z_iincN (ls' := [zr 68, zi v1, zi v2, zi (v3 + 1)]) dX4_endOf_75 rfl (by decide) s5 rfl ?_
    refine z_goto dX4_endOf_78 (tgt := 20) (by decide) ?_
    exact k6 h1 h2
  refine z_iload_n dX4_endOf_20 rfl rfl ?_
  refine z_aload_n dX4_endOf_21 rfl rfl ?_
  refine z_getfR (k := 0) flRX4_52 rfl rfl dX4_endOf_22 ?_
  refine z_getfI (k := 12) flRX4_61 rfl rfl dX4_endOf_25 ?_
  refine z_icmp_ge dX4_endOf_28 (tgt := 81) (by decide) (fun h1 => ?_) (fun h1 => ?_)
  · skip
    refine z_iload_n dX4_endOf_81 rfl rfl ?_
    refine z_sipush (x := 365) dX4_endOf_82 (by decide +kernel) (by unfold zIn; decide) ?_
    refine z_idiv dX4_endOf_85 (by decide) ?_
    exact z_ireti rfl dX4_endOf_86 (k1 h1)
  · skip
    refine z_aload_n dX4_endOf_31 rfl rfl ?_
    refine z_getfR (k := 7) flRX4_30 rfl rfl dX4_endOf_32 ?_
    refine z_iload_n dX4_endOf_35 rfl rfl ?_
    have s2 : (0 : Int) ≤ v1 ∧ v1 < (8 : Int) := k2 h1
    refine z_iald rfl s2.1 s2.2 dX4_endOf_36 ?_
    refine z_iload_n dX4_endOf_37 rfl rfl ?_
    refine z_iushr dX4_endOf_38 ?_
    refine z_iconst dX4_endOf_39 (by unfold zIn; decide) ?_
    refine z_iand dX4_endOf_40 ?_
    refine z_if_eq dX4_endOf_41 (tgt := 75) (by decide) (fun h2 => ?_) (fun h2 => ?_)
    · skip
      exact J75 h1 h2
    · skip
      refine z_aload_n dX4_endOf_44 rfl rfl ?_
      refine z_getfR (k := 0) flRX4_52 rfl rfl dX4_endOf_45 ?_
      refine z_getfR (k := 4) flRX4_64 rfl rfl dX4_endOf_48 ?_
      refine z_iload_n dX4_endOf_51 rfl rfl ?_
      have s3 : (0 : Int) ≤ v3 ∧ v3 < (24 : Int) := k3 h1 h2
      refine z_iald rfl s3.1 s3.2 dX4_endOf_52 ?_
      refine z_iconst dX4_endOf_53 (by unfold zIn; decide) ?_
      refine z_icmp_ne dX4_endOf_54 (tgt := 61) (by decide) (fun h3 => ?_) (fun h3 => ?_)
      · skip
        refine z_iload_n dX4_endOf_61 rfl rfl ?_
        refine z_aload_n dX4_endOf_62 rfl rfl ?_
        refine z_getfR (k := 0) flRX4_52 rfl rfl dX4_endOf_63 ?_
        refine z_getfR (k := 3) flRX4_67 rfl rfl dX4_endOf_66 ?_
        refine z_iload_n dX4_endOf_69 rfl rfl ?_
        refine z_iald rfl s3.1 s3.2 dX4_endOf_70 ?_
        refine z_max lkRX4_70 (by decide) (by decide) (Nat.le_of_ble_eq_true rfl) dX4_endOf_71 ?_
        refine z_istore_n (ls' := [zr 68, zi v1, zi (max v2 (σ 26 v3)), zi v3]) dX4_endOf_74 rfl (by decide) rfl ?_
        exact J75_1 h1 h2 h3
      · skip
        refine z_sipush (x := 1000) dX4_endOf_57 (by decide +kernel) (by unfold zIn; decide) ?_
        exact z_ireti rfl dX4_endOf_60 (k4 h1 h2 h3)
set_option maxRecDepth 20000 in
set_option maxHeartbeats 1000000 in
theorem TX11_ends {G : zG} {σ : zS} {Q : Int → zS → Prop} {a1 : Int}  (k1 : (¬ ((0 ≤ a1 ∧ a1 < σ 68 11))) → Q (-1) σ) (k2 : ((0 ≤ a1 ∧ a1 < σ 68 11)) → zO G MX4_endOf [zr 68, zi a1] σ (fun rr σ' => zR G MX11_ends 19 [zr 0, zi a1] [zi rr] σ' Q)) : zO G MX11_ends [zr 0, zi a1] σ Q := by
  refine zO_of (ls0 := [zr 0, zi a1]) (by decide) (Nat.le_of_ble_eq_true rfl) rfl ?_
  refine z_aload_n dX11_ends_0 rfl rfl ?_
  refine z_getfR (k := 7) flRX11_70 rfl rfl dX11_ends_1 ?_
  refine z_iload_n dX11_ends_4 rfl rfl ?_
  refine z_callv (as := [zi a1]) (st := []) mkX4_has lkRX11_364 rfl rfl rfl (by decide) (Nat.le_of_ble_eq_true rfl) rfl dX11_ends_5 ?_
  refine SX4_has ?_
  show zR G MX11_ends 8 [zr 0, zi a1] [zi (if (0 ≤ a1 ∧ a1 < σ 68 11) then (1 : Int) else 0)] σ Q
  refine z_if_eq dX11_ends_8 (tgt := 22) (by decide) (fun z => ?_) (fun z => ?_)
  · have h1 : ¬ ((0 ≤ a1 ∧ a1 < σ 68 11)) := zb0 z
    refine z_iconst dX11_ends_22 (by unfold zIn; decide) ?_
    exact z_ireti rfl dX11_ends_23 (k1 h1)
  · have h1 : (0 ≤ a1 ∧ a1 < σ 68 11) := zb1 z
    refine z_aload_n dX11_ends_11 rfl rfl ?_
    refine z_getfR (k := 7) flRX11_70 rfl rfl dX11_ends_12 ?_
    refine z_iload_n dX11_ends_15 rfl rfl ?_
    refine z_callv (as := [zi a1]) (st := []) mkX4_endOf lkRX11_365 rfl rfl rfl (by decide) (Nat.le_of_ble_eq_true rfl) rfl dX11_ends_16 (k2 h1)
set_option maxRecDepth 20000 in
set_option maxHeartbeats 1000000 in
theorem TX11_ends_19 {G : zG} {σ : zS} {Q : Int → zS → Prop} {v1 r : Int}  (k1 : Q r σ) : zR G MX11_ends 19 [zr 0, zi v1] [zi r] σ Q := by
  refine z_goto dX11_ends_19 (tgt := 23) (by decide) ?_
  exact z_ireti rfl dX11_ends_23 (k1)
set_option maxRecDepth 20000 in
set_option maxHeartbeats 1000000 in
theorem TX4_priceIn {G : zG} {σ : zS} {Q : Int → zS → Prop} {a1 : Int}  (k1 : zR G MX4_priceIn 4 [zr 68, zi a1, zi (-1), zi 0] [] σ Q) : zO G MX4_priceIn [zr 68, zi a1] σ Q := by
  refine zO_of (ls0 := [zr 68, zi a1, zu, zu]) (by decide) (Nat.le_of_ble_eq_true rfl) rfl ?_
  refine z_iconst dX4_priceIn_0 (by unfold zIn; decide) ?_
  refine z_istore_n (ls' := [zr 68, zi a1, zi (-1), zu]) dX4_priceIn_1 rfl (by decide) rfl ?_
  refine z_iconst dX4_priceIn_2 (by unfold zIn; decide) ?_
  refine z_istore_n (ls' := [zr 68, zi a1, zi (-1), zi 0]) dX4_priceIn_3 rfl (by decide) rfl ?_
  exact k1
set_option maxRecDepth 20000 in
set_option maxHeartbeats 1000000 in
theorem TX4_priceIn_4 {G : zG} {σ : zS} {Q : Int → zS → Prop} {v1 v2 v3 : Int}  (k1 : (σ 68 12 ≤ v3) → (v2 ≠ (-1)) → (0 : Int) ≤ v2 ∧ v2 < (200 : Int)) (k2 : (σ 68 12 ≤ v3) → (v2 ≠ (-1)) → Q (σ 77 v2) σ) (k3 : (σ 68 12 ≤ v3) → (v2 = (-1)) → Q 0 σ) (k4 : (v3 < σ 68 12) → (0 : Int) ≤ v3 ∧ v3 < (200 : Int)) (k5 : (v3 < σ 68 12) → (σ 76 v3 ≤ v1) → (v2 ≠ (-1)) → (0 : Int) ≤ v2 ∧ v2 < (200 : Int)) (k6 : (v3 < σ 68 12) → (v1 < σ 76 v3 ∨ (σ 76 v3 ≤ v1 ∧ v2 ≠ (-1) ∧ σ 76 v3 ≤ σ 76 v2)) → -2147483648 ≤ v3 + 1 ∧ v3 + 1 < (2147483648 : Int)) (k7 : (v3 < σ 68 12) → (v1 < σ 76 v3 ∨ (σ 76 v3 ≤ v1 ∧ v2 ≠ (-1) ∧ σ 76 v3 ≤ σ 76 v2)) → zR G MX4_priceIn 4 [zr 68, zi v1, zi v2, zi (v3 + 1)] [] σ Q) (k8 : (v3 < σ 68 12) → (σ 76 v3 ≤ v1) → (v2 = (-1) ∨ (v2 ≠ (-1) ∧ σ 76 v2 < σ 76 v3)) → -2147483648 ≤ v3 + 1 ∧ v3 + 1 < (2147483648 : Int)) (k9 : (v3 < σ 68 12) → (σ 76 v3 ≤ v1) → (v2 = (-1) ∨ (v2 ≠ (-1) ∧ σ 76 v2 < σ 76 v3)) → zR G MX4_priceIn 4 [zr 68, zi v1, zi v3, zi (v3 + 1)] [] σ Q) : zR G MX4_priceIn 4 [zr 68, zi v1, zi v2, zi v3] [] σ Q := by
  have J44_1 : (v3 < σ 68 12) → (σ 76 v3 ≤ v1) → (v2 = (-1) ∨ (v2 ≠ (-1) ∧ σ 76 v2 < σ 76 v3)) → zR G MX4_priceIn 44 [zr 68, zi v1, zi v3, zi v3] [] σ Q := by
    intro h1 h3 h6
    have s8 : -2147483648 ≤ v3 + 1 ∧ v3 + 1 < (2147483648 : Int) := k8 h1 h3 h6
    refine z_iincN (ls' := [zr 68, zi v1, zi v3, zi (v3 + 1)]) dX4_priceIn_44 rfl (by decide) s8 rfl ?_
    refine z_goto dX4_priceIn_47 (tgt := 4) (by decide) ?_
    exact k9 h1 h3 h6
  have J44 : (v3 < σ 68 12) → (v1 < σ 76 v3 ∨ (σ 76 v3 ≤ v1 ∧ v2 ≠ (-1) ∧ σ 76 v3 ≤ σ 76 v2)) → zR G MX4_priceIn 44 [zr 68, zi v1, zi v2, zi v3] [] σ Q := by
    intro h1 h7
    have s6 : -2147483648 ≤ v3 + 1 ∧ v3 + 1 < (2147483648 : Int) := k6 h1 h7
    refine z_iincN (ls' := [zr 68, zi v1, zi v2, zi (v3 + 1)]) dX4_priceIn_44 rfl (by decide) s6 rfl ?_
    refine z_goto dX4_priceIn_47 (tgt := 4) (by decide) ?_
    exact k7 h1 h7
  have J42 : (v3 < σ 68 12) → (σ 76 v3 ≤ v1) → (v2 = (-1) ∨ (v2 ≠ (-1) ∧ σ 76 v2 < σ 76 v3)) → zR G MX4_priceIn 42 [zr 68, zi v1, zi v2, zi v3] [] σ Q := by
    intro h1 h3 h6
    refine z_iload_n dX4_priceIn_42 rfl rfl ?_
    refine z_istore_n (ls' := [zr 68, zi v1, zi v3, zi v3]) dX4_priceIn_43 rfl (by decide) rfl ?_
    exact J44_1 h1 h3 h6
  refine z_iload_n dX4_priceIn_4 rfl rfl ?_
  refine z_aload_n dX4_priceIn_5 rfl rfl ?_
  refine z_getfI (k := 12) flRX4_46 rfl rfl dX4_priceIn_6 ?_
  refine z_icmp_ge dX4_priceIn_9 (tgt := 50) (by decide) (fun h1 => ?_) (fun h1 => ?_)
  · skip
    refine z_iload_n dX4_priceIn_50 rfl rfl ?_
    refine z_iconst dX4_priceIn_51 (by unfold zIn; decide) ?_
    refine z_icmp_ne dX4_priceIn_52 (tgt := 59) (by decide) (fun h2 => ?_) (fun h2 => ?_)
    · skip
      refine z_aload_n dX4_priceIn_59 rfl rfl ?_
      refine z_getfR (k := 9) flRX4_36 rfl rfl dX4_priceIn_60 ?_
      refine z_iload_n dX4_priceIn_63 rfl rfl ?_
      have s1 : (0 : Int) ≤ v2 ∧ v2 < (200 : Int) := k1 h1 h2
      refine z_iald rfl s1.1 s1.2 dX4_priceIn_64 ?_
      exact z_ireti rfl dX4_priceIn_65 (k2 h1 h2)
    · skip
      refine z_iconst dX4_priceIn_55 (by unfold zIn; decide) ?_
      refine z_goto dX4_priceIn_56 (tgt := 65) (by decide) ?_
      exact z_ireti rfl dX4_priceIn_65 (k3 h1 h2)
  · skip
    refine z_aload_n dX4_priceIn_12 rfl rfl ?_
    refine z_getfR (k := 8) flRX4_33 rfl rfl dX4_priceIn_13 ?_
    refine z_iload_n dX4_priceIn_16 rfl rfl ?_
    have s4 : (0 : Int) ≤ v3 ∧ v3 < (200 : Int) := k4 h1
    refine z_iald rfl s4.1 s4.2 dX4_priceIn_17 ?_
    refine z_iload_n dX4_priceIn_18 rfl rfl ?_
    refine z_icmp_gt dX4_priceIn_19 (tgt := 44) (by decide) (fun h3 => ?_) (fun h3 => ?_)
    · skip
      exact J44 h1 (Or.inl h3)
    · skip
      refine z_iload_n dX4_priceIn_22 rfl rfl ?_
      refine z_iconst dX4_priceIn_23 (by unfold zIn; decide) ?_
      refine z_icmp_eq dX4_priceIn_24 (tgt := 42) (by decide) (fun h4 => ?_) (fun h4 => ?_)
      · skip
        exact J42 h1 h3 (Or.inl h4)
      · skip
        refine z_aload_n dX4_priceIn_27 rfl rfl ?_
        refine z_getfR (k := 8) flRX4_33 rfl rfl dX4_priceIn_28 ?_
        refine z_iload_n dX4_priceIn_31 rfl rfl ?_
        refine z_iald rfl s4.1 s4.2 dX4_priceIn_32 ?_
        refine z_aload_n dX4_priceIn_33 rfl rfl ?_
        refine z_getfR (k := 8) flRX4_33 rfl rfl dX4_priceIn_34 ?_
        refine z_iload_n dX4_priceIn_37 rfl rfl ?_
        have s5 : (0 : Int) ≤ v2 ∧ v2 < (200 : Int) := k5 h1 h3 h4
        refine z_iald rfl s5.1 s5.2 dX4_priceIn_38 ?_
        refine z_icmp_le dX4_priceIn_39 (tgt := 44) (by decide) (fun h5 => ?_) (fun h5 => ?_)
        · skip
          exact J44 h1 (Or.inr ⟨h3, h4, h5⟩)
        · skip
          exact J42 h1 h3 (Or.inr ⟨h4, h5⟩)
set_option maxRecDepth 20000 in
set_option maxHeartbeats 1000000 in
theorem TX4_reservedIn {G : zG} {σ : zS} {Q : Int → zS → Prop} {a1 a2 : Int}  (k1 : (0 : Int) ≤ a1 ∧ a1 < (8 : Int)) (k2 : -2147483648 ≤ 52 * a2 ∧ 52 * a2 < (2147483648 : Int)) (k3 : -2147483648 ≤ (52 * a2) + σ 72 a1 ∧ (52 * a2) + σ 72 a1 < (2147483648 : Int)) (k4 : zO G MX4_priceIn [zr 68, zi ((52 * a2) + σ 72 a1)] σ (fun rr σ' => zR G MX4_reservedIn 27 [zr 68, zi a1, zi a2] [zi rr, zi (σ 71 a1), zi (σ 70 a1)] σ' Q)) : zO G MX4_reservedIn [zr 68, zi a1, zi a2] σ Q := by
  refine zO_of (ls0 := [zr 68, zi a1, zi a2]) (by decide) (Nat.le_of_ble_eq_true rfl) rfl ?_
  refine z_aload_n dX4_reservedIn_0 rfl rfl ?_
  refine z_getfR (k := 2) flRX4_15 rfl rfl dX4_reservedIn_1 ?_
  refine z_iload_n dX4_reservedIn_4 rfl rfl ?_
  have s1 : (0 : Int) ≤ a1 ∧ a1 < (8 : Int) := k1
  refine z_iald rfl s1.1 s1.2 dX4_reservedIn_5 ?_
  refine z_aload_n dX4_reservedIn_6 rfl rfl ?_
  refine z_getfR (k := 3) flRX4_18 rfl rfl dX4_reservedIn_7 ?_
  refine z_iload_n dX4_reservedIn_10 rfl rfl ?_
  refine z_iald rfl s1.1 s1.2 dX4_reservedIn_11 ?_
  refine z_aload_n dX4_reservedIn_12 rfl rfl ?_
  refine z_bipush (x := 52) dX4_reservedIn_13 (by decide +kernel) (by unfold zIn; decide) ?_
  refine z_iload_n dX4_reservedIn_15 rfl rfl ?_
  have s2 : -2147483648 ≤ 52 * a2 ∧ 52 * a2 < (2147483648 : Int) := k2
  refine z_imulN dX4_reservedIn_16 s2 ?_
  refine z_aload_n dX4_reservedIn_17 rfl rfl ?_
  refine z_getfR (k := 4) flRX4_21 rfl rfl dX4_reservedIn_18 ?_
  refine z_iload_n dX4_reservedIn_21 rfl rfl ?_
  refine z_iald rfl s1.1 s1.2 dX4_reservedIn_22 ?_
  have s3 : -2147483648 ≤ (52 * a2) + σ 72 a1 ∧ (52 * a2) + σ 72 a1 < (2147483648 : Int) := k3
  refine z_iaddN dX4_reservedIn_23 s3 ?_
  refine z_callv (as := [zi ((52 * a2) + σ 72 a1)]) (st := [zi (σ 71 a1), zi (σ 70 a1)]) mkX4_priceIn lkRX4_76 rfl rfl rfl (by decide) (Nat.le_of_ble_eq_true rfl) rfl dX4_reservedIn_24 (k4)
set_option maxRecDepth 20000 in
set_option maxHeartbeats 1000000 in
theorem TX4_reservedIn_27 {G : zG} {σ : zS} {Q : Int → zS → Prop} {v1 v2 r t1 t2 : Int}  (k1 : -2147483648 ≤ t1 * r ∧ t1 * r < (2147483648 : Int)) (k2 : -2147483648 ≤ t2 + (zdiv (t1 * r) 10) ∧ t2 + (zdiv (t1 * r) 10) < (2147483648 : Int)) (k3 : Q (t2 + (zdiv (t1 * r) 10)) σ) : zR G MX4_reservedIn 27 [zr 68, zi v1, zi v2] [zi r, zi t1, zi t2] σ Q := by
  have s1 : -2147483648 ≤ t1 * r ∧ t1 * r < (2147483648 : Int) := k1
  refine z_imulN dX4_reservedIn_27 s1 ?_
  refine z_bipush (x := 10) dX4_reservedIn_28 (by decide +kernel) (by unfold zIn; decide) ?_
  refine z_idiv dX4_reservedIn_30 (by decide) ?_
  have s2 : -2147483648 ≤ t2 + (zdiv (t1 * r) 10) ∧ t2 + (zdiv (t1 * r) 10) < (2147483648 : Int) := k2
  refine z_iaddN dX4_reservedIn_31 s2 ?_
  exact z_ireti rfl dX4_reservedIn_32 (k3)
