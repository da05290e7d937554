set_option maxRecDepth 20000 in
set_option maxHeartbeats 1000000 in
theorem TX12_copy {G : zG} {σ : zS} {Q : Int → zS → Prop} {a1 a2 a3 a4 a5 : Int}  (k1 : ((0 ≤ a1 ∧ a1 < 10)) → ((0 ≤ a2 ∧ a2 < 10)) → (0 : Int) ≤ a1 ∧ a1 < (10 : Int)) (k2 : ((0 ≤ a1 ∧ a1 < 10)) → ((0 ≤ a2 ∧ a2 < 10)) → (σ 111 a1 ≠ 2) → (0 : Int) ≤ a2 ∧ a2 < (10 : Int)) (k3 : ((¬ ((0 ≤ a1 ∧ a1 < 10))) ∨ (((0 ≤ a1 ∧ a1 < 10)) ∧ (¬ ((0 ≤ a2 ∧ a2 < 10))))) → -2147483648 ≤ -(-1) ∧ -(-1) < (2147483648 : Int)) (k4 : ((¬ ((0 ≤ a1 ∧ a1 < 10))) ∨ (((0 ≤ a1 ∧ a1 < 10)) ∧ (¬ ((0 ≤ a2 ∧ a2 < 10))))) → (0 : Int) ≤ -(-1) ∧ -(-1) < (8 : Int)) (k5 : ((¬ ((0 ≤ a1 ∧ a1 < 10))) ∨ (((0 ≤ a1 ∧ a1 < 10)) ∧ (¬ ((0 ≤ a2 ∧ a2 < 10))))) → -2147483648 ≤ (σ 157 (-(-1))) + 1 ∧ (σ 157 (-(-1))) + 1 < (2147483648 : Int)) (k6 : ((¬ ((0 ≤ a1 ∧ a1 < 10))) ∨ (((0 ≤ a1 ∧ a1 < 10)) ∧ (¬ ((0 ≤ a2 ∧ a2 < 10))))) → Q (-1) (zup σ 157 (-(-1)) ((σ 157 (-(-1))) + 1))) (k7 : ((0 ≤ a1 ∧ a1 < 10)) → ((0 ≤ a2 ∧ a2 < 10)) → (σ 111 a1 = 2 ∨ (σ 111 a1 ≠ 2 ∧ σ 111 a2 = 2) ∨ (σ 111 a1 ≠ 2 ∧ σ 111 a2 ≠ 2 ∧ σ 111 a1 = 1 ∧ σ 111 a2 = 1 ∧ σ 112 a1 ≠ σ 112 a2)) → -2147483648 ≤ -(-2) ∧ -(-2) < (2147483648 : Int)) (k8 : ((0 ≤ a1 ∧ a1 < 10)) → ((0 ≤ a2 ∧ a2 < 10)) → (σ 111 a1 = 2 ∨ (σ 111 a1 ≠ 2 ∧ σ 111 a2 = 2) ∨ (σ 111 a1 ≠ 2 ∧ σ 111 a2 ≠ 2 ∧ σ 111 a1 = 1 ∧ σ 111 a2 = 1 ∧ σ 112 a1 ≠ σ 112 a2)) → (0 : Int) ≤ -(-2) ∧ -(-2) < (8 : Int)) (k9 : ((0 ≤ a1 ∧ a1 < 10)) → ((0 ≤ a2 ∧ a2 < 10)) → (σ 111 a1 = 2 ∨ (σ 111 a1 ≠ 2 ∧ σ 111 a2 = 2) ∨ (σ 111 a1 ≠ 2 ∧ σ 111 a2 ≠ 2 ∧ σ 111 a1 = 1 ∧ σ 111 a2 = 1 ∧ σ 112 a1 ≠ σ 112 a2)) → -2147483648 ≤ (σ 157 (-(-2))) + 1 ∧ (σ 157 (-(-2))) + 1 < (2147483648 : Int)) (k10 : ((0 ≤ a1 ∧ a1 < 10)) → ((0 ≤ a2 ∧ a2 < 10)) → (σ 111 a1 = 2 ∨ (σ 111 a1 ≠ 2 ∧ σ 111 a2 = 2) ∨ (σ 111 a1 ≠ 2 ∧ σ 111 a2 ≠ 2 ∧ σ 111 a1 = 1 ∧ σ 111 a2 = 1 ∧ σ 112 a1 ≠ σ 112 a2)) → Q (-2) (zup σ 157 (-(-2)) ((σ 157 (-(-2))) + 1))) (k11 : ((0 ≤ a1 ∧ a1 < 10)) → ((0 ≤ a2 ∧ a2 < 10)) → (σ 111 a1 ≠ 2) → (σ 111 a2 ≠ 2) → (σ 111 a1 ≠ 1 ∨ (σ 111 a1 = 1 ∧ σ 111 a2 ≠ 1) ∨ (σ 111 a1 = 1 ∧ σ 111 a2 = 1 ∧ σ 112 a1 = σ 112 a2)) → (0 : Int) ≤ a1 ∧ a1 < (10 : Int)) (k12 : ((0 ≤ a1 ∧ a1 < 10)) → ((0 ≤ a2 ∧ a2 < 10)) → (σ 111 a1 ≠ 2) → (σ 111 a2 ≠ 2) → (σ 111 a1 ≠ 1 ∨ (σ 111 a1 = 1 ∧ σ 111 a2 ≠ 1) ∨ (σ 111 a1 = 1 ∧ σ 111 a2 = 1 ∧ σ 112 a1 = σ 112 a2)) → (σ 111 a1 ≠ 0) → (0 : Int) ≤ a2 ∧ a2 < (10 : Int)) (k13 : ((0 ≤ a1 ∧ a1 < 10)) → ((0 ≤ a2 ∧ a2 < 10)) → (σ 111 a1 ≠ 2) → (σ 111 a2 ≠ 2) → (σ 111 a1 ≠ 1 ∨ (σ 111 a1 = 1 ∧ σ 111 a2 ≠ 1) ∨ (σ 111 a1 = 1 ∧ σ 111 a2 = 1 ∧ σ 112 a1 = σ 112 a2)) → (σ 111 a1 ≠ 0) → (σ 111 a2 ≠ 0) → (0 ≤ a5) → (0 ≤ a3) → (0 ≤ a4) → -2147483648 ≤ σ 113 a1 - a5 ∧ σ 113 a1 - a5 < (2147483648 : Int)) (k14 : ((0 ≤ a1 ∧ a1 < 10)) → ((0 ≤ a2 ∧ a2 < 10)) → (σ 111 a1 ≠ 2) → (σ 111 a2 ≠ 2) → (σ 111 a1 ≠ 1 ∨ (σ 111 a1 = 1 ∧ σ 111 a2 ≠ 1) ∨ (σ 111 a1 = 1 ∧ σ 111 a2 = 1 ∧ σ 112 a1 = σ 112 a2)) → (σ 111 a1 ≠ 0) → (σ 111 a2 ≠ 0) → (0 ≤ a5) → (0 ≤ a3) → (0 ≤ a4) → (a3 ≤ σ 113 a1 - a5) → -2147483648 ≤ σ 113 a2 - a5 ∧ σ 113 a2 - a5 < (2147483648 : Int)) (k15 : ((0 ≤ a1 ∧ a1 < 10)) → ((0 ≤ a2 ∧ a2 < 10)) → (σ 111 a1 ≠ 2) → (σ 111 a2 ≠ 2) → (σ 111 a1 ≠ 1 ∨ (σ 111 a1 = 1 ∧ σ 111 a2 ≠ 1) ∨ (σ 111 a1 = 1 ∧ σ 111 a2 = 1 ∧ σ 112 a1 = σ 112 a2)) → (σ 111 a1 ≠ 0) → (σ 111 a2 ≠ 0) → (0 ≤ a5) → (0 ≤ a3) → (0 ≤ a4) → (a3 ≤ σ 113 a1 - a5) → (a4 ≤ σ 113 a2 - a5) → zR G MX12_copy 165 [zr 98, zi a1, zi a2, zi a3, zi a4, zi a5, zi 0] [] σ Q) (k16 : ((0 ≤ a1 ∧ a1 < 10)) → ((0 ≤ a2 ∧ a2 < 10)) → (σ 111 a1 ≠ 2) → (σ 111 a2 ≠ 2) → (σ 111 a1 ≠ 1 ∨ (σ 111 a1 = 1 ∧ σ 111 a2 ≠ 1) ∨ (σ 111 a1 = 1 ∧ σ 111 a2 = 1 ∧ σ 112 a1 = σ 112 a2)) → (σ 111 a1 ≠ 0) → (σ 111 a2 ≠ 0) → (a5 < 0) → -2147483648 ≤ -(-4) ∧ -(-4) < (2147483648 : Int)) (k17 : ((0 ≤ a1 ∧ a1 < 10)) → ((0 ≤ a2 ∧ a2 < 10)) → (σ 111 a1 ≠ 2) → (σ 111 a2 ≠ 2) → (σ 111 a1 ≠ 1 ∨ (σ 111 a1 = 1 ∧ σ 111 a2 ≠ 1) ∨ (σ 111 a1 = 1 ∧ σ 111 a2 = 1 ∧ σ 112 a1 = σ 112 a2)) → (σ 111 a1 ≠ 0) → (σ 111 a2 ≠ 0) → (a5 < 0) → (0 : Int) ≤ -(-4) ∧ -(-4) < (8 : Int)) (k18 : ((0 ≤ a1 ∧ a1 < 10)) → ((0 ≤ a2 ∧ a2 < 10)) → (σ 111 a1 ≠ 2) → (σ 111 a2 ≠ 2) → (σ 111 a1 ≠ 1 ∨ (σ 111 a1 = 1 ∧ σ 111 a2 ≠ 1) ∨ (σ 111 a1 = 1 ∧ σ 111 a2 = 1 ∧ σ 112 a1 = σ 112 a2)) → (σ 111 a1 ≠ 0) → (σ 111 a2 ≠ 0) → (a5 < 0) → -2147483648 ≤ (σ 157 (-(-4))) + 1 ∧ (σ 157 (-(-4))) + 1 < (2147483648 : Int)) (k19 : ((0 ≤ a1 ∧ a1 < 10)) → ((0 ≤ a2 ∧ a2 < 10)) → (σ 111 a1 ≠ 2) → (σ 111 a2 ≠ 2) → (σ 111 a1 ≠ 1 ∨ (σ 111 a1 = 1 ∧ σ 111 a2 ≠ 1) ∨ (σ 111 a1 = 1 ∧ σ 111 a2 = 1 ∧ σ 112 a1 = σ 112 a2)) → (σ 111 a1 ≠ 0) → (σ 111 a2 ≠ 0) → (a5 < 0) → Q (-4) (zup σ 157 (-(-4)) ((σ 157 (-(-4))) + 1))) (k20 : ((0 ≤ a1 ∧ a1 < 10)) → ((0 ≤ a2 ∧ a2 < 10)) → (σ 111 a1 ≠ 2) → (σ 111 a2 ≠ 2) → (σ 111 a1 ≠ 1 ∨ (σ 111 a1 = 1 ∧ σ 111 a2 ≠ 1) ∨ (σ 111 a1 = 1 ∧ σ 111 a2 = 1 ∧ σ 112 a1 = σ 112 a2)) → (σ 111 a1 = 0 ∨ (σ 111 a1 ≠ 0 ∧ σ 111 a2 = 0)) → -2147483648 ≤ -(-3) ∧ -(-3) < (2147483648 : Int)) (k21 : ((0 ≤ a1 ∧ a1 < 10)) → ((0 ≤ a2 ∧ a2 < 10)) → (σ 111 a1 ≠ 2) → (σ 111 a2 ≠ 2) → (σ 111 a1 ≠ 1 ∨ (σ 111 a1 = 1 ∧ σ 111 a2 ≠ 1) ∨ (σ 111 a1 = 1 ∧ σ 111 a2 = 1 ∧ σ 112 a1 = σ 112 a2)) → (σ 111 a1 = 0 ∨ (σ 111 a1 ≠ 0 ∧ σ 111 a2 = 0)) → (0 : Int) ≤ -(-3) ∧ -(-3) < (8 : Int)) (k22 : ((0 ≤ a1 ∧ a1 < 10)) → ((0 ≤ a2 ∧ a2 < 10)) → (σ 111 a1 ≠ 2) → (σ 111 a2 ≠ 2) → (σ 111 a1 ≠ 1 ∨ (σ 111 a1 = 1 ∧ σ 111 a2 ≠ 1) ∨ (σ 111 a1 = 1 ∧ σ 111 a2 = 1 ∧ σ 112 a1 = σ 112 a2)) → (σ 111 a1 = 0 ∨ (σ 111 a1 ≠ 0 ∧ σ 111 a2 = 0)) → -2147483648 ≤ (σ 157 (-(-3))) + 1 ∧ (σ 157 (-(-3))) + 1 < (2147483648 : Int)) (k23 : ((0 ≤ a1 ∧ a1 < 10)) → ((0 ≤ a2 ∧ a2 < 10)) → (σ 111 a1 ≠ 2) → (σ 111 a2 ≠ 2) → (σ 111 a1 ≠ 1 ∨ (σ 111 a1 = 1 ∧ σ 111 a2 ≠ 1) ∨ (σ 111 a1 = 1 ∧ σ 111 a2 = 1 ∧ σ 112 a1 = σ 112 a2)) → (σ 111 a1 = 0 ∨ (σ 111 a1 ≠ 0 ∧ σ 111 a2 = 0)) → Q (-3) (zup σ 157 (-(-3)) ((σ 157 (-(-3))) + 1))) (k24 : ((0 ≤ a1 ∧ a1 < 10)) → ((0 ≤ a2 ∧ a2 < 10)) → (σ 111 a1 ≠ 2) → (σ 111 a2 ≠ 2) → (σ 111 a1 ≠ 1 ∨ (σ 111 a1 = 1 ∧ σ 111 a2 ≠ 1) ∨ (σ 111 a1 = 1 ∧ σ 111 a2 = 1 ∧ σ 112 a1 = σ 112 a2)) → (σ 111 a1 ≠ 0) → (σ 111 a2 ≠ 0) → (0 ≤ a5) → (a3 < 0 ∨ (0 ≤ a3 ∧ a4 < 0) ∨ (0 ≤ a3 ∧ 0 ≤ a4 ∧ σ 113 a1 - a5 < a3) ∨ (0 ≤ a3 ∧ 0 ≤ a4 ∧ a3 ≤ σ 113 a1 - a5 ∧ σ 113 a2 - a5 < a4)) → -2147483648 ≤ -(-5) ∧ -(-5) < (2147483648 : Int)) (k25 : ((0 ≤ a1 ∧ a1 < 10)) → ((0 ≤ a2 ∧ a2 < 10)) → (σ 111 a1 ≠ 2) → (σ 111 a2 ≠ 2) → (σ 111 a1 ≠ 1 ∨ (σ 111 a1 = 1 ∧ σ 111 a2 ≠ 1) ∨ (σ 111 a1 = 1 ∧ σ 111 a2 = 1 ∧ σ 112 a1 = σ 112 a2)) → (σ 111 a1 ≠ 0) → (σ 111 a2 ≠ 0) → (0 ≤ a5) → (a3 < 0 ∨ (0 ≤ a3 ∧ a4 < 0) ∨ (0 ≤ a3 ∧ 0 ≤ a4 ∧ σ 113 a1 - a5 < a3) ∨ (0 ≤ a3 ∧ 0 ≤ a4 ∧ a3 ≤ σ 113 a1 - a5 ∧ σ 113 a2 - a5 < a4)) → (0 : Int) ≤ -(-5) ∧ -(-5) < (8 : Int)) (k26 : ((0 ≤ a1 ∧ a1 < 10)) → ((0 ≤ a2 ∧ a2 < 10)) → (σ 111 a1 ≠ 2) → (σ 111 a2 ≠ 2) → (σ 111 a1 ≠ 1 ∨ (σ 111 a1 = 1 ∧ σ 111 a2 ≠ 1) ∨ (σ 111 a1 = 1 ∧ σ 111 a2 = 1 ∧ σ 112 a1 = σ 112 a2)) → (σ 111 a1 ≠ 0) → (σ 111 a2 ≠ 0) → (0 ≤ a5) → (a3 < 0 ∨ (0 ≤ a3 ∧ a4 < 0) ∨ (0 ≤ a3 ∧ 0 ≤ a4 ∧ σ 113 a1 - a5 < a3) ∨ (0 ≤ a3 ∧ 0 ≤ a4 ∧ a3 ≤ σ 113 a1 - a5 ∧ σ 113 a2 - a5 < a4)) → -2147483648 ≤ (σ 157 (-(-5))) + 1 ∧ (σ 157 (-(-5))) + 1 < (2147483648 : Int)) (k27 : ((0 ≤ a1 ∧ a1 < 10)) → ((0 ≤ a2 ∧ a2 < 10)) → (σ 111 a1 ≠ 2) → (σ 111 a2 ≠ 2) → (σ 111 a1 ≠ 1 ∨ (σ 111 a1 = 1 ∧ σ 111 a2 ≠ 1) ∨ (σ 111 a1 = 1 ∧ σ 111 a2 = 1 ∧ σ 112 a1 = σ 112 a2)) → (σ 111 a1 ≠ 0) → (σ 111 a2 ≠ 0) → (0 ≤ a5) → (a3 < 0 ∨ (0 ≤ a3 ∧ a4 < 0) ∨ (0 ≤ a3 ∧ 0 ≤ a4 ∧ σ 113 a1 - a5 < a3) ∨ (0 ≤ a3 ∧ 0 ≤ a4 ∧ a3 ≤ σ 113 a1 - a5 ∧ σ 113 a2 - a5 < a4)) → Q (-5) (zup σ 157 (-(-5)) ((σ 157 (-(-5))) + 1))) : zO G MX12_copy [zr 98, zi a1, zi a2, zi a3, zi a4, zi a5] σ Q := by
  refine zO_of (ls0 := [zr 98, zi a1, zi a2, zi a3, zi a4, zi a5, zu]) (by decide) (Nat.le_of_ble_eq_true rfl) rfl ?_
  have J155 : ((0 ≤ a1 ∧ a1 < 10)) → ((0 ≤ a2 ∧ a2 < 10)) → (σ 111 a1 ≠ 2) → (σ 111 a2 ≠ 2) → (σ 111 a1 ≠ 1 ∨ (σ 111 a1 = 1 ∧ σ 111 a2 ≠ 1) ∨ (σ 111 a1 = 1 ∧ σ 111 a2 = 1 ∧ σ 112 a1 = σ 112 a2)) → (σ 111 a1 ≠ 0) → (σ 111 a2 ≠ 0) → (0 ≤ a5) → (a3 < 0 ∨ (0 ≤ a3 ∧ a4 < 0) ∨ (0 ≤ a3 ∧ 0 ≤ a4 ∧ σ 113 a1 - a5 < a3) ∨ (0 ≤ a3 ∧ 0 ≤ a4 ∧ a3 ≤ σ 113 a1 - a5 ∧ σ 113 a2 - a5 < a4)) → zR G MX12_copy 155 [zr 98, zi a1, zi a2, zi a3, zi a4, zi a5, zu] [] σ Q := by
    intro h1 h2 h3 h4 h10 h11 h12 h13 h19
    refine z_aload_n dX12_copy_155 rfl rfl ?_
    refine z_bipush (x := (-5)) dX12_copy_156 (by decide +kernel) (by unfold zIn; decide) ?_
    have s24 : -2147483648 ≤ -(-5) ∧ -(-5) < (2147483648 : Int) := k24 h1 h2 h3 h4 h10 h11 h12 h13 h19
    have s25 : (0 : Int) ≤ -(-5) ∧ -(-5) < (8 : Int) := k25 h1 h2 h3 h4 h10 h11 h12 h13 h19
    have s26 : -2147483648 ≤ (σ 157 (-(-5))) + 1 ∧ (σ 157 (-(-5))) + 1 < (2147483648 : Int) := k26 h1 h2 h3 h4 h10 h11 h12 h13 h19
    refine z_callv (as := [zi (-5)]) (st := []) mkX12_no lkRX12_267 rfl rfl rfl (by decide) (Nat.le_of_ble_eq_true rfl) rfl dX12_copy_158 ?_
    refine SX12_no s24 s25 s26 ?_
    show zR G MX12_copy 161 [zr 98, zi a1, zi a2, zi a3, zi a4, zi a5, zu] [zi (-5)] (zup σ 157 (-(-5)) ((σ 157 (-(-5))) + 1)) Q
    exact z_ireti rfl dX12_copy_161 (k27 h1 h2 h3 h4 h10 h11 h12 h13 h19)
  have J100 : ((0 ≤ a1 ∧ a1 < 10)) → ((0 ≤ a2 ∧ a2 < 10)) → (σ 111 a1 ≠ 2) → (σ 111 a2 ≠ 2) → (σ 111 a1 ≠ 1 ∨ (σ 111 a1 = 1 ∧ σ 111 a2 ≠ 1) ∨ (σ 111 a1 = 1 ∧ σ 111 a2 = 1 ∧ σ 112 a1 = σ 112 a2)) → (σ 111 a1 = 0 ∨ (σ 111 a1 ≠ 0 ∧ σ 111 a2 = 0)) → zR G MX12_copy 100 [zr 98, zi a1, zi a2, zi a3, zi a4, zi a5, zu] [] σ Q := by
    intro h1 h2 h3 h4 h10 h18
    refine z_aload_n dX12_copy_100 rfl rfl ?_
    refine z_bipush (x := (-3)) dX12_copy_101 (by decide +kernel) (by unfold zIn; decide) ?_
    have s20 : -2147483648 ≤ -(-3) ∧ -(-3) < (2147483648 : Int) := k20 h1 h2 h3 h4 h10 h18
    have s21 : (0 : Int) ≤ -(-3) ∧ -(-3) < (8 : Int) := k21 h1 h2 h3 h4 h10 h18
    have s22 : -2147483648 ≤ (σ 157 (-(-3))) + 1 ∧ (σ 157 (-(-3))) + 1 < (2147483648 : Int) := k22 h1 h2 h3 h4 h10 h18
    refine z_callv (as := [zi (-3)]) (st := []) mkX12_no lkRX12_267 rfl rfl rfl (by decide) (Nat.le_of_ble_eq_true rfl) rfl dX12_copy_103 ?_
    refine SX12_no s20 s21 s22 ?_
    show zR G MX12_copy 106 [zr 98, zi a1, zi a2, zi a3, zi a4, zi a5, zu] [zi (-3)] (zup σ 157 (-(-3)) ((σ 157 (-(-3))) + 1)) Q
    exact z_ireti rfl dX12_copy_106 (k23 h1 h2 h3 h4 h10 h18)
  have J82 : ((0 ≤ a1 ∧ a1 < 10)) → ((0 ≤ a2 ∧ a2 < 10)) → (σ 111 a1 ≠ 2) → (σ 111 a2 ≠ 2) → (σ 111 a1 ≠ 1 ∨ (σ 111 a1 = 1 ∧ σ 111 a2 ≠ 1) ∨ (σ 111 a1 = 1 ∧ σ 111 a2 = 1 ∧ σ 112 a1 = σ 112 a2)) → zR G MX12_copy 82 [zr 98, zi a1, zi a2, zi a3, zi a4, zi a5, zu] [] σ Q := by
    intro h1 h2 h3 h4 h10
    refine z_aload_n dX12_copy_82 rfl rfl ?_
    refine z_getfR (k := 25) flRX12_51 rfl rfl dX12_copy_83 ?_
    refine z_iload_n dX12_copy_86 rfl rfl ?_
    have s11 : (0 : Int) ≤ a1 ∧ a1 < (10 : Int) := k11 h1 h2 h3 h4 h10
    refine z_iald rfl s11.1 s11.2 dX12_copy_87 ?_
    refine z_if_eq dX12_copy_88 (tgt := 100) (by decide) (fun h11 => ?_) (fun h11 => ?_)
    · skip
      exact J100 h1 h2 h3 h4 h10 (Or.inl h11)
    · skip
      refine z_aload_n dX12_copy_91 rfl rfl ?_
      refine z_getfR (k := 25) flRX12_51 rfl rfl dX12_copy_92 ?_
      refine z_iload_n dX12_copy_95 rfl rfl ?_
      have s12 : (0 : Int) ≤ a2 ∧ a2 < (10 : Int) := k12 h1 h2 h3 h4 h10 h11
      refine z_iald rfl s12.1 s12.2 dX12_copy_96 ?_
      refine z_if_ne dX12_copy_97 (tgt := 107) (by decide) (fun h12 => ?_) (fun h12 => ?_)
      · skip
        refine z_iload dX12_copy_107 rfl ?_
        refine z_if_ge dX12_copy_109 (tgt := 119) (by decide) (fun h13 => ?_) (fun h13 => ?_)
        · skip
          refine z_iload_n dX12_copy_119 rfl rfl ?_
          refine z_if_lt dX12_copy_120 (tgt := 155) (by decide) (fun h14 => ?_) (fun h14 => ?_)
          · skip
            exact J155 h1 h2 h3 h4 h10 h11 h12 h13 (Or.inl h14)
          · skip
            refine z_iload dX12_copy_123 rfl ?_
            refine z_if_lt dX12_copy_125 (tgt := 155) (by decide) (fun h15 => ?_) (fun h15 => ?_)
            · skip
              exact J155 h1 h2 h3 h4 h10 h11 h12 h13 (Or.inr (Or.inl ⟨h14, h15⟩))
            · skip
              refine z_iload_n dX12_copy_128 rfl rfl ?_
              refine z_aload_n dX12_copy_129 rfl rfl ?_
              refine z_getfR (k := 27) flRX12_57 rfl rfl dX12_copy_130 ?_
              refine z_iload_n dX12_copy_133 rfl rfl ?_
              refine z_iald rfl s11.1 s11.2 dX12_copy_134 ?_
              refine z_iload dX12_copy_135 rfl ?_
              have s13 : -2147483648 ≤ σ 113 a1 - a5 ∧ σ 113 a1 - a5 < (2147483648 : Int) := k13 h1 h2 h3 h4 h10 h11 h12 h13 h14 h15
              refine z_isubN dX12_copy_137 s13 ?_
              refine z_icmp_gt dX12_copy_138 (tgt := 155) (by decide) (fun h16 => ?_) (fun h16 => ?_)
              · skip
                exact J155 h1 h2 h3 h4 h10 h11 h12 h13 (Or.inr (Or.inr (Or.inl ⟨h14, h15, h16⟩)))
              · skip
                refine z_iload dX12_copy_141 rfl ?_
                refine z_aload_n dX12_copy_143 rfl rfl ?_
                refine z_getfR (k := 27) flRX12_57 rfl rfl dX12_copy_144 ?_
                refine z_iload_n dX12_copy_147 rfl rfl ?_
                refine z_iald rfl s12.1 s12.2 dX12_copy_148 ?_
                refine z_iload dX12_copy_149 rfl ?_
                have s14 : -2147483648 ≤ σ 113 a2 - a5 ∧ σ 113 a2 - a5 < (2147483648 : Int) := k14 h1 h2 h3 h4 h10 h11 h12 h13 h14 h15 h16
                refine z_isubN dX12_copy_151 s14 ?_
                refine z_icmp_le dX12_copy_152 (tgt := 162) (by decide) (fun h17 => ?_) (fun h17 => ?_)
                · skip
                  refine z_iconst dX12_copy_162 (by unfold zIn; decide) ?_
                  refine z_istore (ls' := [zr 98, zi a1, zi a2, zi a3, zi a4, zi a5, zi 0]) dX12_copy_163 (by decide) rfl ?_
                  exact k15 h1 h2 h3 h4 h10 h11 h12 h13 h14 h15 h16 h17
                · skip
                  exact J155 h1 h2 h3 h4 h10 h11 h12 h13 (Or.inr (Or.inr (Or.inr ⟨h14, h15, h16, h17⟩)))
        · skip
          refine z_aload_n dX12_copy_112 rfl rfl ?_
          refine z_bipush (x := (-4)) dX12_copy_113 (by decide +kernel) (by unfold zIn; decide) ?_
          have s16 : -2147483648 ≤ -(-4) ∧ -(-4) < (2147483648 : Int) := k16 h1 h2 h3 h4 h10 h11 h12 h13
          have s17 : (0 : Int) ≤ -(-4) ∧ -(-4) < (8 : Int) := k17 h1 h2 h3 h4 h10 h11 h12 h13
          have s18 : -2147483648 ≤ (σ 157 (-(-4))) + 1 ∧ (σ 157 (-(-4))) + 1 < (2147483648 : Int) := k18 h1 h2 h3 h4 h10 h11 h12 h13
          refine z_callv (as := [zi (-4)]) (st := []) mkX12_no lkRX12_267 rfl rfl rfl (by decide) (Nat.le_of_ble_eq_true rfl) rfl dX12_copy_115 ?_
          refine SX12_no s16 s17 s18 ?_
          show zR G MX12_copy 118 [zr 98, zi a1, zi a2, zi a3, zi a4, zi a5, zu] [zi (-4)] (zup σ 157 (-(-4)) ((σ 157 (-(-4))) + 1)) Q
          exact z_ireti rfl dX12_copy_118 (k19 h1 h2 h3 h4 h10 h11 h12 h13)
      · skip
        exact J100 h1 h2 h3 h4 h10 (Or.inr ⟨h11, h12⟩)
  have J75 : ((0 ≤ a1 ∧ a1 < 10)) → ((0 ≤ a2 ∧ a2 < 10)) → (σ 111 a1 = 2 ∨ (σ 111 a1 ≠ 2 ∧ σ 111 a2 = 2) ∨ (σ 111 a1 ≠ 2 ∧ σ 111 a2 ≠ 2 ∧ σ 111 a1 = 1 ∧ σ 111 a2 = 1 ∧ σ 112 a1 ≠ σ 112 a2)) → zR G MX12_copy 75 [zr 98, zi a1, zi a2, zi a3, zi a4, zi a5, zu] [] σ Q := by
    intro h1 h2 h9
    refine z_aload_n dX12_copy_75 rfl rfl ?_
    refine z_bipush (x := (-2)) dX12_copy_76 (by decide +kernel) (by unfold zIn; decide) ?_
    have s7 : -2147483648 ≤ -(-2) ∧ -(-2) < (2147483648 : Int) := k7 h1 h2 h9
    have s8 : (0 : Int) ≤ -(-2) ∧ -(-2) < (8 : Int) := k8 h1 h2 h9
    have s9 : -2147483648 ≤ (σ 157 (-(-2))) + 1 ∧ (σ 157 (-(-2))) + 1 < (2147483648 : Int) := k9 h1 h2 h9
    refine z_callv (as := [zi (-2)]) (st := []) mkX12_no lkRX12_267 rfl rfl rfl (by decide) (Nat.le_of_ble_eq_true rfl) rfl dX12_copy_78 ?_
    refine SX12_no s7 s8 s9 ?_
    show zR G MX12_copy 81 [zr 98, zi a1, zi a2, zi a3, zi a4, zi a5, zu] [zi (-2)] (zup σ 157 (-(-2)) ((σ 157 (-(-2))) + 1)) Q
    exact z_ireti rfl dX12_copy_81 (k10 h1 h2 h9)
  have J14 : ((¬ ((0 ≤ a1 ∧ a1 < 10))) ∨ (((0 ≤ a1 ∧ a1 < 10)) ∧ (¬ ((0 ≤ a2 ∧ a2 < 10))))) → zR G MX12_copy 14 [zr 98, zi a1, zi a2, zi a3, zi a4, zi a5, zu] [] σ Q := by
    intro h8
    refine z_aload_n dX12_copy_14 rfl rfl ?_
    refine z_iconst dX12_copy_15 (by unfold zIn; decide) ?_
    have s3 : -2147483648 ≤ -(-1) ∧ -(-1) < (2147483648 : Int) := k3 h8
    have s4 : (0 : Int) ≤ -(-1) ∧ -(-1) < (8 : Int) := k4 h8
    have s5 : -2147483648 ≤ (σ 157 (-(-1))) + 1 ∧ (σ 157 (-(-1))) + 1 < (2147483648 : Int) := k5 h8
    refine z_callv (as := [zi (-1)]) (st := []) mkX12_no lkRX12_267 rfl rfl rfl (by decide) (Nat.le_of_ble_eq_true rfl) rfl dX12_copy_16 ?_
    refine SX12_no s3 s4 s5 ?_
    show zR G MX12_copy 19 [zr 98, zi a1, zi a2, zi a3, zi a4, zi a5, zu] [zi (-1)] (zup σ 157 (-(-1)) ((σ 157 (-(-1))) + 1)) Q
    exact z_ireti rfl dX12_copy_19 (k6 h8)
  refine z_iload_n dX12_copy_0 rfl rfl ?_
  refine z_calls (as := [zi a1]) (st := []) mkX12_isShelf lkRX12_293 rfl (by decide) (Nat.le_of_ble_eq_true rfl) rfl dX12_copy_1 ?_
  refine SX12_isShelf ?_
  show zR G MX12_copy 4 [zr 98, zi a1, zi a2, zi a3, zi a4, zi a5, zu] [zi (if (0 ≤ a1 ∧ a1 < 10) then (1 : Int) else 0)] σ Q
  refine z_if_eq dX12_copy_4 (tgt := 14) (by decide) (fun z => ?_) (fun z => ?_)
  · have h1 : ¬ ((0 ≤ a1 ∧ a1 < 10)) := zb0 z
    exact J14 (Or.inl h1)
  · have h1 : (0 ≤ a1 ∧ a1 < 10) := zb1 z
    refine z_iload_n dX12_copy_7 rfl rfl ?_
    refine z_calls (as := [zi a2]) (st := []) mkX12_isShelf lkRX12_293 rfl (by decide) (Nat.le_of_ble_eq_true rfl) rfl dX12_copy_8 ?_
    refine SX12_isShelf ?_
    show zR G MX12_copy 11 [zr 98, zi a1, zi a2, zi a3, zi a4, zi a5, zu] [zi (if (0 ≤ a2 ∧ a2 < 10) then (1 : Int) else 0)] σ Q
    refine z_if_ne dX12_copy_11 (tgt := 20) (by decide) (fun z => ?_) (fun z => ?_)
    · have h2 : (0 ≤ a2 ∧ a2 < 10) := zb1 z
      refine z_aload_n dX12_copy_20 rfl rfl ?_
      refine z_getfR (k := 25) flRX12_51 rfl rfl dX12_copy_21 ?_
      refine z_iload_n dX12_copy_24 rfl rfl ?_
      have s1 : (0 : Int) ≤ a1 ∧ a1 < (10 : Int) := k1 h1 h2
      refine z_iald rfl s1.1 s1.2 dX12_copy_25 ?_
      refine z_iconst dX12_copy_26 (by unfold zIn; decide) ?_
      refine z_icmp_eq dX12_copy_27 (tgt := 75) (by decide) (fun h3 => ?_) (fun h3 => ?_)
      · skip
        exact J75 h1 h2 (Or.inl h3)
      · skip
        refine z_aload_n dX12_copy_30 rfl rfl ?_
        refine z_getfR (k := 25) flRX12_51 rfl rfl dX12_copy_31 ?_
        refine z_iload_n dX12_copy_34 rfl rfl ?_
        have s2 : (0 : Int) ≤ a2 ∧ a2 < (10 : Int) := k2 h1 h2 h3
        refine z_iald rfl s2.1 s2.2 dX12_copy_35 ?_
        refine z_iconst dX12_copy_36 (by unfold zIn; decide) ?_
        refine z_icmp_eq dX12_copy_37 (tgt := 75) (by decide) (fun h4 => ?_) (fun h4 => ?_)
        · skip
          exact J75 h1 h2 (Or.inr (Or.inl ⟨h3, h4⟩))
        · skip
          refine z_aload_n dX12_copy_40 rfl rfl ?_
          refine z_getfR (k := 25) flRX12_51 rfl rfl dX12_copy_41 ?_
          refine z_iload_n dX12_copy_44 rfl rfl ?_
          refine z_iald rfl s1.1 s1.2 dX12_copy_45 ?_
          refine z_iconst dX12_copy_46 (by unfold zIn; decide) ?_
          refine z_icmp_ne dX12_copy_47 (tgt := 82) (by decide) (fun h5 => ?_) (fun h5 => ?_)
          · skip
            exact J82 h1 h2 h3 h4 (Or.inl h5)
          · skip
            refine z_aload_n dX12_copy_50 rfl rfl ?_
            refine z_getfR (k := 25) flRX12_51 rfl rfl dX12_copy_51 ?_
            refine z_iload_n dX12_copy_54 rfl rfl ?_
            refine z_iald rfl s2.1 s2.2 dX12_copy_55 ?_
            refine z_iconst dX12_copy_56 (by unfold zIn; decide) ?_
            refine z_icmp_ne dX12_copy_57 (tgt := 82) (by decide) (fun h6 => ?_) (fun h6 => ?_)
            · skip
              exact J82 h1 h2 h3 h4 (Or.inr (Or.inl ⟨h5, h6⟩))
            · skip
              refine z_aload_n dX12_copy_60 rfl rfl ?_
              refine z_getfR (k := 26) flRX12_54 rfl rfl dX12_copy_61 ?_
              refine z_iload_n dX12_copy_64 rfl rfl ?_
              refine z_iald rfl s1.1 s1.2 dX12_copy_65 ?_
              refine z_aload_n dX12_copy_66 rfl rfl ?_
              refine z_getfR (k := 26) flRX12_54 rfl rfl dX12_copy_67 ?_
              refine z_iload_n dX12_copy_70 rfl rfl ?_
              refine z_iald rfl s2.1 s2.2 dX12_copy_71 ?_
              refine z_icmp_eq dX12_copy_72 (tgt := 82) (by decide) (fun h7 => ?_) (fun h7 => ?_)
              · skip
                exact J82 h1 h2 h3 h4 (Or.inr (Or.inr ⟨h5, h6, h7⟩))
              · skip
                exact J75 h1 h2 (Or.inr (Or.inr ⟨h3, h4, h5, h6, h7⟩))
    · have h2 : ¬ ((0 ≤ a2 ∧ a2 < 10)) := zb0 z
      exact J14 (Or.inr ⟨h1, h2⟩)
set_option maxRecDepth 20000 in
set_option maxHeartbeats 1000000 in
theorem TX12_copy_165 {G : zG} {σ : zS} {Q : Int → zS → Prop} {v1 v2 v3 v4 v5 v6 : Int}  (k1 : (v5 ≤ v6) → zR G MX12_copy 202 [zr 98, zi v1, zi v2, zi v3, zi v4, zi v5, zi 0] [] σ Q) (k2 : (v6 < v5) → -2147483648 ≤ 80 * v1 ∧ 80 * v1 < (2147483648 : Int)) (k3 : (v6 < v5) → -2147483648 ≤ (80 * v1) + v3 ∧ (80 * v1) + v3 < (2147483648 : Int)) (k4 : (v6 < v5) → -2147483648 ≤ ((80 * v1) + v3) + v6 ∧ ((80 * v1) + v3) + v6 < (2147483648 : Int)) (k5 : (v6 < v5) → (0 : Int) ≤ ((80 * v1) + v3) + v6 ∧ ((80 * v1) + v3) + v6 < (800 : Int)) (k6 : (v6 < v5) → (0 : Int) ≤ v6 ∧ v6 < (80 : Int)) (k7 : (v6 < v5) → -2147483648 ≤ v6 + 1 ∧ v6 + 1 < (2147483648 : Int)) (k8 : (v6 < v5) → zR G MX12_copy 165 [zr 98, zi v1, zi v2, zi v3, zi v4, zi v5, zi (v6 + 1)] [] (zup σ 116 v6 (σ 115 (((80 * v1) + v3) + v6))) Q) : zR G MX12_copy 165 [zr 98, zi v1, zi v2, zi v3, zi v4, zi v5, zi v6] [] σ Q := by
  refine z_iload dX12_copy_165 rfl ?_
  refine z_iload dX12_copy_167 rfl ?_
  refine z_icmp_ge dX12_copy_169 (tgt := 199) (by decide) (fun h1 => ?_) (fun h1 => ?_)
  · skip
    refine z_iconst dX12_copy_199 (by unfold zIn; decide) ?_
    refine z_istore (ls' := [zr 98, zi v1, zi v2, zi v3, zi v4, zi v5, zi 0]) dX12_copy_200 (by decide) rfl ?_
    exact k1 h1
  · skip
    refine z_aload_n dX12_copy_172 rfl rfl ?_
    refine z_getfR (k := 30) flRX12_67 rfl rfl dX12_copy_173 ?_
    refine z_iload dX12_copy_176 rfl ?_
    refine z_aload_n dX12_copy_178 rfl rfl ?_
    refine z_getfR (k := 29) flRX12_63 rfl rfl dX12_copy_179 ?_
    refine z_bipush (x := 80) dX12_copy_182 (by decide +kernel) (by unfold zIn; decide) ?_
    refine z_iload_n dX12_copy_184 rfl rfl ?_
    have s2 : -2147483648 ≤ 80 * v1 ∧ 80 * v1 < (2147483648 : Int) := k2 h1
    refine z_imulN dX12_copy_185 s2 ?_
    refine z_iload_n dX12_copy_186 rfl rfl ?_
    have s3 : -2147483648 ≤ (80 * v1) + v3 ∧ (80 * v1) + v3 < (2147483648 : Int) := k3 h1
    refine z_iaddN dX12_copy_187 s3 ?_
    refine z_iload dX12_copy_188 rfl ?_
    have s4 : -2147483648 ≤ ((80 * v1) + v3) + v6 ∧ ((80 * v1) + v3) + v6 < (2147483648 : Int) := k4 h1
    refine z_iaddN dX12_copy_190 s4 ?_
    have s5 : (0 : Int) ≤ ((80 * v1) + v3) + v6 ∧ ((80 * v1) + v3) + v6 < (800 : Int) := k5 h1
    refine z_lald rfl s5.1 s5.2 dX12_copy_191 ?_
    have s6 : (0 : Int) ≤ v6 ∧ v6 < (80 : Int) := k6 h1
    refine z_last rfl s6.1 s6.2 dX12_copy_192 ?_
    have s7 : -2147483648 ≤ v6 + 1 ∧ v6 + 1 < (2147483648 : Int) := k7 h1
    refine z_iincN (ls' := [zr 98, zi v1, zi v2, zi v3, zi v4, zi v5, zi (v6 + 1)]) dX12_copy_193 rfl (by decide) s7 rfl ?_
    refine z_goto dX12_copy_196 (tgt := 165) (by decide) ?_
    exact k8 h1
set_option maxRecDepth 20000 in
set_option maxHeartbeats 1000000 in
theorem TX12_copy_202 {G : zG} {σ : zS} {Q : Int → zS → Prop} {v1 v2 v3 v4 v5 v6 : Int}  (k1 : (v5 ≤ v6) → Q 1 σ) (k2 : (v6 < v5) → -2147483648 ≤ 80 * v2 ∧ 80 * v2 < (2147483648 : Int)) (k3 : (v6 < v5) → -2147483648 ≤ (80 * v2) + v4 ∧ (80 * v2) + v4 < (2147483648 : Int)) (k4 : (v6 < v5) → -2147483648 ≤ ((80 * v2) + v4) + v6 ∧ ((80 * v2) + v4) + v6 < (2147483648 : Int)) (k5 : (v6 < v5) → (0 : Int) ≤ v6 ∧ v6 < (80 : Int)) (k6 : (v6 < v5) → (0 : Int) ≤ ((80 * v2) + v4) + v6 ∧ ((80 * v2) + v4) + v6 < (800 : Int)) (k7 : (v6 < v5) → -2147483648 ≤ v6 + 1 ∧ v6 + 1 < (2147483648 : Int)) (k8 : (v6 < v5) → zR G MX12_copy 202 [zr 98, zi v1, zi v2, zi v3, zi v4, zi v5, zi (v6 + 1)] [] (zup σ 115 (((80 * v2) + v4) + v6) (σ 116 v6)) Q) : zR G MX12_copy 202 [zr 98, zi v1, zi v2, zi v3, zi v4, zi v5, zi v6] [] σ Q := by
  refine z_iload dX12_copy_202 rfl ?_
  refine z_iload dX12_copy_204 rfl ?_
  refine z_icmp_ge dX12_copy_206 (tgt := 237) (by decide) (fun h1 => ?_) (fun h1 => ?_)
  · skip
    refine z_iconst dX12_copy_237 (by unfold zIn; decide) ?_
    exact z_ireti rfl dX12_copy_238 (k1 h1)
  · skip
    refine z_aload_n dX12_copy_209 rfl rfl ?_
    refine z_getfR (k := 29) flRX12_63 rfl rfl dX12_copy_210 ?_
    refine z_bipush (x := 80) dX12_copy_213 (by decide +kernel) (by unfold zIn; decide) ?_
    refine z_iload_n dX12_copy_215 rfl rfl ?_
    have s2 : -2147483648 ≤ 80 * v2 ∧ 80 * v2 < (2147483648 : Int) := k2 h1
    refine z_imulN dX12_copy_216 s2 ?_
    refine z_iload dX12_copy_217 rfl ?_
    have s3 : -2147483648 ≤ (80 * v2) + v4 ∧ (80 * v2) + v4 < (2147483648 : Int) := k3 h1
    refine z_iaddN dX12_copy_219 s3 ?_
    refine z_iload dX12_copy_220 rfl ?_
    have s4 : -2147483648 ≤ ((80 * v2) + v4) + v6 ∧ ((80 * v2) + v4) + v6 < (2147483648 : Int) := k4 h1
    refine z_iaddN dX12_copy_222 s4 ?_
    refine z_aload_n dX12_copy_223 rfl rfl ?_
    refine z_getfR (k := 30) flRX12_67 rfl rfl dX12_copy_224 ?_
    refine z_iload dX12_copy_227 rfl ?_
    have s5 : (0 : Int) ≤ v6 ∧ v6 < (80 : Int) := k5 h1
    refine z_lald rfl s5.1 s5.2 dX12_copy_229 ?_
    have s6 : (0 : Int) ≤ ((80 * v2) + v4) + v6 ∧ ((80 * v2) + v4) + v6 < (800 : Int) := k6 h1
    refine z_last rfl s6.1 s6.2 dX12_copy_230 ?_
    have s7 : -2147483648 ≤ v6 + 1 ∧ v6 + 1 < (2147483648 : Int) := k7 h1
    refine z_iincN (ls' := [zr 98, zi v1, zi v2, zi v3, zi v4, zi v5, zi (v6 + 1)]) dX12_copy_231 rfl (by decide) s7 rfl ?_
    refine z_goto dX12_copy_234 (tgt := 202) (by decide) ?_
    exact k8 h1
set_option maxRecDepth 20000 in
set_option maxHeartbeats 1000000 in
theorem TX12_element {G : zG} {σ : zS} {Q : Int → zS → Prop} {a1 a2 : Int}  (k1 : ((0 ≤ a1 ∧ a1 < 10)) → (0 : Int) ≤ a1 ∧ a1 < (10 : Int)) (k2 : ((0 ≤ a1 ∧ a1 < 10)) → (σ 111 a1 = 1) → (0 ≤ a2) → (a2 < σ 113 a1) → -2147483648 ≤ 80 * a1 ∧ 80 * a1 < (2147483648 : Int)) (k3 : ((0 ≤ a1 ∧ a1 < 10)) → (σ 111 a1 = 1) → (0 ≤ a2) → (a2 < σ 113 a1) → -2147483648 ≤ (80 * a1) + a2 ∧ (80 * a1) + a2 < (2147483648 : Int)) (k4 : ((0 ≤ a1 ∧ a1 < 10)) → (σ 111 a1 = 1) → (0 ≤ a2) → (a2 < σ 113 a1) → (0 : Int) ≤ (80 * a1) + a2 ∧ (80 * a1) + a2 < (800 : Int)) (k5 : ((0 ≤ a1 ∧ a1 < 10)) → (σ 111 a1 = 1) → (0 ≤ a2) → (a2 < σ 113 a1) → Q (σ 115 ((80 * a1) + a2)) σ) (k6 : ((¬ ((0 ≤ a1 ∧ a1 < 10))) ∨ (((0 ≤ a1 ∧ a1 < 10)) ∧ σ 111 a1 ≠ 1) ∨ (((0 ≤ a1 ∧ a1 < 10)) ∧ σ 111 a1 = 1 ∧ a2 < 0) ∨ (((0 ≤ a1 ∧ a1 < 10)) ∧ σ 111 a1 = 1 ∧ 0 ≤ a2 ∧ σ 113 a1 ≤ a2)) → Q 0 σ) : zO G MX12_element [zr 98, zi a1, zi a2] σ Q := by
  refine zO_of (ls0 := [zr 98, zi a1, zi a2]) (by decide) (Nat.le_of_ble_eq_true rfl) rfl ?_
  have J45 : ((¬ ((0 ≤ a1 ∧ a1 < 10))) ∨ (((0 ≤ a1 ∧ a1 < 10)) ∧ σ 111 a1 ≠ 1) ∨ (((0 ≤ a1 ∧ a1 < 10)) ∧ σ 111 a1 = 1 ∧ a2 < 0) ∨ (((0 ≤ a1 ∧ a1 < 10)) ∧ σ 111 a1 = 1 ∧ 0 ≤ a2 ∧ σ 113 a1 ≤ a2)) → zR G MX12_element 45 [zr 98, zi a1, zi a2] [] σ Q := by
    intro h5
    refine z_lconst (x := 0) dX12_element_45 (by decide +kernel) (by unfold zLn; decide) ?_
    exact z_lret rfl dX12_element_46 (k6 h5)
  refine z_iload_n dX12_element_0 rfl rfl ?_
  refine z_calls (as := [zi a1]) (st := []) mkX12_isShelf lkRX12_293 rfl (by decide) (Nat.le_of_ble_eq_true rfl) rfl dX12_element_1 ?_
  refine SX12_isShelf ?_
  show zR G MX12_element 4 [zr 98, zi a1, zi a2] [zi (if (0 ≤ a1 ∧ a1 < 10) then (1 : Int) else 0)] σ Q
  refine z_if_eq dX12_element_4 (tgt := 45) (by decide) (fun z => ?_) (fun z => ?_)
  · have h1 : ¬ ((0 ≤ a1 ∧ a1 < 10)) := zb0 z
    exact J45 (Or.inl h1)
  · have h1 : (0 ≤ a1 ∧ a1 < 10) := zb1 z
    refine z_aload_n dX12_element_7 rfl rfl ?_
    refine z_getfR (k := 25) flRX12_51 rfl rfl dX12_element_8 ?_
    refine z_iload_n dX12_element_11 rfl rfl ?_
    have s1 : (0 : Int) ≤ a1 ∧ a1 < (10 : Int) := k1 h1
    refine z_iald rfl s1.1 s1.2 dX12_element_12 ?_
    refine z_iconst dX12_element_13 (by unfold zIn; decide) ?_
    refine z_icmp_ne dX12_element_14 (tgt := 45) (by decide) (fun h2 => ?_) (fun h2 => ?_)
    · skip
      exact J45 (Or.inr (Or.inl ⟨h1, h2⟩))
    · skip
      refine z_iload_n dX12_element_17 rfl rfl ?_
      refine z_if_lt dX12_element_18 (tgt := 45) (by decide) (fun h3 => ?_) (fun h3 => ?_)
      · skip
        exact J45 (Or.inr (Or.inr (Or.inl ⟨h1, h2, h3⟩)))
      · skip
        refine z_iload_n dX12_element_21 rfl rfl ?_
        refine z_aload_n dX12_element_22 rfl rfl ?_
        refine z_getfR (k := 27) flRX12_57 rfl rfl dX12_element_23 ?_
        refine z_iload_n dX12_element_26 rfl rfl ?_
        refine z_iald rfl s1.1 s1.2 dX12_element_27 ?_
        refine z_icmp_ge dX12_element_28 (tgt := 45) (by decide) (fun h4 => ?_) (fun h4 => ?_)
        · skip
          exact J45 (Or.inr (Or.inr (Or.inr ⟨h1, h2, h3, h4⟩)))
        · skip
          refine z_aload_n dX12_element_31 rfl rfl ?_
          refine z_getfR (k := 29) flRX12_63 rfl rfl dX12_element_32 ?_
          refine z_bipush (x := 80) dX12_element_35 (by decide +kernel) (by unfold zIn; decide) ?_
          refine z_iload_n dX12_element_37 rfl rfl ?_
          have s2 : -2147483648 ≤ 80 * a1 ∧ 80 * a1 < (2147483648 : Int) := k2 h1 h2 h3 h4
          refine z_imulN dX12_element_38 s2 ?_
          refine z_iload_n dX12_element_39 rfl rfl ?_
          have s3 : -2147483648 ≤ (80 * a1) + a2 ∧ (80 * a1) + a2 < (2147483648 : Int) := k3 h1 h2 h3 h4
          refine z_iaddN dX12_element_40 s3 ?_
          have s4 : (0 : Int) ≤ (80 * a1) + a2 ∧ (80 * a1) + a2 < (800 : Int) := k4 h1 h2 h3 h4
          refine z_lald rfl s4.1 s4.2 dX12_element_41 ?_
          refine z_goto dX12_element_42 (tgt := 46) (by decide) ?_
          exact z_lret rfl dX12_element_46 (k5 h1 h2 h3 h4)
set_option maxRecDepth 20000 in
set_option maxHeartbeats 1000000 in
theorem TX12_show {G : zG} {σ : zS} {Q : Int → zS → Prop} {a1 a2 : Int}  (k1 : ((¬ ((0 ≤ a1 ∧ a1 < 10))) ∨ (((0 ≤ a1 ∧ a1 < 10)) ∧ a2 ≠ (-1) ∧ (¬ ((0 ≤ a2 ∧ a2 < σ 98 1))))) → -2147483648 ≤ -(-1) ∧ -(-1) < (2147483648 : Int)) (k2 : ((¬ ((0 ≤ a1 ∧ a1 < 10))) ∨ (((0 ≤ a1 ∧ a1 < 10)) ∧ a2 ≠ (-1) ∧ (¬ ((0 ≤ a2 ∧ a2 < σ 98 1))))) → (0 : Int) ≤ -(-1) ∧ -(-1) < (8 : Int)) (k3 : ((¬ ((0 ≤ a1 ∧ a1 < 10))) ∨ (((0 ≤ a1 ∧ a1 < 10)) ∧ a2 ≠ (-1) ∧ (¬ ((0 ≤ a2 ∧ a2 < σ 98 1))))) → -2147483648 ≤ (σ 157 (-(-1))) + 1 ∧ (σ 157 (-(-1))) + 1 < (2147483648 : Int)) (k4 : ((¬ ((0 ≤ a1 ∧ a1 < 10))) ∨ (((0 ≤ a1 ∧ a1 < 10)) ∧ a2 ≠ (-1) ∧ (¬ ((0 ≤ a2 ∧ a2 < σ 98 1))))) → Q (-1) (zup σ 157 (-(-1)) ((σ 157 (-(-1))) + 1))) (k5 : ((0 ≤ a1 ∧ a1 < 10)) → (a2 = (-1) ∨ (a2 ≠ (-1) ∧ ((0 ≤ a2 ∧ a2 < σ 98 1)))) → (a2 ≠ (-1)) → (0 : Int) ≤ a1 ∧ a1 < (10 : Int)) (k6 : ((0 ≤ a1 ∧ a1 < 10)) → (a2 = (-1) ∨ (a2 ≠ (-1) ∧ ((0 ≤ a2 ∧ a2 < σ 98 1)))) → (a2 ≠ (-1)) → (a2 ≠ (-1)) → Q 1 (zup (zup σ 111 a1 2) 114 a1 a2)) (k7 : ((0 ≤ a1 ∧ a1 < 10)) → (a2 = (-1) ∨ (a2 ≠ (-1) ∧ ((0 ≤ a2 ∧ a2 < σ 98 1)))) → (a2 ≠ (-1)) → (a2 = (-1)) → Q 0 (zup (zup σ 111 a1 2) 114 a1 a2)) (k8 : ((0 ≤ a1 ∧ a1 < 10)) → (a2 = (-1) ∨ (a2 ≠ (-1) ∧ ((0 ≤ a2 ∧ a2 < σ 98 1)))) → (a2 = (-1)) → (0 : Int) ≤ a1 ∧ a1 < (10 : Int)) (k9 : ((0 ≤ a1 ∧ a1 < 10)) → (a2 = (-1) ∨ (a2 ≠ (-1) ∧ ((0 ≤ a2 ∧ a2 < σ 98 1)))) → (a2 = (-1)) → (a2 ≠ (-1)) → Q 1 (zup (zup σ 111 a1 0) 114 a1 a2)) (k10 : ((0 ≤ a1 ∧ a1 < 10)) → (a2 = (-1) ∨ (a2 ≠ (-1) ∧ ((0 ≤ a2 ∧ a2 < σ 98 1)))) → (a2 = (-1)) → (a2 = (-1)) → Q 0 (zup (zup σ 111 a1 0) 114 a1 a2)) : zO G MX12_show [zr 98, zi a1, zi a2] σ Q := by
  refine zO_of (ls0 := [zr 98, zi a1, zi a2]) (by decide) (Nat.le_of_ble_eq_true rfl) rfl ?_
  have J26 : ((0 ≤ a1 ∧ a1 < 10)) → (a2 = (-1) ∨ (a2 ≠ (-1) ∧ ((0 ≤ a2 ∧ a2 < σ 98 1)))) → zR G MX12_show 26 [zr 98, zi a1, zi a2] [] σ Q := by
    intro h1 h5
    refine z_aload_n dX12_show_26 rfl rfl ?_
    refine z_getfR (k := 25) flRX12_51 rfl rfl dX12_show_27 ?_
    refine z_iload_n dX12_show_30 rfl rfl ?_
    refine z_iload_n dX12_show_31 rfl rfl ?_
    refine z_iconst dX12_show_32 (by unfold zIn; decide) ?_
    refine z_icmp_ne dX12_show_33 (tgt := 40) (by decide) (fun h6 => ?_) (fun h6 => ?_)
    · skip
      refine z_iconst dX12_show_40 (by unfold zIn; decide) ?_
      have s5 : (0 : Int) ≤ a1 ∧ a1 < (10 : Int) := k5 h1 h5 h6
      refine z_iast rfl s5.1 s5.2 dX12_show_41 ?_
      refine z_aload_n dX12_show_42 rfl rfl ?_
      refine z_getfR (k := 28) flRX12_60 rfl rfl dX12_show_43 ?_
      refine z_iload_n dX12_show_46 rfl rfl ?_
      refine z_iload_n dX12_show_47 rfl rfl ?_
      refine z_iast rfl s5.1 s5.2 dX12_show_48 ?_
      refine z_iload_n dX12_show_49 rfl rfl ?_
      refine z_iconst dX12_show_50 (by unfold zIn; decide) ?_
      refine z_icmp_ne dX12_show_51 (tgt := 58) (by decide) (fun h7 => ?_) (fun h7 => ?_)
      · skip
        refine z_iconst dX12_show_58 (by unfold zIn; decide) ?_
        exact z_ireti rfl dX12_show_59 (k6 h1 h5 h6 h7)
      · skip
        refine z_iconst dX12_show_54 (by unfold zIn; decide) ?_
        refine z_goto dX12_show_55 (tgt := 59) (by decide) ?_
        exact z_ireti rfl dX12_show_59 (k7 h1 h5 h6 h7)
    · skip
      refine z_iconst dX12_show_36 (by unfold zIn; decide) ?_
      refine z_goto dX12_show_37 (tgt := 41) (by decide) ?_
      have s8 : (0 : Int) ≤ a1 ∧ a1 < (10 : Int) := k8 h1 h5 h6
      refine z_iast rfl s8.1 s8.2 dX12_show_41 ?_
      refine z_aload_n dX12_show_42 rfl rfl ?_
      refine z_getfR (k := 28) flRX12_60 rfl rfl dX12_show_43 ?_
      refine z_iload_n dX12_show_46 rfl rfl ?_
      refine z_iload_n dX12_show_47 rfl rfl ?_
      refine z_iast rfl s8.1 s8.2 dX12_show_48 ?_
      refine z_iload_n dX12_show_49 rfl rfl ?_
      refine z_iconst dX12_show_50 (by unfold zIn; decide) ?_
      refine z_icmp_ne dX12_show_51 (tgt := 58) (by decide) (fun h8 => ?_) (fun h8 => ?_)
      · skip
        refine z_iconst dX12_show_58 (by unfold zIn; decide) ?_
        exact z_ireti rfl dX12_show_59 (k9 h1 h5 h6 h8)
      · skip
        refine z_iconst dX12_show_54 (by unfold zIn; decide) ?_
        refine z_goto dX12_show_55 (tgt := 59) (by decide) ?_
        exact z_ireti rfl dX12_show_59 (k10 h1 h5 h6 h8)
  have J20 : ((¬ ((0 ≤ a1 ∧ a1 < 10))) ∨ (((0 ≤ a1 ∧ a1 < 10)) ∧ a2 ≠ (-1) ∧ (¬ ((0 ≤ a2 ∧ a2 < σ 98 1))))) → zR G MX12_show 20 [zr 98, zi a1, zi a2] [] σ Q := by
    intro h4
    refine z_aload_n dX12_show_20 rfl rfl ?_
    refine z_iconst dX12_show_21 (by unfold zIn; decide) ?_
    have s1 : -2147483648 ≤ -(-1) ∧ -(-1) < (2147483648 : Int) := k1 h4
    have s2 : (0 : Int) ≤ -(-1) ∧ -(-1) < (8 : Int) := k2 h4
    have s3 : -2147483648 ≤ (σ 157 (-(-1))) + 1 ∧ (σ 157 (-(-1))) + 1 < (2147483648 : Int) := k3 h4
    refine z_callv (as := [zi (-1)]) (st := []) mkX12_no lkRX12_267 rfl rfl rfl (by decide) (Nat.le_of_ble_eq_true rfl) rfl dX12_show_22 ?_
    refine SX12_no s1 s2 s3 ?_
    show zR G MX12_show 25 [zr 98, zi a1, zi a2] [zi (-1)] (zup σ 157 (-(-1)) ((σ 157 (-(-1))) + 1)) Q
    exact z_ireti rfl dX12_show_25 (k4 h4)
  refine z_iload_n dX12_show_0 rfl rfl ?_
  refine z_calls (as := [zi a1]) (st := []) mkX12_isShelf lkRX12_293 rfl (by decide) (Nat.le_of_ble_eq_true rfl) rfl dX12_show_1 ?_
  refine SX12_isShelf ?_
  show zR G MX12_show 4 [zr 98, zi a1, zi a2] [zi (if (0 ≤ a1 ∧ a1 < 10) then (1 : Int) else 0)] σ Q
  refine z_if_eq dX12_show_4 (tgt := 20) (by decide) (fun z => ?_) (fun z => ?_)
  · have h1 : ¬ ((0 ≤ a1 ∧ a1 < 10)) := zb0 z
    exact J20 (Or.inl h1)
  · have h1 : (0 ≤ a1 ∧ a1 < 10) := zb1 z
    refine z_iload_n dX12_show_7 rfl rfl ?_
    refine z_iconst dX12_show_8 (by unfold zIn; decide) ?_
    refine z_icmp_eq dX12_show_9 (tgt := 26) (by decide) (fun h2 => ?_) (fun h2 => ?_)
    · skip
      exact J26 h1 (Or.inl h2)
    · skip
      refine z_aload_n dX12_show_12 rfl rfl ?_
      refine z_iload_n dX12_show_13 rfl rfl ?_
      refine z_callv (as := [zi a2]) (st := []) mkX12_isOne lkRX12_271 rfl rfl rfl (by decide) (Nat.le_of_ble_eq_true rfl) rfl dX12_show_14 ?_
      refine SX12_isOne ?_
      show zR G MX12_show 17 [zr 98, zi a1, zi a2] [zi (if (0 ≤ a2 ∧ a2 < σ 98 1) then (1 : Int) else 0)] σ Q
      refine z_if_ne dX12_show_17 (tgt := 26) (by decide) (fun z => ?_) (fun z => ?_)
      · have h3 : (0 ≤ a2 ∧ a2 < σ 98 1) := zb1 z
        exact J26 h1 (Or.inr ⟨h2, h3⟩)
      · have h3 : ¬ ((0 ≤ a2 ∧ a2 < σ 98 1)) := zb0 z
        exact J20 (Or.inr ⟨h1, h2, h3⟩)
set_option maxRecDepth 20000 in
set_option maxHeartbeats 1000000 in
theorem TX12_holds {G : zG} {σ : zS} {Q : Int → zS → Prop} {a1 : Int}  (k1 : ((0 ≤ a1 ∧ a1 < 10)) → (0 : Int) ≤ a1 ∧ a1 < (10 : Int)) (k2 : ((0 ≤ a1 ∧ a1 < 10)) → (σ 111 a1 ≠ 0) → (σ 111 a1 ≠ 1) → Q (σ 114 a1) σ) (k3 : ((0 ≤ a1 ∧ a1 < 10)) → (σ 111 a1 ≠ 0) → (σ 111 a1 = 1) → -2147483648 ≤ 100 + σ 112 a1 ∧ 100 + σ 112 a1 < (2147483648 : Int)) (k4 : ((0 ≤ a1 ∧ a1 < 10)) → (σ 111 a1 ≠ 0) → (σ 111 a1 = 1) → Q (100 + σ 112 a1) σ) (k5 : ((¬ ((0 ≤ a1 ∧ a1 < 10))) ∨ (((0 ≤ a1 ∧ a1 < 10)) ∧ σ 111 a1 = 0)) → Q (-1) σ) : zO G MX12_holds [zr 98, zi a1] σ Q := by
  refine zO_of (ls0 := [zr 98, zi a1]) (by decide) (Nat.le_of_ble_eq_true rfl) rfl ?_
  have J16 : ((¬ ((0 ≤ a1 ∧ a1 < 10))) ∨ (((0 ≤ a1 ∧ a1 < 10)) ∧ σ 111 a1 = 0)) → zR G MX12_holds 16 [zr 98, zi a1] [] σ Q := by
    intro h4
    refine z_iconst dX12_holds_16 (by unfold zIn; decide) ?_
    exact z_ireti rfl dX12_holds_17 (k5 h4)
  refine z_iload_n dX12_holds_0 rfl rfl ?_
  refine z_calls (as := [zi a1]) (st := []) mkX12_isShelf lkRX12_293 rfl (by decide) (Nat.le_of_ble_eq_true rfl) rfl dX12_holds_1 ?_
  refine SX12_isShelf ?_
  show zR G MX12_holds 4 [zr 98, zi a1] [zi (if (0 ≤ a1 ∧ a1 < 10) then (1 : Int) else 0)] σ Q
  refine z_if_eq dX12_holds_4 (tgt := 16) (by decide) (fun z => ?_) (fun z => ?_)
  · have h1 : ¬ ((0 ≤ a1 ∧ a1 < 10)) := zb0 z
    exact J16 (Or.inl h1)
  · have h1 : (0 ≤ a1 ∧ a1 < 10) := zb1 z
    refine z_aload_n dX12_holds_7 rfl rfl ?_
    refine z_getfR (k := 25) flRX12_51 rfl rfl dX12_holds_8 ?_
    refine z_iload_n dX12_holds_11 rfl rfl ?_
    have s1 : (0 : Int) ≤ a1 ∧ a1 < (10 : Int) := k1 h1
    refine z_iald rfl s1.1 s1.2 dX12_holds_12 ?_
    refine z_if_ne dX12_holds_13 (tgt := 18) (by decide) (fun h2 => ?_) (fun h2 => ?_)
    · skip
      refine z_aload_n dX12_holds_18 rfl rfl ?_
      refine z_getfR (k := 25) flRX12_51 rfl rfl dX12_holds_19 ?_
      refine z_iload_n dX12_holds_22 rfl rfl ?_
      refine z_iald rfl s1.1 s1.2 dX12_holds_23 ?_
      refine z_iconst dX12_holds_24 (by unfold zIn; decide) ?_
      refine z_icmp_ne dX12_holds_25 (tgt := 40) (by decide) (fun h3 => ?_) (fun h3 => ?_)
      · skip
        refine z_aload_n dX12_holds_40 rfl rfl ?_
        refine z_getfR (k := 28) flRX12_60 rfl rfl dX12_holds_41 ?_
        refine z_iload_n dX12_holds_44 rfl rfl ?_
        refine z_iald rfl s1.1 s1.2 dX12_holds_45 ?_
        exact z_ireti rfl dX12_holds_46 (k2 h1 h2 h3)
      · skip
        refine z_bipush (x := 100) dX12_holds_28 (by decide +kernel) (by unfold zIn; decide) ?_
        refine z_aload_n dX12_holds_30 rfl rfl ?_
        refine z_getfR (k := 26) flRX12_54 rfl rfl dX12_holds_31 ?_
        refine z_iload_n dX12_holds_34 rfl rfl ?_
        refine z_iald rfl s1.1 s1.2 dX12_holds_35 ?_
        have s3 : -2147483648 ≤ 100 + σ 112 a1 ∧ 100 + σ 112 a1 < (2147483648 : Int) := k3 h1 h2 h3
        refine z_iaddN dX12_holds_36 s3 ?_
        refine z_goto dX12_holds_37 (tgt := 46) (by decide) ?_
        exact z_ireti rfl dX12_holds_46 (k4 h1 h2 h3)
    · skip
      exact J16 (Or.inr ⟨h1, h2⟩)
set_option maxRecDepth 20000 in
set_option maxHeartbeats 1000000 in
theorem TX12_bornIn {G : zG} {σ : zS} {Q : Int → zS → Prop} {a1 : Int}  (k1 : ((0 ≤ a1 ∧ a1 < 10)) → (0 : Int) ≤ a1 ∧ a1 < (10 : Int)) (k2 : ((0 ≤ a1 ∧ a1 < 10)) → (σ 111 a1 ≠ 1) → (σ 111 a1 ≠ 0) → (0 : Int) ≤ σ 114 a1 ∧ σ 114 a1 < (24 : Int)) (k3 : ((0 ≤ a1 ∧ a1 < 10)) → (σ 111 a1 ≠ 1) → (σ 111 a1 ≠ 0) → Q (σ 99 (σ 114 a1)) σ) (k4 : ((0 ≤ a1 ∧ a1 < 10)) → (σ 111 a1 ≠ 1) → (σ 111 a1 = 0) → -2147483648 ≤ -(-3) ∧ -(-3) < (2147483648 : Int)) (k5 : ((0 ≤ a1 ∧ a1 < 10)) → (σ 111 a1 ≠ 1) → (σ 111 a1 = 0) → (0 : Int) ≤ -(-3) ∧ -(-3) < (8 : Int)) (k6 : ((0 ≤ a1 ∧ a1 < 10)) → (σ 111 a1 ≠ 1) → (σ 111 a1 = 0) → -2147483648 ≤ (σ 157 (-(-3))) + 1 ∧ (σ 157 (-(-3))) + 1 < (2147483648 : Int)) (k7 : ((0 ≤ a1 ∧ a1 < 10)) → (σ 111 a1 ≠ 1) → (σ 111 a1 = 0) → -2147483648 ≤ (-3) - 1000000 ∧ (-3) - 1000000 < (2147483648 : Int)) (k8 : ((0 ≤ a1 ∧ a1 < 10)) → (σ 111 a1 ≠ 1) → (σ 111 a1 = 0) → Q ((-3) - 1000000) (zup σ 157 (-(-3)) ((σ 157 (-(-3))) + 1))) (k9 : ((0 ≤ a1 ∧ a1 < 10)) → (σ 111 a1 = 1) → -2147483648 ≤ -(-2) ∧ -(-2) < (2147483648 : Int)) (k10 : ((0 ≤ a1 ∧ a1 < 10)) → (σ 111 a1 = 1) → (0 : Int) ≤ -(-2) ∧ -(-2) < (8 : Int)) (k11 : ((0 ≤ a1 ∧ a1 < 10)) → (σ 111 a1 = 1) → -2147483648 ≤ (σ 157 (-(-2))) + 1 ∧ (σ 157 (-(-2))) + 1 < (2147483648 : Int)) (k12 : ((0 ≤ a1 ∧ a1 < 10)) → (σ 111 a1 = 1) → -2147483648 ≤ (-2) - 1000000 ∧ (-2) - 1000000 < (2147483648 : Int)) (k13 : ((0 ≤ a1 ∧ a1 < 10)) → (σ 111 a1 = 1) → Q ((-2) - 1000000) (zup σ 157 (-(-2)) ((σ 157 (-(-2))) + 1))) (k14 : (¬ ((0 ≤ a1 ∧ a1 < 10))) → -2147483648 ≤ -(-1) ∧ -(-1) < (2147483648 : Int)) (k15 : (¬ ((0 ≤ a1 ∧ a1 < 10))) → (0 : Int) ≤ -(-1) ∧ -(-1) < (8 : Int)) (k16 : (¬ ((0 ≤ a1 ∧ a1 < 10))) → -2147483648 ≤ (σ 157 (-(-1))) + 1 ∧ (σ 157 (-(-1))) + 1 < (2147483648 : Int)) (k17 : (¬ ((0 ≤ a1 ∧ a1 < 10))) → -2147483648 ≤ (-1) - 1000000 ∧ (-1) - 1000000 < (2147483648 : Int)) (k18 : (¬ ((0 ≤ a1 ∧ a1 < 10))) → Q ((-1) - 1000000) (zup σ 157 (-(-1)) ((σ 157 (-(-1))) + 1))) : zO G MX12_bornIn [zr 98, zi a1] σ Q := by
  refine zO_of (ls0 := [zr 98, zi a1, zu]) (by decide) (Nat.le_of_ble_eq_true rfl) rfl ?_
  refine z_iload_n dX12_bornIn_0 rfl rfl ?_
  refine z_calls (as := [zi a1]) (st := []) mkX12_isShelf lkRX12_293 rfl (by decide) (Nat.le_of_ble_eq_true rfl) rfl dX12_bornIn_1 ?_
  refine SX12_isShelf ?_
  show zR G MX12_bornIn 4 [zr 98, zi a1, zu] [zi (if (0 ≤ a1 ∧ a1 < 10) then (1 : Int) else 0)] σ Q
  refine z_if_ne dX12_bornIn_4 (tgt := 11) (by decide) (fun z => ?_) (fun z => ?_)
  · have h1 : (0 ≤ a1 ∧ a1 < 10) := zb1 z
    refine z_aload_n dX12_bornIn_11 rfl rfl ?_
    refine z_getfR (k := 25) flRX12_51 rfl rfl dX12_bornIn_12 ?_
    refine z_iload_n dX12_bornIn_15 rfl rfl ?_
    have s1 : (0 : Int) ≤ a1 ∧ a1 < (10 : Int) := k1 h1
    refine z_iald rfl s1.1 s1.2 dX12_bornIn_16 ?_
    refine z_iconst dX12_bornIn_17 (by unfold zIn; decide) ?_
    refine z_icmp_ne dX12_bornIn_18 (tgt := 26) (by decide) (fun h2 => ?_) (fun h2 => ?_)
    · skip
      refine z_aload_n dX12_bornIn_26 rfl rfl ?_
      refine z_getfR (k := 25) flRX12_51 rfl rfl dX12_bornIn_27 ?_
      refine z_iload_n dX12_bornIn_30 rfl rfl ?_
      refine z_iald rfl s1.1 s1.2 dX12_bornIn_31 ?_
      refine z_if_ne dX12_bornIn_32 (tgt := 40) (by decide) (fun h3 => ?_) (fun h3 => ?_)
      · skip
        refine z_iconst dX12_bornIn_40 (by unfold zIn; decide) ?_
        refine z_istore_n (ls' := [zr 98, zi a1, zi 0]) dX12_bornIn_41 rfl (by decide) rfl ?_
        refine z_iload_n dX12_bornIn_42 rfl rfl ?_
        refine z_if_eq dX12_bornIn_43 (tgt := 58) (by decide) (fun z => ?_) (fun z => absurd z (by decide))
        refine z_aload_n dX12_bornIn_58 rfl rfl ?_
        refine z_getfR (k := 13) flRX12_13 rfl rfl dX12_bornIn_59 ?_
        refine z_aload_n dX12_bornIn_62 rfl rfl ?_
        refine z_getfR (k := 28) flRX12_60 rfl rfl dX12_bornIn_63 ?_
        refine z_iload_n dX12_bornIn_66 rfl rfl ?_
        refine z_iald rfl s1.1 s1.2 dX12_bornIn_67 ?_
        have s2 : (0 : Int) ≤ σ 114 a1 ∧ σ 114 a1 < (24 : Int) := k2 h1 h2 h3
        refine z_iald rfl s2.1 s2.2 dX12_bornIn_68 ?_
        exact z_ireti rfl dX12_bornIn_69 (k3 h1 h2 h3)
      · skip
        refine z_bipush (x := (-3)) dX12_bornIn_35 (by decide +kernel) (by unfold zIn; decide) ?_
        refine z_goto dX12_bornIn_37 (tgt := 41) (by decide) ?_
        refine z_istore_n (ls' := [zr 98, zi a1, zi (-3)]) dX12_bornIn_41 rfl (by decide) rfl ?_
        refine z_iload_n dX12_bornIn_42 rfl rfl ?_
        refine z_if_eq dX12_bornIn_43 (tgt := 58) (by decide) (fun z => absurd z (by decide)) (fun z => ?_)
        refine z_aload_n dX12_bornIn_46 rfl rfl ?_
        refine z_iload_n dX12_bornIn_47 rfl rfl ?_
        have s4 : -2147483648 ≤ -(-3) ∧ -(-3) < (2147483648 : Int) := k4 h1 h2 h3
        have s5 : (0 : Int) ≤ -(-3) ∧ -(-3) < (8 : Int) := k5 h1 h2 h3
        have s6 : -2147483648 ≤ (σ 157 (-(-3))) + 1 ∧ (σ 157 (-(-3))) + 1 < (2147483648 : Int) := k6 h1 h2 h3
        refine z_callv (as := [zi (-3)]) (st := []) mkX12_no lkRX12_267 rfl rfl rfl (by decide) (Nat.le_of_ble_eq_true rfl) rfl dX12_bornIn_48 ?_
        refine SX12_no s4 s5 s6 ?_
        show zR G MX12_bornIn 51 [zr 98, zi a1, zi (-3)] [zi (-3)] (zup σ 157 (-(-3)) ((σ 157 (-(-3))) + 1)) Q
        refine z_ldcw (x := 1000000) (zin_8 (List.mem_of_getElem? (i := 42) (by decide +kernel))) (by unfold zIn; decide) dX12_bornIn_51 ?_
        have s7 : -2147483648 ≤ (-3) - 1000000 ∧ (-3) - 1000000 < (2147483648 : Int) := k7 h1 h2 h3
        refine z_isubN dX12_bornIn_54 s7 ?_
        refine z_goto dX12_bornIn_55 (tgt := 69) (by decide) ?_
        exact z_ireti rfl dX12_bornIn_69 (k8 h1 h2 h3)
    · skip
      refine z_bipush (x := (-2)) dX12_bornIn_21 (by decide +kernel) (by unfold zIn; decide) ?_
      refine z_goto dX12_bornIn_23 (tgt := 41) (by decide) ?_
      refine z_istore_n (ls' := [zr 98, zi a1, zi (-2)]) dX12_bornIn_41 rfl (by decide) rfl ?_
      refine z_iload_n dX12_bornIn_42 rfl rfl ?_
      refine z_if_eq dX12_bornIn_43 (tgt := 58) (by decide) (fun z => absurd z (by decide)) (fun z => ?_)
      refine z_aload_n dX12_bornIn_46 rfl rfl ?_
      refine z_iload_n dX12_bornIn_47 rfl rfl ?_
      have s9 : -2147483648 ≤ -(-2) ∧ -(-2) < (2147483648 : Int) := k9 h1 h2
      have s10 : (0 : Int) ≤ -(-2) ∧ -(-2) < (8 : Int) := k10 h1 h2
      have s11 : -2147483648 ≤ (σ 157 (-(-2))) + 1 ∧ (σ 157 (-(-2))) + 1 < (2147483648 : Int) := k11 h1 h2
      refine z_callv (as := [zi (-2)]) (st := []) mkX12_no lkRX12_267 rfl rfl rfl (by decide) (Nat.le_of_ble_eq_true rfl) rfl dX12_bornIn_48 ?_
      refine SX12_no s9 s10 s11 ?_
      show zR G MX12_bornIn 51 [zr 98, zi a1, zi (-2)] [zi (-2)] (zup σ 157 (-(-2)) ((σ 157 (-(-2))) + 1)) Q
      refine z_ldcw (x := 1000000) (zin_8 (List.mem_of_getElem? (i := 42) (by decide +kernel))) (by unfold zIn; decide) dX12_bornIn_51 ?_
      have s12 : -2147483648 ≤ (-2) - 1000000 ∧ (-2) - 1000000 < (2147483648 : Int) := k12 h1 h2
      refine z_isubN dX12_bornIn_54 s12 ?_
      refine z_goto dX12_bornIn_55 (tgt := 69) (by decide) ?_
      exact z_ireti rfl dX12_bornIn_69 (k13 h1 h2)
  · have h1 : ¬ ((0 ≤ a1 ∧ a1 < 10)) := zb0 z
    refine z_iconst dX12_bornIn_7 (by unfold zIn; decide) ?_
    refine z_goto dX12_bornIn_8 (tgt := 41) (by decide) ?_
    refine z_istore_n (ls' := [zr 98, zi a1, zi (-1)]) dX12_bornIn_41 rfl (by decide) rfl ?_
    refine z_iload_n dX12_bornIn_42 rfl rfl ?_
    refine z_if_eq dX12_bornIn_43 (tgt := 58) (by decide) (fun z => absurd z (by decide)) (fun z => ?_)
    refine z_aload_n dX12_bornIn_46 rfl rfl ?_
    refine z_iload_n dX12_bornIn_47 rfl rfl ?_
    have s14 : -2147483648 ≤ -(-1) ∧ -(-1) < (2147483648 : Int) := k14 h1
    have s15 : (0 : Int) ≤ -(-1) ∧ -(-1) < (8 : Int) := k15 h1
    have s16 : -2147483648 ≤ (σ 157 (-(-1))) + 1 ∧ (σ 157 (-(-1))) + 1 < (2147483648 : Int) := k16 h1
    refine z_callv (as := [zi (-1)]) (st := []) mkX12_no lkRX12_267 rfl rfl rfl (by decide) (Nat.le_of_ble_eq_true rfl) rfl dX12_bornIn_48 ?_
    refine SX12_no s14 s15 s16 ?_
    show zR G MX12_bornIn 51 [zr 98, zi a1, zi (-1)] [zi (-1)] (zup σ 157 (-(-1)) ((σ 157 (-(-1))) + 1)) Q
    refine z_ldcw (x := 1000000) (zin_8 (List.mem_of_getElem? (i := 42) (by decide +kernel))) (by unfold zIn; decide) dX12_bornIn_51 ?_
    have s17 : -2147483648 ≤ (-1) - 1000000 ∧ (-1) - 1000000 < (2147483648 : Int) := k17 h1
    refine z_isubN dX12_bornIn_54 s17 ?_
    refine z_goto dX12_bornIn_55 (tgt := 69) (by decide) ?_
    exact z_ireti rfl dX12_bornIn_69 (k18 h1)
set_option maxRecDepth 20000 in
set_option maxHeartbeats 1000000 in
theorem TX12_wants {G : zG} {σ : zS} {Q : Int → zS → Prop} {a1 : Int}  (k1 : ((0 ≤ a1 ∧ a1 < 10)) → (0 : Int) ≤ a1 ∧ a1 < (10 : Int)) (k2 : ((0 ≤ a1 ∧ a1 < 10)) → (σ 111 a1 ≠ 2) → (σ 111 a1 ≠ 0) → Q 0 σ) (k3 : ((0 ≤ a1 ∧ a1 < 10)) → (σ 111 a1 ≠ 2) → (σ 111 a1 = 0) → Q (-3) σ) (k4 : ((0 ≤ a1 ∧ a1 < 10)) → (σ 111 a1 = 2) → Q (-2) σ) (k5 : (¬ ((0 ≤ a1 ∧ a1 < 10))) → Q (-1) σ) : zO G MX12_wants [zr 98, zi a1] σ Q := by
  refine zO_of (ls0 := [zr 98, zi a1]) (by decide) (Nat.le_of_ble_eq_true rfl) rfl ?_
  refine z_iload_n dX12_wants_0 rfl rfl ?_
  refine z_calls (as := [zi a1]) (st := []) mkX12_isShelf lkRX12_293 rfl (by decide) (Nat.le_of_ble_eq_true rfl) rfl dX12_wants_1 ?_
  refine SX12_isShelf ?_
  show zR G MX12_wants 4 [zr 98, zi a1] [zi (if (0 ≤ a1 ∧ a1 < 10) then (1 : Int) else 0)] σ Q
  refine z_if_ne dX12_wants_4 (tgt := 11) (by decide) (fun z => ?_) (fun z => ?_)
  · have h1 : (0 ≤ a1 ∧ a1 < 10) := zb1 z
    refine z_aload_n dX12_wants_11 rfl rfl ?_
    refine z_getfR (k := 25) flRX12_51 rfl rfl dX12_wants_12 ?_
    refine z_iload_n dX12_wants_15 rfl rfl ?_
    have s1 : (0 : Int) ≤ a1 ∧ a1 < (10 : Int) := k1 h1
    refine z_iald rfl s1.1 s1.2 dX12_wants_16 ?_
    refine z_iconst dX12_wants_17 (by unfold zIn; decide) ?_
    refine z_icmp_ne dX12_wants_18 (tgt := 26) (by decide) (fun h2 => ?_) (fun h2 => ?_)
    · skip
      refine z_aload_n dX12_wants_26 rfl rfl ?_
      refine z_getfR (k := 25) flRX12_51 rfl rfl dX12_wants_27 ?_
      refine z_iload_n dX12_wants_30 rfl rfl ?_
      refine z_iald rfl s1.1 s1.2 dX12_wants_31 ?_
      refine z_if_ne dX12_wants_32 (tgt := 40) (by decide) (fun h3 => ?_) (fun h3 => ?_)
      · skip
        refine z_iconst dX12_wants_40 (by unfold zIn; decide) ?_
        exact z_ireti rfl dX12_wants_41 (k2 h1 h2 h3)
      · skip
        refine z_bipush (x := (-3)) dX12_wants_35 (by decide +kernel) (by unfold zIn; decide) ?_
        refine z_goto dX12_wants_37 (tgt := 41) (by decide) ?_
        exact z_ireti rfl dX12_wants_41 (k3 h1 h2 h3)
    · skip
      refine z_bipush (x := (-2)) dX12_wants_21 (by decide +kernel) (by unfold zIn; decide) ?_
      refine z_goto dX12_wants_23 (tgt := 41) (by decide) ?_
      exact z_ireti rfl dX12_wants_41 (k4 h1 h2)
  · have h1 : ¬ ((0 ≤ a1 ∧ a1 < 10)) := zb0 z
    refine z_iconst dX12_wants_7 (by unfold zIn; decide) ?_
    refine z_goto dX12_wants_8 (tgt := 41) (by decide) ?_
    exact z_ireti rfl dX12_wants_41 (k5 h1)
set_option maxRecDepth 20000 in
set_option maxHeartbeats 1000000 in
theorem TX12_statute {G : zG} {σ : zS} {Q : Int → zS → Prop} {a1 a2 : Int}  (k1 : ((0 ≤ a1 ∧ a1 < 4)) → zO G MX12_wants [zr 98, zi a2] σ (fun rr σ' => zR G MX12_statute 18 [zr 98, zi a1, zi a2, zu, zu] [zi rr] σ' Q)) (k2 : (¬ ((0 ≤ a1 ∧ a1 < 4))) → -2147483648 ≤ -(-1) ∧ -(-1) < (2147483648 : Int)) (k3 : (¬ ((0 ≤ a1 ∧ a1 < 4))) → (0 : Int) ≤ -(-1) ∧ -(-1) < (8 : Int)) (k4 : (¬ ((0 ≤ a1 ∧ a1 < 4))) → -2147483648 ≤ (σ 157 (-(-1))) + 1 ∧ (σ 157 (-(-1))) + 1 < (2147483648 : Int)) (k5 : (¬ ((0 ≤ a1 ∧ a1 < 4))) → Q (-1) (zup σ 157 (-(-1)) ((σ 157 (-(-1))) + 1))) : zO G MX12_statute [zr 98, zi a1, zi a2] σ Q := by
  refine zO_of (ls0 := [zr 98, zi a1, zi a2, zu, zu]) (by decide) (Nat.le_of_ble_eq_true rfl) rfl ?_
  refine z_iload_n dX12_statute_0 rfl rfl ?_
  refine z_calls (as := [zi a1]) (st := []) mkX12_isStatute lkRX12_297 rfl (by decide) (Nat.le_of_ble_eq_true rfl) rfl dX12_statute_1 ?_
  refine SX12_isStatute ?_
  show zR G MX12_statute 4 [zr 98, zi a1, zi a2, zu, zu] [zi (if (0 ≤ a1 ∧ a1 < 4) then (1 : Int) else 0)] σ Q
  refine z_if_ne dX12_statute_4 (tgt := 13) (by decide) (fun z => ?_) (fun z => ?_)
  · have h1 : (0 ≤ a1 ∧ a1 < 4) := zb1 z
    refine z_aload_n dX12_statute_13 rfl rfl ?_
    refine z_iload_n dX12_statute_14 rfl rfl ?_
    refine z_callv (as := [zi a2]) (st := []) mkX12_wants lkRX12_300 rfl rfl rfl (by decide) (Nat.le_of_ble_eq_true rfl) rfl dX12_statute_15 (k1 h1)
  · have h1 : ¬ ((0 ≤ a1 ∧ a1 < 4)) := zb0 z
    refine z_aload_n dX12_statute_7 rfl rfl ?_
    refine z_iconst dX12_statute_8 (by unfold zIn; decide) ?_
    have s2 : -2147483648 ≤ -(-1) ∧ -(-1) < (2147483648 : Int) := k2 h1
    have s3 : (0 : Int) ≤ -(-1) ∧ -(-1) < (8 : Int) := k3 h1
    have s4 : -2147483648 ≤ (σ 157 (-(-1))) + 1 ∧ (σ 157 (-(-1))) + 1 < (2147483648 : Int) := k4 h1
    refine z_callv (as := [zi (-1)]) (st := []) mkX12_no lkRX12_267 rfl rfl rfl (by decide) (Nat.le_of_ble_eq_true rfl) rfl dX12_statute_9 ?_
    refine SX12_no s2 s3 s4 ?_
    show zR G MX12_statute 12 [zr 98, zi a1, zi a2, zu, zu] [zi (-1)] (zup σ 157 (-(-1)) ((σ 157 (-(-1))) + 1)) Q
    exact z_ireti rfl dX12_statute_12 (k5 h1)
set_option maxRecDepth 20000 in
set_option maxHeartbeats 1000000 in
theorem TX12_statute_18 {G : zG} {σ : zS} {Q : Int → zS → Prop} {v1 v2 r : Int}  (k1 : (r = 0) → (0 : Int) ≤ v1 ∧ v1 < (4 : Int)) (k2 : (r = 0) → (σ 161 v1 = 0) → (0 : Int) ≤ v2 ∧ v2 < (10 : Int)) (k3 : (r = 0) → (σ 161 v1 = 0) → (σ 113 v2 ≠ 0) → zR G MX12_statute 76 [zr 98, zi v1, zi v2, zi r, zi 0] [] (zup (zup σ 161 v1 1) 118 v1 ((zup σ 161 v1 1) 113 v2)) Q) (k4 : (r ≠ 0) → -2147483648 ≤ -r ∧ -r < (2147483648 : Int)) (k5 : (r ≠ 0) → (0 : Int) ≤ -r ∧ -r < (8 : Int)) (k6 : (r ≠ 0) → -2147483648 ≤ (σ 157 (-r)) + 1 ∧ (σ 157 (-r)) + 1 < (2147483648 : Int)) (k7 : (r ≠ 0) → Q r (zup σ 157 (-r) ((σ 157 (-r)) + 1))) (k8 : (r = 0) → (σ 161 v1 ≠ 0 ∨ (σ 161 v1 = 0 ∧ σ 113 v2 = 0)) → -2147483648 ≤ -(-6) ∧ -(-6) < (2147483648 : Int)) (k9 : (r = 0) → (σ 161 v1 ≠ 0 ∨ (σ 161 v1 = 0 ∧ σ 113 v2 = 0)) → (0 : Int) ≤ -(-6) ∧ -(-6) < (8 : Int)) (k10 : (r = 0) → (σ 161 v1 ≠ 0 ∨ (σ 161 v1 = 0 ∧ σ 113 v2 = 0)) → -2147483648 ≤ (σ 157 (-(-6))) + 1 ∧ (σ 157 (-(-6))) + 1 < (2147483648 : Int)) (k11 : (r = 0) → (σ 161 v1 ≠ 0 ∨ (σ 161 v1 = 0 ∧ σ 113 v2 = 0)) → Q (-6) (zup σ 157 (-(-6)) ((σ 157 (-(-6))) + 1))) : zR G MX12_statute 18 [zr 98, zi v1, zi v2, zu, zu] [zi r] σ Q := by
  have J47 : (r = 0) → (σ 161 v1 ≠ 0 ∨ (σ 161 v1 = 0 ∧ σ 113 v2 = 0)) → zR G MX12_statute 47 [zr 98, zi v1, zi v2, zi r, zu] [] σ Q := by
    intro h1 h4
    refine z_aload_n dX12_statute_47 rfl rfl ?_
    refine z_bipush (x := (-6)) dX12_statute_48 (by decide +kernel) (by unfold zIn; decide) ?_
    have s8 : -2147483648 ≤ -(-6) ∧ -(-6) < (2147483648 : Int) := k8 h1 h4
    have s9 : (0 : Int) ≤ -(-6) ∧ -(-6) < (8 : Int) := k9 h1 h4
    have s10 : -2147483648 ≤ (σ 157 (-(-6))) + 1 ∧ (σ 157 (-(-6))) + 1 < (2147483648 : Int) := k10 h1 h4
    refine z_callv (as := [zi (-6)]) (st := []) mkX12_no lkRX12_267 rfl rfl rfl (by decide) (Nat.le_of_ble_eq_true rfl) rfl dX12_statute_50 ?_
    refine SX12_no s8 s9 s10 ?_
    show zR G MX12_statute 53 [zr 98, zi v1, zi v2, zi r, zu] [zi (-6)] (zup σ 157 (-(-6)) ((σ 157 (-(-6))) + 1)) Q
    exact z_ireti rfl dX12_statute_53 (k11 h1 h4)
  refine z_istore_n (ls' := [zr 98, zi v1, zi v2, zi r, zu]) dX12_statute_18 rfl (by decide) rfl ?_
  refine z_iload_n dX12_statute_19 rfl rfl ?_
  refine z_if_eq dX12_statute_20 (tgt := 29) (by decide) (fun h1 => ?_) (fun h1 => ?_)
  · skip
    refine z_aload_n dX12_statute_29 rfl rfl ?_
    refine z_getfR (k := 77) flRX12_202 rfl rfl dX12_statute_30 ?_
    refine z_iload_n dX12_statute_33 rfl rfl ?_
    have s1 : (0 : Int) ≤ v1 ∧ v1 < (4 : Int) := k1 h1
    refine z_bald rfl s1.1 s1.2 dX12_statute_34 ?_
    refine z_if_ne dX12_statute_35 (tgt := 47) (by decide) (fun h2 => ?_) (fun h2 => ?_)
    · skip
      exact J47 h1 (Or.inl h2)
    · skip
      refine z_aload_n dX12_statute_38 rfl rfl ?_
      refine z_getfR (k := 27) flRX12_57 rfl rfl dX12_statute_39 ?_
      refine z_iload_n dX12_statute_42 rfl rfl ?_
      have s2 : (0 : Int) ≤ v2 ∧ v2 < (10 : Int) := k2 h1 h2
      refine z_iald rfl s2.1 s2.2 dX12_statute_43 ?_
      refine z_if_ne dX12_statute_44 (tgt := 54) (by decide) (fun h3 => ?_) (fun h3 => ?_)
      · skip
        refine z_aload_n dX12_statute_54 rfl rfl ?_
        refine z_getfR (k := 77) flRX12_202 rfl rfl dX12_statute_55 ?_
        refine z_iload_n dX12_statute_58 rfl rfl ?_
        refine z_iconst dX12_statute_59 (by unfold zIn; decide) ?_
        refine z_bast rfl s1.1 s1.2 (by decide) dX12_statute_60 ?_
        refine z_aload_n dX12_statute_61 rfl rfl ?_
        refine z_getfR (k := 32) flRX12_73 rfl rfl dX12_statute_62 ?_
        refine z_iload_n dX12_statute_65 rfl rfl ?_
        refine z_aload_n dX12_statute_66 rfl rfl ?_
        refine z_getfR (k := 27) flRX12_57 rfl rfl dX12_statute_67 ?_
        refine z_iload_n dX12_statute_70 rfl rfl ?_
        refine z_iald rfl s2.1 s2.2 dX12_statute_71 ?_
        refine z_iast rfl s1.1 s1.2 dX12_statute_72 ?_
        refine z_iconst dX12_statute_73 (by unfold zIn; decide) ?_
        refine z_istore (ls' := [zr 98, zi v1, zi v2, zi r, zi 0]) dX12_statute_74 (by decide) rfl ?_
        exact k3 h1 h2 h3
      · skip
        exact J47 h1 (Or.inr ⟨h2, h3⟩)
  · skip
    refine z_aload_n dX12_statute_23 rfl rfl ?_
    refine z_iload_n dX12_statute_24 rfl rfl ?_
    have s4 : -2147483648 ≤ -r ∧ -r < (2147483648 : Int) := k4 h1
    have s5 : (0 : Int) ≤ -r ∧ -r < (8 : Int) := k5 h1
    have s6 : -2147483648 ≤ (σ 157 (-r)) + 1 ∧ (σ 157 (-r)) + 1 < (2147483648 : Int) := k6 h1
    refine z_callv (as := [zi r]) (st := []) mkX12_no lkRX12_267 rfl rfl rfl (by decide) (Nat.le_of_ble_eq_true rfl) rfl dX12_statute_25 ?_
    refine SX12_no s4 s5 s6 ?_
    show zR G MX12_statute 28 [zr 98, zi v1, zi v2, zi r, zu] [zi r] (zup σ 157 (-r) ((σ 157 (-r)) + 1)) Q
    exact z_ireti rfl dX12_statute_28 (k7 h1)
set_option maxRecDepth 20000 in
set_option maxHeartbeats 1000000 in
theorem TX12_statute_76 {G : zG} {σ : zS} {Q : Int → zS → Prop} {v1 v2 v3 v4 : Int}  (k1 : (0 : Int) ≤ v2 ∧ v2 < (10 : Int)) (k2 : (σ 113 v2 ≤ v4) → Q (σ 113 v2) σ) (k3 : (v4 < σ 113 v2) → -2147483648 ≤ 80 * v1 ∧ 80 * v1 < (2147483648 : Int)) (k4 : (v4 < σ 113 v2) → -2147483648 ≤ (80 * v1) + v4 ∧ (80 * v1) + v4 < (2147483648 : Int)) (k5 : (v4 < σ 113 v2) → -2147483648 ≤ 80 * v2 ∧ 80 * v2 < (2147483648 : Int)) (k6 : (v4 < σ 113 v2) → -2147483648 ≤ (80 * v2) + v4 ∧ (80 * v2) + v4 < (2147483648 : Int)) (k7 : (v4 < σ 113 v2) → (0 : Int) ≤ (80 * v2) + v4 ∧ (80 * v2) + v4 < (800 : Int)) (k8 : (v4 < σ 113 v2) → (0 : Int) ≤ (80 * v1) + v4 ∧ (80 * v1) + v4 < (320 : Int)) (k9 : (v4 < σ 113 v2) → -2147483648 ≤ v4 + 1 ∧ v4 + 1 < (2147483648 : Int)) (k10 : (v4 < σ 113 v2) → zR G MX12_statute 76 [zr 98, zi v1, zi v2, zi v3, zi (v4 + 1)] [] (zup σ 117 ((80 * v1) + v4) (zW (σ 115 ((80 * v2) + v4)))) Q) : zR G MX12_statute 76 [zr 98, zi v1, zi v2, zi v3, zi v4] [] σ Q := by
  refine z_iload dX12_statute_76 rfl ?_
  refine z_aload_n dX12_statute_78 rfl rfl ?_
  refine z_getfR (k := 27) flRX12_57 rfl rfl dX12_statute_79 ?_
  refine z_iload_n dX12_statute_82 rfl rfl ?_
  have s1 : (0 : Int) ≤ v2 ∧ v2 < (10 : Int) := k1
  refine z_iald rfl s1.1 s1.2 dX12_statute_83 ?_
  refine z_icmp_ge dX12_statute_84 (tgt := 118) (by decide) (fun h1 => ?_) (fun h1 => ?_)
  · skip
    refine z_aload_n dX12_statute_118 rfl rfl ?_
    refine z_getfR (k := 27) flRX12_57 rfl rfl dX12_statute_119 ?_
    refine z_iload_n dX12_statute_122 rfl rfl ?_
    refine z_iald rfl s1.1 s1.2 dX12_statute_123 ?_
    exact z_ireti rfl dX12_statute_124 (k2 h1)
  · skip
    refine z_aload_n dX12_statute_87 rfl rfl ?_
    refine z_getfR (k := 31) flRX12_70 rfl rfl dX12_statute_88 ?_
    refine z_bipush (x := 80) dX12_statute_91 (by decide +kernel) (by unfold zIn; decide) ?_
    refine z_iload_n dX12_statute_93 rfl rfl ?_
    have s3 : -2147483648 ≤ 80 * v1 ∧ 80 * v1 < (2147483648 : Int) := k3 h1
    refine z_imulN dX12_statute_94 s3 ?_
    refine z_iload dX12_statute_95 rfl ?_
    have s4 : -2147483648 ≤ (80 * v1) + v4 ∧ (80 * v1) + v4 < (2147483648 : Int) := k4 h1
    refine z_iaddN dX12_statute_97 s4 ?_
    refine z_aload_n dX12_statute_98 rfl rfl ?_
    refine z_getfR (k := 29) flRX12_63 rfl rfl dX12_statute_99 ?_
    refine z_bipush (x := 80) dX12_statute_102 (by decide +kernel) (by unfold zIn; decide) ?_
    refine z_iload_n dX12_statute_104 rfl rfl ?_
    have s5 : -2147483648 ≤ 80 * v2 ∧ 80 * v2 < (2147483648 : Int) := k5 h1
    refine z_imulN dX12_statute_105 s5 ?_
    refine z_iload dX12_statute_106 rfl ?_
    have s6 : -2147483648 ≤ (80 * v2) + v4 ∧ (80 * v2) + v4 < (2147483648 : Int) := k6 h1
    refine z_iaddN dX12_statute_108 s6 ?_
    have s7 : (0 : Int) ≤ (80 * v2) + v4 ∧ (80 * v2) + v4 < (800 : Int) := k7 h1
    refine z_lald rfl s7.1 s7.2 dX12_statute_109 ?_
    refine z_l2i dX12_statute_110 ?_
    have s8 : (0 : Int) ≤ (80 * v1) + v4 ∧ (80 * v1) + v4 < (320 : Int) := k8 h1
    refine z_iast rfl s8.1 s8.2 dX12_statute_111 ?_
    have s9 : -2147483648 ≤ v4 + 1 ∧ v4 + 1 < (2147483648 : Int) := k9 h1
    refine z_iincN (ls' := [zr 98, zi v1, zi v2, zi v3, zi (v4 + 1)]) dX12_statute_112 rfl (by decide) s9 rfl ?_
    refine z_goto dX12_statute_115 (tgt := 76) (by decide) ?_
    exact k10 h1
set_option maxRecDepth 20000 in
set_option maxHeartbeats 1000000 in
theorem TX12_amend {G : zG} {σ : zS} {Q : Int → zS → Prop} {a1 a2 a3 a4 : Int}  (k1 : ((0 ≤ a1 ∧ a1 < 4)) → ((0 ≤ a2 ∧ a2 < 10)) → ((0 ≤ a3 ∧ a3 < 10)) → (0 : Int) ≤ a2 ∧ a2 < (10 : Int)) (k2 : ((0 ≤ a1 ∧ a1 < 4)) → ((0 ≤ a2 ∧ a2 < 10)) → ((0 ≤ a3 ∧ a3 < 10)) → (σ 111 a2 ≠ 2) → (0 : Int) ≤ a3 ∧ a3 < (10 : Int)) (k3 : ((0 ≤ a1 ∧ a1 < 4)) → ((0 ≤ a2 ∧ a2 < 10)) → ((0 ≤ a3 ∧ a3 < 10)) → (σ 111 a2 ≠ 2) → (σ 111 a3 ≠ 2) → (σ 111 a2 ≠ 0) → (σ 111 a3 ≠ 0) → (0 ≤ a4) → (a4 ≤ 40000) → (σ 113 a2 ≠ 0) → (σ 113 a3 ≠ 0) → (σ 98 3 ≠ 12) → (0 : Int) ≤ σ 98 3 ∧ σ 98 3 < (12 : Int)) (k4 : ((0 ≤ a1 ∧ a1 < 4)) → ((0 ≤ a2 ∧ a2 < 10)) → ((0 ≤ a3 ∧ a3 < 10)) → (σ 111 a2 ≠ 2) → (σ 111 a3 ≠ 2) → (σ 111 a2 ≠ 0) → (σ 111 a3 ≠ 0) → (0 ≤ a4) → (a4 ≤ 40000) → (σ 113 a2 ≠ 0) → (σ 113 a3 ≠ 0) → (σ 98 3 ≠ 12) → zR G MX12_amend 196 [zr 98, zi a1, zi a2, zi a3, zi a4, zi (σ 98 3), zi 0] [] (zup (zup (zup (zup (zup σ 119 (σ 98 3) a1) 120 (σ 98 3) a4) 121 (σ 98 3) ((zup (zup σ 119 (σ 98 3) a1) 120 (σ 98 3) a4) 98 0)) 122 (σ 98 3) ((zup (zup (zup σ 119 (σ 98 3) a1) 120 (σ 98 3) a4) 121 (σ 98 3) ((zup (zup σ 119 (σ 98 3) a1) 120 (σ 98 3) a4) 98 0)) 113 a2)) 123 (σ 98 3) ((zup (zup (zup (zup σ 119 (σ 98 3) a1) 120 (σ 98 3) a4) 121 (σ 98 3) ((zup (zup σ 119 (σ 98 3) a1) 120 (σ 98 3) a4) 98 0)) 122 (σ 98 3) ((zup (zup (zup σ 119 (σ 98 3) a1) 120 (σ 98 3) a4) 121 (σ 98 3) ((zup (zup σ 119 (σ 98 3) a1) 120 (σ 98 3) a4) 98 0)) 113 a2)) 113 a3)) Q) (k5 : ((0 ≤ a1 ∧ a1 < 4)) → ((0 ≤ a2 ∧ a2 < 10)) → ((0 ≤ a3 ∧ a3 < 10)) → (σ 111 a2 ≠ 2) → (σ 111 a3 ≠ 2) → (σ 111 a2 ≠ 0) → (σ 111 a3 ≠ 0) → (0 ≤ a4) → (a4 ≤ 40000) → (σ 113 a2 ≠ 0) → (σ 113 a3 ≠ 0) → (σ 98 3 = 12) → -2147483648 ≤ -(-7) ∧ -(-7) < (2147483648 : Int)) (k6 : ((0 ≤ a1 ∧ a1 < 4)) → ((0 ≤ a2 ∧ a2 < 10)) → ((0 ≤ a3 ∧ a3 < 10)) → (σ 111 a2 ≠ 2) → (σ 111 a3 ≠ 2) → (σ 111 a2 ≠ 0) → (σ 111 a3 ≠ 0) → (0 ≤ a4) → (a4 ≤ 40000) → (σ 113 a2 ≠ 0) → (σ 113 a3 ≠ 0) → (σ 98 3 = 12) → (0 : Int) ≤ -(-7) ∧ -(-7) < (8 : Int)) (k7 : ((0 ≤ a1 ∧ a1 < 4)) → ((0 ≤ a2 ∧ a2 < 10)) → ((0 ≤ a3 ∧ a3 < 10)) → (σ 111 a2 ≠ 2) → (σ 111 a3 ≠ 2) → (σ 111 a2 ≠ 0) → (σ 111 a3 ≠ 0) → (0 ≤ a4) → (a4 ≤ 40000) → (σ 113 a2 ≠ 0) → (σ 113 a3 ≠ 0) → (σ 98 3 = 12) → -2147483648 ≤ (σ 157 (-(-7))) + 1 ∧ (σ 157 (-(-7))) + 1 < (2147483648 : Int)) (k8 : ((0 ≤ a1 ∧ a1 < 4)) → ((0 ≤ a2 ∧ a2 < 10)) → ((0 ≤ a3 ∧ a3 < 10)) → (σ 111 a2 ≠ 2) → (σ 111 a3 ≠ 2) → (σ 111 a2 ≠ 0) → (σ 111 a3 ≠ 0) → (0 ≤ a4) → (a4 ≤ 40000) → (σ 113 a2 ≠ 0) → (σ 113 a3 ≠ 0) → (σ 98 3 = 12) → Q (-7) (zup σ 157 (-(-7)) ((σ 157 (-(-7))) + 1))) (k9 : ((¬ ((0 ≤ a1 ∧ a1 < 4))) ∨ (((0 ≤ a1 ∧ a1 < 4)) ∧ (¬ ((0 ≤ a2 ∧ a2 < 10)))) ∨ (((0 ≤ a1 ∧ a1 < 4)) ∧ ((0 ≤ a2 ∧ a2 < 10)) ∧ (¬ ((0 ≤ a3 ∧ a3 < 10))))) → -2147483648 ≤ -(-1) ∧ -(-1) < (2147483648 : Int)) (k10 : ((¬ ((0 ≤ a1 ∧ a1 < 4))) ∨ (((0 ≤ a1 ∧ a1 < 4)) ∧ (¬ ((0 ≤ a2 ∧ a2 < 10)))) ∨ (((0 ≤ a1 ∧ a1 < 4)) ∧ ((0 ≤ a2 ∧ a2 < 10)) ∧ (¬ ((0 ≤ a3 ∧ a3 < 10))))) → (0 : Int) ≤ -(-1) ∧ -(-1) < (8 : Int)) (k11 : ((¬ ((0 ≤ a1 ∧ a1 < 4))) ∨ (((0 ≤ a1 ∧ a1 < 4)) ∧ (¬ ((0 ≤ a2 ∧ a2 < 10)))) ∨ (((0 ≤ a1 ∧ a1 < 4)) ∧ ((0 ≤ a2 ∧ a2 < 10)) ∧ (¬ ((0 ≤ a3 ∧ a3 < 10))))) → -2147483648 ≤ (σ 157 (-(-1))) + 1 ∧ (σ 157 (-(-1))) + 1 < (2147483648 : Int)) (k12 : ((¬ ((0 ≤ a1 ∧ a1 < 4))) ∨ (((0 ≤ a1 ∧ a1 < 4)) ∧ (¬ ((0 ≤ a2 ∧ a2 < 10)))) ∨ (((0 ≤ a1 ∧ a1 < 4)) ∧ ((0 ≤ a2 ∧ a2 < 10)) ∧ (¬ ((0 ≤ a3 ∧ a3 < 10))))) → Q (-1) (zup σ 157 (-(-1)) ((σ 157 (-(-1))) + 1))) (k13 : ((0 ≤ a1 ∧ a1 < 4)) → ((0 ≤ a2 ∧ a2 < 10)) → ((0 ≤ a3 ∧ a3 < 10)) → (σ 111 a2 = 2 ∨ (σ 111 a2 ≠ 2 ∧ σ 111 a3 = 2)) → -2147483648 ≤ -(-2) ∧ -(-2) < (2147483648 : Int)) (k14 : ((0 ≤ a1 ∧ a1 < 4)) → ((0 ≤ a2 ∧ a2 < 10)) → ((0 ≤ a3 ∧ a3 < 10)) → (σ 111 a2 = 2 ∨ (σ 111 a2 ≠ 2 ∧ σ 111 a3 = 2)) → (0 : Int) ≤ -(-2) ∧ -(-2) < (8 : Int)) (k15 : ((0 ≤ a1 ∧ a1 < 4)) → ((0 ≤ a2 ∧ a2 < 10)) → ((0 ≤ a3 ∧ a3 < 10)) → (σ 111 a2 = 2 ∨ (σ 111 a2 ≠ 2 ∧ σ 111 a3 = 2)) → -2147483648 ≤ (σ 157 (-(-2))) + 1 ∧ (σ 157 (-(-2))) + 1 < (2147483648 : Int)) (k16 : ((0 ≤ a1 ∧ a1 < 4)) → ((0 ≤ a2 ∧ a2 < 10)) → ((0 ≤ a3 ∧ a3 < 10)) → (σ 111 a2 = 2 ∨ (σ 111 a2 ≠ 2 ∧ σ 111 a3 = 2)) → Q (-2) (zup σ 157 (-(-2)) ((σ 157 (-(-2))) + 1))) (k17 : ((0 ≤ a1 ∧ a1 < 4)) → ((0 ≤ a2 ∧ a2 < 10)) → ((0 ≤ a3 ∧ a3 < 10)) → (σ 111 a2 ≠ 2) → (σ 111 a3 ≠ 2) → (σ 111 a2 = 0 ∨ (σ 111 a2 ≠ 0 ∧ σ 111 a3 = 0)) → -2147483648 ≤ -(-3) ∧ -(-3) < (2147483648 : Int)) (k18 : ((0 ≤ a1 ∧ a1 < 4)) → ((0 ≤ a2 ∧ a2 < 10)) → ((0 ≤ a3 ∧ a3 < 10)) → (σ 111 a2 ≠ 2) → (σ 111 a3 ≠ 2) → (σ 111 a2 = 0 ∨ (σ 111 a2 ≠ 0 ∧ σ 111 a3 = 0)) → (0 : Int) ≤ -(-3) ∧ -(-3) < (8 : Int)) (k19 : ((0 ≤ a1 ∧ a1 < 4)) → ((0 ≤ a2 ∧ a2 < 10)) → ((0 ≤ a3 ∧ a3 < 10)) → (σ 111 a2 ≠ 2) → (σ 111 a3 ≠ 2) → (σ 111 a2 = 0 ∨ (σ 111 a2 ≠ 0 ∧ σ 111 a3 = 0)) → -2147483648 ≤ (σ 157 (-(-3))) + 1 ∧ (σ 157 (-(-3))) + 1 < (2147483648 : Int)) (k20 : ((0 ≤ a1 ∧ a1 < 4)) → ((0 ≤ a2 ∧ a2 < 10)) → ((0 ≤ a3 ∧ a3 < 10)) → (σ 111 a2 ≠ 2) → (σ 111 a3 ≠ 2) → (σ 111 a2 = 0 ∨ (σ 111 a2 ≠ 0 ∧ σ 111 a3 = 0)) → Q (-3) (zup σ 157 (-(-3)) ((σ 157 (-(-3))) + 1))) (k21 : ((0 ≤ a1 ∧ a1 < 4)) → ((0 ≤ a2 ∧ a2 < 10)) → ((0 ≤ a3 ∧ a3 < 10)) → (σ 111 a2 ≠ 2) → (σ 111 a3 ≠ 2) → (σ 111 a2 ≠ 0) → (σ 111 a3 ≠ 0) → (a4 < 0 ∨ (0 ≤ a4 ∧ 40000 < a4) ∨ (0 ≤ a4 ∧ a4 ≤ 40000 ∧ σ 113 a2 = 0) ∨ (0 ≤ a4 ∧ a4 ≤ 40000 ∧ σ 113 a2 ≠ 0 ∧ σ 113 a3 = 0)) → -2147483648 ≤ -(-6) ∧ -(-6) < (2147483648 : Int)) (k22 : ((0 ≤ a1 ∧ a1 < 4)) → ((0 ≤ a2 ∧ a2 < 10)) → ((0 ≤ a3 ∧ a3 < 10)) → (σ 111 a2 ≠ 2) → (σ 111 a3 ≠ 2) → (σ 111 a2 ≠ 0) → (σ 111 a3 ≠ 0) → (a4 < 0 ∨ (0 ≤ a4 ∧ 40000 < a4) ∨ (0 ≤ a4 ∧ a4 ≤ 40000 ∧ σ 113 a2 = 0) ∨ (0 ≤ a4 ∧ a4 ≤ 40000 ∧ σ 113 a2 ≠ 0 ∧ σ 113 a3 = 0)) → (0 : Int) ≤ -(-6) ∧ -(-6) < (8 : Int)) (k23 : ((0 ≤ a1 ∧ a1 < 4)) → ((0 ≤ a2 ∧ a2 < 10)) → ((0 ≤ a3 ∧ a3 < 10)) → (σ 111 a2 ≠ 2) → (σ 111 a3 ≠ 2) → (σ 111 a2 ≠ 0) → (σ 111 a3 ≠ 0) → (a4 < 0 ∨ (0 ≤ a4 ∧ 40000 < a4) ∨ (0 ≤ a4 ∧ a4 ≤ 40000 ∧ σ 113 a2 = 0) ∨ (0 ≤ a4 ∧ a4 ≤ 40000 ∧ σ 113 a2 ≠ 0 ∧ σ 113 a3 = 0)) → -2147483648 ≤ (σ 157 (-(-6))) + 1 ∧ (σ 157 (-(-6))) + 1 < (2147483648 : Int)) (k24 : ((0 ≤ a1 ∧ a1 < 4)) → ((0 ≤ a2 ∧ a2 < 10)) → ((0 ≤ a3 ∧ a3 < 10)) → (σ 111 a2 ≠ 2) → (σ 111 a3 ≠ 2) → (σ 111 a2 ≠ 0) → (σ 111 a3 ≠ 0) → (a4 < 0 ∨ (0 ≤ a4 ∧ 40000 < a4) ∨ (0 ≤ a4 ∧ a4 ≤ 40000 ∧ σ 113 a2 = 0) ∨ (0 ≤ a4 ∧ a4 ≤ 40000 ∧ σ 113 a2 ≠ 0 ∧ σ 113 a3 = 0)) → Q (-6) (zup σ 157 (-(-6)) ((σ 157 (-(-6))) + 1))) : zO G MX12_amend [zr 98, zi a1, zi a2, zi a3, zi a4] σ Q := by
  refine zO_of (ls0 := [zr 98, zi a1, zi a2, zi a3, zi a4, zu, zu]) (by decide) (Nat.le_of_ble_eq_true rfl) rfl ?_
  have J110 : ((0 ≤ a1 ∧ a1 < 4)) → ((0 ≤ a2 ∧ a2 < 10)) → ((0 ≤ a3 ∧ a3 < 10)) → (σ 111 a2 ≠ 2) → (σ 111 a3 ≠ 2) → (σ 111 a2 ≠ 0) → (σ 111 a3 ≠ 0) → (a4 < 0 ∨ (0 ≤ a4 ∧ 40000 < a4) ∨ (0 ≤ a4 ∧ a4 ≤ 40000 ∧ σ 113 a2 = 0) ∨ (0 ≤ a4 ∧ a4 ≤ 40000 ∧ σ 113 a2 ≠ 0 ∧ σ 113 a3 = 0)) → zR G MX12_amend 110 [zr 98, zi a1, zi a2, zi a3, zi a4, zu, zu] [] σ Q := by
    intro h1 h2 h3 h4 h5 h6 h7 h16
    refine z_aload_n dX12_amend_110 rfl rfl ?_
    refine z_bipush (x := (-6)) dX12_amend_111 (by decide +kernel) (by unfold zIn; decide) ?_
    have s21 : -2147483648 ≤ -(-6) ∧ -(-6) < (2147483648 : Int) := k21 h1 h2 h3 h4 h5 h6 h7 h16
    have s22 : (0 : Int) ≤ -(-6) ∧ -(-6) < (8 : Int) := k22 h1 h2 h3 h4 h5 h6 h7 h16
    have s23 : -2147483648 ≤ (σ 157 (-(-6))) + 1 ∧ (σ 157 (-(-6))) + 1 < (2147483648 : Int) := k23 h1 h2 h3 h4 h5 h6 h7 h16
    refine z_callv (as := [zi (-6)]) (st := []) mkX12_no lkRX12_267 rfl rfl rfl (by decide) (Nat.le_of_ble_eq_true rfl) rfl dX12_amend_113 ?_
    refine SX12_no s21 s22 s23 ?_
    show zR G MX12_amend 116 [zr 98, zi a1, zi a2, zi a3, zi a4, zu, zu] [zi (-6)] (zup σ 157 (-(-6)) ((σ 157 (-(-6))) + 1)) Q
    exact z_ireti rfl dX12_amend_116 (k24 h1 h2 h3 h4 h5 h6 h7 h16)
  have J72 : ((0 ≤ a1 ∧ a1 < 4)) → ((0 ≤ a2 ∧ a2 < 10)) → ((0 ≤ a3 ∧ a3 < 10)) → (σ 111 a2 ≠ 2) → (σ 111 a3 ≠ 2) → (σ 111 a2 = 0 ∨ (σ 111 a2 ≠ 0 ∧ σ 111 a3 = 0)) → zR G MX12_amend 72 [zr 98, zi a1, zi a2, zi a3, zi a4, zu, zu] [] σ Q := by
    intro h1 h2 h3 h4 h5 h15
    refine z_aload_n dX12_amend_72 rfl rfl ?_
    refine z_bipush (x := (-3)) dX12_amend_73 (by decide +kernel) (by unfold zIn; decide) ?_
    have s17 : -2147483648 ≤ -(-3) ∧ -(-3) < (2147483648 : Int) := k17 h1 h2 h3 h4 h5 h15
    have s18 : (0 : Int) ≤ -(-3) ∧ -(-3) < (8 : Int) := k18 h1 h2 h3 h4 h5 h15
    have s19 : -2147483648 ≤ (σ 157 (-(-3))) + 1 ∧ (σ 157 (-(-3))) + 1 < (2147483648 : Int) := k19 h1 h2 h3 h4 h5 h15
    refine z_callv (as := [zi (-3)]) (st := []) mkX12_no lkRX12_267 rfl rfl rfl (by decide) (Nat.le_of_ble_eq_true rfl) rfl dX12_amend_75 ?_
    refine SX12_no s17 s18 s19 ?_
    show zR G MX12_amend 78 [zr 98, zi a1, zi a2, zi a3, zi a4, zu, zu] [zi (-3)] (zup σ 157 (-(-3)) ((σ 157 (-(-3))) + 1)) Q
    exact z_ireti rfl dX12_amend_78 (k20 h1 h2 h3 h4 h5 h15)
  have J47 : ((0 ≤ a1 ∧ a1 < 4)) → ((0 ≤ a2 ∧ a2 < 10)) → ((0 ≤ a3 ∧ a3 < 10)) → (σ 111 a2 = 2 ∨ (σ 111 a2 ≠ 2 ∧ σ 111 a3 = 2)) → zR G MX12_amend 47 [zr 98, zi a1, zi a2, zi a3, zi a4, zu, zu] [] σ Q := by
    intro h1 h2 h3 h14
    refine z_aload_n dX12_amend_47 rfl rfl ?_
    refine z_bipush (x := (-2)) dX12_amend_48 (by decide +kernel) (by unfold zIn; decide) ?_
    have s13 : -2147483648 ≤ -(-2) ∧ -(-2) < (2147483648 : Int) := k13 h1 h2 h3 h14
    have s14 : (0 : Int) ≤ -(-2) ∧ -(-2) < (8 : Int) := k14 h1 h2 h3 h14
    have s15 : -2147483648 ≤ (σ 157 (-(-2))) + 1 ∧ (σ 157 (-(-2))) + 1 < (2147483648 : Int) := k15 h1 h2 h3 h14
    refine z_callv (as := [zi (-2)]) (st := []) mkX12_no lkRX12_267 rfl rfl rfl (by decide) (Nat.le_of_ble_eq_true rfl) rfl dX12_amend_50 ?_
    refine SX12_no s13 s14 s15 ?_
    show zR G MX12_amend 53 [zr 98, zi a1, zi a2, zi a3, zi a4, zu, zu] [zi (-2)] (zup σ 157 (-(-2)) ((σ 157 (-(-2))) + 1)) Q
    exact z_ireti rfl dX12_amend_53 (k16 h1 h2 h3 h14)
  have J21 : ((¬ ((0 ≤ a1 ∧ a1 < 4))) ∨ (((0 ≤ a1 ∧ a1 < 4)) ∧ (¬ ((0 ≤ a2 ∧ a2 < 10)))) ∨ (((0 ≤ a1 ∧ a1 < 4)) ∧ ((0 ≤ a2 ∧ a2 < 10)) ∧ (¬ ((0 ≤ a3 ∧ a3 < 10))))) → zR G MX12_amend 21 [zr 98, zi a1, zi a2, zi a3, zi a4, zu, zu] [] σ Q := by
    intro h13
    refine z_aload_n dX12_amend_21 rfl rfl ?_
    refine z_iconst dX12_amend_22 (by unfold zIn; decide) ?_
    have s9 : -2147483648 ≤ -(-1) ∧ -(-1) < (2147483648 : Int) := k9 h13
    have s10 : (0 : Int) ≤ -(-1) ∧ -(-1) < (8 : Int) := k10 h13
    have s11 : -2147483648 ≤ (σ 157 (-(-1))) + 1 ∧ (σ 157 (-(-1))) + 1 < (2147483648 : Int) := k11 h13
    refine z_callv (as := [zi (-1)]) (st := []) mkX12_no lkRX12_267 rfl rfl rfl (by decide) (Nat.le_of_ble_eq_true rfl) rfl dX12_amend_23 ?_
    refine SX12_no s9 s10 s11 ?_
    show zR G MX12_amend 26 [zr 98, zi a1, zi a2, zi a3, zi a4, zu, zu] [zi (-1)] (zup σ 157 (-(-1)) ((σ 157 (-(-1))) + 1)) Q
    exact z_ireti rfl dX12_amend_26 (k12 h13)
  refine z_iload_n dX12_amend_0 rfl rfl ?_
  refine z_calls (as := [zi a1]) (st := []) mkX12_isStatute lkRX12_297 rfl (by decide) (Nat.le_of_ble_eq_true rfl) rfl dX12_amend_1 ?_
  refine SX12_isStatute ?_
  show zR G MX12_amend 4 [zr 98, zi a1, zi a2, zi a3, zi a4, zu, zu] [zi (if (0 ≤ a1 ∧ a1 < 4) then (1 : Int) else 0)] σ Q
  refine z_if_eq dX12_amend_4 (tgt := 21) (by decide) (fun z => ?_) (fun z => ?_)
  · have h1 : ¬ ((0 ≤ a1 ∧ a1 < 4)) := zb0 z
    exact J21 (Or.inl h1)
  · have h1 : (0 ≤ a1 ∧ a1 < 4) := zb1 z
    refine z_iload_n dX12_amend_7 rfl rfl ?_
    refine z_calls (as := [zi a2]) (st := []) mkX12_isShelf lkRX12_293 rfl (by decide) (Nat.le_of_ble_eq_true rfl) rfl dX12_amend_8 ?_
    refine SX12_isShelf ?_
    show zR G MX12_amend 11 [zr 98, zi a1, zi a2, zi a3, zi a4, zu, zu] [zi (if (0 ≤ a2 ∧ a2 < 10) then (1 : Int) else 0)] σ Q
    refine z_if_eq dX12_amend_11 (tgt := 21) (by decide) (fun z => ?_) (fun z => ?_)
    · have h2 : ¬ ((0 ≤ a2 ∧ a2 < 10)) := zb0 z
      exact J21 (Or.inr (Or.inl ⟨h1, h2⟩))
    · have h2 : (0 ≤ a2 ∧ a2 < 10) := zb1 z
      refine z_iload_n dX12_amend_14 rfl rfl ?_
      refine z_calls (as := [zi a3]) (st := []) mkX12_isShelf lkRX12_293 rfl (by decide) (Nat.le_of_ble_eq_true rfl) rfl dX12_amend_15 ?_
      refine SX12_isShelf ?_
      show zR G MX12_amend 18 [zr 98, zi a1, zi a2, zi a3, zi a4, zu, zu] [zi (if (0 ≤ a3 ∧ a3 < 10) then (1 : Int) else 0)] σ Q
      refine z_if_ne dX12_amend_18 (tgt := 27) (by decide) (fun z => ?_) (fun z => ?_)
      · have h3 : (0 ≤ a3 ∧ a3 < 10) := zb1 z
        refine z_aload_n dX12_amend_27 rfl rfl ?_
        refine z_getfR (k := 25) flRX12_51 rfl rfl dX12_amend_28 ?_
        refine z_iload_n dX12_amend_31 rfl rfl ?_
        have s1 : (0 : Int) ≤ a2 ∧ a2 < (10 : Int) := k1 h1 h2 h3
        refine z_iald rfl s1.1 s1.2 dX12_amend_32 ?_
        refine z_iconst dX12_amend_33 (by unfold zIn; decide) ?_
        refine z_icmp_eq dX12_amend_34 (tgt := 47) (by decide) (fun h4 => ?_) (fun h4 => ?_)
        · skip
          exact J47 h1 h2 h3 (Or.inl h4)
        · skip
          refine z_aload_n dX12_amend_37 rfl rfl ?_
          refine z_getfR (k := 25) flRX12_51 rfl rfl dX12_amend_38 ?_
          refine z_iload_n dX12_amend_41 rfl rfl ?_
          have s2 : (0 : Int) ≤ a3 ∧ a3 < (10 : Int) := k2 h1 h2 h3 h4
          refine z_iald rfl s2.1 s2.2 dX12_amend_42 ?_
          refine z_iconst dX12_amend_43 (by unfold zIn; decide) ?_
          refine z_icmp_ne dX12_amend_44 (tgt := 54) (by decide) (fun h5 => ?_) (fun h5 => ?_)
          · skip
            refine z_aload_n dX12_amend_54 rfl rfl ?_
            refine z_getfR (k := 25) flRX12_51 rfl rfl dX12_amend_55 ?_
            refine z_iload_n dX12_amend_58 rfl rfl ?_
            refine z_iald rfl s1.1 s1.2 dX12_amend_59 ?_
            refine z_if_eq dX12_amend_60 (tgt := 72) (by decide) (fun h6 => ?_) (fun h6 => ?_)
            · skip
              exact J72 h1 h2 h3 h4 h5 (Or.inl h6)
            · skip
              refine z_aload_n dX12_amend_63 rfl rfl ?_
              refine z_getfR (k := 25) flRX12_51 rfl rfl dX12_amend_64 ?_
              refine z_iload_n dX12_amend_67 rfl rfl ?_
              refine z_iald rfl s2.1 s2.2 dX12_amend_68 ?_
              refine z_if_ne dX12_amend_69 (tgt := 79) (by decide) (fun h7 => ?_) (fun h7 => ?_)
              · skip
                refine z_iload dX12_amend_79 rfl ?_
                refine z_if_lt dX12_amend_81 (tgt := 110) (by decide) (fun h8 => ?_) (fun h8 => ?_)
                · skip
                  exact J110 h1 h2 h3 h4 h5 h6 h7 (Or.inl h8)
                · skip
                  refine z_iload dX12_amend_84 rfl ?_
                  refine z_ldcw (x := 40000) (zin_7 (List.mem_of_getElem? (i := 198) (by decide +kernel))) (by unfold zIn; decide) dX12_amend_86 ?_
                  refine z_icmp_gt dX12_amend_89 (tgt := 110) (by decide) (fun h9 => ?_) (fun h9 => ?_)
                  · skip
                    exact J110 h1 h2 h3 h4 h5 h6 h7 (Or.inr (Or.inl ⟨h8, h9⟩))
                  · skip
                    refine z_aload_n dX12_amend_92 rfl rfl ?_
                    refine z_getfR (k := 27) flRX12_57 rfl rfl dX12_amend_93 ?_
                    refine z_iload_n dX12_amend_96 rfl rfl ?_
                    refine z_iald rfl s1.1 s1.2 dX12_amend_97 ?_
                    refine z_if_eq dX12_amend_98 (tgt := 110) (by decide) (fun h10 => ?_) (fun h10 => ?_)
                    · skip
                      exact J110 h1 h2 h3 h4 h5 h6 h7 (Or.inr (Or.inr (Or.inl ⟨h8, h9, h10⟩)))
                    · skip
                      refine z_aload_n dX12_amend_101 rfl rfl ?_
                      refine z_getfR (k := 27) flRX12_57 rfl rfl dX12_amend_102 ?_
                      refine z_iload_n dX12_amend_105 rfl rfl ?_
                      refine z_iald rfl s2.1 s2.2 dX12_amend_106 ?_
                      refine z_if_ne dX12_amend_107 (tgt := 117) (by decide) (fun h11 => ?_) (fun h11 => ?_)
                      · skip
                        refine z_aload_n dX12_amend_117 rfl rfl ?_
                        refine z_getfI (k := 3) flRX12_303 rfl rfl dX12_amend_118 ?_
                        refine z_bipush (x := 12) dX12_amend_121 (by decide +kernel) (by unfold zIn; decide) ?_
                        refine z_icmp_ne dX12_amend_123 (tgt := 133) (by decide) (fun h12 => ?_) (fun h12 => ?_)
                        · skip
                          refine z_aload_n dX12_amend_133 rfl rfl ?_
                          refine z_getfI (k := 3) flRX12_303 rfl rfl dX12_amend_134 ?_
                          refine z_istore (ls' := [zr 98, zi a1, zi a2, zi a3, zi a4, zi (σ 98 3), zu]) dX12_amend_137 (by decide) rfl ?_
                          refine z_aload_n dX12_amend_139 rfl rfl ?_
                          refine z_getfR (k := 33) flRX12_76 rfl rfl dX12_amend_140 ?_
                          refine z_iload dX12_amend_143 rfl ?_
                          refine z_iload_n dX12_amend_145 rfl rfl ?_
                          have s3 : (0 : Int) ≤ σ 98 3 ∧ σ 98 3 < (12 : Int) := k3 h1 h2 h3 h4 h5 h6 h7 h8 h9 h10 h11 h12
                          refine z_iast rfl s3.1 s3.2 dX12_amend_146 ?_
                          refine z_aload_n dX12_amend_147 rfl rfl ?_
                          refine z_getfR (k := 34) flRX12_79 rfl rfl dX12_amend_148 ?_
                          refine z_iload dX12_amend_151 rfl ?_
                          refine z_iload dX12_amend_153 rfl ?_
                          refine z_iast rfl s3.1 s3.2 dX12_amend_155 ?_
                          refine z_aload_n dX12_amend_156 rfl rfl ?_
                          refine z_getfR (k := 35) flRX12_82 rfl rfl dX12_amend_157 ?_
                          refine z_iload dX12_amend_160 rfl ?_
                          refine z_aload_n dX12_amend_162 rfl rfl ?_
                          refine z_getfI (k := 0) flRX12_262 rfl rfl dX12_amend_163 ?_
                          refine z_iast rfl s3.1 s3.2 dX12_amend_166 ?_
                          refine z_aload_n dX12_amend_167 rfl rfl ?_
                          refine z_getfR (k := 36) flRX12_85 rfl rfl dX12_amend_168 ?_
                          refine z_iload dX12_amend_171 rfl ?_
                          refine z_aload_n dX12_amend_173 rfl rfl ?_
                          refine z_getfR (k := 27) flRX12_57 rfl rfl dX12_amend_174 ?_
                          refine z_iload_n dX12_amend_177 rfl rfl ?_
                          refine z_iald rfl s1.1 s1.2 dX12_amend_178 ?_
                          refine z_iast rfl s3.1 s3.2 dX12_amend_179 ?_
                          refine z_aload_n dX12_amend_180 rfl rfl ?_
                          refine z_getfR (k := 37) flRX12_88 rfl rfl dX12_amend_181 ?_
                          refine z_iload dX12_amend_184 rfl ?_
                          refine z_aload_n dX12_amend_186 rfl rfl ?_
                          refine z_getfR (k := 27) flRX12_57 rfl rfl dX12_amend_187 ?_
                          refine z_iload_n dX12_amend_190 rfl rfl ?_
                          refine z_iald rfl s2.1 s2.2 dX12_amend_191 ?_
                          refine z_iast rfl s3.1 s3.2 dX12_amend_192 ?_
                          refine z_iconst dX12_amend_193 (by unfold zIn; decide) ?_
                          refine z_istore (ls' := [zr 98, zi a1, zi a2, zi a3, zi a4, zi (σ 98 3), zi 0]) dX12_amend_194 (by decide) rfl ?_
                          exact k4 h1 h2 h3 h4 h5 h6 h7 h8 h9 h10 h11 h12
                        · skip
                          refine z_aload_n dX12_amend_126 rfl rfl ?_
                          refine z_bipush (x := (-7)) dX12_amend_127 (by decide +kernel) (by unfold zIn; decide) ?_
                          have s5 : -2147483648 ≤ -(-7) ∧ -(-7) < (2147483648 : Int) := k5 h1 h2 h3 h4 h5 h6 h7 h8 h9 h10 h11 h12
                          have s6 : (0 : Int) ≤ -(-7) ∧ -(-7) < (8 : Int) := k6 h1 h2 h3 h4 h5 h6 h7 h8 h9 h10 h11 h12
                          have s7 : -2147483648 ≤ (σ 157 (-(-7))) + 1 ∧ (σ 157 (-(-7))) + 1 < (2147483648 : Int) := k7 h1 h2 h3 h4 h5 h6 h7 h8 h9 h10 h11 h12
                          refine z_callv (as := [zi (-7)]) (st := []) mkX12_no lkRX12_267 rfl rfl rfl (by decide) (Nat.le_of_ble_eq_true rfl) rfl dX12_amend_129 ?_
                          refine SX12_no s5 s6 s7 ?_
                          show zR G MX12_amend 132 [zr 98, zi a1, zi a2, zi a3, zi a4, zu, zu] [zi (-7)] (zup σ 157 (-(-7)) ((σ 157 (-(-7))) + 1)) Q
                          exact z_ireti rfl dX12_amend_132 (k8 h1 h2 h3 h4 h5 h6 h7 h8 h9 h10 h11 h12)
                      · skip
                        exact J110 h1 h2 h3 h4 h5 h6 h7 (Or.inr (Or.inr (Or.inr ⟨h8, h9, h10, h11⟩)))
              · skip
                exact J72 h1 h2 h3 h4 h5 (Or.inr ⟨h6, h7⟩)
          · skip
            exact J47 h1 h2 h3 (Or.inr ⟨h4, h5⟩)
      · have h3 : ¬ ((0 ≤ a3 ∧ a3 < 10)) := zb0 z
        exact J21 (Or.inr (Or.inr ⟨h1, h2, h3⟩))
set_option maxRecDepth 20000 in
set_option maxHeartbeats 1000000 in
theorem TX12_amend_196 {G : zG} {σ : zS} {Q : Int → zS → Prop} {v1 v2 v3 v4 v5 v6 : Int}  (k1 : (0 : Int) ≤ v2 ∧ v2 < (10 : Int)) (k2 : (σ 113 v2 ≤ v6) → zR G MX12_amend 242 [zr 98, zi v1, zi v2, zi v3, zi v4, zi v5, zi 0] [] σ Q) (k3 : (v6 < σ 113 v2) → -2147483648 ≤ 80 * v5 ∧ 80 * v5 < (2147483648 : Int)) (k4 : (v6 < σ 113 v2) → -2147483648 ≤ (80 * v5) + v6 ∧ (80 * v5) + v6 < (2147483648 : Int)) (k5 : (v6 < σ 113 v2) → -2147483648 ≤ 80 * v2 ∧ 80 * v2 < (2147483648 : Int)) (k6 : (v6 < σ 113 v2) → -2147483648 ≤ (80 * v2) + v6 ∧ (80 * v2) + v6 < (2147483648 : Int)) (k7 : (v6 < σ 113 v2) → (0 : Int) ≤ (80 * v2) + v6 ∧ (80 * v2) + v6 < (800 : Int)) (k8 : (v6 < σ 113 v2) → (0 : Int) ≤ (80 * v5) + v6 ∧ (80 * v5) + v6 < (960 : Int)) (k9 : (v6 < σ 113 v2) → -2147483648 ≤ v6 + 1 ∧ v6 + 1 < (2147483648 : Int)) (k10 : (v6 < σ 113 v2) → zR G MX12_amend 196 [zr 98, zi v1, zi v2, zi v3, zi v4, zi v5, zi (v6 + 1)] [] (zup σ 124 ((80 * v5) + v6) (zW (σ 115 ((80 * v2) + v6)))) Q) : zR G MX12_amend 196 [zr 98, zi v1, zi v2, zi v3, zi v4, zi v5, zi v6] [] σ Q := by
  refine z_iload dX12_amend_196 rfl ?_
  refine z_aload_n dX12_amend_198 rfl rfl ?_
  refine z_getfR (k := 27) flRX12_57 rfl rfl dX12_amend_199 ?_
  refine z_iload_n dX12_amend_202 rfl rfl ?_
  have s1 : (0 : Int) ≤ v2 ∧ v2 < (10 : Int) := k1
  refine z_iald rfl s1.1 s1.2 dX12_amend_203 ?_
  refine z_icmp_ge dX12_amend_204 (tgt := 239) (by decide) (fun h1 => ?_) (fun h1 => ?_)
  · skip
    refine z_iconst dX12_amend_239 (by unfold zIn; decide) ?_
    refine z_istore (ls' := [zr 98, zi v1, zi v2, zi v3, zi v4, zi v5, zi 0]) dX12_amend_240 (by decide) rfl ?_
    exact k2 h1
  · skip
    refine z_aload_n dX12_amend_207 rfl rfl ?_
    refine z_getfR (k := 38) flRX12_91 rfl rfl dX12_amend_208 ?_
    refine z_bipush (x := 80) dX12_amend_211 (by decide +kernel) (by unfold zIn; decide) ?_
    refine z_iload dX12_amend_213 rfl ?_
    have s3 : -2147483648 ≤ 80 * v5 ∧ 80 * v5 < (2147483648 : Int) := k3 h1
    refine z_imulN dX12_amend_215 s3 ?_
    refine z_iload dX12_amend_216 rfl ?_
    have s4 : -2147483648 ≤ (80 * v5) + v6 ∧ (80 * v5) + v6 < (2147483648 : Int) := k4 h1
    refine z_iaddN dX12_amend_218 s4 ?_
    refine z_aload_n dX12_amend_219 rfl rfl ?_
    refine z_getfR (k := 29) flRX12_63 rfl rfl dX12_amend_220 ?_
    refine z_bipush (x := 80) dX12_amend_223 (by decide +kernel) (by unfold zIn; decide) ?_
    refine z_iload_n dX12_amend_225 rfl rfl ?_
    have s5 : -2147483648 ≤ 80 * v2 ∧ 80 * v2 < (2147483648 : Int) := k5 h1
    refine z_imulN dX12_amend_226 s5 ?_
    refine z_iload dX12_amend_227 rfl ?_
    have s6 : -2147483648 ≤ (80 * v2) + v6 ∧ (80 * v2) + v6 < (2147483648 : Int) := k6 h1
    refine z_iaddN dX12_amend_229 s6 ?_
    have s7 : (0 : Int) ≤ (80 * v2) + v6 ∧ (80 * v2) + v6 < (800 : Int) := k7 h1
    refine z_lald rfl s7.1 s7.2 dX12_amend_230 ?_
    refine z_l2i dX12_amend_231 ?_
    have s8 : (0 : Int) ≤ (80 * v5) + v6 ∧ (80 * v5) + v6 < (960 : Int) := k8 h1
    refine z_iast rfl s8.1 s8.2 dX12_amend_232 ?_
    have s9 : -2147483648 ≤ v6 + 1 ∧ v6 + 1 < (2147483648 : Int) := k9 h1
    refine z_iincN (ls' := [zr 98, zi v1, zi v2, zi v3, zi v4, zi v5, zi (v6 + 1)]) dX12_amend_233 rfl (by decide) s9 rfl ?_
    refine z_goto dX12_amend_236 (tgt := 196) (by decide) ?_
    exact k10 h1
set_option maxRecDepth 20000 in
set_option maxHeartbeats 1000000 in
theorem TX12_amend_242 {G : zG} {σ : zS} {Q : Int → zS → Prop} {v1 v2 v3 v4 v5 v6 : Int}  (k1 : (0 : Int) ≤ v3 ∧ v3 < (10 : Int)) (k2 : (σ 113 v3 ≤ v6) → -2147483648 ≤ σ 98 3 + 1 ∧ σ 98 3 + 1 < (2147483648 : Int)) (k3 : (σ 113 v3 ≤ v6) → Q (σ 98 3) (zup σ 98 3 (σ 98 3 + 1))) (k4 : (v6 < σ 113 v3) → -2147483648 ≤ 80 * v5 ∧ 80 * v5 < (2147483648 : Int)) (k5 : (v6 < σ 113 v3) → -2147483648 ≤ (80 * v5) + v6 ∧ (80 * v5) + v6 < (2147483648 : Int)) (k6 : (v6 < σ 113 v3) → -2147483648 ≤ 80 * v3 ∧ 80 * v3 < (2147483648 : Int)) (k7 : (v6 < σ 113 v3) → -2147483648 ≤ (80 * v3) + v6 ∧ (80 * v3) + v6 < (2147483648 : Int)) (k8 : (v6 < σ 113 v3) → (0 : Int) ≤ (80 * v3) + v6 ∧ (80 * v3) + v6 < (800 : Int)) (k9 : (v6 < σ 113 v3) → (0 : Int) ≤ (80 * v5) + v6 ∧ (80 * v5) + v6 < (960 : Int)) (k10 : (v6 < σ 113 v3) → -2147483648 ≤ v6 + 1 ∧ v6 + 1 < (2147483648 : Int)) (k11 : (v6 < σ 113 v3) → zR G MX12_amend 242 [zr 98, zi v1, zi v2, zi v3, zi v4, zi v5, zi (v6 + 1)] [] (zup σ 125 ((80 * v5) + v6) (zW (σ 115 ((80 * v3) + v6)))) Q) : zR G MX12_amend 242 [zr 98, zi v1, zi v2, zi v3, zi v4, zi v5, zi v6] [] σ Q := by
  refine z_iload dX12_amend_242 rfl ?_
  refine z_aload_n dX12_amend_244 rfl rfl ?_
  refine z_getfR (k := 27) flRX12_57 rfl rfl dX12_amend_245 ?_
  refine z_iload_n dX12_amend_248 rfl rfl ?_
  have s1 : (0 : Int) ≤ v3 ∧ v3 < (10 : Int) := k1
  refine z_iald rfl s1.1 s1.2 dX12_amend_249 ?_
  refine z_icmp_ge dX12_amend_250 (tgt := 285) (by decide) (fun h1 => ?_) (fun h1 => ?_)
  · skip
    refine z_aload_n dX12_amend_285 rfl rfl ?_
    refine z_dup dX12_amend_286 rfl ?_
    refine z_getfI (k := 3) flRX12_303 rfl rfl dX12_amend_287 ?_
    refine z_dup_x1 dX12_amend_290 rfl rfl ?_
    refine z_iconst dX12_amend_291 (by unfold zIn; decide) ?_
    have s2 : -2147483648 ≤ σ 98 3 + 1 ∧ σ 98 3 + 1 < (2147483648 : Int) := k2 h1
    refine z_iaddN dX12_amend_292 s2 ?_
    refine z_putI (k := 3) fpRX12_303 rfl rfl dX12_amend_293 ?_
    exact z_ireti rfl dX12_amend_296 (k3 h1)
  · skip
    refine z_aload_n dX12_amend_253 rfl rfl ?_
    refine z_getfR (k := 39) flRX12_94 rfl rfl dX12_amend_254 ?_
    refine z_bipush (x := 80) dX12_amend_257 (by decide +kernel) (by unfold zIn; decide) ?_
    refine z_iload dX12_amend_259 rfl ?_
    have s4 : -2147483648 ≤ 80 * v5 ∧ 80 * v5 < (2147483648 : Int) := k4 h1
    refine z_imulN dX12_amend_261 s4 ?_
    refine z_iload dX12_amend_262 rfl ?_
    have s5 : -2147483648 ≤ (80 * v5) + v6 ∧ (80 * v5) + v6 < (2147483648 : Int) := k5 h1
    refine z_iaddN dX12_amend_264 s5 ?_
    refine z_aload_n dX12_amend_265 rfl rfl ?_
    refine z_getfR (k := 29) flRX12_63 rfl rfl dX12_amend_266 ?_
    refine z_bipush (x := 80) dX12_amend_269 (by decide +kernel) (by unfold zIn; decide) ?_
    refine z_iload_n dX12_amend_271 rfl rfl ?_
    have s6 : -2147483648 ≤ 80 * v3 ∧ 80 * v3 < (2147483648 : Int) := k6 h1
    refine z_imulN dX12_amend_272 s6 ?_
    refine z_iload dX12_amend_273 rfl ?_
    have s7 : -2147483648 ≤ (80 * v3) + v6 ∧ (80 * v3) + v6 < (2147483648 : Int) := k7 h1
    refine z_iaddN dX12_amend_275 s7 ?_
    have s8 : (0 : Int) ≤ (80 * v3) + v6 ∧ (80 * v3) + v6 < (800 : Int) := k8 h1
    refine z_lald rfl s8.1 s8.2 dX12_amend_276 ?_
    refine z_l2i dX12_amend_277 ?_
    have s9 : (0 : Int) ≤ (80 * v5) + v6 ∧ (80 * v5) + v6 < (960 : Int) := k9 h1
    refine z_iast rfl s9.1 s9.2 dX12_amend_278 ?_
    have s10 : -2147483648 ≤ v6 + 1 ∧ v6 + 1 < (2147483648 : Int) := k10 h1
    refine z_iincN (ls' := [zr 98, zi v1, zi v2, zi v3, zi v4, zi v5, zi (v6 + 1)]) dX12_amend_279 rfl (by decide) s10 rfl ?_
    refine z_goto dX12_amend_282 (tgt := 242) (by decide) ?_
    exact k11 h1
set_option maxRecDepth 20000 in
set_option maxHeartbeats 1000000 in
theorem TX12_placeOf {G : zG} {σ : zS} {Q : Int → zS → Prop} {a1 : Int}  (k1 : zR G MX12_placeOf 2 [zr 98, zi a1, zi 0, zu] [] σ Q) : zO G MX12_placeOf [zr 98, zi a1] σ Q := by
  refine zO_of (ls0 := [zr 98, zi a1, zu, zu]) (by decide) (Nat.le_of_ble_eq_true rfl) rfl ?_
  refine z_iconst dX12_placeOf_0 (by unfold zIn; decide) ?_
  refine z_istore_n (ls' := [zr 98, zi a1, zi 0, zu]) dX12_placeOf_1 rfl (by decide) rfl ?_
  exact k1
set_option maxRecDepth 20000 in
set_option maxHeartbeats 1000000 in
theorem TX12_placeOf_2 {G : zG} {σ : zS} {Q : Int → zS → Prop} {v1 v2 : Int}  (k1 : (0 : Int) ≤ v1 ∧ v1 < (12 : Int)) (k2 : -2147483648 ≤ v2 + σ 122 v1 ∧ v2 + σ 122 v1 < (2147483648 : Int)) (k3 : (σ 98 43 < v2 + σ 122 v1) → Q (-1) σ) (k4 : (v2 + σ 122 v1 ≤ σ 98 43) → zR G MX12_placeOf 19 [zr 98, zi v1, zi v2, zi 0] [] σ Q) : zR G MX12_placeOf 2 [zr 98, zi v1, zi v2, zu] [] σ Q := by
  refine z_iload_n dX12_placeOf_2 rfl rfl ?_
  refine z_aload_n dX12_placeOf_3 rfl rfl ?_
  refine z_getfR (k := 36) flRX12_85 rfl rfl dX12_placeOf_4 ?_
  refine z_iload_n dX12_placeOf_7 rfl rfl ?_
  have s1 : (0 : Int) ≤ v1 ∧ v1 < (12 : Int) := k1
  refine z_iald rfl s1.1 s1.2 dX12_placeOf_8 ?_
  have s2 : -2147483648 ≤ v2 + σ 122 v1 ∧ v2 + σ 122 v1 < (2147483648 : Int) := k2
  refine z_iaddN dX12_placeOf_9 s2 ?_
  refine z_aload_n dX12_placeOf_10 rfl rfl ?_
  refine z_getfI (k := 43) flRX12_306 rfl rfl dX12_placeOf_11 ?_
  refine z_icmp_gt dX12_placeOf_14 (tgt := 75) (by decide) (fun h1 => ?_) (fun h1 => ?_)
  · skip
    refine z_iconst dX12_placeOf_75 (by unfold zIn; decide) ?_
    exact z_ireti rfl dX12_placeOf_76 (k3 h1)
  · skip
    refine z_iconst dX12_placeOf_17 (by unfold zIn; decide) ?_
    refine z_istore_n (ls' := [zr 98, zi v1, zi v2, zi 0]) dX12_placeOf_18 rfl (by decide) rfl ?_
    exact k4 h1
set_option maxRecDepth 20000 in
set_option maxHeartbeats 1000000 in
theorem TX12_placeOf_19 {G : zG} {σ : zS} {Q : Int → zS → Prop} {v1 v2 v3 : Int}  (k1 : (0 : Int) ≤ v1 ∧ v1 < (12 : Int)) (k2 : (v3 < σ 122 v1) → -2147483648 ≤ v2 + v3 ∧ v2 + v3 < (2147483648 : Int)) (k3 : (v3 < σ 122 v1) → (0 : Int) ≤ v2 + v3 ∧ v2 + v3 < (300 : Int)) (k4 : (v3 < σ 122 v1) → -2147483648 ≤ 80 * v1 ∧ 80 * v1 < (2147483648 : Int)) (k5 : (v3 < σ 122 v1) → -2147483648 ≤ (80 * v1) + v3 ∧ (80 * v1) + v3 < (2147483648 : Int)) (k6 : (v3 < σ 122 v1) → (0 : Int) ≤ (80 * v1) + v3 ∧ (80 * v1) + v3 < (960 : Int)) (k7 : (v3 < σ 122 v1) → (σ 127 (v2 + v3) = σ 124 ((80 * v1) + v3)) → -2147483648 ≤ v3 + 1 ∧ v3 + 1 < (2147483648 : Int)) (k8 : (v3 < σ 122 v1) → (σ 127 (v2 + v3) = σ 124 ((80 * v1) + v3)) → zR G MX12_placeOf 19 [zr 98, zi v1, zi v2, zi (v3 + 1)] [] σ Q) (k9 : (σ 122 v1 ≤ v3 ∨ (v3 < σ 122 v1 ∧ σ 127 (v2 + v3) ≠ σ 124 ((80 * v1) + v3))) → (0 : Int) ≤ v1 ∧ v1 < (12 : Int)) (k10 : (σ 122 v1 ≤ v3 ∨ (v3 < σ 122 v1 ∧ σ 127 (v2 + v3) ≠ σ 124 ((80 * v1) + v3))) → (v3 ≠ σ 122 v1) → -2147483648 ≤ v2 + 1 ∧ v2 + 1 < (2147483648 : Int)) (k11 : (σ 122 v1 ≤ v3 ∨ (v3 < σ 122 v1 ∧ σ 127 (v2 + v3) ≠ σ 124 ((80 * v1) + v3))) → (v3 ≠ σ 122 v1) → zR G MX12_placeOf 2 [zr 98, zi v1, zi (v2 + 1), zu] [] σ Q) (k12 : (σ 122 v1 ≤ v3 ∨ (v3 < σ 122 v1 ∧ σ 127 (v2 + v3) ≠ σ 124 ((80 * v1) + v3))) → (v3 = σ 122 v1) → Q v2 σ) : zR G MX12_placeOf 19 [zr 98, zi v1, zi v2, zi v3] [] σ Q := by
  have J57 : (σ 122 v1 ≤ v3 ∨ (v3 < σ 122 v1 ∧ σ 127 (v2 + v3) ≠ σ 124 ((80 * v1) + v3))) → zR G MX12_placeOf 57 [zr 98, zi v1, zi v2, zi v3] [] σ Q := by
    intro h3
    refine z_iload_n dX12_placeOf_57 rfl rfl ?_
    refine z_aload_n dX12_placeOf_58 rfl rfl ?_
    refine z_getfR (k := 36) flRX12_85 rfl rfl dX12_placeOf_59 ?_
    refine z_iload_n dX12_placeOf_62 rfl rfl ?_
    have s9 : (0 : Int) ≤ v1 ∧ v1 < (12 : Int) := k9 h3
    refine z_iald rfl s9.1 s9.2 dX12_placeOf_63 ?_
    refine z_icmp_ne dX12_placeOf_64 (tgt := 69) (by decide) (fun h4 => ?_) (fun h4 => ?_)
    · skip
      have s10 : -2147483648 ≤ v2 + 1 ∧ v2 + 1 < (2147483648 : Int) := k10 h3 h4
      refine z_iincN (ls' := [zr 98, zi v1, zi (v2 + 1), zi v3]) dX12_placeOf_69 rfl (by decide) s10 rfl ?_
      refine z_goto dX12_placeOf_72 (tgt := 2) (by decide) ?_
      exact zR_fg [false, false, false, true] (k11 h3 h4)
    · skip
      refine z_iload_n dX12_placeOf_67 rfl rfl ?_
      exact z_ireti rfl dX12_placeOf_68 (k12 h3 h4)
  refine z_iload_n dX12_placeOf_19 rfl rfl ?_
  refine z_aload_n dX12_placeOf_20 rfl rfl ?_
  refine z_getfR (k := 36) flRX12_85 rfl rfl dX12_placeOf_21 ?_
  refine z_iload_n dX12_placeOf_24 rfl rfl ?_
  have s1 : (0 : Int) ≤ v1 ∧ v1 < (12 : Int) := k1
  refine z_iald rfl s1.1 s1.2 dX12_placeOf_25 ?_
  refine z_icmp_ge dX12_placeOf_26 (tgt := 57) (by decide) (fun h1 => ?_) (fun h1 => ?_)
  · skip
    exact J57 (Or.inl h1)
  · skip
    refine z_aload_n dX12_placeOf_29 rfl rfl ?_
    refine z_getfR (k := 41) flRX12_100 rfl rfl dX12_placeOf_30 ?_
    refine z_iload_n dX12_placeOf_33 rfl rfl ?_
    refine z_iload_n dX12_placeOf_34 rfl rfl ?_
    have s2 : -2147483648 ≤ v2 + v3 ∧ v2 + v3 < (2147483648 : Int) := k2 h1
    refine z_iaddN dX12_placeOf_35 s2 ?_
    have s3 : (0 : Int) ≤ v2 + v3 ∧ v2 + v3 < (300 : Int) := k3 h1
    refine z_iald rfl s3.1 s3.2 dX12_placeOf_36 ?_
    refine z_aload_n dX12_placeOf_37 rfl rfl ?_
    refine z_getfR (k := 38) flRX12_91 rfl rfl dX12_placeOf_38 ?_
    refine z_bipush (x := 80) dX12_placeOf_41 (by decide +kernel) (by unfold zIn; decide) ?_
    refine z_iload_n dX12_placeOf_43 rfl rfl ?_
    have s4 : -2147483648 ≤ 80 * v1 ∧ 80 * v1 < (2147483648 : Int) := k4 h1
    refine z_imulN dX12_placeOf_44 s4 ?_
    refine z_iload_n dX12_placeOf_45 rfl rfl ?_
    have s5 : -2147483648 ≤ (80 * v1) + v3 ∧ (80 * v1) + v3 < (2147483648 : Int) := k5 h1
    refine z_iaddN dX12_placeOf_46 s5 ?_
    have s6 : (0 : Int) ≤ (80 * v1) + v3 ∧ (80 * v1) + v3 < (960 : Int) := k6 h1
    refine z_iald rfl s6.1 s6.2 dX12_placeOf_47 ?_
    refine z_icmp_ne dX12_placeOf_48 (tgt := 57) (by decide) (fun h2 => ?_) (fun h2 => ?_)
    · skip
      exact J57 (Or.inr ⟨h1, h2⟩)
    · skip
      have s7 : -2147483648 ≤ v3 + 1 ∧ v3 + 1 < (2147483648 : Int) := k7 h1 h2
      refine z_iincN (ls' := [zr 98, zi v1, zi v2, zi (v3 + 1)]) dX12_placeOf_51 rfl (by decide) s7 rfl ?_
      refine z_goto dX12_placeOf_54 (tgt := 19) (by decide) ?_
      exact k8 h1 h2
