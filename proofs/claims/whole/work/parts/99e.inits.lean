/-! CONSTRUCTORS: the state behind them; the small ones -/
def zrw0 (N v : Int) : Int → Int := fun j => if 0 ≤ j ∧ j < N then v else 0
/-- the state behind both constructors -/
def zSt0 : zS := fun i => match i with
  | 2 => fun j => if j = 1 then -1 else if j = 3 then -1 else 0
  | 4 => fun j => if j = 1 then -1 else if j = 3 then -1 else 0
  | 6 => fun j => if j = 1 then -1 else if j = 3 then -1 else 0
  | 8 => fun j => if j = 1 then -1 else if j = 3 then -1 else 0
  | 10 => fun j => if j = 1 then -1 else if j = 3 then -1 else 0
  | 12 => fun j => if j = 1 then -1 else if j = 3 then -1 else 0
  | 14 => fun j => if j = 1 then -1 else if j = 3 then -1 else 0
  | 16 => fun j => if j = 1 then -1 else if j = 3 then -1 else 0
  | 18 => fun j => if j = 1 then -1 else if j = 3 then -1 else 0
  | 20 => fun j => if j = 1 then -1 else if j = 3 then -1 else 0
  | 22 => fun j => if j = 15 then 99 else if j = 16 then 99 else 0
  | 25 => zrw0 48 (-1)
  | 27 => zrw0 24 (-1)
  | 52 => fun j => if j = 8 then 365 else 0
  | 59 => fun j => if j = 0 then 24 else 0
  | 61 => zrw0 24 (-1)
  | 62 => fun j => if j = 0 then 24 else 0
  | 64 => zrw0 24 (-1)
  | 65 => fun j => if j = 9 then -1 else 0
  | 79 => fun j => if j = 5 then -1 else if j = 6 then -1 else 0
  | 83 => fun j => if j = 10 then 1 else if j = 12 then -1 else if j = 13 then -1 else 0
  | 91 => fun j => if j = 0 then 9 else 0
  | 93 => zrw0 24 (-1)
  | 95 => zrw0 24 (-1)
  | 98 => fun j => if j = 11 then 365 else 0
  | 102 => zrw0 48 (-1)
  | 117 => fun j => if j = 0 ∨ j = 80 ∨ j = 160 ∨ j = 240 then 119 else 0
  | 118 => zrw0 4 1
  | 135 => zrw0 24 (-1)
  | 138 => zrw0 24 (-1)
  | 146 => zrw0 10452 (-1)
  | _ => fun _ => 0
def zrz (L : List Nat) : zS := fun i => if L.contains i = true then fun _ => 0 else zSt0 i
theorem zarrI : Cond.arrayClass .int ∈ zTb := zTb_in (zin_1 (List.mem_of_getElem? (i := 107) (by decide +kernel))) rfl
theorem zarrZ : Cond.arrayClass .boolean ∈ zTb := zTb_in (zin_7 (List.mem_of_getElem? (i := 192) (by decide +kernel))) rfl
theorem zarrJ : Cond.arrayClass .long ∈ zTb := zTb_in (zin_3 (List.mem_of_getElem? (i := 38) (by decide +kernel))) rfl
theorem zsubm {l l2 : List Nat} {i : Nat} (h : l.all (fun x => l2.contains x) = true) (hi : i ∈ l) : i ∈ l2 := List.contains_iff_mem.mp (List.all_eq_true.mp h i hi)
theorem dX5_init_0 : decode cX5_init 0 = .ok (.aload_n 0, 1) := by decide +kernel
theorem dX5_init_1 : decode cX5_init 1 = .ok (.invokespecial 3, 3) := by decide +kernel
theorem dX5_init_4 : decode cX5_init 4 = .ok (.aload_n 0, 1) := by decide +kernel
theorem dX5_init_5 : decode cX5_init 5 = .ok (.bipush 24, 2) := by decide +kernel
theorem dX5_init_7 : decode cX5_init 7 = .ok (.newarray .int, 2) := by decide +kernel
theorem dX5_init_9 : decode cX5_init 9 = .ok (.putfield 9, 3) := by decide +kernel
theorem dX5_init_12 : decode cX5_init 12 = .ok (.aload_n 0, 1) := by decide +kernel
theorem dX5_init_13 : decode cX5_init 13 = .ok (.bipush 48, 2) := by decide +kernel
theorem dX5_init_15 : decode cX5_init 15 = .ok (.newarray .int, 2) := by decide +kernel
theorem dX5_init_17 : decode cX5_init 17 = .ok (.putfield 15, 3) := by decide +kernel
theorem dX5_init_20 : decode cX5_init 20 = .ok (.aload_n 0, 1) := by decide +kernel
theorem dX5_init_21 : decode cX5_init 21 = .ok (.bipush 48, 2) := by decide +kernel
theorem dX5_init_23 : decode cX5_init 23 = .ok (.newarray .int, 2) := by decide +kernel
theorem dX5_init_25 : decode cX5_init 25 = .ok (.putfield 18, 3) := by decide +kernel
theorem dX5_init_28 : decode cX5_init 28 = .ok (.aload_n 0, 1) := by decide +kernel
theorem dX5_init_29 : decode cX5_init 29 = .ok (.bipush 24, 2) := by decide +kernel
theorem dX5_init_31 : decode cX5_init 31 = .ok (.newarray .int, 2) := by decide +kernel
theorem dX5_init_33 : decode cX5_init 33 = .ok (.putfield 21, 3) := by decide +kernel
theorem dX5_init_36 : decode cX5_init 36 = .ok (.aload_n 0, 1) := by decide +kernel
theorem dX5_init_37 : decode cX5_init 37 = .ok (.bipush 24, 2) := by decide +kernel
theorem dX5_init_39 : decode cX5_init 39 = .ok (.newarray .int, 2) := by decide +kernel
theorem dX5_init_41 : decode cX5_init 41 = .ok (.putfield 24, 3) := by decide +kernel
theorem dX5_init_44 : decode cX5_init 44 = .ok (.aload_n 0, 1) := by decide +kernel
theorem dX5_init_45 : decode cX5_init 45 = .ok (.sipush 400, 3) := by decide +kernel
theorem dX5_init_48 : decode cX5_init 48 = .ok (.newarray .int, 2) := by decide +kernel
theorem dX5_init_50 : decode cX5_init 50 = .ok (.putfield 27, 3) := by decide +kernel
theorem dX5_init_53 : decode cX5_init 53 = .ok (.aload_n 0, 1) := by decide +kernel
theorem dX5_init_54 : decode cX5_init 54 = .ok (.sipush 400, 3) := by decide +kernel
theorem dX5_init_57 : decode cX5_init 57 = .ok (.newarray .int, 2) := by decide +kernel
theorem dX5_init_59 : decode cX5_init 59 = .ok (.putfield 30, 3) := by decide +kernel
theorem dX5_init_62 : decode cX5_init 62 = .ok (.aload_n 0, 1) := by decide +kernel
theorem dX5_init_63 : decode cX5_init 63 = .ok (.sipush 400, 3) := by decide +kernel
theorem dX5_init_66 : decode cX5_init 66 = .ok (.newarray .int, 2) := by decide +kernel
theorem dX5_init_68 : decode cX5_init 68 = .ok (.putfield 33, 3) := by decide +kernel
theorem dX5_init_71 : decode cX5_init 71 = .ok (.aload_n 0, 1) := by decide +kernel
theorem dX5_init_72 : decode cX5_init 72 = .ok (.sipush 400, 3) := by decide +kernel
theorem dX5_init_75 : decode cX5_init 75 = .ok (.newarray .int, 2) := by decide +kernel
theorem dX5_init_77 : decode cX5_init 77 = .ok (.putfield 36, 3) := by decide +kernel
theorem dX5_init_80 : decode cX5_init 80 = .ok (.aload_n 0, 1) := by decide +kernel
theorem dX5_init_81 : decode cX5_init 81 = .ok (.bipush 24, 2) := by decide +kernel
theorem dX5_init_83 : decode cX5_init 83 = .ok (.newarray .int, 2) := by decide +kernel
theorem dX5_init_85 : decode cX5_init 85 = .ok (.putfield 39, 3) := by decide +kernel
theorem dX5_init_88 : decode cX5_init 88 = .ok (.aload_n 0, 1) := by decide +kernel
theorem dX5_init_89 : decode cX5_init 89 = .ok (.bipush 24, 2) := by decide +kernel
theorem dX5_init_91 : decode cX5_init 91 = .ok (.newarray .int, 2) := by decide +kernel
theorem dX5_init_93 : decode cX5_init 93 = .ok (.putfield 42, 3) := by decide +kernel
theorem dX5_init_96 : decode cX5_init 96 = .ok (.aload_n 0, 1) := by decide +kernel
theorem dX5_init_97 : decode cX5_init 97 = .ok (.bipush 24, 2) := by decide +kernel
theorem dX5_init_99 : decode cX5_init 99 = .ok (.newarray .int, 2) := by decide +kernel
theorem dX5_init_101 : decode cX5_init 101 = .ok (.putfield 45, 3) := by decide +kernel
theorem dX5_init_104 : decode cX5_init 104 = .ok (.aload_n 0, 1) := by decide +kernel
theorem dX5_init_105 : decode cX5_init 105 = .ok (.iconst 0, 1) := by decide +kernel
theorem dX5_init_106 : decode cX5_init 106 = .ok (.putfield 48, 3) := by decide +kernel
theorem dX5_init_109 : decode cX5_init 109 = .ok (.aload_n 0, 1) := by decide +kernel
theorem dX5_init_110 : decode cX5_init 110 = .ok (.iconst 0, 1) := by decide +kernel
theorem dX5_init_111 : decode cX5_init 111 = .ok (.putfield 52, 3) := by decide +kernel
theorem dX5_init_114 : decode cX5_init 114 = .ok (.aload_n 0, 1) := by decide +kernel
theorem dX5_init_115 : decode cX5_init 115 = .ok (.iconst 0, 1) := by decide +kernel
theorem dX5_init_116 : decode cX5_init 116 = .ok (.putfield 55, 3) := by decide +kernel
theorem dX5_init_119 : decode cX5_init 119 = .ok (.aload_n 0, 1) := by decide +kernel
theorem dX5_init_120 : decode cX5_init 120 = .ok (.bipush 99, 2) := by decide +kernel
theorem dX5_init_122 : decode cX5_init 122 = .ok (.putfield 58, 3) := by decide +kernel
theorem dX5_init_125 : decode cX5_init 125 = .ok (.aload_n 0, 1) := by decide +kernel
theorem dX5_init_126 : decode cX5_init 126 = .ok (.bipush 99, 2) := by decide +kernel
theorem dX5_init_128 : decode cX5_init 128 = .ok (.putfield 61, 3) := by decide +kernel
theorem dX5_init_131 : decode cX5_init 131 = .ok (.aload_n 0, 1) := by decide +kernel
theorem dX5_init_132 : decode cX5_init 132 = .ok (.getfield 18, 3) := by decide +kernel
theorem dX5_init_135 : decode cX5_init 135 = .ok (.iconst (-1), 1) := by decide +kernel
theorem dX5_init_136 : decode cX5_init 136 = .ok (.invokestatic 64, 3) := by decide +kernel
theorem dX5_init_139 : decode cX5_init 139 = .ok (.aload_n 0, 1) := by decide +kernel
theorem dX5_init_140 : decode cX5_init 140 = .ok (.getfield 24, 3) := by decide +kernel
theorem dX5_init_143 : decode cX5_init 143 = .ok (.iconst (-1), 1) := by decide +kernel
theorem dX5_init_144 : decode cX5_init 144 = .ok (.invokestatic 64, 3) := by decide +kernel
theorem dX5_init_147 : decode cX5_init 147 = .ok (.return_, 1) := by decide +kernel
set_option maxHeartbeats 4000000 in
set_option maxRecDepth 100000 in
theorem zi_X5_22 {G : zG} (hinj : zInj G) : zMi G MX5_init 12 1840 22 5 (fun _ => []) [34, 33, 32, 31, 30, 29, 28, 27, 26, 25, 24, 23] zSt0 := by
  refine zi_of (idx0 := 3) hinj rfl (by decide) rfl (fun _ => (Nat.le_of_ble_eq_true rfl)) dX5_init_0 dX5_init_1 (zin_1 (List.mem_of_getElem? (i := 33) (by decide +kernel))) (zin_1 (List.mem_of_getElem? (i := 24) (by decide +kernel))) (zin_1 (List.mem_of_getElem? (i := 25) rfl)) ⟨by decide, by decide⟩ ?_
  intro α p e s m args below meth c A lsr C hnw hin hA w hl
  have hx := C.1
  have hb := C.2.1
  have w : zWq G A s.heap s.heap [] (zbw G α (zrz [25, 27]) 22 5 (zsh 22).2.2 [] (fun _ => []) []) := w
  have hl : lv_has lsr 1 [(0, .ref (α 22))] := hl
  obtain ⟨h0, e0⟩ : ∃ h, α 22 = h := ⟨_, rfl⟩
  rw [e0] at hl
  refine lv_aload_n hx hb dX5_init_4 rfl (lv_at hl 0 rfl) ?_
  refine lv_bipush (v := Int32.ofInt (24)) hx hb dX5_init_5 (by decide) ?_
  refine zb_arr (t0 := 0) (j := 23) (N := 24) (kf := 0) (a0 := (24, .inl (fun _ => 0))) (ty := .int) C hin hA w e0 rfl rfl zarrI (fun U cA cB h1 h2 => Option.some.inj (h1.symm.trans h2)) (fun _ => rfl) (fun α' => zcl_z0 (by decide +kernel) (by simp [zrz, zSt0])) (by decide) (by decide +kernel) (by decide +kernel) (by decide +kernel) (by decide +kernel) (by decide) (fun _ => rfl) flRX5_9 (q := (RX5, TX5, 17)) rfl rfl rfl (ty2 := .array .int) (by decide +kernel) (fun _ => rfl) (fun _ => rfl) (by decide +kernel) (Nat.le_of_ble_eq_true rfl) (Nat.le_of_ble_eq_true rfl) dX5_init_7 dX5_init_9 (fun α1 H1 locs1 hα1 w e0 => ?_)
  refine lv_aload_n hx hb dX5_init_12 rfl (lv_at hl 0 rfl) ?_
  refine lv_bipush (v := Int32.ofInt (48)) hx hb dX5_init_13 (by decide) ?_
  refine zb_arr (t0 := 0) (j := 24) (N := 48) (kf := 1) (a0 := (48, .inl (fun _ => 0))) (ty := .int) C hin hA w e0 rfl rfl zarrI (fun U cA cB h1 h2 => Option.some.inj (h1.symm.trans h2)) (fun _ => rfl) (fun α' => zcl_z0 (by decide +kernel) (by simp [zrz, zSt0])) (by decide) (by decide +kernel) (by decide +kernel) (by decide +kernel) (by decide +kernel) (by decide) (fun _ => rfl) flRX5_15 (q := (RX5, TX5, 17)) rfl rfl rfl (ty2 := .array .int) (by decide +kernel) (fun _ => rfl) (fun _ => rfl) (by decide +kernel) (Nat.le_of_ble_eq_true rfl) (Nat.le_of_ble_eq_true rfl) dX5_init_15 dX5_init_17 (fun α2 H1 locs1 hα2 w e0 => ?_)
  refine lv_aload_n hx hb dX5_init_20 rfl (lv_at hl 0 rfl) ?_
  refine lv_bipush (v := Int32.ofInt (48)) hx hb dX5_init_21 (by decide) ?_
  refine zb_arr (t0 := 0) (j := 25) (N := 48) (kf := 2) (a0 := (48, .inl (fun _ => 0))) (ty := .int) C hin hA w e0 rfl rfl zarrI (fun U cA cB h1 h2 => Option.some.inj (h1.symm.trans h2)) (fun _ => rfl) (fun α' => zcl_z0 (by decide +kernel) (by simp [zrz, zSt0])) (by decide) (by decide +kernel) (by decide +kernel) (by decide +kernel) (by decide +kernel) (by decide) (fun _ => rfl) flRX5_18 (q := (RX5, TX5, 17)) rfl rfl rfl (ty2 := .array .int) (by decide +kernel) (fun _ => rfl) (fun _ => rfl) (by decide +kernel) (Nat.le_of_ble_eq_true rfl) (Nat.le_of_ble_eq_true rfl) dX5_init_23 dX5_init_25 (fun α3 H1 locs1 hα3 w e0 => ?_)
  refine lv_aload_n hx hb dX5_init_28 rfl (lv_at hl 0 rfl) ?_
  refine lv_bipush (v := Int32.ofInt (24)) hx hb dX5_init_29 (by decide) ?_
  refine zb_arr (t0 := 0) (j := 26) (N := 24) (kf := 3) (a0 := (24, .inl (fun _ => 0))) (ty := .int) C hin hA w e0 rfl rfl zarrI (fun U cA cB h1 h2 => Option.some.inj (h1.symm.trans h2)) (fun _ => rfl) (fun α' => zcl_z0 (by decide +kernel) (by simp [zrz, zSt0])) (by decide) (by decide +kernel) (by decide +kernel) (by decide +kernel) (by decide +kernel) (by decide) (fun _ => rfl) flRX5_21 (q := (RX5, TX5, 17)) rfl rfl rfl (ty2 := .array .int) (by decide +kernel) (fun _ => rfl) (fun _ => rfl) (by decide +kernel) (Nat.le_of_ble_eq_true rfl) (Nat.le_of_ble_eq_true rfl) dX5_init_31 dX5_init_33 (fun α4 H1 locs1 hα4 w e0 => ?_)
  refine lv_aload_n hx hb dX5_init_36 rfl (lv_at hl 0 rfl) ?_
  refine lv_bipush (v := Int32.ofInt (24)) hx hb dX5_init_37 (by decide) ?_
  refine zb_arr (t0 := 0) (j := 27) (N := 24) (kf := 4) (a0 := (24, .inl (fun _ => 0))) (ty := .int) C hin hA w e0 rfl rfl zarrI (fun U cA cB h1 h2 => Option.some.inj (h1.symm.trans h2)) (fun _ => rfl) (fun α' => zcl_z0 (by decide +kernel) (by simp [zrz, zSt0])) (by decide) (by decide +kernel) (by decide +kernel) (by decide +kernel) (by decide +kernel) (by decide) (fun _ => rfl) flRX5_24 (q := (RX5, TX5, 17)) rfl rfl rfl (ty2 := .array .int) (by decide +kernel) (fun _ => rfl) (fun _ => rfl) (by decide +kernel) (Nat.le_of_ble_eq_true rfl) (Nat.le_of_ble_eq_true rfl) dX5_init_39 dX5_init_41 (fun α5 H1 locs1 hα5 w e0 => ?_)
  refine lv_aload_n hx hb dX5_init_44 rfl (lv_at hl 0 rfl) ?_
  refine lv_sipush (v := Int32.ofInt (400)) hx hb dX5_init_45 (by decide) ?_
  refine zb_arr (t0 := 0) (j := 28) (N := 400) (kf := 5) (a0 := (400, .inl (fun _ => 0))) (ty := .int) C hin hA w e0 rfl rfl zarrI (fun U cA cB h1 h2 => Option.some.inj (h1.symm.trans h2)) (fun _ => rfl) (fun α' => zcl_z0 (by decide +kernel) (by simp [zrz, zSt0])) (by decide) (by decide +kernel) (by decide +kernel) (by decide +kernel) (by decide +kernel) (by decide) (fun _ => rfl) flRX5_27 (q := (RX5, TX5, 17)) rfl rfl rfl (ty2 := .array .int) (by decide +kernel) (fun _ => rfl) (fun _ => rfl) (by decide +kernel) (Nat.le_of_ble_eq_true rfl) (Nat.le_of_ble_eq_true rfl) dX5_init_48 dX5_init_50 (fun α6 H1 locs1 hα6 w e0 => ?_)
  refine lv_aload_n hx hb dX5_init_53 rfl (lv_at hl 0 rfl) ?_
  refine lv_sipush (v := Int32.ofInt (400)) hx hb dX5_init_54 (by decide) ?_
  refine zb_arr (t0 := 0) (j := 29) (N := 400) (kf := 6) (a0 := (400, .inl (fun _ => 0))) (ty := .int) C hin hA w e0 rfl rfl zarrI (fun U cA cB h1 h2 => Option.some.inj (h1.symm.trans h2)) (fun _ => rfl) (fun α' => zcl_z0 (by decide +kernel) (by simp [zrz, zSt0])) (by decide) (by decide +kernel) (by decide +kernel) (by decide +kernel) (by decide +kernel) (by decide) (fun _ => rfl) flRX5_30 (q := (RX5, TX5, 17)) rfl rfl rfl (ty2 := .array .int) (by decide +kernel) (fun _ => rfl) (fun _ => rfl) (by decide +kernel) (Nat.le_of_ble_eq_true rfl) (Nat.le_of_ble_eq_true rfl) dX5_init_57 dX5_init_59 (fun α7 H1 locs1 hα7 w e0 => ?_)
  refine lv_aload_n hx hb dX5_init_62 rfl (lv_at hl 0 rfl) ?_
  refine lv_sipush (v := Int32.ofInt (400)) hx hb dX5_init_63 (by decide) ?_
  refine zb_arr (t0 := 0) (j := 30) (N := 400) (kf := 7) (a0 := (400, .inl (fun _ => 0))) (ty := .int) C hin hA w e0 rfl rfl zarrI (fun U cA cB h1 h2 => Option.some.inj (h1.symm.trans h2)) (fun _ => rfl) (fun α' => zcl_z0 (by decide +kernel) (by simp [zrz, zSt0])) (by decide) (by decide +kernel) (by decide +kernel) (by decide +kernel) (by decide +kernel) (by decide) (fun _ => rfl) flRX5_33 (q := (RX5, TX5, 17)) rfl rfl rfl (ty2 := .array .int) (by decide +kernel) (fun _ => rfl) (fun _ => rfl) (by decide +kernel) (Nat.le_of_ble_eq_true rfl) (Nat.le_of_ble_eq_true rfl) dX5_init_66 dX5_init_68 (fun α8 H1 locs1 hα8 w e0 => ?_)
  refine lv_aload_n hx hb dX5_init_71 rfl (lv_at hl 0 rfl) ?_
  refine lv_sipush (v := Int32.ofInt (400)) hx hb dX5_init_72 (by decide) ?_
  refine zb_arr (t0 := 0) (j := 31) (N := 400) (kf := 8) (a0 := (400, .inl (fun _ => 0))) (ty := .int) C hin hA w e0 rfl rfl zarrI (fun U cA cB h1 h2 => Option.some.inj (h1.symm.trans h2)) (fun _ => rfl) (fun α' => zcl_z0 (by decide +kernel) (by simp [zrz, zSt0])) (by decide) (by decide +kernel) (by decide +kernel) (by decide +kernel) (by decide +kernel) (by decide) (fun _ => rfl) flRX5_36 (q := (RX5, TX5, 17)) rfl rfl rfl (ty2 := .array .int) (by decide +kernel) (fun _ => rfl) (fun _ => rfl) (by decide +kernel) (Nat.le_of_ble_eq_true rfl) (Nat.le_of_ble_eq_true rfl) dX5_init_75 dX5_init_77 (fun α9 H1 locs1 hα9 w e0 => ?_)
  refine lv_aload_n hx hb dX5_init_80 rfl (lv_at hl 0 rfl) ?_
  refine lv_bipush (v := Int32.ofInt (24)) hx hb dX5_init_81 (by decide) ?_
  refine zb_arr (t0 := 0) (j := 32) (N := 24) (kf := 9) (a0 := (24, .inl (fun _ => 0))) (ty := .int) C hin hA w e0 rfl rfl zarrI (fun U cA cB h1 h2 => Option.some.inj (h1.symm.trans h2)) (fun _ => rfl) (fun α' => zcl_z0 (by decide +kernel) (by simp [zrz, zSt0])) (by decide) (by decide +kernel) (by decide +kernel) (by decide +kernel) (by decide +kernel) (by decide) (fun _ => rfl) flRX5_39 (q := (RX5, TX5, 17)) rfl rfl rfl (ty2 := .array .int) (by decide +kernel) (fun _ => rfl) (fun _ => rfl) (by decide +kernel) (Nat.le_of_ble_eq_true rfl) (Nat.le_of_ble_eq_true rfl) dX5_init_83 dX5_init_85 (fun α10 H1 locs1 hα10 w e0 => ?_)
  refine lv_aload_n hx hb dX5_init_88 rfl (lv_at hl 0 rfl) ?_
  refine lv_bipush (v := Int32.ofInt (24)) hx hb dX5_init_89 (by decide) ?_
  refine zb_arr (t0 := 0) (j := 33) (N := 24) (kf := 10) (a0 := (24, .inl (fun _ => 0))) (ty := .int) C hin hA w e0 rfl rfl zarrI (fun U cA cB h1 h2 => Option.some.inj (h1.symm.trans h2)) (fun _ => rfl) (fun α' => zcl_z0 (by decide +kernel) (by simp [zrz, zSt0])) (by decide) (by decide +kernel) (by decide +kernel) (by decide +kernel) (by decide +kernel) (by decide) (fun _ => rfl) flRX5_42 (q := (RX5, TX5, 17)) rfl rfl rfl (ty2 := .array .int) (by decide +kernel) (fun _ => rfl) (fun _ => rfl) (by decide +kernel) (Nat.le_of_ble_eq_true rfl) (Nat.le_of_ble_eq_true rfl) dX5_init_91 dX5_init_93 (fun α11 H1 locs1 hα11 w e0 => ?_)
  refine lv_aload_n hx hb dX5_init_96 rfl (lv_at hl 0 rfl) ?_
  refine lv_bipush (v := Int32.ofInt (24)) hx hb dX5_init_97 (by decide) ?_
  refine zb_arr (t0 := 0) (j := 34) (N := 24) (kf := 11) (a0 := (24, .inl (fun _ => 0))) (ty := .int) C hin hA w e0 rfl rfl zarrI (fun U cA cB h1 h2 => Option.some.inj (h1.symm.trans h2)) (fun _ => rfl) (fun α' => zcl_z0 (by decide +kernel) (by simp [zrz, zSt0])) (by decide) (by decide +kernel) (by decide +kernel) (by decide +kernel) (by decide +kernel) (by decide) (fun _ => rfl) flRX5_45 (q := (RX5, TX5, 17)) rfl rfl rfl (ty2 := .array .int) (by decide +kernel) (fun _ => rfl) (fun _ => rfl) (by decide +kernel) (Nat.le_of_ble_eq_true rfl) (Nat.le_of_ble_eq_true rfl) dX5_init_99 dX5_init_101 (fun α12 H1 locs1 hα12 w e0 => ?_)
  refine lv_aload_n hx hb dX5_init_104 rfl (lv_at hl 0 rfl) ?_
  refine lv_iconst (v := Int32.ofInt (0)) hx hb dX5_init_105 (by decide) ?_
  refine zb_put (kf := 12) (x := 0) C w e0 fpRX5_48 (by decide +kernel) dX5_init_106 (fun H1 locs1 w => ?_)
  refine lv_aload_n hx hb dX5_init_109 rfl (lv_at hl 0 rfl) ?_
  refine lv_iconst (v := Int32.ofInt (0)) hx hb dX5_init_110 (by decide) ?_
  refine zb_put (kf := 13) (x := 0) C w e0 fpRX5_52 (by decide +kernel) dX5_init_111 (fun H1 locs1 w => ?_)
  refine lv_aload_n hx hb dX5_init_114 rfl (lv_at hl 0 rfl) ?_
  refine lv_iconst (v := Int32.ofInt (0)) hx hb dX5_init_115 (by decide) ?_
  refine zb_put (kf := 14) (x := 0) C w e0 fpRX5_55 (by decide +kernel) dX5_init_116 (fun H1 locs1 w => ?_)
  refine lv_aload_n hx hb dX5_init_119 rfl (lv_at hl 0 rfl) ?_
  refine lv_bipush (v := Int32.ofInt (99)) hx hb dX5_init_120 (by decide) ?_
  refine zb_put (kf := 15) (x := 99) C w e0 fpRX5_58 (by decide +kernel) dX5_init_122 (fun H1 locs1 w => ?_)
  refine lv_aload_n hx hb dX5_init_125 rfl (lv_at hl 0 rfl) ?_
  refine lv_bipush (v := Int32.ofInt (99)) hx hb dX5_init_126 (by decide) ?_
  refine zb_put (kf := 16) (x := 99) C w e0 fpRX5_61 (by decide +kernel) dX5_init_128 (fun H1 locs1 w => ?_)
  refine lv_aload_n hx hb dX5_init_131 rfl (lv_at hl 0 rfl) ?_
  refine zb_get (kf := 2) (v := .inl 25) C w List.mem_cons_self e0 flRX5_18 (by decide +kernel) rfl dX5_init_132 ?_
  refine lv_iconst (v := Int32.ofInt (-1)) hx hb dX5_init_135 (by decide) ?_
  refine zb_fill (j := 25) (N := 48) (v := -1) C hA hl w (by decide +kernel) (by decide) (by decide) (by decide) lkRX5_64 ⟨by decide, by decide⟩ (Nat.le_of_ble_eq_true rfl) ⟨(Nat.le_of_ble_eq_true rfl), (Nat.le_of_ble_eq_true rfl)⟩ dX5_init_136 (fun H1 locs1 w => ?_)
  refine lv_aload_n hx hb dX5_init_139 rfl (lv_at hl 0 rfl) ?_
  refine zb_get (kf := 4) (v := .inl 27) C w List.mem_cons_self e0 flRX5_24 (by decide +kernel) rfl dX5_init_140 ?_
  refine lv_iconst (v := Int32.ofInt (-1)) hx hb dX5_init_143 (by decide) ?_
  refine zb_fill (j := 27) (N := 24) (v := -1) C hA hl w (by decide +kernel) (by decide) (by decide) (by decide) lkRX5_64 ⟨by decide, by decide⟩ (Nat.le_of_ble_eq_true rfl) ⟨(Nat.le_of_ble_eq_true rfl), (Nat.le_of_ble_eq_true rfl)⟩ dX5_init_144 (fun H1 locs1 w => ?_)
  have hrow : ∀ i ∈ ([34, 33, 32, 31, 30, 29, 28, 27, 26, 25, 24, 23] : List Nat), (zfl (zfl (zrz [25, 27]) 25 48 (-1)) 27 24 (-1)) i = zSt0 i := by
    intro i hi
    simp only [List.mem_cons, List.not_mem_nil, or_false] at hi
    rcases hi with rfl | rfl | rfl | rfl | rfl | rfl | rfl | rfl | rfl | rfl | rfl | rfl <;> (funext j; simp [zfl, zrz, zSt0, zrw0])
  exact zi_end (own := [34, 33, 32, 31, 30, 29, 28, 27, 26, 25, 24, 23]) C rfl w (by decide +kernel) (by decide +kernel) hrow (fun i hi => by rw [hα12 i (fun z => hi (by rw [z]; decide)), hα11 i (fun z => hi (by rw [z]; decide)), hα10 i (fun z => hi (by rw [z]; decide)), hα9 i (fun z => hi (by rw [z]; decide)), hα8 i (fun z => hi (by rw [z]; decide)), hα7 i (fun z => hi (by rw [z]; decide)), hα6 i (fun z => hi (by rw [z]; decide)), hα5 i (fun z => hi (by rw [z]; decide)), hα4 i (fun z => hi (by rw [z]; decide)), hα3 i (fun z => hi (by rw [z]; decide)), hα2 i (fun z => hi (by rw [z]; decide)), hα1 i (fun z => hi (by rw [z]; decide))]) ⟨(Nat.le_of_ble_eq_true rfl), (Nat.le_of_ble_eq_true rfl)⟩ dX5_init_147
theorem dX10_init_0 : decode cX10_init 0 = .ok (.aload_n 0, 1) := by decide +kernel
theorem dX10_init_1 : decode cX10_init 1 = .ok (.invokespecial 3, 3) := by decide +kernel
theorem dX10_init_4 : decode cX10_init 4 = .ok (.aload_n 0, 1) := by decide +kernel
theorem dX10_init_5 : decode cX10_init 5 = .ok (.sipush 320, 3) := by decide +kernel
theorem dX10_init_8 : decode cX10_init 8 = .ok (.newarray .int, 2) := by decide +kernel
theorem dX10_init_10 : decode cX10_init 10 = .ok (.putfield 9, 3) := by decide +kernel
theorem dX10_init_13 : decode cX10_init 13 = .ok (.aload_n 0, 1) := by decide +kernel
theorem dX10_init_14 : decode cX10_init 14 = .ok (.iconst 4, 1) := by decide +kernel
theorem dX10_init_15 : decode cX10_init 15 = .ok (.newarray .int, 2) := by decide +kernel
theorem dX10_init_17 : decode cX10_init 17 = .ok (.putfield 15, 3) := by decide +kernel
theorem dX10_init_20 : decode cX10_init 20 = .ok (.aload_n 0, 1) := by decide +kernel
theorem dX10_init_21 : decode cX10_init 21 = .ok (.bipush 12, 2) := by decide +kernel
theorem dX10_init_23 : decode cX10_init 23 = .ok (.newarray .int, 2) := by decide +kernel
theorem dX10_init_25 : decode cX10_init 25 = .ok (.putfield 18, 3) := by decide +kernel
theorem dX10_init_28 : decode cX10_init 28 = .ok (.aload_n 0, 1) := by decide +kernel
theorem dX10_init_29 : decode cX10_init 29 = .ok (.bipush 12, 2) := by decide +kernel
theorem dX10_init_31 : decode cX10_init 31 = .ok (.newarray .int, 2) := by decide +kernel
theorem dX10_init_33 : decode cX10_init 33 = .ok (.putfield 21, 3) := by decide +kernel
theorem dX10_init_36 : decode cX10_init 36 = .ok (.aload_n 0, 1) := by decide +kernel
theorem dX10_init_37 : decode cX10_init 37 = .ok (.bipush 12, 2) := by decide +kernel
theorem dX10_init_39 : decode cX10_init 39 = .ok (.newarray .int, 2) := by decide +kernel
theorem dX10_init_41 : decode cX10_init 41 = .ok (.putfield 24, 3) := by decide +kernel
theorem dX10_init_44 : decode cX10_init 44 = .ok (.aload_n 0, 1) := by decide +kernel
theorem dX10_init_45 : decode cX10_init 45 = .ok (.sipush 960, 3) := by decide +kernel
theorem dX10_init_48 : decode cX10_init 48 = .ok (.newarray .int, 2) := by decide +kernel
theorem dX10_init_50 : decode cX10_init 50 = .ok (.putfield 27, 3) := by decide +kernel
theorem dX10_init_53 : decode cX10_init 53 = .ok (.aload_n 0, 1) := by decide +kernel
theorem dX10_init_54 : decode cX10_init 54 = .ok (.bipush 12, 2) := by decide +kernel
theorem dX10_init_56 : decode cX10_init 56 = .ok (.newarray .int, 2) := by decide +kernel
theorem dX10_init_58 : decode cX10_init 58 = .ok (.putfield 30, 3) := by decide +kernel
theorem dX10_init_61 : decode cX10_init 61 = .ok (.aload_n 0, 1) := by decide +kernel
theorem dX10_init_62 : decode cX10_init 62 = .ok (.sipush 960, 3) := by decide +kernel
theorem dX10_init_65 : decode cX10_init 65 = .ok (.newarray .int, 2) := by decide +kernel
theorem dX10_init_67 : decode cX10_init 67 = .ok (.putfield 33, 3) := by decide +kernel
theorem dX10_init_70 : decode cX10_init 70 = .ok (.aload_n 0, 1) := by decide +kernel
theorem dX10_init_71 : decode cX10_init 71 = .ok (.bipush 12, 2) := by decide +kernel
theorem dX10_init_73 : decode cX10_init 73 = .ok (.newarray .int, 2) := by decide +kernel
theorem dX10_init_75 : decode cX10_init 75 = .ok (.putfield 36, 3) := by decide +kernel
theorem dX10_init_78 : decode cX10_init 78 = .ok (.aload_n 0, 1) := by decide +kernel
theorem dX10_init_79 : decode cX10_init 79 = .ok (.bipush 12, 2) := by decide +kernel
theorem dX10_init_81 : decode cX10_init 81 = .ok (.newarray .int, 2) := by decide +kernel
theorem dX10_init_83 : decode cX10_init 83 = .ok (.putfield 39, 3) := by decide +kernel
theorem dX10_init_86 : decode cX10_init 86 = .ok (.aload_n 0, 1) := by decide +kernel
theorem dX10_init_87 : decode cX10_init 87 = .ok (.sipush 200, 3) := by decide +kernel
theorem dX10_init_90 : decode cX10_init 90 = .ok (.newarray .int, 2) := by decide +kernel
theorem dX10_init_92 : decode cX10_init 92 = .ok (.putfield 42, 3) := by decide +kernel
theorem dX10_init_95 : decode cX10_init 95 = .ok (.aload_n 0, 1) := by decide +kernel
theorem dX10_init_96 : decode cX10_init 96 = .ok (.iconst 0, 1) := by decide +kernel
theorem dX10_init_97 : decode cX10_init 97 = .ok (.putfield 45, 3) := by decide +kernel
theorem dX10_init_100 : decode cX10_init 100 = .ok (.aload_n 0, 1) := by decide +kernel
theorem dX10_init_101 : decode cX10_init 101 = .ok (.iconst 0, 1) := by decide +kernel
theorem dX10_init_102 : decode cX10_init 102 = .ok (.putfield 49, 3) := by decide +kernel
theorem dX10_init_105 : decode cX10_init 105 = .ok (.aload_n 0, 1) := by decide +kernel
theorem dX10_init_106 : decode cX10_init 106 = .ok (.iconst 0, 1) := by decide +kernel
theorem dX10_init_107 : decode cX10_init 107 = .ok (.putfield 52, 3) := by decide +kernel
theorem dX10_init_110 : decode cX10_init 110 = .ok (.return_, 1) := by decide +kernel
set_option maxHeartbeats 4000000 in
set_option maxRecDepth 100000 in
theorem zi_X10_35 {G : zG} (hinj : zInj G) : zMi G MX10_init 11 2516 35 10 (fun _ => []) [46, 45, 44, 43, 42, 41, 40, 39, 38, 37, 36] zSt0 := by
  refine zi_of (idx0 := 3) hinj rfl (by decide) rfl (fun _ => (Nat.le_of_ble_eq_true rfl)) dX10_init_0 dX10_init_1 (zin_1 (List.mem_of_getElem? (i := 113) (by decide +kernel))) (zin_1 (List.mem_of_getElem? (i := 24) (by decide +kernel))) (zin_1 (List.mem_of_getElem? (i := 25) rfl)) ⟨by decide, by decide⟩ ?_
  intro α p e s m args below meth c A lsr C hnw hin hA w hl
  have hx := C.1
  have hb := C.2.1
  have w : zWq G A s.heap s.heap [] (zbw G α zSt0 35 10 (zsh 35).2.2 [] (fun _ => []) []) := w
  have hl : lv_has lsr 1 [(0, .ref (α 35))] := hl
  obtain ⟨h0, e0⟩ : ∃ h, α 35 = h := ⟨_, rfl⟩
  rw [e0] at hl
  refine lv_aload_n hx hb dX10_init_4 rfl (lv_at hl 0 rfl) ?_
  refine lv_sipush (v := Int32.ofInt (320)) hx hb dX10_init_5 (by decide) ?_
  refine zb_arr (t0 := 0) (j := 36) (N := 320) (kf := 0) (a0 := (320, .inl (fun _ => 0))) (ty := .int) C hin hA w e0 rfl rfl zarrI (fun U cA cB h1 h2 => Option.some.inj (h1.symm.trans h2)) (fun _ => rfl) (fun α' => zcl_z0 (by decide +kernel) rfl) (by decide) (by decide +kernel) (by decide +kernel) (by decide +kernel) (by decide +kernel) (by decide) (fun _ => rfl) flRX10_9 (q := (RX10, TX10, 14)) rfl rfl rfl (ty2 := .array .int) (by decide +kernel) (fun _ => rfl) (fun _ => rfl) (by decide +kernel) (Nat.le_of_ble_eq_true rfl) (Nat.le_of_ble_eq_true rfl) dX10_init_8 dX10_init_10 (fun α1 H1 locs1 hα1 w e0 => ?_)
  refine lv_aload_n hx hb dX10_init_13 rfl (lv_at hl 0 rfl) ?_
  refine lv_iconst (v := Int32.ofInt (4)) hx hb dX10_init_14 (by decide) ?_
  refine zb_arr (t0 := 0) (j := 37) (N := 4) (kf := 1) (a0 := (4, .inl (fun _ => 0))) (ty := .int) C hin hA w e0 rfl rfl zarrI (fun U cA cB h1 h2 => Option.some.inj (h1.symm.trans h2)) (fun _ => rfl) (fun α' => zcl_z0 (by decide +kernel) rfl) (by decide) (by decide +kernel) (by decide +kernel) (by decide +kernel) (by decide +kernel) (by decide) (fun _ => rfl) flRX10_15 (q := (RX10, TX10, 14)) rfl rfl rfl (ty2 := .array .int) (by decide +kernel) (fun _ => rfl) (fun _ => rfl) (by decide +kernel) (Nat.le_of_ble_eq_true rfl) (Nat.le_of_ble_eq_true rfl) dX10_init_15 dX10_init_17 (fun α2 H1 locs1 hα2 w e0 => ?_)
  refine lv_aload_n hx hb dX10_init_20 rfl (lv_at hl 0 rfl) ?_
  refine lv_bipush (v := Int32.ofInt (12)) hx hb dX10_init_21 (by decide) ?_
  refine zb_arr (t0 := 0) (j := 38) (N := 12) (kf := 2) (a0 := (12, .inl (fun _ => 0))) (ty := .int) C hin hA w e0 rfl rfl zarrI (fun U cA cB h1 h2 => Option.some.inj (h1.symm.trans h2)) (fun _ => rfl) (fun α' => zcl_z0 (by decide +kernel) rfl) (by decide) (by decide +kernel) (by decide +kernel) (by decide +kernel) (by decide +kernel) (by decide) (fun _ => rfl) flRX10_18 (q := (RX10, TX10, 14)) rfl rfl rfl (ty2 := .array .int) (by decide +kernel) (fun _ => rfl) (fun _ => rfl) (by decide +kernel) (Nat.le_of_ble_eq_true rfl) (Nat.le_of_ble_eq_true rfl) dX10_init_23 dX10_init_25 (fun α3 H1 locs1 hα3 w e0 => ?_)
  refine lv_aload_n hx hb dX10_init_28 rfl (lv_at hl 0 rfl) ?_
  refine lv_bipush (v := Int32.ofInt (12)) hx hb dX10_init_29 (by decide) ?_
  refine zb_arr (t0 := 0) (j := 39) (N := 12) (kf := 3) (a0 := (12, .inl (fun _ => 0))) (ty := .int) C hin hA w e0 rfl rfl zarrI (fun U cA cB h1 h2 => Option.some.inj (h1.symm.trans h2)) (fun _ => rfl) (fun α' => zcl_z0 (by decide +kernel) rfl) (by decide) (by decide +kernel) (by decide +kernel) (by decide +kernel) (by decide +kernel) (by decide) (fun _ => rfl) flRX10_21 (q := (RX10, TX10, 14)) rfl rfl rfl (ty2 := .array .int) (by decide +kernel) (fun _ => rfl) (fun _ => rfl) (by decide +kernel) (Nat.le_of_ble_eq_true rfl) (Nat.le_of_ble_eq_true rfl) dX10_init_31 dX10_init_33 (fun α4 H1 locs1 hα4 w e0 => ?_)
  refine lv_aload_n hx hb dX10_init_36 rfl (lv_at hl 0 rfl) ?_
  refine lv_bipush (v := Int32.ofInt (12)) hx hb dX10_init_37 (by decide) ?_
  refine zb_arr (t0 := 0) (j := 40) (N := 12) (kf := 4) (a0 := (12, .inl (fun _ => 0))) (ty := .int) C hin hA w e0 rfl rfl zarrI (fun U cA cB h1 h2 => Option.some.inj (h1.symm.trans h2)) (fun _ => rfl) (fun α' => zcl_z0 (by decide +kernel) rfl) (by decide) (by decide +kernel) (by decide +kernel) (by decide +kernel) (by decide +kernel) (by decide) (fun _ => rfl) flRX10_24 (q := (RX10, TX10, 14)) rfl rfl rfl (ty2 := .array .int) (by decide +kernel) (fun _ => rfl) (fun _ => rfl) (by decide +kernel) (Nat.le_of_ble_eq_true rfl) (Nat.le_of_ble_eq_true rfl) dX10_init_39 dX10_init_41 (fun α5 H1 locs1 hα5 w e0 => ?_)
  refine lv_aload_n hx hb dX10_init_44 rfl (lv_at hl 0 rfl) ?_
  refine lv_sipush (v := Int32.ofInt (960)) hx hb dX10_init_45 (by decide) ?_
  refine zb_arr (t0 := 0) (j := 41) (N := 960) (kf := 5) (a0 := (960, .inl (fun _ => 0))) (ty := .int) C hin hA w e0 rfl rfl zarrI (fun U cA cB h1 h2 => Option.some.inj (h1.symm.trans h2)) (fun _ => rfl) (fun α' => zcl_z0 (by decide +kernel) rfl) (by decide) (by decide +kernel) (by decide +kernel) (by decide +kernel) (by decide +kernel) (by decide) (fun _ => rfl) flRX10_27 (q := (RX10, TX10, 14)) rfl rfl rfl (ty2 := .array .int) (by decide +kernel) (fun _ => rfl) (fun _ => rfl) (by decide +kernel) (Nat.le_of_ble_eq_true rfl) (Nat.le_of_ble_eq_true rfl) dX10_init_48 dX10_init_50 (fun α6 H1 locs1 hα6 w e0 => ?_)
  refine lv_aload_n hx hb dX10_init_53 rfl (lv_at hl 0 rfl) ?_
  refine lv_bipush (v := Int32.ofInt (12)) hx hb dX10_init_54 (by decide) ?_
  refine zb_arr (t0 := 0) (j := 42) (N := 12) (kf := 6) (a0 := (12, .inl (fun _ => 0))) (ty := .int) C hin hA w e0 rfl rfl zarrI (fun U cA cB h1 h2 => Option.some.inj (h1.symm.trans h2)) (fun _ => rfl) (fun α' => zcl_z0 (by decide +kernel) rfl) (by decide) (by decide +kernel) (by decide +kernel) (by decide +kernel) (by decide +kernel) (by decide) (fun _ => rfl) flRX10_30 (q := (RX10, TX10, 14)) rfl rfl rfl (ty2 := .array .int) (by decide +kernel) (fun _ => rfl) (fun _ => rfl) (by decide +kernel) (Nat.le_of_ble_eq_true rfl) (Nat.le_of_ble_eq_true rfl) dX10_init_56 dX10_init_58 (fun α7 H1 locs1 hα7 w e0 => ?_)
  refine lv_aload_n hx hb dX10_init_61 rfl (lv_at hl 0 rfl) ?_
  refine lv_sipush (v := Int32.ofInt (960)) hx hb dX10_init_62 (by decide) ?_
  refine zb_arr (t0 := 0) (j := 43) (N := 960) (kf := 7) (a0 := (960, .inl (fun _ => 0))) (ty := .int) C hin hA w e0 rfl rfl zarrI (fun U cA cB h1 h2 => Option.some.inj (h1.symm.trans h2)) (fun _ => rfl) (fun α' => zcl_z0 (by decide +kernel) rfl) (by decide) (by decide +kernel) (by decide +kernel) (by decide +kernel) (by decide +kernel) (by decide) (fun _ => rfl) flRX10_33 (q := (RX10, TX10, 14)) rfl rfl rfl (ty2 := .array .int) (by decide +kernel) (fun _ => rfl) (fun _ => rfl) (by decide +kernel) (Nat.le_of_ble_eq_true rfl) (Nat.le_of_ble_eq_true rfl) dX10_init_65 dX10_init_67 (fun α8 H1 locs1 hα8 w e0 => ?_)
  refine lv_aload_n hx hb dX10_init_70 rfl (lv_at hl 0 rfl) ?_
  refine lv_bipush (v := Int32.ofInt (12)) hx hb dX10_init_71 (by decide) ?_
  refine zb_arr (t0 := 0) (j := 44) (N := 12) (kf := 8) (a0 := (12, .inl (fun _ => 0))) (ty := .int) C hin hA w e0 rfl rfl zarrI (fun U cA cB h1 h2 => Option.some.inj (h1.symm.trans h2)) (fun _ => rfl) (fun α' => zcl_z0 (by decide +kernel) rfl) (by decide) (by decide +kernel) (by decide +kernel) (by decide +kernel) (by decide +kernel) (by decide) (fun _ => rfl) flRX10_36 (q := (RX10, TX10, 14)) rfl rfl rfl (ty2 := .array .int) (by decide +kernel) (fun _ => rfl) (fun _ => rfl) (by decide +kernel) (Nat.le_of_ble_eq_true rfl) (Nat.le_of_ble_eq_true rfl) dX10_init_73 dX10_init_75 (fun α9 H1 locs1 hα9 w e0 => ?_)
  refine lv_aload_n hx hb dX10_init_78 rfl (lv_at hl 0 rfl) ?_
  refine lv_bipush (v := Int32.ofInt (12)) hx hb dX10_init_79 (by decide) ?_
  refine zb_arr (t0 := 0) (j := 45) (N := 12) (kf := 9) (a0 := (12, .inl (fun _ => 0))) (ty := .int) C hin hA w e0 rfl rfl zarrI (fun U cA cB h1 h2 => Option.some.inj (h1.symm.trans h2)) (fun _ => rfl) (fun α' => zcl_z0 (by decide +kernel) rfl) (by decide) (by decide +kernel) (by decide +kernel) (by decide +kernel) (by decide +kernel) (by decide) (fun _ => rfl) flRX10_39 (q := (RX10, TX10, 14)) rfl rfl rfl (ty2 := .array .int) (by decide +kernel) (fun _ => rfl) (fun _ => rfl) (by decide +kernel) (Nat.le_of_ble_eq_true rfl) (Nat.le_of_ble_eq_true rfl) dX10_init_81 dX10_init_83 (fun α10 H1 locs1 hα10 w e0 => ?_)
  refine lv_aload_n hx hb dX10_init_86 rfl (lv_at hl 0 rfl) ?_
  refine lv_sipush (v := Int32.ofInt (200)) hx hb dX10_init_87 (by decide) ?_
  refine zb_arr (t0 := 0) (j := 46) (N := 200) (kf := 10) (a0 := (200, .inl (fun _ => 0))) (ty := .int) C hin hA w e0 rfl rfl zarrI (fun U cA cB h1 h2 => Option.some.inj (h1.symm.trans h2)) (fun _ => rfl) (fun α' => zcl_z0 (by decide +kernel) rfl) (by decide) (by decide +kernel) (by decide +kernel) (by decide +kernel) (by decide +kernel) (by decide) (fun _ => rfl) flRX10_42 (q := (RX10, TX10, 14)) rfl rfl rfl (ty2 := .array .int) (by decide +kernel) (fun _ => rfl) (fun _ => rfl) (by decide +kernel) (Nat.le_of_ble_eq_true rfl) (Nat.le_of_ble_eq_true rfl) dX10_init_90 dX10_init_92 (fun α11 H1 locs1 hα11 w e0 => ?_)
  refine lv_aload_n hx hb dX10_init_95 rfl (lv_at hl 0 rfl) ?_
  refine lv_iconst (v := Int32.ofInt (0)) hx hb dX10_init_96 (by decide) ?_
  refine zb_put (kf := 11) (x := 0) C w e0 fpRX10_45 (by decide +kernel) dX10_init_97 (fun H1 locs1 w => ?_)
  refine lv_aload_n hx hb dX10_init_100 rfl (lv_at hl 0 rfl) ?_
  refine lv_iconst (v := Int32.ofInt (0)) hx hb dX10_init_101 (by decide) ?_
  refine zb_put (kf := 12) (x := 0) C w e0 fpRX10_49 (by decide +kernel) dX10_init_102 (fun H1 locs1 w => ?_)
  refine lv_aload_n hx hb dX10_init_105 rfl (lv_at hl 0 rfl) ?_
  refine lv_iconst (v := Int32.ofInt (0)) hx hb dX10_init_106 (by decide) ?_
  refine zb_put (kf := 13) (x := 0) C w e0 fpRX10_52 (by decide +kernel) dX10_init_107 (fun H1 locs1 w => ?_)
  exact zi_end (own := [46, 45, 44, 43, 42, 41, 40, 39, 38, 37, 36]) C rfl w (by decide +kernel) (by decide +kernel) (fun _ _ => rfl) (fun i hi => by rw [hα11 i (fun z => hi (by rw [z]; decide)), hα10 i (fun z => hi (by rw [z]; decide)), hα9 i (fun z => hi (by rw [z]; decide)), hα8 i (fun z => hi (by rw [z]; decide)), hα7 i (fun z => hi (by rw [z]; decide)), hα6 i (fun z => hi (by rw [z]; decide)), hα5 i (fun z => hi (by rw [z]; decide)), hα4 i (fun z => hi (by rw [z]; decide)), hα3 i (fun z => hi (by rw [z]; decide)), hα2 i (fun z => hi (by rw [z]; decide)), hα1 i (fun z => hi (by rw [z]; decide))]) ⟨(Nat.le_of_ble_eq_true rfl), (Nat.le_of_ble_eq_true rfl)⟩ dX10_init_110
theorem dX3_init_0 : decode cX3_init 0 = .ok (.aload_n 0, 1) := by decide +kernel
theorem dX3_init_1 : decode cX3_init 1 = .ok (.invokespecial 3, 3) := by decide +kernel
theorem dX3_init_4 : decode cX3_init 4 = .ok (.aload_n 0, 1) := by decide +kernel
theorem dX3_init_5 : decode cX3_init 5 = .ok (.bipush 31, 2) := by decide +kernel
theorem dX3_init_7 : decode cX3_init 7 = .ok (.newarray .int, 2) := by decide +kernel
theorem dX3_init_9 : decode cX3_init 9 = .ok (.putfield 11, 3) := by decide +kernel
theorem dX3_init_12 : decode cX3_init 12 = .ok (.aload_n 0, 1) := by decide +kernel
theorem dX3_init_13 : decode cX3_init 13 = .ok (.bipush 31, 2) := by decide +kernel
theorem dX3_init_15 : decode cX3_init 15 = .ok (.newarray .int, 2) := by decide +kernel
theorem dX3_init_17 : decode cX3_init 17 = .ok (.putfield 15, 3) := by decide +kernel
theorem dX3_init_20 : decode cX3_init 20 = .ok (.aload_n 0, 1) := by decide +kernel
theorem dX3_init_21 : decode cX3_init 21 = .ok (.bipush 31, 2) := by decide +kernel
theorem dX3_init_23 : decode cX3_init 23 = .ok (.newarray .int, 2) := by decide +kernel
theorem dX3_init_25 : decode cX3_init 25 = .ok (.putfield 18, 3) := by decide +kernel
theorem dX3_init_28 : decode cX3_init 28 = .ok (.aload_n 0, 1) := by decide +kernel
theorem dX3_init_29 : decode cX3_init 29 = .ok (.iconst 4, 1) := by decide +kernel
theorem dX3_init_30 : decode cX3_init 30 = .ok (.newarray .int, 2) := by decide +kernel
theorem dX3_init_32 : decode cX3_init 32 = .ok (.putfield 21, 3) := by decide +kernel
theorem dX3_init_35 : decode cX3_init 35 = .ok (.aload_n 0, 1) := by decide +kernel
theorem dX3_init_36 : decode cX3_init 36 = .ok (.aload_n 1, 1) := by decide +kernel
theorem dX3_init_37 : decode cX3_init 37 = .ok (.putfield 24, 3) := by decide +kernel
theorem dX3_init_40 : decode cX3_init 40 = .ok (.aload_n 0, 1) := by decide +kernel
theorem dX3_init_41 : decode cX3_init 41 = .ok (.aload_n 2, 1) := by decide +kernel
theorem dX3_init_42 : decode cX3_init 42 = .ok (.putfield 28, 3) := by decide +kernel
theorem dX3_init_45 : decode cX3_init 45 = .ok (.return_, 1) := by decide +kernel
set_option maxHeartbeats 4000000 in
set_option maxRecDepth 100000 in
theorem zi_X3_47 {G : zG} (hinj : zInj G) : zMi G MX3_init 4 97 47 3 (fun α => [.ref (α 22), .ref (α 35)]) [51, 50, 49, 48] zSt0 := by
  refine zi_of (idx0 := 3) hinj rfl (by decide) rfl (fun _ => (Nat.le_of_ble_eq_true rfl)) dX3_init_0 dX3_init_1 (zin_1 (List.mem_of_getElem? (i := 170) (by decide +kernel))) (zin_1 (List.mem_of_getElem? (i := 24) (by decide +kernel))) (zin_1 (List.mem_of_getElem? (i := 25) rfl)) ⟨by decide, by decide⟩ ?_
  intro α p e s m args below meth c A lsr C hnw hin hA w hl
  have hx := C.1
  have hb := C.2.1
  have w : zWq G A s.heap s.heap [] (zbw G α zSt0 47 3 (zsh 47).2.2 [] (fun _ => []) []) := w
  have hl : lv_has lsr 3 [(0, .ref (α 47)), (1, .ref (α 22)), (2, .ref (α 35))] := hl
  obtain ⟨h0, e0⟩ : ∃ h, α 47 = h := ⟨_, rfl⟩
  rw [e0] at hl
  obtain ⟨h1, e1⟩ : ∃ h, α 22 = h := ⟨_, rfl⟩
  rw [e1] at hl
  obtain ⟨h2, e2⟩ : ∃ h, α 35 = h := ⟨_, rfl⟩
  rw [e2] at hl
  refine lv_aload_n hx hb dX3_init_4 rfl (lv_at hl 0 rfl) ?_
  refine lv_bipush (v := Int32.ofInt (31)) hx hb dX3_init_5 (by decide) ?_
  refine zb_arr (t0 := 0) (j := 48) (N := 31) (kf := 2) (a0 := (31, .inl (fun _ => 0))) (ty := .int) C hin hA w e0 rfl rfl zarrI (fun U cA cB h1 h2 => Option.some.inj (h1.symm.trans h2)) (fun _ => rfl) (fun α' => zcl_z0 (by decide +kernel) rfl) (by decide) (by decide +kernel) (by decide +kernel) (by decide +kernel) (by decide +kernel) (by decide) (fun _ => rfl) flRX3_11 (q := (RX3, TX3, 14)) rfl rfl rfl (ty2 := .array .int) (by decide +kernel) (fun _ => rfl) (fun _ => rfl) (by decide +kernel) (Nat.le_of_ble_eq_true rfl) (Nat.le_of_ble_eq_true rfl) dX3_init_7 dX3_init_9 (fun α1 H1 locs1 hα1 w e0 => ?_)
  have e1 : α1 22 = h1 := (hα1 22 (by decide)).trans e1
  have e2 : α1 35 = h2 := (hα1 35 (by decide)).trans e2
  refine lv_aload_n hx hb dX3_init_12 rfl (lv_at hl 0 rfl) ?_
  refine lv_bipush (v := Int32.ofInt (31)) hx hb dX3_init_13 (by decide) ?_
  refine zb_arr (t0 := 0) (j := 49) (N := 31) (kf := 3) (a0 := (31, .inl (fun _ => 0))) (ty := .int) C hin hA w e0 rfl rfl zarrI (fun U cA cB h1 h2 => Option.some.inj (h1.symm.trans h2)) (fun _ => rfl) (fun α' => zcl_z0 (by decide +kernel) rfl) (by decide) (by decide +kernel) (by decide +kernel) (by decide +kernel) (by decide +kernel) (by decide) (fun _ => rfl) flRX3_15 (q := (RX3, TX3, 14)) rfl rfl rfl (ty2 := .array .int) (by decide +kernel) (fun _ => rfl) (fun _ => rfl) (by decide +kernel) (Nat.le_of_ble_eq_true rfl) (Nat.le_of_ble_eq_true rfl) dX3_init_15 dX3_init_17 (fun α2 H1 locs1 hα2 w e0 => ?_)
  have e1 : α2 22 = h1 := (hα2 22 (by decide)).trans e1
  have e2 : α2 35 = h2 := (hα2 35 (by decide)).trans e2
  refine lv_aload_n hx hb dX3_init_20 rfl (lv_at hl 0 rfl) ?_
  refine lv_bipush (v := Int32.ofInt (31)) hx hb dX3_init_21 (by decide) ?_
  refine zb_arr (t0 := 0) (j := 50) (N := 31) (kf := 4) (a0 := (31, .inl (fun _ => 0))) (ty := .int) C hin hA w e0 rfl rfl zarrI (fun U cA cB h1 h2 => Option.some.inj (h1.symm.trans h2)) (fun _ => rfl) (fun α' => zcl_z0 (by decide +kernel) rfl) (by decide) (by decide +kernel) (by decide +kernel) (by decide +kernel) (by decide +kernel) (by decide) (fun _ => rfl) flRX3_18 (q := (RX3, TX3, 14)) rfl rfl rfl (ty2 := .array .int) (by decide +kernel) (fun _ => rfl) (fun _ => rfl) (by decide +kernel) (Nat.le_of_ble_eq_true rfl) (Nat.le_of_ble_eq_true rfl) dX3_init_23 dX3_init_25 (fun α3 H1 locs1 hα3 w e0 => ?_)
  have e1 : α3 22 = h1 := (hα3 22 (by decide)).trans e1
  have e2 : α3 35 = h2 := (hα3 35 (by decide)).trans e2
  refine lv_aload_n hx hb dX3_init_28 rfl (lv_at hl 0 rfl) ?_
  refine lv_iconst (v := Int32.ofInt (4)) hx hb dX3_init_29 (by decide) ?_
  refine zb_arr (t0 := 0) (j := 51) (N := 4) (kf := 5) (a0 := (4, .inl (fun _ => 0))) (ty := .int) C hin hA w e0 rfl rfl zarrI (fun U cA cB h1 h2 => Option.some.inj (h1.symm.trans h2)) (fun _ => rfl) (fun α' => zcl_z0 (by decide +kernel) rfl) (by decide) (by decide +kernel) (by decide +kernel) (by decide +kernel) (by decide +kernel) (by decide) (fun _ => rfl) flRX3_21 (q := (RX3, TX3, 14)) rfl rfl rfl (ty2 := .array .int) (by decide +kernel) (fun _ => rfl) (fun _ => rfl) (by decide +kernel) (Nat.le_of_ble_eq_true rfl) (Nat.le_of_ble_eq_true rfl) dX3_init_30 dX3_init_32 (fun α4 H1 locs1 hα4 w e0 => ?_)
  have e1 : α4 22 = h1 := (hα4 22 (by decide)).trans e1
  have e2 : α4 35 = h2 := (hα4 35 (by decide)).trans e2
  refine lv_aload_n hx hb dX3_init_35 rfl (lv_at hl 0 rfl) ?_
  refine lv_aload_n hx hb dX3_init_36 rfl (lv_at hl 1 rfl) ?_
  rw [← e1]
  refine zb_fin (v := .inl 22) (kf := 0) C hin w e0 flRX3_24 (q := (RX3, TX3, 14)) rfl rfl rfl (ty2 := .object "CollegeHouse$People") (by decide +kernel) rfl rfl (by decide +kernel) dX3_init_37 (fun H1 locs1 w => ?_)
  refine lv_aload_n hx hb dX3_init_40 rfl (lv_at hl 0 rfl) ?_
  refine lv_aload_n hx hb dX3_init_41 rfl (lv_at hl 2 rfl) ?_
  rw [← e2]
  refine zb_fin (v := .inl 35) (kf := 1) C hin w e0 flRX3_28 (q := (RX3, TX3, 14)) rfl rfl rfl (ty2 := .object "CollegeHouse$Statutes") (by decide +kernel) rfl rfl (by decide +kernel) dX3_init_42 (fun H1 locs1 w => ?_)
  exact zi_end (own := [51, 50, 49, 48]) C rfl w (by decide +kernel) (by decide +kernel) (fun _ _ => rfl) (fun i hi => by rw [hα4 i (fun z => hi (by rw [z]; decide)), hα3 i (fun z => hi (by rw [z]; decide)), hα2 i (fun z => hi (by rw [z]; decide)), hα1 i (fun z => hi (by rw [z]; decide))]) ⟨(Nat.le_of_ble_eq_true rfl), (Nat.le_of_ble_eq_true rfl)⟩ dX3_init_45
theorem dX6_init_0 : decode cX6_init 0 = .ok (.aload_n 0, 1) := by decide +kernel
theorem dX6_init_1 : decode cX6_init 1 = .ok (.invokespecial 3, 3) := by decide +kernel
theorem dX6_init_4 : decode cX6_init 4 = .ok (.aload_n 0, 1) := by decide +kernel
theorem dX6_init_5 : decode cX6_init 5 = .ok (.bipush 12, 2) := by decide +kernel
theorem dX6_init_7 : decode cX6_init 7 = .ok (.newarray .int, 2) := by decide +kernel
theorem dX6_init_9 : decode cX6_init 9 = .ok (.putfield 11, 3) := by decide +kernel
theorem dX6_init_12 : decode cX6_init 12 = .ok (.aload_n 0, 1) := by decide +kernel
theorem dX6_init_13 : decode cX6_init 13 = .ok (.bipush 12, 2) := by decide +kernel
theorem dX6_init_15 : decode cX6_init 15 = .ok (.newarray .int, 2) := by decide +kernel
theorem dX6_init_17 : decode cX6_init 17 = .ok (.putfield 15, 3) := by decide +kernel
theorem dX6_init_20 : decode cX6_init 20 = .ok (.aload_n 0, 1) := by decide +kernel
theorem dX6_init_21 : decode cX6_init 21 = .ok (.bipush 12, 2) := by decide +kernel
theorem dX6_init_23 : decode cX6_init 23 = .ok (.newarray .int, 2) := by decide +kernel
theorem dX6_init_25 : decode cX6_init 25 = .ok (.putfield 18, 3) := by decide +kernel
theorem dX6_init_28 : decode cX6_init 28 = .ok (.aload_n 0, 1) := by decide +kernel
theorem dX6_init_29 : decode cX6_init 29 = .ok (.bipush 12, 2) := by decide +kernel
theorem dX6_init_31 : decode cX6_init 31 = .ok (.newarray .int, 2) := by decide +kernel
theorem dX6_init_33 : decode cX6_init 33 = .ok (.putfield 21, 3) := by decide +kernel
theorem dX6_init_36 : decode cX6_init 36 = .ok (.aload_n 0, 1) := by decide +kernel
theorem dX6_init_37 : decode cX6_init 37 = .ok (.bipush 12, 2) := by decide +kernel
theorem dX6_init_39 : decode cX6_init 39 = .ok (.newarray .int, 2) := by decide +kernel
theorem dX6_init_41 : decode cX6_init 41 = .ok (.putfield 24, 3) := by decide +kernel
theorem dX6_init_44 : decode cX6_init 44 = .ok (.aload_n 0, 1) := by decide +kernel
theorem dX6_init_45 : decode cX6_init 45 = .ok (.bipush 12, 2) := by decide +kernel
theorem dX6_init_47 : decode cX6_init 47 = .ok (.newarray .int, 2) := by decide +kernel
theorem dX6_init_49 : decode cX6_init 49 = .ok (.putfield 27, 3) := by decide +kernel
theorem dX6_init_52 : decode cX6_init 52 = .ok (.aload_n 0, 1) := by decide +kernel
theorem dX6_init_53 : decode cX6_init 53 = .ok (.iconst 0, 1) := by decide +kernel
theorem dX6_init_54 : decode cX6_init 54 = .ok (.putfield 30, 3) := by decide +kernel
theorem dX6_init_57 : decode cX6_init 57 = .ok (.aload_n 0, 1) := by decide +kernel
theorem dX6_init_58 : decode cX6_init 58 = .ok (.sipush 365, 3) := by decide +kernel
theorem dX6_init_61 : decode cX6_init 61 = .ok (.putfield 34, 3) := by decide +kernel
theorem dX6_init_64 : decode cX6_init 64 = .ok (.aload_n 0, 1) := by decide +kernel
theorem dX6_init_65 : decode cX6_init 65 = .ok (.aload_n 1, 1) := by decide +kernel
theorem dX6_init_66 : decode cX6_init 66 = .ok (.putfield 37, 3) := by decide +kernel
theorem dX6_init_69 : decode cX6_init 69 = .ok (.return_, 1) := by decide +kernel
set_option maxHeartbeats 4000000 in
set_option maxRecDepth 100000 in
theorem zi_X6_52 {G : zG} (hinj : zInj G) : zMi G MX6_init 6 72 52 6 (fun α => [.ref (α 47)]) [58, 57, 56, 55, 54, 53] zSt0 := by
  refine zi_of (idx0 := 3) hinj rfl (by decide) rfl (fun _ => (Nat.le_of_ble_eq_true rfl)) dX6_init_0 dX6_init_1 (zin_1 (List.mem_of_getElem? (i := 221) (by decide +kernel))) (zin_1 (List.mem_of_getElem? (i := 24) (by decide +kernel))) (zin_1 (List.mem_of_getElem? (i := 25) rfl)) ⟨by decide, by decide⟩ ?_
  intro α p e s m args below meth c A lsr C hnw hin hA w hl
  have hx := C.1
  have hb := C.2.1
  have w : zWq G A s.heap s.heap [] (zbw G α zSt0 52 6 (zsh 52).2.2 [] (fun _ => []) []) := w
  have hl : lv_has lsr 2 [(0, .ref (α 52)), (1, .ref (α 47))] := hl
  obtain ⟨h0, e0⟩ : ∃ h, α 52 = h := ⟨_, rfl⟩
  rw [e0] at hl
  obtain ⟨h1, e1⟩ : ∃ h, α 47 = h := ⟨_, rfl⟩
  rw [e1] at hl
  refine lv_aload_n hx hb dX6_init_4 rfl (lv_at hl 0 rfl) ?_
  refine lv_bipush (v := Int32.ofInt (12)) hx hb dX6_init_5 (by decide) ?_
  refine zb_arr (t0 := 0) (j := 53) (N := 12) (kf := 1) (a0 := (12, .inl (fun _ => 0))) (ty := .int) C hin hA w e0 rfl rfl zarrI (fun U cA cB h1 h2 => Option.some.inj (h1.symm.trans h2)) (fun _ => rfl) (fun α' => zcl_z0 (by decide +kernel) rfl) (by decide) (by decide +kernel) (by decide +kernel) (by decide +kernel) (by decide +kernel) (by decide) (fun _ => rfl) flRX6_11 (q := (RX6, TX6, 9)) rfl rfl rfl (ty2 := .array .int) (by decide +kernel) (fun _ => rfl) (fun _ => rfl) (by decide +kernel) (Nat.le_of_ble_eq_true rfl) (Nat.le_of_ble_eq_true rfl) dX6_init_7 dX6_init_9 (fun α1 H1 locs1 hα1 w e0 => ?_)
  have e1 : α1 47 = h1 := (hα1 47 (by decide)).trans e1
  refine lv_aload_n hx hb dX6_init_12 rfl (lv_at hl 0 rfl) ?_
  refine lv_bipush (v := Int32.ofInt (12)) hx hb dX6_init_13 (by decide) ?_
  refine zb_arr (t0 := 0) (j := 54) (N := 12) (kf := 2) (a0 := (12, .inl (fun _ => 0))) (ty := .int) C hin hA w e0 rfl rfl zarrI (fun U cA cB h1 h2 => Option.some.inj (h1.symm.trans h2)) (fun _ => rfl) (fun α' => zcl_z0 (by decide +kernel) rfl) (by decide) (by decide +kernel) (by decide +kernel) (by decide +kernel) (by decide +kernel) (by decide) (fun _ => rfl) flRX6_15 (q := (RX6, TX6, 9)) rfl rfl rfl (ty2 := .array .int) (by decide +kernel) (fun _ => rfl) (fun _ => rfl) (by decide +kernel) (Nat.le_of_ble_eq_true rfl) (Nat.le_of_ble_eq_true rfl) dX6_init_15 dX6_init_17 (fun α2 H1 locs1 hα2 w e0 => ?_)
  have e1 : α2 47 = h1 := (hα2 47 (by decide)).trans e1
  refine lv_aload_n hx hb dX6_init_20 rfl (lv_at hl 0 rfl) ?_
  refine lv_bipush (v := Int32.ofInt (12)) hx hb dX6_init_21 (by decide) ?_
  refine zb_arr (t0 := 0) (j := 55) (N := 12) (kf := 3) (a0 := (12, .inl (fun _ => 0))) (ty := .int) C hin hA w e0 rfl rfl zarrI (fun U cA cB h1 h2 => Option.some.inj (h1.symm.trans h2)) (fun _ => rfl) (fun α' => zcl_z0 (by decide +kernel) rfl) (by decide) (by decide +kernel) (by decide +kernel) (by decide +kernel) (by decide +kernel) (by decide) (fun _ => rfl) flRX6_18 (q := (RX6, TX6, 9)) rfl rfl rfl (ty2 := .array .int) (by decide +kernel) (fun _ => rfl) (fun _ => rfl) (by decide +kernel) (Nat.le_of_ble_eq_true rfl) (Nat.le_of_ble_eq_true rfl) dX6_init_23 dX6_init_25 (fun α3 H1 locs1 hα3 w e0 => ?_)
  have e1 : α3 47 = h1 := (hα3 47 (by decide)).trans e1
  refine lv_aload_n hx hb dX6_init_28 rfl (lv_at hl 0 rfl) ?_
  refine lv_bipush (v := Int32.ofInt (12)) hx hb dX6_init_29 (by decide) ?_
  refine zb_arr (t0 := 0) (j := 56) (N := 12) (kf := 4) (a0 := (12, .inl (fun _ => 0))) (ty := .int) C hin hA w e0 rfl rfl zarrI (fun U cA cB h1 h2 => Option.some.inj (h1.symm.trans h2)) (fun _ => rfl) (fun α' => zcl_z0 (by decide +kernel) rfl) (by decide) (by decide +kernel) (by decide +kernel) (by decide +kernel) (by decide +kernel) (by decide) (fun _ => rfl) flRX6_21 (q := (RX6, TX6, 9)) rfl rfl rfl (ty2 := .array .int) (by decide +kernel) (fun _ => rfl) (fun _ => rfl) (by decide +kernel) (Nat.le_of_ble_eq_true rfl) (Nat.le_of_ble_eq_true rfl) dX6_init_31 dX6_init_33 (fun α4 H1 locs1 hα4 w e0 => ?_)
  have e1 : α4 47 = h1 := (hα4 47 (by decide)).trans e1
  refine lv_aload_n hx hb dX6_init_36 rfl (lv_at hl 0 rfl) ?_
  refine lv_bipush (v := Int32.ofInt (12)) hx hb dX6_init_37 (by decide) ?_
  refine zb_arr (t0 := 0) (j := 57) (N := 12) (kf := 5) (a0 := (12, .inl (fun _ => 0))) (ty := .int) C hin hA w e0 rfl rfl zarrI (fun U cA cB h1 h2 => Option.some.inj (h1.symm.trans h2)) (fun _ => rfl) (fun α' => zcl_z0 (by decide +kernel) rfl) (by decide) (by decide +kernel) (by decide +kernel) (by decide +kernel) (by decide +kernel) (by decide) (fun _ => rfl) flRX6_24 (q := (RX6, TX6, 9)) rfl rfl rfl (ty2 := .array .int) (by decide +kernel) (fun _ => rfl) (fun _ => rfl) (by decide +kernel) (Nat.le_of_ble_eq_true rfl) (Nat.le_of_ble_eq_true rfl) dX6_init_39 dX6_init_41 (fun α5 H1 locs1 hα5 w e0 => ?_)
  have e1 : α5 47 = h1 := (hα5 47 (by decide)).trans e1
  refine lv_aload_n hx hb dX6_init_44 rfl (lv_at hl 0 rfl) ?_
  refine lv_bipush (v := Int32.ofInt (12)) hx hb dX6_init_45 (by decide) ?_
  refine zb_arr (t0 := 0) (j := 58) (N := 12) (kf := 6) (a0 := (12, .inl (fun _ => 0))) (ty := .int) C hin hA w e0 rfl rfl zarrI (fun U cA cB h1 h2 => Option.some.inj (h1.symm.trans h2)) (fun _ => rfl) (fun α' => zcl_z0 (by decide +kernel) rfl) (by decide) (by decide +kernel) (by decide +kernel) (by decide +kernel) (by decide +kernel) (by decide) (fun _ => rfl) flRX6_27 (q := (RX6, TX6, 9)) rfl rfl rfl (ty2 := .array .int) (by decide +kernel) (fun _ => rfl) (fun _ => rfl) (by decide +kernel) (Nat.le_of_ble_eq_true rfl) (Nat.le_of_ble_eq_true rfl) dX6_init_47 dX6_init_49 (fun α6 H1 locs1 hα6 w e0 => ?_)
  have e1 : α6 47 = h1 := (hα6 47 (by decide)).trans e1
  refine lv_aload_n hx hb dX6_init_52 rfl (lv_at hl 0 rfl) ?_
  refine lv_iconst (v := Int32.ofInt (0)) hx hb dX6_init_53 (by decide) ?_
  refine zb_put (kf := 7) (x := 0) C w e0 fpRX6_30 (by decide +kernel) dX6_init_54 (fun H1 locs1 w => ?_)
  refine lv_aload_n hx hb dX6_init_57 rfl (lv_at hl 0 rfl) ?_
  refine lv_sipush (v := Int32.ofInt (365)) hx hb dX6_init_58 (by decide) ?_
  refine zb_put (kf := 8) (x := 365) C w e0 fpRX6_34 (by decide +kernel) dX6_init_61 (fun H1 locs1 w => ?_)
  refine lv_aload_n hx hb dX6_init_64 rfl (lv_at hl 0 rfl) ?_
  refine lv_aload_n hx hb dX6_init_65 rfl (lv_at hl 1 rfl) ?_
  rw [← e1]
  refine zb_fin (v := .inl 47) (kf := 0) C hin w e0 flRX6_37 (q := (RX6, TX6, 9)) rfl rfl rfl (ty2 := .object "CollegeHouse$Law") (by decide +kernel) rfl rfl (by decide +kernel) dX6_init_66 (fun H1 locs1 w => ?_)
  exact zi_end (own := [58, 57, 56, 55, 54, 53]) C rfl w (by decide +kernel) (by decide +kernel) (fun _ _ => rfl) (fun i hi => by rw [hα6 i (fun z => hi (by rw [z]; decide)), hα5 i (fun z => hi (by rw [z]; decide)), hα4 i (fun z => hi (by rw [z]; decide)), hα3 i (fun z => hi (by rw [z]; decide)), hα2 i (fun z => hi (by rw [z]; decide)), hα1 i (fun z => hi (by rw [z]; decide))]) ⟨(Nat.le_of_ble_eq_true rfl), (Nat.le_of_ble_eq_true rfl)⟩ dX6_init_69
theorem dX1_init_0 : decode cX1_init 0 = .ok (.aload_n 0, 1) := by decide +kernel
theorem dX1_init_1 : decode cX1_init 1 = .ok (.invokespecial 3, 3) := by decide +kernel
theorem dX1_init_4 : decode cX1_init 4 = .ok (.aload_n 0, 1) := by decide +kernel
theorem dX1_init_5 : decode cX1_init 5 = .ok (.bipush 24, 2) := by decide +kernel
theorem dX1_init_7 : decode cX1_init 7 = .ok (.newarray .int, 2) := by decide +kernel
theorem dX1_init_9 : decode cX1_init 9 = .ok (.putfield 9, 3) := by decide +kernel
theorem dX1_init_12 : decode cX1_init 12 = .ok (.aload_n 0, 1) := by decide +kernel
theorem dX1_init_13 : decode cX1_init 13 = .ok (.iload_n 1, 1) := by decide +kernel
theorem dX1_init_14 : decode cX1_init 14 = .ok (.putfield 15, 3) := by decide +kernel
theorem dX1_init_17 : decode cX1_init 17 = .ok (.aload_n 0, 1) := by decide +kernel
theorem dX1_init_18 : decode cX1_init 18 = .ok (.bipush 24, 2) := by decide +kernel
theorem dX1_init_20 : decode cX1_init 20 = .ok (.iload_n 1, 1) := by decide +kernel
theorem dX1_init_21 : decode cX1_init 21 = .ok (.imul, 1) := by decide +kernel
theorem dX1_init_22 : decode cX1_init 22 = .ok (.newarray .int, 2) := by decide +kernel
theorem dX1_init_24 : decode cX1_init 24 = .ok (.putfield 19, 3) := by decide +kernel
theorem dX1_init_27 : decode cX1_init 27 = .ok (.aload_n 0, 1) := by decide +kernel
theorem dX1_init_28 : decode cX1_init 28 = .ok (.getfield 9, 3) := by decide +kernel
theorem dX1_init_31 : decode cX1_init 31 = .ok (.iconst (-1), 1) := by decide +kernel
theorem dX1_init_32 : decode cX1_init 32 = .ok (.invokestatic 22, 3) := by decide +kernel
theorem dX1_init_35 : decode cX1_init 35 = .ok (.return_, 1) := by decide +kernel
set_option maxHeartbeats 4000000 in
set_option maxRecDepth 100000 in
theorem zi_X1_59 {G : zG} (hinj : zInj G) : zMi G MX1_init 2 600 59 1 (fun _ => [.int (Int32.ofInt 24)]) [60, 61] zSt0 := by
  refine zi_of (idx0 := 3) hinj rfl (by decide) rfl (fun _ => (Nat.le_of_ble_eq_true rfl)) dX1_init_0 dX1_init_1 (zin_2 (List.mem_of_getElem? (i := 27) (by decide +kernel))) (zin_1 (List.mem_of_getElem? (i := 24) (by decide +kernel))) (zin_1 (List.mem_of_getElem? (i := 25) rfl)) ⟨by decide, by decide⟩ ?_
  intro α p e s m args below meth c A lsr C hnw hin hA w hl
  have hx := C.1
  have hb := C.2.1
  have w : zWq G A s.heap s.heap [] (zbw G α (zrz [61]) 59 1 (zsh 59).2.2 [] (fun _ => []) []) := w
  have hl : lv_has lsr 2 [(0, .ref (α 59)), (1, .int (Int32.ofInt 24))] := hl
  obtain ⟨h0, e0⟩ : ∃ h, α 59 = h := ⟨_, rfl⟩
  rw [e0] at hl
  refine lv_aload_n hx hb dX1_init_4 rfl (lv_at hl 0 rfl) ?_
  refine lv_bipush (v := Int32.ofInt (24)) hx hb dX1_init_5 (by decide) ?_
  refine zb_arr (t0 := 0) (j := 61) (N := 24) (kf := 2) (a0 := (24, .inl (fun _ => 0))) (ty := .int) C hin hA w e0 rfl rfl zarrI (fun U cA cB h1 h2 => Option.some.inj (h1.symm.trans h2)) (fun _ => rfl) (fun α' => zcl_z0 (by decide +kernel) (by simp [zrz, zSt0])) (by decide) (by decide +kernel) (by decide +kernel) (by decide +kernel) (by decide +kernel) (by decide) (fun _ => rfl) flRX1_9 (q := (RX1, TX1, 3)) rfl rfl rfl (ty2 := .array .int) (by decide +kernel) (fun _ => rfl) (fun _ => rfl) (by decide +kernel) (Nat.le_of_ble_eq_true rfl) (Nat.le_of_ble_eq_true rfl) dX1_init_7 dX1_init_9 (fun α1 H1 locs1 hα1 w e0 => ?_)
  refine lv_aload_n hx hb dX1_init_12 rfl (lv_at hl 0 rfl) ?_
  refine lv_iload_n hx hb dX1_init_13 rfl (lv_at hl 1 rfl) ?_
  refine zb_fin (v := .inr 24) (kf := 0) C hin w e0 flRX1_15 (q := (RX1, TX1, 3)) rfl rfl rfl (ty2 := .int) (by decide +kernel) rfl rfl (by decide +kernel) dX1_init_14 (fun H1 locs1 w => ?_)
  refine lv_aload_n hx hb dX1_init_17 rfl (lv_at hl 0 rfl) ?_
  refine lv_bipush (v := Int32.ofInt (24)) hx hb dX1_init_18 (by decide) ?_
  refine lv_iload_n hx hb dX1_init_20 rfl (lv_at hl 1 rfl) ?_
  refine lv_imul hx hb dX1_init_21 ?_
  refine zb_arr (t0 := 0) (j := 60) (N := 576) (kf := 1) (a0 := (576, .inl (fun _ => 0))) (ty := .int) C hin hA w e0 rfl rfl zarrI (fun U cA cB h1 h2 => Option.some.inj (h1.symm.trans h2)) (fun _ => rfl) (fun α' => zcl_z0 (by decide +kernel) (by simp [zrz, zSt0])) (by decide) (by decide +kernel) (by decide +kernel) (by decide +kernel) (by decide +kernel) (by decide) (fun _ => rfl) flRX1_19 (q := (RX1, TX1, 3)) rfl rfl rfl (ty2 := .array .int) (by decide +kernel) (fun _ => rfl) (fun _ => rfl) (by decide +kernel) (Nat.le_of_ble_eq_true rfl) (Nat.le_of_ble_eq_true rfl) dX1_init_22 dX1_init_24 (fun α2 H1 locs1 hα2 w e0 => ?_)
  refine lv_aload_n hx hb dX1_init_27 rfl (lv_at hl 0 rfl) ?_
  refine zb_get (kf := 2) (v := .inl 61) C w List.mem_cons_self e0 flRX1_9 (by decide +kernel) rfl dX1_init_28 ?_
  refine lv_iconst (v := Int32.ofInt (-1)) hx hb dX1_init_31 (by decide) ?_
  refine zb_fill (j := 61) (N := 24) (v := -1) C hA hl w (by decide +kernel) (by decide) (by decide) (by decide) lkRX1_22 ⟨by decide, by decide⟩ (Nat.le_of_ble_eq_true rfl) ⟨(Nat.le_of_ble_eq_true rfl), (Nat.le_of_ble_eq_true rfl)⟩ dX1_init_32 (fun H1 locs1 w => ?_)
  have hrow : ∀ i ∈ ([60, 61] : List Nat), (zfl (zrz [61]) 61 24 (-1)) i = zSt0 i := by
    intro i hi
    simp only [List.mem_cons, List.not_mem_nil, or_false] at hi
    rcases hi with rfl | rfl <;> (funext j; simp [zfl, zrz, zSt0, zrw0])
  exact zi_end (own := [60, 61]) C rfl w (by decide +kernel) (by decide +kernel) hrow (fun i hi => by rw [hα2 i (fun z => hi (by rw [z]; decide)), hα1 i (fun z => hi (by rw [z]; decide))]) ⟨(Nat.le_of_ble_eq_true rfl), (Nat.le_of_ble_eq_true rfl)⟩ dX1_init_35
set_option maxHeartbeats 4000000 in
set_option maxRecDepth 100000 in
theorem zi_X1_62 {G : zG} (hinj : zInj G) : zMi G MX1_init 2 600 62 1 (fun _ => [.int (Int32.ofInt 24)]) [63, 64] zSt0 := by
  refine zi_of (idx0 := 3) hinj rfl (by decide) rfl (fun _ => (Nat.le_of_ble_eq_true rfl)) dX1_init_0 dX1_init_1 (zin_2 (List.mem_of_getElem? (i := 27) (by decide +kernel))) (zin_1 (List.mem_of_getElem? (i := 24) (by decide +kernel))) (zin_1 (List.mem_of_getElem? (i := 25) rfl)) ⟨by decide, by decide⟩ ?_
  intro α p e s m args below meth c A lsr C hnw hin hA w hl
  have hx := C.1
  have hb := C.2.1
  have w : zWq G A s.heap s.heap [] (zbw G α (zrz [64]) 62 1 (zsh 62).2.2 [] (fun _ => []) []) := w
  have hl : lv_has lsr 2 [(0, .ref (α 62)), (1, .int (Int32.ofInt 24))] := hl
  obtain ⟨h0, e0⟩ : ∃ h, α 62 = h := ⟨_, rfl⟩
  rw [e0] at hl
  refine lv_aload_n hx hb dX1_init_4 rfl (lv_at hl 0 rfl) ?_
  refine lv_bipush (v := Int32.ofInt (24)) hx hb dX1_init_5 (by decide) ?_
  refine zb_arr (t0 := 0) (j := 64) (N := 24) (kf := 2) (a0 := (24, .inl (fun _ => 0))) (ty := .int) C hin hA w e0 rfl rfl zarrI (fun U cA cB h1 h2 => Option.some.inj (h1.symm.trans h2)) (fun _ => rfl) (fun α' => zcl_z0 (by decide +kernel) (by simp [zrz, zSt0])) (by decide) (by decide +kernel) (by decide +kernel) (by decide +kernel) (by decide +kernel) (by decide) (fun _ => rfl) flRX1_9 (q := (RX1, TX1, 3)) rfl rfl rfl (ty2 := .array .int) (by decide +kernel) (fun _ => rfl) (fun _ => rfl) (by decide +kernel) (Nat.le_of_ble_eq_true rfl) (Nat.le_of_ble_eq_true rfl) dX1_init_7 dX1_init_9 (fun α1 H1 locs1 hα1 w e0 => ?_)
  refine lv_aload_n hx hb dX1_init_12 rfl (lv_at hl 0 rfl) ?_
  refine lv_iload_n hx hb dX1_init_13 rfl (lv_at hl 1 rfl) ?_
  refine zb_fin (v := .inr 24) (kf := 0) C hin w e0 flRX1_15 (q := (RX1, TX1, 3)) rfl rfl rfl (ty2 := .int) (by decide +kernel) rfl rfl (by decide +kernel) dX1_init_14 (fun H1 locs1 w => ?_)
  refine lv_aload_n hx hb dX1_init_17 rfl (lv_at hl 0 rfl) ?_
  refine lv_bipush (v := Int32.ofInt (24)) hx hb dX1_init_18 (by decide) ?_
  refine lv_iload_n hx hb dX1_init_20 rfl (lv_at hl 1 rfl) ?_
  refine lv_imul hx hb dX1_init_21 ?_
  refine zb_arr (t0 := 0) (j := 63) (N := 576) (kf := 1) (a0 := (576, .inl (fun _ => 0))) (ty := .int) C hin hA w e0 rfl rfl zarrI (fun U cA cB h1 h2 => Option.some.inj (h1.symm.trans h2)) (fun _ => rfl) (fun α' => zcl_z0 (by decide +kernel) (by simp [zrz, zSt0])) (by decide) (by decide +kernel) (by decide +kernel) (by decide +kernel) (by decide +kernel) (by decide) (fun _ => rfl) flRX1_19 (q := (RX1, TX1, 3)) rfl rfl rfl (ty2 := .array .int) (by decide +kernel) (fun _ => rfl) (fun _ => rfl) (by decide +kernel) (Nat.le_of_ble_eq_true rfl) (Nat.le_of_ble_eq_true rfl) dX1_init_22 dX1_init_24 (fun α2 H1 locs1 hα2 w e0 => ?_)
  refine lv_aload_n hx hb dX1_init_27 rfl (lv_at hl 0 rfl) ?_
  refine zb_get (kf := 2) (v := .inl 64) C w List.mem_cons_self e0 flRX1_9 (by decide +kernel) rfl dX1_init_28 ?_
  refine lv_iconst (v := Int32.ofInt (-1)) hx hb dX1_init_31 (by decide) ?_
  refine zb_fill (j := 64) (N := 24) (v := -1) C hA hl w (by decide +kernel) (by decide) (by decide) (by decide) lkRX1_22 ⟨by decide, by decide⟩ (Nat.le_of_ble_eq_true rfl) ⟨(Nat.le_of_ble_eq_true rfl), (Nat.le_of_ble_eq_true rfl)⟩ dX1_init_32 (fun H1 locs1 w => ?_)
  have hrow : ∀ i ∈ ([63, 64] : List Nat), (zfl (zrz [64]) 64 24 (-1)) i = zSt0 i := by
    intro i hi
    simp only [List.mem_cons, List.not_mem_nil, or_false] at hi
    rcases hi with rfl | rfl <;> (funext j; simp [zfl, zrz, zSt0, zrw0])
  exact zi_end (own := [63, 64]) C rfl w (by decide +kernel) (by decide +kernel) hrow (fun i hi => by rw [hα2 i (fun z => hi (by rw [z]; decide)), hα1 i (fun z => hi (by rw [z]; decide))]) ⟨(Nat.le_of_ble_eq_true rfl), (Nat.le_of_ble_eq_true rfl)⟩ dX1_init_35
set_option maxHeartbeats 4000000 in
set_option maxRecDepth 100000 in
theorem zi_X1_91 {G : zG} (hinj : zInj G) : zMi G MX1_init 2 240 91 1 (fun _ => [.int (Int32.ofInt 9)]) [92, 93] zSt0 := by
  refine zi_of (idx0 := 3) hinj rfl (by decide) rfl (fun _ => (Nat.le_of_ble_eq_true rfl)) dX1_init_0 dX1_init_1 (zin_2 (List.mem_of_getElem? (i := 27) (by decide +kernel))) (zin_1 (List.mem_of_getElem? (i := 24) (by decide +kernel))) (zin_1 (List.mem_of_getElem? (i := 25) rfl)) ⟨by decide, by decide⟩ ?_
  intro α p e s m args below meth c A lsr C hnw hin hA w hl
  have hx := C.1
  have hb := C.2.1
  have w : zWq G A s.heap s.heap [] (zbw G α (zrz [93]) 91 1 (zsh 91).2.2 [] (fun _ => []) []) := w
  have hl : lv_has lsr 2 [(0, .ref (α 91)), (1, .int (Int32.ofInt 9))] := hl
  obtain ⟨h0, e0⟩ : ∃ h, α 91 = h := ⟨_, rfl⟩
  rw [e0] at hl
  refine lv_aload_n hx hb dX1_init_4 rfl (lv_at hl 0 rfl) ?_
  refine lv_bipush (v := Int32.ofInt (24)) hx hb dX1_init_5 (by decide) ?_
  refine zb_arr (t0 := 0) (j := 93) (N := 24) (kf := 2) (a0 := (24, .inl (fun _ => 0))) (ty := .int) C hin hA w e0 rfl rfl zarrI (fun U cA cB h1 h2 => Option.some.inj (h1.symm.trans h2)) (fun _ => rfl) (fun α' => zcl_z0 (by decide +kernel) (by simp [zrz, zSt0])) (by decide) (by decide +kernel) (by decide +kernel) (by decide +kernel) (by decide +kernel) (by decide) (fun _ => rfl) flRX1_9 (q := (RX1, TX1, 3)) rfl rfl rfl (ty2 := .array .int) (by decide +kernel) (fun _ => rfl) (fun _ => rfl) (by decide +kernel) (Nat.le_of_ble_eq_true rfl) (Nat.le_of_ble_eq_true rfl) dX1_init_7 dX1_init_9 (fun α1 H1 locs1 hα1 w e0 => ?_)
  refine lv_aload_n hx hb dX1_init_12 rfl (lv_at hl 0 rfl) ?_
  refine lv_iload_n hx hb dX1_init_13 rfl (lv_at hl 1 rfl) ?_
  refine zb_fin (v := .inr 9) (kf := 0) C hin w e0 flRX1_15 (q := (RX1, TX1, 3)) rfl rfl rfl (ty2 := .int) (by decide +kernel) rfl rfl (by decide +kernel) dX1_init_14 (fun H1 locs1 w => ?_)
  refine lv_aload_n hx hb dX1_init_17 rfl (lv_at hl 0 rfl) ?_
  refine lv_bipush (v := Int32.ofInt (24)) hx hb dX1_init_18 (by decide) ?_
  refine lv_iload_n hx hb dX1_init_20 rfl (lv_at hl 1 rfl) ?_
  refine lv_imul hx hb dX1_init_21 ?_
  refine zb_arr (t0 := 0) (j := 92) (N := 216) (kf := 1) (a0 := (216, .inl (fun _ => 0))) (ty := .int) C hin hA w e0 rfl rfl zarrI (fun U cA cB h1 h2 => Option.some.inj (h1.symm.trans h2)) (fun _ => rfl) (fun α' => zcl_z0 (by decide +kernel) (by simp [zrz, zSt0])) (by decide) (by decide +kernel) (by decide +kernel) (by decide +kernel) (by decide +kernel) (by decide) (fun _ => rfl) flRX1_19 (q := (RX1, TX1, 3)) rfl rfl rfl (ty2 := .array .int) (by decide +kernel) (fun _ => rfl) (fun _ => rfl) (by decide +kernel) (Nat.le_of_ble_eq_true rfl) (Nat.le_of_ble_eq_true rfl) dX1_init_22 dX1_init_24 (fun α2 H1 locs1 hα2 w e0 => ?_)
  refine lv_aload_n hx hb dX1_init_27 rfl (lv_at hl 0 rfl) ?_
  refine zb_get (kf := 2) (v := .inl 93) C w List.mem_cons_self e0 flRX1_9 (by decide +kernel) rfl dX1_init_28 ?_
  refine lv_iconst (v := Int32.ofInt (-1)) hx hb dX1_init_31 (by decide) ?_
  refine zb_fill (j := 93) (N := 24) (v := -1) C hA hl w (by decide +kernel) (by decide) (by decide) (by decide) lkRX1_22 ⟨by decide, by decide⟩ (Nat.le_of_ble_eq_true rfl) ⟨(Nat.le_of_ble_eq_true rfl), (Nat.le_of_ble_eq_true rfl)⟩ dX1_init_32 (fun H1 locs1 w => ?_)
  have hrow : ∀ i ∈ ([92, 93] : List Nat), (zfl (zrz [93]) 93 24 (-1)) i = zSt0 i := by
    intro i hi
    simp only [List.mem_cons, List.not_mem_nil, or_false] at hi
    rcases hi with rfl | rfl <;> (funext j; simp [zfl, zrz, zSt0, zrw0])
  exact zi_end (own := [92, 93]) C rfl w (by decide +kernel) (by decide +kernel) hrow (fun i hi => by rw [hα2 i (fun z => hi (by rw [z]; decide)), hα1 i (fun z => hi (by rw [z]; decide))]) ⟨(Nat.le_of_ble_eq_true rfl), (Nat.le_of_ble_eq_true rfl)⟩ dX1_init_35
theorem dX2_init_0 : decode cX2_init 0 = .ok (.aload_n 0, 1) := by decide +kernel
theorem dX2_init_1 : decode cX2_init 1 = .ok (.invokespecial 3, 3) := by decide +kernel
theorem dX2_init_4 : decode cX2_init 4 = .ok (.aload_n 0, 1) := by decide +kernel
theorem dX2_init_5 : decode cX2_init 5 = .ok (.new 9, 3) := by decide +kernel
theorem dX2_init_8 : decode cX2_init 8 = .ok (.dup, 1) := by decide +kernel
theorem dX2_init_9 : decode cX2_init 9 = .ok (.bipush 24, 2) := by decide +kernel
theorem dX2_init_11 : decode cX2_init 11 = .ok (.invokespecial 11, 3) := by decide +kernel
theorem dX2_init_14 : decode cX2_init 14 = .ok (.putfield 14, 3) := by decide +kernel
theorem dX2_init_17 : decode cX2_init 17 = .ok (.aload_n 0, 1) := by decide +kernel
theorem dX2_init_18 : decode cX2_init 18 = .ok (.sipush 576, 3) := by decide +kernel
theorem dX2_init_21 : decode cX2_init 21 = .ok (.newarray .int, 2) := by decide +kernel
theorem dX2_init_23 : decode cX2_init 23 = .ok (.putfield 20, 3) := by decide +kernel
theorem dX2_init_26 : decode cX2_init 26 = .ok (.aload_n 0, 1) := by decide +kernel
theorem dX2_init_27 : decode cX2_init 27 = .ok (.bipush 24, 2) := by decide +kernel
theorem dX2_init_29 : decode cX2_init 29 = .ok (.newarray .int, 2) := by decide +kernel
theorem dX2_init_31 : decode cX2_init 31 = .ok (.putfield 24, 3) := by decide +kernel
theorem dX2_init_34 : decode cX2_init 34 = .ok (.aload_n 0, 1) := by decide +kernel
theorem dX2_init_35 : decode cX2_init 35 = .ok (.iconst 0, 1) := by decide +kernel
theorem dX2_init_36 : decode cX2_init 36 = .ok (.putfield 27, 3) := by decide +kernel
theorem dX2_init_39 : decode cX2_init 39 = .ok (.aload_n 0, 1) := by decide +kernel
theorem dX2_init_40 : decode cX2_init 40 = .ok (.iconst 0, 1) := by decide +kernel
theorem dX2_init_41 : decode cX2_init 41 = .ok (.putfield 31, 3) := by decide +kernel
theorem dX2_init_44 : decode cX2_init 44 = .ok (.aload_n 0, 1) := by decide +kernel
theorem dX2_init_45 : decode cX2_init 45 = .ok (.iconst (-1), 1) := by decide +kernel
theorem dX2_init_46 : decode cX2_init 46 = .ok (.putfield 34, 3) := by decide +kernel
theorem dX2_init_49 : decode cX2_init 49 = .ok (.aload_n 0, 1) := by decide +kernel
theorem dX2_init_50 : decode cX2_init 50 = .ok (.iconst 0, 1) := by decide +kernel
theorem dX2_init_51 : decode cX2_init 51 = .ok (.putfield 37, 3) := by decide +kernel
theorem dX2_init_54 : decode cX2_init 54 = .ok (.aload_n 0, 1) := by decide +kernel
theorem dX2_init_55 : decode cX2_init 55 = .ok (.aload_n 1, 1) := by decide +kernel
theorem dX2_init_56 : decode cX2_init 56 = .ok (.putfield 40, 3) := by decide +kernel
theorem dX2_init_59 : decode cX2_init 59 = .ok (.aload_n 0, 1) := by decide +kernel
theorem dX2_init_60 : decode cX2_init 60 = .ok (.aload_n 2, 1) := by decide +kernel
theorem dX2_init_61 : decode cX2_init 61 = .ok (.putfield 44, 3) := by decide +kernel
theorem dX2_init_64 : decode cX2_init 64 = .ok (.aload_n 0, 1) := by decide +kernel
theorem dX2_init_65 : decode cX2_init 65 = .ok (.aload_n 3, 1) := by decide +kernel
theorem dX2_init_66 : decode cX2_init 66 = .ok (.putfield 48, 3) := by decide +kernel
theorem dX2_init_69 : decode cX2_init 69 = .ok (.aload_n 0, 1) := by decide +kernel
theorem dX2_init_70 : decode cX2_init 70 = .ok (.aload 4, 2) := by decide +kernel
theorem dX2_init_72 : decode cX2_init 72 = .ok (.putfield 52, 3) := by decide +kernel
theorem dX2_init_75 : decode cX2_init 75 = .ok (.return_, 1) := by decide +kernel
set_option maxHeartbeats 4000000 in
set_option maxRecDepth 100000 in
theorem zi_X2_65 {G : zG} (hinj : zInj G) : zMi G MX2_init 5 1203 65 2 (fun α => [.ref (α 22), .ref (α 52), .ref (α 47), .ref (α 59)]) [67, 66, 62, 63, 64] zSt0 := by
  refine zi_of (idx0 := 3) hinj rfl (by decide) rfl (fun _ => (Nat.le_of_ble_eq_true rfl)) dX2_init_0 dX2_init_1 (zin_2 (List.mem_of_getElem? (i := 44) (by decide +kernel))) (zin_1 (List.mem_of_getElem? (i := 24) (by decide +kernel))) (zin_1 (List.mem_of_getElem? (i := 25) rfl)) ⟨by decide, by decide⟩ ?_
  intro α p e s m args below meth c A lsr C hnw hin hA w hl
  have hx := C.1
  have hb := C.2.1
  have w : zWq G A s.heap s.heap [] (zbw G α zSt0 65 2 (zsh 65).2.2 [] (fun _ => []) []) := w
  have hl : lv_has lsr 5 [(0, .ref (α 65)), (1, .ref (α 22)), (2, .ref (α 52)), (3, .ref (α 47)), (4, .ref (α 59))] := hl
  obtain ⟨h0, e0⟩ : ∃ h, α 65 = h := ⟨_, rfl⟩
  rw [e0] at hl
  obtain ⟨h1, e1⟩ : ∃ h, α 22 = h := ⟨_, rfl⟩
  rw [e1] at hl
  obtain ⟨h2, e2⟩ : ∃ h, α 52 = h := ⟨_, rfl⟩
  rw [e2] at hl
  obtain ⟨h3, e3⟩ : ∃ h, α 47 = h := ⟨_, rfl⟩
  rw [e3] at hl
  obtain ⟨h4, e4⟩ : ∃ h, α 59 = h := ⟨_, rfl⟩
  rw [e4] at hl
  refine lv_aload_n hx hb dX2_init_4 rfl (lv_at hl 0 rfl) ?_
  refine zb_new (α := α) (j := 62) (cj := 1) (rsj := (zsh 62).2.2) (q := (RX1, TX1, 3)) (ty := tyX1) C hA w rfl tyX1_ok (fun k hk => by rcases (show k = 0 ∨ k = 1 ∨ k = 2 by simp only at hk; omega) with rfl | rfl | rfl <;> rfl) (zin_2 (List.mem_of_getElem? (i := 45) (by decide +kernel))) (zin_2 (List.mem_of_getElem? (i := 23) (by decide +kernel))) (zin_1 (List.mem_of_getElem? (i := 7) (by decide +kernel))) (Nat.le_of_ble_eq_true rfl) (Nat.le_of_ble_eq_true rfl) dX2_init_5 (fun α1 H1 hα1 w => ?_)
  rw [zbw_ap (α := α) (β := α1) (own := [62]) (by decide +kernel) (by decide +kernel) (by decide) rfl (fun i hi => hα1 i (fun z => hi (by rw [z]; exact List.mem_cons_self)))] at w
  have e0 : α1 65 = h0 := (hα1 65 (by decide)).trans e0
  have e1 : α1 22 = h1 := (hα1 22 (by decide)).trans e1
  have e2 : α1 52 = h2 := (hα1 52 (by decide)).trans e2
  have e3 : α1 47 = h3 := (hα1 47 (by decide)).trans e3
  have e4 : α1 59 = h4 := (hα1 59 (by decide)).trans e4
  refine lv_dup hx hb dX2_init_8 rfl ?_
  refine lv_bipush (v := Int32.ofInt (24)) hx hb dX2_init_9 (by decide) ?_
  refine zb_call (M' := MX1_init) (mc := 2) (ms := 600) (j := 62) (cj := 1) (n := 1) (as := (fun _ => [.int (Int32.ofInt 24)])) C hnw hA hl (zi_X1_62 C.2.2.2.2.2.2.2.2) (zin_1 (List.mem_of_getElem? (i := 7) (by decide +kernel))) (zin_2 (List.mem_of_getElem? (i := 26) rfl)) ⟨by decide, by decide, by decide +kernel⟩ (zin_2 (List.mem_of_getElem? (i := 46) (by decide +kernel))) rfl (zin_2 (List.mem_of_getElem? (i := 25) (by decide +kernel))) rfl ⟨by decide, by decide⟩ w rfl rfl (Nat.le_of_ble_eq_true rfl) ⟨(Nat.le_of_ble_eq_true rfl), (Nat.le_of_ble_eq_true rfl)⟩ dX2_init_11 (fun α2 H1 locs1 hα2 w => ?_)
  have ej : α2 62 = α1 62 := hα2 62 (by decide)
  rw [zbw_ap (α := α1) (β := α2) (own := [63, 64]) (by decide +kernel) (by decide +kernel) (by decide) rfl hα2] at w
  have w : zWq G A s.heap H1 locs1 (zbw G α2 zSt0 65 2 (zsh 65).2.2 [] (fun _ => []) [62, 63, 64]) := zWq_pm zbw_in w
  have e0 : α2 65 = h0 := (hα2 65 (by decide)).trans e0
  have e1 : α2 22 = h1 := (hα2 22 (by decide)).trans e1
  have e2 : α2 52 = h2 := (hα2 52 (by decide)).trans e2
  have e3 : α2 47 = h3 := (hα2 47 (by decide)).trans e3
  have e4 : α2 59 = h4 := (hα2 59 (by decide)).trans e4
  rw [← ej]
  refine zb_fin (v := .inl 62) (kf := 4) C hin w e0 flRX2_14 (q := (RX2, TX2, 11)) rfl rfl rfl (ty2 := .object "CollegeHouse$Choices") (by decide +kernel) rfl rfl (by decide +kernel) dX2_init_14 (fun H1 locs1 w => ?_)
  refine lv_aload_n hx hb dX2_init_17 rfl (lv_at hl 0 rfl) ?_
  refine lv_sipush (v := Int32.ofInt (576)) hx hb dX2_init_18 (by decide) ?_
  refine zb_arr (t0 := 0) (j := 66) (N := 576) (kf := 5) (a0 := (576, .inl (fun _ => 0))) (ty := .int) C hin hA w e0 rfl rfl zarrI (fun U cA cB h1 h2 => Option.some.inj (h1.symm.trans h2)) (fun _ => rfl) (fun α' => zcl_z0 (by decide +kernel) rfl) (by decide) (by decide +kernel) (by decide +kernel) (by decide +kernel) (by decide +kernel) (by decide) (fun _ => rfl) flRX2_20 (q := (RX2, TX2, 11)) rfl rfl rfl (ty2 := .array .int) (by decide +kernel) (fun _ => rfl) (fun _ => rfl) (by decide +kernel) (Nat.le_of_ble_eq_true rfl) (Nat.le_of_ble_eq_true rfl) dX2_init_21 dX2_init_23 (fun α3 H1 locs1 hα3 w e0 => ?_)
  have e1 : α3 22 = h1 := (hα3 22 (by decide)).trans e1
  have e2 : α3 52 = h2 := (hα3 52 (by decide)).trans e2
  have e3 : α3 47 = h3 := (hα3 47 (by decide)).trans e3
  have e4 : α3 59 = h4 := (hα3 59 (by decide)).trans e4
  refine lv_aload_n hx hb dX2_init_26 rfl (lv_at hl 0 rfl) ?_
  refine lv_bipush (v := Int32.ofInt (24)) hx hb dX2_init_27 (by decide) ?_
  refine zb_arr (t0 := 0) (j := 67) (N := 24) (kf := 6) (a0 := (24, .inl (fun _ => 0))) (ty := .int) C hin hA w e0 rfl rfl zarrI (fun U cA cB h1 h2 => Option.some.inj (h1.symm.trans h2)) (fun _ => rfl) (fun α' => zcl_z0 (by decide +kernel) rfl) (by decide) (by decide +kernel) (by decide +kernel) (by decide +kernel) (by decide +kernel) (by decide) (fun _ => rfl) flRX2_24 (q := (RX2, TX2, 11)) rfl rfl rfl (ty2 := .array .int) (by decide +kernel) (fun _ => rfl) (fun _ => rfl) (by decide +kernel) (Nat.le_of_ble_eq_true rfl) (Nat.le_of_ble_eq_true rfl) dX2_init_29 dX2_init_31 (fun α4 H1 locs1 hα4 w e0 => ?_)
  have e1 : α4 22 = h1 := (hα4 22 (by decide)).trans e1
  have e2 : α4 52 = h2 := (hα4 52 (by decide)).trans e2
  have e3 : α4 47 = h3 := (hα4 47 (by decide)).trans e3
  have e4 : α4 59 = h4 := (hα4 59 (by decide)).trans e4
  refine lv_aload_n hx hb dX2_init_34 rfl (lv_at hl 0 rfl) ?_
  refine lv_iconst (v := Int32.ofInt (0)) hx hb dX2_init_35 (by decide) ?_
  refine zb_put (kf := 7) (x := 0) C w e0 fpRX2_27 (by decide +kernel) dX2_init_36 (fun H1 locs1 w => ?_)
  refine lv_aload_n hx hb dX2_init_39 rfl (lv_at hl 0 rfl) ?_
  refine lv_iconst (v := Int32.ofInt (0)) hx hb dX2_init_40 (by decide) ?_
  refine zb_put (kf := 8) (x := 0) C w e0 fpRX2_31 (by decide +kernel) dX2_init_41 (fun H1 locs1 w => ?_)
  refine lv_aload_n hx hb dX2_init_44 rfl (lv_at hl 0 rfl) ?_
  refine lv_iconst (v := Int32.ofInt (-1)) hx hb dX2_init_45 (by decide) ?_
  refine zb_put (kf := 9) (x := -1) C w e0 fpRX2_34 (by decide +kernel) dX2_init_46 (fun H1 locs1 w => ?_)
  refine lv_aload_n hx hb dX2_init_49 rfl (lv_at hl 0 rfl) ?_
  refine lv_iconst (v := Int32.ofInt (0)) hx hb dX2_init_50 (by decide) ?_
  refine zb_put (kf := 10) (x := 0) C w e0 fpRX2_37 (by decide +kernel) dX2_init_51 (fun H1 locs1 w => ?_)
  refine lv_aload_n hx hb dX2_init_54 rfl (lv_at hl 0 rfl) ?_
  refine lv_aload_n hx hb dX2_init_55 rfl (lv_at hl 1 rfl) ?_
  rw [← e1]
  refine zb_fin (v := .inl 22) (kf := 0) C hin w e0 flRX2_40 (q := (RX2, TX2, 11)) rfl rfl rfl (ty2 := .object "CollegeHouse$People") (by decide +kernel) rfl rfl (by decide +kernel) dX2_init_56 (fun H1 locs1 w => ?_)
  refine lv_aload_n hx hb dX2_init_59 rfl (lv_at hl 0 rfl) ?_
  refine lv_aload_n hx hb dX2_init_60 rfl (lv_at hl 2 rfl) ?_
  rw [← e2]
  refine zb_fin (v := .inl 52) (kf := 1) C hin w e0 flRX2_44 (q := (RX2, TX2, 11)) rfl rfl rfl (ty2 := .object "CollegeHouse$Places") (by decide +kernel) rfl rfl (by decide +kernel) dX2_init_61 (fun H1 locs1 w => ?_)
  refine lv_aload_n hx hb dX2_init_64 rfl (lv_at hl 0 rfl) ?_
  refine lv_aload_n hx hb dX2_init_65 rfl (lv_at hl 3 rfl) ?_
  rw [← e3]
  refine zb_fin (v := .inl 47) (kf := 2) C hin w e0 flRX2_48 (q := (RX2, TX2, 11)) rfl rfl rfl (ty2 := .object "CollegeHouse$Law") (by decide +kernel) rfl rfl (by decide +kernel) dX2_init_66 (fun H1 locs1 w => ?_)
  refine lv_aload_n hx hb dX2_init_69 rfl (lv_at hl 0 rfl) ?_
  refine lv_aload hx hb dX2_init_70 (lv_at hl 4 rfl) ?_
  rw [← e4]
  refine zb_fin (v := .inl 59) (kf := 3) C hin w e0 flRX2_52 (q := (RX2, TX2, 11)) rfl rfl rfl (ty2 := .object "CollegeHouse$Choices") (by decide +kernel) rfl rfl (by decide +kernel) dX2_init_72 (fun H1 locs1 w => ?_)
  exact zi_end (own := [67, 66, 62, 63, 64]) C rfl w (by decide +kernel) (by decide +kernel) (fun _ _ => rfl) (fun i hi => by rw [hα4 i (fun z => hi (by rw [z]; decide)), hα3 i (fun z => hi (by rw [z]; decide)), hα2 i (fun z => hi (zsubm (by decide) z)), hα1 i (fun z => hi (by rw [z]; decide))]) ⟨(Nat.le_of_ble_eq_true rfl), (Nat.le_of_ble_eq_true rfl)⟩ dX2_init_75
theorem dX4_init_0 : decode cX4_init 0 = .ok (.aload_n 0, 1) := by decide +kernel
theorem dX4_init_1 : decode cX4_init 1 = .ok (.invokespecial 3, 3) := by decide +kernel
theorem dX4_init_4 : decode cX4_init 4 = .ok (.aload_n 0, 1) := by decide +kernel
theorem dX4_init_5 : decode cX4_init 5 = .ok (.bipush 8, 2) := by decide +kernel
theorem dX4_init_7 : decode cX4_init 7 = .ok (.newarray .int, 2) := by decide +kernel
theorem dX4_init_9 : decode cX4_init 9 = .ok (.putfield 11, 3) := by decide +kernel
theorem dX4_init_12 : decode cX4_init 12 = .ok (.aload_n 0, 1) := by decide +kernel
theorem dX4_init_13 : decode cX4_init 13 = .ok (.bipush 8, 2) := by decide +kernel
theorem dX4_init_15 : decode cX4_init 15 = .ok (.newarray .int, 2) := by decide +kernel
theorem dX4_init_17 : decode cX4_init 17 = .ok (.putfield 15, 3) := by decide +kernel
theorem dX4_init_20 : decode cX4_init 20 = .ok (.aload_n 0, 1) := by decide +kernel
theorem dX4_init_21 : decode cX4_init 21 = .ok (.bipush 8, 2) := by decide +kernel
theorem dX4_init_23 : decode cX4_init 23 = .ok (.newarray .int, 2) := by decide +kernel
theorem dX4_init_25 : decode cX4_init 25 = .ok (.putfield 18, 3) := by decide +kernel
theorem dX4_init_28 : decode cX4_init 28 = .ok (.aload_n 0, 1) := by decide +kernel
theorem dX4_init_29 : decode cX4_init 29 = .ok (.bipush 8, 2) := by decide +kernel
theorem dX4_init_31 : decode cX4_init 31 = .ok (.newarray .int, 2) := by decide +kernel
theorem dX4_init_33 : decode cX4_init 33 = .ok (.putfield 21, 3) := by decide +kernel
theorem dX4_init_36 : decode cX4_init 36 = .ok (.aload_n 0, 1) := by decide +kernel
theorem dX4_init_37 : decode cX4_init 37 = .ok (.bipush 8, 2) := by decide +kernel
theorem dX4_init_39 : decode cX4_init 39 = .ok (.newarray .int, 2) := by decide +kernel
theorem dX4_init_41 : decode cX4_init 41 = .ok (.putfield 24, 3) := by decide +kernel
theorem dX4_init_44 : decode cX4_init 44 = .ok (.aload_n 0, 1) := by decide +kernel
theorem dX4_init_45 : decode cX4_init 45 = .ok (.bipush 8, 2) := by decide +kernel
theorem dX4_init_47 : decode cX4_init 47 = .ok (.newarray .int, 2) := by decide +kernel
theorem dX4_init_49 : decode cX4_init 49 = .ok (.putfield 27, 3) := by decide +kernel
theorem dX4_init_52 : decode cX4_init 52 = .ok (.aload_n 0, 1) := by decide +kernel
theorem dX4_init_53 : decode cX4_init 53 = .ok (.bipush 8, 2) := by decide +kernel
theorem dX4_init_55 : decode cX4_init 55 = .ok (.newarray .int, 2) := by decide +kernel
theorem dX4_init_57 : decode cX4_init 57 = .ok (.putfield 30, 3) := by decide +kernel
theorem dX4_init_60 : decode cX4_init 60 = .ok (.aload_n 0, 1) := by decide +kernel
theorem dX4_init_61 : decode cX4_init 61 = .ok (.sipush 200, 3) := by decide +kernel
theorem dX4_init_64 : decode cX4_init 64 = .ok (.newarray .int, 2) := by decide +kernel
theorem dX4_init_66 : decode cX4_init 66 = .ok (.putfield 33, 3) := by decide +kernel
theorem dX4_init_69 : decode cX4_init 69 = .ok (.aload_n 0, 1) := by decide +kernel
theorem dX4_init_70 : decode cX4_init 70 = .ok (.sipush 200, 3) := by decide +kernel
theorem dX4_init_73 : decode cX4_init 73 = .ok (.newarray .int, 2) := by decide +kernel
theorem dX4_init_75 : decode cX4_init 75 = .ok (.putfield 36, 3) := by decide +kernel
theorem dX4_init_78 : decode cX4_init 78 = .ok (.aload_n 0, 1) := by decide +kernel
theorem dX4_init_79 : decode cX4_init 79 = .ok (.bipush 80, 2) := by decide +kernel
theorem dX4_init_81 : decode cX4_init 81 = .ok (.newarray .int, 2) := by decide +kernel
theorem dX4_init_83 : decode cX4_init 83 = .ok (.putfield 39, 3) := by decide +kernel
theorem dX4_init_86 : decode cX4_init 86 = .ok (.aload_n 0, 1) := by decide +kernel
theorem dX4_init_87 : decode cX4_init 87 = .ok (.iconst 0, 1) := by decide +kernel
theorem dX4_init_88 : decode cX4_init 88 = .ok (.putfield 42, 3) := by decide +kernel
theorem dX4_init_91 : decode cX4_init 91 = .ok (.aload_n 0, 1) := by decide +kernel
theorem dX4_init_92 : decode cX4_init 92 = .ok (.iconst 0, 1) := by decide +kernel
theorem dX4_init_93 : decode cX4_init 93 = .ok (.putfield 46, 3) := by decide +kernel
theorem dX4_init_96 : decode cX4_init 96 = .ok (.aload_n 0, 1) := by decide +kernel
theorem dX4_init_97 : decode cX4_init 97 = .ok (.iconst 0, 1) := by decide +kernel
theorem dX4_init_98 : decode cX4_init 98 = .ok (.putfield 49, 3) := by decide +kernel
theorem dX4_init_101 : decode cX4_init 101 = .ok (.aload_n 0, 1) := by decide +kernel
theorem dX4_init_102 : decode cX4_init 102 = .ok (.aload_n 1, 1) := by decide +kernel
theorem dX4_init_103 : decode cX4_init 103 = .ok (.putfield 52, 3) := by decide +kernel
theorem dX4_init_106 : decode cX4_init 106 = .ok (.return_, 1) := by decide +kernel
set_option maxHeartbeats 4000000 in
set_option maxRecDepth 100000 in
theorem zi_X4_68 {G : zG} (hinj : zInj G) : zMi G MX4_init 10 536 68 4 (fun α => [.ref (α 22)]) [78, 77, 76, 75, 74, 73, 72, 71, 70, 69] zSt0 := by
  refine zi_of (idx0 := 3) hinj rfl (by decide) rfl (fun _ => (Nat.le_of_ble_eq_true rfl)) dX4_init_0 dX4_init_1 (zin_2 (List.mem_of_getElem? (i := 87) (by decide +kernel))) (zin_1 (List.mem_of_getElem? (i := 24) (by decide +kernel))) (zin_1 (List.mem_of_getElem? (i := 25) rfl)) ⟨by decide, by decide⟩ ?_
  intro α p e s m args below meth c A lsr C hnw hin hA w hl
  have hx := C.1
  have hb := C.2.1
  have w : zWq G A s.heap s.heap [] (zbw G α zSt0 68 4 (zsh 68).2.2 [] (fun _ => []) []) := w
  have hl : lv_has lsr 2 [(0, .ref (α 68)), (1, .ref (α 22))] := hl
  obtain ⟨h0, e0⟩ : ∃ h, α 68 = h := ⟨_, rfl⟩
  rw [e0] at hl
  obtain ⟨h1, e1⟩ : ∃ h, α 22 = h := ⟨_, rfl⟩
  rw [e1] at hl
  refine lv_aload_n hx hb dX4_init_4 rfl (lv_at hl 0 rfl) ?_
  refine lv_bipush (v := Int32.ofInt (8)) hx hb dX4_init_5 (by decide) ?_
  refine zb_arr (t0 := 0) (j := 69) (N := 8) (kf := 1) (a0 := (8, .inl (fun _ => 0))) (ty := .int) C hin hA w e0 rfl rfl zarrI (fun U cA cB h1 h2 => Option.some.inj (h1.symm.trans h2)) (fun _ => rfl) (fun α' => zcl_z0 (by decide +kernel) rfl) (by decide) (by decide +kernel) (by decide +kernel) (by decide +kernel) (by decide +kernel) (by decide) (fun _ => rfl) flRX4_11 (q := (RX4, TX4, 14)) rfl rfl rfl (ty2 := .array .int) (by decide +kernel) (fun _ => rfl) (fun _ => rfl) (by decide +kernel) (Nat.le_of_ble_eq_true rfl) (Nat.le_of_ble_eq_true rfl) dX4_init_7 dX4_init_9 (fun α1 H1 locs1 hα1 w e0 => ?_)
  have e1 : α1 22 = h1 := (hα1 22 (by decide)).trans e1
  refine lv_aload_n hx hb dX4_init_12 rfl (lv_at hl 0 rfl) ?_
  refine lv_bipush (v := Int32.ofInt (8)) hx hb dX4_init_13 (by decide) ?_
  refine zb_arr (t0 := 0) (j := 70) (N := 8) (kf := 2) (a0 := (8, .inl (fun _ => 0))) (ty := .int) C hin hA w e0 rfl rfl zarrI (fun U cA cB h1 h2 => Option.some.inj (h1.symm.trans h2)) (fun _ => rfl) (fun α' => zcl_z0 (by decide +kernel) rfl) (by decide) (by decide +kernel) (by decide +kernel) (by decide +kernel) (by decide +kernel) (by decide) (fun _ => rfl) flRX4_15 (q := (RX4, TX4, 14)) rfl rfl rfl (ty2 := .array .int) (by decide +kernel) (fun _ => rfl) (fun _ => rfl) (by decide +kernel) (Nat.le_of_ble_eq_true rfl) (Nat.le_of_ble_eq_true rfl) dX4_init_15 dX4_init_17 (fun α2 H1 locs1 hα2 w e0 => ?_)
  have e1 : α2 22 = h1 := (hα2 22 (by decide)).trans e1
  refine lv_aload_n hx hb dX4_init_20 rfl (lv_at hl 0 rfl) ?_
  refine lv_bipush (v := Int32.ofInt (8)) hx hb dX4_init_21 (by decide) ?_
  refine zb_arr (t0 := 0) (j := 71) (N := 8) (kf := 3) (a0 := (8, .inl (fun _ => 0))) (ty := .int) C hin hA w e0 rfl rfl zarrI (fun U cA cB h1 h2 => Option.some.inj (h1.symm.trans h2)) (fun _ => rfl) (fun α' => zcl_z0 (by decide +kernel) rfl) (by decide) (by decide +kernel) (by decide +kernel) (by decide +kernel) (by decide +kernel) (by decide) (fun _ => rfl) flRX4_18 (q := (RX4, TX4, 14)) rfl rfl rfl (ty2 := .array .int) (by decide +kernel) (fun _ => rfl) (fun _ => rfl) (by decide +kernel) (Nat.le_of_ble_eq_true rfl) (Nat.le_of_ble_eq_true rfl) dX4_init_23 dX4_init_25 (fun α3 H1 locs1 hα3 w e0 => ?_)
  have e1 : α3 22 = h1 := (hα3 22 (by decide)).trans e1
  refine lv_aload_n hx hb dX4_init_28 rfl (lv_at hl 0 rfl) ?_
  refine lv_bipush (v := Int32.ofInt (8)) hx hb dX4_init_29 (by decide) ?_
  refine zb_arr (t0 := 0) (j := 72) (N := 8) (kf := 4) (a0 := (8, .inl (fun _ => 0))) (ty := .int) C hin hA w e0 rfl rfl zarrI (fun U cA cB h1 h2 => Option.some.inj (h1.symm.trans h2)) (fun _ => rfl) (fun α' => zcl_z0 (by decide +kernel) rfl) (by decide) (by decide +kernel) (by decide +kernel) (by decide +kernel) (by decide +kernel) (by decide) (fun _ => rfl) flRX4_21 (q := (RX4, TX4, 14)) rfl rfl rfl (ty2 := .array .int) (by decide +kernel) (fun _ => rfl) (fun _ => rfl) (by decide +kernel) (Nat.le_of_ble_eq_true rfl) (Nat.le_of_ble_eq_true rfl) dX4_init_31 dX4_init_33 (fun α4 H1 locs1 hα4 w e0 => ?_)
  have e1 : α4 22 = h1 := (hα4 22 (by decide)).trans e1
  refine lv_aload_n hx hb dX4_init_36 rfl (lv_at hl 0 rfl) ?_
  refine lv_bipush (v := Int32.ofInt (8)) hx hb dX4_init_37 (by decide) ?_
  refine zb_arr (t0 := 0) (j := 73) (N := 8) (kf := 5) (a0 := (8, .inl (fun _ => 0))) (ty := .int) C hin hA w e0 rfl rfl zarrI (fun U cA cB h1 h2 => Option.some.inj (h1.symm.trans h2)) (fun _ => rfl) (fun α' => zcl_z0 (by decide +kernel) rfl) (by decide) (by decide +kernel) (by decide +kernel) (by decide +kernel) (by decide +kernel) (by decide) (fun _ => rfl) flRX4_24 (q := (RX4, TX4, 14)) rfl rfl rfl (ty2 := .array .int) (by decide +kernel) (fun _ => rfl) (fun _ => rfl) (by decide +kernel) (Nat.le_of_ble_eq_true rfl) (Nat.le_of_ble_eq_true rfl) dX4_init_39 dX4_init_41 (fun α5 H1 locs1 hα5 w e0 => ?_)
  have e1 : α5 22 = h1 := (hα5 22 (by decide)).trans e1
  refine lv_aload_n hx hb dX4_init_44 rfl (lv_at hl 0 rfl) ?_
  refine lv_bipush (v := Int32.ofInt (8)) hx hb dX4_init_45 (by decide) ?_
  refine zb_arr (t0 := 0) (j := 74) (N := 8) (kf := 6) (a0 := (8, .inl (fun _ => 0))) (ty := .int) C hin hA w e0 rfl rfl zarrI (fun U cA cB h1 h2 => Option.some.inj (h1.symm.trans h2)) (fun _ => rfl) (fun α' => zcl_z0 (by decide +kernel) rfl) (by decide) (by decide +kernel) (by decide +kernel) (by decide +kernel) (by decide +kernel) (by decide) (fun _ => rfl) flRX4_27 (q := (RX4, TX4, 14)) rfl rfl rfl (ty2 := .array .int) (by decide +kernel) (fun _ => rfl) (fun _ => rfl) (by decide +kernel) (Nat.le_of_ble_eq_true rfl) (Nat.le_of_ble_eq_true rfl) dX4_init_47 dX4_init_49 (fun α6 H1 locs1 hα6 w e0 => ?_)
  have e1 : α6 22 = h1 := (hα6 22 (by decide)).trans e1
  refine lv_aload_n hx hb dX4_init_52 rfl (lv_at hl 0 rfl) ?_
  refine lv_bipush (v := Int32.ofInt (8)) hx hb dX4_init_53 (by decide) ?_
  refine zb_arr (t0 := 0) (j := 75) (N := 8) (kf := 7) (a0 := (8, .inl (fun _ => 0))) (ty := .int) C hin hA w e0 rfl rfl zarrI (fun U cA cB h1 h2 => Option.some.inj (h1.symm.trans h2)) (fun _ => rfl) (fun α' => zcl_z0 (by decide +kernel) rfl) (by decide) (by decide +kernel) (by decide +kernel) (by decide +kernel) (by decide +kernel) (by decide) (fun _ => rfl) flRX4_30 (q := (RX4, TX4, 14)) rfl rfl rfl (ty2 := .array .int) (by decide +kernel) (fun _ => rfl) (fun _ => rfl) (by decide +kernel) (Nat.le_of_ble_eq_true rfl) (Nat.le_of_ble_eq_true rfl) dX4_init_55 dX4_init_57 (fun α7 H1 locs1 hα7 w e0 => ?_)
  have e1 : α7 22 = h1 := (hα7 22 (by decide)).trans e1
  refine lv_aload_n hx hb dX4_init_60 rfl (lv_at hl 0 rfl) ?_
  refine lv_sipush (v := Int32.ofInt (200)) hx hb dX4_init_61 (by decide) ?_
  refine zb_arr (t0 := 0) (j := 76) (N := 200) (kf := 8) (a0 := (200, .inl (fun _ => 0))) (ty := .int) C hin hA w e0 rfl rfl zarrI (fun U cA cB h1 h2 => Option.some.inj (h1.symm.trans h2)) (fun _ => rfl) (fun α' => zcl_z0 (by decide +kernel) rfl) (by decide) (by decide +kernel) (by decide +kernel) (by decide +kernel) (by decide +kernel) (by decide) (fun _ => rfl) flRX4_33 (q := (RX4, TX4, 14)) rfl rfl rfl (ty2 := .array .int) (by decide +kernel) (fun _ => rfl) (fun _ => rfl) (by decide +kernel) (Nat.le_of_ble_eq_true rfl) (Nat.le_of_ble_eq_true rfl) dX4_init_64 dX4_init_66 (fun α8 H1 locs1 hα8 w e0 => ?_)
  have e1 : α8 22 = h1 := (hα8 22 (by decide)).trans e1
  refine lv_aload_n hx hb dX4_init_69 rfl (lv_at hl 0 rfl) ?_
  refine lv_sipush (v := Int32.ofInt (200)) hx hb dX4_init_70 (by decide) ?_
  refine zb_arr (t0 := 0) (j := 77) (N := 200) (kf := 9) (a0 := (200, .inl (fun _ => 0))) (ty := .int) C hin hA w e0 rfl rfl zarrI (fun U cA cB h1 h2 => Option.some.inj (h1.symm.trans h2)) (fun _ => rfl) (fun α' => zcl_z0 (by decide +kernel) rfl) (by decide) (by decide +kernel) (by decide +kernel) (by decide +kernel) (by decide +kernel) (by decide) (fun _ => rfl) flRX4_36 (q := (RX4, TX4, 14)) rfl rfl rfl (ty2 := .array .int) (by decide +kernel) (fun _ => rfl) (fun _ => rfl) (by decide +kernel) (Nat.le_of_ble_eq_true rfl) (Nat.le_of_ble_eq_true rfl) dX4_init_73 dX4_init_75 (fun α9 H1 locs1 hα9 w e0 => ?_)
  have e1 : α9 22 = h1 := (hα9 22 (by decide)).trans e1
  refine lv_aload_n hx hb dX4_init_78 rfl (lv_at hl 0 rfl) ?_
  refine lv_bipush (v := Int32.ofInt (80)) hx hb dX4_init_79 (by decide) ?_
  refine zb_arr (t0 := 0) (j := 78) (N := 80) (kf := 10) (a0 := (80, .inl (fun _ => 0))) (ty := .int) C hin hA w e0 rfl rfl zarrI (fun U cA cB h1 h2 => Option.some.inj (h1.symm.trans h2)) (fun _ => rfl) (fun α' => zcl_z0 (by decide +kernel) rfl) (by decide) (by decide +kernel) (by decide +kernel) (by decide +kernel) (by decide +kernel) (by decide) (fun _ => rfl) flRX4_39 (q := (RX4, TX4, 14)) rfl rfl rfl (ty2 := .array .int) (by decide +kernel) (fun _ => rfl) (fun _ => rfl) (by decide +kernel) (Nat.le_of_ble_eq_true rfl) (Nat.le_of_ble_eq_true rfl) dX4_init_81 dX4_init_83 (fun α10 H1 locs1 hα10 w e0 => ?_)
  have e1 : α10 22 = h1 := (hα10 22 (by decide)).trans e1
  refine lv_aload_n hx hb dX4_init_86 rfl (lv_at hl 0 rfl) ?_
  refine lv_iconst (v := Int32.ofInt (0)) hx hb dX4_init_87 (by decide) ?_
  refine zb_put (kf := 11) (x := 0) C w e0 fpRX4_42 (by decide +kernel) dX4_init_88 (fun H1 locs1 w => ?_)
  refine lv_aload_n hx hb dX4_init_91 rfl (lv_at hl 0 rfl) ?_
  refine lv_iconst (v := Int32.ofInt (0)) hx hb dX4_init_92 (by decide) ?_
  refine zb_put (kf := 12) (x := 0) C w e0 fpRX4_46 (by decide +kernel) dX4_init_93 (fun H1 locs1 w => ?_)
  refine lv_aload_n hx hb dX4_init_96 rfl (lv_at hl 0 rfl) ?_
  refine lv_iconst (v := Int32.ofInt (0)) hx hb dX4_init_97 (by decide) ?_
  refine zb_put (kf := 13) (x := 0) C w e0 fpRX4_49 (by decide +kernel) dX4_init_98 (fun H1 locs1 w => ?_)
  refine lv_aload_n hx hb dX4_init_101 rfl (lv_at hl 0 rfl) ?_
  refine lv_aload_n hx hb dX4_init_102 rfl (lv_at hl 1 rfl) ?_
  rw [← e1]
  refine zb_fin (v := .inl 22) (kf := 0) C hin w e0 flRX4_52 (q := (RX4, TX4, 14)) rfl rfl rfl (ty2 := .object "CollegeHouse$People") (by decide +kernel) rfl rfl (by decide +kernel) dX4_init_103 (fun H1 locs1 w => ?_)
  exact zi_end (own := [78, 77, 76, 75, 74, 73, 72, 71, 70, 69]) C rfl w (by decide +kernel) (by decide +kernel) (fun _ _ => rfl) (fun i hi => by rw [hα10 i (fun z => hi (by rw [z]; decide)), hα9 i (fun z => hi (by rw [z]; decide)), hα8 i (fun z => hi (by rw [z]; decide)), hα7 i (fun z => hi (by rw [z]; decide)), hα6 i (fun z => hi (by rw [z]; decide)), hα5 i (fun z => hi (by rw [z]; decide)), hα4 i (fun z => hi (by rw [z]; decide)), hα3 i (fun z => hi (by rw [z]; decide)), hα2 i (fun z => hi (by rw [z]; decide)), hα1 i (fun z => hi (by rw [z]; decide))]) ⟨(Nat.le_of_ble_eq_true rfl), (Nat.le_of_ble_eq_true rfl)⟩ dX4_init_106
theorem dX0_init_0 : decode cX0_init 0 = .ok (.aload_n 0, 1) := by decide +kernel
theorem dX0_init_1 : decode cX0_init 1 = .ok (.invokespecial 3, 3) := by decide +kernel
theorem dX0_init_4 : decode cX0_init 4 = .ok (.aload_n 0, 1) := by decide +kernel
theorem dX0_init_5 : decode cX0_init 5 = .ok (.sipush 440, 3) := by decide +kernel
theorem dX0_init_8 : decode cX0_init 8 = .ok (.newarray .int, 2) := by decide +kernel
theorem dX0_init_10 : decode cX0_init 10 = .ok (.putfield 9, 3) := by decide +kernel
theorem dX0_init_13 : decode cX0_init 13 = .ok (.aload_n 0, 1) := by decide +kernel
theorem dX0_init_14 : decode cX0_init 14 = .ok (.bipush 24, 2) := by decide +kernel
theorem dX0_init_16 : decode cX0_init 16 = .ok (.newarray .int, 2) := by decide +kernel
theorem dX0_init_18 : decode cX0_init 18 = .ok (.putfield 15, 3) := by decide +kernel
theorem dX0_init_21 : decode cX0_init 21 = .ok (.aload_n 0, 1) := by decide +kernel
theorem dX0_init_22 : decode cX0_init 22 = .ok (.bipush 24, 2) := by decide +kernel
theorem dX0_init_24 : decode cX0_init 24 = .ok (.newarray .int, 2) := by decide +kernel
theorem dX0_init_26 : decode cX0_init 26 = .ok (.putfield 18, 3) := by decide +kernel
theorem dX0_init_29 : decode cX0_init 29 = .ok (.aload_n 0, 1) := by decide +kernel
theorem dX0_init_30 : decode cX0_init 30 = .ok (.iconst 0, 1) := by decide +kernel
theorem dX0_init_31 : decode cX0_init 31 = .ok (.putfield 21, 3) := by decide +kernel
theorem dX0_init_34 : decode cX0_init 34 = .ok (.aload_n 0, 1) := by decide +kernel
theorem dX0_init_35 : decode cX0_init 35 = .ok (.iconst 0, 1) := by decide +kernel
theorem dX0_init_36 : decode cX0_init 36 = .ok (.putfield 25, 3) := by decide +kernel
theorem dX0_init_39 : decode cX0_init 39 = .ok (.aload_n 0, 1) := by decide +kernel
theorem dX0_init_40 : decode cX0_init 40 = .ok (.iconst (-1), 1) := by decide +kernel
theorem dX0_init_41 : decode cX0_init 41 = .ok (.putfield 28, 3) := by decide +kernel
theorem dX0_init_44 : decode cX0_init 44 = .ok (.aload_n 0, 1) := by decide +kernel
theorem dX0_init_45 : decode cX0_init 45 = .ok (.iconst (-1), 1) := by decide +kernel
theorem dX0_init_46 : decode cX0_init 46 = .ok (.putfield 31, 3) := by decide +kernel
theorem dX0_init_49 : decode cX0_init 49 = .ok (.aload_n 0, 1) := by decide +kernel
theorem dX0_init_50 : decode cX0_init 50 = .ok (.iconst 0, 1) := by decide +kernel
theorem dX0_init_51 : decode cX0_init 51 = .ok (.putfield 34, 3) := by decide +kernel
theorem dX0_init_54 : decode cX0_init 54 = .ok (.return_, 1) := by decide +kernel
set_option maxHeartbeats 4000000 in
set_option maxRecDepth 100000 in
theorem zi_X0_79 {G : zG} (hinj : zInj G) : zMi G MX0_init 3 488 79 0 (fun _ => []) [82, 81, 80] zSt0 := by
  refine zi_of (idx0 := 3) hinj rfl (by decide) rfl (fun _ => (Nat.le_of_ble_eq_true rfl)) dX0_init_0 dX0_init_1 (zin_2 (List.mem_of_getElem? (i := 145) (by decide +kernel))) (zin_1 (List.mem_of_getElem? (i := 24) (by decide +kernel))) (zin_1 (List.mem_of_getElem? (i := 25) rfl)) ⟨by decide, by decide⟩ ?_
  intro α p e s m args below meth c A lsr C hnw hin hA w hl
  have hx := C.1
  have hb := C.2.1
  have w : zWq G A s.heap s.heap [] (zbw G α zSt0 79 0 (zsh 79).2.2 [] (fun _ => []) []) := w
  have hl : lv_has lsr 1 [(0, .ref (α 79))] := hl
  obtain ⟨h0, e0⟩ : ∃ h, α 79 = h := ⟨_, rfl⟩
  rw [e0] at hl
  refine lv_aload_n hx hb dX0_init_4 rfl (lv_at hl 0 rfl) ?_
  refine lv_sipush (v := Int32.ofInt (440)) hx hb dX0_init_5 (by decide) ?_
  refine zb_arr (t0 := 0) (j := 80) (N := 440) (kf := 0) (a0 := (440, .inl (fun _ => 0))) (ty := .int) C hin hA w e0 rfl rfl zarrI (fun U cA cB h1 h2 => Option.some.inj (h1.symm.trans h2)) (fun _ => rfl) (fun α' => zcl_z0 (by decide +kernel) rfl) (by decide) (by decide +kernel) (by decide +kernel) (by decide +kernel) (by decide +kernel) (by decide) (fun _ => rfl) flRX0_9 (q := (RX0, TX0, 8)) rfl rfl rfl (ty2 := .array .int) (by decide +kernel) (fun _ => rfl) (fun _ => rfl) (by decide +kernel) (Nat.le_of_ble_eq_true rfl) (Nat.le_of_ble_eq_true rfl) dX0_init_8 dX0_init_10 (fun α1 H1 locs1 hα1 w e0 => ?_)
  refine lv_aload_n hx hb dX0_init_13 rfl (lv_at hl 0 rfl) ?_
  refine lv_bipush (v := Int32.ofInt (24)) hx hb dX0_init_14 (by decide) ?_
  refine zb_arr (t0 := 0) (j := 81) (N := 24) (kf := 1) (a0 := (24, .inl (fun _ => 0))) (ty := .int) C hin hA w e0 rfl rfl zarrI (fun U cA cB h1 h2 => Option.some.inj (h1.symm.trans h2)) (fun _ => rfl) (fun α' => zcl_z0 (by decide +kernel) rfl) (by decide) (by decide +kernel) (by decide +kernel) (by decide +kernel) (by decide +kernel) (by decide) (fun _ => rfl) flRX0_15 (q := (RX0, TX0, 8)) rfl rfl rfl (ty2 := .array .int) (by decide +kernel) (fun _ => rfl) (fun _ => rfl) (by decide +kernel) (Nat.le_of_ble_eq_true rfl) (Nat.le_of_ble_eq_true rfl) dX0_init_16 dX0_init_18 (fun α2 H1 locs1 hα2 w e0 => ?_)
  refine lv_aload_n hx hb dX0_init_21 rfl (lv_at hl 0 rfl) ?_
  refine lv_bipush (v := Int32.ofInt (24)) hx hb dX0_init_22 (by decide) ?_
  refine zb_arr (t0 := 0) (j := 82) (N := 24) (kf := 2) (a0 := (24, .inl (fun _ => 0))) (ty := .int) C hin hA w e0 rfl rfl zarrI (fun U cA cB h1 h2 => Option.some.inj (h1.symm.trans h2)) (fun _ => rfl) (fun α' => zcl_z0 (by decide +kernel) rfl) (by decide) (by decide +kernel) (by decide +kernel) (by decide +kernel) (by decide +kernel) (by decide) (fun _ => rfl) flRX0_18 (q := (RX0, TX0, 8)) rfl rfl rfl (ty2 := .array .int) (by decide +kernel) (fun _ => rfl) (fun _ => rfl) (by decide +kernel) (Nat.le_of_ble_eq_true rfl) (Nat.le_of_ble_eq_true rfl) dX0_init_24 dX0_init_26 (fun α3 H1 locs1 hα3 w e0 => ?_)
  refine lv_aload_n hx hb dX0_init_29 rfl (lv_at hl 0 rfl) ?_
  refine lv_iconst (v := Int32.ofInt (0)) hx hb dX0_init_30 (by decide) ?_
  refine zb_put (kf := 3) (x := 0) C w e0 fpRX0_21 (by decide +kernel) dX0_init_31 (fun H1 locs1 w => ?_)
  refine lv_aload_n hx hb dX0_init_34 rfl (lv_at hl 0 rfl) ?_
  refine lv_iconst (v := Int32.ofInt (0)) hx hb dX0_init_35 (by decide) ?_
  refine zb_put (kf := 4) (x := 0) C w e0 fpRX0_25 (by decide +kernel) dX0_init_36 (fun H1 locs1 w => ?_)
  refine lv_aload_n hx hb dX0_init_39 rfl (lv_at hl 0 rfl) ?_
  refine lv_iconst (v := Int32.ofInt (-1)) hx hb dX0_init_40 (by decide) ?_
  refine zb_put (kf := 5) (x := -1) C w e0 fpRX0_28 (by decide +kernel) dX0_init_41 (fun H1 locs1 w => ?_)
  refine lv_aload_n hx hb dX0_init_44 rfl (lv_at hl 0 rfl) ?_
  refine lv_iconst (v := Int32.ofInt (-1)) hx hb dX0_init_45 (by decide) ?_
  refine zb_put (kf := 6) (x := -1) C w e0 fpRX0_31 (by decide +kernel) dX0_init_46 (fun H1 locs1 w => ?_)
  refine lv_aload_n hx hb dX0_init_49 rfl (lv_at hl 0 rfl) ?_
  refine lv_iconst (v := Int32.ofInt (0)) hx hb dX0_init_50 (by decide) ?_
  refine zb_put (kf := 7) (x := 0) C w e0 fpRX0_34 (by decide +kernel) dX0_init_51 (fun H1 locs1 w => ?_)
  exact zi_end (own := [82, 81, 80]) C rfl w (by decide +kernel) (by decide +kernel) (fun _ _ => rfl) (fun i hi => by rw [hα3 i (fun z => hi (by rw [z]; decide)), hα2 i (fun z => hi (by rw [z]; decide)), hα1 i (fun z => hi (by rw [z]; decide))]) ⟨(Nat.le_of_ble_eq_true rfl), (Nat.le_of_ble_eq_true rfl)⟩ dX0_init_54
theorem dX7_init_0 : decode cX7_init 0 = .ok (.aload_n 0, 1) := by decide +kernel
theorem dX7_init_1 : decode cX7_init 1 = .ok (.invokespecial 3, 3) := by decide +kernel
theorem dX7_init_4 : decode cX7_init 4 = .ok (.aload_n 0, 1) := by decide +kernel
theorem dX7_init_5 : decode cX7_init 5 = .ok (.iconst 2, 1) := by decide +kernel
theorem dX7_init_6 : decode cX7_init 6 = .ok (.newarray .int, 2) := by decide +kernel
theorem dX7_init_8 : decode cX7_init 8 = .ok (.putfield 11, 3) := by decide +kernel
theorem dX7_init_11 : decode cX7_init 11 = .ok (.aload_n 0, 1) := by decide +kernel
theorem dX7_init_12 : decode cX7_init 12 = .ok (.iconst 2, 1) := by decide +kernel
theorem dX7_init_13 : decode cX7_init 13 = .ok (.newarray .int, 2) := by decide +kernel
theorem dX7_init_15 : decode cX7_init 15 = .ok (.putfield 15, 3) := by decide +kernel
theorem dX7_init_18 : decode cX7_init 18 = .ok (.aload_n 0, 1) := by decide +kernel
theorem dX7_init_19 : decode cX7_init 19 = .ok (.bipush 10, 2) := by decide +kernel
theorem dX7_init_21 : decode cX7_init 21 = .ok (.newarray .int, 2) := by decide +kernel
theorem dX7_init_23 : decode cX7_init 23 = .ok (.putfield 18, 3) := by decide +kernel
theorem dX7_init_26 : decode cX7_init 26 = .ok (.aload_n 0, 1) := by decide +kernel
theorem dX7_init_27 : decode cX7_init 27 = .ok (.bipush 80, 2) := by decide +kernel
theorem dX7_init_29 : decode cX7_init 29 = .ok (.newarray .int, 2) := by decide +kernel
theorem dX7_init_31 : decode cX7_init 31 = .ok (.putfield 23, 3) := by decide +kernel
theorem dX7_init_34 : decode cX7_init 34 = .ok (.aload_n 0, 1) := by decide +kernel
theorem dX7_init_35 : decode cX7_init 35 = .ok (.bipush 10, 2) := by decide +kernel
theorem dX7_init_37 : decode cX7_init 37 = .ok (.newarray .int, 2) := by decide +kernel
theorem dX7_init_39 : decode cX7_init 39 = .ok (.putfield 26, 3) := by decide +kernel
theorem dX7_init_42 : decode cX7_init 42 = .ok (.aload_n 0, 1) := by decide +kernel
theorem dX7_init_43 : decode cX7_init 43 = .ok (.bipush 11, 2) := by decide +kernel
theorem dX7_init_45 : decode cX7_init 45 = .ok (.newarray .int, 2) := by decide +kernel
theorem dX7_init_47 : decode cX7_init 47 = .ok (.putfield 29, 3) := by decide +kernel
theorem dX7_init_50 : decode cX7_init 50 = .ok (.aload_n 0, 1) := by decide +kernel
theorem dX7_init_51 : decode cX7_init 51 = .ok (.iconst 3, 1) := by decide +kernel
theorem dX7_init_52 : decode cX7_init 52 = .ok (.newarray .int, 2) := by decide +kernel
theorem dX7_init_54 : decode cX7_init 54 = .ok (.putfield 32, 3) := by decide +kernel
theorem dX7_init_57 : decode cX7_init 57 = .ok (.aload_n 0, 1) := by decide +kernel
theorem dX7_init_58 : decode cX7_init 58 = .ok (.iconst 0, 1) := by decide +kernel
theorem dX7_init_59 : decode cX7_init 59 = .ok (.putfield 35, 3) := by decide +kernel
theorem dX7_init_62 : decode cX7_init 62 = .ok (.aload_n 0, 1) := by decide +kernel
theorem dX7_init_63 : decode cX7_init 63 = .ok (.iconst 1, 1) := by decide +kernel
theorem dX7_init_64 : decode cX7_init 64 = .ok (.putfield 39, 3) := by decide +kernel
theorem dX7_init_67 : decode cX7_init 67 = .ok (.aload_n 0, 1) := by decide +kernel
theorem dX7_init_68 : decode cX7_init 68 = .ok (.iconst 0, 1) := by decide +kernel
theorem dX7_init_69 : decode cX7_init 69 = .ok (.putfield 42, 3) := by decide +kernel
theorem dX7_init_72 : decode cX7_init 72 = .ok (.aload_n 0, 1) := by decide +kernel
theorem dX7_init_73 : decode cX7_init 73 = .ok (.iconst (-1), 1) := by decide +kernel
theorem dX7_init_74 : decode cX7_init 74 = .ok (.putfield 45, 3) := by decide +kernel
theorem dX7_init_77 : decode cX7_init 77 = .ok (.aload_n 0, 1) := by decide +kernel
theorem dX7_init_78 : decode cX7_init 78 = .ok (.iconst (-1), 1) := by decide +kernel
theorem dX7_init_79 : decode cX7_init 79 = .ok (.putfield 48, 3) := by decide +kernel
theorem dX7_init_82 : decode cX7_init 82 = .ok (.aload_n 0, 1) := by decide +kernel
theorem dX7_init_83 : decode cX7_init 83 = .ok (.aload_n 1, 1) := by decide +kernel
theorem dX7_init_84 : decode cX7_init 84 = .ok (.putfield 51, 3) := by decide +kernel
theorem dX7_init_87 : decode cX7_init 87 = .ok (.aload_n 0, 1) := by decide +kernel
theorem dX7_init_88 : decode cX7_init 88 = .ok (.aload_n 2, 1) := by decide +kernel
theorem dX7_init_89 : decode cX7_init 89 = .ok (.putfield 55, 3) := by decide +kernel
theorem dX7_init_92 : decode cX7_init 92 = .ok (.return_, 1) := by decide +kernel
set_option maxHeartbeats 4000000 in
set_option maxRecDepth 100000 in
theorem zi_X7_83 {G : zG} (hinj : zInj G) : zMi G MX7_init 7 118 83 7 (fun α => [.ref (α 68), .ref (α 79)]) [90, 89, 88, 87, 86, 85, 84] zSt0 := by
  refine zi_of (idx0 := 3) hinj rfl (by decide) rfl (fun _ => (Nat.le_of_ble_eq_true rfl)) dX7_init_0 dX7_init_1 (zin_2 (List.mem_of_getElem? (i := 184) (by decide +kernel))) (zin_1 (List.mem_of_getElem? (i := 24) (by decide +kernel))) (zin_1 (List.mem_of_getElem? (i := 25) rfl)) ⟨by decide, by decide⟩ ?_
  intro α p e s m args below meth c A lsr C hnw hin hA w hl
  have hx := C.1
  have hb := C.2.1
  have w : zWq G A s.heap s.heap [] (zbw G α zSt0 83 7 (zsh 83).2.2 [] (fun _ => []) []) := w
  have hl : lv_has lsr 3 [(0, .ref (α 83)), (1, .ref (α 68)), (2, .ref (α 79))] := hl
  obtain ⟨h0, e0⟩ : ∃ h, α 83 = h := ⟨_, rfl⟩
  rw [e0] at hl
  obtain ⟨h1, e1⟩ : ∃ h, α 68 = h := ⟨_, rfl⟩
  rw [e1] at hl
  obtain ⟨h2, e2⟩ : ∃ h, α 79 = h := ⟨_, rfl⟩
  rw [e2] at hl
  refine lv_aload_n hx hb dX7_init_4 rfl (lv_at hl 0 rfl) ?_
  refine lv_iconst (v := Int32.ofInt (2)) hx hb dX7_init_5 (by decide) ?_
  refine zb_arr (t0 := 0) (j := 84) (N := 2) (kf := 2) (a0 := (2, .inl (fun _ => 0))) (ty := .int) C hin hA w e0 rfl rfl zarrI (fun U cA cB h1 h2 => Option.some.inj (h1.symm.trans h2)) (fun _ => rfl) (fun α' => zcl_z0 (by decide +kernel) rfl) (by decide) (by decide +kernel) (by decide +kernel) (by decide +kernel) (by decide +kernel) (by decide) (fun _ => rfl) flRX7_11 (q := (RX7, TX7, 14)) rfl rfl rfl (ty2 := .array .int) (by decide +kernel) (fun _ => rfl) (fun _ => rfl) (by decide +kernel) (Nat.le_of_ble_eq_true rfl) (Nat.le_of_ble_eq_true rfl) dX7_init_6 dX7_init_8 (fun α1 H1 locs1 hα1 w e0 => ?_)
  have e1 : α1 68 = h1 := (hα1 68 (by decide)).trans e1
  have e2 : α1 79 = h2 := (hα1 79 (by decide)).trans e2
  refine lv_aload_n hx hb dX7_init_11 rfl (lv_at hl 0 rfl) ?_
  refine lv_iconst (v := Int32.ofInt (2)) hx hb dX7_init_12 (by decide) ?_
  refine zb_arr (t0 := 0) (j := 85) (N := 2) (kf := 3) (a0 := (2, .inl (fun _ => 0))) (ty := .int) C hin hA w e0 rfl rfl zarrI (fun U cA cB h1 h2 => Option.some.inj (h1.symm.trans h2)) (fun _ => rfl) (fun α' => zcl_z0 (by decide +kernel) rfl) (by decide) (by decide +kernel) (by decide +kernel) (by decide +kernel) (by decide +kernel) (by decide) (fun _ => rfl) flRX7_15 (q := (RX7, TX7, 14)) rfl rfl rfl (ty2 := .array .int) (by decide +kernel) (fun _ => rfl) (fun _ => rfl) (by decide +kernel) (Nat.le_of_ble_eq_true rfl) (Nat.le_of_ble_eq_true rfl) dX7_init_13 dX7_init_15 (fun α2 H1 locs1 hα2 w e0 => ?_)
  have e1 : α2 68 = h1 := (hα2 68 (by decide)).trans e1
  have e2 : α2 79 = h2 := (hα2 79 (by decide)).trans e2
  refine lv_aload_n hx hb dX7_init_18 rfl (lv_at hl 0 rfl) ?_
  refine lv_bipush (v := Int32.ofInt (10)) hx hb dX7_init_19 (by decide) ?_
  refine zb_arr (t0 := 0) (j := 86) (N := 10) (kf := 4) (a0 := (10, .inl (fun _ => 0))) (ty := .int) C hin hA w e0 rfl rfl zarrI (fun U cA cB h1 h2 => Option.some.inj (h1.symm.trans h2)) (fun _ => rfl) (fun α' => zcl_z0 (by decide +kernel) rfl) (by decide) (by decide +kernel) (by decide +kernel) (by decide +kernel) (by decide +kernel) (by decide) (fun _ => rfl) flRX7_18 (q := (RX7, TX7, 14)) rfl rfl rfl (ty2 := .array .int) (by decide +kernel) (fun _ => rfl) (fun _ => rfl) (by decide +kernel) (Nat.le_of_ble_eq_true rfl) (Nat.le_of_ble_eq_true rfl) dX7_init_21 dX7_init_23 (fun α3 H1 locs1 hα3 w e0 => ?_)
  have e1 : α3 68 = h1 := (hα3 68 (by decide)).trans e1
  have e2 : α3 79 = h2 := (hα3 79 (by decide)).trans e2
  refine lv_aload_n hx hb dX7_init_26 rfl (lv_at hl 0 rfl) ?_
  refine lv_bipush (v := Int32.ofInt (80)) hx hb dX7_init_27 (by decide) ?_
  refine zb_arr (t0 := 0) (j := 87) (N := 80) (kf := 5) (a0 := (80, .inl (fun _ => 0))) (ty := .int) C hin hA w e0 rfl rfl zarrI (fun U cA cB h1 h2 => Option.some.inj (h1.symm.trans h2)) (fun _ => rfl) (fun α' => zcl_z0 (by decide +kernel) rfl) (by decide) (by decide +kernel) (by decide +kernel) (by decide +kernel) (by decide +kernel) (by decide) (fun _ => rfl) flRX7_23 (q := (RX7, TX7, 14)) rfl rfl rfl (ty2 := .array .int) (by decide +kernel) (fun _ => rfl) (fun _ => rfl) (by decide +kernel) (Nat.le_of_ble_eq_true rfl) (Nat.le_of_ble_eq_true rfl) dX7_init_29 dX7_init_31 (fun α4 H1 locs1 hα4 w e0 => ?_)
  have e1 : α4 68 = h1 := (hα4 68 (by decide)).trans e1
  have e2 : α4 79 = h2 := (hα4 79 (by decide)).trans e2
  refine lv_aload_n hx hb dX7_init_34 rfl (lv_at hl 0 rfl) ?_
  refine lv_bipush (v := Int32.ofInt (10)) hx hb dX7_init_35 (by decide) ?_
  refine zb_arr (t0 := 0) (j := 88) (N := 10) (kf := 6) (a0 := (10, .inl (fun _ => 0))) (ty := .int) C hin hA w e0 rfl rfl zarrI (fun U cA cB h1 h2 => Option.some.inj (h1.symm.trans h2)) (fun _ => rfl) (fun α' => zcl_z0 (by decide +kernel) rfl) (by decide) (by decide +kernel) (by decide +kernel) (by decide +kernel) (by decide +kernel) (by decide) (fun _ => rfl) flRX7_26 (q := (RX7, TX7, 14)) rfl rfl rfl (ty2 := .array .int) (by decide +kernel) (fun _ => rfl) (fun _ => rfl) (by decide +kernel) (Nat.le_of_ble_eq_true rfl) (Nat.le_of_ble_eq_true rfl) dX7_init_37 dX7_init_39 (fun α5 H1 locs1 hα5 w e0 => ?_)
  have e1 : α5 68 = h1 := (hα5 68 (by decide)).trans e1
  have e2 : α5 79 = h2 := (hα5 79 (by decide)).trans e2
  refine lv_aload_n hx hb dX7_init_42 rfl (lv_at hl 0 rfl) ?_
  refine lv_bipush (v := Int32.ofInt (11)) hx hb dX7_init_43 (by decide) ?_
  refine zb_arr (t0 := 0) (j := 89) (N := 11) (kf := 7) (a0 := (11, .inl (fun _ => 0))) (ty := .int) C hin hA w e0 rfl rfl zarrI (fun U cA cB h1 h2 => Option.some.inj (h1.symm.trans h2)) (fun _ => rfl) (fun α' => zcl_z0 (by decide +kernel) rfl) (by decide) (by decide +kernel) (by decide +kernel) (by decide +kernel) (by decide +kernel) (by decide) (fun _ => rfl) flRX7_29 (q := (RX7, TX7, 14)) rfl rfl rfl (ty2 := .array .int) (by decide +kernel) (fun _ => rfl) (fun _ => rfl) (by decide +kernel) (Nat.le_of_ble_eq_true rfl) (Nat.le_of_ble_eq_true rfl) dX7_init_45 dX7_init_47 (fun α6 H1 locs1 hα6 w e0 => ?_)
  have e1 : α6 68 = h1 := (hα6 68 (by decide)).trans e1
  have e2 : α6 79 = h2 := (hα6 79 (by decide)).trans e2
  refine lv_aload_n hx hb dX7_init_50 rfl (lv_at hl 0 rfl) ?_
  refine lv_iconst (v := Int32.ofInt (3)) hx hb dX7_init_51 (by decide) ?_
  refine zb_arr (t0 := 0) (j := 90) (N := 3) (kf := 8) (a0 := (3, .inl (fun _ => 0))) (ty := .int) C hin hA w e0 rfl rfl zarrI (fun U cA cB h1 h2 => Option.some.inj (h1.symm.trans h2)) (fun _ => rfl) (fun α' => zcl_z0 (by decide +kernel) rfl) (by decide) (by decide +kernel) (by decide +kernel) (by decide +kernel) (by decide +kernel) (by decide) (fun _ => rfl) flRX7_32 (q := (RX7, TX7, 14)) rfl rfl rfl (ty2 := .array .int) (by decide +kernel) (fun _ => rfl) (fun _ => rfl) (by decide +kernel) (Nat.le_of_ble_eq_true rfl) (Nat.le_of_ble_eq_true rfl) dX7_init_52 dX7_init_54 (fun α7 H1 locs1 hα7 w e0 => ?_)
  have e1 : α7 68 = h1 := (hα7 68 (by decide)).trans e1
  have e2 : α7 79 = h2 := (hα7 79 (by decide)).trans e2
  refine lv_aload_n hx hb dX7_init_57 rfl (lv_at hl 0 rfl) ?_
  refine lv_iconst (v := Int32.ofInt (0)) hx hb dX7_init_58 (by decide) ?_
  refine zb_put (kf := 9) (x := 0) C w e0 fpRX7_35 (by decide +kernel) dX7_init_59 (fun H1 locs1 w => ?_)
  refine lv_aload_n hx hb dX7_init_62 rfl (lv_at hl 0 rfl) ?_
  refine lv_iconst (v := Int32.ofInt (1)) hx hb dX7_init_63 (by decide) ?_
  refine zb_put (kf := 10) (x := 1) C w e0 fpRX7_39 (by decide +kernel) dX7_init_64 (fun H1 locs1 w => ?_)
  refine lv_aload_n hx hb dX7_init_67 rfl (lv_at hl 0 rfl) ?_
  refine lv_iconst (v := Int32.ofInt (0)) hx hb dX7_init_68 (by decide) ?_
  refine zb_put (kf := 11) (x := 0) C w e0 fpRX7_42 (by decide +kernel) dX7_init_69 (fun H1 locs1 w => ?_)
  refine lv_aload_n hx hb dX7_init_72 rfl (lv_at hl 0 rfl) ?_
  refine lv_iconst (v := Int32.ofInt (-1)) hx hb dX7_init_73 (by decide) ?_
  refine zb_put (kf := 12) (x := -1) C w e0 fpRX7_45 (by decide +kernel) dX7_init_74 (fun H1 locs1 w => ?_)
  refine lv_aload_n hx hb dX7_init_77 rfl (lv_at hl 0 rfl) ?_
  refine lv_iconst (v := Int32.ofInt (-1)) hx hb dX7_init_78 (by decide) ?_
  refine zb_put (kf := 13) (x := -1) C w e0 fpRX7_48 (by decide +kernel) dX7_init_79 (fun H1 locs1 w => ?_)
  refine lv_aload_n hx hb dX7_init_82 rfl (lv_at hl 0 rfl) ?_
  refine lv_aload_n hx hb dX7_init_83 rfl (lv_at hl 1 rfl) ?_
  rw [← e1]
  refine zb_fin (v := .inl 68) (kf := 0) C hin w e0 flRX7_51 (q := (RX7, TX7, 14)) rfl rfl rfl (ty2 := .object "CollegeHouse$Leases") (by decide +kernel) rfl rfl (by decide +kernel) dX7_init_84 (fun H1 locs1 w => ?_)
  refine lv_aload_n hx hb dX7_init_87 rfl (lv_at hl 0 rfl) ?_
  refine lv_aload_n hx hb dX7_init_88 rfl (lv_at hl 2 rfl) ?_
  rw [← e2]
  refine zb_fin (v := .inl 79) (kf := 1) C hin w e0 flRX7_55 (q := (RX7, TX7, 14)) rfl rfl rfl (ty2 := .object "CollegeHouse$Chest") (by decide +kernel) rfl rfl (by decide +kernel) dX7_init_89 (fun H1 locs1 w => ?_)
  exact zi_end (own := [90, 89, 88, 87, 86, 85, 84]) C rfl w (by decide +kernel) (by decide +kernel) (fun _ _ => rfl) (fun i hi => by rw [hα7 i (fun z => hi (by rw [z]; decide)), hα6 i (fun z => hi (by rw [z]; decide)), hα5 i (fun z => hi (by rw [z]; decide)), hα4 i (fun z => hi (by rw [z]; decide)), hα3 i (fun z => hi (by rw [z]; decide)), hα2 i (fun z => hi (by rw [z]; decide)), hα1 i (fun z => hi (by rw [z]; decide))]) ⟨(Nat.le_of_ble_eq_true rfl), (Nat.le_of_ble_eq_true rfl)⟩ dX7_init_92
theorem dX8_init_0 : decode cX8_init 0 = .ok (.aload_n 0, 1) := by decide +kernel
theorem dX8_init_1 : decode cX8_init 1 = .ok (.invokespecial 3, 3) := by decide +kernel
theorem dX8_init_4 : decode cX8_init 4 = .ok (.aload_n 0, 1) := by decide +kernel
theorem dX8_init_5 : decode cX8_init 5 = .ok (.bipush 24, 2) := by decide +kernel
theorem dX8_init_7 : decode cX8_init 7 = .ok (.newarray .int, 2) := by decide +kernel
theorem dX8_init_9 : decode cX8_init 9 = .ok (.putfield 9, 3) := by decide +kernel
theorem dX8_init_12 : decode cX8_init 12 = .ok (.aload_n 0, 1) := by decide +kernel
theorem dX8_init_13 : decode cX8_init 13 = .ok (.bipush 9, 2) := by decide +kernel
theorem dX8_init_15 : decode cX8_init 15 = .ok (.newarray .int, 2) := by decide +kernel
theorem dX8_init_17 : decode cX8_init 17 = .ok (.putfield 15, 3) := by decide +kernel
theorem dX8_init_20 : decode cX8_init 20 = .ok (.aload_n 0, 1) := by decide +kernel
theorem dX8_init_21 : decode cX8_init 21 = .ok (.iconst 0, 1) := by decide +kernel
theorem dX8_init_22 : decode cX8_init 22 = .ok (.putfield 18, 3) := by decide +kernel
theorem dX8_init_25 : decode cX8_init 25 = .ok (.aload_n 0, 1) := by decide +kernel
theorem dX8_init_26 : decode cX8_init 26 = .ok (.aload_n 1, 1) := by decide +kernel
theorem dX8_init_27 : decode cX8_init 27 = .ok (.putfield 22, 3) := by decide +kernel
theorem dX8_init_30 : decode cX8_init 30 = .ok (.aload_n 0, 1) := by decide +kernel
theorem dX8_init_31 : decode cX8_init 31 = .ok (.aload_n 2, 1) := by decide +kernel
theorem dX8_init_32 : decode cX8_init 32 = .ok (.putfield 26, 3) := by decide +kernel
theorem dX8_init_35 : decode cX8_init 35 = .ok (.aload_n 0, 1) := by decide +kernel
theorem dX8_init_36 : decode cX8_init 36 = .ok (.getfield 9, 3) := by decide +kernel
theorem dX8_init_39 : decode cX8_init 39 = .ok (.iconst (-1), 1) := by decide +kernel
theorem dX8_init_40 : decode cX8_init 40 = .ok (.invokestatic 30, 3) := by decide +kernel
theorem dX8_init_43 : decode cX8_init 43 = .ok (.return_, 1) := by decide +kernel
set_option maxHeartbeats 4000000 in
set_option maxRecDepth 100000 in
theorem zi_X8_94 {G : zG} (hinj : zInj G) : zMi G MX8_init 2 33 94 8 (fun α => [.ref (α 52), .ref (α 91)]) [96, 95] zSt0 := by
  refine zi_of (idx0 := 3) hinj rfl (by decide) rfl (fun _ => (Nat.le_of_ble_eq_true rfl)) dX8_init_0 dX8_init_1 (zin_2 (List.mem_of_getElem? (i := 234) (by decide +kernel))) (zin_1 (List.mem_of_getElem? (i := 24) (by decide +kernel))) (zin_1 (List.mem_of_getElem? (i := 25) rfl)) ⟨by decide, by decide⟩ ?_
  intro α p e s m args below meth c A lsr C hnw hin hA w hl
  have hx := C.1
  have hb := C.2.1
  have w : zWq G A s.heap s.heap [] (zbw G α (zrz [95]) 94 8 (zsh 94).2.2 [] (fun _ => []) []) := w
  have hl : lv_has lsr 3 [(0, .ref (α 94)), (1, .ref (α 52)), (2, .ref (α 91))] := hl
  obtain ⟨h0, e0⟩ : ∃ h, α 94 = h := ⟨_, rfl⟩
  rw [e0] at hl
  obtain ⟨h1, e1⟩ : ∃ h, α 52 = h := ⟨_, rfl⟩
  rw [e1] at hl
  obtain ⟨h2, e2⟩ : ∃ h, α 91 = h := ⟨_, rfl⟩
  rw [e2] at hl
  refine lv_aload_n hx hb dX8_init_4 rfl (lv_at hl 0 rfl) ?_
  refine lv_bipush (v := Int32.ofInt (24)) hx hb dX8_init_5 (by decide) ?_
  refine zb_arr (t0 := 0) (j := 95) (N := 24) (kf := 2) (a0 := (24, .inl (fun _ => 0))) (ty := .int) C hin hA w e0 rfl rfl zarrI (fun U cA cB h1 h2 => Option.some.inj (h1.symm.trans h2)) (fun _ => rfl) (fun α' => zcl_z0 (by decide +kernel) (by simp [zrz, zSt0])) (by decide) (by decide +kernel) (by decide +kernel) (by decide +kernel) (by decide +kernel) (by decide) (fun _ => rfl) flRX8_9 (q := (RX8, TX8, 5)) rfl rfl rfl (ty2 := .array .int) (by decide +kernel) (fun _ => rfl) (fun _ => rfl) (by decide +kernel) (Nat.le_of_ble_eq_true rfl) (Nat.le_of_ble_eq_true rfl) dX8_init_7 dX8_init_9 (fun α1 H1 locs1 hα1 w e0 => ?_)
  have e1 : α1 52 = h1 := (hα1 52 (by decide)).trans e1
  have e2 : α1 91 = h2 := (hα1 91 (by decide)).trans e2
  refine lv_aload_n hx hb dX8_init_12 rfl (lv_at hl 0 rfl) ?_
  refine lv_bipush (v := Int32.ofInt (9)) hx hb dX8_init_13 (by decide) ?_
  refine zb_arr (t0 := 0) (j := 96) (N := 9) (kf := 3) (a0 := (9, .inl (fun _ => 0))) (ty := .int) C hin hA w e0 rfl rfl zarrI (fun U cA cB h1 h2 => Option.some.inj (h1.symm.trans h2)) (fun _ => rfl) (fun α' => zcl_z0 (by decide +kernel) (by simp [zrz, zSt0])) (by decide) (by decide +kernel) (by decide +kernel) (by decide +kernel) (by decide +kernel) (by decide) (fun _ => rfl) flRX8_15 (q := (RX8, TX8, 5)) rfl rfl rfl (ty2 := .array .int) (by decide +kernel) (fun _ => rfl) (fun _ => rfl) (by decide +kernel) (Nat.le_of_ble_eq_true rfl) (Nat.le_of_ble_eq_true rfl) dX8_init_15 dX8_init_17 (fun α2 H1 locs1 hα2 w e0 => ?_)
  have e1 : α2 52 = h1 := (hα2 52 (by decide)).trans e1
  have e2 : α2 91 = h2 := (hα2 91 (by decide)).trans e2
  refine lv_aload_n hx hb dX8_init_20 rfl (lv_at hl 0 rfl) ?_
  refine lv_iconst (v := Int32.ofInt (0)) hx hb dX8_init_21 (by decide) ?_
  refine zb_put (kf := 4) (x := 0) C w e0 fpRX8_18 (by decide +kernel) dX8_init_22 (fun H1 locs1 w => ?_)
  refine lv_aload_n hx hb dX8_init_25 rfl (lv_at hl 0 rfl) ?_
  refine lv_aload_n hx hb dX8_init_26 rfl (lv_at hl 1 rfl) ?_
  rw [← e1]
  refine zb_fin (v := .inl 52) (kf := 0) C hin w e0 flRX8_22 (q := (RX8, TX8, 5)) rfl rfl rfl (ty2 := .object "CollegeHouse$Places") (by decide +kernel) rfl rfl (by decide +kernel) dX8_init_27 (fun H1 locs1 w => ?_)
  refine lv_aload_n hx hb dX8_init_30 rfl (lv_at hl 0 rfl) ?_
  refine lv_aload_n hx hb dX8_init_31 rfl (lv_at hl 2 rfl) ?_
  rw [← e2]
  refine zb_fin (v := .inl 91) (kf := 1) C hin w e0 flRX8_26 (q := (RX8, TX8, 5)) rfl rfl rfl (ty2 := .object "CollegeHouse$Choices") (by decide +kernel) rfl rfl (by decide +kernel) dX8_init_32 (fun H1 locs1 w => ?_)
  refine lv_aload_n hx hb dX8_init_35 rfl (lv_at hl 0 rfl) ?_
  refine zb_get (kf := 2) (v := .inl 95) C w List.mem_cons_self e0 flRX8_9 (by decide +kernel) rfl dX8_init_36 ?_
  refine lv_iconst (v := Int32.ofInt (-1)) hx hb dX8_init_39 (by decide) ?_
  refine zb_fill (j := 95) (N := 24) (v := -1) C hA hl w (by decide +kernel) (by decide) (by decide) (by decide) lkRX8_30 ⟨by decide, by decide⟩ (Nat.le_of_ble_eq_true rfl) ⟨(Nat.le_of_ble_eq_true rfl), (Nat.le_of_ble_eq_true rfl)⟩ dX8_init_40 (fun H1 locs1 w => ?_)
  have hrow : ∀ i ∈ ([96, 95] : List Nat), (zfl (zrz [95]) 95 24 (-1)) i = zSt0 i := by
    intro i hi
    simp only [List.mem_cons, List.not_mem_nil, or_false] at hi
    rcases hi with rfl | rfl <;> (funext j; simp [zfl, zrz, zSt0, zrw0])
  exact zi_end (own := [96, 95]) C rfl w (by decide +kernel) (by decide +kernel) hrow (fun i hi => by rw [hα2 i (fun z => hi (by rw [z]; decide)), hα1 i (fun z => hi (by rw [z]; decide))]) ⟨(Nat.le_of_ble_eq_true rfl), (Nat.le_of_ble_eq_true rfl)⟩ dX8_init_43
theorem dX9_init_0 : decode cX9_init 0 = .ok (.aload_n 0, 1) := by decide +kernel
theorem dX9_init_1 : decode cX9_init 1 = .ok (.invokespecial 3, 3) := by decide +kernel
theorem dX9_init_4 : decode cX9_init 4 = .ok (.aload_n 0, 1) := by decide +kernel
theorem dX9_init_5 : decode cX9_init 5 = .ok (.bipush 80, 2) := by decide +kernel
theorem dX9_init_7 : decode cX9_init 7 = .ok (.newarray .long, 2) := by decide +kernel
theorem dX9_init_9 : decode cX9_init 9 = .ok (.putfield 9, 3) := by decide +kernel
theorem dX9_init_12 : decode cX9_init 12 = .ok (.aload_n 0, 1) := by decide +kernel
theorem dX9_init_13 : decode cX9_init 13 = .ok (.iconst (-1), 1) := by decide +kernel
theorem dX9_init_14 : decode cX9_init 14 = .ok (.putfield 15, 3) := by decide +kernel
theorem dX9_init_17 : decode cX9_init 17 = .ok (.aload_n 0, 1) := by decide +kernel
theorem dX9_init_18 : decode cX9_init 18 = .ok (.iconst 0, 1) := by decide +kernel
theorem dX9_init_19 : decode cX9_init 19 = .ok (.putfield 19, 3) := by decide +kernel
theorem dX9_init_22 : decode cX9_init 22 = .ok (.aload_n 0, 1) := by decide +kernel
theorem dX9_init_23 : decode cX9_init 23 = .ok (.iconst (-1), 1) := by decide +kernel
theorem dX9_init_24 : decode cX9_init 24 = .ok (.putfield 22, 3) := by decide +kernel
theorem dX9_init_27 : decode cX9_init 27 = .ok (.return_, 1) := by decide +kernel
set_option maxHeartbeats 4000000 in
set_option maxRecDepth 100000 in
theorem zi_X9_2 {G : zG} (hinj : zInj G) : zMi G MX9_init 1 80 2 9 (fun _ => []) [3] zSt0 := by
  refine zi_of (idx0 := 3) hinj rfl (by decide) rfl (fun _ => (Nat.le_of_ble_eq_true rfl)) dX9_init_0 dX9_init_1 (zin_3 (List.mem_of_getElem? (i := 18) (by decide +kernel))) (zin_1 (List.mem_of_getElem? (i := 24) (by decide +kernel))) (zin_1 (List.mem_of_getElem? (i := 25) rfl)) ⟨by decide, by decide⟩ ?_
  intro α p e s m args below meth c A lsr C hnw hin hA w hl
  have hx := C.1
  have hb := C.2.1
  have w : zWq G A s.heap s.heap [] (zbw G α zSt0 2 9 (zsh 2).2.2 [] (fun _ => []) []) := w
  have hl : lv_has lsr 1 [(0, .ref (α 2))] := hl
  obtain ⟨h0, e0⟩ : ∃ h, α 2 = h := ⟨_, rfl⟩
  rw [e0] at hl
  refine lv_aload_n hx hb dX9_init_4 rfl (lv_at hl 0 rfl) ?_
  refine lv_bipush (v := Int32.ofInt (80)) hx hb dX9_init_5 (by decide) ?_
  refine zb_arr (t0 := 2) (j := 3) (N := 80) (kf := 0) (a0 := (80, .inr (.inl (fun _ => 0)))) (ty := .long) C hin hA w e0 rfl rfl zarrJ (fun U cA cB h1 h2 => Option.some.inj (h1.symm.trans h2)) (fun _ => rfl) (fun α' => zcl_z2 (by decide +kernel) rfl) (by decide) (by decide +kernel) (by decide +kernel) (by decide +kernel) (by decide +kernel) (by decide) (fun _ => rfl) flRX9_9 (q := (RX9, TX9, 4)) rfl rfl rfl (ty2 := .array .long) (by decide +kernel) (fun _ => rfl) (fun _ => rfl) (by decide +kernel) (Nat.le_of_ble_eq_true rfl) (Nat.le_of_ble_eq_true rfl) dX9_init_7 dX9_init_9 (fun α1 H1 locs1 hα1 w e0 => ?_)
  refine lv_aload_n hx hb dX9_init_12 rfl (lv_at hl 0 rfl) ?_
  refine lv_iconst (v := Int32.ofInt (-1)) hx hb dX9_init_13 (by decide) ?_
  refine zb_put (kf := 1) (x := -1) C w e0 fpRX9_15 (by decide +kernel) dX9_init_14 (fun H1 locs1 w => ?_)
  refine lv_aload_n hx hb dX9_init_17 rfl (lv_at hl 0 rfl) ?_
  refine lv_iconst (v := Int32.ofInt (0)) hx hb dX9_init_18 (by decide) ?_
  refine zb_put (kf := 2) (x := 0) C w e0 fpRX9_19 (by decide +kernel) dX9_init_19 (fun H1 locs1 w => ?_)
  refine lv_aload_n hx hb dX9_init_22 rfl (lv_at hl 0 rfl) ?_
  refine lv_iconst (v := Int32.ofInt (-1)) hx hb dX9_init_23 (by decide) ?_
  refine zb_put (kf := 3) (x := -1) C w e0 fpRX9_22 (by decide +kernel) dX9_init_24 (fun H1 locs1 w => ?_)
  exact zi_end (own := [3]) C rfl w (by decide +kernel) (by decide +kernel) (fun _ _ => rfl) (fun i hi => by rw [hα1 i (fun z => hi (by rw [z]; decide))]) ⟨(Nat.le_of_ble_eq_true rfl), (Nat.le_of_ble_eq_true rfl)⟩ dX9_init_27
set_option maxHeartbeats 4000000 in
set_option maxRecDepth 100000 in
theorem zi_X9_4 {G : zG} (hinj : zInj G) : zMi G MX9_init 1 80 4 9 (fun _ => []) [5] zSt0 := by
  refine zi_of (idx0 := 3) hinj rfl (by decide) rfl (fun _ => (Nat.le_of_ble_eq_true rfl)) dX9_init_0 dX9_init_1 (zin_3 (List.mem_of_getElem? (i := 18) (by decide +kernel))) (zin_1 (List.mem_of_getElem? (i := 24) (by decide +kernel))) (zin_1 (List.mem_of_getElem? (i := 25) rfl)) ⟨by decide, by decide⟩ ?_
  intro α p e s m args below meth c A lsr C hnw hin hA w hl
  have hx := C.1
  have hb := C.2.1
  have w : zWq G A s.heap s.heap [] (zbw G α zSt0 4 9 (zsh 4).2.2 [] (fun _ => []) []) := w
  have hl : lv_has lsr 1 [(0, .ref (α 4))] := hl
  obtain ⟨h0, e0⟩ : ∃ h, α 4 = h := ⟨_, rfl⟩
  rw [e0] at hl
  refine lv_aload_n hx hb dX9_init_4 rfl (lv_at hl 0 rfl) ?_
  refine lv_bipush (v := Int32.ofInt (80)) hx hb dX9_init_5 (by decide) ?_
  refine zb_arr (t0 := 2) (j := 5) (N := 80) (kf := 0) (a0 := (80, .inr (.inl (fun _ => 0)))) (ty := .long) C hin hA w e0 rfl rfl zarrJ (fun U cA cB h1 h2 => Option.some.inj (h1.symm.trans h2)) (fun _ => rfl) (fun α' => zcl_z2 (by decide +kernel) rfl) (by decide) (by decide +kernel) (by decide +kernel) (by decide +kernel) (by decide +kernel) (by decide) (fun _ => rfl) flRX9_9 (q := (RX9, TX9, 4)) rfl rfl rfl (ty2 := .array .long) (by decide +kernel) (fun _ => rfl) (fun _ => rfl) (by decide +kernel) (Nat.le_of_ble_eq_true rfl) (Nat.le_of_ble_eq_true rfl) dX9_init_7 dX9_init_9 (fun α1 H1 locs1 hα1 w e0 => ?_)
  refine lv_aload_n hx hb dX9_init_12 rfl (lv_at hl 0 rfl) ?_
  refine lv_iconst (v := Int32.ofInt (-1)) hx hb dX9_init_13 (by decide) ?_
  refine zb_put (kf := 1) (x := -1) C w e0 fpRX9_15 (by decide +kernel) dX9_init_14 (fun H1 locs1 w => ?_)
  refine lv_aload_n hx hb dX9_init_17 rfl (lv_at hl 0 rfl) ?_
  refine lv_iconst (v := Int32.ofInt (0)) hx hb dX9_init_18 (by decide) ?_
  refine zb_put (kf := 2) (x := 0) C w e0 fpRX9_19 (by decide +kernel) dX9_init_19 (fun H1 locs1 w => ?_)
  refine lv_aload_n hx hb dX9_init_22 rfl (lv_at hl 0 rfl) ?_
  refine lv_iconst (v := Int32.ofInt (-1)) hx hb dX9_init_23 (by decide) ?_
  refine zb_put (kf := 3) (x := -1) C w e0 fpRX9_22 (by decide +kernel) dX9_init_24 (fun H1 locs1 w => ?_)
  exact zi_end (own := [5]) C rfl w (by decide +kernel) (by decide +kernel) (fun _ _ => rfl) (fun i hi => by rw [hα1 i (fun z => hi (by rw [z]; decide))]) ⟨(Nat.le_of_ble_eq_true rfl), (Nat.le_of_ble_eq_true rfl)⟩ dX9_init_27
set_option maxHeartbeats 4000000 in
set_option maxRecDepth 100000 in
theorem zi_X9_6 {G : zG} (hinj : zInj G) : zMi G MX9_init 1 80 6 9 (fun _ => []) [7] zSt0 := by
  refine zi_of (idx0 := 3) hinj rfl (by decide) rfl (fun _ => (Nat.le_of_ble_eq_true rfl)) dX9_init_0 dX9_init_1 (zin_3 (List.mem_of_getElem? (i := 18) (by decide +kernel))) (zin_1 (List.mem_of_getElem? (i := 24) (by decide +kernel))) (zin_1 (List.mem_of_getElem? (i := 25) rfl)) ⟨by decide, by decide⟩ ?_
  intro α p e s m args below meth c A lsr C hnw hin hA w hl
  have hx := C.1
  have hb := C.2.1
  have w : zWq G A s.heap s.heap [] (zbw G α zSt0 6 9 (zsh 6).2.2 [] (fun _ => []) []) := w
  have hl : lv_has lsr 1 [(0, .ref (α 6))] := hl
  obtain ⟨h0, e0⟩ : ∃ h, α 6 = h := ⟨_, rfl⟩
  rw [e0] at hl
  refine lv_aload_n hx hb dX9_init_4 rfl (lv_at hl 0 rfl) ?_
  refine lv_bipush (v := Int32.ofInt (80)) hx hb dX9_init_5 (by decide) ?_
  refine zb_arr (t0 := 2) (j := 7) (N := 80) (kf := 0) (a0 := (80, .inr (.inl (fun _ => 0)))) (ty := .long) C hin hA w e0 rfl rfl zarrJ (fun U cA cB h1 h2 => Option.some.inj (h1.symm.trans h2)) (fun _ => rfl) (fun α' => zcl_z2 (by decide +kernel) rfl) (by decide) (by decide +kernel) (by decide +kernel) (by decide +kernel) (by decide +kernel) (by decide) (fun _ => rfl) flRX9_9 (q := (RX9, TX9, 4)) rfl rfl rfl (ty2 := .array .long) (by decide +kernel) (fun _ => rfl) (fun _ => rfl) (by decide +kernel) (Nat.le_of_ble_eq_true rfl) (Nat.le_of_ble_eq_true rfl) dX9_init_7 dX9_init_9 (fun α1 H1 locs1 hα1 w e0 => ?_)
  refine lv_aload_n hx hb dX9_init_12 rfl (lv_at hl 0 rfl) ?_
  refine lv_iconst (v := Int32.ofInt (-1)) hx hb dX9_init_13 (by decide) ?_
  refine zb_put (kf := 1) (x := -1) C w e0 fpRX9_15 (by decide +kernel) dX9_init_14 (fun H1 locs1 w => ?_)
  refine lv_aload_n hx hb dX9_init_17 rfl (lv_at hl 0 rfl) ?_
  refine lv_iconst (v := Int32.ofInt (0)) hx hb dX9_init_18 (by decide) ?_
  refine zb_put (kf := 2) (x := 0) C w e0 fpRX9_19 (by decide +kernel) dX9_init_19 (fun H1 locs1 w => ?_)
  refine lv_aload_n hx hb dX9_init_22 rfl (lv_at hl 0 rfl) ?_
  refine lv_iconst (v := Int32.ofInt (-1)) hx hb dX9_init_23 (by decide) ?_
  refine zb_put (kf := 3) (x := -1) C w e0 fpRX9_22 (by decide +kernel) dX9_init_24 (fun H1 locs1 w => ?_)
  exact zi_end (own := [7]) C rfl w (by decide +kernel) (by decide +kernel) (fun _ _ => rfl) (fun i hi => by rw [hα1 i (fun z => hi (by rw [z]; decide))]) ⟨(Nat.le_of_ble_eq_true rfl), (Nat.le_of_ble_eq_true rfl)⟩ dX9_init_27
set_option maxHeartbeats 4000000 in
set_option maxRecDepth 100000 in
theorem zi_X9_8 {G : zG} (hinj : zInj G) : zMi G MX9_init 1 80 8 9 (fun _ => []) [9] zSt0 := by
  refine zi_of (idx0 := 3) hinj rfl (by decide) rfl (fun _ => (Nat.le_of_ble_eq_true rfl)) dX9_init_0 dX9_init_1 (zin_3 (List.mem_of_getElem? (i := 18) (by decide +kernel))) (zin_1 (List.mem_of_getElem? (i := 24) (by decide +kernel))) (zin_1 (List.mem_of_getElem? (i := 25) rfl)) ⟨by decide, by decide⟩ ?_
  intro α p e s m args below meth c A lsr C hnw hin hA w hl
  have hx := C.1
  have hb := C.2.1
  have w : zWq G A s.heap s.heap [] (zbw G α zSt0 8 9 (zsh 8).2.2 [] (fun _ => []) []) := w
  have hl : lv_has lsr 1 [(0, .ref (α 8))] := hl
  obtain ⟨h0, e0⟩ : ∃ h, α 8 = h := ⟨_, rfl⟩
  rw [e0] at hl
  refine lv_aload_n hx hb dX9_init_4 rfl (lv_at hl 0 rfl) ?_
  refine lv_bipush (v := Int32.ofInt (80)) hx hb dX9_init_5 (by decide) ?_
  refine zb_arr (t0 := 2) (j := 9) (N := 80) (kf := 0) (a0 := (80, .inr (.inl (fun _ => 0)))) (ty := .long) C hin hA w e0 rfl rfl zarrJ (fun U cA cB h1 h2 => Option.some.inj (h1.symm.trans h2)) (fun _ => rfl) (fun α' => zcl_z2 (by decide +kernel) rfl) (by decide) (by decide +kernel) (by decide +kernel) (by decide +kernel) (by decide +kernel) (by decide) (fun _ => rfl) flRX9_9 (q := (RX9, TX9, 4)) rfl rfl rfl (ty2 := .array .long) (by decide +kernel) (fun _ => rfl) (fun _ => rfl) (by decide +kernel) (Nat.le_of_ble_eq_true rfl) (Nat.le_of_ble_eq_true rfl) dX9_init_7 dX9_init_9 (fun α1 H1 locs1 hα1 w e0 => ?_)
  refine lv_aload_n hx hb dX9_init_12 rfl (lv_at hl 0 rfl) ?_
  refine lv_iconst (v := Int32.ofInt (-1)) hx hb dX9_init_13 (by decide) ?_
  refine zb_put (kf := 1) (x := -1) C w e0 fpRX9_15 (by decide +kernel) dX9_init_14 (fun H1 locs1 w => ?_)
  refine lv_aload_n hx hb dX9_init_17 rfl (lv_at hl 0 rfl) ?_
  refine lv_iconst (v := Int32.ofInt (0)) hx hb dX9_init_18 (by decide) ?_
  refine zb_put (kf := 2) (x := 0) C w e0 fpRX9_19 (by decide +kernel) dX9_init_19 (fun H1 locs1 w => ?_)
  refine lv_aload_n hx hb dX9_init_22 rfl (lv_at hl 0 rfl) ?_
  refine lv_iconst (v := Int32.ofInt (-1)) hx hb dX9_init_23 (by decide) ?_
  refine zb_put (kf := 3) (x := -1) C w e0 fpRX9_22 (by decide +kernel) dX9_init_24 (fun H1 locs1 w => ?_)
  exact zi_end (own := [9]) C rfl w (by decide +kernel) (by decide +kernel) (fun _ _ => rfl) (fun i hi => by rw [hα1 i (fun z => hi (by rw [z]; decide))]) ⟨(Nat.le_of_ble_eq_true rfl), (Nat.le_of_ble_eq_true rfl)⟩ dX9_init_27
set_option maxHeartbeats 4000000 in
set_option maxRecDepth 100000 in
theorem zi_X9_10 {G : zG} (hinj : zInj G) : zMi G MX9_init 1 80 10 9 (fun _ => []) [11] zSt0 := by
  refine zi_of (idx0 := 3) hinj rfl (by decide) rfl (fun _ => (Nat.le_of_ble_eq_true rfl)) dX9_init_0 dX9_init_1 (zin_3 (List.mem_of_getElem? (i := 18) (by decide +kernel))) (zin_1 (List.mem_of_getElem? (i := 24) (by decide +kernel))) (zin_1 (List.mem_of_getElem? (i := 25) rfl)) ⟨by decide, by decide⟩ ?_
  intro α p e s m args below meth c A lsr C hnw hin hA w hl
  have hx := C.1
  have hb := C.2.1
  have w : zWq G A s.heap s.heap [] (zbw G α zSt0 10 9 (zsh 10).2.2 [] (fun _ => []) []) := w
  have hl : lv_has lsr 1 [(0, .ref (α 10))] := hl
  obtain ⟨h0, e0⟩ : ∃ h, α 10 = h := ⟨_, rfl⟩
  rw [e0] at hl
  refine lv_aload_n hx hb dX9_init_4 rfl (lv_at hl 0 rfl) ?_
  refine lv_bipush (v := Int32.ofInt (80)) hx hb dX9_init_5 (by decide) ?_
  refine zb_arr (t0 := 2) (j := 11) (N := 80) (kf := 0) (a0 := (80, .inr (.inl (fun _ => 0)))) (ty := .long) C hin hA w e0 rfl rfl zarrJ (fun U cA cB h1 h2 => Option.some.inj (h1.symm.trans h2)) (fun _ => rfl) (fun α' => zcl_z2 (by decide +kernel) rfl) (by decide) (by decide +kernel) (by decide +kernel) (by decide +kernel) (by decide +kernel) (by decide) (fun _ => rfl) flRX9_9 (q := (RX9, TX9, 4)) rfl rfl rfl (ty2 := .array .long) (by decide +kernel) (fun _ => rfl) (fun _ => rfl) (by decide +kernel) (Nat.le_of_ble_eq_true rfl) (Nat.le_of_ble_eq_true rfl) dX9_init_7 dX9_init_9 (fun α1 H1 locs1 hα1 w e0 => ?_)
  refine lv_aload_n hx hb dX9_init_12 rfl (lv_at hl 0 rfl) ?_
  refine lv_iconst (v := Int32.ofInt (-1)) hx hb dX9_init_13 (by decide) ?_
  refine zb_put (kf := 1) (x := -1) C w e0 fpRX9_15 (by decide +kernel) dX9_init_14 (fun H1 locs1 w => ?_)
  refine lv_aload_n hx hb dX9_init_17 rfl (lv_at hl 0 rfl) ?_
  refine lv_iconst (v := Int32.ofInt (0)) hx hb dX9_init_18 (by decide) ?_
  refine zb_put (kf := 2) (x := 0) C w e0 fpRX9_19 (by decide +kernel) dX9_init_19 (fun H1 locs1 w => ?_)
  refine lv_aload_n hx hb dX9_init_22 rfl (lv_at hl 0 rfl) ?_
  refine lv_iconst (v := Int32.ofInt (-1)) hx hb dX9_init_23 (by decide) ?_
  refine zb_put (kf := 3) (x := -1) C w e0 fpRX9_22 (by decide +kernel) dX9_init_24 (fun H1 locs1 w => ?_)
  exact zi_end (own := [11]) C rfl w (by decide +kernel) (by decide +kernel) (fun _ _ => rfl) (fun i hi => by rw [hα1 i (fun z => hi (by rw [z]; decide))]) ⟨(Nat.le_of_ble_eq_true rfl), (Nat.le_of_ble_eq_true rfl)⟩ dX9_init_27
set_option maxHeartbeats 4000000 in
set_option maxRecDepth 100000 in
theorem zi_X9_12 {G : zG} (hinj : zInj G) : zMi G MX9_init 1 80 12 9 (fun _ => []) [13] zSt0 := by
  refine zi_of (idx0 := 3) hinj rfl (by decide) rfl (fun _ => (Nat.le_of_ble_eq_true rfl)) dX9_init_0 dX9_init_1 (zin_3 (List.mem_of_getElem? (i := 18) (by decide +kernel))) (zin_1 (List.mem_of_getElem? (i := 24) (by decide +kernel))) (zin_1 (List.mem_of_getElem? (i := 25) rfl)) ⟨by decide, by decide⟩ ?_
  intro α p e s m args below meth c A lsr C hnw hin hA w hl
  have hx := C.1
  have hb := C.2.1
  have w : zWq G A s.heap s.heap [] (zbw G α zSt0 12 9 (zsh 12).2.2 [] (fun _ => []) []) := w
  have hl : lv_has lsr 1 [(0, .ref (α 12))] := hl
  obtain ⟨h0, e0⟩ : ∃ h, α 12 = h := ⟨_, rfl⟩
  rw [e0] at hl
  refine lv_aload_n hx hb dX9_init_4 rfl (lv_at hl 0 rfl) ?_
  refine lv_bipush (v := Int32.ofInt (80)) hx hb dX9_init_5 (by decide) ?_
  refine zb_arr (t0 := 2) (j := 13) (N := 80) (kf := 0) (a0 := (80, .inr (.inl (fun _ => 0)))) (ty := .long) C hin hA w e0 rfl rfl zarrJ (fun U cA cB h1 h2 => Option.some.inj (h1.symm.trans h2)) (fun _ => rfl) (fun α' => zcl_z2 (by decide +kernel) rfl) (by decide) (by decide +kernel) (by decide +kernel) (by decide +kernel) (by decide +kernel) (by decide) (fun _ => rfl) flRX9_9 (q := (RX9, TX9, 4)) rfl rfl rfl (ty2 := .array .long) (by decide +kernel) (fun _ => rfl) (fun _ => rfl) (by decide +kernel) (Nat.le_of_ble_eq_true rfl) (Nat.le_of_ble_eq_true rfl) dX9_init_7 dX9_init_9 (fun α1 H1 locs1 hα1 w e0 => ?_)
  refine lv_aload_n hx hb dX9_init_12 rfl (lv_at hl 0 rfl) ?_
  refine lv_iconst (v := Int32.ofInt (-1)) hx hb dX9_init_13 (by decide) ?_
  refine zb_put (kf := 1) (x := -1) C w e0 fpRX9_15 (by decide +kernel) dX9_init_14 (fun H1 locs1 w => ?_)
  refine lv_aload_n hx hb dX9_init_17 rfl (lv_at hl 0 rfl) ?_
  refine lv_iconst (v := Int32.ofInt (0)) hx hb dX9_init_18 (by decide) ?_
  refine zb_put (kf := 2) (x := 0) C w e0 fpRX9_19 (by decide +kernel) dX9_init_19 (fun H1 locs1 w => ?_)
  refine lv_aload_n hx hb dX9_init_22 rfl (lv_at hl 0 rfl) ?_
  refine lv_iconst (v := Int32.ofInt (-1)) hx hb dX9_init_23 (by decide) ?_
  refine zb_put (kf := 3) (x := -1) C w e0 fpRX9_22 (by decide +kernel) dX9_init_24 (fun H1 locs1 w => ?_)
  exact zi_end (own := [13]) C rfl w (by decide +kernel) (by decide +kernel) (fun _ _ => rfl) (fun i hi => by rw [hα1 i (fun z => hi (by rw [z]; decide))]) ⟨(Nat.le_of_ble_eq_true rfl), (Nat.le_of_ble_eq_true rfl)⟩ dX9_init_27
set_option maxHeartbeats 4000000 in
set_option maxRecDepth 100000 in
theorem zi_X9_14 {G : zG} (hinj : zInj G) : zMi G MX9_init 1 80 14 9 (fun _ => []) [15] zSt0 := by
  refine zi_of (idx0 := 3) hinj rfl (by decide) rfl (fun _ => (Nat.le_of_ble_eq_true rfl)) dX9_init_0 dX9_init_1 (zin_3 (List.mem_of_getElem? (i := 18) (by decide +kernel))) (zin_1 (List.mem_of_getElem? (i := 24) (by decide +kernel))) (zin_1 (List.mem_of_getElem? (i := 25) rfl)) ⟨by decide, by decide⟩ ?_
  intro α p e s m args below meth c A lsr C hnw hin hA w hl
  have hx := C.1
  have hb := C.2.1
  have w : zWq G A s.heap s.heap [] (zbw G α zSt0 14 9 (zsh 14).2.2 [] (fun _ => []) []) := w
  have hl : lv_has lsr 1 [(0, .ref (α 14))] := hl
  obtain ⟨h0, e0⟩ : ∃ h, α 14 = h := ⟨_, rfl⟩
  rw [e0] at hl
  refine lv_aload_n hx hb dX9_init_4 rfl (lv_at hl 0 rfl) ?_
  refine lv_bipush (v := Int32.ofInt (80)) hx hb dX9_init_5 (by decide) ?_
  refine zb_arr (t0 := 2) (j := 15) (N := 80) (kf := 0) (a0 := (80, .inr (.inl (fun _ => 0)))) (ty := .long) C hin hA w e0 rfl rfl zarrJ (fun U cA cB h1 h2 => Option.some.inj (h1.symm.trans h2)) (fun _ => rfl) (fun α' => zcl_z2 (by decide +kernel) rfl) (by decide) (by decide +kernel) (by decide +kernel) (by decide +kernel) (by decide +kernel) (by decide) (fun _ => rfl) flRX9_9 (q := (RX9, TX9, 4)) rfl rfl rfl (ty2 := .array .long) (by decide +kernel) (fun _ => rfl) (fun _ => rfl) (by decide +kernel) (Nat.le_of_ble_eq_true rfl) (Nat.le_of_ble_eq_true rfl) dX9_init_7 dX9_init_9 (fun α1 H1 locs1 hα1 w e0 => ?_)
  refine lv_aload_n hx hb dX9_init_12 rfl (lv_at hl 0 rfl) ?_
  refine lv_iconst (v := Int32.ofInt (-1)) hx hb dX9_init_13 (by decide) ?_
  refine zb_put (kf := 1) (x := -1) C w e0 fpRX9_15 (by decide +kernel) dX9_init_14 (fun H1 locs1 w => ?_)
  refine lv_aload_n hx hb dX9_init_17 rfl (lv_at hl 0 rfl) ?_
  refine lv_iconst (v := Int32.ofInt (0)) hx hb dX9_init_18 (by decide) ?_
  refine zb_put (kf := 2) (x := 0) C w e0 fpRX9_19 (by decide +kernel) dX9_init_19 (fun H1 locs1 w => ?_)
  refine lv_aload_n hx hb dX9_init_22 rfl (lv_at hl 0 rfl) ?_
  refine lv_iconst (v := Int32.ofInt (-1)) hx hb dX9_init_23 (by decide) ?_
  refine zb_put (kf := 3) (x := -1) C w e0 fpRX9_22 (by decide +kernel) dX9_init_24 (fun H1 locs1 w => ?_)
  exact zi_end (own := [15]) C rfl w (by decide +kernel) (by decide +kernel) (fun _ _ => rfl) (fun i hi => by rw [hα1 i (fun z => hi (by rw [z]; decide))]) ⟨(Nat.le_of_ble_eq_true rfl), (Nat.le_of_ble_eq_true rfl)⟩ dX9_init_27
set_option maxHeartbeats 4000000 in
set_option maxRecDepth 100000 in
theorem zi_X9_16 {G : zG} (hinj : zInj G) : zMi G MX9_init 1 80 16 9 (fun _ => []) [17] zSt0 := by
  refine zi_of (idx0 := 3) hinj rfl (by decide) rfl (fun _ => (Nat.le_of_ble_eq_true rfl)) dX9_init_0 dX9_init_1 (zin_3 (List.mem_of_getElem? (i := 18) (by decide +kernel))) (zin_1 (List.mem_of_getElem? (i := 24) (by decide +kernel))) (zin_1 (List.mem_of_getElem? (i := 25) rfl)) ⟨by decide, by decide⟩ ?_
  intro α p e s m args below meth c A lsr C hnw hin hA w hl
  have hx := C.1
  have hb := C.2.1
  have w : zWq G A s.heap s.heap [] (zbw G α zSt0 16 9 (zsh 16).2.2 [] (fun _ => []) []) := w
  have hl : lv_has lsr 1 [(0, .ref (α 16))] := hl
  obtain ⟨h0, e0⟩ : ∃ h, α 16 = h := ⟨_, rfl⟩
  rw [e0] at hl
  refine lv_aload_n hx hb dX9_init_4 rfl (lv_at hl 0 rfl) ?_
  refine lv_bipush (v := Int32.ofInt (80)) hx hb dX9_init_5 (by decide) ?_
  refine zb_arr (t0 := 2) (j := 17) (N := 80) (kf := 0) (a0 := (80, .inr (.inl (fun _ => 0)))) (ty := .long) C hin hA w e0 rfl rfl zarrJ (fun U cA cB h1 h2 => Option.some.inj (h1.symm.trans h2)) (fun _ => rfl) (fun α' => zcl_z2 (by decide +kernel) rfl) (by decide) (by decide +kernel) (by decide +kernel) (by decide +kernel) (by decide +kernel) (by decide) (fun _ => rfl) flRX9_9 (q := (RX9, TX9, 4)) rfl rfl rfl (ty2 := .array .long) (by decide +kernel) (fun _ => rfl) (fun _ => rfl) (by decide +kernel) (Nat.le_of_ble_eq_true rfl) (Nat.le_of_ble_eq_true rfl) dX9_init_7 dX9_init_9 (fun α1 H1 locs1 hα1 w e0 => ?_)
  refine lv_aload_n hx hb dX9_init_12 rfl (lv_at hl 0 rfl) ?_
  refine lv_iconst (v := Int32.ofInt (-1)) hx hb dX9_init_13 (by decide) ?_
  refine zb_put (kf := 1) (x := -1) C w e0 fpRX9_15 (by decide +kernel) dX9_init_14 (fun H1 locs1 w => ?_)
  refine lv_aload_n hx hb dX9_init_17 rfl (lv_at hl 0 rfl) ?_
  refine lv_iconst (v := Int32.ofInt (0)) hx hb dX9_init_18 (by decide) ?_
  refine zb_put (kf := 2) (x := 0) C w e0 fpRX9_19 (by decide +kernel) dX9_init_19 (fun H1 locs1 w => ?_)
  refine lv_aload_n hx hb dX9_init_22 rfl (lv_at hl 0 rfl) ?_
  refine lv_iconst (v := Int32.ofInt (-1)) hx hb dX9_init_23 (by decide) ?_
  refine zb_put (kf := 3) (x := -1) C w e0 fpRX9_22 (by decide +kernel) dX9_init_24 (fun H1 locs1 w => ?_)
  exact zi_end (own := [17]) C rfl w (by decide +kernel) (by decide +kernel) (fun _ _ => rfl) (fun i hi => by rw [hα1 i (fun z => hi (by rw [z]; decide))]) ⟨(Nat.le_of_ble_eq_true rfl), (Nat.le_of_ble_eq_true rfl)⟩ dX9_init_27
set_option maxHeartbeats 4000000 in
set_option maxRecDepth 100000 in
theorem zi_X9_18 {G : zG} (hinj : zInj G) : zMi G MX9_init 1 80 18 9 (fun _ => []) [19] zSt0 := by
  refine zi_of (idx0 := 3) hinj rfl (by decide) rfl (fun _ => (Nat.le_of_ble_eq_true rfl)) dX9_init_0 dX9_init_1 (zin_3 (List.mem_of_getElem? (i := 18) (by decide +kernel))) (zin_1 (List.mem_of_getElem? (i := 24) (by decide +kernel))) (zin_1 (List.mem_of_getElem? (i := 25) rfl)) ⟨by decide, by decide⟩ ?_
  intro α p e s m args below meth c A lsr C hnw hin hA w hl
  have hx := C.1
  have hb := C.2.1
  have w : zWq G A s.heap s.heap [] (zbw G α zSt0 18 9 (zsh 18).2.2 [] (fun _ => []) []) := w
  have hl : lv_has lsr 1 [(0, .ref (α 18))] := hl
  obtain ⟨h0, e0⟩ : ∃ h, α 18 = h := ⟨_, rfl⟩
  rw [e0] at hl
  refine lv_aload_n hx hb dX9_init_4 rfl (lv_at hl 0 rfl) ?_
  refine lv_bipush (v := Int32.ofInt (80)) hx hb dX9_init_5 (by decide) ?_
  refine zb_arr (t0 := 2) (j := 19) (N := 80) (kf := 0) (a0 := (80, .inr (.inl (fun _ => 0)))) (ty := .long) C hin hA w e0 rfl rfl zarrJ (fun U cA cB h1 h2 => Option.some.inj (h1.symm.trans h2)) (fun _ => rfl) (fun α' => zcl_z2 (by decide +kernel) rfl) (by decide) (by decide +kernel) (by decide +kernel) (by decide +kernel) (by decide +kernel) (by decide) (fun _ => rfl) flRX9_9 (q := (RX9, TX9, 4)) rfl rfl rfl (ty2 := .array .long) (by decide +kernel) (fun _ => rfl) (fun _ => rfl) (by decide +kernel) (Nat.le_of_ble_eq_true rfl) (Nat.le_of_ble_eq_true rfl) dX9_init_7 dX9_init_9 (fun α1 H1 locs1 hα1 w e0 => ?_)
  refine lv_aload_n hx hb dX9_init_12 rfl (lv_at hl 0 rfl) ?_
  refine lv_iconst (v := Int32.ofInt (-1)) hx hb dX9_init_13 (by decide) ?_
  refine zb_put (kf := 1) (x := -1) C w e0 fpRX9_15 (by decide +kernel) dX9_init_14 (fun H1 locs1 w => ?_)
  refine lv_aload_n hx hb dX9_init_17 rfl (lv_at hl 0 rfl) ?_
  refine lv_iconst (v := Int32.ofInt (0)) hx hb dX9_init_18 (by decide) ?_
  refine zb_put (kf := 2) (x := 0) C w e0 fpRX9_19 (by decide +kernel) dX9_init_19 (fun H1 locs1 w => ?_)
  refine lv_aload_n hx hb dX9_init_22 rfl (lv_at hl 0 rfl) ?_
  refine lv_iconst (v := Int32.ofInt (-1)) hx hb dX9_init_23 (by decide) ?_
  refine zb_put (kf := 3) (x := -1) C w e0 fpRX9_22 (by decide +kernel) dX9_init_24 (fun H1 locs1 w => ?_)
  exact zi_end (own := [19]) C rfl w (by decide +kernel) (by decide +kernel) (fun _ _ => rfl) (fun i hi => by rw [hα1 i (fun z => hi (by rw [z]; decide))]) ⟨(Nat.le_of_ble_eq_true rfl), (Nat.le_of_ble_eq_true rfl)⟩ dX9_init_27
set_option maxHeartbeats 4000000 in
set_option maxRecDepth 100000 in
theorem zi_X9_20 {G : zG} (hinj : zInj G) : zMi G MX9_init 1 80 20 9 (fun _ => []) [21] zSt0 := by
  refine zi_of (idx0 := 3) hinj rfl (by decide) rfl (fun _ => (Nat.le_of_ble_eq_true rfl)) dX9_init_0 dX9_init_1 (zin_3 (List.mem_of_getElem? (i := 18) (by decide +kernel))) (zin_1 (List.mem_of_getElem? (i := 24) (by decide +kernel))) (zin_1 (List.mem_of_getElem? (i := 25) rfl)) ⟨by decide, by decide⟩ ?_
  intro α p e s m args below meth c A lsr C hnw hin hA w hl
  have hx := C.1
  have hb := C.2.1
  have w : zWq G A s.heap s.heap [] (zbw G α zSt0 20 9 (zsh 20).2.2 [] (fun _ => []) []) := w
  have hl : lv_has lsr 1 [(0, .ref (α 20))] := hl
  obtain ⟨h0, e0⟩ : ∃ h, α 20 = h := ⟨_, rfl⟩
  rw [e0] at hl
  refine lv_aload_n hx hb dX9_init_4 rfl (lv_at hl 0 rfl) ?_
  refine lv_bipush (v := Int32.ofInt (80)) hx hb dX9_init_5 (by decide) ?_
  refine zb_arr (t0 := 2) (j := 21) (N := 80) (kf := 0) (a0 := (80, .inr (.inl (fun _ => 0)))) (ty := .long) C hin hA w e0 rfl rfl zarrJ (fun U cA cB h1 h2 => Option.some.inj (h1.symm.trans h2)) (fun _ => rfl) (fun α' => zcl_z2 (by decide +kernel) rfl) (by decide) (by decide +kernel) (by decide +kernel) (by decide +kernel) (by decide +kernel) (by decide) (fun _ => rfl) flRX9_9 (q := (RX9, TX9, 4)) rfl rfl rfl (ty2 := .array .long) (by decide +kernel) (fun _ => rfl) (fun _ => rfl) (by decide +kernel) (Nat.le_of_ble_eq_true rfl) (Nat.le_of_ble_eq_true rfl) dX9_init_7 dX9_init_9 (fun α1 H1 locs1 hα1 w e0 => ?_)
  refine lv_aload_n hx hb dX9_init_12 rfl (lv_at hl 0 rfl) ?_
  refine lv_iconst (v := Int32.ofInt (-1)) hx hb dX9_init_13 (by decide) ?_
  refine zb_put (kf := 1) (x := -1) C w e0 fpRX9_15 (by decide +kernel) dX9_init_14 (fun H1 locs1 w => ?_)
  refine lv_aload_n hx hb dX9_init_17 rfl (lv_at hl 0 rfl) ?_
  refine lv_iconst (v := Int32.ofInt (0)) hx hb dX9_init_18 (by decide) ?_
  refine zb_put (kf := 2) (x := 0) C w e0 fpRX9_19 (by decide +kernel) dX9_init_19 (fun H1 locs1 w => ?_)
  refine lv_aload_n hx hb dX9_init_22 rfl (lv_at hl 0 rfl) ?_
  refine lv_iconst (v := Int32.ofInt (-1)) hx hb dX9_init_23 (by decide) ?_
  refine zb_put (kf := 3) (x := -1) C w e0 fpRX9_22 (by decide +kernel) dX9_init_24 (fun H1 locs1 w => ?_)
  exact zi_end (own := [21]) C rfl w (by decide +kernel) (by decide +kernel) (fun _ _ => rfl) (fun i hi => by rw [hα1 i (fun z => hi (by rw [z]; decide))]) ⟨(Nat.le_of_ble_eq_true rfl), (Nat.le_of_ble_eq_true rfl)⟩ dX9_init_27
