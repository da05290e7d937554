/-! CONSTRUCTORS: the state behind them; the small ones -/
def zrw0 (N v : Int) : Int → Int := fun j => if 0 ≤ j ∧ j < N then v else 0
/-- the state behind both constructors -/
def zSt0 : zS := fun i => match i with
  | 2 => fun j => if j = 1 then -1 else if j = 3 then -1 else 0
  | 4 => fun j => if j = 1 then -1 else if j = 3 then -1 else 0
  | 6 => fun j => if j = 1 then -1 else if j = 3 then -1 else 0
  | 8 => fun j => if j = 1 then -1 else if j = 3 then -1 else 0
  | 10 => fun j => if j = 1 then -1 else if j = 3 then -1 else 0
  | 12 => fun j => if j = 1 then -1 else if j = 3 then -1 else 0
  | 14 => fun j => if j = 1 then -1 else if j = 3 then -1 else 0
  | 16 => fun j => if j = 1 then -1 else if j = 3 then -1 else 0
  | 18 => fun j => if j = 1 then -1 else if j = 3 then -1 else 0
  | 20 => fun j => if j = 1 then -1 else if j = 3 then -1 else 0
  | 22 => fun j => if j = 15 then 99 else if j = 16 then 99 else 0
  | 25 => zrw0 48 (-1)
  | 27 => zrw0 24 (-1)
  | 52 => fun j => if j = 8 then 365 else 0
  | 59 => fun j => if j = 0 then 24 else 0
  | 61 => zrw0 24 (-1)
  | 62 => fun j => if j = 0 then 24 else 0
  | 64 => zrw0 24 (-1)
  | 65 => fun j => if j = 9 then -1 else 0
  | 79 => fun j => if j = 5 then -1 else if j = 6 then -1 else 0
  | 83 => fun j => if j = 10 then 1 else if j = 12 then -1 else if j = 13 then -1 else 0
  | 91 => fun j => if j = 0 then 9 else 0
  | 93 => zrw0 24 (-1)
  | 95 => zrw0 24 (-1)
  | 98 => fun j => if j = 11 then 365 else 0
  | 102 => zrw0 48 (-1)
  | 117 => fun j => if j = 0 ∨ j = 80 ∨ j = 160 ∨ j = 240 then 119 else 0
  | 118 => zrw0 4 1
  | 135 => zrw0 24 (-1)
  | 138 => zrw0 24 (-1)
  | 146 => zrw0 10452 (-1)
  | _ => fun _ => 0
def zrz (L : List Nat) : zS := fun i => if L.contains i = true then fun _ => 0 else zSt0 i
theorem zarrI : Cond.arrayClass .int ∈ zTb := zTb_in (zin_1 (List.mem_of_getElem? (i := 107) (by decide +kernel))) rfl
theorem zarrZ : Cond.arrayClass .boolean ∈ zTb := zTb_in (zin_7 (List.mem_of_getElem? (i := 192) (by decide +kernel))) rfl
theorem zarrJ : Cond.arrayClass .long ∈ zTb := zTb_in (zin_3 (List.mem_of_getElem? (i := 38) (by decide +kernel))) rfl
theorem zsubm {l l2 : List Nat} {i : Nat} (h : l.all (fun x => l2.contains x) = true) (hi : i ∈ l) : i ∈ l2 := List.contains_iff_mem.mp (List.all_eq_true.mp h i hi)
theorem dX5_init_0 : decode cX5_init 0 = .ok (.aload_n 0, 1) := by decide +kernel
theorem dX5_init_1 : decode cX5_init 1 = .ok (.invokespecial 3, 3) := by decide +kernel
theorem dX5_init_4 : decode cX5_init 4 = .ok (.aload_n 0, 1) := by decide +kernel
theorem dX5_init_5 : decode cX5_init 5 = .ok (.bipush 24, 2) := by decide +kernel
theorem dX5_init_7 : decode cX5_init 7 = .ok (.newarray .int, 2) := by decide +kernel
theorem dX5_init_9 : decode cX5_init 9 = .ok (.putfield 9, 3) := by decide +kernel
theorem dX5_init_12 : decode cX5_init 12 = .ok (.aload_n 0, 1) := by decide +kernel
theorem dX5_init_13 : decode cX5_init 13 = .ok (.bipush 48, 2) := by decide +kernel
theorem dX5_init_15 : decode cX5_init 15 = .ok (.newarray .int, 2) := by decide +kernel
theorem dX5_init_17 : decode cX5_init 17 = .ok (.putfield 15, 3) := by decide +kernel
theorem dX5_init_20 : decode cX5_init 20 = .ok (.aload_n 0, 1) := by decide +kernel
theorem dX5_init_21 : decode cX5_init 21 = .ok (.bipush 48, 2) := by decide +kernel
theorem dX5_init_23 : decode cX5_init 23 = .ok (.newarray .int, 2) := by decide +kernel
theorem dX5_init_25 : decode cX5_init 25 = .ok (.putfield 18, 3) := by decide +kernel
theorem dX5_init_28 : decode cX5_init 28 = .ok (.aload_n 0, 1) := by decide +kernel
theorem dX5_init_29 : decode cX5_init 29 = .ok (.bipush 24, 2) := by decide +kernel
theorem dX5_init_31 : decode cX5_init 31 = .ok (.newarray .int, 2) := by decide +kernel
theorem dX5_init_33 : decode cX5_init 33 = .ok (.putfield 21, 3) := by decide +kernel
theorem dX5_init_36 : decode cX5_init 36 = .ok (.aload_n 0, 1) := by decide +kernel
theorem dX5_init_37 : decode cX5_init 37 = .ok (.bipush 24, 2) := by decide +kernel
theorem dX5_init_39 : decode cX5_init 39 = .ok (.newarray .int, 2) := by decide +kernel
theorem dX5_init_41 : decode cX5_init 41 = .ok (.putfield 24, 3) := by decide +kernel
theorem dX5_init_44 : decode cX5_init 44 = .ok (.aload_n 0, 1) := by decide +kernel
theorem dX5_init_45 : decode cX5_init 45 = .ok (.sipush 400, 3) := by decide +kernel
theorem dX5_init_48 : decode cX5_init 48 = .ok (.newarray .int, 2) := by decide +kernel
theorem dX5_init_50 : decode cX5_init 50 = .ok (.putfield 27, 3) := by decide +kernel
theorem dX5_init_53 : decode cX5_init 53 = .ok (.aload_n 0, 1) := by decide +kernel
theorem dX5_init_54 : decode cX5_init 54 = .ok (.sipush 400, 3) := by decide +kernel
theorem dX5_init_57 : decode cX5_init 57 = .ok (.newarray .int, 2) := by decide +kernel
theorem dX5_init_59 : decode cX5_init 59 = .ok (.putfield 30, 3) := by decide +kernel
theorem dX5_init_62 : decode cX5_init 62 = .ok (.aload_n 0, 1) := by decide +kernel
theorem dX5_init_63 : decode cX5_init 63 = .ok (.sipush 400, 3) := by decide +kernel
theorem dX5_init_66 : decode cX5_init 66 = .ok (.newarray .int, 2) := by decide +kernel
theorem dX5_init_68 : decode cX5_init 68 = .ok (.putfield 33, 3) := by decide +kernel
theorem dX5_init_71 : decode cX5_init 71 = .ok (.aload_n 0, 1) := by decide +kernel
theorem dX5_init_72 : decode cX5_init 72 = .ok (.sipush 400, 3) := by decide +kernel
theorem dX5_init_75 : decode cX5_init 75 = .ok (.newarray .int, 2) := by decide +kernel
theorem dX5_init_77 : decode cX5_init 77 = .ok (.putfield 36, 3) := by decide +kernel
theorem dX5_init_80 : decode cX5_init 80 = .ok (.aload_n 0, 1) := by decide +kernel
theorem dX5_init_81 : decode cX5_init 81 = .ok (.bipush 24, 2) := by decide +kernel
theorem dX5_init_83 : decode cX5_init 83 = .ok (.newarray .int, 2) := by decide +kernel
theorem dX5_init_85 : decode cX5_init 85 = .ok (.putfield 39, 3) := by decide +kernel
theorem dX5_init_88 : decode cX5_init 88 = .ok (.aload_n 0, 1) := by decide +kernel
theorem dX5_init_89 : decode cX5_init 89 = .ok (.bipush 24, 2) := by decide +kernel
theorem dX5_init_91 : decode cX5_init 91 = .ok (.newarray .int, 2) := by decide +kernel
theorem dX5_init_93 : decode cX5_init 93 = .ok (.putfield 42, 3) := by decide +kernel
theorem dX5_init_96 : decode cX5_init 96 = .ok (.aload_n 0, 1) := by decide +kernel
theorem dX5_init_97 : decode cX5_init 97 = .ok (.bipush 24, 2) := by decide +kernel
theorem dX5_init_99 : decode cX5_init 99 = .ok (.newarray .int, 2) := by decide +kernel
theorem dX5_init_101 : decode cX5_init 101 = .ok (.putfield 45, 3) := by decide +kernel
theorem dX5_init_104 : decode cX5_init 104 = .ok (.aload_n 0, 1) := by decide +kernel
theorem dX5_init_105 : decode cX5_init 105 = .ok (.iconst 0, 1) := by decide +kernel
theorem dX5_init_106 : decode cX5_init 106 = .ok (.putfield 48, 3) := by decide +kernel
theorem dX5_init_109 : decode cX5_init 109 = .ok (.aload_n 0, 1) := by decide +kernel
theorem dX5_init_110 : decode cX5_init 110 = .ok (.iconst 0, 1) := by decide +kernel
theorem dX5_init_111 : decode cX5_init 111 = .ok (.putfield 52, 3) := by decide +kernel
theorem dX5_init_114 : decode cX5_init 114 = .ok (.aload_n 0, 1) := by decide +kernel
theorem dX5_init_115 : decode cX5_init 115 = .ok (.iconst 0, 1) := by decide +kernel
theorem dX5_init_116 : decode cX5_init 116 = .ok (.putfield 55, 3) := by decide +kernel
theorem dX5_init_119 : decode cX5_init 119 = .ok (.aload_n 0, 1) := by decide +kernel
theorem dX5_init_120 : decode cX5_init 120 = .ok (.bipush 99, 2) := by decide +kernel
theorem dX5_init_122 : decode cX5_init 122 = .ok (.putfield 58, 3) := by decide +kernel
theorem dX5_init_125 : decode cX5_init 125 = .ok (.aload_n 0, 1) := by decide +kernel
theorem dX5_init_126 : decode cX5_init 126 = .ok (.bipush 99, 2) := by decide +kernel
theorem dX5_init_128 : decode cX5_init 128 = .ok (.putfield 61, 3) := by decide +kernel
theorem dX5_init_131 : decode cX5_init 131 = .ok (.aload_n 0, 1) := by decide +kernel
theorem dX5_init_132 : decode cX5_init 132 = .ok (.getfield 18, 3) := by decide +kernel
theorem dX5_init_135 : decode cX5_init 135 = .ok (.iconst (-1), 1) := by decide +kernel
theorem dX5_init_136 : decode cX5_init 136 = .ok (.invokestatic 64, 3) := by decide +kernel
theorem dX5_init_139 : decode cX5_init 139 = .ok (.aload_n 0, 1) := by decide +kernel
theorem dX5_init_140 : decode cX5_init 140 = .ok (.getfield 24, 3) := by decide +kernel
theorem dX5_init_143 : decode cX5_init 143 = .ok (.iconst (-1), 1) := by decide +kernel
theorem dX5_init_144 : decode cX5_init 144 = .ok (.invokestatic 64, 3) := by decide +kernel
theorem dX5_init_147 : decode cX5_init 147 = .ok (.return_, 1) := by decide +kernel
set_option maxHeartbeats 4000000 in
set_option maxRecDepth 100000 in
theorem zi_X5_22 {G : zG} (hinj : zInj G) : zMi G MX5_init 12 1840 22 5 (fun _ => []) [34, 33, 32, 31, 30, 29, 28, 27, 26, 25, 24, 23] zSt0 := by
  refine zi_of (idx0 := 3) hinj rfl (by decide) rfl (fun _ => (Nat.le_of_ble_eq_true rfl)) dX5_init_0 dX5_init_1 (zin_1 (List.mem_of_getElem? (i := 33) (by decide +kernel))) (zin_1 (List.mem_of_getElem? (i := 24) (by decide +kernel))) (zin_1 (List.mem_of_getElem? (i := 25) rfl)) ⟨by decide, by decide⟩ ?_
  intro α p e s m args below meth c A lsr C hin hA w hl
  have hx := C.1
  have hb := C.2.1
  have w : zWq G A s.heap s.heap [] (zbw G α (zrz [25, 27]) 22 5 (zsh 22).2.2 [] (fun _ => []) []) := w
  have hl : lv_has lsr 1 [(0, .ref (α 22))] := hl
  obtain ⟨h0, e0⟩ : ∃ h, α 22 = h := ⟨_, rfl⟩
  rw [e0] at hl
  refine lv_aload_n hx hb dX5_init_4 rfl (lv_at hl 0 rfl) ?_
  refine lv_bipush (v := Int32.ofInt (24)) hx hb dX5_init_5 (by decide) ?_
  refine zb_arr (t0 := 0) (j := 23) (N := 24) (kf := 0) (a0 := (24, .inl (fun _ => 0))) (ty := .int) C hin hA w e0 rfl rfl zarrI (fun U cA cB h1 h2 => Option.some.inj (h1.symm.trans h2)) (fun _ => rfl) (fun α' => zcl_z0 (by decide +kernel) (by simp [zrz, zSt0])) (by decide) (by decide +kernel) (by decide +kernel) (by decide +kernel) (by decide +kernel) (by decide) (fun _ => rfl) flRX5_9 (q := (RX5, TX5, 17)) rfl rfl rfl (ty2 := .array .int) (by decide +kernel) (fun _ => rfl) (fun _ => rfl) (by decide +kernel) (Nat.le_of_ble_eq_true rfl) (Nat.le_of_ble_eq_true rfl) dX5_init_7 dX5_init_9 (fun α1 H1 locs1 hα1 w e0 => ?_)
  refine lv_aload_n hx hb dX5_init_12 rfl (lv_at hl 0 rfl) ?_
  refine lv_bipush (v := Int32.ofInt (48)) hx hb dX5_init_13 (by decide) ?_
  refine zb_arr (t0 := 0) (j := 24) (N := 48) (kf := 1) (a0 := (48, .inl (fun _ => 0))) (ty := .int) C hin hA w e0 rfl rfl zarrI (fun U cA cB h1 h2 => Option.some.inj (h1.symm.trans h2)) (fun _ => rfl) (fun α' => zcl_z0 (by decide +kernel) (by simp [zrz, zSt0])) (by decide) (by decide +kernel) (by decide +kernel) (by decide +kernel) (by decide +kernel) (by decide) (fun _ => rfl) flRX5_15 (q := (RX5, TX5, 17)) rfl rfl rfl (ty2 := .array .int) (by decide +kernel) (fun _ => rfl) (fun _ => rfl) (by decide +kernel) (Nat.le_of_ble_eq_true rfl) (Nat.le_of_ble_eq_true rfl) dX5_init_15 dX5_init_17 (fun α2 H1 locs1 hα2 w e0 => ?_)
  refine lv_aload_n hx hb dX5_init_20 rfl (lv_at hl 0 rfl) ?_
  refine lv_bipush (v := Int32.ofInt (48)) hx hb dX5_init_21 (by decide) ?_
  refine zb_arr (t0 := 0) (j := 25) (N := 48) (kf := 2) (a0 := (48, .inl (fun _ => 0))) (ty := .int) C hin hA w e0 rfl rfl zarrI (fun U cA cB h1 h2 => Option.some.inj (h1.symm.trans h2)) (fun _ => rfl) (fun α' => zcl_z0 (by decide +kernel) (by simp [zrz, zSt0])) (by decide) (by decide +kernel) (by decide +kernel) (by decide +kernel) (by decide +kernel) (by decide) (fun _ => rfl) flRX5_18 (q := (RX5, TX5, 17)) rfl rfl rfl (ty2 := .array .int) (by decide +kernel) (fun _ => rfl) (fun _ => rfl) (by decide +kernel) (Nat.le_of_ble_eq_true rfl) (Nat.le_of_ble_eq_true rfl) dX5_init_23 dX5_init_25 (fun α3 H1 locs1 hα3 w e0 => ?_)
  refine lv_aload_n hx hb dX5_init_28 rfl (lv_at hl 0 rfl) ?_
  refine lv_bipush (v := Int32.ofInt (24)) hx hb dX5_init_29 (by decide) ?_
  refine zb_arr (t0 := 0) (j := 26) (N := 24) (kf := 3) (a0 := (24, .inl (fun _ => 0))) (ty := .int) C hin hA w e0 rfl rfl zarrI (fun U cA cB h1 h2 => Option.some.inj (h1.symm.trans h2)) (fun _ => rfl) (fun α' => zcl_z0 (by decide +kernel) (by simp [zrz, zSt0])) (by decide) (by decide +kernel) (by decide +kernel) (by decide +kernel) (by decide +kernel) (by decide) (fun _ => rfl) flRX5_21 (q := (RX5, TX5, 17)) rfl rfl rfl (ty2 := .array .int) (by decide +kernel) (fun _ => rfl) (fun _ => rfl) (by decide +kernel) (Nat.le_of_ble_eq_true rfl) (Nat.le_of_ble_eq_true rfl) dX5_init_31 dX5_init_33 (fun α4 H1 locs1 hα4 w e0 => ?_)
  refine lv_aload_n hx hb dX5_init_36 rfl (lv_at hl 0 rfl) ?_
  refine lv_bipush (v := Int32.ofInt (24)) hx hb dX5_init_37 (by decide) ?_
  refine zb_arr (t0 := 0) (j := 27) (N := 24) (kf := 4) (a0 := (24, .inl (fun _ => 0))) (ty := .int) C hin hA w e0 rfl rfl zarrI (fun U cA cB h1 h2 => Option.some.inj (h1.symm.trans h2)) (fun _ => rfl) (fun α' => zcl_z0 (by decide +kernel) (by simp [zrz, zSt0])) (by decide) (by decide +kernel) (by decide +kernel) (by decide +kernel) (by decide +kernel) (by decide) (fun _ => rfl) flRX5_24 (q := (RX5, TX5, 17)) rfl rfl rfl (ty2 := .array .int) (by decide +kernel) (fun _ => rfl) (fun _ => rfl) (by decide +kernel) (Nat.le_of_ble_eq_true rfl) (Nat.le_of_ble_eq_true rfl) dX5_init_39 dX5_init_41 (fun α5 H1 locs1 hα5 w e0 => ?_)
  refine lv_aload_n hx hb dX5_init_44 rfl (lv_at hl 0 rfl) ?_
  refine lv_sipush (v := Int32.ofInt (400)) hx hb dX5_init_45 (by decide) ?_
  refine zb_arr (t0 := 0) (j := 28) (N := 400) (kf := 5) (a0 := (400, .inl (fun _ => 0))) (ty := .int) C hin hA w e0 rfl rfl zarrI (fun U cA cB h1 h2 => Option.some.inj (h1.symm.trans h2)) (fun _ => rfl) (fun α' => zcl_z0 (by decide +kernel) (by simp [zrz, zSt0])) (by decide) (by decide +kernel) (by decide +kernel) (by decide +kernel) (by decide +kernel) (by decide) (fun _ => rfl) flRX5_27 (q := (RX5, TX5, 17)) rfl rfl rfl (ty2 := .array .int) (by decide +kernel) (fun _ => rfl) (fun _ => rfl) (by decide +kernel) (Nat.le_of_ble_eq_true rfl) (Nat.le_of_ble_eq_true rfl) dX5_init_48 dX5_init_50 (fun α6 H1 locs1 hα6 w e0 => ?_)
  refine lv_aload_n hx hb dX5_init_53 rfl (lv_at hl 0 rfl) ?_
  refine lv_sipush (v := Int32.ofInt (400)) hx hb dX5_init_54 (by decide) ?_
  refine zb_arr (t0 := 0) (j := 29) (N := 400) (kf := 6) (a0 := (400, .inl (fun _ => 0))) (ty := .int) C hin hA w e0 rfl rfl zarrI (fun U cA cB h1 h2 => Option.some.inj (h1.symm.trans h2)) (fun _ => rfl) (fun α' => zcl_z0 (by decide +kernel) (by simp [zrz, zSt0])) (by decide) (by decide +kernel) (by decide +kernel) (by decide +kernel) (by decide +kernel) (by decide) (fun _ => rfl) flRX5_30 (q := (RX5, TX5, 17)) rfl rfl rfl (ty2 := .array .int) (by decide +kernel) (fun _ => rfl) (fun _ => rfl) (by decide +kernel) (Nat.le_of_ble_eq_true rfl) (Nat.le_of_ble_eq_true rfl) dX5_init_57 dX5_init_59 (fun α7 H1 locs1 hα7 w e0 => ?_)
  refine lv_aload_n hx hb dX5_init_62 rfl (lv_at hl 0 rfl) ?_
  refine lv_sipush (v := Int32.ofInt (400)) hx hb dX5_init_63 (by decide) ?_
  refine zb_arr (t0 := 0) (j := 30) (N := 400) (kf := 7) (a0 := (400, .inl (fun _ => 0))) (ty := .int) C hin hA w e0 rfl rfl zarrI (fun U cA cB h1 h2 => Option.some.inj (h1.symm.trans h2)) (fun _ => rfl) (fun α' => zcl_z0 (by decide +kernel) (by simp [zrz, zSt0])) (by decide) (by decide +kernel) (by decide +kernel) (by decide +kernel) (by decide +kernel) (by decide) (fun _ => rfl) flRX5_33 (q := (RX5, TX5, 17)) rfl rfl rfl (ty2 := .array .int) (by decide +kernel) (fun _ => rfl) (fun _ => rfl) (by decide +kernel) (Nat.le_of_ble_eq_true rfl) (Nat.le_of_ble_eq_true rfl) dX5_init_66 dX5_init_68 (fun α8 H1 locs1 hα8 w e0 => ?_)
  refine lv_aload_n hx hb dX5_init_71 rfl (lv_at hl 0 rfl) ?_
  refine lv_sipush (v := Int32.ofInt (400)) hx hb dX5_init_72 (by decide) ?_
  refine zb_arr (t0 := 0) (j := 31) (N := 400) (kf := 8) (a0 := (400, .inl (fun _ => 0))) (ty := .int) C hin hA w e0 rfl rfl zarrI (fun U cA cB h1 h2 => Option.some.inj (h1.symm.trans h2)) (fun _ => rfl) (fun α' => zcl_z0 (by decide +kernel) (by simp [zrz, zSt0])) (by decide) (by decide +kernel) (by decide +kernel) (by decide +kernel) (by decide +kernel) (by decide) (fun _ => rfl) flRX5_36 (q := (RX5, TX5, 17)) rfl rfl rfl (ty2 := .array .int) (by decide +kernel) (fun _ => rfl) (fun _ => rfl) (by decide +kernel) (Nat.le_of_ble_eq_true rfl) (Nat.le_of_ble_eq_true rfl) dX5_init_75 dX5_init_77 (fun α9 H1 locs1 hα9 w e0 => ?_)
  refine lv_aload_n hx hb dX5_init_80 rfl (lv_at hl 0 rfl) ?_
  refine lv_bipush (v := Int32.ofInt (24)) hx hb dX5_init_81 (by decide) ?_
  refine zb_arr (t0 := 0) (j := 32) (N := 24) (kf := 9) (a0 := (24, .inl (fun _ => 0))) (ty := .int) C hin hA w e0 rfl rfl zarrI (fun U cA cB h1 h2 => Option.some.inj (h1.symm.trans h2)) (fun _ => rfl) (fun α' => zcl_z0 (by decide +kernel) (by simp [zrz, zSt0])) (by decide) (by decide +kernel) (by decide +kernel) (by decide +kernel) (by decide +kernel) (by decide) (fun _ => rfl) flRX5_39 (q := (RX5, TX5, 17)) rfl rfl rfl (ty2 := .array .int) (by decide +kernel) (fun _ => rfl) (fun _ => rfl) (by decide +kernel) (Nat.le_of_ble_eq_true rfl) (Nat.le_of_ble_eq_true rfl) dX5_init_83 dX5_init_85 (fun α10 H1 locs1 hα10 w e0 => ?_)
  refine lv_aload_n hx hb dX5_init_88 rfl (lv_at hl 0 rfl) ?_
  refine lv_bipush (v := Int32.ofInt (24)) hx hb dX5_init_89 (by decide) ?_
  refine zb_arr (t0 := 0) (j := 33) (N := 24) (kf := 10) (a0 := (24, .inl (fun _ => 0))) (ty := .int) C hin hA w e0 rfl rfl zarrI (fun U cA cB h1 h2 => Option.some.inj (h1.symm.trans h2)) (fun _ => rfl) (fun α' => zcl_z0 (by decide +kernel) (by simp [zrz, zSt0])) (by decide) (by decide +kernel) (by decide +kernel) (by decide +kernel) (by decide +kernel) (by decide) (fun _ => rfl) flRX5_42 (q := (RX5, TX5, 17)) rfl rfl rfl (ty2 := .array .int) (by decide +kernel) (fun _ => rfl) (fun _ => rfl) (by decide +kernel) (Nat.le_of_ble_eq_true rfl) (Nat.le_of_ble_eq_true rfl) dX5_init_91 dX5_init_93 (fun α11 H1 locs1 hα11 w e0 => ?_)
  refine lv_aload_n hx hb dX5_init_96 rfl (lv_at hl 0 rfl) ?_
  refine lv_bipush (v := Int32.ofInt (24)) hx hb dX5_init_97 (by decide) ?_
  refine zb_arr (t0 := 0) (j := 34) (N := 24) (kf := 11) (a0 := (24, .inl (fun _ => 0))) (ty := .int) C hin hA w e0 rfl rfl zarrI (fun U cA cB h1 h2 => Option.some.inj (h1.symm.trans h2)) (fun _ => rfl) (fun α' => zcl_z0 (by decide +kernel) (by simp [zrz, zSt0])) (by decide) (by decide +kernel) (by decide +kernel) (by decide +kernel) (by decide +kernel) (by decide) (fun _ => rfl) flRX5_45 (q := (RX5, TX5, 17)) rfl rfl rfl (ty2 := .array .int) (by decide +kernel) (fun _ => rfl) (fun _ => rfl) (by decide +kernel) (Nat.le_of_ble_eq_true rfl) (Nat.le_of_ble_eq_true rfl) dX5_init_99 dX5_init_101 (fun α12 H1 locs1 hα12 w e0 => ?_)
  refine lv_aload_n hx hb dX5_init_104 rfl (lv_at hl 0 rfl) ?_
  refine lv_iconst (v := Int32.ofInt (0)) hx hb dX5_init_105 (by decide) ?_
  refine zb_put (kf := 12) (x := 0) C w e0 fpRX5_48 (by decide +kernel) dX5_init_106 (fun H1 locs1 w => ?_)
  refine lv_aload_n hx hb dX5_init_109 rfl (lv_at hl 0 rfl) ?_
  refine lv_iconst (v := Int32.ofInt (0)) hx hb dX5_init_110 (by decide) ?_
  refine zb_put (kf := 13) (x := 0) C w e0 fpRX5_52 (by decide +kernel) dX5_init_111 (fun H1 locs1 w => ?_)
  refine lv_aload_n hx hb dX5_init_114 rfl (lv_at hl 0 rfl) ?_
  refine lv_iconst (v := Int32.ofInt (0)) hx hb dX5_init_115 (by decide) ?_
  refine zb_put (kf := 14) (x := 0) C w e0 fpRX5_55 (by decide +kernel) dX5_init_116 (fun H1 locs1 w => ?_)
  refine lv_aload_n hx hb dX5_init_119 rfl (lv_at hl 0 rfl) ?_
  refine lv_bipush (v := Int32.ofInt (99)) hx hb dX5_init_120 (by decide) ?_
  refine zb_put (kf := 15) (x := 99) C w e0 fpRX5_58 (by decide +kernel) dX5_init_122 (fun H1 locs1 w => ?_)
  refine lv_aload_n hx hb dX5_init_125 rfl (lv_at hl 0 rfl) ?_
  refine lv_bipush (v := Int32.ofInt (99)) hx hb dX5_init_126 (by decide) ?_
  refine zb_put (kf := 16) (x := 99) C w e0 fpRX5_61 (by decide +kernel) dX5_init_128 (fun H1 locs1 w => ?_)
  refine lv_aload_n hx hb dX5_init_131 rfl (lv_at hl 0 rfl) ?_
  refine zb_get (kf := 2) (v := .inl 25) C w List.mem_cons_self e0 flRX5_18 (by decide +kernel) rfl dX5_init_132 ?_
  refine lv_iconst (v := Int32.ofInt (-1)) hx hb dX5_init_135 (by decide) ?_
  refine zb_fill (j := 25) (N := 48) (v := -1) C hA hl w (by decide +kernel) (by decide) (by decide) (by decide) lkRX5_64 ⟨by decide, by decide⟩ (Nat.le_of_ble_eq_true rfl) ⟨(Nat.le_of_ble_eq_true rfl), (Nat.le_of_ble_eq_true rfl)⟩ dX5_init_136 (fun H1 locs1 w => ?_)
  refine lv_aload_n hx hb dX5_init_139 rfl (lv_at hl 0 rfl) ?_
  refine zb_get (kf := 4) (v := .inl 27) C w List.mem_cons_self e0 flRX5_24 (by decide +kernel) rfl dX5_init_140 ?_
  refine lv_iconst (v := Int32.ofInt (-1)) hx hb dX5_init_143 (by decide) ?_
  refine zb_fill (j := 27) (N := 24) (v := -1) C hA hl w (by decide +kernel) (by decide) (by decide) (by decide) lkRX5_64 ⟨by decide, by decide⟩ (Nat.le_of_ble_eq_true rfl) ⟨(Nat.le_of_ble_eq_true rfl), (Nat.le_of_ble_eq_true rfl)⟩ dX5_init_144 (fun H1 locs1 w => ?_)
  have hrow : ∀ i ∈ ([34, 33, 32, 31, 30, 29, 28, 27, 26, 25, 24, 23] : List Nat), (zfl (zfl (zrz [25, 27]) 25 48 (-1)) 27 24 (-1)) i = zSt0 i := by
    intro i hi
    simp only [List.mem_cons, List.not_mem_nil, or_false] at hi
    rcases hi with rfl | rfl | rfl | rfl | rfl | rfl | rfl | rfl | rfl | rfl | rfl | rfl <;> (funext j; simp [zfl, zrz, zSt0, zrw0])
  exact zi_end (own := [34, 33, 32, 31, 30, 29, 28, 27, 26, 25, 24, 23]) C rfl w (by decide +kernel) (by decide +kernel) hrow (fun i hi => by rw [hα12 i (fun z => hi (by rw [z]; decide)), hα11 i (fun z => hi (by rw [z]; decide)), hα10 i (fun z => hi (by rw [z]; decide)), hα9 i (fun z => hi (by rw [z]; decide)), hα8 i (fun z => hi (by rw [z]; decide)), hα7 i (fun z => hi (by rw [z]; decide)), hα6 i (fun z => hi (by rw [z]; decide)), hα5 i (fun z => hi (by rw [z]; decide)), hα4 i (fun z => hi (by rw [z]; decide)), hα3 i (fun z => hi (by rw [z]; decide)), hα2 i (fun z => hi (by rw [z]; decide)), hα1 i (fun z => hi (by rw [z]; decide))]) ⟨(Nat.le_of_ble_eq_true rfl), (Nat.le_of_ble_eq_true rfl)⟩ dX5_init_147
theorem dX3_init_0 : decode cX3_init 0 = .ok (.aload_n 0, 1) := by decide +kernel
theorem dX3_init_1 : decode cX3_init 1 = .ok (.invokespecial 3, 3) := by decide +kernel
theorem dX3_init_4 : decode cX3_init 4 = .ok (.aload_n 0, 1) := by decide +kernel
theorem dX3_init_5 : decode cX3_init 5 = .ok (.bipush 31, 2) := by decide +kernel
theorem dX3_init_7 : decode cX3_init 7 = .ok (.newarray .int, 2) := by decide +kernel
theorem dX3_init_9 : decode cX3_init 9 = .ok (.putfield 11, 3) := by decide +kernel
theorem dX3_init_12 : decode cX3_init 12 = .ok (.aload_n 0, 1) := by decide +kernel
theorem dX3_init_13 : decode cX3_init 13 = .ok (.bipush 31, 2) := by decide +kernel
theorem dX3_init_15 : decode cX3_init 15 = .ok (.newarray .int, 2) := by decide +kernel
theorem dX3_init_17 : decode cX3_init 17 = .ok (.putfield 15, 3) := by decide +kernel
theorem dX3_init_20 : decode cX3_init 20 = .ok (.aload_n 0, 1) := by decide +kernel
theorem dX3_init_21 : decode cX3_init 21 = .ok (.bipush 31, 2) := by decide +kernel
theorem dX3_init_23 : decode cX3_init 23 = .ok (.newarray .int, 2) := by decide +kernel
theorem dX3_init_25 : decode cX3_init 25 = .ok (.putfield 18, 3) := by decide +kernel
theorem dX3_init_28 : decode cX3_init 28 = .ok (.aload_n 0, 1) := by decide +kernel
theorem dX3_init_29 : decode cX3_init 29 = .ok (.iconst 4, 1) := by decide +kernel
theorem dX3_init_30 : decode cX3_init 30 = .ok (.newarray .int, 2) := by decide +kernel
theorem dX3_init_32 : decode cX3_init 32 = .ok (.putfield 21, 3) := by decide +kernel
theorem dX3_init_35 : decode cX3_init 35 = .ok (.aload_n 0, 1) := by decide +kernel
theorem dX3_init_36 : decode cX3_init 36 = .ok (.aload_n 1, 1) := by decide +kernel
theorem dX3_init_37 : decode cX3_init 37 = .ok (.putfield 24, 3) := by decide +kernel
theorem dX3_init_40 : decode cX3_init 40 = .ok (.aload_n 0, 1) := by decide +kernel
theorem dX3_init_41 : decode cX3_init 41 = .ok (.aload_n 2, 1) := by decide +kernel
theorem dX3_init_42 : decode cX3_init 42 = .ok (.putfield 28, 3) := by decide +kernel
theorem dX3_init_45 : decode cX3_init 45 = .ok (.return_, 1) := by decide +kernel
set_option maxHeartbeats 4000000 in
set_option maxRecDepth 100000 in
theorem zi_X3_47 {G : zG} (hinj : zInj G) : zMi G MX3_init 4 97 47 3 (fun α => [.ref (α 22), .ref (α 35)]) [51, 50, 49, 48] zSt0 := by
  refine zi_of (idx0 := 3) hinj rfl (by decide) rfl (fun _ => (Nat.le_of_ble_eq_true rfl)) dX3_init_0 dX3_init_1 (zin_1 (List.mem_of_getElem? (i := 170) (by decide +kernel))) (zin_1 (List.mem_of_getElem? (i := 24) (by decide +kernel))) (zin_1 (List.mem_of_getElem? (i := 25) rfl)) ⟨by decide, by decide⟩ ?_
  intro α p e s m args below meth c A lsr C hin hA w hl
  have hx := C.1
  have hb := C.2.1
  have w : zWq G A s.heap s.heap [] (zbw G α zSt0 47 3 (zsh 47).2.2 [] (fun _ => []) []) := w
  have hl : lv_has lsr 3 [(0, .ref (α 47)), (1, .ref (α 22)), (2, .ref (α 35))] := hl
  obtain ⟨h0, e0⟩ : ∃ h, α 47 = h := ⟨_, rfl⟩
  rw [e0] at hl
  obtain ⟨h1, e1⟩ : ∃ h, α 22 = h := ⟨_, rfl⟩
  rw [e1] at hl
  obtain ⟨h2, e2⟩ : ∃ h, α 35 = h := ⟨_, rfl⟩
  rw [e2] at hl
  refine lv_aload_n hx hb dX3_init_4 rfl (lv_at hl 0 rfl) ?_
  refine lv_bipush (v := Int32.ofInt (31)) hx hb dX3_init_5 (by decide) ?_
  refine zb_arr (t0 := 0) (j := 48) (N := 31) (kf := 2) (a0 := (31, .inl (fun _ => 0))) (ty := .int) C hin hA w e0 rfl rfl zarrI (fun U cA cB h1 h2 => Option.some.inj (h1.symm.trans h2)) (fun _ => rfl) (fun α' => zcl_z0 (by decide +kernel) rfl) (by decide) (by decide +kernel) (by decide +kernel) (by decide +kernel) (by decide +kernel) (by decide) (fun _ => rfl) flRX3_11 (q := (RX3, TX3, 14)) rfl rfl rfl (ty2 := .array .int) (by decide +kernel) (fun _ => rfl) (fun _ => rfl) (by decide +kernel) (Nat.le_of_ble_eq_true rfl) (Nat.le_of_ble_eq_true rfl) dX3_init_7 dX3_init_9 (fun α1 H1 locs1 hα1 w e0 => ?_)
  have e1 : α1 22 = h1 := (hα1 22 (by decide)).trans e1
  have e2 : α1 35 = h2 := (hα1 35 (by decide)).trans e2
  refine lv_aload_n hx hb dX3_init_12 rfl (lv_at hl 0 rfl) ?_
  refine lv_bipush (v := Int32.ofInt (31)) hx hb dX3_init_13 (by decide) ?_
  refine zb_arr (t0 := 0) (j := 49) (N := 31) (kf := 3) (a0 := (31, .inl (fun _ => 0))) (ty := .int) C hin hA w e0 rfl rfl zarrI (fun U cA cB h1 h2 => Option.some.inj (h1.symm.trans h2)) (fun _ => rfl) (fun α' => zcl_z0 (by decide +kernel) rfl) (by decide) (by decide +kernel) (by decide +kernel) (by decide +kernel) (by decide +kernel) (by decide) (fun _ => rfl) flRX3_15 (q := (RX3, TX3, 14)) rfl rfl rfl (ty2 := .array .int) (by decide +kernel) (fun _ => rfl) (fun _ => rfl) (by decide +kernel) (Nat.le_of_ble_eq_true rfl) (Nat.le_of_ble_eq_true rfl) dX3_init_15 dX3_init_17 (fun α2 H1 locs1 hα2 w e0 => ?_)
  have e1 : α2 22 = h1 := (hα2 22 (by decide)).trans e1
  have e2 : α2 35 = h2 := (hα2 35 (by decide)).trans e2
  refine lv_aload_n hx hb dX3_init_20 rfl (lv_at hl 0 rfl) ?_
  refine lv_bipush (v := Int32.ofInt (31)) hx hb dX3_init_21 (by decide) ?_
  refine zb_arr (t0 := 0) (j := 50) (N := 31) (kf := 4) (a0 := (31, .inl (fun _ => 0))) (ty := .int) C hin hA w e0 rfl rfl zarrI (fun U cA cB h1 h2 => Option.some.inj (h1.symm.trans h2)) (fun _ => rfl) (fun α' => zcl_z0 (by decide +kernel) rfl) (by decide) (by decide +kernel) (by decide +kernel) (by decide +kernel) (by decide +kernel) (by decide) (fun _ => rfl) flRX3_18 (q := (RX3, TX3, 14)) rfl rfl rfl (ty2 := .array .int) (by decide +kernel) (fun _ => rfl) (fun _ => rfl) (by decide +kernel) (Nat.le_of_ble_eq_true rfl) (Nat.le_of_ble_eq_true rfl) dX3_init_23 dX3_init_25 (fun α3 H1 locs1 hα3 w e0 => ?_)
  have e1 : α3 22 = h1 := (hα3 22 (by decide)).trans e1
  have e2 : α3 35 = h2 := (hα3 35 (by decide)).trans e2
  refine lv_aload_n hx hb dX3_init_28 rfl (lv_at hl 0 rfl) ?_
  refine lv_iconst (v := Int32.ofInt (4)) hx hb dX3_init_29 (by decide) ?_
  refine zb_arr (t0 := 0) (j := 51) (N := 4) (kf := 5) (a0 := (4, .inl (fun _ => 0))) (ty := .int) C hin hA w e0 rfl rfl zarrI (fun U cA cB h1 h2 => Option.some.inj (h1.symm.trans h2)) (fun _ => rfl) (fun α' => zcl_z0 (by decide +kernel) rfl) (by decide) (by decide +kernel) (by decide +kernel) (by decide +kernel) (by decide +kernel) (by decide) (fun _ => rfl) flRX3_21 (q := (RX3, TX3, 14)) rfl rfl rfl (ty2 := .array .int) (by decide +kernel) (fun _ => rfl) (fun _ => rfl) (by decide +kernel) (Nat.le_of_ble_eq_true rfl) (Nat.le_of_ble_eq_true rfl) dX3_init_30 dX3_init_32 (fun α4 H1 locs1 hα4 w e0 => ?_)
  have e1 : α4 22 = h1 := (hα4 22 (by decide)).trans e1
  have e2 : α4 35 = h2 := (hα4 35 (by decide)).trans e2
  refine lv_aload_n hx hb dX3_init_35 rfl (lv_at hl 0 rfl) ?_
  refine lv_aload_n hx hb dX3_init_36 rfl (lv_at hl 1 rfl) ?_
  rw [← e1]
  refine zb_fin (v := .inl 22) (kf := 0) C hin w e0 flRX3_24 (q := (RX3, TX3, 14)) rfl rfl rfl (ty2 := .object "CollegeHouse$People") (by decide +kernel) rfl rfl (by decide +kernel) dX3_init_37 (fun H1 locs1 w => ?_)
  refine lv_aload_n hx hb dX3_init_40 rfl (lv_at hl 0 rfl) ?_
  refine lv_aload_n hx hb dX3_init_41 rfl (lv_at hl 2 rfl) ?_
  rw [← e2]
  refine zb_fin (v := .inl 35) (kf := 1) C hin w e0 flRX3_28 (q := (RX3, TX3, 14)) rfl rfl rfl (ty2 := .object "CollegeHouse$Statutes") (by decide +kernel) rfl rfl (by decide +kernel) dX3_init_42 (fun H1 locs1 w => ?_)
  exact zi_end (own := [51, 50, 49, 48]) C rfl w (by decide +kernel) (by decide +kernel) (fun _ _ => rfl) (fun i hi => by rw [hα4 i (fun z => hi (by rw [z]; decide)), hα3 i (fun z => hi (by rw [z]; decide)), hα2 i (fun z => hi (by rw [z]; decide)), hα1 i (fun z => hi (by rw [z]; decide))]) ⟨(Nat.le_of_ble_eq_true rfl), (Nat.le_of_ble_eq_true rfl)⟩ dX3_init_45
theorem dX9_init_0 : decode cX9_init 0 = .ok (.aload_n 0, 1) := by decide +kernel
theorem dX9_init_1 : decode cX9_init 1 = .ok (.invokespecial 3, 3) := by decide +kernel
theorem dX9_init_4 : decode cX9_init 4 = .ok (.aload_n 0, 1) := by decide +kernel
theorem dX9_init_5 : decode cX9_init 5 = .ok (.bipush 80, 2) := by decide +kernel
theorem dX9_init_7 : decode cX9_init 7 = .ok (.newarray .long, 2) := by decide +kernel
theorem dX9_init_9 : decode cX9_init 9 = .ok (.putfield 9, 3) := by decide +kernel
theorem dX9_init_12 : decode cX9_init 12 = .ok (.aload_n 0, 1) := by decide +kernel
theorem dX9_init_13 : decode cX9_init 13 = .ok (.iconst (-1), 1) := by decide +kernel
theorem dX9_init_14 : decode cX9_init 14 = .ok (.putfield 15, 3) := by decide +kernel
theorem dX9_init_17 : decode cX9_init 17 = .ok (.aload_n 0, 1) := by decide +kernel
theorem dX9_init_18 : decode cX9_init 18 = .ok (.iconst 0, 1) := by decide +kernel
theorem dX9_init_19 : decode cX9_init 19 = .ok (.putfield 19, 3) := by decide +kernel
theorem dX9_init_22 : decode cX9_init 22 = .ok (.aload_n 0, 1) := by decide +kernel
theorem dX9_init_23 : decode cX9_init 23 = .ok (.iconst (-1), 1) := by decide +kernel
theorem dX9_init_24 : decode cX9_init 24 = .ok (.putfield 22, 3) := by decide +kernel
theorem dX9_init_27 : decode cX9_init 27 = .ok (.return_, 1) := by decide +kernel
set_option maxHeartbeats 4000000 in
set_option maxRecDepth 100000 in
theorem zi_X9_2 {G : zG} (hinj : zInj G) : zMi G MX9_init 1 80 2 9 (fun _ => []) [3] zSt0 := by
  refine zi_of (idx0 := 3) hinj rfl (by decide) rfl (fun _ => (Nat.le_of_ble_eq_true rfl)) dX9_init_0 dX9_init_1 (zin_3 (List.mem_of_getElem? (i := 18) (by decide +kernel))) (zin_1 (List.mem_of_getElem? (i := 24) (by decide +kernel))) (zin_1 (List.mem_of_getElem? (i := 25) rfl)) ⟨by decide, by decide⟩ ?_
  intro α p e s m args below meth c A lsr C hin hA w hl
  have hx := C.1
  have hb := C.2.1
  have w : zWq G A s.heap s.heap [] (zbw G α zSt0 2 9 (zsh 2).2.2 [] (fun _ => []) []) := w
  have hl : lv_has lsr 1 [(0, .ref (α 2))] := hl
  obtain ⟨h0, e0⟩ : ∃ h, α 2 = h := ⟨_, rfl⟩
  rw [e0] at hl
  refine lv_aload_n hx hb dX9_init_4 rfl (lv_at hl 0 rfl) ?_
  refine lv_bipush (v := Int32.ofInt (80)) hx hb dX9_init_5 (by decide) ?_
  refine zb_arr (t0 := 2) (j := 3) (N := 80) (kf := 0) (a0 := (80, .inr (.inl (fun _ => 0)))) (ty := .long) C hin hA w e0 rfl rfl zarrJ (fun U cA cB h1 h2 => Option.some.inj (h1.symm.trans h2)) (fun _ => rfl) (fun α' => zcl_z2 (by decide +kernel) rfl) (by decide) (by decide +kernel) (by decide +kernel) (by decide +kernel) (by decide +kernel) (by decide) (fun _ => rfl) flRX9_9 (q := (RX9, TX9, 4)) rfl rfl rfl (ty2 := .array .long) (by decide +kernel) (fun _ => rfl) (fun _ => rfl) (by decide +kernel) (Nat.le_of_ble_eq_true rfl) (Nat.le_of_ble_eq_true rfl) dX9_init_7 dX9_init_9 (fun α1 H1 locs1 hα1 w e0 => ?_)
  refine lv_aload_n hx hb dX9_init_12 rfl (lv_at hl 0 rfl) ?_
  refine lv_iconst (v := Int32.ofInt (-1)) hx hb dX9_init_13 (by decide) ?_
  refine zb_put (kf := 1) (x := -1) C w e0 fpRX9_15 (by decide +kernel) dX9_init_14 (fun H1 locs1 w => ?_)
  refine lv_aload_n hx hb dX9_init_17 rfl (lv_at hl 0 rfl) ?_
  refine lv_iconst (v := Int32.ofInt (0)) hx hb dX9_init_18 (by decide) ?_
  refine zb_put (kf := 2) (x := 0) C w e0 fpRX9_19 (by decide +kernel) dX9_init_19 (fun H1 locs1 w => ?_)
  refine lv_aload_n hx hb dX9_init_22 rfl (lv_at hl 0 rfl) ?_
  refine lv_iconst (v := Int32.ofInt (-1)) hx hb dX9_init_23 (by decide) ?_
  refine zb_put (kf := 3) (x := -1) C w e0 fpRX9_22 (by decide +kernel) dX9_init_24 (fun H1 locs1 w => ?_)
  exact zi_end (own := [3]) C rfl w (by decide +kernel) (by decide +kernel) (fun _ _ => rfl) (fun i hi => by rw [hα1 i (fun z => hi (by rw [z]; decide))]) ⟨(Nat.le_of_ble_eq_true rfl), (Nat.le_of_ble_eq_true rfl)⟩ dX9_init_27
set_option maxHeartbeats 4000000 in
set_option maxRecDepth 100000 in
theorem zi_X9_4 {G : zG} (hinj : zInj G) : zMi G MX9_init 1 80 4 9 (fun _ => []) [5] zSt0 := by
  refine zi_of (idx0 := 3) hinj rfl (by decide) rfl (fun _ => (Nat.le_of_ble_eq_true rfl)) dX9_init_0 dX9_init_1 (zin_3 (List.mem_of_getElem? (i := 18) (by decide +kernel))) (zin_1 (List.mem_of_getElem? (i := 24) (by decide +kernel))) (zin_1 (List.mem_of_getElem? (i := 25) rfl)) ⟨by decide, by decide⟩ ?_
  intro α p e s m args below meth c A lsr C hin hA w hl
  have hx := C.1
  have hb := C.2.1
  have w : zWq G A s.heap s.heap [] (zbw G α zSt0 4 9 (zsh 4).2.2 [] (fun _ => []) []) := w
  have hl : lv_has lsr 1 [(0, .ref (α 4))] := hl
  obtain ⟨h0, e0⟩ : ∃ h, α 4 = h := ⟨_, rfl⟩
  rw [e0] at hl
  refine lv_aload_n hx hb dX9_init_4 rfl (lv_at hl 0 rfl) ?_
  refine lv_bipush (v := Int32.ofInt (80)) hx hb dX9_init_5 (by decide) ?_
  refine zb_arr (t0 := 2) (j := 5) (N := 80) (kf := 0) (a0 := (80, .inr (.inl (fun _ => 0)))) (ty := .long) C hin hA w e0 rfl rfl zarrJ (fun U cA cB h1 h2 => Option.some.inj (h1.symm.trans h2)) (fun _ => rfl) (fun α' => zcl_z2 (by decide +kernel) rfl) (by decide) (by decide +kernel) (by decide +kernel) (by decide +kernel) (by decide +kernel) (by decide) (fun _ => rfl) flRX9_9 (q := (RX9, TX9, 4)) rfl rfl rfl (ty2 := .array .long) (by decide +kernel) (fun _ => rfl) (fun _ => rfl) (by decide +kernel) (Nat.le_of_ble_eq_true rfl) (Nat.le_of_ble_eq_true rfl) dX9_init_7 dX9_init_9 (fun α1 H1 locs1 hα1 w e0 => ?_)
  refine lv_aload_n hx hb dX9_init_12 rfl (lv_at hl 0 rfl) ?_
  refine lv_iconst (v := Int32.ofInt (-1)) hx hb dX9_init_13 (by decide) ?_
  refine zb_put (kf := 1) (x := -1) C w e0 fpRX9_15 (by decide +kernel) dX9_init_14 (fun H1 locs1 w => ?_)
  refine lv_aload_n hx hb dX9_init_17 rfl (lv_at hl 0 rfl) ?_
  refine lv_iconst (v := Int32.ofInt (0)) hx hb dX9_init_18 (by decide) ?_
  refine zb_put (kf := 2) (x := 0) C w e0 fpRX9_19 (by decide +kernel) dX9_init_19 (fun H1 locs1 w => ?_)
  refine lv_aload_n hx hb dX9_init_22 rfl (lv_at hl 0 rfl) ?_
  refine lv_iconst (v := Int32.ofInt (-1)) hx hb dX9_init_23 (by decide) ?_
  refine zb_put (kf := 3) (x := -1) C w e0 fpRX9_22 (by decide +kernel) dX9_init_24 (fun H1 locs1 w => ?_)
  exact zi_end (own := [5]) C rfl w (by decide +kernel) (by decide +kernel) (fun _ _ => rfl) (fun i hi => by rw [hα1 i (fun z => hi (by rw [z]; decide))]) ⟨(Nat.le_of_ble_eq_true rfl), (Nat.le_of_ble_eq_true rfl)⟩ dX9_init_27
set_option maxHeartbeats 4000000 in
set_option maxRecDepth 100000 in
theorem zi_X9_6 {G : zG} (hinj : zInj G) : zMi G MX9_init 1 80 6 9 (fun _ => []) [7] zSt0 := by
  refine zi_of (idx0 := 3) hinj rfl (by decide) rfl (fun _ => (Nat.le_of_ble_eq_true rfl)) dX9_init_0 dX9_init_1 (zin_3 (List.mem_of_getElem? (i := 18) (by decide +kernel))) (zin_1 (List.mem_of_getElem? (i := 24) (by decide +kernel))) (zin_1 (List.mem_of_getElem? (i := 25) rfl)) ⟨by decide, by decide⟩ ?_
  intro α p e s m args below meth c A lsr C hin hA w hl
  have hx := C.1
  have hb := C.2.1
  have w : zWq G A s.heap s.heap [] (zbw G α zSt0 6 9 (zsh 6).2.2 [] (fun _ => []) []) := w
  have hl : lv_has lsr 1 [(0, .ref (α 6))] := hl
  obtain ⟨h0, e0⟩ : ∃ h, α 6 = h := ⟨_, rfl⟩
  rw [e0] at hl
  refine lv_aload_n hx hb dX9_init_4 rfl (lv_at hl 0 rfl) ?_
  refine lv_bipush (v := Int32.ofInt (80)) hx hb dX9_init_5 (by decide) ?_
  refine zb_arr (t0 := 2) (j := 7) (N := 80) (kf := 0) (a0 := (80, .inr (.inl (fun _ => 0)))) (ty := .long) C hin hA w e0 rfl rfl zarrJ (fun U cA cB h1 h2 => Option.some.inj (h1.symm.trans h2)) (fun _ => rfl) (fun α' => zcl_z2 (by decide +kernel) rfl) (by decide) (by decide +kernel) (by decide +kernel) (by decide +kernel) (by decide +kernel) (by decide) (fun _ => rfl) flRX9_9 (q := (RX9, TX9, 4)) rfl rfl rfl (ty2 := .array .long) (by decide +kernel) (fun _ => rfl) (fun _ => rfl) (by decide +kernel) (Nat.le_of_ble_eq_true rfl) (Nat.le_of_ble_eq_true rfl) dX9_init_7 dX9_init_9 (fun α1 H1 locs1 hα1 w e0 => ?_)
  refine lv_aload_n hx hb dX9_init_12 rfl (lv_at hl 0 rfl) ?_
  refine lv_iconst (v := Int32.ofInt (-1)) hx hb dX9_init_13 (by decide) ?_
  refine zb_put (kf := 1) (x := -1) C w e0 fpRX9_15 (by decide +kernel) dX9_init_14 (fun H1 locs1 w => ?_)
  refine lv_aload_n hx hb dX9_init_17 rfl (lv_at hl 0 rfl) ?_
  refine lv_iconst (v := Int32.ofInt (0)) hx hb dX9_init_18 (by decide) ?_
  refine zb_put (kf := 2) (x := 0) C w e0 fpRX9_19 (by decide +kernel) dX9_init_19 (fun H1 locs1 w => ?_)
  refine lv_aload_n hx hb dX9_init_22 rfl (lv_at hl 0 rfl) ?_
  refine lv_iconst (v := Int32.ofInt (-1)) hx hb dX9_init_23 (by decide) ?_
  refine zb_put (kf := 3) (x := -1) C w e0 fpRX9_22 (by decide +kernel) dX9_init_24 (fun H1 locs1 w => ?_)
  exact zi_end (own := [7]) C rfl w (by decide +kernel) (by decide +kernel) (fun _ _ => rfl) (fun i hi => by rw [hα1 i (fun z => hi (by rw [z]; decide))]) ⟨(Nat.le_of_ble_eq_true rfl), (Nat.le_of_ble_eq_true rfl)⟩ dX9_init_27
set_option maxHeartbeats 4000000 in
set_option maxRecDepth 100000 in
theorem zi_X9_8 {G : zG} (hinj : zInj G) : zMi G MX9_init 1 80 8 9 (fun _ => []) [9] zSt0 := by
  refine zi_of (idx0 := 3) hinj rfl (by decide) rfl (fun _ => (Nat.le_of_ble_eq_true rfl)) dX9_init_0 dX9_init_1 (zin_3 (List.mem_of_getElem? (i := 18) (by decide +kernel))) (zin_1 (List.mem_of_getElem? (i := 24) (by decide +kernel))) (zin_1 (List.mem_of_getElem? (i := 25) rfl)) ⟨by decide, by decide⟩ ?_
  intro α p e s m args below meth c A lsr C hin hA w hl
  have hx := C.1
  have hb := C.2.1
  have w : zWq G A s.heap s.heap [] (zbw G α zSt0 8 9 (zsh 8).2.2 [] (fun _ => []) []) := w
  have hl : lv_has lsr 1 [(0, .ref (α 8))] := hl
  obtain ⟨h0, e0⟩ : ∃ h, α 8 = h := ⟨_, rfl⟩
  rw [e0] at hl
  refine lv_aload_n hx hb dX9_init_4 rfl (lv_at hl 0 rfl) ?_
  refine lv_bipush (v := Int32.ofInt (80)) hx hb dX9_init_5 (by decide) ?_
  refine zb_arr (t0 := 2) (j := 9) (N := 80) (kf := 0) (a0 := (80, .inr (.inl (fun _ => 0)))) (ty := .long) C hin hA w e0 rfl rfl zarrJ (fun U cA cB h1 h2 => Option.some.inj (h1.symm.trans h2)) (fun _ => rfl) (fun α' => zcl_z2 (by decide +kernel) rfl) (by decide) (by decide +kernel) (by decide +kernel) (by decide +kernel) (by decide +kernel) (by decide) (fun _ => rfl) flRX9_9 (q := (RX9, TX9, 4)) rfl rfl rfl (ty2 := .array .long) (by decide +kernel) (fun _ => rfl) (fun _ => rfl) (by decide +kernel) (Nat.le_of_ble_eq_true rfl) (Nat.le_of_ble_eq_true rfl) dX9_init_7 dX9_init_9 (fun α1 H1 locs1 hα1 w e0 => ?_)
  refine lv_aload_n hx hb dX9_init_12 rfl (lv_at hl 0 rfl) ?_
  refine lv_iconst (v := Int32.ofInt (-1)) hx hb dX9_init_13 (by decide) ?_
  refine zb_put (kf := 1) (x := -1) C w e0 fpRX9_15 (by decide +kernel) dX9_init_14 (fun H1 locs1 w => ?_)
  refine lv_aload_n hx hb dX9_init_17 rfl (lv_at hl 0 rfl) ?_
  refine lv_iconst (v := Int32.ofInt (0)) hx hb dX9_init_18 (by decide) ?_
  refine zb_put (kf := 2) (x := 0) C w e0 fpRX9_19 (by decide +kernel) dX9_init_19 (fun H1 locs1 w => ?_)
  refine lv_aload_n hx hb dX9_init_22 rfl (lv_at hl 0 rfl) ?_
  refine lv_iconst (v := Int32.ofInt (-1)) hx hb dX9_init_23 (by decide) ?_
  refine zb_put (kf := 3) (x := -1) C w e0 fpRX9_22 (by decide +kernel) dX9_init_24 (fun H1 locs1 w => ?_)
  exact zi_end (own := [9]) C rfl w (by decide +kernel) (by decide +kernel) (fun _ _ => rfl) (fun i hi => by rw [hα1 i (fun z => hi (by rw [z]; decide))]) ⟨(Nat.le_of_ble_eq_true rfl), (Nat.le_of_ble_eq_true rfl)⟩ dX9_init_27
set_option maxHeartbeats 4000000 in
set_option maxRecDepth 100000 in
theorem zi_X9_10 {G : zG} (hinj : zInj G) : zMi G MX9_init 1 80 10 9 (fun _ => []) [11] zSt0 := by
  refine zi_of (idx0 := 3) hinj rfl (by decide) rfl (fun _ => (Nat.le_of_ble_eq_true rfl)) dX9_init_0 dX9_init_1 (zin_3 (List.mem_of_getElem? (i := 18) (by decide +kernel))) (zin_1 (List.mem_of_getElem? (i := 24) (by decide +kernel))) (zin_1 (List.mem_of_getElem? (i := 25) rfl)) ⟨by decide, by decide⟩ ?_
  intro α p e s m args below meth c A lsr C hin hA w hl
  have hx := C.1
  have hb := C.2.1
  have w : zWq G A s.heap s.heap [] (zbw G α zSt0 10 9 (zsh 10).2.2 [] (fun _ => []) []) := w
  have hl : lv_has lsr 1 [(0, .ref (α 10))] := hl
  obtain ⟨h0, e0⟩ : ∃ h, α 10 = h := ⟨_, rfl⟩
  rw [e0] at hl
  refine lv_aload_n hx hb dX9_init_4 rfl (lv_at hl 0 rfl) ?_
  refine lv_bipush (v := Int32.ofInt (80)) hx hb dX9_init_5 (by decide) ?_
  refine zb_arr (t0 := 2) (j := 11) (N := 80) (kf := 0) (a0 := (80, .inr (.inl (fun _ => 0)))) (ty := .long) C hin hA w e0 rfl rfl zarrJ (fun U cA cB h1 h2 => Option.some.inj (h1.symm.trans h2)) (fun _ => rfl) (fun α' => zcl_z2 (by decide +kernel) rfl) (by decide) (by decide +kernel) (by decide +kernel) (by decide +kernel) (by decide +kernel) (by decide) (fun _ => rfl) flRX9_9 (q := (RX9, TX9, 4)) rfl rfl rfl (ty2 := .array .long) (by decide +kernel) (fun _ => rfl) (fun _ => rfl) (by decide +kernel) (Nat.le_of_ble_eq_true rfl) (Nat.le_of_ble_eq_true rfl) dX9_init_7 dX9_init_9 (fun α1 H1 locs1 hα1 w e0 => ?_)
  refine lv_aload_n hx hb dX9_init_12 rfl (lv_at hl 0 rfl) ?_
  refine lv_iconst (v := Int32.ofInt (-1)) hx hb dX9_init_13 (by decide) ?_
  refine zb_put (kf := 1) (x := -1) C w e0 fpRX9_15 (by decide +kernel) dX9_init_14 (fun H1 locs1 w => ?_)
  refine lv_aload_n hx hb dX9_init_17 rfl (lv_at hl 0 rfl) ?_
  refine lv_iconst (v := Int32.ofInt (0)) hx hb dX9_init_18 (by decide) ?_
  refine zb_put (kf := 2) (x := 0) C w e0 fpRX9_19 (by decide +kernel) dX9_init_19 (fun H1 locs1 w => ?_)
  refine lv_aload_n hx hb dX9_init_22 rfl (lv_at hl 0 rfl) ?_
  refine lv_iconst (v := Int32.ofInt (-1)) hx hb dX9_init_23 (by decide) ?_
  refine zb_put (kf := 3) (x := -1) C w e0 fpRX9_22 (by decide +kernel) dX9_init_24 (fun H1 locs1 w => ?_)
  exact zi_end (own := [11]) C rfl w (by decide +kernel) (by decide +kernel) (fun _ _ => rfl) (fun i hi => by rw [hα1 i (fun z => hi (by rw [z]; decide))]) ⟨(Nat.le_of_ble_eq_true rfl), (Nat.le_of_ble_eq_true rfl)⟩ dX9_init_27
set_option maxHeartbeats 4000000 in
set_option maxRecDepth 100000 in
theorem zi_X9_12 {G : zG} (hinj : zInj G) : zMi G MX9_init 1 80 12 9 (fun _ => []) [13] zSt0 := by
  refine zi_of (idx0 := 3) hinj rfl (by decide) rfl (fun _ => (Nat.le_of_ble_eq_true rfl)) dX9_init_0 dX9_init_1 (zin_3 (List.mem_of_getElem? (i := 18) (by decide +kernel))) (zin_1 (List.mem_of_getElem? (i := 24) (by decide +kernel))) (zin_1 (List.mem_of_getElem? (i := 25) rfl)) ⟨by decide, by decide⟩ ?_
  intro α p e s m args below meth c A lsr C hin hA w hl
  have hx := C.1
  have hb := C.2.1
  have w : zWq G A s.heap s.heap [] (zbw G α zSt0 12 9 (zsh 12).2.2 [] (fun _ => []) []) := w
  have hl : lv_has lsr 1 [(0, .ref (α 12))] := hl
  obtain ⟨h0, e0⟩ : ∃ h, α 12 = h := ⟨_, rfl⟩
  rw [e0] at hl
  refine lv_aload_n hx hb dX9_init_4 rfl (lv_at hl 0 rfl) ?_
  refine lv_bipush (v := Int32.ofInt (80)) hx hb dX9_init_5 (by decide) ?_
  refine zb_arr (t0 := 2) (j := 13) (N := 80) (kf := 0) (a0 := (80, .inr (.inl (fun _ => 0)))) (ty := .long) C hin hA w e0 rfl rfl zarrJ (fun U cA cB h1 h2 => Option.some.inj (h1.symm.trans h2)) (fun _ => rfl) (fun α' => zcl_z2 (by decide +kernel) rfl) (by decide) (by decide +kernel) (by decide +kernel) (by decide +kernel) (by decide +kernel) (by decide) (fun _ => rfl) flRX9_9 (q := (RX9, TX9, 4)) rfl rfl rfl (ty2 := .array .long) (by decide +kernel) (fun _ => rfl) (fun _ => rfl) (by decide +kernel) (Nat.le_of_ble_eq_true rfl) (Nat.le_of_ble_eq_true rfl) dX9_init_7 dX9_init_9 (fun α1 H1 locs1 hα1 w e0 => ?_)
  refine lv_aload_n hx hb dX9_init_12 rfl (lv_at hl 0 rfl) ?_
  refine lv_iconst (v := Int32.ofInt (-1)) hx hb dX9_init_13 (by decide) ?_
  refine zb_put (kf := 1) (x := -1) C w e0 fpRX9_15 (by decide +kernel) dX9_init_14 (fun H1 locs1 w => ?_)
  refine lv_aload_n hx hb dX9_init_17 rfl (lv_at hl 0 rfl) ?_
  refine lv_iconst (v := Int32.ofInt (0)) hx hb dX9_init_18 (by decide) ?_
  refine zb_put (kf := 2) (x := 0) C w e0 fpRX9_19 (by decide +kernel) dX9_init_19 (fun H1 locs1 w => ?_)
  refine lv_aload_n hx hb dX9_init_22 rfl (lv_at hl 0 rfl) ?_
  refine lv_iconst (v := Int32.ofInt (-1)) hx hb dX9_init_23 (by decide) ?_
  refine zb_put (kf := 3) (x := -1) C w e0 fpRX9_22 (by decide +kernel) dX9_init_24 (fun H1 locs1 w => ?_)
  exact zi_end (own := [13]) C rfl w (by decide +kernel) (by decide +kernel) (fun _ _ => rfl) (fun i hi => by rw [hα1 i (fun z => hi (by rw [z]; decide))]) ⟨(Nat.le_of_ble_eq_true rfl), (Nat.le_of_ble_eq_true rfl)⟩ dX9_init_27
set_option maxHeartbeats 4000000 in
set_option maxRecDepth 100000 in
theorem zi_X9_14 {G : zG} (hinj : zInj G) : zMi G MX9_init 1 80 14 9 (fun _ => []) [15] zSt0 := by
  refine zi_of (idx0 := 3) hinj rfl (by decide) rfl (fun _ => (Nat.le_of_ble_eq_true rfl)) dX9_init_0 dX9_init_1 (zin_3 (List.mem_of_getElem? (i := 18) (by decide +kernel))) (zin_1 (List.mem_of_getElem? (i := 24) (by decide +kernel))) (zin_1 (List.mem_of_getElem? (i := 25) rfl)) ⟨by decide, by decide⟩ ?_
  intro α p e s m args below meth c A lsr C hin hA w hl
  have hx := C.1
  have hb := C.2.1
  have w : zWq G A s.heap s.heap [] (zbw G α zSt0 14 9 (zsh 14).2.2 [] (fun _ => []) []) := w
  have hl : lv_has lsr 1 [(0, .ref (α 14))] := hl
  obtain ⟨h0, e0⟩ : ∃ h, α 14 = h := ⟨_, rfl⟩
  rw [e0] at hl
  refine lv_aload_n hx hb dX9_init_4 rfl (lv_at hl 0 rfl) ?_
  refine lv_bipush (v := Int32.ofInt (80)) hx hb dX9_init_5 (by decide) ?_
  refine zb_arr (t0 := 2) (j := 15) (N := 80) (kf := 0) (a0 := (80, .inr (.inl (fun _ => 0)))) (ty := .long) C hin hA w e0 rfl rfl zarrJ (fun U cA cB h1 h2 => Option.some.inj (h1.symm.trans h2)) (fun _ => rfl) (fun α' => zcl_z2 (by decide +kernel) rfl) (by decide) (by decide +kernel) (by decide +kernel) (by decide +kernel) (by decide +kernel) (by decide) (fun _ => rfl) flRX9_9 (q := (RX9, TX9, 4)) rfl rfl rfl (ty2 := .array .long) (by decide +kernel) (fun _ => rfl) (fun _ => rfl) (by decide +kernel) (Nat.le_of_ble_eq_true rfl) (Nat.le_of_ble_eq_true rfl) dX9_init_7 dX9_init_9 (fun α1 H1 locs1 hα1 w e0 => ?_)
  refine lv_aload_n hx hb dX9_init_12 rfl (lv_at hl 0 rfl) ?_
  refine lv_iconst (v := Int32.ofInt (-1)) hx hb dX9_init_13 (by decide) ?_
  refine zb_put (kf := 1) (x := -1) C w e0 fpRX9_15 (by decide +kernel) dX9_init_14 (fun H1 locs1 w => ?_)
  refine lv_aload_n hx hb dX9_init_17 rfl (lv_at hl 0 rfl) ?_
  refine lv_iconst (v := Int32.ofInt (0)) hx hb dX9_init_18 (by decide) ?_
  refine zb_put (kf := 2) (x := 0) C w e0 fpRX9_19 (by decide +kernel) dX9_init_19 (fun H1 locs1 w => ?_)
  refine lv_aload_n hx hb dX9_init_22 rfl (lv_at hl 0 rfl) ?_
  refine lv_iconst (v := Int32.ofInt (-1)) hx hb dX9_init_23 (by decide) ?_
  refine zb_put (kf := 3) (x := -1) C w e0 fpRX9_22 (by decide +kernel) dX9_init_24 (fun H1 locs1 w => ?_)
  exact zi_end (own := [15]) C rfl w (by decide +kernel) (by decide +kernel) (fun _ _ => rfl) (fun i hi => by rw [hα1 i (fun z => hi (by rw [z]; decide))]) ⟨(Nat.le_of_ble_eq_true rfl), (Nat.le_of_ble_eq_true rfl)⟩ dX9_init_27
set_option maxHeartbeats 4000000 in
set_option maxRecDepth 100000 in
theorem zi_X9_16 {G : zG} (hinj : zInj G) : zMi G MX9_init 1 80 16 9 (fun _ => []) [17] zSt0 := by
  refine zi_of (idx0 := 3) hinj rfl (by decide) rfl (fun _ => (Nat.le_of_ble_eq_true rfl)) dX9_init_0 dX9_init_1 (zin_3 (List.mem_of_getElem? (i := 18) (by decide +kernel))) (zin_1 (List.mem_of_getElem? (i := 24) (by decide +kernel))) (zin_1 (List.mem_of_getElem? (i := 25) rfl)) ⟨by decide, by decide⟩ ?_
  intro α p e s m args below meth c A lsr C hin hA w hl
  have hx := C.1
  have hb := C.2.1
  have w : zWq G A s.heap s.heap [] (zbw G α zSt0 16 9 (zsh 16).2.2 [] (fun _ => []) []) := w
  have hl : lv_has lsr 1 [(0, .ref (α 16))] := hl
  obtain ⟨h0, e0⟩ : ∃ h, α 16 = h := ⟨_, rfl⟩
  rw [e0] at hl
  refine lv_aload_n hx hb dX9_init_4 rfl (lv_at hl 0 rfl) ?_
  refine lv_bipush (v := Int32.ofInt (80)) hx hb dX9_init_5 (by decide) ?_
  refine zb_arr (t0 := 2) (j := 17) (N := 80) (kf := 0) (a0 := (80, .inr (.inl (fun _ => 0)))) (ty := .long) C hin hA w e0 rfl rfl zarrJ (fun U cA cB h1 h2 => Option.some.inj (h1.symm.trans h2)) (fun _ => rfl) (fun α' => zcl_z2 (by decide +kernel) rfl) (by decide) (by decide +kernel) (by decide +kernel) (by decide +kernel) (by decide +kernel) (by decide) (fun _ => rfl) flRX9_9 (q := (RX9, TX9, 4)) rfl rfl rfl (ty2 := .array .long) (by decide +kernel) (fun _ => rfl) (fun _ => rfl) (by decide +kernel) (Nat.le_of_ble_eq_true rfl) (Nat.le_of_ble_eq_true rfl) dX9_init_7 dX9_init_9 (fun α1 H1 locs1 hα1 w e0 => ?_)
  refine lv_aload_n hx hb dX9_init_12 rfl (lv_at hl 0 rfl) ?_
  refine lv_iconst (v := Int32.ofInt (-1)) hx hb dX9_init_13 (by decide) ?_
  refine zb_put (kf := 1) (x := -1) C w e0 fpRX9_15 (by decide +kernel) dX9_init_14 (fun H1 locs1 w => ?_)
  refine lv_aload_n hx hb dX9_init_17 rfl (lv_at hl 0 rfl) ?_
  refine lv_iconst (v := Int32.ofInt (0)) hx hb dX9_init_18 (by decide) ?_
  refine zb_put (kf := 2) (x := 0) C w e0 fpRX9_19 (by decide +kernel) dX9_init_19 (fun H1 locs1 w => ?_)
  refine lv_aload_n hx hb dX9_init_22 rfl (lv_at hl 0 rfl) ?_
  refine lv_iconst (v := Int32.ofInt (-1)) hx hb dX9_init_23 (by decide) ?_
  refine zb_put (kf := 3) (x := -1) C w e0 fpRX9_22 (by decide +kernel) dX9_init_24 (fun H1 locs1 w => ?_)
  exact zi_end (own := [17]) C rfl w (by decide +kernel) (by decide +kernel) (fun _ _ => rfl) (fun i hi => by rw [hα1 i (fun z => hi (by rw [z]; decide))]) ⟨(Nat.le_of_ble_eq_true rfl), (Nat.le_of_ble_eq_true rfl)⟩ dX9_init_27
set_option maxHeartbeats 4000000 in
set_option maxRecDepth 100000 in
theorem zi_X9_18 {G : zG} (hinj : zInj G) : zMi G MX9_init 1 80 18 9 (fun _ => []) [19] zSt0 := by
  refine zi_of (idx0 := 3) hinj rfl (by decide) rfl (fun _ => (Nat.le_of_ble_eq_true rfl)) dX9_init_0 dX9_init_1 (zin_3 (List.mem_of_getElem? (i := 18) (by decide +kernel))) (zin_1 (List.mem_of_getElem? (i := 24) (by decide +kernel))) (zin_1 (List.mem_of_getElem? (i := 25) rfl)) ⟨by decide, by decide⟩ ?_
  intro α p e s m args below meth c A lsr C hin hA w hl
  have hx := C.1
  have hb := C.2.1
  have w : zWq G A s.heap s.heap [] (zbw G α zSt0 18 9 (zsh 18).2.2 [] (fun _ => []) []) := w
  have hl : lv_has lsr 1 [(0, .ref (α 18))] := hl
  obtain ⟨h0, e0⟩ : ∃ h, α 18 = h := ⟨_, rfl⟩
  rw [e0] at hl
  refine lv_aload_n hx hb dX9_init_4 rfl (lv_at hl 0 rfl) ?_
  refine lv_bipush (v := Int32.ofInt (80)) hx hb dX9_init_5 (by decide) ?_
  refine zb_arr (t0 := 2) (j := 19) (N := 80) (kf := 0) (a0 := (80, .inr (.inl (fun _ => 0)))) (ty := .long) C hin hA w e0 rfl rfl zarrJ (fun U cA cB h1 h2 => Option.some.inj (h1.symm.trans h2)) (fun _ => rfl) (fun α' => zcl_z2 (by decide +kernel) rfl) (by decide) (by decide +kernel) (by decide +kernel) (by decide +kernel) (by decide +kernel) (by decide) (fun _ => rfl) flRX9_9 (q := (RX9, TX9, 4)) rfl rfl rfl (ty2 := .array .long) (by decide +kernel) (fun _ => rfl) (fun _ => rfl) (by decide +kernel) (Nat.le_of_ble_eq_true rfl) (Nat.le_of_ble_eq_true rfl) dX9_init_7 dX9_init_9 (fun α1 H1 locs1 hα1 w e0 => ?_)
  refine lv_aload_n hx hb dX9_init_12 rfl (lv_at hl 0 rfl) ?_
  refine lv_iconst (v := Int32.ofInt (-1)) hx hb dX9_init_13 (by decide) ?_
  refine zb_put (kf := 1) (x := -1) C w e0 fpRX9_15 (by decide +kernel) dX9_init_14 (fun H1 locs1 w => ?_)
  refine lv_aload_n hx hb dX9_init_17 rfl (lv_at hl 0 rfl) ?_
  refine lv_iconst (v := Int32.ofInt (0)) hx hb dX9_init_18 (by decide) ?_
  refine zb_put (kf := 2) (x := 0) C w e0 fpRX9_19 (by decide +kernel) dX9_init_19 (fun H1 locs1 w => ?_)
  refine lv_aload_n hx hb dX9_init_22 rfl (lv_at hl 0 rfl) ?_
  refine lv_iconst (v := Int32.ofInt (-1)) hx hb dX9_init_23 (by decide) ?_
  refine zb_put (kf := 3) (x := -1) C w e0 fpRX9_22 (by decide +kernel) dX9_init_24 (fun H1 locs1 w => ?_)
  exact zi_end (own := [19]) C rfl w (by decide +kernel) (by decide +kernel) (fun _ _ => rfl) (fun i hi => by rw [hα1 i (fun z => hi (by rw [z]; decide))]) ⟨(Nat.le_of_ble_eq_true rfl), (Nat.le_of_ble_eq_true rfl)⟩ dX9_init_27
set_option maxHeartbeats 4000000 in
set_option maxRecDepth 100000 in
theorem zi_X9_20 {G : zG} (hinj : zInj G) : zMi G MX9_init 1 80 20 9 (fun _ => []) [21] zSt0 := by
  refine zi_of (idx0 := 3) hinj rfl (by decide) rfl (fun _ => (Nat.le_of_ble_eq_true rfl)) dX9_init_0 dX9_init_1 (zin_3 (List.mem_of_getElem? (i := 18) (by decide +kernel))) (zin_1 (List.mem_of_getElem? (i := 24) (by decide +kernel))) (zin_1 (List.mem_of_getElem? (i := 25) rfl)) ⟨by decide, by decide⟩ ?_
  intro α p e s m args below meth c A lsr C hin hA w hl
  have hx := C.1
  have hb := C.2.1
  have w : zWq G A s.heap s.heap [] (zbw G α zSt0 20 9 (zsh 20).2.2 [] (fun _ => []) []) := w
  have hl : lv_has lsr 1 [(0, .ref (α 20))] := hl
  obtain ⟨h0, e0⟩ : ∃ h, α 20 = h := ⟨_, rfl⟩
  rw [e0] at hl
  refine lv_aload_n hx hb dX9_init_4 rfl (lv_at hl 0 rfl) ?_
  refine lv_bipush (v := Int32.ofInt (80)) hx hb dX9_init_5 (by decide) ?_
  refine zb_arr (t0 := 2) (j := 21) (N := 80) (kf := 0) (a0 := (80, .inr (.inl (fun _ => 0)))) (ty := .long) C hin hA w e0 rfl rfl zarrJ (fun U cA cB h1 h2 => Option.some.inj (h1.symm.trans h2)) (fun _ => rfl) (fun α' => zcl_z2 (by decide +kernel) rfl) (by decide) (by decide +kernel) (by decide +kernel) (by decide +kernel) (by decide +kernel) (by decide) (fun _ => rfl) flRX9_9 (q := (RX9, TX9, 4)) rfl rfl rfl (ty2 := .array .long) (by decide +kernel) (fun _ => rfl) (fun _ => rfl) (by decide +kernel) (Nat.le_of_ble_eq_true rfl) (Nat.le_of_ble_eq_true rfl) dX9_init_7 dX9_init_9 (fun α1 H1 locs1 hα1 w e0 => ?_)
  refine lv_aload_n hx hb dX9_init_12 rfl (lv_at hl 0 rfl) ?_
  refine lv_iconst (v := Int32.ofInt (-1)) hx hb dX9_init_13 (by decide) ?_
  refine zb_put (kf := 1) (x := -1) C w e0 fpRX9_15 (by decide +kernel) dX9_init_14 (fun H1 locs1 w => ?_)
  refine lv_aload_n hx hb dX9_init_17 rfl (lv_at hl 0 rfl) ?_
  refine lv_iconst (v := Int32.ofInt (0)) hx hb dX9_init_18 (by decide) ?_
  refine zb_put (kf := 2) (x := 0) C w e0 fpRX9_19 (by decide +kernel) dX9_init_19 (fun H1 locs1 w => ?_)
  refine lv_aload_n hx hb dX9_init_22 rfl (lv_at hl 0 rfl) ?_
  refine lv_iconst (v := Int32.ofInt (-1)) hx hb dX9_init_23 (by decide) ?_
  refine zb_put (kf := 3) (x := -1) C w e0 fpRX9_22 (by decide +kernel) dX9_init_24 (fun H1 locs1 w => ?_)
  exact zi_end (own := [21]) C rfl w (by decide +kernel) (by decide +kernel) (fun _ _ => rfl) (fun i hi => by rw [hα1 i (fun z => hi (by rw [z]; decide))]) ⟨(Nat.le_of_ble_eq_true rfl), (Nat.le_of_ble_eq_true rfl)⟩ dX9_init_27
