/-! CONSTRUCTORS: house -/
theorem dX11_init_0 : decode cX11_init 0 = .ok (.aload_n 0, 1) := by decide +kernel
theorem dX11_init_1 : decode cX11_init 1 = .ok (.invokespecial 3, 3) := by decide +kernel
theorem dX11_init_4 : decode cX11_init 4 = .ok (.aload_n 0, 1) := by decide +kernel
theorem dX11_init_5 : decode cX11_init 5 = .ok (.bipush 10, 2) := by decide +kernel
theorem dX11_init_7 : decode cX11_init 7 = .ok (.anewarray 9, 3) := by decide +kernel
theorem dX11_init_10 : decode cX11_init 10 = .ok (.putfield 11, 3) := by decide +kernel
theorem dX11_init_13 : decode cX11_init 13 = .ok (.aload_n 0, 1) := by decide +kernel
theorem dX11_init_14 : decode cX11_init 14 = .ok (.new 15, 3) := by decide +kernel
theorem dX11_init_17 : decode cX11_init 17 = .ok (.dup, 1) := by decide +kernel
theorem dX11_init_18 : decode cX11_init 18 = .ok (.invokespecial 17, 3) := by decide +kernel
theorem dX11_init_21 : decode cX11_init 21 = .ok (.putfield 18, 3) := by decide +kernel
theorem dX11_init_24 : decode cX11_init 24 = .ok (.aload_n 0, 1) := by decide +kernel
theorem dX11_init_25 : decode cX11_init 25 = .ok (.new 22, 3) := by decide +kernel
theorem dX11_init_28 : decode cX11_init 28 = .ok (.dup, 1) := by decide +kernel
theorem dX11_init_29 : decode cX11_init 29 = .ok (.invokespecial 24, 3) := by decide +kernel
theorem dX11_init_32 : decode cX11_init 32 = .ok (.putfield 25, 3) := by decide +kernel
theorem dX11_init_35 : decode cX11_init 35 = .ok (.aload_n 0, 1) := by decide +kernel
theorem dX11_init_36 : decode cX11_init 36 = .ok (.new 29, 3) := by decide +kernel
theorem dX11_init_39 : decode cX11_init 39 = .ok (.dup, 1) := by decide +kernel
theorem dX11_init_40 : decode cX11_init 40 = .ok (.aload_n 0, 1) := by decide +kernel
theorem dX11_init_41 : decode cX11_init 41 = .ok (.getfield 18, 3) := by decide +kernel
theorem dX11_init_44 : decode cX11_init 44 = .ok (.aload_n 0, 1) := by decide +kernel
theorem dX11_init_45 : decode cX11_init 45 = .ok (.getfield 25, 3) := by decide +kernel
theorem dX11_init_48 : decode cX11_init 48 = .ok (.invokespecial 31, 3) := by decide +kernel
theorem dX11_init_51 : decode cX11_init 51 = .ok (.putfield 34, 3) := by decide +kernel
theorem dX11_init_54 : decode cX11_init 54 = .ok (.aload_n 0, 1) := by decide +kernel
theorem dX11_init_55 : decode cX11_init 55 = .ok (.new 38, 3) := by decide +kernel
theorem dX11_init_58 : decode cX11_init 58 = .ok (.dup, 1) := by decide +kernel
theorem dX11_init_59 : decode cX11_init 59 = .ok (.aload_n 0, 1) := by decide +kernel
theorem dX11_init_60 : decode cX11_init 60 = .ok (.getfield 34, 3) := by decide +kernel
theorem dX11_init_63 : decode cX11_init 63 = .ok (.invokespecial 40, 3) := by decide +kernel
theorem dX11_init_66 : decode cX11_init 66 = .ok (.putfield 43, 3) := by decide +kernel
theorem dX11_init_69 : decode cX11_init 69 = .ok (.aload_n 0, 1) := by decide +kernel
theorem dX11_init_70 : decode cX11_init 70 = .ok (.new 47, 3) := by decide +kernel
theorem dX11_init_73 : decode cX11_init 73 = .ok (.dup, 1) := by decide +kernel
theorem dX11_init_74 : decode cX11_init 74 = .ok (.bipush 24, 2) := by decide +kernel
theorem dX11_init_76 : decode cX11_init 76 = .ok (.invokespecial 49, 3) := by decide +kernel
theorem dX11_init_79 : decode cX11_init 79 = .ok (.putfield 52, 3) := by decide +kernel
theorem dX11_init_82 : decode cX11_init 82 = .ok (.aload_n 0, 1) := by decide +kernel
theorem dX11_init_83 : decode cX11_init 83 = .ok (.new 56, 3) := by decide +kernel
theorem dX11_init_86 : decode cX11_init 86 = .ok (.dup, 1) := by decide +kernel
theorem dX11_init_87 : decode cX11_init 87 = .ok (.aload_n 0, 1) := by decide +kernel
theorem dX11_init_88 : decode cX11_init 88 = .ok (.getfield 18, 3) := by decide +kernel
theorem dX11_init_91 : decode cX11_init 91 = .ok (.aload_n 0, 1) := by decide +kernel
theorem dX11_init_92 : decode cX11_init 92 = .ok (.getfield 43, 3) := by decide +kernel
theorem dX11_init_95 : decode cX11_init 95 = .ok (.aload_n 0, 1) := by decide +kernel
theorem dX11_init_96 : decode cX11_init 96 = .ok (.getfield 34, 3) := by decide +kernel
theorem dX11_init_99 : decode cX11_init 99 = .ok (.aload_n 0, 1) := by decide +kernel
theorem dX11_init_100 : decode cX11_init 100 = .ok (.getfield 52, 3) := by decide +kernel
theorem dX11_init_103 : decode cX11_init 103 = .ok (.invokespecial 58, 3) := by decide +kernel
theorem dX11_init_106 : decode cX11_init 106 = .ok (.putfield 61, 3) := by decide +kernel
theorem dX11_init_109 : decode cX11_init 109 = .ok (.aload_n 0, 1) := by decide +kernel
theorem dX11_init_110 : decode cX11_init 110 = .ok (.new 65, 3) := by decide +kernel
theorem dX11_init_113 : decode cX11_init 113 = .ok (.dup, 1) := by decide +kernel
theorem dX11_init_114 : decode cX11_init 114 = .ok (.aload_n 0, 1) := by decide +kernel
theorem dX11_init_115 : decode cX11_init 115 = .ok (.getfield 18, 3) := by decide +kernel
theorem dX11_init_118 : decode cX11_init 118 = .ok (.invokespecial 67, 3) := by decide +kernel
theorem dX11_init_121 : decode cX11_init 121 = .ok (.putfield 70, 3) := by decide +kernel
theorem dX11_init_124 : decode cX11_init 124 = .ok (.aload_n 0, 1) := by decide +kernel
theorem dX11_init_125 : decode cX11_init 125 = .ok (.new 74, 3) := by decide +kernel
theorem dX11_init_128 : decode cX11_init 128 = .ok (.dup, 1) := by decide +kernel
theorem dX11_init_129 : decode cX11_init 129 = .ok (.invokespecial 76, 3) := by decide +kernel
theorem dX11_init_132 : decode cX11_init 132 = .ok (.putfield 77, 3) := by decide +kernel
theorem dX11_init_135 : decode cX11_init 135 = .ok (.aload_n 0, 1) := by decide +kernel
theorem dX11_init_136 : decode cX11_init 136 = .ok (.new 81, 3) := by decide +kernel
theorem dX11_init_139 : decode cX11_init 139 = .ok (.dup, 1) := by decide +kernel
theorem dX11_init_140 : decode cX11_init 140 = .ok (.aload_n 0, 1) := by decide +kernel
theorem dX11_init_141 : decode cX11_init 141 = .ok (.getfield 70, 3) := by decide +kernel
theorem dX11_init_144 : decode cX11_init 144 = .ok (.aload_n 0, 1) := by decide +kernel
theorem dX11_init_145 : decode cX11_init 145 = .ok (.getfield 77, 3) := by decide +kernel
theorem dX11_init_148 : decode cX11_init 148 = .ok (.invokespecial 83, 3) := by decide +kernel
theorem dX11_init_151 : decode cX11_init 151 = .ok (.putfield 86, 3) := by decide +kernel
theorem dX11_init_154 : decode cX11_init 154 = .ok (.aload_n 0, 1) := by decide +kernel
theorem dX11_init_155 : decode cX11_init 155 = .ok (.new 47, 3) := by decide +kernel
theorem dX11_init_158 : decode cX11_init 158 = .ok (.dup, 1) := by decide +kernel
theorem dX11_init_159 : decode cX11_init 159 = .ok (.bipush 9, 2) := by decide +kernel
theorem dX11_init_161 : decode cX11_init 161 = .ok (.invokespecial 49, 3) := by decide +kernel
theorem dX11_init_164 : decode cX11_init 164 = .ok (.putfield 90, 3) := by decide +kernel
theorem dX11_init_167 : decode cX11_init 167 = .ok (.aload_n 0, 1) := by decide +kernel
theorem dX11_init_168 : decode cX11_init 168 = .ok (.new 93, 3) := by decide +kernel
theorem dX11_init_171 : decode cX11_init 171 = .ok (.dup, 1) := by decide +kernel
theorem dX11_init_172 : decode cX11_init 172 = .ok (.aload_n 0, 1) := by decide +kernel
theorem dX11_init_173 : decode cX11_init 173 = .ok (.getfield 43, 3) := by decide +kernel
theorem dX11_init_176 : decode cX11_init 176 = .ok (.aload_n 0, 1) := by decide +kernel
theorem dX11_init_177 : decode cX11_init 177 = .ok (.getfield 90, 3) := by decide +kernel
theorem dX11_init_180 : decode cX11_init 180 = .ok (.invokespecial 95, 3) := by decide +kernel
theorem dX11_init_183 : decode cX11_init 183 = .ok (.putfield 98, 3) := by decide +kernel
theorem dX11_init_186 : decode cX11_init 186 = .ok (.aload_n 0, 1) := by decide +kernel
theorem dX11_init_187 : decode cX11_init 187 = .ok (.bipush 8, 2) := by decide +kernel
theorem dX11_init_189 : decode cX11_init 189 = .ok (.newarray .int, 2) := by decide +kernel
theorem dX11_init_191 : decode cX11_init 191 = .ok (.putfield 102, 3) := by decide +kernel
theorem dX11_init_194 : decode cX11_init 194 = .ok (.aload_n 0, 1) := by decide +kernel
theorem dX11_init_195 : decode cX11_init 195 = .ok (.iconst 0, 1) := by decide +kernel
theorem dX11_init_196 : decode cX11_init 196 = .ok (.putfield 106, 3) := by decide +kernel
theorem dX11_init_199 : decode cX11_init 199 = .ok (.iconst 0, 1) := by decide +kernel
theorem dX11_init_200 : decode cX11_init 200 = .ok (.istore_n 1, 1) := by decide +kernel
theorem dX11_init_201 : decode cX11_init 201 = .ok (.iload_n 1, 1) := by decide +kernel
theorem dX11_init_202 : decode cX11_init 202 = .ok (.bipush 10, 2) := by decide +kernel
theorem dX11_init_204 : decode cX11_init 204 = .ok (.if_icmp .ge 22, 3) := by decide +kernel
theorem dX11_init_207 : decode cX11_init 207 = .ok (.aload_n 0, 1) := by decide +kernel
theorem dX11_init_208 : decode cX11_init 208 = .ok (.getfield 11, 3) := by decide +kernel
theorem dX11_init_211 : decode cX11_init 211 = .ok (.iload_n 1, 1) := by decide +kernel
theorem dX11_init_212 : decode cX11_init 212 = .ok (.new 9, 3) := by decide +kernel
theorem dX11_init_215 : decode cX11_init 215 = .ok (.dup, 1) := by decide +kernel
theorem dX11_init_216 : decode cX11_init 216 = .ok (.invokespecial 110, 3) := by decide +kernel
theorem dX11_init_219 : decode cX11_init 219 = .ok (.aastore, 1) := by decide +kernel
theorem dX11_init_220 : decode cX11_init 220 = .ok (.iinc 1 1, 3) := by decide +kernel
theorem dX11_init_223 : decode cX11_init 223 = .ok (.goto (-22), 3) := by decide +kernel
theorem dX11_init_226 : decode cX11_init 226 = .ok (.return_, 1) := by decide +kernel
set_option maxHeartbeats 4000000 in
set_option maxRecDepth 100000 in
theorem zi_X11_0 {G : zG} (hinj : zInj G) : zMi G MX11_init 97 8713 0 11 (fun _ => []) [20, 21, 18, 19, 16, 17, 14, 15, 12, 13, 10, 11, 8, 9, 6, 7, 4, 5, 2, 3, 97, 94, 96, 95, 91, 92, 93, 83, 90, 89, 88, 87, 86, 85, 84, 79, 82, 81, 80, 68, 78, 77, 76, 75, 74, 73, 72, 71, 70, 69, 65, 67, 66, 62, 63, 64, 59, 60, 61, 52, 58, 57, 56, 55, 54, 53, 47, 51, 50, 49, 48, 35, 46, 45, 44, 43, 42, 41, 40, 39, 38, 37, 36, 22, 34, 33, 32, 31, 30, 29, 28, 27, 26, 25, 24, 23, 1] zSt0 := by
  refine zi_of (idx0 := 3) hinj rfl (by decide) rfl (fun _ => (Nat.le_of_ble_eq_true rfl)) dX11_init_0 dX11_init_1 (zin_1 (List.mem_of_getElem? (i := 23) (by decide +kernel))) (zin_1 (List.mem_of_getElem? (i := 24) (by decide +kernel))) (zin_1 (List.mem_of_getElem? (i := 25) rfl)) ⟨by decide, by decide⟩ ?_
  intro α p e s m args below meth c A lsr C hnw hin hA w hl
  have hx := C.1
  have hb := C.2.1
  have w : zWq G A s.heap s.heap [] (zbw G α zSt0 0 11 (zsh 0).2.2 [] (fun _ => []) []) := w
  have hl : lv_has lsr 2 [(0, .ref (α 0))] := hl
  obtain ⟨h0, e0⟩ : ∃ h, α 0 = h := ⟨_, rfl⟩
  rw [e0] at hl
  refine lv_aload_n hx hb dX11_init_4 rfl (lv_at hl 0 rfl) ?_
  refine lv_bipush (v := Int32.ofInt (10)) hx hb dX11_init_5 (by decide) ?_
  refine zb_anew C hnw hin hA w e0 (zin_1 (List.mem_of_getElem? (i := 26) (by decide +kernel))) flRX11_11 (q := (RX11, TX11, 14)) rfl rfl rfl (ty2 := .array (.object "CollegeHouse$Shelf")) (by decide +kernel) (fun _ => rfl) (fun _ => rfl) (by decide +kernel) (Nat.le_of_ble_eq_true rfl) (Nat.le_of_ble_eq_true rfl) dX11_init_7 dX11_init_10 (fun α1 H1 locs1 hα1 w e0 => ?_)
  refine lv_aload_n hx hb dX11_init_13 rfl (lv_at hl 0 rfl) ?_
  refine zb_new (α := α1) (j := 22) (cj := 5) (rsj := (zsh 22).2.2) (q := (RX5, TX5, 17)) (ty := tyX5) C hA w rfl tyX5_ok (fun k hk => by rcases (show k = 0 ∨ k = 1 ∨ k = 2 ∨ k = 3 ∨ k = 4 ∨ k = 5 ∨ k = 6 ∨ k = 7 ∨ k = 8 ∨ k = 9 ∨ k = 10 ∨ k = 11 ∨ k = 12 ∨ k = 13 ∨ k = 14 ∨ k = 15 ∨ k = 16 by simp only at hk; omega) with rfl | rfl | rfl | rfl | rfl | rfl | rfl | rfl | rfl | rfl | rfl | rfl | rfl | rfl | rfl | rfl | rfl <;> rfl) (zin_1 (List.mem_of_getElem? (i := 28) (by decide +kernel))) (zin_1 (List.mem_of_getElem? (i := 29) (by decide +kernel))) (zin_1 (List.mem_of_getElem? (i := 2) (by decide +kernel))) (Nat.le_of_ble_eq_true rfl) (Nat.le_of_ble_eq_true rfl) dX11_init_14 (fun α2 H1 hα2 w => ?_)
  rw [zbw_ap (α := α1) (β := α2) (own := [22]) (by decide +kernel) (by decide +kernel) (by decide) (zsE_ap (own := [22]) (by decide +kernel) (fun i hi => hα2 i (fun z => hi (by rw [z]; exact List.mem_cons_self)))) (fun i hi => hα2 i (fun z => hi (by rw [z]; exact List.mem_cons_self)))] at w
  have e0 : α2 0 = h0 := (hα2 0 (by decide)).trans e0
  refine lv_dup hx hb dX11_init_17 rfl ?_
  refine zb_call (M' := MX5_init) (mc := 12) (ms := 1840) (j := 22) (cj := 5) (n := 0) (as := (fun _ => [])) C hnw hA hl (zi_X5_22 C.2.2.2.2.2.2.2.2) (zin_1 (List.mem_of_getElem? (i := 2) (by decide +kernel))) (zin_1 (List.mem_of_getElem? (i := 32) rfl)) ⟨by decide, by decide, by decide +kernel⟩ (zin_1 (List.mem_of_getElem? (i := 30) (by decide +kernel))) rfl (zin_1 (List.mem_of_getElem? (i := 31) (by decide +kernel))) rfl ⟨by decide, by decide⟩ w rfl rfl (Nat.le_of_ble_eq_true rfl) ⟨(Nat.le_of_ble_eq_true rfl), (Nat.le_of_ble_eq_true rfl)⟩ dX11_init_18 (fun α3 H1 locs1 hα3 w => ?_)
  have ej : α3 22 = α2 22 := hα3 22 (by decide)
  rw [zbw_ap (α := α2) (β := α3) (own := [34, 33, 32, 31, 30, 29, 28, 27, 26, 25, 24, 23]) (by decide +kernel) (by decide +kernel) (by decide) (zsE_ap (own := [34, 33, 32, 31, 30, 29, 28, 27, 26, 25, 24, 23]) (by decide +kernel) hα3) hα3] at w
  have w : zWq G A s.heap H1 locs1 (zbw G α3 zSt0 0 11 (zsh 0).2.2 [(0, .inl 1)] (zsE G 0) [22, 34, 33, 32, 31, 30, 29, 28, 27, 26, 25, 24, 23]) := zWq_pm zbw_in w
  have e0 : α3 0 = h0 := (hα3 0 (by decide)).trans e0
  rw [← ej]
  refine zb_fin (v := .inl 22) (kf := 1) C hin w e0 flRX11_18 (q := (RX11, TX11, 14)) rfl rfl rfl (ty2 := .object "CollegeHouse$People") (by decide +kernel) rfl rfl (by decide +kernel) dX11_init_21 (fun H1 locs1 w => ?_)
  refine lv_aload_n hx hb dX11_init_24 rfl (lv_at hl 0 rfl) ?_
  refine zb_new (α := α3) (j := 35) (cj := 10) (rsj := (zsh 35).2.2) (q := (RX10, TX10, 14)) (ty := tyX10) C hA w rfl tyX10_ok (fun k hk => by rcases (show k = 0 ∨ k = 1 ∨ k = 2 ∨ k = 3 ∨ k = 4 ∨ k = 5 ∨ k = 6 ∨ k = 7 ∨ k = 8 ∨ k = 9 ∨ k = 10 ∨ k = 11 ∨ k = 12 ∨ k = 13 by simp only at hk; omega) with rfl | rfl | rfl | rfl | rfl | rfl | rfl | rfl | rfl | rfl | rfl | rfl | rfl | rfl <;> rfl) (zin_1 (List.mem_of_getElem? (i := 108) (by decide +kernel))) (zin_1 (List.mem_of_getElem? (i := 109) (by decide +kernel))) (zin_1 (List.mem_of_getElem? (i := 4) (by decide +kernel))) (Nat.le_of_ble_eq_true rfl) (Nat.le_of_ble_eq_true rfl) dX11_init_25 (fun α4 H1 hα4 w => ?_)
  rw [zbw_ap (α := α3) (β := α4) (own := [35]) (by decide +kernel) (by decide +kernel) (by decide) (zsE_ap (own := [35]) (by decide +kernel) (fun i hi => hα4 i (fun z => hi (by rw [z]; exact List.mem_cons_self)))) (fun i hi => hα4 i (fun z => hi (by rw [z]; exact List.mem_cons_self)))] at w
  have e0 : α4 0 = h0 := (hα4 0 (by decide)).trans e0
  refine lv_dup hx hb dX11_init_28 rfl ?_
  refine zb_callN (M' := MX10_init) (mc := 11) (ms := 2516) (j := 35) (cj := 10) (n := 0) (as := (fun _ => [])) C hnw hA hl (zi_X10_35 C.2.2.2.2.2.2.2.2) (zin_1 (List.mem_of_getElem? (i := 4) (by decide +kernel))) (zin_1 (List.mem_of_getElem? (i := 112) rfl)) ⟨by decide, by decide, by decide +kernel⟩ hnw.2.1 rfl (zin_1 (List.mem_of_getElem? (i := 111) (by decide +kernel))) rfl ⟨by decide, by decide⟩ w rfl rfl (Nat.le_of_ble_eq_true rfl) ⟨(Nat.le_of_ble_eq_true rfl), (Nat.le_of_ble_eq_true rfl)⟩ dX11_init_29 (fun α5 H1 locs1 hα5 w => ?_)
  have ej : α5 35 = α4 35 := hα5 35 (by decide)
  rw [zbw_ap (α := α4) (β := α5) (own := [46, 45, 44, 43, 42, 41, 40, 39, 38, 37, 36]) (by decide +kernel) (by decide +kernel) (by decide) (zsE_ap (own := [46, 45, 44, 43, 42, 41, 40, 39, 38, 37, 36]) (by decide +kernel) hα5) hα5] at w
  have w : zWq G A s.heap H1 locs1 (zbw G α5 zSt0 0 11 (zsh 0).2.2 [(1, .inl 22), (0, .inl 1)] (zsE G 0) [35, 46, 45, 44, 43, 42, 41, 40, 39, 38, 37, 36, 22, 34, 33, 32, 31, 30, 29, 28, 27, 26, 25, 24, 23]) := zWq_pm zbw_in w
  have e0 : α5 0 = h0 := (hα5 0 (by decide)).trans e0
  rw [← ej]
  refine zb_fin (v := .inl 35) (kf := 2) C hin w e0 flRX11_25 (q := (RX11, TX11, 14)) rfl rfl rfl (ty2 := .object "CollegeHouse$Statutes") (by decide +kernel) rfl rfl (by decide +kernel) dX11_init_32 (fun H1 locs1 w => ?_)
  refine lv_aload_n hx hb dX11_init_35 rfl (lv_at hl 0 rfl) ?_
  refine zb_new (α := α5) (j := 47) (cj := 3) (rsj := (zsh 47).2.2) (q := (RX3, TX3, 14)) (ty := tyX3) C hA w rfl tyX3_ok (fun k hk => by rcases (show k = 0 ∨ k = 1 ∨ k = 2 ∨ k = 3 ∨ k = 4 ∨ k = 5 ∨ k = 6 ∨ k = 7 ∨ k = 8 ∨ k = 9 ∨ k = 10 ∨ k = 11 ∨ k = 12 ∨ k = 13 by simp only at hk; omega) with rfl | rfl | rfl | rfl | rfl | rfl | rfl | rfl | rfl | rfl | rfl | rfl | rfl | rfl <;> rfl) (zin_1 (List.mem_of_getElem? (i := 165) (by decide +kernel))) (zin_1 (List.mem_of_getElem? (i := 166) (by decide +kernel))) (zin_1 (List.mem_of_getElem? (i := 5) (by decide +kernel))) (Nat.le_of_ble_eq_true rfl) (Nat.le_of_ble_eq_true rfl) dX11_init_36 (fun α6 H1 hα6 w => ?_)
  rw [zbw_ap (α := α5) (β := α6) (own := [47]) (by decide +kernel) (by decide +kernel) (by decide) (zsE_ap (own := [47]) (by decide +kernel) (fun i hi => hα6 i (fun z => hi (by rw [z]; exact List.mem_cons_self)))) (fun i hi => hα6 i (fun z => hi (by rw [z]; exact List.mem_cons_self)))] at w
  have e0 : α6 0 = h0 := (hα6 0 (by decide)).trans e0
  refine lv_dup hx hb dX11_init_39 rfl ?_
  refine lv_aload_n hx hb dX11_init_40 rfl (lv_at hl 0 rfl) ?_
  refine zb_get (kf := 1) (v := .inl 22) C w (List.mem_cons_of_mem _ List.mem_cons_self) e0 flRX11_18 (by decide +kernel) rfl dX11_init_41 ?_
  refine lv_aload_n hx hb dX11_init_44 rfl (lv_at hl 0 rfl) ?_
  refine zb_get (kf := 2) (v := .inl 35) C w (List.mem_cons_of_mem _ List.mem_cons_self) e0 flRX11_25 (by decide +kernel) rfl dX11_init_45 ?_
  refine zb_call (M' := MX3_init) (mc := 4) (ms := 97) (j := 47) (cj := 3) (n := 2) (as := (fun α => [.ref (α 22), .ref (α 35)])) C hnw hA hl (zi_X3_47 C.2.2.2.2.2.2.2.2) (zin_1 (List.mem_of_getElem? (i := 5) (by decide +kernel))) (zin_1 (List.mem_of_getElem? (i := 169) rfl)) ⟨by decide, by decide, by decide +kernel⟩ (zin_1 (List.mem_of_getElem? (i := 167) (by decide +kernel))) rfl (zin_1 (List.mem_of_getElem? (i := 168) (by decide +kernel))) rfl ⟨by decide, by decide⟩ w rfl rfl (Nat.le_of_ble_eq_true rfl) ⟨(Nat.le_of_ble_eq_true rfl), (Nat.le_of_ble_eq_true rfl)⟩ dX11_init_48 (fun α7 H1 locs1 hα7 w => ?_)
  have ej : α7 47 = α6 47 := hα7 47 (by decide)
  rw [zbw_ap (α := α6) (β := α7) (own := [51, 50, 49, 48]) (by decide +kernel) (by decide +kernel) (by decide) (zsE_ap (own := [51, 50, 49, 48]) (by decide +kernel) hα7) hα7] at w
  have w : zWq G A s.heap H1 locs1 (zbw G α7 zSt0 0 11 (zsh 0).2.2 [(2, .inl 35), (1, .inl 22), (0, .inl 1)] (zsE G 0) [47, 51, 50, 49, 48, 35, 46, 45, 44, 43, 42, 41, 40, 39, 38, 37, 36, 22, 34, 33, 32, 31, 30, 29, 28, 27, 26, 25, 24, 23]) := zWq_pm zbw_in w
  have e0 : α7 0 = h0 := (hα7 0 (by decide)).trans e0
  rw [← ej]
  refine zb_fin (v := .inl 47) (kf := 3) C hin w e0 flRX11_34 (q := (RX11, TX11, 14)) rfl rfl rfl (ty2 := .object "CollegeHouse$Law") (by decide +kernel) rfl rfl (by decide +kernel) dX11_init_51 (fun H1 locs1 w => ?_)
  refine lv_aload_n hx hb dX11_init_54 rfl (lv_at hl 0 rfl) ?_
  refine zb_new (α := α7) (j := 52) (cj := 6) (rsj := (zsh 52).2.2) (q := (RX6, TX6, 9)) (ty := tyX6) C hA w rfl tyX6_ok (fun k hk => by rcases (show k = 0 ∨ k = 1 ∨ k = 2 ∨ k = 3 ∨ k = 4 ∨ k = 5 ∨ k = 6 ∨ k = 7 ∨ k = 8 by simp only at hk; omega) with rfl | rfl | rfl | rfl | rfl | rfl | rfl | rfl | rfl <;> rfl) (zin_1 (List.mem_of_getElem? (i := 216) (by decide +kernel))) (zin_1 (List.mem_of_getElem? (i := 217) (by decide +kernel))) (zin_1 (List.mem_of_getElem? (i := 6) (by decide +kernel))) (Nat.le_of_ble_eq_true rfl) (Nat.le_of_ble_eq_true rfl) dX11_init_55 (fun α8 H1 hα8 w => ?_)
  rw [zbw_ap (α := α7) (β := α8) (own := [52]) (by decide +kernel) (by decide +kernel) (by decide) (zsE_ap (own := [52]) (by decide +kernel) (fun i hi => hα8 i (fun z => hi (by rw [z]; exact List.mem_cons_self)))) (fun i hi => hα8 i (fun z => hi (by rw [z]; exact List.mem_cons_self)))] at w
  have e0 : α8 0 = h0 := (hα8 0 (by decide)).trans e0
  refine lv_dup hx hb dX11_init_58 rfl ?_
  refine lv_aload_n hx hb dX11_init_59 rfl (lv_at hl 0 rfl) ?_
  refine zb_get (kf := 3) (v := .inl 47) C w (List.mem_cons_of_mem _ List.mem_cons_self) e0 flRX11_34 (by decide +kernel) rfl dX11_init_60 ?_
  refine zb_call (M' := MX6_init) (mc := 6) (ms := 72) (j := 52) (cj := 6) (n := 1) (as := (fun α => [.ref (α 47)])) C hnw hA hl (zi_X6_52 C.2.2.2.2.2.2.2.2) (zin_1 (List.mem_of_getElem? (i := 6) (by decide +kernel))) (zin_1 (List.mem_of_getElem? (i := 220) rfl)) ⟨by decide, by decide, by decide +kernel⟩ (zin_1 (List.mem_of_getElem? (i := 218) (by decide +kernel))) rfl (zin_1 (List.mem_of_getElem? (i := 219) (by decide +kernel))) rfl ⟨by decide, by decide⟩ w rfl rfl (Nat.le_of_ble_eq_true rfl) ⟨(Nat.le_of_ble_eq_true rfl), (Nat.le_of_ble_eq_true rfl)⟩ dX11_init_63 (fun α9 H1 locs1 hα9 w => ?_)
  have ej : α9 52 = α8 52 := hα9 52 (by decide)
  rw [zbw_ap (α := α8) (β := α9) (own := [58, 57, 56, 55, 54, 53]) (by decide +kernel) (by decide +kernel) (by decide) (zsE_ap (own := [58, 57, 56, 55, 54, 53]) (by decide +kernel) hα9) hα9] at w
  have w : zWq G A s.heap H1 locs1 (zbw G α9 zSt0 0 11 (zsh 0).2.2 [(3, .inl 47), (2, .inl 35), (1, .inl 22), (0, .inl 1)] (zsE G 0) [52, 58, 57, 56, 55, 54, 53, 47, 51, 50, 49, 48, 35, 46, 45, 44, 43, 42, 41, 40, 39, 38, 37, 36, 22, 34, 33, 32, 31, 30, 29, 28, 27, 26, 25, 24, 23]) := zWq_pm zbw_in w
  have e0 : α9 0 = h0 := (hα9 0 (by decide)).trans e0
  rw [← ej]
  refine zb_fin (v := .inl 52) (kf := 4) C hin w e0 flRX11_43 (q := (RX11, TX11, 14)) rfl rfl rfl (ty2 := .object "CollegeHouse$Places") (by decide +kernel) rfl rfl (by decide +kernel) dX11_init_66 (fun H1 locs1 w => ?_)
  refine lv_aload_n hx hb dX11_init_69 rfl (lv_at hl 0 rfl) ?_
  refine zb_new (α := α9) (j := 59) (cj := 1) (rsj := (zsh 59).2.2) (q := (RX1, TX1, 3)) (ty := tyX1) C hA w rfl tyX1_ok (fun k hk => by rcases (show k = 0 ∨ k = 1 ∨ k = 2 by simp only at hk; omega) with rfl | rfl | rfl <;> rfl) (zin_2 (List.mem_of_getElem? (i := 22) (by decide +kernel))) (zin_2 (List.mem_of_getElem? (i := 23) (by decide +kernel))) (zin_1 (List.mem_of_getElem? (i := 7) (by decide +kernel))) (Nat.le_of_ble_eq_true rfl) (Nat.le_of_ble_eq_true rfl) dX11_init_70 (fun α10 H1 hα10 w => ?_)
  rw [zbw_ap (α := α9) (β := α10) (own := [59]) (by decide +kernel) (by decide +kernel) (by decide) (zsE_ap (own := [59]) (by decide +kernel) (fun i hi => hα10 i (fun z => hi (by rw [z]; exact List.mem_cons_self)))) (fun i hi => hα10 i (fun z => hi (by rw [z]; exact List.mem_cons_self)))] at w
  have e0 : α10 0 = h0 := (hα10 0 (by decide)).trans e0
  refine lv_dup hx hb dX11_init_73 rfl ?_
  refine lv_bipush (v := Int32.ofInt (24)) hx hb dX11_init_74 (by decide) ?_
  refine zb_call (M' := MX1_init) (mc := 2) (ms := 600) (j := 59) (cj := 1) (n := 1) (as := (fun _ => [.int (Int32.ofInt 24)])) C hnw hA hl (zi_X1_59 C.2.2.2.2.2.2.2.2) (zin_1 (List.mem_of_getElem? (i := 7) (by decide +kernel))) (zin_2 (List.mem_of_getElem? (i := 26) rfl)) ⟨by decide, by decide, by decide +kernel⟩ (zin_2 (List.mem_of_getElem? (i := 24) (by decide +kernel))) rfl (zin_2 (List.mem_of_getElem? (i := 25) (by decide +kernel))) rfl ⟨by decide, by decide⟩ w rfl rfl (Nat.le_of_ble_eq_true rfl) ⟨(Nat.le_of_ble_eq_true rfl), (Nat.le_of_ble_eq_true rfl)⟩ dX11_init_76 (fun α11 H1 locs1 hα11 w => ?_)
  have ej : α11 59 = α10 59 := hα11 59 (by decide)
  rw [zbw_ap (α := α10) (β := α11) (own := [60, 61]) (by decide +kernel) (by decide +kernel) (by decide) (zsE_ap (own := [60, 61]) (by decide +kernel) hα11) hα11] at w
  have w : zWq G A s.heap H1 locs1 (zbw G α11 zSt0 0 11 (zsh 0).2.2 [(4, .inl 52), (3, .inl 47), (2, .inl 35), (1, .inl 22), (0, .inl 1)] (zsE G 0) [59, 60, 61, 52, 58, 57, 56, 55, 54, 53, 47, 51, 50, 49, 48, 35, 46, 45, 44, 43, 42, 41, 40, 39, 38, 37, 36, 22, 34, 33, 32, 31, 30, 29, 28, 27, 26, 25, 24, 23]) := zWq_pm zbw_in w
  have e0 : α11 0 = h0 := (hα11 0 (by decide)).trans e0
  rw [← ej]
  refine zb_fin (v := .inl 59) (kf := 5) C hin w e0 flRX11_52 (q := (RX11, TX11, 14)) rfl rfl rfl (ty2 := .object "CollegeHouse$Choices") (by decide +kernel) rfl rfl (by decide +kernel) dX11_init_79 (fun H1 locs1 w => ?_)
  refine lv_aload_n hx hb dX11_init_82 rfl (lv_at hl 0 rfl) ?_
  refine zb_new (α := α11) (j := 65) (cj := 2) (rsj := (zsh 65).2.2) (q := (RX2, TX2, 11)) (ty := tyX2) C hA w rfl tyX2_ok (fun k hk => by rcases (show k = 0 ∨ k = 1 ∨ k = 2 ∨ k = 3 ∨ k = 4 ∨ k = 5 ∨ k = 6 ∨ k = 7 ∨ k = 8 ∨ k = 9 ∨ k = 10 by simp only at hk; omega) with rfl | rfl | rfl | rfl | rfl | rfl | rfl | rfl | rfl | rfl | rfl <;> rfl) (zin_2 (List.mem_of_getElem? (i := 39) (by decide +kernel))) (zin_2 (List.mem_of_getElem? (i := 40) (by decide +kernel))) (zin_1 (List.mem_of_getElem? (i := 8) (by decide +kernel))) (Nat.le_of_ble_eq_true rfl) (Nat.le_of_ble_eq_true rfl) dX11_init_83 (fun α12 H1 hα12 w => ?_)
  rw [zbw_ap (α := α11) (β := α12) (own := [65]) (by decide +kernel) (by decide +kernel) (by decide) (zsE_ap (own := [65]) (by decide +kernel) (fun i hi => hα12 i (fun z => hi (by rw [z]; exact List.mem_cons_self)))) (fun i hi => hα12 i (fun z => hi (by rw [z]; exact List.mem_cons_self)))] at w
  have e0 : α12 0 = h0 := (hα12 0 (by decide)).trans e0
  refine lv_dup hx hb dX11_init_86 rfl ?_
  refine lv_aload_n hx hb dX11_init_87 rfl (lv_at hl 0 rfl) ?_
  refine zb_get (kf := 1) (v := .inl 22) C w (List.mem_cons_of_mem _ List.mem_cons_self) e0 flRX11_18 (by decide +kernel) rfl dX11_init_88 ?_
  refine lv_aload_n hx hb dX11_init_91 rfl (lv_at hl 0 rfl) ?_
  refine zb_get (kf := 4) (v := .inl 52) C w (List.mem_cons_of_mem _ List.mem_cons_self) e0 flRX11_43 (by decide +kernel) rfl dX11_init_92 ?_
  refine lv_aload_n hx hb dX11_init_95 rfl (lv_at hl 0 rfl) ?_
  refine zb_get (kf := 3) (v := .inl 47) C w (List.mem_cons_of_mem _ List.mem_cons_self) e0 flRX11_34 (by decide +kernel) rfl dX11_init_96 ?_
  refine lv_aload_n hx hb dX11_init_99 rfl (lv_at hl 0 rfl) ?_
  refine zb_get (kf := 5) (v := .inl 59) C w (List.mem_cons_of_mem _ List.mem_cons_self) e0 flRX11_52 (by decide +kernel) rfl dX11_init_100 ?_
  refine zb_call (M' := MX2_init) (mc := 5) (ms := 1203) (j := 65) (cj := 2) (n := 4) (as := (fun α => [.ref (α 22), .ref (α 52), .ref (α 47), .ref (α 59)])) C hnw hA hl (zi_X2_65 C.2.2.2.2.2.2.2.2) (zin_1 (List.mem_of_getElem? (i := 8) (by decide +kernel))) (zin_2 (List.mem_of_getElem? (i := 43) rfl)) ⟨by decide, by decide, by decide +kernel⟩ (zin_2 (List.mem_of_getElem? (i := 41) (by decide +kernel))) rfl (zin_2 (List.mem_of_getElem? (i := 42) (by decide +kernel))) rfl ⟨by decide, by decide⟩ w rfl rfl (Nat.le_of_ble_eq_true rfl) ⟨(Nat.le_of_ble_eq_true rfl), (Nat.le_of_ble_eq_true rfl)⟩ dX11_init_103 (fun α13 H1 locs1 hα13 w => ?_)
  have ej : α13 65 = α12 65 := hα13 65 (by decide)
  rw [zbw_ap (α := α12) (β := α13) (own := [67, 66, 62, 63, 64]) (by decide +kernel) (by decide +kernel) (by decide) (zsE_ap (own := [67, 66, 62, 63, 64]) (by decide +kernel) hα13) hα13] at w
  have w : zWq G A s.heap H1 locs1 (zbw G α13 zSt0 0 11 (zsh 0).2.2 [(5, .inl 59), (4, .inl 52), (3, .inl 47), (2, .inl 35), (1, .inl 22), (0, .inl 1)] (zsE G 0) [65, 67, 66, 62, 63, 64, 59, 60, 61, 52, 58, 57, 56, 55, 54, 53, 47, 51, 50, 49, 48, 35, 46, 45, 44, 43, 42, 41, 40, 39, 38, 37, 36, 22, 34, 33, 32, 31, 30, 29, 28, 27, 26, 25, 24, 23]) := zWq_pm zbw_in w
  have e0 : α13 0 = h0 := (hα13 0 (by decide)).trans e0
  rw [← ej]
  refine zb_fin (v := .inl 65) (kf := 6) C hin w e0 flRX11_61 (q := (RX11, TX11, 14)) rfl rfl rfl (ty2 := .object "CollegeHouse$Election") (by decide +kernel) rfl rfl (by decide +kernel) dX11_init_106 (fun H1 locs1 w => ?_)
  refine lv_aload_n hx hb dX11_init_109 rfl (lv_at hl 0 rfl) ?_
  refine zb_new (α := α13) (j := 68) (cj := 4) (rsj := (zsh 68).2.2) (q := (RX4, TX4, 14)) (ty := tyX4) C hA w rfl tyX4_ok (fun k hk => by rcases (show k = 0 ∨ k = 1 ∨ k = 2 ∨ k = 3 ∨ k = 4 ∨ k = 5 ∨ k = 6 ∨ k = 7 ∨ k = 8 ∨ k = 9 ∨ k = 10 ∨ k = 11 ∨ k = 12 ∨ k = 13 by simp only at hk; omega) with rfl | rfl | rfl | rfl | rfl | rfl | rfl | rfl | rfl | rfl | rfl | rfl | rfl | rfl <;> rfl) (zin_2 (List.mem_of_getElem? (i := 82) (by decide +kernel))) (zin_2 (List.mem_of_getElem? (i := 83) (by decide +kernel))) (zin_1 (List.mem_of_getElem? (i := 9) (by decide +kernel))) (Nat.le_of_ble_eq_true rfl) (Nat.le_of_ble_eq_true rfl) dX11_init_110 (fun α14 H1 hα14 w => ?_)
  rw [zbw_ap (α := α13) (β := α14) (own := [68]) (by decide +kernel) (by decide +kernel) (by decide) (zsE_ap (own := [68]) (by decide +kernel) (fun i hi => hα14 i (fun z => hi (by rw [z]; exact List.mem_cons_self)))) (fun i hi => hα14 i (fun z => hi (by rw [z]; exact List.mem_cons_self)))] at w
  have e0 : α14 0 = h0 := (hα14 0 (by decide)).trans e0
  refine lv_dup hx hb dX11_init_113 rfl ?_
  refine lv_aload_n hx hb dX11_init_114 rfl (lv_at hl 0 rfl) ?_
  refine zb_get (kf := 1) (v := .inl 22) C w (List.mem_cons_of_mem _ List.mem_cons_self) e0 flRX11_18 (by decide +kernel) rfl dX11_init_115 ?_
  refine zb_call (M' := MX4_init) (mc := 10) (ms := 536) (j := 68) (cj := 4) (n := 1) (as := (fun α => [.ref (α 22)])) C hnw hA hl (zi_X4_68 C.2.2.2.2.2.2.2.2) (zin_1 (List.mem_of_getElem? (i := 9) (by decide +kernel))) (zin_2 (List.mem_of_getElem? (i := 86) rfl)) ⟨by decide, by decide, by decide +kernel⟩ (zin_2 (List.mem_of_getElem? (i := 84) (by decide +kernel))) rfl (zin_2 (List.mem_of_getElem? (i := 85) (by decide +kernel))) rfl ⟨by decide, by decide⟩ w rfl rfl (Nat.le_of_ble_eq_true rfl) ⟨(Nat.le_of_ble_eq_true rfl), (Nat.le_of_ble_eq_true rfl)⟩ dX11_init_118 (fun α15 H1 locs1 hα15 w => ?_)
  have ej : α15 68 = α14 68 := hα15 68 (by decide)
  rw [zbw_ap (α := α14) (β := α15) (own := [78, 77, 76, 75, 74, 73, 72, 71, 70, 69]) (by decide +kernel) (by decide +kernel) (by decide) (zsE_ap (own := [78, 77, 76, 75, 74, 73, 72, 71, 70, 69]) (by decide +kernel) hα15) hα15] at w
  have w : zWq G A s.heap H1 locs1 (zbw G α15 zSt0 0 11 (zsh 0).2.2 [(6, .inl 65), (5, .inl 59), (4, .inl 52), (3, .inl 47), (2, .inl 35), (1, .inl 22), (0, .inl 1)] (zsE G 0) [68, 78, 77, 76, 75, 74, 73, 72, 71, 70, 69, 65, 67, 66, 62, 63, 64, 59, 60, 61, 52, 58, 57, 56, 55, 54, 53, 47, 51, 50, 49, 48, 35, 46, 45, 44, 43, 42, 41, 40, 39, 38, 37, 36, 22, 34, 33, 32, 31, 30, 29, 28, 27, 26, 25, 24, 23]) := zWq_pm zbw_in w
  have e0 : α15 0 = h0 := (hα15 0 (by decide)).trans e0
  rw [← ej]
  refine zb_fin (v := .inl 68) (kf := 7) C hin w e0 flRX11_70 (q := (RX11, TX11, 14)) rfl rfl rfl (ty2 := .object "CollegeHouse$Leases") (by decide +kernel) rfl rfl (by decide +kernel) dX11_init_121 (fun H1 locs1 w => ?_)
  refine lv_aload_n hx hb dX11_init_124 rfl (lv_at hl 0 rfl) ?_
  refine zb_new (α := α15) (j := 79) (cj := 0) (rsj := (zsh 79).2.2) (q := (RX0, TX0, 8)) (ty := tyX0) C hA w rfl tyX0_ok (fun k hk => by rcases (show k = 0 ∨ k = 1 ∨ k = 2 ∨ k = 3 ∨ k = 4 ∨ k = 5 ∨ k = 6 ∨ k = 7 by simp only at hk; omega) with rfl | rfl | rfl | rfl | rfl | rfl | rfl | rfl <;> rfl) (zin_2 (List.mem_of_getElem? (i := 140) (by decide +kernel))) (zin_2 (List.mem_of_getElem? (i := 141) (by decide +kernel))) (zin_1 (List.mem_of_getElem? (i := 10) (by decide +kernel))) (Nat.le_of_ble_eq_true rfl) (Nat.le_of_ble_eq_true rfl) dX11_init_125 (fun α16 H1 hα16 w => ?_)
  rw [zbw_ap (α := α15) (β := α16) (own := [79]) (by decide +kernel) (by decide +kernel) (by decide) (zsE_ap (own := [79]) (by decide +kernel) (fun i hi => hα16 i (fun z => hi (by rw [z]; exact List.mem_cons_self)))) (fun i hi => hα16 i (fun z => hi (by rw [z]; exact List.mem_cons_self)))] at w
  have e0 : α16 0 = h0 := (hα16 0 (by decide)).trans e0
  refine lv_dup hx hb dX11_init_128 rfl ?_
  refine zb_callN (M' := MX0_init) (mc := 3) (ms := 488) (j := 79) (cj := 0) (n := 0) (as := (fun _ => [])) C hnw hA hl (zi_X0_79 C.2.2.2.2.2.2.2.2) (zin_1 (List.mem_of_getElem? (i := 10) (by decide +kernel))) (zin_2 (List.mem_of_getElem? (i := 144) rfl)) ⟨by decide, by decide, by decide +kernel⟩ hnw.2.2.1 rfl (zin_2 (List.mem_of_getElem? (i := 143) (by decide +kernel))) rfl ⟨by decide, by decide⟩ w rfl rfl (Nat.le_of_ble_eq_true rfl) ⟨(Nat.le_of_ble_eq_true rfl), (Nat.le_of_ble_eq_true rfl)⟩ dX11_init_129 (fun α17 H1 locs1 hα17 w => ?_)
  have ej : α17 79 = α16 79 := hα17 79 (by decide)
  rw [zbw_ap (α := α16) (β := α17) (own := [82, 81, 80]) (by decide +kernel) (by decide +kernel) (by decide) (zsE_ap (own := [82, 81, 80]) (by decide +kernel) hα17) hα17] at w
  have w : zWq G A s.heap H1 locs1 (zbw G α17 zSt0 0 11 (zsh 0).2.2 [(7, .inl 68), (6, .inl 65), (5, .inl 59), (4, .inl 52), (3, .inl 47), (2, .inl 35), (1, .inl 22), (0, .inl 1)] (zsE G 0) [79, 82, 81, 80, 68, 78, 77, 76, 75, 74, 73, 72, 71, 70, 69, 65, 67, 66, 62, 63, 64, 59, 60, 61, 52, 58, 57, 56, 55, 54, 53, 47, 51, 50, 49, 48, 35, 46, 45, 44, 43, 42, 41, 40, 39, 38, 37, 36, 22, 34, 33, 32, 31, 30, 29, 28, 27, 26, 25, 24, 23]) := zWq_pm zbw_in w
  have e0 : α17 0 = h0 := (hα17 0 (by decide)).trans e0
  rw [← ej]
  refine zb_fin (v := .inl 79) (kf := 8) C hin w e0 flRX11_77 (q := (RX11, TX11, 14)) rfl rfl rfl (ty2 := .object "CollegeHouse$Chest") (by decide +kernel) rfl rfl (by decide +kernel) dX11_init_132 (fun H1 locs1 w => ?_)
  refine lv_aload_n hx hb dX11_init_135 rfl (lv_at hl 0 rfl) ?_
  refine zb_new (α := α17) (j := 83) (cj := 7) (rsj := (zsh 83).2.2) (q := (RX7, TX7, 14)) (ty := tyX7) C hA w rfl tyX7_ok (fun k hk => by rcases (show k = 0 ∨ k = 1 ∨ k = 2 ∨ k = 3 ∨ k = 4 ∨ k = 5 ∨ k = 6 ∨ k = 7 ∨ k = 8 ∨ k = 9 ∨ k = 10 ∨ k = 11 ∨ k = 12 ∨ k = 13 by simp only at hk; omega) with rfl | rfl | rfl | rfl | rfl | rfl | rfl | rfl | rfl | rfl | rfl | rfl | rfl | rfl <;> rfl) (zin_2 (List.mem_of_getElem? (i := 179) (by decide +kernel))) (zin_2 (List.mem_of_getElem? (i := 180) (by decide +kernel))) (zin_1 (List.mem_of_getElem? (i := 11) (by decide +kernel))) (Nat.le_of_ble_eq_true rfl) (Nat.le_of_ble_eq_true rfl) dX11_init_136 (fun α18 H1 hα18 w => ?_)
  rw [zbw_ap (α := α17) (β := α18) (own := [83]) (by decide +kernel) (by decide +kernel) (by decide) (zsE_ap (own := [83]) (by decide +kernel) (fun i hi => hα18 i (fun z => hi (by rw [z]; exact List.mem_cons_self)))) (fun i hi => hα18 i (fun z => hi (by rw [z]; exact List.mem_cons_self)))] at w
  have e0 : α18 0 = h0 := (hα18 0 (by decide)).trans e0
  refine lv_dup hx hb dX11_init_139 rfl ?_
  refine lv_aload_n hx hb dX11_init_140 rfl (lv_at hl 0 rfl) ?_
  refine zb_get (kf := 7) (v := .inl 68) C w (List.mem_cons_of_mem _ List.mem_cons_self) e0 flRX11_70 (by decide +kernel) rfl dX11_init_141 ?_
  refine lv_aload_n hx hb dX11_init_144 rfl (lv_at hl 0 rfl) ?_
  refine zb_get (kf := 8) (v := .inl 79) C w (List.mem_cons_of_mem _ List.mem_cons_self) e0 flRX11_77 (by decide +kernel) rfl dX11_init_145 ?_
  refine zb_call (M' := MX7_init) (mc := 7) (ms := 118) (j := 83) (cj := 7) (n := 2) (as := (fun α => [.ref (α 68), .ref (α 79)])) C hnw hA hl (zi_X7_83 C.2.2.2.2.2.2.2.2) (zin_1 (List.mem_of_getElem? (i := 11) (by decide +kernel))) (zin_2 (List.mem_of_getElem? (i := 183) rfl)) ⟨by decide, by decide, by decide +kernel⟩ (zin_2 (List.mem_of_getElem? (i := 181) (by decide +kernel))) rfl (zin_2 (List.mem_of_getElem? (i := 182) (by decide +kernel))) rfl ⟨by decide, by decide⟩ w rfl rfl (Nat.le_of_ble_eq_true rfl) ⟨(Nat.le_of_ble_eq_true rfl), (Nat.le_of_ble_eq_true rfl)⟩ dX11_init_148 (fun α19 H1 locs1 hα19 w => ?_)
  have ej : α19 83 = α18 83 := hα19 83 (by decide)
  rw [zbw_ap (α := α18) (β := α19) (own := [90, 89, 88, 87, 86, 85, 84]) (by decide +kernel) (by decide +kernel) (by decide) (zsE_ap (own := [90, 89, 88, 87, 86, 85, 84]) (by decide +kernel) hα19) hα19] at w
  have w : zWq G A s.heap H1 locs1 (zbw G α19 zSt0 0 11 (zsh 0).2.2 [(8, .inl 79), (7, .inl 68), (6, .inl 65), (5, .inl 59), (4, .inl 52), (3, .inl 47), (2, .inl 35), (1, .inl 22), (0, .inl 1)] (zsE G 0) [83, 90, 89, 88, 87, 86, 85, 84, 79, 82, 81, 80, 68, 78, 77, 76, 75, 74, 73, 72, 71, 70, 69, 65, 67, 66, 62, 63, 64, 59, 60, 61, 52, 58, 57, 56, 55, 54, 53, 47, 51, 50, 49, 48, 35, 46, 45, 44, 43, 42, 41, 40, 39, 38, 37, 36, 22, 34, 33, 32, 31, 30, 29, 28, 27, 26, 25, 24, 23]) := zWq_pm zbw_in w
  have e0 : α19 0 = h0 := (hα19 0 (by decide)).trans e0
  rw [← ej]
  refine zb_fin (v := .inl 83) (kf := 9) C hin w e0 flRX11_86 (q := (RX11, TX11, 14)) rfl rfl rfl (ty2 := .object "CollegeHouse$Planner") (by decide +kernel) rfl rfl (by decide +kernel) dX11_init_151 (fun H1 locs1 w => ?_)
  refine lv_aload_n hx hb dX11_init_154 rfl (lv_at hl 0 rfl) ?_
  refine zb_new (α := α19) (j := 91) (cj := 1) (rsj := (zsh 91).2.2) (q := (RX1, TX1, 3)) (ty := tyX1) C hA w rfl tyX1_ok (fun k hk => by rcases (show k = 0 ∨ k = 1 ∨ k = 2 by simp only at hk; omega) with rfl | rfl | rfl <;> rfl) (zin_2 (List.mem_of_getElem? (i := 22) (by decide +kernel))) (zin_2 (List.mem_of_getElem? (i := 23) (by decide +kernel))) (zin_1 (List.mem_of_getElem? (i := 7) (by decide +kernel))) (Nat.le_of_ble_eq_true rfl) (Nat.le_of_ble_eq_true rfl) dX11_init_155 (fun α20 H1 hα20 w => ?_)
  rw [zbw_ap (α := α19) (β := α20) (own := [91]) (by decide +kernel) (by decide +kernel) (by decide) (zsE_ap (own := [91]) (by decide +kernel) (fun i hi => hα20 i (fun z => hi (by rw [z]; exact List.mem_cons_self)))) (fun i hi => hα20 i (fun z => hi (by rw [z]; exact List.mem_cons_self)))] at w
  have e0 : α20 0 = h0 := (hα20 0 (by decide)).trans e0
  refine lv_dup hx hb dX11_init_158 rfl ?_
  refine lv_bipush (v := Int32.ofInt (9)) hx hb dX11_init_159 (by decide) ?_
  refine zb_call (M' := MX1_init) (mc := 2) (ms := 240) (j := 91) (cj := 1) (n := 1) (as := (fun _ => [.int (Int32.ofInt 9)])) C hnw hA hl (zi_X1_91 C.2.2.2.2.2.2.2.2) (zin_1 (List.mem_of_getElem? (i := 7) (by decide +kernel))) (zin_2 (List.mem_of_getElem? (i := 26) rfl)) ⟨by decide, by decide, by decide +kernel⟩ (zin_2 (List.mem_of_getElem? (i := 24) (by decide +kernel))) rfl (zin_2 (List.mem_of_getElem? (i := 25) (by decide +kernel))) rfl ⟨by decide, by decide⟩ w rfl rfl (Nat.le_of_ble_eq_true rfl) ⟨(Nat.le_of_ble_eq_true rfl), (Nat.le_of_ble_eq_true rfl)⟩ dX11_init_161 (fun α21 H1 locs1 hα21 w => ?_)
  have ej : α21 91 = α20 91 := hα21 91 (by decide)
  rw [zbw_ap (α := α20) (β := α21) (own := [92, 93]) (by decide +kernel) (by decide +kernel) (by decide) (zsE_ap (own := [92, 93]) (by decide +kernel) hα21) hα21] at w
  have w : zWq G A s.heap H1 locs1 (zbw G α21 zSt0 0 11 (zsh 0).2.2 [(9, .inl 83), (8, .inl 79), (7, .inl 68), (6, .inl 65), (5, .inl 59), (4, .inl 52), (3, .inl 47), (2, .inl 35), (1, .inl 22), (0, .inl 1)] (zsE G 0) [91, 92, 93, 83, 90, 89, 88, 87, 86, 85, 84, 79, 82, 81, 80, 68, 78, 77, 76, 75, 74, 73, 72, 71, 70, 69, 65, 67, 66, 62, 63, 64, 59, 60, 61, 52, 58, 57, 56, 55, 54, 53, 47, 51, 50, 49, 48, 35, 46, 45, 44, 43, 42, 41, 40, 39, 38, 37, 36, 22, 34, 33, 32, 31, 30, 29, 28, 27, 26, 25, 24, 23]) := zWq_pm zbw_in w
  have e0 : α21 0 = h0 := (hα21 0 (by decide)).trans e0
  rw [← ej]
  refine zb_fin (v := .inl 91) (kf := 10) C hin w e0 flRX11_90 (q := (RX11, TX11, 14)) rfl rfl rfl (ty2 := .object "CollegeHouse$Choices") (by decide +kernel) rfl rfl (by decide +kernel) dX11_init_164 (fun H1 locs1 w => ?_)
  refine lv_aload_n hx hb dX11_init_167 rfl (lv_at hl 0 rfl) ?_
  refine zb_new (α := α21) (j := 94) (cj := 8) (rsj := (zsh 94).2.2) (q := (RX8, TX8, 5)) (ty := tyX8) C hA w rfl tyX8_ok (fun k hk => by rcases (show k = 0 ∨ k = 1 ∨ k = 2 ∨ k = 3 ∨ k = 4 by simp only at hk; omega) with rfl | rfl | rfl | rfl | rfl <;> rfl) (zin_2 (List.mem_of_getElem? (i := 229) (by decide +kernel))) (zin_2 (List.mem_of_getElem? (i := 230) (by decide +kernel))) (zin_1 (List.mem_of_getElem? (i := 12) (by decide +kernel))) (Nat.le_of_ble_eq_true rfl) (Nat.le_of_ble_eq_true rfl) dX11_init_168 (fun α22 H1 hα22 w => ?_)
  rw [zbw_ap (α := α21) (β := α22) (own := [94]) (by decide +kernel) (by decide +kernel) (by decide) (zsE_ap (own := [94]) (by decide +kernel) (fun i hi => hα22 i (fun z => hi (by rw [z]; exact List.mem_cons_self)))) (fun i hi => hα22 i (fun z => hi (by rw [z]; exact List.mem_cons_self)))] at w
  have e0 : α22 0 = h0 := (hα22 0 (by decide)).trans e0
  refine lv_dup hx hb dX11_init_171 rfl ?_
  refine lv_aload_n hx hb dX11_init_172 rfl (lv_at hl 0 rfl) ?_
  refine zb_get (kf := 4) (v := .inl 52) C w (List.mem_cons_of_mem _ List.mem_cons_self) e0 flRX11_43 (by decide +kernel) rfl dX11_init_173 ?_
  refine lv_aload_n hx hb dX11_init_176 rfl (lv_at hl 0 rfl) ?_
  refine zb_get (kf := 10) (v := .inl 91) C w (List.mem_cons_of_mem _ List.mem_cons_self) e0 flRX11_90 (by decide +kernel) rfl dX11_init_177 ?_
  refine zb_call (M' := MX8_init) (mc := 2) (ms := 33) (j := 94) (cj := 8) (n := 2) (as := (fun α => [.ref (α 52), .ref (α 91)])) C hnw hA hl (zi_X8_94 C.2.2.2.2.2.2.2.2) (zin_1 (List.mem_of_getElem? (i := 12) (by decide +kernel))) (zin_2 (List.mem_of_getElem? (i := 233) rfl)) ⟨by decide, by decide, by decide +kernel⟩ (zin_2 (List.mem_of_getElem? (i := 231) (by decide +kernel))) rfl (zin_2 (List.mem_of_getElem? (i := 232) (by decide +kernel))) rfl ⟨by decide, by decide⟩ w rfl rfl (Nat.le_of_ble_eq_true rfl) ⟨(Nat.le_of_ble_eq_true rfl), (Nat.le_of_ble_eq_true rfl)⟩ dX11_init_180 (fun α23 H1 locs1 hα23 w => ?_)
  have ej : α23 94 = α22 94 := hα23 94 (by decide)
  rw [zbw_ap (α := α22) (β := α23) (own := [96, 95]) (by decide +kernel) (by decide +kernel) (by decide) (zsE_ap (own := [96, 95]) (by decide +kernel) hα23) hα23] at w
  have w : zWq G A s.heap H1 locs1 (zbw G α23 zSt0 0 11 (zsh 0).2.2 [(10, .inl 91), (9, .inl 83), (8, .inl 79), (7, .inl 68), (6, .inl 65), (5, .inl 59), (4, .inl 52), (3, .inl 47), (2, .inl 35), (1, .inl 22), (0, .inl 1)] (zsE G 0) [94, 96, 95, 91, 92, 93, 83, 90, 89, 88, 87, 86, 85, 84, 79, 82, 81, 80, 68, 78, 77, 76, 75, 74, 73, 72, 71, 70, 69, 65, 67, 66, 62, 63, 64, 59, 60, 61, 52, 58, 57, 56, 55, 54, 53, 47, 51, 50, 49, 48, 35, 46, 45, 44, 43, 42, 41, 40, 39, 38, 37, 36, 22, 34, 33, 32, 31, 30, 29, 28, 27, 26, 25, 24, 23]) := zWq_pm zbw_in w
  have e0 : α23 0 = h0 := (hα23 0 (by decide)).trans e0
  rw [← ej]
  refine zb_fin (v := .inl 94) (kf := 11) C hin w e0 flRX11_98 (q := (RX11, TX11, 14)) rfl rfl rfl (ty2 := .object "CollegeHouse$Rooms") (by decide +kernel) rfl rfl (by decide +kernel) dX11_init_183 (fun H1 locs1 w => ?_)
  refine lv_aload_n hx hb dX11_init_186 rfl (lv_at hl 0 rfl) ?_
  refine lv_bipush (v := Int32.ofInt (8)) hx hb dX11_init_187 (by decide) ?_
  refine zb_arr (t0 := 0) (j := 97) (N := 8) (kf := 12) (a0 := (8, .inl (fun _ => 0))) (ty := .int) C hin hA w e0 rfl rfl zarrI (fun U cA cB h1 h2 => Option.some.inj (h1.symm.trans h2)) (fun _ => rfl) (fun α' => zcl_z0 (by decide +kernel) rfl) (by decide) (by decide +kernel) (by decide +kernel) (by decide +kernel) (by decide +kernel) (by decide) (fun q => zsE_ap (own := [97]) (by decide +kernel) (fun i hi => zau_ne (fun z => hi (by rw [z]; exact List.mem_cons_self)))) flRX11_102 (q := (RX11, TX11, 14)) rfl rfl rfl (ty2 := .array .int) (by decide +kernel) (fun _ => rfl) (fun _ => rfl) (by decide +kernel) (Nat.le_of_ble_eq_true rfl) (Nat.le_of_ble_eq_true rfl) dX11_init_189 dX11_init_191 (fun α24 H1 locs1 hα24 w e0 => ?_)
  refine lv_aload_n hx hb dX11_init_194 rfl (lv_at hl 0 rfl) ?_
  refine lv_iconst (v := Int32.ofInt (0)) hx hb dX11_init_195 (by decide) ?_
  refine zb_put (kf := 13) (x := 0) C w e0 fpRX11_106 (by decide +kernel) dX11_init_196 (fun H1 locs1 w => ?_)
  obtain ⟨hs, es⟩ : ∃ h, α24 1 = h := ⟨_, rfl⟩
  refine lv_iconst (v := Int32.ofInt 0) hx hb dX11_init_199 (by decide) ?_
  refine lv_istore_n (lv' := [(1, .int (Int32.ofInt 0)), (0, .ref h0)]) hx hb dX11_init_200 rfl hl (by decide) rfl (fun lsr hl => ?_)
  refine lv_iload_n hx hb dX11_init_201 rfl (lv_at hl 0 rfl) ?_
  refine lv_bipush (v := Int32.ofInt 10) hx hb dX11_init_202 (by decide) ?_
  refine lv_icmp_ge (tgt := 226) hx hb dX11_init_204 (by decide) (fun hc => absurd hc (by decide)) (fun _ => ?_)
  refine lv_aload_n hx hb dX11_init_207 rfl (lv_at hl 1 rfl) ?_
  refine zb_get (kf := 0) (v := .inl 1) C w List.mem_cons_self e0 flRX11_11 (by decide +kernel) rfl dX11_init_208 ?_
  rw [show zov α24 (.inl 1) = Value.ref hs from congrArg Value.ref es]
  refine lv_iload_n hx hb dX11_init_211 rfl (lv_at hl 0 rfl) ?_
  refine zb_new (α := α24) (j := 2) (cj := 9) (rsj := (zsh 2).2.2) (q := (RX9, TX9, 4)) (ty := tyX9) C hA w rfl tyX9_ok (fun k hk => by rcases (show k = 0 ∨ k = 1 ∨ k = 2 ∨ k = 3 by simp only at hk; omega) with rfl | rfl | rfl | rfl <;> rfl) (zin_1 (List.mem_of_getElem? (i := 26) (by decide +kernel))) (zin_3 (List.mem_of_getElem? (i := 14) (by decide +kernel))) (zin_1 (List.mem_of_getElem? (i := 13) (by decide +kernel))) (Nat.le_of_ble_eq_true rfl) (Nat.le_of_ble_eq_true rfl) dX11_init_212 (fun α25 H1 hα25 w => ?_)
  rw [zbw_ap (α := α24) (β := α25) (own := [2]) (by decide +kernel) (by decide +kernel) (by decide) (zsE_ap (own := [2]) (by decide +kernel) (fun i hi => hα25 i (fun z => hi (by rw [z]; exact List.mem_cons_self)))) (fun i hi => hα25 i (fun z => hi (by rw [z]; exact List.mem_cons_self)))] at w
  have e0 : α25 0 = h0 := (hα25 0 (by decide)).trans e0
  have es : α25 1 = hs := (hα25 1 (by decide)).trans es
  refine lv_dup hx hb dX11_init_215 rfl ?_
  refine zb_callN (M' := MX9_init) (mc := 1) (ms := 80) (j := 2) (cj := 9) (n := 0) (as := (fun _ => [])) C hnw hA hl (zi_X9_2 C.2.2.2.2.2.2.2.2) (zin_1 (List.mem_of_getElem? (i := 13) (by decide +kernel))) (zin_3 (List.mem_of_getElem? (i := 17) rfl)) ⟨by decide, by decide, by decide +kernel⟩ hnw.2.2.2 rfl (zin_3 (List.mem_of_getElem? (i := 16) (by decide +kernel))) rfl ⟨by decide, by decide⟩ w rfl rfl (Nat.le_of_ble_eq_true rfl) ⟨(Nat.le_of_ble_eq_true rfl), (Nat.le_of_ble_eq_true rfl)⟩ dX11_init_216 (fun α26 H1 locs1 hα26 w => ?_)
  have ej : α26 2 = α25 2 := hα26 2 (by decide)
  rw [zbw_ap (α := α25) (β := α26) (own := [3]) (by decide +kernel) (by decide +kernel) (by decide) (zsE_ap (own := [3]) (by decide +kernel) hα26) hα26] at w
  have w : zWq G A s.heap H1 locs1 (zbw G α26 zSt0 0 11 (zsh 0).2.2 [(13, .inr (0)), (12, .inl 97), (11, .inl 94), (10, .inl 91), (9, .inl 83), (8, .inl 79), (7, .inl 68), (6, .inl 65), (5, .inl 59), (4, .inl 52), (3, .inl 47), (2, .inl 35), (1, .inl 22), (0, .inl 1)] (zsE G 0) [2, 3, 97, 94, 96, 95, 91, 92, 93, 83, 90, 89, 88, 87, 86, 85, 84, 79, 82, 81, 80, 68, 78, 77, 76, 75, 74, 73, 72, 71, 70, 69, 65, 67, 66, 62, 63, 64, 59, 60, 61, 52, 58, 57, 56, 55, 54, 53, 47, 51, 50, 49, 48, 35, 46, 45, 44, 43, 42, 41, 40, 39, 38, 37, 36, 22, 34, 33, 32, 31, 30, 29, 28, 27, 26, 25, 24, 23]) := zWq_pm zbw_in w
  have e0 : α26 0 = h0 := (hα26 0 (by decide)).trans e0
  rw [← ej]
  have es : α26 1 = hs := (hα26 1 (by decide)).trans es
  rw [← es]
  refine zb_aast (n := 0) (j := 2) (rsj := (zsh 2).2.2) C w (by decide) (by decide) (by decide +kernel) (by decide +kernel) dX11_init_219 (fun H1 locs1 w => ?_)
  refine lv_iinc (v := Int32.ofInt 1) (lv' := [(1, .int (Int32.ofInt 1)), (0, .ref h0)]) hx hb dX11_init_220 hl (k := 0) rfl (by decide) (by decide) rfl (fun lsr hl => ?_)
  refine lv_goto (tgt := 201) hx hb dX11_init_223 (by decide) ?_
  refine lv_iload_n hx hb dX11_init_201 rfl (lv_at hl 0 rfl) ?_
  refine lv_bipush (v := Int32.ofInt 10) hx hb dX11_init_202 (by decide) ?_
  refine lv_icmp_ge (tgt := 226) hx hb dX11_init_204 (by decide) (fun hc => absurd hc (by decide)) (fun _ => ?_)
  refine lv_aload_n hx hb dX11_init_207 rfl (lv_at hl 1 rfl) ?_
  refine zb_get (kf := 0) (v := .inl 1) C w List.mem_cons_self e0 flRX11_11 (by decide +kernel) rfl dX11_init_208 ?_
  rw [show zov α26 (.inl 1) = Value.ref hs from congrArg Value.ref es]
  refine lv_iload_n hx hb dX11_init_211 rfl (lv_at hl 0 rfl) ?_
  refine zb_new (α := α26) (j := 4) (cj := 9) (rsj := (zsh 4).2.2) (q := (RX9, TX9, 4)) (ty := tyX9) C hA w rfl tyX9_ok (fun k hk => by rcases (show k = 0 ∨ k = 1 ∨ k = 2 ∨ k = 3 by simp only at hk; omega) with rfl | rfl | rfl | rfl <;> rfl) (zin_1 (List.mem_of_getElem? (i := 26) (by decide +kernel))) (zin_3 (List.mem_of_getElem? (i := 14) (by decide +kernel))) (zin_1 (List.mem_of_getElem? (i := 13) (by decide +kernel))) (Nat.le_of_ble_eq_true rfl) (Nat.le_of_ble_eq_true rfl) dX11_init_212 (fun α27 H1 hα27 w => ?_)
  rw [zbw_ap (α := α26) (β := α27) (own := [4]) (by decide +kernel) (by decide +kernel) (by decide) (zsE_ap (own := [4]) (by decide +kernel) (fun i hi => hα27 i (fun z => hi (by rw [z]; exact List.mem_cons_self)))) (fun i hi => hα27 i (fun z => hi (by rw [z]; exact List.mem_cons_self)))] at w
  have e0 : α27 0 = h0 := (hα27 0 (by decide)).trans e0
  have es : α27 1 = hs := (hα27 1 (by decide)).trans es
  refine lv_dup hx hb dX11_init_215 rfl ?_
  refine zb_callN (M' := MX9_init) (mc := 1) (ms := 80) (j := 4) (cj := 9) (n := 0) (as := (fun _ => [])) C hnw hA hl (zi_X9_4 C.2.2.2.2.2.2.2.2) (zin_1 (List.mem_of_getElem? (i := 13) (by decide +kernel))) (zin_3 (List.mem_of_getElem? (i := 17) rfl)) ⟨by decide, by decide, by decide +kernel⟩ hnw.2.2.2 rfl (zin_3 (List.mem_of_getElem? (i := 16) (by decide +kernel))) rfl ⟨by decide, by decide⟩ w rfl rfl (Nat.le_of_ble_eq_true rfl) ⟨(Nat.le_of_ble_eq_true rfl), (Nat.le_of_ble_eq_true rfl)⟩ dX11_init_216 (fun α28 H1 locs1 hα28 w => ?_)
  have ej : α28 4 = α27 4 := hα28 4 (by decide)
  rw [zbw_ap (α := α27) (β := α28) (own := [5]) (by decide +kernel) (by decide +kernel) (by decide) (zsE_ap (own := [5]) (by decide +kernel) hα28) hα28] at w
  have w : zWq G A s.heap H1 locs1 (zbw G α28 zSt0 0 11 (zsh 0).2.2 [(13, .inr (0)), (12, .inl 97), (11, .inl 94), (10, .inl 91), (9, .inl 83), (8, .inl 79), (7, .inl 68), (6, .inl 65), (5, .inl 59), (4, .inl 52), (3, .inl 47), (2, .inl 35), (1, .inl 22), (0, .inl 1)] (zsE G 1) [4, 5, 2, 3, 97, 94, 96, 95, 91, 92, 93, 83, 90, 89, 88, 87, 86, 85, 84, 79, 82, 81, 80, 68, 78, 77, 76, 75, 74, 73, 72, 71, 70, 69, 65, 67, 66, 62, 63, 64, 59, 60, 61, 52, 58, 57, 56, 55, 54, 53, 47, 51, 50, 49, 48, 35, 46, 45, 44, 43, 42, 41, 40, 39, 38, 37, 36, 22, 34, 33, 32, 31, 30, 29, 28, 27, 26, 25, 24, 23]) := zWq_pm zbw_in w
  have e0 : α28 0 = h0 := (hα28 0 (by decide)).trans e0
  rw [← ej]
  have es : α28 1 = hs := (hα28 1 (by decide)).trans es
  rw [← es]
  refine zb_aast (n := 1) (j := 4) (rsj := (zsh 4).2.2) C w (by decide) (by decide) (by decide +kernel) (by decide +kernel) dX11_init_219 (fun H1 locs1 w => ?_)
  refine lv_iinc (v := Int32.ofInt 2) (lv' := [(1, .int (Int32.ofInt 2)), (0, .ref h0)]) hx hb dX11_init_220 hl (k := 0) rfl (by decide) (by decide) rfl (fun lsr hl => ?_)
  refine lv_goto (tgt := 201) hx hb dX11_init_223 (by decide) ?_
  refine lv_iload_n hx hb dX11_init_201 rfl (lv_at hl 0 rfl) ?_
  refine lv_bipush (v := Int32.ofInt 10) hx hb dX11_init_202 (by decide) ?_
  refine lv_icmp_ge (tgt := 226) hx hb dX11_init_204 (by decide) (fun hc => absurd hc (by decide)) (fun _ => ?_)
  refine lv_aload_n hx hb dX11_init_207 rfl (lv_at hl 1 rfl) ?_
  refine zb_get (kf := 0) (v := .inl 1) C w List.mem_cons_self e0 flRX11_11 (by decide +kernel) rfl dX11_init_208 ?_
  rw [show zov α28 (.inl 1) = Value.ref hs from congrArg Value.ref es]
  refine lv_iload_n hx hb dX11_init_211 rfl (lv_at hl 0 rfl) ?_
  refine zb_new (α := α28) (j := 6) (cj := 9) (rsj := (zsh 6).2.2) (q := (RX9, TX9, 4)) (ty := tyX9) C hA w rfl tyX9_ok (fun k hk => by rcases (show k = 0 ∨ k = 1 ∨ k = 2 ∨ k = 3 by simp only at hk; omega) with rfl | rfl | rfl | rfl <;> rfl) (zin_1 (List.mem_of_getElem? (i := 26) (by decide +kernel))) (zin_3 (List.mem_of_getElem? (i := 14) (by decide +kernel))) (zin_1 (List.mem_of_getElem? (i := 13) (by decide +kernel))) (Nat.le_of_ble_eq_true rfl) (Nat.le_of_ble_eq_true rfl) dX11_init_212 (fun α29 H1 hα29 w => ?_)
  rw [zbw_ap (α := α28) (β := α29) (own := [6]) (by decide +kernel) (by decide +kernel) (by decide) (zsE_ap (own := [6]) (by decide +kernel) (fun i hi => hα29 i (fun z => hi (by rw [z]; exact List.mem_cons_self)))) (fun i hi => hα29 i (fun z => hi (by rw [z]; exact List.mem_cons_self)))] at w
  have e0 : α29 0 = h0 := (hα29 0 (by decide)).trans e0
  have es : α29 1 = hs := (hα29 1 (by decide)).trans es
  refine lv_dup hx hb dX11_init_215 rfl ?_
  refine zb_callN (M' := MX9_init) (mc := 1) (ms := 80) (j := 6) (cj := 9) (n := 0) (as := (fun _ => [])) C hnw hA hl (zi_X9_6 C.2.2.2.2.2.2.2.2) (zin_1 (List.mem_of_getElem? (i := 13) (by decide +kernel))) (zin_3 (List.mem_of_getElem? (i := 17) rfl)) ⟨by decide, by decide, by decide +kernel⟩ hnw.2.2.2 rfl (zin_3 (List.mem_of_getElem? (i := 16) (by decide +kernel))) rfl ⟨by decide, by decide⟩ w rfl rfl (Nat.le_of_ble_eq_true rfl) ⟨(Nat.le_of_ble_eq_true rfl), (Nat.le_of_ble_eq_true rfl)⟩ dX11_init_216 (fun α30 H1 locs1 hα30 w => ?_)
  have ej : α30 6 = α29 6 := hα30 6 (by decide)
  rw [zbw_ap (α := α29) (β := α30) (own := [7]) (by decide +kernel) (by decide +kernel) (by decide) (zsE_ap (own := [7]) (by decide +kernel) hα30) hα30] at w
  have w : zWq G A s.heap H1 locs1 (zbw G α30 zSt0 0 11 (zsh 0).2.2 [(13, .inr (0)), (12, .inl 97), (11, .inl 94), (10, .inl 91), (9, .inl 83), (8, .inl 79), (7, .inl 68), (6, .inl 65), (5, .inl 59), (4, .inl 52), (3, .inl 47), (2, .inl 35), (1, .inl 22), (0, .inl 1)] (zsE G 2) [6, 7, 4, 5, 2, 3, 97, 94, 96, 95, 91, 92, 93, 83, 90, 89, 88, 87, 86, 85, 84, 79, 82, 81, 80, 68, 78, 77, 76, 75, 74, 73, 72, 71, 70, 69, 65, 67, 66, 62, 63, 64, 59, 60, 61, 52, 58, 57, 56, 55, 54, 53, 47, 51, 50, 49, 48, 35, 46, 45, 44, 43, 42, 41, 40, 39, 38, 37, 36, 22, 34, 33, 32, 31, 30, 29, 28, 27, 26, 25, 24, 23]) := zWq_pm zbw_in w
  have e0 : α30 0 = h0 := (hα30 0 (by decide)).trans e0
  rw [← ej]
  have es : α30 1 = hs := (hα30 1 (by decide)).trans es
  rw [← es]
  refine zb_aast (n := 2) (j := 6) (rsj := (zsh 6).2.2) C w (by decide) (by decide) (by decide +kernel) (by decide +kernel) dX11_init_219 (fun H1 locs1 w => ?_)
  refine lv_iinc (v := Int32.ofInt 3) (lv' := [(1, .int (Int32.ofInt 3)), (0, .ref h0)]) hx hb dX11_init_220 hl (k := 0) rfl (by decide) (by decide) rfl (fun lsr hl => ?_)
  refine lv_goto (tgt := 201) hx hb dX11_init_223 (by decide) ?_
  refine lv_iload_n hx hb dX11_init_201 rfl (lv_at hl 0 rfl) ?_
  refine lv_bipush (v := Int32.ofInt 10) hx hb dX11_init_202 (by decide) ?_
  refine lv_icmp_ge (tgt := 226) hx hb dX11_init_204 (by decide) (fun hc => absurd hc (by decide)) (fun _ => ?_)
  refine lv_aload_n hx hb dX11_init_207 rfl (lv_at hl 1 rfl) ?_
  refine zb_get (kf := 0) (v := .inl 1) C w List.mem_cons_self e0 flRX11_11 (by decide +kernel) rfl dX11_init_208 ?_
  rw [show zov α30 (.inl 1) = Value.ref hs from congrArg Value.ref es]
  refine lv_iload_n hx hb dX11_init_211 rfl (lv_at hl 0 rfl) ?_
  refine zb_new (α := α30) (j := 8) (cj := 9) (rsj := (zsh 8).2.2) (q := (RX9, TX9, 4)) (ty := tyX9) C hA w rfl tyX9_ok (fun k hk => by rcases (show k = 0 ∨ k = 1 ∨ k = 2 ∨ k = 3 by simp only at hk; omega) with rfl | rfl | rfl | rfl <;> rfl) (zin_1 (List.mem_of_getElem? (i := 26) (by decide +kernel))) (zin_3 (List.mem_of_getElem? (i := 14) (by decide +kernel))) (zin_1 (List.mem_of_getElem? (i := 13) (by decide +kernel))) (Nat.le_of_ble_eq_true rfl) (Nat.le_of_ble_eq_true rfl) dX11_init_212 (fun α31 H1 hα31 w => ?_)
  rw [zbw_ap (α := α30) (β := α31) (own := [8]) (by decide +kernel) (by decide +kernel) (by decide) (zsE_ap (own := [8]) (by decide +kernel) (fun i hi => hα31 i (fun z => hi (by rw [z]; exact List.mem_cons_self)))) (fun i hi => hα31 i (fun z => hi (by rw [z]; exact List.mem_cons_self)))] at w
  have e0 : α31 0 = h0 := (hα31 0 (by decide)).trans e0
  have es : α31 1 = hs := (hα31 1 (by decide)).trans es
  refine lv_dup hx hb dX11_init_215 rfl ?_
  refine zb_callN (M' := MX9_init) (mc := 1) (ms := 80) (j := 8) (cj := 9) (n := 0) (as := (fun _ => [])) C hnw hA hl (zi_X9_8 C.2.2.2.2.2.2.2.2) (zin_1 (List.mem_of_getElem? (i := 13) (by decide +kernel))) (zin_3 (List.mem_of_getElem? (i := 17) rfl)) ⟨by decide, by decide, by decide +kernel⟩ hnw.2.2.2 rfl (zin_3 (List.mem_of_getElem? (i := 16) (by decide +kernel))) rfl ⟨by decide, by decide⟩ w rfl rfl (Nat.le_of_ble_eq_true rfl) ⟨(Nat.le_of_ble_eq_true rfl), (Nat.le_of_ble_eq_true rfl)⟩ dX11_init_216 (fun α32 H1 locs1 hα32 w => ?_)
  have ej : α32 8 = α31 8 := hα32 8 (by decide)
  rw [zbw_ap (α := α31) (β := α32) (own := [9]) (by decide +kernel) (by decide +kernel) (by decide) (zsE_ap (own := [9]) (by decide +kernel) hα32) hα32] at w
  have w : zWq G A s.heap H1 locs1 (zbw G α32 zSt0 0 11 (zsh 0).2.2 [(13, .inr (0)), (12, .inl 97), (11, .inl 94), (10, .inl 91), (9, .inl 83), (8, .inl 79), (7, .inl 68), (6, .inl 65), (5, .inl 59), (4, .inl 52), (3, .inl 47), (2, .inl 35), (1, .inl 22), (0, .inl 1)] (zsE G 3) [8, 9, 6, 7, 4, 5, 2, 3, 97, 94, 96, 95, 91, 92, 93, 83, 90, 89, 88, 87, 86, 85, 84, 79, 82, 81, 80, 68, 78, 77, 76, 75, 74, 73, 72, 71, 70, 69, 65, 67, 66, 62, 63, 64, 59, 60, 61, 52, 58, 57, 56, 55, 54, 53, 47, 51, 50, 49, 48, 35, 46, 45, 44, 43, 42, 41, 40, 39, 38, 37, 36, 22, 34, 33, 32, 31, 30, 29, 28, 27, 26, 25, 24, 23]) := zWq_pm zbw_in w
  have e0 : α32 0 = h0 := (hα32 0 (by decide)).trans e0
  rw [← ej]
  have es : α32 1 = hs := (hα32 1 (by decide)).trans es
  rw [← es]
  refine zb_aast (n := 3) (j := 8) (rsj := (zsh 8).2.2) C w (by decide) (by decide) (by decide +kernel) (by decide +kernel) dX11_init_219 (fun H1 locs1 w => ?_)
  refine lv_iinc (v := Int32.ofInt 4) (lv' := [(1, .int (Int32.ofInt 4)), (0, .ref h0)]) hx hb dX11_init_220 hl (k := 0) rfl (by decide) (by decide) rfl (fun lsr hl => ?_)
  refine lv_goto (tgt := 201) hx hb dX11_init_223 (by decide) ?_
  refine lv_iload_n hx hb dX11_init_201 rfl (lv_at hl 0 rfl) ?_
  refine lv_bipush (v := Int32.ofInt 10) hx hb dX11_init_202 (by decide) ?_
  refine lv_icmp_ge (tgt := 226) hx hb dX11_init_204 (by decide) (fun hc => absurd hc (by decide)) (fun _ => ?_)
  refine lv_aload_n hx hb dX11_init_207 rfl (lv_at hl 1 rfl) ?_
  refine zb_get (kf := 0) (v := .inl 1) C w List.mem_cons_self e0 flRX11_11 (by decide +kernel) rfl dX11_init_208 ?_
  rw [show zov α32 (.inl 1) = Value.ref hs from congrArg Value.ref es]
  refine lv_iload_n hx hb dX11_init_211 rfl (lv_at hl 0 rfl) ?_
  refine zb_new (α := α32) (j := 10) (cj := 9) (rsj := (zsh 10).2.2) (q := (RX9, TX9, 4)) (ty := tyX9) C hA w rfl tyX9_ok (fun k hk => by rcases (show k = 0 ∨ k = 1 ∨ k = 2 ∨ k = 3 by simp only at hk; omega) with rfl | rfl | rfl | rfl <;> rfl) (zin_1 (List.mem_of_getElem? (i := 26) (by decide +kernel))) (zin_3 (List.mem_of_getElem? (i := 14) (by decide +kernel))) (zin_1 (List.mem_of_getElem? (i := 13) (by decide +kernel))) (Nat.le_of_ble_eq_true rfl) (Nat.le_of_ble_eq_true rfl) dX11_init_212 (fun α33 H1 hα33 w => ?_)
  rw [zbw_ap (α := α32) (β := α33) (own := [10]) (by decide +kernel) (by decide +kernel) (by decide) (zsE_ap (own := [10]) (by decide +kernel) (fun i hi => hα33 i (fun z => hi (by rw [z]; exact List.mem_cons_self)))) (fun i hi => hα33 i (fun z => hi (by rw [z]; exact List.mem_cons_self)))] at w
  have e0 : α33 0 = h0 := (hα33 0 (by decide)).trans e0
  have es : α33 1 = hs := (hα33 1 (by decide)).trans es
  refine lv_dup hx hb dX11_init_215 rfl ?_
  refine zb_callN (M' := MX9_init) (mc := 1) (ms := 80) (j := 10) (cj := 9) (n := 0) (as := (fun _ => [])) C hnw hA hl (zi_X9_10 C.2.2.2.2.2.2.2.2) (zin_1 (List.mem_of_getElem? (i := 13) (by decide +kernel))) (zin_3 (List.mem_of_getElem? (i := 17) rfl)) ⟨by decide, by decide, by decide +kernel⟩ hnw.2.2.2 rfl (zin_3 (List.mem_of_getElem? (i := 16) (by decide +kernel))) rfl ⟨by decide, by decide⟩ w rfl rfl (Nat.le_of_ble_eq_true rfl) ⟨(Nat.le_of_ble_eq_true rfl), (Nat.le_of_ble_eq_true rfl)⟩ dX11_init_216 (fun α34 H1 locs1 hα34 w => ?_)
  have ej : α34 10 = α33 10 := hα34 10 (by decide)
  rw [zbw_ap (α := α33) (β := α34) (own := [11]) (by decide +kernel) (by decide +kernel) (by decide) (zsE_ap (own := [11]) (by decide +kernel) hα34) hα34] at w
  have w : zWq G A s.heap H1 locs1 (zbw G α34 zSt0 0 11 (zsh 0).2.2 [(13, .inr (0)), (12, .inl 97), (11, .inl 94), (10, .inl 91), (9, .inl 83), (8, .inl 79), (7, .inl 68), (6, .inl 65), (5, .inl 59), (4, .inl 52), (3, .inl 47), (2, .inl 35), (1, .inl 22), (0, .inl 1)] (zsE G 4) [10, 11, 8, 9, 6, 7, 4, 5, 2, 3, 97, 94, 96, 95, 91, 92, 93, 83, 90, 89, 88, 87, 86, 85, 84, 79, 82, 81, 80, 68, 78, 77, 76, 75, 74, 73, 72, 71, 70, 69, 65, 67, 66, 62, 63, 64, 59, 60, 61, 52, 58, 57, 56, 55, 54, 53, 47, 51, 50, 49, 48, 35, 46, 45, 44, 43, 42, 41, 40, 39, 38, 37, 36, 22, 34, 33, 32, 31, 30, 29, 28, 27, 26, 25, 24, 23]) := zWq_pm zbw_in w
  have e0 : α34 0 = h0 := (hα34 0 (by decide)).trans e0
  rw [← ej]
  have es : α34 1 = hs := (hα34 1 (by decide)).trans es
  rw [← es]
  refine zb_aast (n := 4) (j := 10) (rsj := (zsh 10).2.2) C w (by decide) (by decide) (by decide +kernel) (by decide +kernel) dX11_init_219 (fun H1 locs1 w => ?_)
  refine lv_iinc (v := Int32.ofInt 5) (lv' := [(1, .int (Int32.ofInt 5)), (0, .ref h0)]) hx hb dX11_init_220 hl (k := 0) rfl (by decide) (by decide) rfl (fun lsr hl => ?_)
  refine lv_goto (tgt := 201) hx hb dX11_init_223 (by decide) ?_
  refine lv_iload_n hx hb dX11_init_201 rfl (lv_at hl 0 rfl) ?_
  refine lv_bipush (v := Int32.ofInt 10) hx hb dX11_init_202 (by decide) ?_
  refine lv_icmp_ge (tgt := 226) hx hb dX11_init_204 (by decide) (fun hc => absurd hc (by decide)) (fun _ => ?_)
  refine lv_aload_n hx hb dX11_init_207 rfl (lv_at hl 1 rfl) ?_
  refine zb_get (kf := 0) (v := .inl 1) C w List.mem_cons_self e0 flRX11_11 (by decide +kernel) rfl dX11_init_208 ?_
  rw [show zov α34 (.inl 1) = Value.ref hs from congrArg Value.ref es]
  refine lv_iload_n hx hb dX11_init_211 rfl (lv_at hl 0 rfl) ?_
  refine zb_new (α := α34) (j := 12) (cj := 9) (rsj := (zsh 12).2.2) (q := (RX9, TX9, 4)) (ty := tyX9) C hA w rfl tyX9_ok (fun k hk => by rcases (show k = 0 ∨ k = 1 ∨ k = 2 ∨ k = 3 by simp only at hk; omega) with rfl | rfl | rfl | rfl <;> rfl) (zin_1 (List.mem_of_getElem? (i := 26) (by decide +kernel))) (zin_3 (List.mem_of_getElem? (i := 14) (by decide +kernel))) (zin_1 (List.mem_of_getElem? (i := 13) (by decide +kernel))) (Nat.le_of_ble_eq_true rfl) (Nat.le_of_ble_eq_true rfl) dX11_init_212 (fun α35 H1 hα35 w => ?_)
  rw [zbw_ap (α := α34) (β := α35) (own := [12]) (by decide +kernel) (by decide +kernel) (by decide) (zsE_ap (own := [12]) (by decide +kernel) (fun i hi => hα35 i (fun z => hi (by rw [z]; exact List.mem_cons_self)))) (fun i hi => hα35 i (fun z => hi (by rw [z]; exact List.mem_cons_self)))] at w
  have e0 : α35 0 = h0 := (hα35 0 (by decide)).trans e0
  have es : α35 1 = hs := (hα35 1 (by decide)).trans es
  refine lv_dup hx hb dX11_init_215 rfl ?_
  refine zb_callN (M' := MX9_init) (mc := 1) (ms := 80) (j := 12) (cj := 9) (n := 0) (as := (fun _ => [])) C hnw hA hl (zi_X9_12 C.2.2.2.2.2.2.2.2) (zin_1 (List.mem_of_getElem? (i := 13) (by decide +kernel))) (zin_3 (List.mem_of_getElem? (i := 17) rfl)) ⟨by decide, by decide, by decide +kernel⟩ hnw.2.2.2 rfl (zin_3 (List.mem_of_getElem? (i := 16) (by decide +kernel))) rfl ⟨by decide, by decide⟩ w rfl rfl (Nat.le_of_ble_eq_true rfl) ⟨(Nat.le_of_ble_eq_true rfl), (Nat.le_of_ble_eq_true rfl)⟩ dX11_init_216 (fun α36 H1 locs1 hα36 w => ?_)
  have ej : α36 12 = α35 12 := hα36 12 (by decide)
  rw [zbw_ap (α := α35) (β := α36) (own := [13]) (by decide +kernel) (by decide +kernel) (by decide) (zsE_ap (own := [13]) (by decide +kernel) hα36) hα36] at w
  have w : zWq G A s.heap H1 locs1 (zbw G α36 zSt0 0 11 (zsh 0).2.2 [(13, .inr (0)), (12, .inl 97), (11, .inl 94), (10, .inl 91), (9, .inl 83), (8, .inl 79), (7, .inl 68), (6, .inl 65), (5, .inl 59), (4, .inl 52), (3, .inl 47), (2, .inl 35), (1, .inl 22), (0, .inl 1)] (zsE G 5) [12, 13, 10, 11, 8, 9, 6, 7, 4, 5, 2, 3, 97, 94, 96, 95, 91, 92, 93, 83, 90, 89, 88, 87, 86, 85, 84, 79, 82, 81, 80, 68, 78, 77, 76, 75, 74, 73, 72, 71, 70, 69, 65, 67, 66, 62, 63, 64, 59, 60, 61, 52, 58, 57, 56, 55, 54, 53, 47, 51, 50, 49, 48, 35, 46, 45, 44, 43, 42, 41, 40, 39, 38, 37, 36, 22, 34, 33, 32, 31, 30, 29, 28, 27, 26, 25, 24, 23]) := zWq_pm zbw_in w
  have e0 : α36 0 = h0 := (hα36 0 (by decide)).trans e0
  rw [← ej]
  have es : α36 1 = hs := (hα36 1 (by decide)).trans es
  rw [← es]
  refine zb_aast (n := 5) (j := 12) (rsj := (zsh 12).2.2) C w (by decide) (by decide) (by decide +kernel) (by decide +kernel) dX11_init_219 (fun H1 locs1 w => ?_)
  refine lv_iinc (v := Int32.ofInt 6) (lv' := [(1, .int (Int32.ofInt 6)), (0, .ref h0)]) hx hb dX11_init_220 hl (k := 0) rfl (by decide) (by decide) rfl (fun lsr hl => ?_)
  refine lv_goto (tgt := 201) hx hb dX11_init_223 (by decide) ?_
  refine lv_iload_n hx hb dX11_init_201 rfl (lv_at hl 0 rfl) ?_
  refine lv_bipush (v := Int32.ofInt 10) hx hb dX11_init_202 (by decide) ?_
  refine lv_icmp_ge (tgt := 226) hx hb dX11_init_204 (by decide) (fun hc => absurd hc (by decide)) (fun _ => ?_)
  refine lv_aload_n hx hb dX11_init_207 rfl (lv_at hl 1 rfl) ?_
  refine zb_get (kf := 0) (v := .inl 1) C w List.mem_cons_self e0 flRX11_11 (by decide +kernel) rfl dX11_init_208 ?_
  rw [show zov α36 (.inl 1) = Value.ref hs from congrArg Value.ref es]
  refine lv_iload_n hx hb dX11_init_211 rfl (lv_at hl 0 rfl) ?_
  refine zb_new (α := α36) (j := 14) (cj := 9) (rsj := (zsh 14).2.2) (q := (RX9, TX9, 4)) (ty := tyX9) C hA w rfl tyX9_ok (fun k hk => by rcases (show k = 0 ∨ k = 1 ∨ k = 2 ∨ k = 3 by simp only at hk; omega) with rfl | rfl | rfl | rfl <;> rfl) (zin_1 (List.mem_of_getElem? (i := 26) (by decide +kernel))) (zin_3 (List.mem_of_getElem? (i := 14) (by decide +kernel))) (zin_1 (List.mem_of_getElem? (i := 13) (by decide +kernel))) (Nat.le_of_ble_eq_true rfl) (Nat.le_of_ble_eq_true rfl) dX11_init_212 (fun α37 H1 hα37 w => ?_)
  rw [zbw_ap (α := α36) (β := α37) (own := [14]) (by decide +kernel) (by decide +kernel) (by decide) (zsE_ap (own := [14]) (by decide +kernel) (fun i hi => hα37 i (fun z => hi (by rw [z]; exact List.mem_cons_self)))) (fun i hi => hα37 i (fun z => hi (by rw [z]; exact List.mem_cons_self)))] at w
  have e0 : α37 0 = h0 := (hα37 0 (by decide)).trans e0
  have es : α37 1 = hs := (hα37 1 (by decide)).trans es
  refine lv_dup hx hb dX11_init_215 rfl ?_
  refine zb_callN (M' := MX9_init) (mc := 1) (ms := 80) (j := 14) (cj := 9) (n := 0) (as := (fun _ => [])) C hnw hA hl (zi_X9_14 C.2.2.2.2.2.2.2.2) (zin_1 (List.mem_of_getElem? (i := 13) (by decide +kernel))) (zin_3 (List.mem_of_getElem? (i := 17) rfl)) ⟨by decide, by decide, by decide +kernel⟩ hnw.2.2.2 rfl (zin_3 (List.mem_of_getElem? (i := 16) (by decide +kernel))) rfl ⟨by decide, by decide⟩ w rfl rfl (Nat.le_of_ble_eq_true rfl) ⟨(Nat.le_of_ble_eq_true rfl), (Nat.le_of_ble_eq_true rfl)⟩ dX11_init_216 (fun α38 H1 locs1 hα38 w => ?_)
  have ej : α38 14 = α37 14 := hα38 14 (by decide)
  rw [zbw_ap (α := α37) (β := α38) (own := [15]) (by decide +kernel) (by decide +kernel) (by decide) (zsE_ap (own := [15]) (by decide +kernel) hα38) hα38] at w
  have w : zWq G A s.heap H1 locs1 (zbw G α38 zSt0 0 11 (zsh 0).2.2 [(13, .inr (0)), (12, .inl 97), (11, .inl 94), (10, .inl 91), (9, .inl 83), (8, .inl 79), (7, .inl 68), (6, .inl 65), (5, .inl 59), (4, .inl 52), (3, .inl 47), (2, .inl 35), (1, .inl 22), (0, .inl 1)] (zsE G 6) [14, 15, 12, 13, 10, 11, 8, 9, 6, 7, 4, 5, 2, 3, 97, 94, 96, 95, 91, 92, 93, 83, 90, 89, 88, 87, 86, 85, 84, 79, 82, 81, 80, 68, 78, 77, 76, 75, 74, 73, 72, 71, 70, 69, 65, 67, 66, 62, 63, 64, 59, 60, 61, 52, 58, 57, 56, 55, 54, 53, 47, 51, 50, 49, 48, 35, 46, 45, 44, 43, 42, 41, 40, 39, 38, 37, 36, 22, 34, 33, 32, 31, 30, 29, 28, 27, 26, 25, 24, 23]) := zWq_pm zbw_in w
  have e0 : α38 0 = h0 := (hα38 0 (by decide)).trans e0
  rw [← ej]
  have es : α38 1 = hs := (hα38 1 (by decide)).trans es
  rw [← es]
  refine zb_aast (n := 6) (j := 14) (rsj := (zsh 14).2.2) C w (by decide) (by decide) (by decide +kernel) (by decide +kernel) dX11_init_219 (fun H1 locs1 w => ?_)
  refine lv_iinc (v := Int32.ofInt 7) (lv' := [(1, .int (Int32.ofInt 7)), (0, .ref h0)]) hx hb dX11_init_220 hl (k := 0) rfl (by decide) (by decide) rfl (fun lsr hl => ?_)
  refine lv_goto (tgt := 201) hx hb dX11_init_223 (by decide) ?_
  refine lv_iload_n hx hb dX11_init_201 rfl (lv_at hl 0 rfl) ?_
  refine lv_bipush (v := Int32.ofInt 10) hx hb dX11_init_202 (by decide) ?_
  refine lv_icmp_ge (tgt := 226) hx hb dX11_init_204 (by decide) (fun hc => absurd hc (by decide)) (fun _ => ?_)
  refine lv_aload_n hx hb dX11_init_207 rfl (lv_at hl 1 rfl) ?_
  refine zb_get (kf := 0) (v := .inl 1) C w List.mem_cons_self e0 flRX11_11 (by decide +kernel) rfl dX11_init_208 ?_
  rw [show zov α38 (.inl 1) = Value.ref hs from congrArg Value.ref es]
  refine lv_iload_n hx hb dX11_init_211 rfl (lv_at hl 0 rfl) ?_
  refine zb_new (α := α38) (j := 16) (cj := 9) (rsj := (zsh 16).2.2) (q := (RX9, TX9, 4)) (ty := tyX9) C hA w rfl tyX9_ok (fun k hk => by rcases (show k = 0 ∨ k = 1 ∨ k = 2 ∨ k = 3 by simp only at hk; omega) with rfl | rfl | rfl | rfl <;> rfl) (zin_1 (List.mem_of_getElem? (i := 26) (by decide +kernel))) (zin_3 (List.mem_of_getElem? (i := 14) (by decide +kernel))) (zin_1 (List.mem_of_getElem? (i := 13) (by decide +kernel))) (Nat.le_of_ble_eq_true rfl) (Nat.le_of_ble_eq_true rfl) dX11_init_212 (fun α39 H1 hα39 w => ?_)
  rw [zbw_ap (α := α38) (β := α39) (own := [16]) (by decide +kernel) (by decide +kernel) (by decide) (zsE_ap (own := [16]) (by decide +kernel) (fun i hi => hα39 i (fun z => hi (by rw [z]; exact List.mem_cons_self)))) (fun i hi => hα39 i (fun z => hi (by rw [z]; exact List.mem_cons_self)))] at w
  have e0 : α39 0 = h0 := (hα39 0 (by decide)).trans e0
  have es : α39 1 = hs := (hα39 1 (by decide)).trans es
  refine lv_dup hx hb dX11_init_215 rfl ?_
  refine zb_callN (M' := MX9_init) (mc := 1) (ms := 80) (j := 16) (cj := 9) (n := 0) (as := (fun _ => [])) C hnw hA hl (zi_X9_16 C.2.2.2.2.2.2.2.2) (zin_1 (List.mem_of_getElem? (i := 13) (by decide +kernel))) (zin_3 (List.mem_of_getElem? (i := 17) rfl)) ⟨by decide, by decide, by decide +kernel⟩ hnw.2.2.2 rfl (zin_3 (List.mem_of_getElem? (i := 16) (by decide +kernel))) rfl ⟨by decide, by decide⟩ w rfl rfl (Nat.le_of_ble_eq_true rfl) ⟨(Nat.le_of_ble_eq_true rfl), (Nat.le_of_ble_eq_true rfl)⟩ dX11_init_216 (fun α40 H1 locs1 hα40 w => ?_)
  have ej : α40 16 = α39 16 := hα40 16 (by decide)
  rw [zbw_ap (α := α39) (β := α40) (own := [17]) (by decide +kernel) (by decide +kernel) (by decide) (zsE_ap (own := [17]) (by decide +kernel) hα40) hα40] at w
  have w : zWq G A s.heap H1 locs1 (zbw G α40 zSt0 0 11 (zsh 0).2.2 [(13, .inr (0)), (12, .inl 97), (11, .inl 94), (10, .inl 91), (9, .inl 83), (8, .inl 79), (7, .inl 68), (6, .inl 65), (5, .inl 59), (4, .inl 52), (3, .inl 47), (2, .inl 35), (1, .inl 22), (0, .inl 1)] (zsE G 7) [16, 17, 14, 15, 12, 13, 10, 11, 8, 9, 6, 7, 4, 5, 2, 3, 97, 94, 96, 95, 91, 92, 93, 83, 90, 89, 88, 87, 86, 85, 84, 79, 82, 81, 80, 68, 78, 77, 76, 75, 74, 73, 72, 71, 70, 69, 65, 67, 66, 62, 63, 64, 59, 60, 61, 52, 58, 57, 56, 55, 54, 53, 47, 51, 50, 49, 48, 35, 46, 45, 44, 43, 42, 41, 40, 39, 38, 37, 36, 22, 34, 33, 32, 31, 30, 29, 28, 27, 26, 25, 24, 23]) := zWq_pm zbw_in w
  have e0 : α40 0 = h0 := (hα40 0 (by decide)).trans e0
  rw [← ej]
  have es : α40 1 = hs := (hα40 1 (by decide)).trans es
  rw [← es]
  refine zb_aast (n := 7) (j := 16) (rsj := (zsh 16).2.2) C w (by decide) (by decide) (by decide +kernel) (by decide +kernel) dX11_init_219 (fun H1 locs1 w => ?_)
  refine lv_iinc (v := Int32.ofInt 8) (lv' := [(1, .int (Int32.ofInt 8)), (0, .ref h0)]) hx hb dX11_init_220 hl (k := 0) rfl (by decide) (by decide) rfl (fun lsr hl => ?_)
  refine lv_goto (tgt := 201) hx hb dX11_init_223 (by decide) ?_
  refine lv_iload_n hx hb dX11_init_201 rfl (lv_at hl 0 rfl) ?_
  refine lv_bipush (v := Int32.ofInt 10) hx hb dX11_init_202 (by decide) ?_
  refine lv_icmp_ge (tgt := 226) hx hb dX11_init_204 (by decide) (fun hc => absurd hc (by decide)) (fun _ => ?_)
  refine lv_aload_n hx hb dX11_init_207 rfl (lv_at hl 1 rfl) ?_
  refine zb_get (kf := 0) (v := .inl 1) C w List.mem_cons_self e0 flRX11_11 (by decide +kernel) rfl dX11_init_208 ?_
  rw [show zov α40 (.inl 1) = Value.ref hs from congrArg Value.ref es]
  refine lv_iload_n hx hb dX11_init_211 rfl (lv_at hl 0 rfl) ?_
  refine zb_new (α := α40) (j := 18) (cj := 9) (rsj := (zsh 18).2.2) (q := (RX9, TX9, 4)) (ty := tyX9) C hA w rfl tyX9_ok (fun k hk => by rcases (show k = 0 ∨ k = 1 ∨ k = 2 ∨ k = 3 by simp only at hk; omega) with rfl | rfl | rfl | rfl <;> rfl) (zin_1 (List.mem_of_getElem? (i := 26) (by decide +kernel))) (zin_3 (List.mem_of_getElem? (i := 14) (by decide +kernel))) (zin_1 (List.mem_of_getElem? (i := 13) (by decide +kernel))) (Nat.le_of_ble_eq_true rfl) (Nat.le_of_ble_eq_true rfl) dX11_init_212 (fun α41 H1 hα41 w => ?_)
  rw [zbw_ap (α := α40) (β := α41) (own := [18]) (by decide +kernel) (by decide +kernel) (by decide) (zsE_ap (own := [18]) (by decide +kernel) (fun i hi => hα41 i (fun z => hi (by rw [z]; exact List.mem_cons_self)))) (fun i hi => hα41 i (fun z => hi (by rw [z]; exact List.mem_cons_self)))] at w
  have e0 : α41 0 = h0 := (hα41 0 (by decide)).trans e0
  have es : α41 1 = hs := (hα41 1 (by decide)).trans es
  refine lv_dup hx hb dX11_init_215 rfl ?_
  refine zb_callN (M' := MX9_init) (mc := 1) (ms := 80) (j := 18) (cj := 9) (n := 0) (as := (fun _ => [])) C hnw hA hl (zi_X9_18 C.2.2.2.2.2.2.2.2) (zin_1 (List.mem_of_getElem? (i := 13) (by decide +kernel))) (zin_3 (List.mem_of_getElem? (i := 17) rfl)) ⟨by decide, by decide, by decide +kernel⟩ hnw.2.2.2 rfl (zin_3 (List.mem_of_getElem? (i := 16) (by decide +kernel))) rfl ⟨by decide, by decide⟩ w rfl rfl (Nat.le_of_ble_eq_true rfl) ⟨(Nat.le_of_ble_eq_true rfl), (Nat.le_of_ble_eq_true rfl)⟩ dX11_init_216 (fun α42 H1 locs1 hα42 w => ?_)
  have ej : α42 18 = α41 18 := hα42 18 (by decide)
  rw [zbw_ap (α := α41) (β := α42) (own := [19]) (by decide +kernel) (by decide +kernel) (by decide) (zsE_ap (own := [19]) (by decide +kernel) hα42) hα42] at w
  have w : zWq G A s.heap H1 locs1 (zbw G α42 zSt0 0 11 (zsh 0).2.2 [(13, .inr (0)), (12, .inl 97), (11, .inl 94), (10, .inl 91), (9, .inl 83), (8, .inl 79), (7, .inl 68), (6, .inl 65), (5, .inl 59), (4, .inl 52), (3, .inl 47), (2, .inl 35), (1, .inl 22), (0, .inl 1)] (zsE G 8) [18, 19, 16, 17, 14, 15, 12, 13, 10, 11, 8, 9, 6, 7, 4, 5, 2, 3, 97, 94, 96, 95, 91, 92, 93, 83, 90, 89, 88, 87, 86, 85, 84, 79, 82, 81, 80, 68, 78, 77, 76, 75, 74, 73, 72, 71, 70, 69, 65, 67, 66, 62, 63, 64, 59, 60, 61, 52, 58, 57, 56, 55, 54, 53, 47, 51, 50, 49, 48, 35, 46, 45, 44, 43, 42, 41, 40, 39, 38, 37, 36, 22, 34, 33, 32, 31, 30, 29, 28, 27, 26, 25, 24, 23]) := zWq_pm zbw_in w
  have e0 : α42 0 = h0 := (hα42 0 (by decide)).trans e0
  rw [← ej]
  have es : α42 1 = hs := (hα42 1 (by decide)).trans es
  rw [← es]
  refine zb_aast (n := 8) (j := 18) (rsj := (zsh 18).2.2) C w (by decide) (by decide) (by decide +kernel) (by decide +kernel) dX11_init_219 (fun H1 locs1 w => ?_)
  refine lv_iinc (v := Int32.ofInt 9) (lv' := [(1, .int (Int32.ofInt 9)), (0, .ref h0)]) hx hb dX11_init_220 hl (k := 0) rfl (by decide) (by decide) rfl (fun lsr hl => ?_)
  refine lv_goto (tgt := 201) hx hb dX11_init_223 (by decide) ?_
  refine lv_iload_n hx hb dX11_init_201 rfl (lv_at hl 0 rfl) ?_
  refine lv_bipush (v := Int32.ofInt 10) hx hb dX11_init_202 (by decide) ?_
  refine lv_icmp_ge (tgt := 226) hx hb dX11_init_204 (by decide) (fun hc => absurd hc (by decide)) (fun _ => ?_)
  refine lv_aload_n hx hb dX11_init_207 rfl (lv_at hl 1 rfl) ?_
  refine zb_get (kf := 0) (v := .inl 1) C w List.mem_cons_self e0 flRX11_11 (by decide +kernel) rfl dX11_init_208 ?_
  rw [show zov α42 (.inl 1) = Value.ref hs from congrArg Value.ref es]
  refine lv_iload_n hx hb dX11_init_211 rfl (lv_at hl 0 rfl) ?_
  refine zb_new (α := α42) (j := 20) (cj := 9) (rsj := (zsh 20).2.2) (q := (RX9, TX9, 4)) (ty := tyX9) C hA w rfl tyX9_ok (fun k hk => by rcases (show k = 0 ∨ k = 1 ∨ k = 2 ∨ k = 3 by simp only at hk; omega) with rfl | rfl | rfl | rfl <;> rfl) (zin_1 (List.mem_of_getElem? (i := 26) (by decide +kernel))) (zin_3 (List.mem_of_getElem? (i := 14) (by decide +kernel))) (zin_1 (List.mem_of_getElem? (i := 13) (by decide +kernel))) (Nat.le_of_ble_eq_true rfl) (Nat.le_of_ble_eq_true rfl) dX11_init_212 (fun α43 H1 hα43 w => ?_)
  rw [zbw_ap (α := α42) (β := α43) (own := [20]) (by decide +kernel) (by decide +kernel) (by decide) (zsE_ap (own := [20]) (by decide +kernel) (fun i hi => hα43 i (fun z => hi (by rw [z]; exact List.mem_cons_self)))) (fun i hi => hα43 i (fun z => hi (by rw [z]; exact List.mem_cons_self)))] at w
  have e0 : α43 0 = h0 := (hα43 0 (by decide)).trans e0
  have es : α43 1 = hs := (hα43 1 (by decide)).trans es
  refine lv_dup hx hb dX11_init_215 rfl ?_
  refine zb_callN (M' := MX9_init) (mc := 1) (ms := 80) (j := 20) (cj := 9) (n := 0) (as := (fun _ => [])) C hnw hA hl (zi_X9_20 C.2.2.2.2.2.2.2.2) (zin_1 (List.mem_of_getElem? (i := 13) (by decide +kernel))) (zin_3 (List.mem_of_getElem? (i := 17) rfl)) ⟨by decide, by decide, by decide +kernel⟩ hnw.2.2.2 rfl (zin_3 (List.mem_of_getElem? (i := 16) (by decide +kernel))) rfl ⟨by decide, by decide⟩ w rfl rfl (Nat.le_of_ble_eq_true rfl) ⟨(Nat.le_of_ble_eq_true rfl), (Nat.le_of_ble_eq_true rfl)⟩ dX11_init_216 (fun α44 H1 locs1 hα44 w => ?_)
  have ej : α44 20 = α43 20 := hα44 20 (by decide)
  rw [zbw_ap (α := α43) (β := α44) (own := [21]) (by decide +kernel) (by decide +kernel) (by decide) (zsE_ap (own := [21]) (by decide +kernel) hα44) hα44] at w
  have w : zWq G A s.heap H1 locs1 (zbw G α44 zSt0 0 11 (zsh 0).2.2 [(13, .inr (0)), (12, .inl 97), (11, .inl 94), (10, .inl 91), (9, .inl 83), (8, .inl 79), (7, .inl 68), (6, .inl 65), (5, .inl 59), (4, .inl 52), (3, .inl 47), (2, .inl 35), (1, .inl 22), (0, .inl 1)] (zsE G 9) [20, 21, 18, 19, 16, 17, 14, 15, 12, 13, 10, 11, 8, 9, 6, 7, 4, 5, 2, 3, 97, 94, 96, 95, 91, 92, 93, 83, 90, 89, 88, 87, 86, 85, 84, 79, 82, 81, 80, 68, 78, 77, 76, 75, 74, 73, 72, 71, 70, 69, 65, 67, 66, 62, 63, 64, 59, 60, 61, 52, 58, 57, 56, 55, 54, 53, 47, 51, 50, 49, 48, 35, 46, 45, 44, 43, 42, 41, 40, 39, 38, 37, 36, 22, 34, 33, 32, 31, 30, 29, 28, 27, 26, 25, 24, 23]) := zWq_pm zbw_in w
  have e0 : α44 0 = h0 := (hα44 0 (by decide)).trans e0
  rw [← ej]
  have es : α44 1 = hs := (hα44 1 (by decide)).trans es
  rw [← es]
  refine zb_aast (n := 9) (j := 20) (rsj := (zsh 20).2.2) C w (by decide) (by decide) (by decide +kernel) (by decide +kernel) dX11_init_219 (fun H1 locs1 w => ?_)
  refine lv_iinc (v := Int32.ofInt 10) (lv' := [(1, .int (Int32.ofInt 10)), (0, .ref h0)]) hx hb dX11_init_220 hl (k := 0) rfl (by decide) (by decide) rfl (fun lsr hl => ?_)
  refine lv_goto (tgt := 201) hx hb dX11_init_223 (by decide) ?_
  refine lv_iload_n hx hb dX11_init_201 rfl (lv_at hl 0 rfl) ?_
  refine lv_bipush (v := Int32.ofInt 10) hx hb dX11_init_202 (by decide) ?_
  refine lv_icmp_ge (tgt := 226) hx hb dX11_init_204 (by decide) (fun _ => ?_) (fun hc => absurd (by decide) hc)
  exact zi_endE (I := [20, 21, 18, 19, 16, 17, 14, 15, 12, 13, 10, 11, 8, 9, 6, 7, 4, 5, 2, 3, 97, 94, 96, 95, 91, 92, 93, 83, 90, 89, 88, 87, 86, 85, 84, 79, 82, 81, 80, 68, 78, 77, 76, 75, 74, 73, 72, 71, 70, 69, 65, 67, 66, 62, 63, 64, 59, 60, 61, 52, 58, 57, 56, 55, 54, 53, 47, 51, 50, 49, 48, 35, 46, 45, 44, 43, 42, 41, 40, 39, 38, 37, 36, 22, 34, 33, 32, 31, 30, 29, 28, 27, 26, 25, 24, 23]) C rfl w rfl (by decide +kernel) (by decide +kernel) (by decide +kernel) (by decide +kernel) (fun i hi => by rw [hα44 i (fun z => hi (zsubm (by decide) z)), hα43 i (fun z => hi (by rw [z]; decide)), hα42 i (fun z => hi (zsubm (by decide) z)), hα41 i (fun z => hi (by rw [z]; decide)), hα40 i (fun z => hi (zsubm (by decide) z)), hα39 i (fun z => hi (by rw [z]; decide)), hα38 i (fun z => hi (zsubm (by decide) z)), hα37 i (fun z => hi (by rw [z]; decide)), hα36 i (fun z => hi (zsubm (by decide) z)), hα35 i (fun z => hi (by rw [z]; decide)), hα34 i (fun z => hi (zsubm (by decide) z)), hα33 i (fun z => hi (by rw [z]; decide)), hα32 i (fun z => hi (zsubm (by decide) z)), hα31 i (fun z => hi (by rw [z]; decide)), hα30 i (fun z => hi (zsubm (by decide) z)), hα29 i (fun z => hi (by rw [z]; decide)), hα28 i (fun z => hi (zsubm (by decide) z)), hα27 i (fun z => hi (by rw [z]; decide)), hα26 i (fun z => hi (zsubm (by decide) z)), hα25 i (fun z => hi (by rw [z]; decide)), hα24 i (fun z => hi (by rw [z]; decide)), hα23 i (fun z => hi (zsubm (by decide) z)), hα22 i (fun z => hi (by rw [z]; decide)), hα21 i (fun z => hi (zsubm (by decide) z)), hα20 i (fun z => hi (by rw [z]; decide)), hα19 i (fun z => hi (zsubm (by decide) z)), hα18 i (fun z => hi (by rw [z]; decide)), hα17 i (fun z => hi (zsubm (by decide) z)), hα16 i (fun z => hi (by rw [z]; decide)), hα15 i (fun z => hi (zsubm (by decide) z)), hα14 i (fun z => hi (by rw [z]; decide)), hα13 i (fun z => hi (zsubm (by decide) z)), hα12 i (fun z => hi (by rw [z]; decide)), hα11 i (fun z => hi (zsubm (by decide) z)), hα10 i (fun z => hi (by rw [z]; decide)), hα9 i (fun z => hi (zsubm (by decide) z)), hα8 i (fun z => hi (by rw [z]; decide)), hα7 i (fun z => hi (zsubm (by decide) z)), hα6 i (fun z => hi (by rw [z]; decide)), hα5 i (fun z => hi (zsubm (by decide) z)), hα4 i (fun z => hi (by rw [z]; decide)), hα3 i (fun z => hi (zsubm (by decide) z)), hα2 i (fun z => hi (by rw [z]; decide)), hα1 i (fun z => hi (by rw [z]; decide))]) ⟨(Nat.le_of_ble_eq_true rfl), (Nat.le_of_ble_eq_true rfl)⟩ dX11_init_226
