/-! THE LAW, from its entry -/
theorem zinst {ci : Nat} {q : vw_C} (h : vwCl[ci]? = some q) : Cond.instantiable q.1 q.2.2 ∈ lw_tbl := by
  match ci, h with
  | 0, h => cases h; exact (zin_2 (List.mem_of_getElem? (i := 141) (by decide +kernel)))
  | 1, h => cases h; exact (zin_2 (List.mem_of_getElem? (i := 23) (by decide +kernel)))
  | 2, h => cases h; exact (zin_2 (List.mem_of_getElem? (i := 40) (by decide +kernel)))
  | 3, h => cases h; exact (zin_1 (List.mem_of_getElem? (i := 166) (by decide +kernel)))
  | 4, h => cases h; exact (zin_2 (List.mem_of_getElem? (i := 83) (by decide +kernel)))
  | 5, h => cases h; exact (zin_1 (List.mem_of_getElem? (i := 29) (by decide +kernel)))
  | 6, h => cases h; exact (zin_1 (List.mem_of_getElem? (i := 217) (by decide +kernel)))
  | 7, h => cases h; exact (zin_2 (List.mem_of_getElem? (i := 180) (by decide +kernel)))
  | 8, h => cases h; exact (zin_2 (List.mem_of_getElem? (i := 230) (by decide +kernel)))
  | 9, h => cases h; exact (zin_3 (List.mem_of_getElem? (i := 14) (by decide +kernel)))
  | 10, h => cases h; exact (zin_1 (List.mem_of_getElem? (i := 109) (by decide +kernel)))
  | 11, h => cases h; exact (zin_1 (List.mem_of_getElem? (i := 19) (by decide +kernel)))
  | 12, h => cases h; exact (zin_6 (List.mem_of_getElem? (i := 99) (by decide +kernel)))
  | n + 13, h => exact absurd (List.getElem?_eq_some_iff.mp h).1 (by simp)
abbrev zML : zM := (x, code, 4, ret, 9, 400)
theorem zG_ex {s : State} {args : Array Value} {m : MethodId} (l : Launch) (hts : ∀ w ∈ lw_tbl, w.before args s = true) : ∃ G : zG, zGL G = l ∧ va_K (zGD G) vwCl (zGy G) s ∧ zInj G := by
  have hex : ∀ k : Nat, ∃ y : ClassId × (Nat → Nat), ∀ q, vwCl[k]? = some q → u_Kn s q.1 q.2.1 q.2.2 y.1 y.2 := by
    intro k
    cases hq : vwCl[k]? with
    | none => exact ⟨(m.cls, fun _ => 0), fun q h => by cases h⟩
    | some q0 =>
      obtain ⟨cC, iS, h⟩ := u_known (n := q0.2.2) hts (zcw hq) (hts _ (zinst hq))
      exact ⟨(cC, iS), fun q hq2 => by cases hq2; exact h⟩
  obtain ⟨f, hf⟩ : ∃ f : Nat → ClassId × (Nat → Nat), ∀ (k : Nat) (q : vw_C), vwCl[k]? = some q → u_Kn s q.1 q.2.1 q.2.2 (f k).1 (f k).2 := ⟨fun k => Classical.choose (hex k), fun k => Classical.choose_spec (hex k)⟩
  obtain ⟨cI, kI, pI, fI, hI, dI⟩ := Cond.arrayClass_spec (hts (.arrayClass .int) (zin_1 (List.mem_of_getElem? (i := 107) (by decide +kernel))))
  obtain ⟨cZ, kZ, pZ, fZ, hZ, dZ⟩ := Cond.arrayClass_spec (hts (.arrayClass .boolean) (zin_7 (List.mem_of_getElem? (i := 192) (by decide +kernel))))
  obtain ⟨cJ, kJ, pJ, fJ, hJ, dJ⟩ := Cond.arrayClass_spec (hts (.arrayClass .long) (zin_3 (List.mem_of_getElem? (i := 38) (by decide +kernel))))
  obtain ⟨pQ, cQ, kQ, h1, h2, h3, h4, h5⟩ := Cond.arrayOver_spec (hts (.arrayOver (.object "CollegeHouse$Shelf")) (zin_1 (List.mem_of_getElem? (i := 27) (by decide +kernel))))
  refine ⟨(l, fun k => (f k).1, fun k => (f k).2, fun i => i, fun t => match t with
    | 0 => cI
    | 1 => cZ
    | 2 => cJ
    | _ => cQ), rfl, ⟨fun k q hq => hf k q hq, fun k q hq => ?_⟩, fun i j _ _ e => e⟩
  match k, hq with
  | 0, hq => cases hq; exact ⟨fun n z => ⟨fun k h => (by cases h), kI, hI, pI, dI⟩, fI⟩
  | 1, hq => cases hq; exact ⟨fun n z => ⟨fun k h => (by cases h), kZ, hZ, pZ, dZ⟩, fZ⟩
  | 2, hq => cases hq; exact ⟨fun n z => ⟨fun k h => (by cases h), kJ, hJ, pJ, dJ⟩, fJ⟩
  | 3, hq => cases hq; exact ⟨fun n z => ⟨fun k h => (by cases h), kQ, h3, pQ, h4⟩, kQ, pQ, h3, h4, h1, h5⟩
  | k + 4, hq => exact absurd (List.getElem?_eq_some_iff.mp hq).1 (by simp)
set_option maxHeartbeats 4000000 in
set_option maxRecDepth 100000 in
/-- YOUR PART: from the entry, for every script of at most 3584 ints, the law comes to its end with true -/
theorem whole_start {p : Program} {e : Env} {s : State} {m : MethodId} {below : List Frame} {meth : Method} {c : Code} (l : Launch) (hflags : l.flags = flags0) {b L : Nat} {xs : Nat → Int32} (hL : L ≤ 3584) (C0 : lw_At p s m meth c b L xs) : W p l e room_1 s m #[Value.ref b] below meth c s.heap [] 0 0 (lw_Z below #[Value.ref b] s) (entryFrame m ([Value.ref b] : List Value).toArray 4) := by
  obtain ⟨hx, hb, hr, hml, hown, hts, hX, hbl, hlocks, hgv⟩ := id C0
  obtain ⟨G, hGl, hK, hinj⟩ := zG_ex (m := m) l hts
  subst hGl
  have C : zC G zML p s m #[Value.ref b] meth c := ⟨hx, hb, hr, hml, hown, fun w h => hts w (List.mem_filter.mp h).1, hlocks, hK, hinj⟩
  have hnw : zNw s := ⟨va_AO.of (hts _ (zin_1 (List.mem_of_getElem? (i := 27) (by decide +kernel)))), va_Nw.of rfl (hts _ (zin_1 (List.mem_of_getElem? (i := 110) (by decide +kernel)))), va_Nw.of rfl (hts _ (zin_2 (List.mem_of_getElem? (i := 142) (by decide +kernel)))), va_Nw.of rfl (hts _ (zin_3 (List.mem_of_getElem? (i := 15) (by decide +kernel))))⟩
  have hA : ∀ q : Nat, s.heap.size ≤ q → (fun q : Nat => s.heap.size ≤ q) q := fun _ h => h
  have w : zWq G (fun q : Nat => s.heap.size ≤ q) s.heap s.heap [] [] := ⟨fun k q h => by simp at h, zD_iff.mpr ⟨by simp, by simp⟩, va_S.rf⟩
  have hl := lv_entry ([.ref b]) (n := 4) (Nat.le_of_ble_eq_true rfl)
  rw [lg_entry_eq]
  generalize (lg_sl ([.ref b]) ++ List.replicate (4 - (lg_sl ([.ref b])).length) Slot.unset).toArray = ls at hl ⊢
  have hl : lv_has ls 4 [(0, .ref b)] := hl
  refine zb_new (M := zML) (α := fun _ => 0) (j := 0) (cj := 11) (rsj := (zsh 0).2.2) (q := (RX11, TX11, 14)) (ty := tyX11) C hA w rfl tyX11_ok (fun k hk => by rcases (show k = 0 ∨ k = 1 ∨ k = 2 ∨ k = 3 ∨ k = 4 ∨ k = 5 ∨ k = 6 ∨ k = 7 ∨ k = 8 ∨ k = 9 ∨ k = 10 ∨ k = 11 ∨ k = 12 ∨ k = 13 by simp only at hk; omega) with rfl | rfl | rfl | rfl | rfl | rfl | rfl | rfl | rfl | rfl | rfl | rfl | rfl | rfl <;> rfl) (zin_1 (List.mem_of_getElem? (i := 18) (by decide +kernel))) (zin_1 (List.mem_of_getElem? (i := 19) (by decide +kernel))) (zin_1 (List.mem_of_getElem? (i := 1) (by decide +kernel))) (Nat.le_of_ble_eq_true rfl) (Nat.le_of_ble_eq_true rfl) dL_0 (fun α1 H1 hα1 w => ?_)
  refine lv_dup hx hb dL_3 rfl ?_
  refine zb_call (M := zML) (M' := MX11_init) (mc := 97) (ms := 8713) (j := 0) (cj := 11) (n := 0) (as := fun _ => []) C hnw hA hl (zi_X11_0 hinj) (zin_1 (List.mem_of_getElem? (i := 1) (by decide +kernel))) (zin_1 (List.mem_of_getElem? (i := 22) rfl)) ⟨by decide, by decide, by decide +kernel⟩ (zin_1 (List.mem_of_getElem? (i := 20) (by decide +kernel))) rfl (zin_1 (List.mem_of_getElem? (i := 21) (by decide +kernel))) rfl ⟨by decide, by decide⟩ w rfl rfl (Nat.le_of_ble_eq_true rfl) ⟨(Nat.le_of_ble_eq_true rfl), (Nat.le_of_ble_eq_true rfl)⟩ dL_4 (fun β1 H1 locs1 hβ1 w => ?_)
  refine lv_astore_n (lv' := [(1, .ref (α1 0)), (0, .ref b)]) hx hb dL_7 rfl hl (by decide) rfl (fun ls hl => ?_)
  refine zb_new (M := zML) (α := β1) (j := 98) (cj := 12) (rsj := (zsh 98).2.2) (q := (RX12, TX12, 109)) (ty := tyX12) C hA w rfl tyX12_ok (fun k hk => by rcases (show k = 0 ∨ k = 1 ∨ k = 2 ∨ k = 3 ∨ k = 4 ∨ k = 5 ∨ k = 6 ∨ k = 7 ∨ k = 8 ∨ k = 9 ∨ k = 10 ∨ k = 11 ∨ k = 12 ∨ k = 13 ∨ k = 14 ∨ k = 15 ∨ k = 16 ∨ k = 17 ∨ k = 18 ∨ k = 19 ∨ k = 20 ∨ k = 21 ∨ k = 22 ∨ k = 23 ∨ k = 24 ∨ k = 25 ∨ k = 26 ∨ k = 27 ∨ k = 28 ∨ k = 29 ∨ k = 30 ∨ k = 31 ∨ k = 32 ∨ k = 33 ∨ k = 34 ∨ k = 35 ∨ k = 36 ∨ k = 37 ∨ k = 38 ∨ k = 39 ∨ k = 40 ∨ k = 41 ∨ k = 42 ∨ k = 43 ∨ k = 44 ∨ k = 45 ∨ k = 46 ∨ k = 47 ∨ k = 48 ∨ k = 49 ∨ k = 50 ∨ k = 51 ∨ k = 52 ∨ k = 53 ∨ k = 54 ∨ k = 55 ∨ k = 56 ∨ k = 57 ∨ k = 58 ∨ k = 59 ∨ k = 60 ∨ k = 61 ∨ k = 62 ∨ k = 63 ∨ k = 64 ∨ k = 65 ∨ k = 66 ∨ k = 67 ∨ k = 68 ∨ k = 69 ∨ k = 70 ∨ k = 71 ∨ k = 72 ∨ k = 73 ∨ k = 74 ∨ k = 75 ∨ k = 76 ∨ k = 77 ∨ k = 78 ∨ k = 79 ∨ k = 80 ∨ k = 81 ∨ k = 82 ∨ k = 83 ∨ k = 84 ∨ k = 85 ∨ k = 86 ∨ k = 87 ∨ k = 88 ∨ k = 89 ∨ k = 90 ∨ k = 91 ∨ k = 92 ∨ k = 93 ∨ k = 94 ∨ k = 95 ∨ k = 96 ∨ k = 97 ∨ k = 98 ∨ k = 99 ∨ k = 100 ∨ k = 101 ∨ k = 102 ∨ k = 103 ∨ k = 104 ∨ k = 105 ∨ k = 106 ∨ k = 107 ∨ k = 108 by simp only at hk; omega) with rfl | rfl | rfl | rfl | rfl | rfl | rfl | rfl | rfl | rfl | rfl | rfl | rfl | rfl | rfl | rfl | rfl | rfl | rfl | rfl | rfl | rfl | rfl | rfl | rfl | rfl | rfl | rfl | rfl | rfl | rfl | rfl | rfl | rfl | rfl | rfl | rfl | rfl | rfl | rfl | rfl | rfl | rfl | rfl | rfl | rfl | rfl | rfl | rfl | rfl | rfl | rfl | rfl | rfl | rfl | rfl | rfl | rfl | rfl | rfl | rfl | rfl | rfl | rfl | rfl | rfl | rfl | rfl | rfl | rfl | rfl | rfl | rfl | rfl | rfl | rfl | rfl | rfl | rfl | rfl | rfl | rfl | rfl | rfl | rfl | rfl | rfl | rfl | rfl | rfl | rfl | rfl | rfl | rfl | rfl | rfl | rfl | rfl | rfl | rfl | rfl | rfl | rfl | rfl | rfl | rfl | rfl | rfl | rfl <;> rfl) (zin_6 (List.mem_of_getElem? (i := 98) (by decide +kernel))) (zin_6 (List.mem_of_getElem? (i := 99) (by decide +kernel))) (zin_1 (List.mem_of_getElem? (i := 14) (by decide +kernel))) (Nat.le_of_ble_eq_true rfl) (Nat.le_of_ble_eq_true rfl) dL_8 (fun α2 H1 hα2 w => ?_)
  refine lv_dup hx hb dL_11 rfl ?_
  refine zb_call (M := zML) (M' := MX12_init) (mc := 80) (ms := 25193) (j := 98) (cj := 12) (n := 0) (as := fun _ => []) C hnw hA hl (zi_X12_98 hinj) (zin_1 (List.mem_of_getElem? (i := 14) (by decide +kernel))) (zin_6 (List.mem_of_getElem? (i := 102) rfl)) ⟨by decide, by decide, by decide +kernel⟩ (zin_6 (List.mem_of_getElem? (i := 100) (by decide +kernel))) rfl (zin_6 (List.mem_of_getElem? (i := 101) (by decide +kernel))) rfl ⟨by decide, by decide⟩ w rfl rfl (Nat.le_of_ble_eq_true rfl) ⟨(Nat.le_of_ble_eq_true rfl), (Nat.le_of_ble_eq_true rfl)⟩ dL_12 (fun β2 H1 locs1 hβ2 w => ?_)
  refine lv_astore_n (lv' := [(2, .ref (α2 98)), (1, .ref (α1 0)), (0, .ref b)]) hx hb dL_15 rfl hl (by decide) rfl (fun ls hl => ?_)
  refine lv_iconst (v := Int32.ofInt ((0 : Nat) : Int)) hx hb dL_16 (by decide) ?_
  refine lv_istore_n (lv' := [(3, .int (Int32.ofInt ((0 : Nat) : Int))), (2, .ref (α2 98)), (1, .ref (α1 0)), (0, .ref b)]) hx hb dL_17 rfl hl (by decide) rfl (fun ls hl => ?_)
  have e1 : zqw G α2 zSt0 (0 :: [20, 21, 18, 19, 16, 17, 14, 15, 12, 13, 10, 11, 8, 9, 6, 7, 4, 5, 2, 3, 97, 94, 96, 95, 91, 92, 93, 83, 90, 89, 88, 87, 86, 85, 84, 79, 82, 81, 80, 68, 78, 77, 76, 75, 74, 73, 72, 71, 70, 69, 65, 67, 66, 62, 63, 64, 59, 60, 61, 52, 58, 57, 56, 55, 54, 53, 47, 51, 50, 49, 48, 35, 46, 45, 44, 43, 42, 41, 40, 39, 38, 37, 36, 22, 34, 33, 32, 31, 30, 29, 28, 27, 26, 25, 24, 23, 1]) = zqw G β1 zSt0 (0 :: [20, 21, 18, 19, 16, 17, 14, 15, 12, 13, 10, 11, 8, 9, 6, 7, 4, 5, 2, 3, 97, 94, 96, 95, 91, 92, 93, 83, 90, 89, 88, 87, 86, 85, 84, 79, 82, 81, 80, 68, 78, 77, 76, 75, 74, 73, 72, 71, 70, 69, 65, 67, 66, 62, 63, 64, 59, 60, 61, 52, 58, 57, 56, 55, 54, 53, 47, 51, 50, 49, 48, 35, 46, 45, 44, 43, 42, 41, 40, 39, 38, 37, 36, 22, 34, 33, 32, 31, 30, 29, 28, 27, 26, 25, 24, 23, 1]) := zqw_ap (own := [98]) (by decide +kernel) (fun i hi => hα2 i (fun z => hi (by rw [z]; exact List.mem_cons_self)))
  have e2 : zqw G β2 zSt0 (0 :: [20, 21, 18, 19, 16, 17, 14, 15, 12, 13, 10, 11, 8, 9, 6, 7, 4, 5, 2, 3, 97, 94, 96, 95, 91, 92, 93, 83, 90, 89, 88, 87, 86, 85, 84, 79, 82, 81, 80, 68, 78, 77, 76, 75, 74, 73, 72, 71, 70, 69, 65, 67, 66, 62, 63, 64, 59, 60, 61, 52, 58, 57, 56, 55, 54, 53, 47, 51, 50, 49, 48, 35, 46, 45, 44, 43, 42, 41, 40, 39, 38, 37, 36, 22, 34, 33, 32, 31, 30, 29, 28, 27, 26, 25, 24, 23, 1]) = zqw G α2 zSt0 (0 :: [20, 21, 18, 19, 16, 17, 14, 15, 12, 13, 10, 11, 8, 9, 6, 7, 4, 5, 2, 3, 97, 94, 96, 95, 91, 92, 93, 83, 90, 89, 88, 87, 86, 85, 84, 79, 82, 81, 80, 68, 78, 77, 76, 75, 74, 73, 72, 71, 70, 69, 65, 67, 66, 62, 63, 64, 59, 60, 61, 52, 58, 57, 56, 55, 54, 53, 47, 51, 50, 49, 48, 35, 46, 45, 44, 43, 42, 41, 40, 39, 38, 37, 36, 22, 34, 33, 32, 31, 30, 29, 28, 27, 26, 25, 24, 23, 1]) := zqw_ap (own := [178, 177, 176, 175, 174, 173, 172, 171, 170, 169, 168, 167, 166, 165, 164, 163, 162, 161, 160, 159, 158, 157, 156, 155, 154, 153, 152, 151, 150, 149, 148, 147, 146, 145, 144, 143, 142, 141, 140, 139, 138, 137, 136, 135, 134, 133, 132, 131, 130, 129, 128, 127, 126, 125, 124, 123, 122, 121, 120, 119, 118, 117, 116, 115, 114, 113, 112, 111, 110, 109, 108, 107, 106, 105, 104, 103, 102, 101, 100, 99]) (by decide +kernel) hβ2
  rw [← e1, ← e2, List.append_nil] at w
  have hpm : ((98 :: [178, 177, 176, 175, 174, 173, 172, 171, 170, 169, 168, 167, 166, 165, 164, 163, 162, 161, 160, 159, 158, 157, 156, 155, 154, 153, 152, 151, 150, 149, 148, 147, 146, 145, 144, 143, 142, 141, 140, 139, 138, 137, 136, 135, 134, 133, 132, 131, 130, 129, 128, 127, 126, 125, 124, 123, 122, 121, 120, 119, 118, 117, 116, 115, 114, 113, 112, 111, 110, 109, 108, 107, 106, 105, 104, 103, 102, 101, 100, 99]) ++ (0 :: [20, 21, 18, 19, 16, 17, 14, 15, 12, 13, 10, 11, 8, 9, 6, 7, 4, 5, 2, 3, 97, 94, 96, 95, 91, 92, 93, 83, 90, 89, 88, 87, 86, 85, 84, 79, 82, 81, 80, 68, 78, 77, 76, 75, 74, 73, 72, 71, 70, 69, 65, 67, 66, 62, 63, 64, 59, 60, 61, 52, 58, 57, 56, 55, 54, 53, 47, 51, 50, 49, 48, 35, 46, 45, 44, 43, 42, 41, 40, 39, 38, 37, 36, 22, 34, 33, 32, 31, 30, 29, 28, 27, 26, 25, 24, 23, 1])).Perm (List.range 179) := by decide +kernel
  have w : zWq G (fun q : Nat => s.heap.size ≤ q) s.heap H1 locs1 (zwd (zGs G β2) zSt0) := zWq_pm (by
    have h2 := hpm.map (zce G β2 zSt0)
    rw [List.map_append] at h2
    exact h2) w
  have a0 : β2 0 = α1 0 := (hβ2 0 (by decide)).trans ((hα2 0 (by decide)).trans (hβ1 0 (by decide)))
  have a98 : β2 98 = α2 98 := hβ2 98 (by decide)
  rw [← a0, ← a98] at hl
  have LC : zLC (zGs G β2) (zGL G) p s m meth c b L xs := ⟨C0, rfl, hK, fun i j hi hj he => w.2.1.1 i j _ _ (zwd_get hi) (zwd_get hj) he, fun i hi => w.2.1.2 i _ (zwd_get hi), hL⟩
  exact zl_loop LC (L + 7) 0 zSt0 H1 locs1 ls (by omega) (lv_sub hl [3, 2, 1, 0] rfl) ⟨zwf_0, w.1, w.2.2⟩ zinv_0 (by omega)
