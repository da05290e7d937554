section ZH
variable {G : zG} {M : zM} {pc : Nat} {ls st : List zV} {σ : zS} {Q : Int → zS → Prop}
theorem zcwT {ci : Nat} {q : vw_C} (h : vwCl[ci]? = some q) : ∀ w ∈ u_ws q.1 q.2.1 q.2.2, w ∈ zTb := by
  intro w hw
  refine zTb_in (zcw h w hw) ?_
  obtain ⟨k, -, rfl⟩ := List.mem_map.mp hw
  unfold u_lay
  split <;> rfl
theorem zwf_I {q : Nat} {j : Int} (hw : zwf σ) (h : zk q ≠ 2) : zIn (σ q j) := by
  have h1 := hw q j
  rwa [if_neg h] at h1
theorem zwf_L {q : Nat} {j : Int} (hw : zwf σ) (h : zk q = 2) : zLn (σ q j) := by
  have h1 := hw q j
  rwa [if_pos h] at h1
theorem zk_of {q a b : Nat} {rs : List (Option Nat)} (h : zsh q = (a, b, rs)) : zk q = a := by
  unfold zk
  rw [h]
theorem z_getfI {q idx ci k : Nat} {rs : List (Option Nat)} (f : zFl (zMy M).cls idx ci k) (hsh : zsh q = (4, ci, rs)) (hr : rs[k]? = some none) (d : decode (zMb M) pc = .ok (.getfield idx, 3))
    (kk : zR G M (pc + 3) ls (zi (σ q k) :: st) σ Q) : zR G M pc ls (zr q :: st) σ Q := by
  obtain ⟨⟨C0, T, N⟩, hc, hk, hd, hl⟩ := f
  intro hl0 hs hw p e s m args below meth c C H locs lsr hP hS hL
  obtain ⟨hx, hb, hrt, hml, hown, hts, hlocks, hK, hinj⟩ := id C
  have hq := zsh_lt hsh (by decide)
  exact va_get hx hb hts (zcwT hc) hown hK hP q (by rw [zwd_get hq, zcl_O hsh]) hc k hk (hts _ (zTb_in hl rfl)) (fun x h => by rw [← hd]; exact h) (zfs_get hr) d
    (kk hl0 (zki (zwf_I hw (by rw [zk_of hsh]; decide)) (zkt hs)) hw p e s m args below meth c C H locs lsr hP hS hL)
theorem z_getfR {q idx ci k r : Nat} {rs : List (Option Nat)} (f : zFl (zMy M).cls idx ci k) (hsh : zsh q = (4, ci, rs)) (hr : rs[k]? = some (some r)) (d : decode (zMb M) pc = .ok (.getfield idx, 3))
    (kk : zR G M (pc + 3) ls (zr r :: st) σ Q) : zR G M pc ls (zr q :: st) σ Q := by
  obtain ⟨⟨C0, T, N⟩, hc, hk, hd, hl⟩ := f
  intro hl0 hs hw p e s m args below meth c C H locs lsr hP hS hL
  obtain ⟨hx, hb, hrt, hml, hown, hts, hlocks, hK, hinj⟩ := id C
  have hq := zsh_lt hsh (by decide)
  exact va_get hx hb hts (zcwT hc) hown hK hP q (by rw [zwd_get hq, zcl_O hsh]) hc k hk (hts _ (zTb_in hl rfl)) (fun x h => by rw [← hd]; exact h) (zfs_get hr) d
    (kk hl0 (zkq (zkt hs)) hw p e s m args below meth c C H locs lsr hP hS hL)
theorem z_put {q idx ci k : Nat} {x : Int} {ty : FieldType} {rs : List (Option Nat)} (f : zFp (zMy M).cls idx ci k ty) (hsh : zsh q = (4, ci, rs)) (hr : rs[k]? = some none) (hn : narrow ty (.int (Int32.ofInt x)) = .int (Int32.ofInt x)) (hfit : fits ty (.int (Int32.ofInt x)) = true) (d : decode (zMb M) pc = .ok (.putfield idx, 3))
    (kk : zR G M (pc + 3) ls st (zup σ q k x) Q) : zR G M pc ls (zi x :: zr q :: st) σ Q := by
  obtain ⟨⟨C0, T, N⟩, hc, hk, hd, hl, hfin, hty⟩ := f
  obtain ⟨⟨ty0, hty0⟩, hnm⟩ := zct hc
  intro hl0 hs hw p e s m args below meth c C H locs lsr hP hS hL
  obtain ⟨hx, hb, hrt, hml, hown, hts, hlocks, hK, hinj⟩ := id C
  have hq := zsh_lt hsh (by decide)
  have hkl : k < (zfs (zGa G) rs (σ q)).length := by
    have := (List.getElem?_eq_some_iff.mp hr).1
    simpa [zfs] using this
  refine va_put hx hb hts (zcwT hc) ty0 hty0 hnm hown hK hP (zwd_D hinj σ) hS q (by rw [zwd_get hq, zcl_O hsh]) hc k hk (hts _ (zTb_in hl rfl)) (fun x h => by rw [← hd]; exact h) hfin hty hn hfit hkl d (fun H1 locs1 hP1 hD1 hS1 => ?_)
  have e1 : zcl G (zup σ q k x) q = .inr (ci, (zfs (zGa G) rs (σ q)).set k (.int (Int32.ofInt x))) := by
    rw [zcl_O hsh, zfs_set hr, zup_eq]
  have hP2 : va_P (zGD G) vwCl ((zwd G σ).set q (zGa G q, .inr (ci, (zfs (zGa G) rs (σ q)).set k (.int (Int32.ofInt x))))) H1 := hP1
  rw [zwd_set e1 (fun q' h => zup_ne h)] at hP2
  exact kk hl0 (zkt (zkt hs)) (zup_wf hw (by rw [zk_of hsh]; exact zk1 hs)) p e s m args below meth c C H1 locs1 lsr hP2 hS1 hL
theorem z_putI {q idx ci k : Nat} {x : Int} {rs : List (Option Nat)} (f : zFp (zMy M).cls idx ci k .int) (hsh : zsh q = (4, ci, rs)) (hr : rs[k]? = some none) (d : decode (zMb M) pc = .ok (.putfield idx, 3))
    (kk : zR G M (pc + 3) ls st (zup σ q k x) Q) : zR G M pc ls (zi x :: zr q :: st) σ Q := z_put f hsh hr (vp_nar_int _) rfl d kk
theorem zbool_n {x : Int} (h : x = 0 ∨ x = 1) : narrow .boolean (.int (Int32.ofInt x)) = .int (Int32.ofInt x) := by
  rcases h with rfl | rfl <;> decide +kernel
theorem zbool_f {x : Int} (h : x = 0 ∨ x = 1) : fits .boolean (.int (Int32.ofInt x)) = true := by
  rcases h with rfl | rfl <;> decide +kernel
theorem z_putZ {q idx ci k : Nat} {x : Int} {rs : List (Option Nat)} (f : zFp (zMy M).cls idx ci k .boolean) (hsh : zsh q = (4, ci, rs)) (hr : rs[k]? = some none) (hx : x = 0 ∨ x = 1) (d : decode (zMb M) pc = .ok (.putfield idx, 3))
    (kk : zR G M (pc + 3) ls st (zup σ q k x) Q) : zR G M pc ls (zi x :: zr q :: st) σ Q := z_put f hsh hr (zbool_n hx) (zbool_f hx) d kk
theorem zvin {i : Int} {n : Nat} (hi : zIn i) (h0 : 0 ≤ i) (h1 : i < n) : vp_in (Int32.ofInt i) n := vp_in_iff.mpr (by rw [zI_toInt hi]; exact ⟨h0, h1⟩)
theorem zcla {i : Int} (hi : zIn i) (h0 : 0 ≤ i) : (((Int32.ofInt i).toNatClampNeg : Nat) : Int) = i := by rw [zI_clamp hi]; exact Int.toNat_of_nonneg h0
theorem z_iald {q n : Nat} {i : Int} {rs : List (Option Nat)} (hsh : zsh q = (0, n, rs)) (h0 : 0 ≤ i) (h1 : i < n) (d : decode (zMb M) pc = .ok (.iaload, 1))
    (kk : zR G M (pc + 1) ls (zi (σ q i) :: st) σ Q) : zR G M pc ls (zi i :: zr q :: st) σ Q := by
  intro hl0 hs hw p e s m args below meth c C H locs lsr hP hS hL
  obtain ⟨hx, hb, hrt, hml, hown, hts, hlocks, hK, hinj⟩ := id C
  refine va_iald hx hb hK hP q 0 (by rw [zwd_get (zsh_lt hsh (by decide)), zcl_I hsh]) rfl (zvin (zk1 hs) h0 h1) d ?_
  rw [zcla (zk1 hs) h0]
  exact kk hl0 (zki (zwf_I hw (by rw [zk_of hsh]; decide)) (zkt (zkt hs))) hw p e s m args below meth c C H locs lsr hP hS hL
theorem z_bald {q n : Nat} {i : Int} {rs : List (Option Nat)} (hsh : zsh q = (1, n, rs)) (h0 : 0 ≤ i) (h1 : i < n) (d : decode (zMb M) pc = .ok (.baload, 1))
    (kk : zR G M (pc + 1) ls (zi (σ q i) :: st) σ Q) : zR G M pc ls (zi i :: zr q :: st) σ Q := by
  intro hl0 hs hw p e s m args below meth c C H locs lsr hP hS hL
  obtain ⟨hx, hb, hrt, hml, hown, hts, hlocks, hK, hinj⟩ := id C
  refine va_zald hx hb hK hP q 1 (by rw [zwd_get (zsh_lt hsh (by decide)), zcl_Z hsh]) rfl (zvin (zk1 hs) h0 h1) d ?_
  rw [zcla (zk1 hs) h0]
  exact kk hl0 (zki (zwf_I hw (by rw [zk_of hsh]; decide)) (zkt (zkt hs))) hw p e s m args below meth c C H locs lsr hP hS hL
theorem z_lald {q n : Nat} {i : Int} {rs : List (Option Nat)} (hsh : zsh q = (2, n, rs)) (h0 : 0 ≤ i) (h1 : i < n) (d : decode (zMb M) pc = .ok (.laload, 1))
    (kk : zR G M (pc + 1) ls (zl (σ q i) :: st) σ Q) : zR G M pc ls (zi i :: zr q :: st) σ Q := by
  intro hl0 hs hw p e s m args below meth c C H locs lsr hP hS hL
  obtain ⟨hx, hb, hrt, hml, hown, hts, hlocks, hK, hinj⟩ := id C
  refine va_lald hx hb hK hP q 2 (by rw [zwd_get (zsh_lt hsh (by decide)), zcl_J hsh]) rfl (zvin (zk1 hs) h0 h1) d ?_
  rw [zcla (zk1 hs) h0]
  exact kk hl0 (zkl (zwf_L hw (zk_of hsh)) (zkt (zkt hs))) hw p e s m args below meth c C H locs lsr hP hS hL
theorem z_aald {q n r : Nat} {i : Int} {rs : List (Option Nat)} (hsh : zsh q = (3, n, rs)) (h0 : 0 ≤ i) (h1 : i < n) (hr : rs[i.toNat]? = some (some r)) (d : decode (zMb M) pc = .ok (.aaload, 1))
    (kk : zR G M (pc + 1) ls (zr r :: st) σ Q) : zR G M pc ls (zi i :: zr q :: st) σ Q := by
  intro hl0 hs hw p e s m args below meth c C H locs lsr hP hS hL
  obtain ⟨hx, hb, hrt, hml, hown, hts, hlocks, hK, hinj⟩ := id C
  refine va_aldq hx hb hK hP q 3 (by rw [zwd_get (zsh_lt hsh (by decide)), zcl_Q hsh]) rfl (zvin (zk1 hs) h0 h1) d ?_
  have e1 : (rs.getD (Int32.ofInt i).toNatClampNeg none).map (zGa G) = some (zGa G r) := by
    rw [zI_clamp (zk1 hs), List.getD_eq_getElem?_getD, hr]
    rfl
  simp only [e1]
  exact kk hl0 (zkq (zkt (zkt hs))) hw p e s m args below meth c C H locs lsr hP hS hL
theorem z_alen {q n : Nat} {rs : List (Option Nat)} (hsh : zsh q = (0, n, rs)) (hn : n < 2147483648) (d : decode (zMb M) pc = .ok (.arraylength, 1))
    (kk : zR G M (pc + 1) ls (zi n :: st) σ Q) : zR G M pc ls (zr q :: st) σ Q := by
  intro hl0 hs hw p e s m args below meth c C H locs lsr hP hS hL
  obtain ⟨hx, hb, hrt, hml, hown, hts, hlocks, hK, hinj⟩ := id C
  refine va_alen hx hb hK hP q 0 (by rw [zwd_get (zsh_lt hsh (by decide)), zcl_I hsh]) rfl (v := Int32.ofInt n) ?_ d
    (kk hl0 (zki (by unfold zIn; omega) (zkt hs)) hw p e s m args below meth c C H locs lsr hP hS hL)
  exact (Int32.ofInt_eq_ofNat ..).symm
theorem zupd {q : Nat} {i x : Int} (hi : zIn i) (h0 : 0 ≤ i) : upd (fun j : Nat => Int32.ofInt (σ q j)) (Int32.ofInt i).toNatClampNeg (Int32.ofInt x) = fun j : Nat => Int32.ofInt (zup σ q i x q j) := by
  funext j
  have e1 := zcla hi h0
  rw [zup_eq]
  unfold upd
  by_cases hj : j = (Int32.ofInt i).toNatClampNeg
  · have : (j : Int) = i := by rw [hj]; exact e1
    simp [hj, e1]
  · have : ¬ (j : Int) = i := fun h => hj (by omega)
    simp [hj, this]
theorem zupdL {q : Nat} {i x : Int} (hi : zIn i) (h0 : 0 ≤ i) : vp_updL (fun j : Nat => Int64.ofInt (σ q j)) (Int32.ofInt i).toNatClampNeg (Int64.ofInt x) = fun j : Nat => Int64.ofInt (zup σ q i x q j) := by
  funext j
  have e1 := zcla hi h0
  rw [zup_eq]
  unfold vp_updL
  by_cases hj : j = (Int32.ofInt i).toNatClampNeg
  · simp [hj, e1]
  · have : ¬ (j : Int) = i := fun h => hj (by omega)
    simp [hj, this]
theorem z_iast {q n : Nat} {i x : Int} {rs : List (Option Nat)} (hsh : zsh q = (0, n, rs)) (h0 : 0 ≤ i) (h1 : i < n) (d : decode (zMb M) pc = .ok (.iastore, 1))
    (kk : zR G M (pc + 1) ls st (zup σ q i x) Q) : zR G M pc ls (zi x :: zi i :: zr q :: st) σ Q := by
  intro hl0 hs hw p e s m args below meth c C H locs lsr hP hS hL
  obtain ⟨hx, hb, hrt, hml, hown, hts, hlocks, hK, hinj⟩ := id C
  refine va_iast hx hb hK hP (zwd_D hinj σ) hS q 0 (by rw [zwd_get (zsh_lt hsh (by decide)), zcl_I hsh]) rfl (zvin (zk2 hs) h0 h1) d (fun H1 locs1 hP1 hD1 hS1 => ?_)
  have e1 : zcl G (zup σ q i x) q = .inl (zGt G 0, n, .inl (upd (fun j : Nat => Int32.ofInt (σ q j)) (Int32.ofInt i).toNatClampNeg (Int32.ofInt x))) := by
    rw [zcl_I hsh, zupd (zk2 hs) h0]
  rw [zwd_set e1 (fun q' h => zup_ne h)] at hP1
  exact kk hl0 (zkt (zkt (zkt hs))) (zup_wf hw (by rw [zk_of hsh]; exact zk1 hs)) p e s m args below meth c C H1 locs1 lsr hP1 hS1 hL
theorem z_bast {q n : Nat} {i x : Int} {rs : List (Option Nat)} (hsh : zsh q = (1, n, rs)) (h0 : 0 ≤ i) (h1 : i < n) (hx01 : x = 0 ∨ x = 1) (d : decode (zMb M) pc = .ok (.bastore, 1))
    (kk : zR G M (pc + 1) ls st (zup σ q i x) Q) : zR G M pc ls (zi x :: zi i :: zr q :: st) σ Q := by
  intro hl0 hs hw p e s m args below meth c C H locs lsr hP hS hL
  obtain ⟨hx, hb, hrt, hml, hown, hts, hlocks, hK, hinj⟩ := id C
  refine va_zast hx hb hK hP (zwd_D hinj σ) hS q 1 (by rw [zwd_get (zsh_lt hsh (by decide)), zcl_Z hsh]) rfl (zvin (zk2 hs) h0 h1) d (fun H1 locs1 hP1 hD1 hS1 => ?_)
  have e0 : vp_nar .boolean (Int32.ofInt x) = Int32.ofInt x := by
    unfold vp_nar
    rw [zbool_n hx01]
  rw [e0] at hP1
  have e1 : zcl G (zup σ q i x) q = .inl (zGt G 1, n, .inl (upd (fun j : Nat => Int32.ofInt (σ q j)) (Int32.ofInt i).toNatClampNeg (Int32.ofInt x))) := by
    rw [zcl_Z hsh, zupd (zk2 hs) h0]
  rw [zwd_set e1 (fun q' h => zup_ne h)] at hP1
  exact kk hl0 (zkt (zkt (zkt hs))) (zup_wf hw (by rw [zk_of hsh]; exact zk1 hs)) p e s m args below meth c C H1 locs1 lsr hP1 hS1 hL
theorem z_last {q n : Nat} {i x : Int} {rs : List (Option Nat)} (hsh : zsh q = (2, n, rs)) (h0 : 0 ≤ i) (h1 : i < n) (d : decode (zMb M) pc = .ok (.lastore, 1))
    (kk : zR G M (pc + 1) ls st (zup σ q i x) Q) : zR G M pc ls (zl x :: zi i :: zr q :: st) σ Q := by
  intro hl0 hs hw p e s m args below meth c C H locs lsr hP hS hL
  obtain ⟨hx, hb, hrt, hml, hown, hts, hlocks, hK, hinj⟩ := id C
  refine va_last hx hb hK hP (zwd_D hinj σ) hS q 2 (by rw [zwd_get (zsh_lt hsh (by decide)), zcl_J hsh]) rfl (zvin (zk2 hs) h0 h1) d (fun H1 locs1 hP1 hD1 hS1 => ?_)
  have e1 : zcl G (zup σ q i x) q = .inl (zGt G 2, n, .inr (.inl (vp_updL (fun j : Nat => Int64.ofInt (σ q j)) (Int32.ofInt i).toNatClampNeg (Int64.ofInt x)))) := by
    rw [zcl_J hsh, zupdL (zk2 hs) h0]
  rw [zwd_set e1 (fun q' h => zup_ne h)] at hP1
  exact kk hl0 (zkt (zkt (zkt hs))) (zup_wf hw (by rw [zk_of hsh]; exact zk1 hs)) p e s m args below meth c C H1 locs1 lsr hP1 hS1 hL
/-! returns -/
theorem z_iret {x : Int} {ty : FieldType} (hr : zMr M = some ty) (hnl : zrv (some ty) x = some (.int (Int32.ofInt x)) ∧ zro (some ty) x = zIn x) (hn : narrow ty (.int (Int32.ofInt x)) = .int (Int32.ofInt x)) (d : decode (zMb M) pc = .ok (.ireturn, 1)) (hq : Q x σ) : zR G M pc ls [zi x] σ Q := by
  intro hl0 hs hw p e s m args below meth c C H locs lsr hP hS hL
  obtain ⟨hx, hb, hrt, hml, hown, hts, hlocks, hK, hinj⟩ := id C
  refine W.zret (v := Int32.ofInt x) hx hb (hrt.trans hr) hn (fun t ht hW => ⟨⟨x, σ, by rw [hr, hnl.1], by rw [hr, hnl.2]; exact zk1 hs, hw, hq, by rw [ht]; exact hP, hK.moved hW.alike⟩, hS.F ht⟩) (fun q h => hS.2.2 q h) d (hlocks := hlocks)
theorem z_ireti {x : Int} (hr : zMr M = some .int) (d : decode (zMb M) pc = .ok (.ireturn, 1)) (hq : Q x σ) : zR G M pc ls [zi x] σ Q := z_iret hr ⟨rfl, rfl⟩ (vp_nar_int _) d hq
theorem z_iretz {x : Int} (hr : zMr M = some .boolean) (hx : x = 0 ∨ x = 1) (d : decode (zMb M) pc = .ok (.ireturn, 1)) (hq : Q x σ) : zR G M pc ls [zi x] σ Q := z_iret hr ⟨rfl, rfl⟩ (zbool_n hx) d hq
theorem z_lret {x : Int} (hr : zMr M = some .long) (d : decode (zMb M) pc = .ok (.lreturn, 1)) (hq : Q x σ) : zR G M pc ls [zl x] σ Q := by
  intro hl0 hs hw p e s m args below meth c C H locs lsr hP hS hL
  obtain ⟨hx, hb, hrt, hml, hown, hts, hlocks, hK, hinj⟩ := id C
  refine W.lret (v := Int64.ofInt x) hx hb (hrt.trans hr) (fun t ht hW => ⟨⟨x, σ, by rw [hr]; rfl, by rw [hr]; exact zk1 hs, hw, hq, by rw [ht]; exact hP, hK.moved hW.alike⟩, hS.F ht⟩) (fun q h => hS.2.2 q h) d (hlocks := hlocks)
theorem z_vret (hr : zMr M = none) (d : decode (zMb M) pc = .ok (.return_, 1)) (hq : Q 0 σ) : zR G M pc ls [] σ Q := by
  intro hl0 hs hw p e s m args below meth c C H locs lsr hP hS hL
  obtain ⟨hx, hb, hrt, hml, hown, hts, hlocks, hK, hinj⟩ := id C
  refine W.vret hx hb (hrt.trans hr) (fun t ht hW => ⟨⟨0, σ, by rw [hr]; rfl, by rw [hr]; trivial, hw, hq, by rw [ht]; exact hP, hK.moved hW.alike⟩, hS.F ht⟩) (fun q h => hS.2.2 q h) d (hlocks := hlocks)
end ZH
