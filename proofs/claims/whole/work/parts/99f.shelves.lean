/-! CONSTRUCTORS: the row of shelves -/
section BS
variable {G : zG} {M : zM} {p : Program} {e : Env} {R : Room} {s : State} {m : MethodId} {args : Array Value} {below : List Frame} {meth : Method} {c : Code} {H : Heap} {locs : List Loc} {cells slots : Nat} {Q : State → Prop} {pc : Nat} {lsr : Array Slot} {rest : List Value} {A : Nat → Prop} {H0 : Heap}
variable {α : Nat → Nat} {σ : zS} {b ci : Nat} {rs : List (Option Nat)} {sets : List (Nat × zSu)} {I : List Nat}
/-- the row, its first n set -/
def zsE (G : zG) (n : Nat) : (Nat → Nat) → va_W := fun α => [(α 1, .inl (zGt G 3, 10, .inr (.inr (.inr (.inr (fun k => if k < n then ((zsh 1).2.2.getD k none).map α else none))))))]
def zsEok (n : Nat) (own : List Nat) : Bool := !own.contains 1 && (List.range n).all (fun k => match (zsh 1).2.2.getD k none with
  | some q => !own.contains q
  | none => true)
theorem zsE_ap {α β : Nat → Nat} {n : Nat} {own : List Nat} (h : zsEok n own = true) (hab : ∀ i, i ∉ own → β i = α i) : zsE G n β = zsE G n α := by
  unfold zsEok at h
  rw [Bool.and_eq_true] at h
  have h1 : β 1 = α 1 := hab 1 (fun z => by
    have := h.1
    rw [Bool.not_eq_true', List.contains_iff_mem.mpr z] at this
    cases this)
  have h2 : (fun k => if k < n then ((zsh 1).2.2.getD k none).map β else none) = (fun k => if k < n then ((zsh 1).2.2.getD k none).map α else none) := by
    funext k
    by_cases c : k < n
    · rw [if_pos c, if_pos c]
      have h3 := List.all_eq_true.mp h.2 k (List.mem_range.mpr c)
      cases e : (zsh 1).2.2.getD k none with
      | none => rfl
      | some q =>
        rw [e] at h3
        show some (β q) = some (α q)
        rw [hab q (fun z => by
          have h4 : (!own.contains q) = true := h3
          rw [Bool.not_eq_true', List.contains_iff_mem.mpr z] at h4
          cases h4)]
    · rw [if_neg c, if_neg c]
  unfold zsE
  rw [h1, h2]
theorem zb_anew {idx idn h0 : Nat} {q : vw_C} {ty2 : FieldType} (C : zC G M p s m args meth c) (hnw : zNw s) (hin : meth.name = "<init>") (hA : ∀ q, H0.size ≤ q → A q)
    (w : zWq G A H0 H locs (zbw G α σ 0 ci rs [] (fun _ => []) [])) (hh : α 0 = h0)
    (hcl : Cond.classLink (zMy M).cls idn "CollegeHouse$Shelf" ∈ lw_tbl)
    (f : zFl (zMy M).cls idx ci 0) (hq : vwCl[ci]? = some q) (hf : (q.2.1 0).2.2.2 = true) (hdecl : (q.2.1 0).1 = (zMy M).cls) (hty : parseFieldDescriptor (q.2.1 0).2.2.1 = some ty2) (hnar : ∀ a : Nat, narrow ty2 (.ref a) = .ref a) (hfit : ∀ a : Nat, fits ty2 (.ref a) = true)
    (hk : 0 < rs.length) (hc1 : cells + 1 ≤ R.cells) (hs1 : slots + 10 ≤ R.slots)
    (d1 : decode (zMb M) pc = .ok (.anewarray idn, 3)) (d2 : decode (zMb M) (pc + 3) = .ok (.putfield idx, 3))
    (kk : ∀ (α' : Nat → Nat) (H1 : Heap) (locs1 : List Loc), (∀ i, i ≠ 1 → α' i = α i) → zWq G A H0 H1 locs1 (zbw G α' σ 0 ci rs [(0, .inl 1)] (zsE G 0) []) → α' 0 = h0 → W p (zGL G) e R s m args below meth c H1 locs1 (cells + 1) (slots + 10) Q (F0 m (pc + 6) lsr rest)) :
    W p (zGL G) e R s m args below meth c H locs cells slots Q (F0 m pc lsr (.int (Int32.ofInt 10) :: .ref h0 :: rest)) := by
  obtain ⟨hP, hD, hS⟩ := w
  obtain ⟨hx, hb, hrt, hml, hown, hts, hlocks, hK, hinj⟩ := id C
  subst hh
  refine va_newq (N' := 10) hx hb hown (hts _ (zTb_in hcl rfl)) hnw.1 hK hP hD hS hA (by decide) (by decide) (by decide) hc1 hs1 d1 (fun qq cA H1 hK1 hP1 hD1 hS1 => ?_)
  have ec : cA = zGt G 3 := by
    obtain ⟨_, _, _, _, _, x1⟩ := (hK1.2 4 (cA, .object "CollegeHouse$Shelf") rfl).2
    obtain ⟨_, _, _, _, _, x2⟩ := (hK.2 3 _ rfl).2
    exact Option.some.inj (x1.symm.trans x2)
  subst ec
  obtain ⟨q', hc', hkN, hd', hl'⟩ := f
  rw [hq] at hc'
  cases hc'
  obtain ⟨⟨ty0, hty0⟩, hnm⟩ := zct hq
  obtain ⟨C0, T0, N0⟩ := q
  refine va_putF hx hb hts (zcwT hq) ty0 hty0 hnm hown hK hP1 hD1 hS1 0 rfl hq 0 hkN (hts _ (zTb_in hl' rfl)) (fun x h => by rw [← hd']; exact h) hf hin hdecl hty (hnar qq) (hfit qq) (by rw [zqf_len]; exact hk) d2 (fun H2 locs2 hP2 hD2 hS2 => ?_)
  have e3 : zau α 1 qq 0 = α 0 := zau_ne (by decide)
  have e4 : zau α 1 qq 1 = qq := zau_at
  refine kk (zau α 1 qq) H2 locs2 (fun i hi => zau_ne hi) ?_ e3
  have e5 : zbw G (zau α 1 qq) σ 0 ci rs [(0, .inl 1)] (zsE G 0) [] = (α 0, Sum.inr (ci, (zqf α rs []).set 0 (.ref qq))) :: [(qq, Sum.inl (zGt G 3, 10, Sum.inr (Sum.inr (Sum.inr (Sum.inr (fun _ => none))))))] := by
    unfold zbw zbo zsE
    rw [e3, e4]
    show (α 0, Sum.inr (ci, (zqf (zau α 1 qq) rs []).set 0 (.ref (zau α 1 qq 1)))) :: _ = _
    rw [e4]
    rfl
  rw [e5]
  exact ⟨hP2, hD2, hS2⟩
/-- a shelf into its place -/
theorem zb_aast {n j : Nat} {rsj : List (Option Nat)} (C : zC G M p s m args meth c) (w : zWq G A H0 H locs (zbw G α σ b ci rs sets (zsE G n) I)) (hn : n < 10) (hj : j ∈ I) (hsh : zsh j = (4, 9, rsj)) (hr : (zsh 1).2.2.getD n none = some j)
    (d : decode (zMb M) pc = .ok (.aastore, 1))
    (kk : ∀ (H1 : Heap) (locs1 : List Loc), zWq G A H0 H1 locs1 (zbw G α σ b ci rs sets (zsE G (n + 1)) I) → W p (zGL G) e R s m args below meth c H1 locs1 cells slots Q (F0 m (pc + 1) lsr rest)) :
    W p (zGL G) e R s m args below meth c H locs cells slots Q (F0 m pc lsr (.ref (α j) :: .int (Int32.ofInt n) :: .ref (α 1) :: rest)) := by
  obtain ⟨hx, hb, hrt, hml, hown, hts, hlocks, hK, hinj⟩ := id C
  have pm : ∀ x : Nat × va_E, (x :: (zbo α b ci rs sets :: zqw G α σ I)).Perm (zbo α b ci rs sets :: (zqw G α σ I ++ [x])) := fun x =>
    (List.Perm.swap _ _ _).trans (List.Perm.cons _ (List.perm_append_singleton x _).symm)
  obtain ⟨hP, hD, hS⟩ := zWq_pm (w' := (α 1, Sum.inl (zGt G 3, 10, Sum.inr (Sum.inr (Sum.inr (Sum.inr (fun k => if k < n then ((zsh 1).2.2.getD k none).map α else none)))))) :: (zbo α b ci rs sets :: zqw G α σ I)) (pm _).symm w
  have hm : (α j, Sum.inr (9, zfs α rsj (σ j))) ∈ (α 1, Sum.inl (zGt G 3, 10, Sum.inr (Sum.inr (Sum.inr (Sum.inr (fun k => if k < n then ((zsh 1).2.2.getD k none).map α else none)))))) :: (zbo α b ci rs sets :: zqw G α σ I) := by
    refine List.mem_cons_of_mem _ (List.mem_cons_of_mem _ ?_)
    have : zce G α σ j ∈ zqw G α σ I := List.mem_map.mpr ⟨j, hj, rfl⟩
    have e0 : zce G α σ j = (α j, Sum.inr (9, zfs α rsj (σ j))) := by
      unfold zce
      rw [zcl_O hsh]
      rfl
    rw [← e0]
    exact this
  obtain ⟨qk, hqk⟩ := List.getElem?_of_mem hm
  have hi : zIn (n : Int) := by unfold zIn; omega
  refine va_astq hx hb hK hP hD hS 0 3 qk 9 (r := (RX9, TX9, 4)) rfl rfl hqk rfl (zvin hi (by omega) (by omega)) d (fun H1 locs1 hP1 hD1 hS1 => ?_)
  have ef : va_up (fun k => if k < n then ((zsh 1).2.2.getD k none).map α else none) (Int32.ofInt (n : Int)).toNatClampNeg (some (α j)) = fun k => if k < n + 1 then ((zsh 1).2.2.getD k none).map α else none := by
    funext k
    have e2 := zcla hi (by omega)
    unfold va_up
    by_cases c : k = (Int32.ofInt (n : Int)).toNatClampNeg
    · have : k = n := by omega
      rw [if_pos c, if_pos (by omega), this, hr]
      rfl
    · rw [if_neg c]
      show (if k < n then _ else _) = _
      by_cases d : k < n
      · rw [if_pos d, if_pos (by omega)]
      · rw [if_neg d, if_neg (by omega)]
  have h2 : zWq G A H0 H1 locs1 ((α 1, Sum.inl (zGt G 3, 10, Sum.inr (Sum.inr (Sum.inr (Sum.inr (fun k => if k < n + 1 then ((zsh 1).2.2.getD k none).map α else none)))))) :: (zbo α b ci rs sets :: zqw G α σ I)) := by
    rw [← ef]
    exact ⟨hP1, hD1, hS1⟩
  exact kk H1 locs1 (zWq_pm (pm _) h2)
theorem zi_endE {mc ms : Nat} {I : List Nat} {own : List Nat} {τ : zS} {α0 : Nat → Nat} (C : zC G M p s m args meth c) (hr : zMr M = none) (w : zWq G A s.heap H locs (zbw G α τ b ci rs sets (zsE G 10) I)) (hown : own = I ++ [1]) (hsh : zsh b = (4, ci, rs)) (hs1 : zsh 1 = (3, 10, (zsh 1).2.2)) (hl1 : (zsh 1).2.2.length = 10) (hch : zchk rs sets (τ b) = true) (hab : ∀ i, i ∉ own → α i = α0 i) (hc : cells ≤ mc ∧ slots ≤ ms)
    (d : decode (zMb M) pc = .ok (.return_, 1)) : W p (zGL G) e (zRm M mc ms) s m args below meth c H locs cells slots (MQ below (zIQ G α0 b own τ A) args s mc ms A) (F0 m pc lsr []) := by
  subst hown
  obtain ⟨hP, hD, hS⟩ := w
  have e0 : zsE G 10 α = [zce G α τ 1] := by
    unfold zsE zce
    rw [zcl_Q hs1]
    have ef : (fun k => if k < 10 then ((zsh 1).2.2.getD k none).map α else none) = (fun k => ((zsh 1).2.2.getD k none).map α) := by
     funext k
     by_cases c : k < 10
     · rw [if_pos c]
     · rw [if_neg c, List.getD_eq_getElem?_getD, List.getElem?_eq_none (by omega)]
       rfl
    rw [ef]
    rfl
  have e1 : zbw G α τ b ci rs sets (zsE G 10) I = zqw G α τ (b :: (I ++ [1])) := by
    unfold zbw zbo
    rw [e0]
    show (α b, Sum.inr (ci, zqf α rs sets)) :: (zqw G α τ I ++ [zce G α τ 1]) = (α b, zcl (zGs G α) τ b) :: zqw G α τ (I ++ [1])
    rw [zcl_O hsh, zqf_fin hch]
    unfold zqw
    rw [List.map_append]
    rfl
  rw [e1] at hP hD
  refine W.widen (k := mc) (n := ms) hc.1 hc.2 ?_
  exact W.vret C.1 C.2.1 (C.2.2.1.trans hr) (fun t ht hW => ⟨⟨α, rfl, hab, by rw [ht]; exact hP, va_K.moved hW.alike C.2.2.2.2.2.2.2.1, hD⟩, hS.F ht⟩) hS.2.2 d (hlocks := C.2.2.2.2.2.2.1)
theorem zup_zfl {a c : Nat} {n v i x : Int} (h : a ≠ c) : zup (zfl σ c n v) a i x = zfl (zup σ a i x) c n v := by
  funext q j
  unfold zup zfl
  by_cases h1 : q = a ∧ j = i
  · rw [if_pos h1, if_neg (fun z => h (h1.1.symm.trans z.1))]
    show x = if q = a ∧ j = i then x else σ q j
    rw [if_pos h1]
  · rw [if_neg h1]
    by_cases h2 : q = c ∧ 0 ≤ j ∧ j < n
    · rw [if_pos h2, if_pos h2]
    · rw [if_neg h2, if_neg h2]
      show σ q j = if q = a ∧ j = i then x else σ q j
      rw [if_neg h1]
end BS
