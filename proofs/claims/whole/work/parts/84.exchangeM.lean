/-! CALLS: exchange, rings in the model -/
/-- the least period -/
theorem zper_least {f : Int → Int} {x : Int} (h : zper f x) : ∃ p : Nat, 1 ≤ p ∧ zit f p x = x ∧ (∀ q : Nat, 1 ≤ q → q < p → zit f q x ≠ x) ∧ (∀ i j : Nat, i < j → j < p → zit f i x ≠ zit f j x) ∧ ∀ y, zorb f x y ↔ ∃ i : Nat, i < p ∧ zit f i x = y := by
  obtain ⟨p0, hp1, hp2⟩ := h
  have key : ∀ n : Nat, ∀ p : Nat, p = n → 1 ≤ p → zit f p x = x → ∃ p : Nat, 1 ≤ p ∧ zit f p x = x ∧ ∀ q : Nat, 1 ≤ q → q < p → zit f q x ≠ x := by
    intro n
    induction n using Nat.strongRecOn with
    | _ n ih =>
      intro p hp a b
      by_cases c : ∃ q : Nat, (1 ≤ q ∧ q < p) ∧ zit f q x = x
      · obtain ⟨q, q0, q1⟩ := c
        exact ih q (by omega) q rfl q0.1 q1
      · exact ⟨p, a, b, fun q q0 q1 z => c ⟨q, ⟨q0, q1⟩, z⟩⟩
  obtain ⟨p, a, b, c⟩ := key p0 p0 rfl hp1 hp2
  refine ⟨p, a, b, c, fun i j ij jp e => ?_, fun y => ⟨?_, fun ⟨i, _, e⟩ => ⟨i, e⟩⟩⟩
  · have : zit f (i + (p - j)) x = x := by rw [zit_add, e, ← zit_add, show j + (p - j) = p from by omega, b]
    exact c _ (by omega) (by omega) this
  · rintro ⟨k, rfl⟩
    refine ⟨k % p, Nat.mod_lt _ a, ?_⟩
    have e : k = p * (k / p) + k % p := (Nat.div_add_mod k p).symm
    have h2 : zit f k x = zit f (k % p) x := by
      rw [show zit f k x = zit f (p * (k / p) + k % p) x from by rw [← e], zit_add, zper_mul b]
    exact h2.symm
section XM
variable {G : zG} {σ : zS} {Q : Int → zS → Prop}
/-- those who are there, in the state t -/
def zSt (σ t : zS) (v : Int) : Prop := zS0 σ v ∧ t 178 v ≠ 0
/-- how many of S -/
noncomputable def zcn (σ : zS) (S : Int → Prop) : Int := zps (fun v => zif2 (S v) 1 0) (σ 98 1).toNat
theorem zcn_b {S : Int → Prop} (hp : 0 ≤ σ 98 1 ∧ σ 98 1 ≤ 24) : 0 ≤ zcn σ S ∧ zcn σ S ≤ 24 := by
  have := zps_b (g := fun v => zif2 (S v) 1 0) (B := 1) (n := (σ 98 1).toNat) (fun _ _ _ => zif2_b)
  unfold zcn
  omega
theorem zcn_1 {S S' : Int → Prop} {w : Int} (hw : 0 ≤ w ∧ w < σ 98 1) (h1 : S w) (h2 : ¬ S' w) (ho : ∀ v, v ≠ w → (S' v ↔ S v)) : zcn σ S' = zcn σ S - 1 := by
  unfold zcn
  rw [zps_1 (g := fun v => zif2 (S v) 1 0) (g' := fun v => zif2 (S' v) 1 0) (w := w) (by omega) (fun v hv => ?_)]
  · show _ + (zif2 (S' w) 1 0 - zif2 (S w) 1 0) = _
    rw [zif2_y h1, zif2_n h2]
    omega
  · show zif2 (S' v) 1 0 = zif2 (S v) 1 0
    by_cases c : S v
    · rw [zif2_y c, zif2_y ((ho v hv).mpr c)]
    · rw [zif2_n c, zif2_n (fun z => c ((ho v hv).mp z))]
theorem zcn_ex {S : Int → Prop} (h : 0 < zcn σ S) : ∃ w, (0 ≤ w ∧ w < σ 98 1) ∧ S w := by
  by_cases c : ∃ w, (0 ≤ w ∧ w < σ 98 1) ∧ S w
  · exact c
  · have : zcn σ S = zps (fun _ => 0) (σ 98 1).toNat := zps_cg (fun i a b => zif2_n (fun z => c ⟨i, by omega, z⟩))
    have h2 : ∀ k : Nat, zps (fun _ => (0 : Int)) k = 0 := by
      intro k
      induction k with
      | zero => rfl
      | succ k ih => show zps _ k + 0 = 0; rw [ih]; rfl
    rw [h2] at this
    omega
end XM
