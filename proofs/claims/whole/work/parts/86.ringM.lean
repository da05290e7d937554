/-! CALLS: exchange, the model's rings to their end -/
section RN
variable {G : zG} {σ : zS} {Q : Int → zS → Prop}
/-- one ring exchanged -/
theorem okM_ring {t : zS} {v1 x : Int} (hp : 0 ≤ σ 98 1 ∧ σ 98 1 ≤ 24) (h : zXi σ t) (ht : ∀ y, zSt σ t y → t 177 y = zF σ (zSt σ t) y) (hx : zSt σ t x) (hper : zper (zF σ (zSt σ t)) x) (hv : v1 = zcn σ (zSt σ t))
    (kq : ∀ u, zXi σ u → zSt σ u = (fun y => zSt σ t y ∧ ¬ zorb (zF σ (zSt σ t)) x y) → (∀ y, zorb (zF σ (zSt σ t)) x y → u 138 y = σ 138 (zF σ (zSt σ t) y)) → (∀ y, ¬ zorb (zF σ (zSt σ t)) x y → u 138 y = t 138 y) → zcn σ (zSt σ u) < zcn σ (zSt σ t) → zR G MX12_exchange 63 [zr 98, zi (zcn σ (zSt σ u)), zi x, zu, zu] [] u Q) : zR G MX12_exchange 148 [zr 98, zi v1, zi x, zi x, zi 1] [] t Q := by
  obtain ⟨p, p1, hpp, hl, hd, ho⟩ := zper_least hper
  generalize hF : zF σ (zSt σ t) = F at *
  have hfS : ∀ y, zSt σ t y → zSt σ t (F y) := fun y hy => by
    rw [← hF]
    exact (zF_in ⟨hy, hy.1⟩).1
  have hcb := zcn_b (σ := σ) (S := zSt σ t) hp
  have loop : ∀ (n : Nat) (k : Nat) (u : zS), p - k = n → k ≤ p → zfr [(138, none), (178, none)] u t → zXi σ u →
      (∀ y, zSt σ u y ↔ zSt σ t y ∧ ∀ j : Nat, j < k → zit F j x ≠ y) → (∀ y, (∃ j : Nat, j < k ∧ zit F j x = y) → u 138 y = σ 138 (F y)) → (∀ y, (∀ j : Nat, j < k → zit F j x ≠ y) → u 138 y = t 138 y) →
      zcn σ (zSt σ u) = v1 - k → zR G MX12_exchange 148 [zr 98, zi (v1 - k), zi x, zi (zit F k x), zi (if k < p then 1 else 0)] [] u Q := by
    intro n
    induction n with
    | zero =>
      intro k u hm hk f hu hS h1 h2 hc
      have e : k = p := by omega
      subst e
      rw [if_neg (Nat.lt_irrefl _)]
      apply TX12_exchange_148 <;> (try (intros; omega))
      intro _
      rw [← hc]
      have e0 : zcn σ (zSt σ u) < zcn σ (zSt σ t) := by omega
      refine kq u hu ?_ (fun y hy => h1 y ((ho y).mp hy)) (fun y hy => h2 y (fun j jk e => hy ((ho y).mpr ⟨j, jk, e⟩))) e0
      funext y
      apply propext
      rw [hS y]
      exact ⟨fun z => ⟨z.1, fun w => by obtain ⟨j, a, b⟩ := (ho y).mp w; exact z.2 j a b⟩, fun z => ⟨z.1, fun j a b => z.2 ((ho y).mpr ⟨j, a, b⟩)⟩⟩
    | succ n ih =>
      intro k u hm hk f hu hS h1 h2 hc
      have kp : k < p := by omega
      have hcu := zcn_b (σ := σ) (S := zSt σ u) hp
      rw [if_pos kp]
      have hz := zit_in hfS k x hx
      have hb := hz.1.1
      have hz' := hfS _ hz
      have hb' := hz'.1.1
      have q7 : u 177 = t 177 := zfr_row f rfl
      have e7 : u 177 (zit F k x) = F (zit F k x) := by rw [q7]; exact ht _ hz
      have e6 : u 176 (F (zit F k x)) = σ 138 (F (zit F k x)) := hu.2.1 _ hb'.1 hb'.2
      have fu : zfr [(138, none), (178, none)] (zup (zup u 138 (zit F k x) (u 176 (u 177 (zit F k x)))) 178 (zit F k x) 0) t := zfr_uA rfl (zfr_uA rfl f)
      have hS' : ∀ y, zSt σ (zup (zup u 138 (zit F k x) (u 176 (u 177 (zit F k x)))) 178 (zit F k x) 0) y ↔ zSt σ u y ∧ zit F k x ≠ y := by
        intro y
        unfold zSt
        by_cases e : y = zit F k x
        · rw [e, zup_same]
          exact ⟨fun z => absurd rfl z.2, fun z => absurd rfl z.2⟩
        · rw [zup_oi e, zup_of (by decide)]
          exact ⟨fun z => ⟨z, fun w => e w.symm⟩, fun z => z.1⟩
      have hin : zSt σ u (zit F k x) := (hS _).mpr ⟨hz, fun j jk => hd j k jk kp⟩
      have hlt : ∀ y, (∀ j : Nat, j < k + 1 → zit F j x ≠ y) ↔ (∀ j : Nat, j < k → zit F j x ≠ y) ∧ zit F k x ≠ y := fun y =>
        ⟨fun z => ⟨fun j jk => z j (by omega), z k (by omega)⟩, fun z j jk => by
          by_cases e : j = k
          · rw [e]; exact z.2
          · exact z.1 j (by omega)⟩
      have go := ih (k + 1) _ (by omega) (by omega) fu
        ⟨zfr_tr h.1 (zfr_mo rfl fu), fun v a b => by rw [zup_of (by decide), zup_of (by decide)]; exact hu.2.1 v a b, fun v a b c => by
          by_cases e : v = zit F k x
          · rw [e, zup_same] at c
            exact absurd rfl c
          · rw [zup_oi e, zup_of (by decide)] at c
            exact hu.2.2 v a b c⟩
        (fun y => by rw [hS' y, hS y, hlt y]; exact ⟨fun z => ⟨z.1.1, z.1.2, z.2⟩, fun z => ⟨⟨z.1, z.2.1⟩, z.2.2⟩⟩)
        (fun y ⟨j, jk, e⟩ => by
          rw [zup_of (by decide)]
          by_cases ey : y = zit F k x
          · rw [ey, zup_same, e7, e6]
          · rw [zup_oi ey]
            exact h1 y ⟨j, by
              by_cases z : j = k
              · rw [z] at e; exact absurd e.symm ey
              · omega, e⟩)
        (fun y hy => by
          have := (hlt y).mp hy
          rw [zup_of (by decide), zup_oi (fun z => this.2 z.symm)]
          exact h2 y this.1)
        (by
          rw [zcn_1 (S := zSt σ u) (w := zit F k x) hb hin (fun z => ((hS' _).mp z).2 rfl) (fun v hv => by rw [hS' v]; exact ⟨fun z => z.1, fun z => ⟨z, fun w => hv w.symm⟩⟩), hc]
          omega)
      rw [zit_s, show v1 - ((k + 1 : Nat) : Int) = v1 - (k : Int) + (-1) from by omega, ← e7] at go
      by_cases last : k + 1 < p
      · rw [if_pos last] at go
        have hne : u 177 (zit F k x) ≠ x := by
          rw [e7, ← zit_s (f := F) k x]
          exact hl (k + 1) (by omega) last
        apply TX12_exchange_148 <;> (try (intros; omega))
        all_goals (intros; exact go)
      · rw [if_neg last] at go
        have heq : u 177 (zit F k x) = x := by
          rw [e7, ← zit_s (f := F) k x, show k + 1 = p from by omega, hpp]
        rw [← e7] at hb'
        apply TX12_exchange_148 <;> (try (intros; omega))
        all_goals (intros; exact go)
  have go := loop _ 0 t rfl (by omega) zfr_0 h (fun y => ⟨fun z => ⟨z, fun j jk => absurd jk (by omega)⟩, fun z => z.1⟩) (fun y ⟨j, jk, _⟩ => absurd jk (by omega)) (fun y _ => rfl) (by rw [hv]; omega)
  rw [if_pos (by omega), show v1 - ((0 : Nat) : Int) = v1 from by omega] at go
  exact go
theorem zcn_0 {S : Int → Prop} (hp : 0 ≤ σ 98 1 ∧ σ 98 1 ≤ 24) (hS : ∀ y, S y → 0 ≤ y ∧ y < σ 98 1) (h : zcn σ S ≤ 0) (y : Int) : ¬ S y := by
  intro hy
  have h1 := zcn_1 (σ := σ) (S := S) (S' := fun v => S v ∧ v ≠ y) (hS y hy) hy (fun z => z.2 rfl) (fun v hv => ⟨fun z => z.1, fun z => ⟨z, hv⟩⟩)
  have h2 := zcn_b (σ := σ) (S := fun v => S v ∧ v ≠ y) hp
  omega
/-- ring by ring, till none is there -/
theorem okM_rings (hp : 0 ≤ σ 98 1 ∧ σ 98 1 ≤ 24) (hr : zrdq σ) (hws : zwsh σ) : ∀ (N : Nat) (t : zS) (v2 : Int) (Q : Int → zS → Prop), (zcn σ (zSt σ t)).toNat = N → zXi σ t →
    (∀ (u : zS) (n : Nat) (m : Int → Int) (v1 : Int), zXi σ u → zTtc (zF σ) m n (zSt σ t) → (∀ y, zSt σ t y → u 138 y = σ 138 (m y)) → (∀ y, ¬ zSt σ t y → u 138 y = t 138 y) → zR G MX12_exchange 209 [zr 98, zi v1, zi 0, zi 0, zu] [] u Q) → zR G MX12_exchange 63 [zr 98, zi (zcn σ (zSt σ t)), zi v2, zu, zu] [] t Q := by
  intro N
  induction N using Nat.strongRecOn with
  | _ N ih =>
    intro t v2 Q hN h kq
    have hSb : ∀ y, zSt σ t y → 0 ≤ y ∧ y < σ 98 1 := fun y hy => hy.1.1
    by_cases c : zcn σ (zSt σ t) ≤ 0
    · have none := zcn_0 hp hSb c
      have go := kq t 0 (fun y => y) (zcn σ (zSt σ t)) h none (fun y hy => absurd hy (none y)) (fun y _ => rfl)
      apply TX12_exchange_63 <;> (try (intros; omega))
      all_goals (intros; exact go)
    · obtain ⟨w, _, hw⟩ := zcn_ex (σ := σ) (S := zSt σ t) (by omega)
      apply TX12_exchange_63 <;> (try (intros; omega))
      intro _
      refine okM_points hp hr hws h (fun t1 f1 h1 => ?_)
      have q8 : t1 178 = t 178 := zfr_row f1 rfl
      have hX1 : zXi σ t1 := ⟨zfr_tr h.1 (zfr_mo rfl f1), by rw [zfr_row (q := 176) f1 rfl]; exact h.2.1, by rw [q8]; exact h.2.2⟩
      have hS1 : zSt σ t1 = zSt σ t := by funext v; unfold zSt; rw [q8]
      rw [← hS1] at hw h1 hSb
      have hfS : ∀ y, zSt σ t1 y → zSt σ t1 (zF σ (zSt σ t1) y) := fun y hy => (zF_in ⟨hy, hy.1⟩).1
      refine okM_first hp hX1 ⟨w, hw⟩ (fun x hx => ?_)
      refine okM_walk (S := zSt σ t1) (f := zF σ (zSt σ t1)) hp (zfr_at hX1.1 rfl) hSb hfS h1 hx (fun z hz hper => ?_)
      refine okM_ring hp hX1 h1 hz hper (by rw [hS1]) (fun u hu hSu ha hb hlt => ?_)
      have hb0 := zcn_b (σ := σ) (S := zSt σ u) hp
      rw [hS1] at hlt
      refine ih (zcn σ (zSt σ u)).toNat (by omega) u z Q rfl hu (fun u' n m v1 hu' hT hm ho => ?_)
      have q138 : t1 138 = t 138 := zfr_row f1 rfl
      rw [hSu] at hT hm ho
      classical
      refine kq u' (n + 1) (fun y => if zorb (zF σ (zSt σ t1)) z y then zF σ (zSt σ t1) y else m y) v1 hu' ?_ ?_ ?_
      · rw [← hS1]
        refine zTtc_step (C := zorb (zF σ (zSt σ t1)) z) (m := m) (zorb_ring hper) (fun y ⟨k, e⟩ => by rw [← e]; exact zit_in hfS k z hz) (fun y hy => if_pos hy) (fun y _ hy => if_neg hy) hT
      · intro y hy
        rw [← hS1] at hy
        by_cases e : zorb (zF σ (zSt σ t1)) z y
        · show u' 138 y = σ 138 (if _ then _ else _)
          rw [if_pos e, ho y (fun z => z.2 e)]
          exact ha y e
        · show u' 138 y = σ 138 (if _ then _ else _)
          rw [if_neg e]
          exact hm y ⟨hy, e⟩
      · intro y hy
        rw [← hS1] at hy
        rw [ho y (fun z => hy z.1), hb y (fun ⟨k, e⟩ => hy (by rw [← e]; exact zit_in hfS k z hz)), q138]
end RN
