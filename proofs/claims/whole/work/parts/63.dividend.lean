/-! CALLS: dividend -/
/-- the sum of the first n -/
def zps (g : Int → Int) : Nat → Int
  | 0 => 0
  | n + 1 => zps g n + g (n : Int)
theorem zps_s {g : Int → Int} {i : Int} (h : 0 ≤ i) : zps g (i + 1).toNat = zps g i.toNat + g i := by
  rw [show (i + 1).toNat = i.toNat + 1 from by omega]
  show zps g i.toNat + g ((i.toNat : Nat) : Int) = _
  rw [show ((i.toNat : Nat) : Int) = i from by omega]
theorem zps_cg {g g' : Int → Int} : ∀ {n : Nat}, (∀ i : Int, 0 ≤ i → i < n → g i = g' i) → zps g n = zps g' n := by
  intro n
  induction n with
  | zero => intro _; rfl
  | succ n ih =>
    intro h
    show zps g n + g n = zps g' n + g' n
    rw [ih (fun i a b => h i a (by omega)), h n (by omega) (by omega)]
/-- one place changes -/
theorem zps_1 {g g' : Int → Int} {w : Int} : ∀ {n : Nat}, (0 ≤ w ∧ w < n) → (∀ i, i ≠ w → g' i = g i) → zps g' n = zps g n + (g' w - g w) := by
  intro n
  induction n with
  | zero => intro h; omega
  | succ n ih =>
    intro h ho
    show zps g' n + g' n = zps g n + g n + (g' w - g w)
    by_cases e : w = n
    · subst e
      have := zps_cg (g := g') (g' := g) (n := n) (fun i a b => ho i (by omega))
      rw [this]
      omega
    · rw [ih (by omega) ho, ho n (fun z => e z.symm)]
      omega
theorem zps_b {g : Int → Int} {B : Int} : ∀ {n : Nat}, (∀ i : Int, 0 ≤ i → i < n → 0 ≤ g i ∧ g i ≤ B) → 0 ≤ zps g n ∧ zps g n ≤ B * n := by
  intro n
  induction n with
  | zero => intro _; exact ⟨by unfold zps; omega, by unfold zps; simp⟩
  | succ n ih =>
    intro h
    have h1 := ih (fun i a b => h i a (by omega))
    have h2 := h n (by omega) (by omega)
    show 0 ≤ zps g n + g n ∧ zps g n + g n ≤ B * ((n + 1 : Nat) : Int)
    have : B * ((n + 1 : Nat) : Int) = B * n + B := by rw [show ((n + 1 : Nat) : Int) = (n : Int) + 1 from by omega, Int.mul_add, Int.mul_one]
    omega
theorem zps_m {g : Int → Int} : ∀ {n : Nat} {k : Nat}, k ≤ n → (∀ i : Int, 0 ≤ i → i < n → 0 ≤ g i) → zps g k ≤ zps g n := by
  intro n
  induction n with
  | zero => intro k hk _; rw [show k = 0 from by omega]; exact Int.le_refl _
  | succ n ih =>
    intro k hk h
    by_cases e : k = n + 1
    · rw [e]; exact Int.le_refl _
    · have := ih (k := k) (by omega) (fun i a b => h i a (by omega))
      have h2 := h n (by omega) (by omega)
      show _ ≤ zps g n + g n
      omega
/-- by holders, and by places -/
noncomputable def zhw (σ : zS) (i : Int) (f : Int → Int) (w : Int) : Int := by classical exact if ∃ p, (0 ≤ p ∧ p < i) ∧ zfel σ p ∧ σ 130 p = w then f w else 0
noncomputable def zhp (σ : zS) (f : Int → Int) (p : Int) : Int := by classical exact if zfel σ p then f (σ 130 p) else 0
theorem zhp_y {σ : zS} {f : Int → Int} {p : Int} (h : zfel σ p) : zhp σ f p = f (σ 130 p) := by unfold zhp; rw [if_pos h]
theorem zhp_n {σ : zS} {f : Int → Int} {p : Int} (h : ¬ zfel σ p) : zhp σ f p = 0 := by unfold zhp; rw [if_neg h]
theorem zhw_y {σ : zS} {i : Int} {f : Int → Int} {w : Int} (h : ∃ p, (0 ≤ p ∧ p < i) ∧ zfel σ p ∧ σ 130 p = w) : zhw σ i f w = f w := by unfold zhw; rw [if_pos h]
theorem zhw_n {σ : zS} {i : Int} {f : Int → Int} {w : Int} (h : ¬ ∃ p, (0 ≤ p ∧ p < i) ∧ zfel σ p ∧ σ 130 p = w) : zhw σ i f w = 0 := by unfold zhw; rw [if_neg h]
theorem zre_ix {σ : zS} {f : Int → Int} (hM : zpla σ) : ∀ n : Nat, (n : Int) ≤ σ 98 4 → zps (zhw σ n f) 24 = zps (zhp σ f) n := by
  intro n
  induction n with
  | zero =>
    intro _
    have : ∀ k : Nat, zps (zhw σ ((0 : Nat) : Int) f) k = 0 := by
      intro k
      induction k with
      | zero => rfl
      | succ k ih =>
        show zps _ k + zhw σ ((0 : Nat) : Int) f k = 0
        rw [ih, zhw_n (fun ⟨p, a, _⟩ => by omega)]
        rfl
    exact this 24
  | succ n ih =>
    intro hn
    have h1 := ih (by omega)
    show _ = zps (zhp σ f) n + zhp σ f n
    rw [← h1]
    by_cases c : zfel σ (n : Int)
    · have hh := (hM.2.1 n (by omega) (by omega)).2
      have hw : 0 ≤ σ 130 (n : Int) ∧ σ 130 (n : Int) < (24 : Nat) := by
        have := c.2
        omega
      have hnew : ¬ ∃ p, (0 ≤ p ∧ p < (n : Int)) ∧ zfel σ p ∧ σ 130 p = σ 130 (n : Int) := by
        rintro ⟨p, a, b, e⟩
        exact hM.2.2 p n a.1 a.2 (by omega) (by rw [b.1, c.1]) b.2 e
      rw [zps_1 (g := zhw σ n f) (g' := zhw σ ((n + 1 : Nat) : Int) f) hw (fun w hne => ?_), zhw_n hnew, zhw_y ⟨n, by omega, c, rfl⟩, zhp_y c]
      · omega
      · by_cases d : ∃ p, (0 ≤ p ∧ p < (n : Int)) ∧ zfel σ p ∧ σ 130 p = w
        · obtain ⟨p, a, b, e⟩ := d
          rw [zhw_y ⟨p, a, b, e⟩, zhw_y ⟨p, by omega, b, e⟩]
        · rw [zhw_n d, zhw_n]
          rintro ⟨p, a, b, e⟩
          by_cases x : p = n
          · rw [x] at e
            exact hne e.symm
          · exact d ⟨p, by omega, b, e⟩
    · rw [zhp_n c, Int.add_zero]
      refine zps_cg (fun w _ _ => ?_)
      by_cases d : ∃ p, (0 ≤ p ∧ p < (n : Int)) ∧ zfel σ p ∧ σ 130 p = w
      · obtain ⟨p, a, b, e⟩ := d
        rw [zhw_y ⟨p, a, b, e⟩, zhw_y ⟨p, by omega, b, e⟩]
      · rw [zhw_n d, zhw_n]
        rintro ⟨p, a, b, e⟩
        by_cases x : p = n
        · rw [x] at b
          exact c b
        · exact d ⟨p, by omega, b, e⟩
theorem zldiv_n {x d : Int} (h0 : 0 ≤ x) (h1 : x < 4000000000000000000) (d0 : 0 < d) (d1 : d < 2147483648) : zldiv x d = x / d := by
  unfold zldiv
  rw [Int64.toInt_div, zL_toInt (by unfold zLn; omega), zL_toInt (by unfold zLn; omega), Int.tdiv_eq_ediv_of_nonneg h0]
  have h2 : 0 ≤ x / d := Int.ediv_nonneg h0 (by omega)
  have h3 : x / d ≤ x := Int.ediv_le_self d h0
  simp only [Int.bmod]
  split <;> omega
/-- a share of a pot -/
def zshr1 (pot all k : Int) : Int := pot * k / all
theorem zshr1_b {pot all k : Int} (hp : 0 ≤ pot) (hk : 0 ≤ k ∧ k ≤ all) (ha : 0 < all) : 0 ≤ zshr1 pot all k ∧ zshr1 pot all k ≤ pot ∧ zshr1 pot all k * all ≤ pot * k := by
  unfold zshr1
  have h1 : 0 ≤ pot * k := Int.mul_nonneg hp hk.1
  refine ⟨Int.ediv_nonneg h1 (by omega), ?_, Int.ediv_mul_le _ (by omega)⟩
  have h2 : pot * k ≤ pot * all := Int.mul_le_mul_of_nonneg_left hk.2 hp
  have h3 := Int.ediv_le_ediv ha h2
  rwa [Int.mul_ediv_cancel _ (by omega)] at h3
theorem zshr1_0 {pot all : Int} : zshr1 pot all 0 = 0 := by unfold zshr1; simp
/-- shares in all are no more than the pot -/
theorem zshr_sum {pot all : Int} {k : Int → Int} (hp : 0 ≤ pot) (ha : 0 < all) : ∀ {n : Nat}, (∀ i : Int, 0 ≤ i → i < n → 0 ≤ k i ∧ k i ≤ all) → zps k n ≤ all → 0 ≤ zps (fun i => zshr1 pot all (k i)) n ∧ zps (fun i => zshr1 pot all (k i)) n ≤ pot := by
  intro n hk hs
  have key : ∀ m : Nat, m ≤ n → 0 ≤ zps (fun i => zshr1 pot all (k i)) m ∧ zps (fun i => zshr1 pot all (k i)) m * all ≤ pot * zps k m := by
    intro m
    induction m with
    | zero => intro _; exact ⟨by unfold zps; omega, by unfold zps; simp⟩
    | succ m ih =>
      intro hm
      have h1 := ih (by omega)
      have h2 := hk m (by omega) (by omega)
      have h3 := zshr1_b hp h2 ha
      show 0 ≤ zps _ m + zshr1 pot all (k m) ∧ (zps _ m + zshr1 pot all (k m)) * all ≤ pot * (zps k m + k m)
      rw [Int.add_mul, Int.mul_add]
      omega
  have h1 := key n (Nat.le_refl _)
  refine ⟨h1.1, ?_⟩
  have h2 : pot * zps k n ≤ pot * all := Int.mul_le_mul_of_nonneg_left hs hp
  exact Int.le_of_mul_le_mul_right (by omega : zps (fun i => zshr1 pot all (k i)) n * all ≤ pot * all) ha
noncomputable def zif2 (p : Prop) (a b : Int) : Int := by classical exact if p then a else b
theorem zif2_y {p : Prop} {a b : Int} (h : p) : zif2 p a b = a := by unfold zif2; rw [if_pos h]
theorem zif2_n {p : Prop} {a b : Int} (h : ¬ p) : zif2 p a b = b := by unfold zif2; rw [if_neg h]
section DV
variable {G : zG} {σ : zS}
set_option maxHeartbeats 2000000 in
/-- the class's parting -/
theorem okC_part {pot b y all : Int} {kp : Int → Int} {Q : Int → zS → Prop} (hi : zinv σ) (hpot : 0 ≤ pot ∧ pot ≤ σ 98 8) (hb : ∀ w, 0 ≤ w → w < 32 → (zbit b w ↔ zhol σ 1 w)) (hy : y = σ 98 0 / 365) (hn : σ 98 7 < 400)
    (hkp : ∀ w, 0 ≤ w → w < 24 → kp w = if σ 98 12 = y then σ 153 w else 0) (hall : all = zps (zhw σ (σ 98 4) kp) 24)
    (kq : ∀ s : zS, zfr [(79, some 3), (79, some 4), (79, some 6), (79, some 7), (80, none), (81, none), (82, none)] s σ → s 79 7 = y → (∀ w, 0 ≤ w → w < 24 → s 81 w = kp w) → s 79 6 = y →
      (∀ w, 0 ≤ w → w < 24 → s 82 w = zif2 (0 < all ∧ zhol σ 1 w) (zW (σ 82 w + zshr1 pot all (kp w))) (σ 82 w)) →
      s 79 3 = σ 98 8 + -(if 0 < all then zps (fun w => zshr1 pot all (zhw σ (σ 98 4) kp w)) 24 else 0) → s 79 4 = σ 98 7 + 1 →
      (∀ j, s 80 j = if j = 110 * 2 + y then σ 80 j + -(if 0 < all then zps (fun w => zshr1 pot all (zhw σ (σ 98 4) kp w)) 24 else 0) else σ 80 j) →
      Q (if 0 < all then zps (fun w => zshr1 pot all (zhw σ (σ 98 4) kp w)) 24 else 0) s) : zO G MX0_part [zr 79, zi pot, zi b, zi y] σ Q := by
  have hk := g_zkpt hi
  have hc := g_zche hi
  have c3 := hc.2.2.1
  have c4 := hc.2.2.2
  have hyb := zyear hi
  have hholw : ∀ w, zhol σ 1 w ∧ w ≠ -1 → ∃ p, (0 ≤ p ∧ p < σ 98 4) ∧ zfel σ p ∧ σ 130 p = w := by
    rintro w ⟨⟨p, a, c, d⟩, e⟩
    exact ⟨p, a, ⟨c, by rw [d]; exact e⟩, d⟩
  have kpb : ∀ w, 0 ≤ w → w < 24 → 0 ≤ kp w ∧ kp w ≤ 365 := by
    intro w w0 w1
    have := hk.2 w w0 w1
    rw [hkp w w0 w1]
    split <;> omega
  have zw : ∀ w, 0 ≤ w → w < 24 → (zbit b w → zhw σ (σ 98 4) kp w = kp w) ∧ (¬ zbit b w → zhw σ (σ 98 4) kp w = 0) := by
    intro w w0 w1
    have h1 := hb w w0 (by omega)
    refine ⟨fun z => zhw_y (hholw w ⟨h1.mp z, by omega⟩), fun z => zhw_n ?_⟩
    rintro ⟨p, a, c, d⟩
    exact z (h1.mpr ⟨p, a, c.1, d⟩)
  have gb : ∀ w : Int, 0 ≤ w → w < (24 : Nat) → 0 ≤ zhw σ (σ 98 4) kp w ∧ zhw σ (σ 98 4) kp w ≤ 365 := by
    intro w w0 w1
    have h1 := zw w w0 (by omega)
    have h2 := kpb w w0 (by omega)
    by_cases c : zbit b w
    · rw [h1.1 c]; exact h2
    · rw [h1.2 c]; omega
  have hab := zps_b gb
  rw [← hall] at hab
  refine TX0_part (okX0_beginYear (fun s1 f1 y1 k1 => TX0_part_5 ?_))
  have e81 : ∀ w, 0 ≤ w → w < 24 → s1 81 w = kp w := by
    intro w w0 w1
    rw [k1 w w0 w1, hkp w w0 w1, hk.1]
    split
    · exact (hk.2 w w0 w1).1
    · rfl
  -- the days of all
  have days : ∀ (n : Nat) (i v : Int), (24 - i).toNat = n → 0 ≤ i → i ≤ 24 → v = zps (zhw σ (σ 98 4) kp) i.toNat → zR G MX0_part 49 [zr 79, zi pot, zi b, zi y, zi all, zi 0, zi 0, zu] [] s1 Q → zR G MX0_part 11 [zr 79, zi pot, zi b, zi y, zi v, zi i, zu, zu] [] s1 Q := by
    intro n
    induction n with
    | zero =>
      intro i v hn' i0 i1 hv kk
      have : i = 24 := by omega
      subst this
      apply TX0_part_11 <;> (try (intros; omega))
      intro _
      rw [show v = all from by rw [hv, hall]; rfl]
      exact kk
    | succ n ih =>
      intro i v hn' i0 i1 hv kk
      have hbit := zb_and1 (x := b) (i := i) i0 (by omega)
      have hz := zw i i0 (by omega)
      have hkb := kpb i i0 (by omega)
      have ek := e81 i i0 (by omega)
      have hvb := zps_b (g := zhw σ (σ 98 4) kp) (n := i.toNat) (B := 365) (fun j a c => gb j a (by omega))
      have hs := zps_s (g := zhw σ (σ 98 4) kp) i0
      by_cases c : zbit b i
      · have e1 := hbit.1 c
        rw [hz.1 c] at hs
        apply TX0_part_11 <;> (try rw [e1]) <;> (try rw [ek]) <;> (try (intros; omega))
        intro _
        exact ih (i + 1) _ (by omega) (by omega) (by omega) (by rw [hs, hv]; omega) kk
      · have e1 := hbit.2 c
        rw [hz.2 c] at hs
        apply TX0_part_11 <;> (try rw [e1]) <;> (try rw [ek]) <;> (try (intros; omega))
        intro _
        exact ih (i + 1) _ (by omega) (by omega) (by omega) (by rw [hs, hv]; omega) kk
  refine days _ 0 0 rfl (by omega) (by omega) rfl ?_
  -- the end, out of any state of the second pass
  have fin : ∀ (s : zS) (i g : Int), (24 ≤ i ∨ (i < 24 ∧ all ≤ 0)) → (0 ≤ g ∧ g ≤ pot) → g = (if 0 < all then zps (fun w => zshr1 pot all (zhw σ (σ 98 4) kp w)) 24 else 0) → zfr [(82, none)] s s1 →
      (∀ w, 0 ≤ w → w < 24 → s 82 w = zif2 (0 < all ∧ zhol σ 1 w) (zW (σ 82 w + zshr1 pot all (kp w))) (σ 82 w)) → zR G MX0_part 49 [zr 79, zi pot, zi b, zi y, zi all, zi g, zi i, zu] [] s Q := by
    intro s i g hend hg hge hf hgot
    have f2 : zfr [(79, some 7), (81, none), (82, none)] s σ := zfr_tr (zfr_mo rfl f1) (zfr_mo rfl hf)
    have a3 : s 79 3 = σ 98 8 := by rw [zfr_at f2 rfl]; exact hc.1
    have a4 : s 79 4 = σ 98 7 := by rw [zfr_at f2 rfl]; exact hc.2.1
    have a80 : s 80 = σ 80 := zfr_row f2 rfl
    have hsb := zsums_b hi (h := 2) (y := σ 98 0 / 365) (by omega) hyb.2
    rw [← hy] at hsb hyb
    have side1 : (24 ≤ i ∨ (i < 24 ∧ all ≤ 0)) := hend
    have q : Q g (zup (zup (zup (zup s 79 3 (σ 98 8 + -g)) 79 4 (σ 98 7 + 1)) 80 (110 * 2 + y) (σ 80 (110 * 2 + y) + -g)) 79 6 y) := by
      rw [hge]
      rw [hge] at hg
      refine kq _ (zfr_uF rfl (zfr_uA rfl (zfr_uF rfl (zfr_uF rfl (zfr_mo rfl f2))))) ?_ (fun w w0 w1 => ?_) zup_same (fun w w0 w1 => ?_) ?_ ?_ (fun j => ?_)
      · (try simp (disch := decide) only [zup_of, zup_oi, zup_same])
        rw [zfr_at hf rfl]; exact y1
      · (try simp (disch := decide) only [zup_of, zup_oi, zup_same])
        rw [zfr_row hf rfl]; exact e81 w w0 w1
      · (try simp (disch := decide) only [zup_of, zup_oi, zup_same])
        exact hgot w w0 w1
      · (try simp (disch := decide) only [zup_of, zup_oi, zup_same])
      · (try simp (disch := decide) only [zup_of, zup_oi, zup_same])
      · ((try simp (disch := decide) only [zup_of, zup_oi, zup_same]) <;> (try simp only [zup_at]) <;> (try simp (disch := decide) only [zup_of, zup_oi, zup_same]) <;> (try simp only [zup_at]) <;> (try simp (disch := decide) only [zup_of, zup_oi, zup_same]) <;> (try simp only [zup_at]) <;> (try simp (disch := decide) only [zup_of, zup_oi, zup_same]))
        by_cases e : j = 110 * 2 + y
        · rw [if_pos e, if_pos e, e]
        · rw [if_neg e, if_neg e, a80]
    apply TX0_part_49 <;> (try rw [a3]) <;> (try rw [a4]) <;> (try rw [a80]) <;> (try (intros; omega))
  by_cases ha : 0 < all
  · -- shares
    have kall : ∀ w : Int, 0 ≤ w → w < (24 : Nat) → 0 ≤ zhw σ (σ 98 4) kp w ∧ zhw σ (σ 98 4) kp w ≤ all := by
      intro w w0 w1
      refine ⟨(gb w w0 w1).1, ?_⟩
      have h1 := zps_m (g := zhw σ (σ 98 4) kp) (n := 24) (k := w.toNat + 1) (by omega) (fun j a c => (gb j a c).1)
      have h2 := zps_b (g := zhw σ (σ 98 4) kp) (n := w.toNat) (B := 365) (fun j a c => gb j a (by omega))
      have h3 : zps (zhw σ (σ 98 4) kp) (w.toNat + 1) = zps (zhw σ (σ 98 4) kp) w.toNat + zhw σ (σ 98 4) kp ((w.toNat : Nat) : Int) := rfl
      rw [show ((w.toNat : Nat) : Int) = w from by omega] at h3
      omega
    have gsum : ∀ n : Nat, n ≤ 24 → 0 ≤ zps (fun w => zshr1 pot all (zhw σ (σ 98 4) kp w)) n ∧ zps (fun w => zshr1 pot all (zhw σ (σ 98 4) kp w)) n ≤ pot := by
      intro n hn'
      refine zshr_sum hpot.1 ha (fun j a c => kall j a (by omega)) ?_
      have := zps_m (g := zhw σ (σ 98 4) kp) (n := 24) (k := n) hn' (fun j a c => (gb j a c).1)
      omega
    have loop : ∀ (n : Nat) (i g : Int) (s : zS), (24 - i).toNat = n → 0 ≤ i → i ≤ 24 → g = zps (fun w => zshr1 pot all (zhw σ (σ 98 4) kp w)) i.toNat → zfr [(82, none)] s s1 →
        (∀ w, 0 ≤ w → w < 24 → s 82 w = zif2 (w < i ∧ zhol σ 1 w) (zW (σ 82 w + zshr1 pot all (kp w))) (σ 82 w)) → zR G MX0_part 49 [zr 79, zi pot, zi b, zi y, zi all, zi g, zi i, zu] [] s Q := by
      intro n
      induction n with
      | zero =>
        intro i g s hn' i0 i1 hg hf hgot
        have : i = 24 := by omega
        subst this
        have hgs := gsum 24 (by omega)
        refine fin s 24 g (Or.inl (by omega)) (by rw [hg]; exact hgs) (by rw [hg, if_pos ha]; rfl) hf (fun w w0 w1 => ?_)
        rw [hgot w w0 w1]
        by_cases c : zhol σ 1 w
        · rw [zif2_y ⟨w1, c⟩, zif2_y ⟨ha, c⟩]
        · rw [zif2_n (fun z => c z.2), zif2_n (fun z => c z.2)]
      | succ n ih =>
        intro i g s hn' i0 i1 hg hf hgot
        have hbit := zb_and1 (x := b) (i := i) i0 (by omega)
        have hz := zw i i0 (by omega)
        have hkb := kpb i i0 (by omega)
        have hbh := hb i i0 (by omega)
        have ek : s 81 i = kp i := by rw [zfr_row hf rfl]; exact e81 i i0 (by omega)
        have hka := kall i i0 (by omega)
        have hsh := zshr1_b hpot.1 hka ha
        have hgs := gsum i.toNat (by omega)
        have hgs2 := gsum (i.toNat + 1) (by omega)
        have hs := zps_s (g := fun w => zshr1 pot all (zhw σ (σ 98 4) kp w)) i0
        rw [← hg] at hgs
        have hold : s 82 i = σ 82 i := by rw [hgot i i0 (by omega), zif2_n (fun z => by have := z.1; omega)]
        have hrest : ∀ v, (∀ w, 0 ≤ w → w < 24 → (zup s 82 i v) 82 w = zif2 (w < i + 1 ∧ zhol σ 1 w) (zW (σ 82 w + zshr1 pot all (kp w))) (σ 82 w)) ↔ (v = zif2 (zhol σ 1 i) (zW (σ 82 i + zshr1 pot all (kp i))) (σ 82 i)) := by
          intro v
          constructor
          · intro h
            have := h i i0 (by omega)
            rw [zup_same] at this
            rw [this]
            by_cases c : zhol σ 1 i
            · rw [zif2_y ⟨by omega, c⟩, zif2_y c]
            · rw [zif2_n (fun z => c z.2), zif2_n c]
          · intro h w w0 w1
            rw [zup_at]
            by_cases e : w = i
            · rw [if_pos e, h, e]
              by_cases c : zhol σ 1 i
              · rw [zif2_y c, zif2_y (p := i < i + 1 ∧ zhol σ 1 i) ⟨by omega, c⟩]
              · rw [zif2_n c, zif2_n (p := i < i + 1 ∧ zhol σ 1 i) (fun z => c z.2)]
            · rw [if_neg e, hgot w w0 w1]
              by_cases c : w < i ∧ zhol σ 1 w
              · rw [zif2_y c, zif2_y ⟨by omega, c.2⟩]
              · rw [zif2_n c, zif2_n (fun z => c ⟨by omega, z.2⟩)]
        by_cases c : zbit b i
        · have e1 := hbit.1 c
          rw [hz.1 c] at hs hka hsh
          have hm := zmul_b (a := pot) (b := kp i) hpot.1 hpot.2 hka.1 hkb.2
          have hm2 : pot * kp i ≤ 400000000 * 365 := (zmul_b (A := 400000000) (B := 365) hpot.1 (by omega) hka.1 hkb.2).2
          have e2 : zW (zldiv (pot * (1 * kp i)) all) = zshr1 pot all (kp i) := by
            rw [Int.one_mul, zldiv_n (by omega) (by omega) ha (by omega)]
            exact zW_eq (by unfold zshr1 at hsh; omega) (by unfold zshr1 at hsh; omega)
          rw [show (i + 1).toNat = i.toNat + 1 from by omega] at hs
          rw [hs] at hgs2
          apply TX0_part_49 <;> (try rw [e1]) <;> (try rw [ek]) <;> (try rw [e2]) <;> (try rw [hold]) <;> (try (intros; omega))
          · intro _ _
            rw [Int.one_mul]
            omega
          · intro _ _
            refine ih (i + 1) _ _ (by omega) (by omega) (by omega) ?_ (zfr_uA rfl hf) ((hrest _).mpr ?_)
            · rw [show (i + 1).toNat = i.toNat + 1 from by omega, hs, hg]
            · rw [zif2_y (hbh.mp c)]
        · have e1 := hbit.2 c
          rw [hz.2 c, zshr1_0] at hs
          have e2 : zW (zldiv (pot * (0 * kp i)) all) = 0 := by
            rw [Int.zero_mul, Int.mul_zero, zldiv_n (by omega) (by omega) ha (by omega)]
            simp [zW]
          have hgin : zW (σ 82 i + 0) = σ 82 i → True := fun _ => trivial
          refine zR_wf (fun hwf => ?_)
          have hin : zIn (σ 82 i) := by rw [← hold]; exact hwf 82 i
          have e3 : zW (σ 82 i + 0) = σ 82 i := by rw [Int.add_zero]; exact zW_id hin
          apply TX0_part_49 <;> (try rw [e1]) <;> (try rw [ek]) <;> (try rw [e2]) <;> (try rw [hold]) <;> (try (intros; omega))
          · intro _ _
            refine ih (i + 1) _ _ (by omega) (by omega) (by omega) ?_ (zfr_uA rfl hf) ((hrest _).mpr ?_)
            · rw [hs, hg]
            · rw [zif2_n (fun z => c (hbh.mpr z)), e3]
    refine loop _ 0 0 s1 rfl (by omega) (by omega) rfl zfr_0 (fun w w0 w1 => ?_)
    rw [zif2_n (fun z => by have := z.1; omega), zfr_row f1 rfl]
  · refine fin s1 0 0 (Or.inr (by omega)) (by omega) (by rw [if_neg ha]) zfr_0 (fun w w0 w1 => ?_)
    rw [zif2_n (fun z => ha z.1), zfr_row f1 rfl]
end DV
