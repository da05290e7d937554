/-! THE INVARIANT: what class and model have alike between calls -/
def zcnow (σ : zS) : Prop := σ 0 13 = σ 98 0 ∧ 0 ≤ σ 98 0 ∧ σ 98 0 ≤ 40000
/-- links were told no later than now -/
def zlkw (σ : zS) : Prop := ∀ l, 0 ≤ l → l < 48 → σ 102 l ≠ -1 → σ 103 l ≤ σ 98 0
/-- the shelves -/
def zsh1 (σ : zS) (s : Int) : Prop :=
  (σ 111 s = 0 ∧ σ (2 + 2 * s.toNat) 1 = -1 ∧ σ (2 + 2 * s.toNat) 3 = -1) ∨
  (σ 111 s = 1 ∧ σ (2 + 2 * s.toNat) 1 = σ 112 s ∧ (0 ≤ σ 112 s ∧ σ 112 s ≤ 3) ∧ σ (2 + 2 * s.toNat) 3 = -1 ∧ σ (2 + 2 * s.toNat) 2 = σ 113 s ∧ (0 ≤ σ 113 s ∧ σ 113 s ≤ 80) ∧ ∀ i, 0 ≤ i → i < 80 → σ (3 + 2 * s.toNat) i = σ 115 (80 * s + i)) ∨
  (σ 111 s = 2 ∧ σ (2 + 2 * s.toNat) 1 = -1 ∧ σ (2 + 2 * s.toNat) 3 = σ 114 s ∧ 0 ≤ σ 114 s ∧ σ 114 s < σ 98 1)
def zshv (σ : zS) : Prop := ∀ s, 0 ≤ s → s < 10 → zsh1 σ s
/-- the statutes -/
def zwto (σ : zS) : Prop := ∀ w, 0 ≤ w → w < 4 → (σ 161 w = 0 ∧ σ 37 w = 0) ∨ (σ 161 w = 1 ∧ σ 37 w ≠ 0)
def ztur (σ : zS) : Prop := ∃ l, zturM σ l ∧ zturC σ l
/-- the places -/
def zplc (σ : zS) : Prop := (σ 52 8 = σ 98 11 ∧ 0 ≤ σ 98 11 ∧ σ 98 11 ≤ 4000) ∧ ∀ p, 0 ≤ p → p < σ 98 4 → (σ 130 p = -1 ∨ (0 ≤ σ 130 p ∧ σ 130 p < σ 98 1)) ∧ (-1 ≤ σ 131 p ∧ σ 131 p ≤ σ 98 0) ∧ (-1 ≤ σ 132 p ∧ σ 132 p ≤ σ 98 0)
def zpas (σ : zS) : Prop := ∀ p, 0 ≤ p → p < 12 → σ 57 p = σ 133 p
/-- the first of some in a row; -1: none -/
def zfi (f : Int → Int) (n : Int) (S : Int → Prop) (r : Int) : Prop := (r = -1 ∧ ∀ i, 0 ≤ i → i < n → ¬ S (f i)) ∨ ∃ i, (0 ≤ i ∧ i < n) ∧ S (f i) ∧ r = f i ∧ ∀ j, 0 ≤ j → j < i → ¬ S (f j)
/-- two rows mean the same choice, whatever is to be had -/
def zsel (lim : Int) (f : Int → Int) (n : Int) (g : Int → Int) (m : Int) : Prop := ∀ S : Int → Prop, (∀ x, S x → 0 ≤ x ∧ x < lim) → ∀ r, zfi f n S r ↔ zfi g m S r
def zin2 (lim : Int) (f : Int → Int) (n : Int) : Prop := ∀ i, 0 ≤ i → i < n → 0 ≤ f i ∧ f i < lim
def zblt (σ : zS) : Prop := ∀ w, 0 ≤ w → w < 24 → (σ 61 w = -1 ∧ σ 135 w = -1) ∨
  ((0 ≤ σ 61 w ∧ σ 61 w ≤ 24) ∧ (0 ≤ σ 135 w ∧ σ 135 w ≤ 80) ∧ zin2 24 (fun i => σ 60 (24 * w + i)) (σ 61 w) ∧ zsel 24 (fun i => σ 60 (24 * w + i)) (σ 61 w) (fun i => σ 134 (80 * w + i)) (σ 135 w))
def zwsh (σ : zS) : Prop := ∀ w, 0 ≤ w → w < 24 → (-1 ≤ σ 93 w ∧ σ 93 w ≤ 9) ∧ (0 ≤ σ 137 w ∧ σ 137 w ≤ 80) ∧
  zin2 9 (fun i => σ 92 (9 * w + i)) (σ 93 w) ∧ zsel 9 (fun i => σ 92 (9 * w + i)) (σ 93 w) (fun i => σ 136 (80 * w + i)) (σ 137 w)
/-- the latest election -/
def zcs1 (σ : zS) (w e : Int) : Prop := (0 ≤ w ∧ w < 24) ∧ (-1 ≤ σ 64 w ∧ σ 64 w ≤ 24) ∧ (0 ≤ σ 169 e ∧ σ 169 e ≤ 80) ∧ zin2 24 (fun i => σ 63 (24 * w + i)) (σ 64 w) ∧ zsel 24 (fun i => σ 63 (24 * w + i)) (σ 64 w) (fun i => σ 168 (80 * e + i)) (σ 169 e)
def zcst (σ : zS) : Prop := ((0 ≤ σ 98 91 ∧ σ 98 91 ≤ 12) ∧ ∃ ow : Int → Int, (∀ e, 0 ≤ e → e < σ 98 91 → zcs1 σ (ow e) e ∧ zbit (σ 65 8) (ow e)) ∧ (∀ e e', 0 ≤ e → e < e' → e' < σ 98 91 → ow e ≠ ow e') ∧ ∀ w, 0 ≤ w → w < 24 → zbit (σ 65 8) w → ∃ e, (0 ≤ e ∧ e < σ 98 91) ∧ ow e = w) ∧
  ((σ 65 9 = -1 ∧ σ 169 12 = 0) ∨ (σ 65 9 ≠ -1 ∧ zcs1 σ (σ 65 9) 12))
def zvts (σ : zS) : Prop := ∀ i w, 0 ≤ i → i < σ 98 92 → 0 ≤ w → w < 24 → (zbit (σ 171 i) w ∧ σ 66 (24 * i + w) = σ 170 (24 * i + w)) ∨ (¬ zbit (σ 171 i) w ∧ σ 66 (24 * i + w) = -1)
def zelc (σ : zS) : Prop := (σ 98 89 = 0 ∧ σ 65 7 = 0 ∧ σ 65 10 = 0 ∧ σ 98 92 = 0) ∨
  (σ 98 89 = 1 ∧ (σ 65 7 = σ 98 90 ∧ σ 98 90 ≠ 0 ∧ ∀ w, 0 ≤ w → w < 32 → zbit (σ 98 90) w → w < σ 98 1) ∧ (σ 65 10 = σ 98 92 ∧ 1 ≤ σ 98 92 ∧ σ 98 92 ≤ 24) ∧ zvts σ ∧ zcst σ)
/-- the leases -/
def zls1 (σ : zS) (l : Int) : Prop := zlsC σ l ∧ (0 ≤ σ 144 l ∧ σ 144 l ≤ 200) ∧ (0 ≤ σ 143 l ∧ σ 143 l ≤ 40) ∧ zlif σ l ∧ ∀ w, 0 ≤ w → w < 32 → zbit (σ 145 l) w → w < σ 98 1
def zlse (σ : zS) : Prop := σ 68 11 = σ 98 5 ∧ (∀ l, 0 ≤ l → l < σ 98 5 → zls1 σ l) ∧ ∀ l, 0 ≤ l → l < 8 → σ 98 5 ≤ l → σ 75 l = 0
def zprn (σ : zS) : Prop := σ 98 6 = σ 68 12
/-- the chest -/
def zche (σ : zS) : Prop := σ 79 3 = σ 98 8 ∧ σ 79 4 = σ 98 7 ∧ (0 ≤ σ 98 7 ∧ σ 98 7 ≤ 400) ∧ 0 ≤ σ 98 8 ∧ σ 98 8 ≤ 1000000 * σ 98 7
def zsum (σ : zS) (h y : Int) : Nat → Int
  | 0 => 0
  | n + 1 => zsum σ h y n + if σ 149 (n : Int) = h ∧ σ 148 (n : Int) = y then σ 150 (n : Int) else 0
/-- dividends in all -/
def zdv (σ : zS) : Nat → Int
  | 0 => 0
  | n + 1 => zdv σ n + if σ 149 (n : Int) = 2 then - σ 150 (n : Int) else 0
def zsms (σ : zS) : Prop := (∀ e, 0 ≤ e → e < σ 98 7 → (0 ≤ σ 148 e ∧ σ 148 e < 110) ∧ (σ 149 e ≠ 2 → -1000000 ≤ σ 150 e ∧ σ 150 e ≤ 1000000) ∧ (σ 149 e = 2 → σ 150 e ≤ 0)) ∧
  (∀ h y, 0 ≤ h → h < 4 → 0 ≤ y → y < 110 → σ 80 (110 * h + y) = zsum σ h y (σ 98 7).toNat) ∧ σ 98 8 + zdv σ (σ 98 7).toNat ≤ 1000000 * σ 98 7
/-- the years in which rents were taken, dividends parted -/
def zyr1 (c now : Int) (f : Int → Int) : Prop := (-1 ≤ c ∧ 365 * c ≤ now) ∧ (∀ y, c < y → y < 120 → f y = 0) ∧ (c ≠ -1 → f c = 1)
def zyrs (σ : zS) : Prop := zyr1 (σ 79 5) (σ 98 0) (σ 151) ∧ zyr1 (σ 79 6) (σ 98 0) (σ 152)
def zkpt (σ : zS) : Prop := σ 79 7 = σ 98 12 ∧ ∀ w, 0 ≤ w → w < 24 → σ 81 w = σ 153 w ∧ (0 ≤ σ 153 w ∧ σ 153 w ≤ 365) ∧ σ 82 w = σ 154 w
/-- roofs and plans -/
def zrfs (σ : zS) : Prop := (σ 83 9 = σ 98 10 ∧ 0 ≤ σ 98 10 ∧ σ 98 10 ≤ 2) ∧ (∀ r, 0 ≤ r → r < 2 → 0 ≤ σ 84 r ∧ σ 84 r ≤ 99999) ∧ ∀ r, 0 ≤ r → r < σ 98 10 → σ 84 r = σ 155 r ∧ σ 85 r = σ 156 r ∧ 0 ≤ σ 156 r ∧ σ 156 r ≤ 9999
def zpld (σ : zS) : Prop := (σ 98 99 = 0 ∧ σ 83 13 = -1) ∨ (σ 98 99 = 1 ∧ σ 83 13 ≠ -1 ∧ (0 ≤ σ 98 101 ∧ σ 98 101 ≤ 2) ∧ σ 90 0 = σ 98 100 ∧
  ∀ i, 0 ≤ i → i < 2 → (i < σ 98 101 ∧ ((σ 90 (i + 1) = σ 83 13 ∧ σ 174 i = -1) ∨ (σ 90 (i + 1) ≠ σ 83 13 ∧ σ 90 (i + 1) = σ 174 i))) ∨ (σ 98 101 ≤ i ∧ σ 90 (i + 1) = σ 83 13))
/-- the rooms -/
def zrms (σ : zS) : Prop := (σ 94 4 = σ 98 9 ∧ 0 ≤ σ 98 9 ∧ σ 98 9 ≤ 9) ∧ (∀ w, 0 ≤ w → w < 24 → σ 95 w = σ 138 w ∧ (-1 ≤ σ 138 w ∧ σ 138 w < σ 98 9) ∧ (σ 98 1 ≤ w → σ 138 w = -1)) ∧
  ∀ w v, 0 ≤ w → w < v → v < 24 → σ 138 w ≠ -1 → σ 138 w ≠ σ 138 v
def zref (σ : zS) : Prop := ∀ j, 0 ≤ j → j < 8 → σ 97 j = σ 157 j
def zlim (σ : zS) : Prop := σ 59 0 = 24 ∧ σ 62 0 = 24 ∧ σ 91 0 = 9
