/-! PEOPLE: what class and model have alike -/
/-- how many, when they were born -/
def zppl (σ : zS) : Prop := (0 ≤ σ 98 1 ∧ σ 98 1 ≤ 24) ∧ σ 22 12 = σ 98 1 ∧ ∀ w, 0 ≤ w → w < σ 98 1 → σ 23 w = σ 99 w ∧ -40000 ≤ σ 99 w ∧ σ 99 w ≤ 40000
/-- their links -/
def zlnk (σ : zS) : Prop := ∀ l, 0 ≤ l → l < 48 → (σ 102 l = -1 ∧ σ 25 l = -1) ∨ (l < 2 * σ 98 1 ∧ (0 ≤ σ 102 l ∧ σ 102 l < σ 98 1) ∧ σ 24 l = σ 102 l ∧ σ 25 l = σ 103 l ∧ σ 25 l ≠ -1)
/-- the founders -/
def zfnd (σ : zS) : Prop := (∀ w, 0 ≤ w → w < 32 → (zbit (σ 22 13) w ↔ (w < σ 98 1 ∧ σ 104 w ≠ 0))) ∧ ∀ w, 0 ≤ w → w < 24 → (σ 104 w = 0 ∨ (σ 104 w = 1 ∧ w < σ 98 1))
/-- their deaths -/
def zdth (σ : zS) : Prop := ∀ w, 0 ≤ w → w < 24 → (σ 105 w = 0 ∧ σ 27 w = -1) ∨ (σ 105 w = 1 ∧ σ 27 w = σ 101 w ∧ σ 27 w ≠ -1 ∧ σ 26 w = σ 100 w ∧ -40000 ≤ σ 100 w ∧ σ 100 w ≤ 40000)
/-- the facts -/
def zfct (σ : zS) : Prop := (0 ≤ σ 98 2 ∧ σ 98 2 ≤ 400) ∧ σ 22 14 = σ 98 2 ∧
  ∀ f, 0 ≤ f → f < σ 98 2 → σ 28 f = 4 * σ 106 f + σ 107 f ∧ (0 ≤ σ 107 f ∧ σ 107 f < 4) ∧ σ 29 f = σ 108 f ∧ σ 30 f = σ 109 f ∧ σ 31 f = σ 110 f
theorem zball_cg {E E' : Int → Int → Prop} {S : Int → Prop} {n : Int} (hE : ∀ p q, 0 ≤ p → p < n → E p q → 0 ≤ q ∧ q < n) (he : ∀ p q, 0 ≤ p → p < n → (E p q ↔ E' p q)) (hS : ∀ p, S p → 0 ≤ p ∧ p < n) : ∀ (d : Nat) (p : Int), zball E S d p ↔ zball E' S d p := by
  intro d
  induction d with
  | zero => intro p; exact Iff.rfl
  | succ d ih =>
    intro p
    constructor
    · rintro (h | ⟨q, h1, h2⟩)
      · exact Or.inl ((ih p).mp h)
      · have hq := zball_in hE hS d q h1
        exact Or.inr ⟨q, (ih q).mp h1, (he q p hq.1 hq.2).mp h2⟩
    · rintro (h | ⟨q, h1, h2⟩)
      · exact Or.inl ((ih p).mpr h)
      · have h3 := (ih q).mpr h1
        have hq := zball_in hE hS d q h3
        exact Or.inr ⟨q, h3, (he q p hq.1 hq.2).mpr h2⟩
theorem zkin_cg {E E' : Int → Int → Prop} {Fd Fd' : Int → Prop} {n who K : Int} (hE : ∀ p q, 0 ≤ p → p < n → E p q → 0 ≤ q ∧ q < n) (he : ∀ p q, 0 ≤ p → p < n → (E p q ↔ E' p q)) (hw : 0 ≤ who ∧ who < n) (hF : ∀ f, Fd f ↔ Fd' f) (hFn : ∀ f, Fd f → 0 ≤ f ∧ f < n) (h : zkin E who Fd K) : zkin E' who Fd' K := by
  have b1 := fun d p => zball_cg (S := fun q => q = who) hE he (fun p (e : p = who) => by rw [e]; exact hw) d p
  have b2 := fun f (hf : Fd f) d p => zball_cg (S := fun q => q = f) hE he (fun p (e : p = f) => by rw [e]; exact hFn f hf) d p
  obtain ⟨h1, h2, h3⟩ := h
  refine ⟨h1, fun f p a b hf ha hb => ?_, ?_⟩
  · have hf' := (hF f).mpr hf
    exact h2 f p a b hf' ((b1 a p).mpr ha) ((b2 f hf' b p).mpr hb)
  · rcases h3 with h3 | ⟨f, p, a, b, hf, ha, hb, e⟩
    · exact Or.inl h3
    · exact Or.inr ⟨f, p, a, b, (hF f).mp hf, (b1 a p).mp ha, (b2 f hf b p).mp hb, e⟩
theorem znear_cg {E E' : Int → Int → Prop} {un un' : Int → Prop} {n who K N : Int} (hE : ∀ p q, 0 ≤ p → p < n → E p q → 0 ≤ q ∧ q < n) (he : ∀ p q, 0 ≤ p → p < n → (E p q ↔ E' p q)) (hw : 0 ≤ who ∧ who < n) (hu : ∀ p, 0 ≤ p → p < n → (un p ↔ un' p)) (h : znear E who un K N) : znear E' who un' K N := by
  have b0 := fun d p => zball_in (S := fun q => q = who) hE (fun p (e : p = who) => by rw [e]; exact hw) d p
  have b1 := fun d p => zball_cg (S := fun q => q = who) hE he (fun p (e : p = who) => by rw [e]; exact hw) d p
  obtain ⟨h1, h2, h3, h4⟩ := h
  refine ⟨h1, h2, fun p a ha hx => ?_, ?_⟩
  · have ha' := (b1 a p).mpr ha
    have hp := b0 a p ha'
    exact h3 p a ha' ((hu p hp.1 hp.2).mpr hx)
  · rcases h4 with h4 | ⟨p, a, ha, hx, e⟩
    · exact Or.inl h4
    · have hp := b0 a p ha
      exact Or.inr ⟨p, a, (b1 a p).mp ha, (hu p hp.1 hp.2).mp hx, e⟩
section PP
variable {σ : zS} {k : Int}
theorem zlnk_L (hl : zlnk σ) : ∀ l, 0 ≤ l → l < 48 → σ 25 l ≠ -1 → (0 ≤ σ 24 l ∧ σ 24 l < σ 98 1) := by
  intro l a b c
  rcases hl l a b with h | h
  · exact absurd h.2 c
  · rw [h.2.2.1]; exact h.2.1
theorem zlnk_M (hp : zppl σ) (hl : zlnk σ) : ∀ l, 0 ≤ l → l < 2 * σ 98 1 → σ 102 l ≠ -1 → (0 ≤ σ 102 l ∧ σ 102 l < σ 98 1) := by
  intro l a b c
  have := hp.1
  rcases hl l a (by omega) with h | h
  · exact absurd h.1 c
  · exact h.2.1
theorem zlk_in (hp : zppl σ) (hl : zlnk σ) : ∀ p q, 0 ≤ p → p < σ 98 1 → zlkC σ k p q → 0 ≤ q ∧ q < σ 98 1 := by
  rintro p q a1 a2 ⟨l, h1, h2, h3, rfl⟩
  have := hp.1
  exact zlnk_L hl l (by omega) (by omega) h2
theorem zlk_CM (hp : zppl σ) (hl : zlnk σ) : ∀ p q, 0 ≤ p → p < σ 98 1 → (zlkC σ k p q ↔ zlkM σ k p q) := by
  intro p q a1 a2
  have := hp.1
  constructor
  · rintro ⟨l, h1, h2, h3, rfl⟩
    rcases hl l (by omega) (by omega) with h | h
    · exact absurd h.2 h2
    · exact ⟨l, h1, by omega, by omega, by omega⟩
  · rintro ⟨l, h1, h2, h3, rfl⟩
    rcases hl l (by omega) (by omega) with h | h
    · exact absurd h.1 h2
    · exact ⟨l, h1, by omega, by omega, by omega⟩
theorem zun_CM (hp : zppl σ) (hl : zlnk σ) : ∀ p, 0 ≤ p → p < σ 98 1 → (zunC σ k p ↔ zunM σ k p) := by
  intro p a1 a2
  have := hp.1
  have h1 := hl (2 * p) (by omega) (by omega)
  have h2 := hl (2 * p + 1) (by omega) (by omega)
  unfold zunC zunM zunL
  omega
theorem zfd_CM (hp : zppl σ) (hf : zfnd σ) : ∀ f, zfdC σ f ↔ zfdM σ (σ 98 1) f := by
  intro f
  have := hp.1
  unfold zfdC zfdM
  constructor
  · rintro ⟨a, b⟩
    have h := (hf.1 f a.1 (by omega)).mp b
    exact ⟨⟨a.1, h.1⟩, h.2⟩
  · rintro ⟨a, b⟩
    exact ⟨by omega, (hf.1 f a.1 (by omega)).mpr ⟨a.2, b⟩⟩
theorem zkin_CM {w K : Int} (hp : zppl σ) (hl : zlnk σ) (hf : zfnd σ) (hw : 0 ≤ w ∧ w < σ 98 1) (h : zkin (zlkC σ k) w (zfdC σ) K) : zkin (zlkM σ k) w (zfdM σ (σ 98 1)) K :=
  zkin_cg (zlk_in hp hl) (zlk_CM hp hl) hw (zfd_CM hp hf) (fun f hz => ((zfd_CM hp hf f).mp hz).1) h
theorem znear_CM {w K N : Int} (hp : zppl σ) (hl : zlnk σ) (hw : 0 ≤ w ∧ w < σ 98 1) (h : znear (zlkC σ k) w (zunC σ k) K N) : znear (zlkM σ k) w (zunM σ k) K N :=
  znear_cg (zlk_in hp hl) (zlk_CM hp hl) hw (zun_CM hp hl) h
end PP
/-- what is known of one (model's cells) -/
def zone (σ : zS) (w a k : Int) (u : zOne) : Prop := zOne_Y u = max 0 (zldiv (a - σ 99 w) 365) ∧ zOne_D u = zval σ w 0 a k ∧ zOne_W u = zval σ w 1 a k ∧ zOne_R u = zval σ w 2 a k ∧ zOne_T u = zval σ w 3 a k ∧
  zkin (zlkM σ k) w (zfdM σ (σ 98 1)) (zOne_K u) ∧ znear (zlkM σ k) w (zunM σ k) (zOne_K u) (zOne_N u)
theorem zone_one {σ : zS} {w a k : Int} {u u' : zOne} (h : zone σ w a k u) (h' : zone σ w a k u') : u = u' := by
  obtain ⟨a1, a2, a3, a4, a5, a6, a7⟩ := u
  obtain ⟨b1, b2, b3, b4, b5, b6, b7⟩ := u'
  unfold zone at h h'
  dsimp only [zOne_Y, zOne_D, zOne_W, zOne_R, zOne_T, zOne_K, zOne_N] at h h'
  obtain ⟨e1, e2, e3, e4, e5, e6, e7⟩ := h
  obtain ⟨f1, f2, f3, f4, f5, f6, f7⟩ := h'
  have g6 := zkin_one e6 f6
  subst g6
  have g7 := znear_one e7 f7
  rw [e1, e2, e3, e4, e5, f1, f2, f3, f4, f5, g7]
/-- one is alive (model's cells) -/
def zalv (σ : zS) (w a k : Int) : Prop := ¬ (a < σ 99 w ∨ (σ 105 w ≠ 0 ∧ σ 101 w ≤ k ∧ σ 100 w ≤ a))
/-- the law of a statute for one, in the words of a day -/
noncomputable def zlawO (σ : zS) (l : List Int) (kd a k : Int) (u : zOne) : zRes := zlaw (zlt (zwords σ l kd a k).2.1 (zwords σ l kd a k).1) (zwords σ l kd a k).1 u
noncomputable def zmres (σ : zS) (R : zRes) (w a k : Int) : Int := by
  classical exact if zRes_f R ≠ -1 then 3 else if zalv σ w a k then zRes_x R else 0
/-- whether one may (0, 1, 2, 3) -/
def zmy (σ : zS) (l : List Int) (w kd a k v : Int) : Prop := ∃ u, zone σ w a k u ∧ v = zmres σ (zlawO σ l kd a k u) w a k
theorem zmy_one {σ : zS} {l : List Int} {w kd a k v v' : Int} (h : zmy σ l w kd a k v) (h' : zmy σ l w kd a k v') : v = v' := by
  obtain ⟨u, h1, h2⟩ := h
  obtain ⟨u', h1', h2'⟩ := h'
  rw [h2, h2', zone_one h1 h1']
theorem zldiv_t {x : Int} (hx : -5000000000 ≤ x ∧ x ≤ 5000000000) : zldiv x 365 = x.tdiv 365 := by
  unfold zldiv
  have h365 : (Int64.ofInt 365).toInt = 365 := zL_toInt (by unfold zLn; omega)
  rw [Int64.toInt_div, zL_toInt (by unfold zLn; omega), h365]
  by_cases h0 : 0 ≤ x
  · rw [Int.tdiv_eq_ediv_of_nonneg h0]
    simp only [Int.bmod]
    split <;> omega
  · have e : x = -(-x) := by omega
    rw [e, Int.neg_tdiv, Int.tdiv_eq_ediv_of_nonneg (by omega)]
    simp only [Int.bmod]
    split <;> omega
theorem zldiv_b {x : Int} (hx : -5000000000 ≤ x ∧ x ≤ 5000000000) : -14000000 ≤ zldiv x 365 ∧ zldiv x 365 ≤ 14000000 := by
  rw [zldiv_t hx]
  by_cases h0 : 0 ≤ x
  · rw [Int.tdiv_eq_ediv_of_nonneg h0]
    omega
  · have e : x = -(-x) := by omega
    rw [e, Int.neg_tdiv, Int.tdiv_eq_ediv_of_nonneg (by omega)]
    omega
theorem zlcmp_lt {x y : Int} (hx : zLn x) (hy : zLn y) : (zlcmp x y < 0 ↔ x < y) := by
  unfold zlcmp
  have h := lg_cmp_lt (Int64.ofInt x) (Int64.ofInt y)
  rw [Int32.lt_iff_toInt_lt] at h
  rw [show ((0 : Int32)).toInt = 0 from rfl] at h
  rw [h, Int64.lt_iff_toInt_lt, zL_toInt hx, zL_toInt hy]
