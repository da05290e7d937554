/-! THE INVARIANT keeps where its places are not written (printed by gen/inv.py) -/
abbrev Dzcnow : zPl := [(0, some 13), (98, some 0)]
abbrev Dzppl : zPl := [(22, some 12), (23, none), (98, some 1), (99, none)]
abbrev Dzlnk : zPl := [(24, none), (25, none), (98, some 1), (102, none), (103, none)]
abbrev Dzlkw : zPl := [(98, some 0), (102, none), (103, none)]
abbrev Dzfnd : zPl := [(22, some 13), (98, some 1), (104, none)]
abbrev Dzdth : zPl := [(26, none), (27, none), (100, none), (101, none), (105, none)]
abbrev Dzfct : zPl := [(22, some 14), (28, none), (29, none), (30, none), (31, none), (98, some 2), (106, none), (107, none), (108, none), (109, none), (110, none)]
abbrev Dzshv : zPl := [(2, none), (3, none), (4, none), (5, none), (6, none), (7, none), (8, none), (9, none), (10, none), (11, none), (12, none), (13, none), (14, none), (15, none), (16, none), (17, none), (18, none), (19, none), (20, none), (21, none), (98, some 1), (111, none), (112, none), (113, none), (114, none), (115, none)]
abbrev Dzamo : zPl := [(98, some 3), (118, none), (119, none), (120, none), (122, none), (123, none)]
abbrev DzamC : zPl := [(35, some 11), (36, none), (37, none), (38, none), (39, none), (40, none), (41, none), (42, none), (43, none), (44, none), (98, some 3), (117, none), (118, none), (119, none), (120, none), (121, none), (122, none), (123, none), (124, none), (125, none)]
abbrev Dzwto : zPl := [(37, none), (161, none)]
abbrev Dztur : zPl := [(45, none), (98, some 3), (120, none)]
abbrev Dzpla : zPl := [(98, some 4), (129, none), (130, none)]
abbrev DzplC : zPl := [(52, some 7), (53, none), (54, none), (55, none), (56, none), (57, none), (98, some 4), (129, none), (130, none), (131, none), (132, none), (133, none)]
abbrev Dzplc : zPl := [(52, some 8), (98, some 0), (98, some 1), (98, some 4), (98, some 11), (130, none), (131, none), (132, none)]
abbrev Dzpas : zPl := [(57, none), (133, none)]
abbrev Dzblt : zPl := [(60, none), (61, none), (134, none), (135, none)]
abbrev Dzwsh : zPl := [(92, none), (93, none), (136, none), (137, none)]
abbrev Dzelc : zPl := [(63, none), (64, none), (65, some 7), (65, some 8), (65, some 9), (65, some 10), (66, none), (98, some 1), (98, some 89), (98, some 90), (98, some 91), (98, some 92), (168, none), (169, none), (170, none), (171, none)]
abbrev Dzlea : zPl := [(98, some 5), (139, none), (140, none), (141, none), (142, none), (146, none)]
abbrev Dzlse : zPl := [(68, some 11), (69, none), (70, none), (71, none), (72, none), (73, none), (74, none), (75, none), (98, some 1), (98, some 5), (139, none), (140, none), (141, none), (142, none), (143, none), (144, none), (145, none)]
abbrev DzpriC : zPl := [(68, some 12), (76, none), (77, none), (146, none)]
abbrev Dzprn : zPl := [(68, some 12), (98, some 6)]
abbrev DztbM : zPl := [(98, some 63), (147, none)]
abbrev DztbC : zPl := [(68, some 13), (78, none), (98, some 63), (147, none)]
abbrev Dzche : zPl := [(79, some 3), (79, some 4), (98, some 7), (98, some 8)]
abbrev Dzsms : zPl := [(80, none), (98, some 7), (98, some 8), (148, none), (149, none), (150, none)]
abbrev Dzyrs : zPl := [(79, some 5), (79, some 6), (98, some 0), (151, none), (152, none)]
abbrev Dzkpt : zPl := [(79, some 7), (81, none), (82, none), (98, some 12), (153, none), (154, none)]
abbrev Dzrfs : zPl := [(83, some 9), (84, none), (85, none), (98, some 10), (155, none), (156, none)]
abbrev Dzpld : zPl := [(83, some 13), (90, none), (98, some 99), (98, some 100), (98, some 101), (174, none)]
abbrev Dzrms : zPl := [(94, some 4), (95, none), (98, some 1), (98, some 9), (138, none)]
abbrev Dzref : zPl := [(97, none), (157, none)]
abbrev Dzlim : zPl := [(59, some 0), (62, some 0), (91, some 0)]
theorem zcnow_ke {s σ : zS} (h : zsm Dzcnow s σ) (hc : zcnow σ) : zcnow s := by
  unfold zcnow at hc ⊢
  simp only [zsm_at h 0 13 rfl, zsm_at h 98 0 rfl]
  exact hc
theorem zppl_ke {s σ : zS} (h : zsm Dzppl s σ) (hc : zppl σ) : zppl s := by
  unfold zppl at hc ⊢
  simp only [zsm_at h 22 12 rfl, zsm_row h 23 rfl, zsm_at h 98 1 rfl, zsm_row h 99 rfl]
  exact hc
theorem zlnk_ke {s σ : zS} (h : zsm Dzlnk s σ) (hc : zlnk σ) : zlnk s := by
  unfold zlnk at hc ⊢
  simp only [zsm_row h 24 rfl, zsm_row h 25 rfl, zsm_at h 98 1 rfl, zsm_row h 102 rfl, zsm_row h 103 rfl]
  exact hc
theorem zlkw_ke {s σ : zS} (h : zsm Dzlkw s σ) (hc : zlkw σ) : zlkw s := by
  unfold zlkw at hc ⊢
  simp only [zsm_at h 98 0 rfl, zsm_row h 102 rfl, zsm_row h 103 rfl]
  exact hc
theorem zfnd_ke {s σ : zS} (h : zsm Dzfnd s σ) (hc : zfnd σ) : zfnd s := by
  unfold zfnd at hc ⊢
  simp only [zsm_at h 22 13 rfl, zsm_at h 98 1 rfl, zsm_row h 104 rfl]
  exact hc
theorem zdth_ke {s σ : zS} (h : zsm Dzdth s σ) (hc : zdth σ) : zdth s := by
  unfold zdth at hc ⊢
  simp only [zsm_row h 26 rfl, zsm_row h 27 rfl, zsm_row h 100 rfl, zsm_row h 101 rfl, zsm_row h 105 rfl]
  exact hc
theorem zfct_ke {s σ : zS} (h : zsm Dzfct s σ) (hc : zfct σ) : zfct s := by
  unfold zfct at hc ⊢
  simp only [zsm_at h 22 14 rfl, zsm_row h 28 rfl, zsm_row h 29 rfl, zsm_row h 30 rfl, zsm_row h 31 rfl, zsm_at h 98 2 rfl, zsm_row h 106 rfl, zsm_row h 107 rfl, zsm_row h 108 rfl, zsm_row h 109 rfl, zsm_row h 110 rfl]
  exact hc
theorem zshv_ke {s σ : zS} (h : zsm Dzshv s σ) (hc : zshv σ) : zshv s := by
  intro i i0 i1
  have h1 : s (2 + 2 * i.toNat) = σ (2 + 2 * i.toNat) := by
    have hi : i.toNat < 10 := by omega
    generalize i.toNat = n at hi
    have key : n = 0 ∨ n = 1 ∨ n = 2 ∨ n = 3 ∨ n = 4 ∨ n = 5 ∨ n = 6 ∨ n = 7 ∨ n = 8 ∨ n = 9 := by omega
    rcases key with e | e | e | e | e | e | e | e | e | e <;> subst e <;> exact zsm_row h _ rfl
  have h2 : s (3 + 2 * i.toNat) = σ (3 + 2 * i.toNat) := by
    have hi : i.toNat < 10 := by omega
    generalize i.toNat = n at hi
    have key : n = 0 ∨ n = 1 ∨ n = 2 ∨ n = 3 ∨ n = 4 ∨ n = 5 ∨ n = 6 ∨ n = 7 ∨ n = 8 ∨ n = 9 := by omega
    rcases key with e | e | e | e | e | e | e | e | e | e <;> subst e <;> exact zsm_row h _ rfl
  have hz := hc i i0 i1
  unfold zsh1 at hz ⊢
  rw [h1, h2, zsm_at h 98 1 rfl, zsm_row h 111 rfl, zsm_row h 112 rfl, zsm_row h 113 rfl, zsm_row h 114 rfl, zsm_row h 115 rfl]
  exact hz
theorem zamo_ke {s σ : zS} (h : zsm Dzamo s σ) (hc : zamo σ) : zamo s := by
  unfold zamo at hc ⊢
  simp only [zsm_at h 98 3 rfl, zsm_row h 118 rfl, zsm_row h 119 rfl, zsm_row h 120 rfl, zsm_row h 122 rfl, zsm_row h 123 rfl]
  exact hc
theorem zamC_ke {s σ : zS} (h : zsm DzamC s σ) (hc : zamC σ) : zamC s := by
  unfold zamC at hc ⊢
  simp only [zsm_at h 35 11 rfl, zsm_row h 36 rfl, zsm_row h 37 rfl, zsm_row h 38 rfl, zsm_row h 39 rfl, zsm_row h 40 rfl, zsm_row h 41 rfl, zsm_row h 42 rfl, zsm_row h 43 rfl, zsm_row h 44 rfl, zsm_at h 98 3 rfl, zsm_row h 117 rfl, zsm_row h 118 rfl, zsm_row h 119 rfl, zsm_row h 120 rfl, zsm_row h 121 rfl, zsm_row h 122 rfl, zsm_row h 123 rfl, zsm_row h 124 rfl, zsm_row h 125 rfl]
  exact hc
theorem zwto_ke {s σ : zS} (h : zsm Dzwto s σ) (hc : zwto σ) : zwto s := by
  unfold zwto at hc ⊢
  simp only [zsm_row h 37 rfl, zsm_row h 161 rfl]
  exact hc
theorem ztur_ke {s σ : zS} (h : zsm Dztur s σ) (hc : ztur σ) : ztur s := by
  unfold ztur zturC zturM zalt at hc ⊢
  simp only [zsm_row h 45 rfl, zsm_at h 98 3 rfl, zsm_row h 120 rfl]
  exact hc
theorem zpla_ke {s σ : zS} (h : zsm Dzpla s σ) (hc : zpla σ) : zpla s := by
  unfold zpla at hc ⊢
  simp only [zsm_at h 98 4 rfl, zsm_row h 129 rfl, zsm_row h 130 rfl]
  exact hc
theorem zplC_ke {s σ : zS} (h : zsm DzplC s σ) (hc : zplC σ) : zplC s := by
  unfold zplC at hc ⊢
  simp only [zsm_at h 52 7 rfl, zsm_row h 53 rfl, zsm_row h 54 rfl, zsm_row h 55 rfl, zsm_row h 56 rfl, zsm_row h 57 rfl, zsm_at h 98 4 rfl, zsm_row h 129 rfl, zsm_row h 130 rfl, zsm_row h 131 rfl, zsm_row h 132 rfl, zsm_row h 133 rfl]
  exact hc
theorem zplc_ke {s σ : zS} (h : zsm Dzplc s σ) (hc : zplc σ) : zplc s := by
  unfold zplc at hc ⊢
  simp only [zsm_at h 52 8 rfl, zsm_at h 98 0 rfl, zsm_at h 98 1 rfl, zsm_at h 98 4 rfl, zsm_at h 98 11 rfl, zsm_row h 130 rfl, zsm_row h 131 rfl, zsm_row h 132 rfl]
  exact hc
theorem zpas_ke {s σ : zS} (h : zsm Dzpas s σ) (hc : zpas σ) : zpas s := by
  unfold zpas at hc ⊢
  simp only [zsm_row h 57 rfl, zsm_row h 133 rfl]
  exact hc
theorem zblt_ke {s σ : zS} (h : zsm Dzblt s σ) (hc : zblt σ) : zblt s := by
  unfold zblt at hc ⊢
  simp only [zsm_row h 60 rfl, zsm_row h 61 rfl, zsm_row h 134 rfl, zsm_row h 135 rfl]
  exact hc
theorem zwsh_ke {s σ : zS} (h : zsm Dzwsh s σ) (hc : zwsh σ) : zwsh s := by
  unfold zwsh at hc ⊢
  simp only [zsm_row h 92 rfl, zsm_row h 93 rfl, zsm_row h 136 rfl, zsm_row h 137 rfl]
  exact hc
theorem zelc_ke {s σ : zS} (h : zsm Dzelc s σ) (hc : zelc σ) : zelc s := by
  unfold zelc zvts zcst zcs1 at hc ⊢
  simp only [zsm_row h 63 rfl, zsm_row h 64 rfl, zsm_at h 65 7 rfl, zsm_at h 65 8 rfl, zsm_at h 65 9 rfl, zsm_at h 65 10 rfl, zsm_row h 66 rfl, zsm_at h 98 1 rfl, zsm_at h 98 89 rfl, zsm_at h 98 90 rfl, zsm_at h 98 91 rfl, zsm_at h 98 92 rfl, zsm_row h 168 rfl, zsm_row h 169 rfl, zsm_row h 170 rfl, zsm_row h 171 rfl]
  exact hc
theorem zlea_ke {s σ : zS} (h : zsm Dzlea s σ) (hc : zlea σ) : zlea s := by
  unfold zlea at hc ⊢
  simp only [zsm_at h 98 5 rfl, zsm_row h 139 rfl, zsm_row h 140 rfl, zsm_row h 141 rfl, zsm_row h 142 rfl, zsm_row h 146 rfl]
  exact hc
theorem zlse_ke {s σ : zS} (h : zsm Dzlse s σ) (hc : zlse σ) : zlse s := by
  unfold zlse zls1 zlif zlsC at hc ⊢
  simp only [zsm_at h 68 11 rfl, zsm_row h 69 rfl, zsm_row h 70 rfl, zsm_row h 71 rfl, zsm_row h 72 rfl, zsm_row h 73 rfl, zsm_row h 74 rfl, zsm_row h 75 rfl, zsm_at h 98 1 rfl, zsm_at h 98 5 rfl, zsm_row h 139 rfl, zsm_row h 140 rfl, zsm_row h 141 rfl, zsm_row h 142 rfl, zsm_row h 143 rfl, zsm_row h 144 rfl, zsm_row h 145 rfl]
  exact hc
theorem zpriC_ke {s σ : zS} (h : zsm DzpriC s σ) (hc : zpriC σ) : zpriC s := by
  unfold zpriC at hc ⊢
  simp only [zsm_at h 68 12 rfl, zsm_row h 76 rfl, zsm_row h 77 rfl, zsm_row h 146 rfl]
  exact hc
theorem zprn_ke {s σ : zS} (h : zsm Dzprn s σ) (hc : zprn σ) : zprn s := by
  unfold zprn at hc ⊢
  simp only [zsm_at h 68 12 rfl, zsm_at h 98 6 rfl]
  exact hc
theorem ztbM_ke {s σ : zS} (h : zsm DztbM s σ) (hc : ztbM σ) : ztbM s := by
  unfold ztbM at hc ⊢
  simp only [zsm_at h 98 63 rfl, zsm_row h 147 rfl]
  exact hc
theorem ztbC_ke {s σ : zS} (h : zsm DztbC s σ) (hc : ztbC σ) : ztbC s := by
  unfold ztbC at hc ⊢
  simp only [zsm_at h 68 13 rfl, zsm_row h 78 rfl, zsm_at h 98 63 rfl, zsm_row h 147 rfl]
  exact hc
theorem zche_ke {s σ : zS} (h : zsm Dzche s σ) (hc : zche σ) : zche s := by
  unfold zche at hc ⊢
  simp only [zsm_at h 79 3 rfl, zsm_at h 79 4 rfl, zsm_at h 98 7 rfl, zsm_at h 98 8 rfl]
  exact hc
theorem zsms_ke {s σ : zS} (h : zsm Dzsms s σ) (hc : zsms σ) : zsms s := by
  have hz : zsum s = zsum σ := by
    funext hd y n
    induction n with
    | zero => rfl
    | succ n ih =>
      show zsum s hd y n + _ = zsum σ hd y n + _
      rw [ih, zsm_row h 148 rfl, zsm_row h 149 rfl, zsm_row h 150 rfl]
  have hv : zdv s = zdv σ := by
    funext n
    induction n with
    | zero => rfl
    | succ n ih =>
      show zdv s n + _ = zdv σ n + _
      rw [ih, zsm_row h 149 rfl, zsm_row h 150 rfl]
  unfold zsms at hc ⊢
  rw [hz, hv, zsm_row h 148 rfl, zsm_row h 149 rfl, zsm_row h 150 rfl, zsm_row h 80 rfl, zsm_at h 98 7 rfl, zsm_at h 98 8 rfl]
  exact hc
theorem zyrs_ke {s σ : zS} (h : zsm Dzyrs s σ) (hc : zyrs σ) : zyrs s := by
  unfold zyrs at hc ⊢
  simp only [zsm_at h 79 5 rfl, zsm_at h 79 6 rfl, zsm_at h 98 0 rfl, zsm_row h 151 rfl, zsm_row h 152 rfl]
  exact hc
theorem zkpt_ke {s σ : zS} (h : zsm Dzkpt s σ) (hc : zkpt σ) : zkpt s := by
  unfold zkpt at hc ⊢
  simp only [zsm_at h 79 7 rfl, zsm_row h 81 rfl, zsm_row h 82 rfl, zsm_at h 98 12 rfl, zsm_row h 153 rfl, zsm_row h 154 rfl]
  exact hc
theorem zrfs_ke {s σ : zS} (h : zsm Dzrfs s σ) (hc : zrfs σ) : zrfs s := by
  unfold zrfs at hc ⊢
  simp only [zsm_at h 83 9 rfl, zsm_row h 84 rfl, zsm_row h 85 rfl, zsm_at h 98 10 rfl, zsm_row h 155 rfl, zsm_row h 156 rfl]
  exact hc
theorem zpld_ke {s σ : zS} (h : zsm Dzpld s σ) (hc : zpld σ) : zpld s := by
  unfold zpld at hc ⊢
  simp only [zsm_at h 83 13 rfl, zsm_row h 90 rfl, zsm_at h 98 99 rfl, zsm_at h 98 100 rfl, zsm_at h 98 101 rfl, zsm_row h 174 rfl]
  exact hc
theorem zrms_ke {s σ : zS} (h : zsm Dzrms s σ) (hc : zrms σ) : zrms s := by
  unfold zrms at hc ⊢
  simp only [zsm_at h 94 4 rfl, zsm_row h 95 rfl, zsm_at h 98 1 rfl, zsm_at h 98 9 rfl, zsm_row h 138 rfl]
  exact hc
theorem zref_ke {s σ : zS} (h : zsm Dzref s σ) (hc : zref σ) : zref s := by
  unfold zref at hc ⊢
  simp only [zsm_row h 97 rfl, zsm_row h 157 rfl]
  exact hc
theorem zlim_ke {s σ : zS} (h : zsm Dzlim s σ) (hc : zlim σ) : zlim s := by
  unfold zlim at hc ⊢
  simp only [zsm_at h 59 0 rfl, zsm_at h 62 0 rfl, zsm_at h 91 0 rfl]
  exact hc
def zinv (σ : zS) : Prop := zcnow σ ∧ zppl σ ∧ zlnk σ ∧ zlkw σ ∧ zfnd σ ∧ zdth σ ∧ zfct σ ∧ zshv σ ∧ zamo σ ∧ zamC σ ∧ zwto σ ∧ ztur σ ∧ zpla σ ∧ zplC σ ∧ zplc σ ∧ zpas σ ∧ zblt σ ∧ zwsh σ ∧ zelc σ ∧ zlea σ ∧ zlse σ ∧ zpriC σ ∧ zprn σ ∧ ztbM σ ∧ ztbC σ ∧ zche σ ∧ zsms σ ∧ zyrs σ ∧ zkpt σ ∧ zrfs σ ∧ zpld σ ∧ zrms σ ∧ zref σ ∧ zlim σ
section IV
variable {σ s : zS}
theorem g_zcnow (h : zinv σ) : zcnow σ := h.1
theorem g_zppl (h : zinv σ) : zppl σ := h.2.1
theorem g_zlnk (h : zinv σ) : zlnk σ := h.2.2.1
theorem g_zlkw (h : zinv σ) : zlkw σ := h.2.2.2.1
theorem g_zfnd (h : zinv σ) : zfnd σ := h.2.2.2.2.1
theorem g_zdth (h : zinv σ) : zdth σ := h.2.2.2.2.2.1
theorem g_zfct (h : zinv σ) : zfct σ := h.2.2.2.2.2.2.1
theorem g_zshv (h : zinv σ) : zshv σ := h.2.2.2.2.2.2.2.1
theorem g_zamo (h : zinv σ) : zamo σ := h.2.2.2.2.2.2.2.2.1
theorem g_zamC (h : zinv σ) : zamC σ := h.2.2.2.2.2.2.2.2.2.1
theorem g_zwto (h : zinv σ) : zwto σ := h.2.2.2.2.2.2.2.2.2.2.1
theorem g_ztur (h : zinv σ) : ztur σ := h.2.2.2.2.2.2.2.2.2.2.2.1
theorem g_zpla (h : zinv σ) : zpla σ := h.2.2.2.2.2.2.2.2.2.2.2.2.1
theorem g_zplC (h : zinv σ) : zplC σ := h.2.2.2.2.2.2.2.2.2.2.2.2.2.1
theorem g_zplc (h : zinv σ) : zplc σ := h.2.2.2.2.2.2.2.2.2.2.2.2.2.2.1
theorem g_zpas (h : zinv σ) : zpas σ := h.2.2.2.2.2.2.2.2.2.2.2.2.2.2.2.1
theorem g_zblt (h : zinv σ) : zblt σ := h.2.2.2.2.2.2.2.2.2.2.2.2.2.2.2.2.1
theorem g_zwsh (h : zinv σ) : zwsh σ := h.2.2.2.2.2.2.2.2.2.2.2.2.2.2.2.2.2.1
theorem g_zelc (h : zinv σ) : zelc σ := h.2.2.2.2.2.2.2.2.2.2.2.2.2.2.2.2.2.2.1
theorem g_zlea (h : zinv σ) : zlea σ := h.2.2.2.2.2.2.2.2.2.2.2.2.2.2.2.2.2.2.2.1
theorem g_zlse (h : zinv σ) : zlse σ := h.2.2.2.2.2.2.2.2.2.2.2.2.2.2.2.2.2.2.2.2.1
theorem g_zpriC (h : zinv σ) : zpriC σ := h.2.2.2.2.2.2.2.2.2.2.2.2.2.2.2.2.2.2.2.2.2.1
theorem g_zprn (h : zinv σ) : zprn σ := h.2.2.2.2.2.2.2.2.2.2.2.2.2.2.2.2.2.2.2.2.2.2.1
theorem g_ztbM (h : zinv σ) : ztbM σ := h.2.2.2.2.2.2.2.2.2.2.2.2.2.2.2.2.2.2.2.2.2.2.2.1
theorem g_ztbC (h : zinv σ) : ztbC σ := h.2.2.2.2.2.2.2.2.2.2.2.2.2.2.2.2.2.2.2.2.2.2.2.2.1
theorem g_zche (h : zinv σ) : zche σ := h.2.2.2.2.2.2.2.2.2.2.2.2.2.2.2.2.2.2.2.2.2.2.2.2.2.1
theorem g_zsms (h : zinv σ) : zsms σ := h.2.2.2.2.2.2.2.2.2.2.2.2.2.2.2.2.2.2.2.2.2.2.2.2.2.2.1
theorem g_zyrs (h : zinv σ) : zyrs σ := h.2.2.2.2.2.2.2.2.2.2.2.2.2.2.2.2.2.2.2.2.2.2.2.2.2.2.2.1
theorem g_zkpt (h : zinv σ) : zkpt σ := h.2.2.2.2.2.2.2.2.2.2.2.2.2.2.2.2.2.2.2.2.2.2.2.2.2.2.2.2.1
theorem g_zrfs (h : zinv σ) : zrfs σ := h.2.2.2.2.2.2.2.2.2.2.2.2.2.2.2.2.2.2.2.2.2.2.2.2.2.2.2.2.2.1
theorem g_zpld (h : zinv σ) : zpld σ := h.2.2.2.2.2.2.2.2.2.2.2.2.2.2.2.2.2.2.2.2.2.2.2.2.2.2.2.2.2.2.1
theorem g_zrms (h : zinv σ) : zrms σ := h.2.2.2.2.2.2.2.2.2.2.2.2.2.2.2.2.2.2.2.2.2.2.2.2.2.2.2.2.2.2.2.1
theorem g_zref (h : zinv σ) : zref σ := h.2.2.2.2.2.2.2.2.2.2.2.2.2.2.2.2.2.2.2.2.2.2.2.2.2.2.2.2.2.2.2.2.1
theorem g_zlim (h : zinv σ) : zlim σ := h.2.2.2.2.2.2.2.2.2.2.2.2.2.2.2.2.2.2.2.2.2.2.2.2.2.2.2.2.2.2.2.2.2
theorem zinv_fr {W : zPl} (hf : zfr W s σ) (hi : zinv σ) (k_zcnow : zdj Dzcnow W = false → zcnow s) (k_zppl : zdj Dzppl W = false → zppl s) (k_zlnk : zdj Dzlnk W = false → zlnk s) (k_zlkw : zdj Dzlkw W = false → zlkw s) (k_zfnd : zdj Dzfnd W = false → zfnd s) (k_zdth : zdj Dzdth W = false → zdth s) (k_zfct : zdj Dzfct W = false → zfct s) (k_zshv : zdj Dzshv W = false → zshv s) (k_zamo : zdj Dzamo W = false → zamo s) (k_zamC : zdj DzamC W = false → zamC s) (k_zwto : zdj Dzwto W = false → zwto s) (k_ztur : zdj Dztur W = false → ztur s) (k_zpla : zdj Dzpla W = false → zpla s) (k_zplC : zdj DzplC W = false → zplC s) (k_zplc : zdj Dzplc W = false → zplc s) (k_zpas : zdj Dzpas W = false → zpas s) (k_zblt : zdj Dzblt W = false → zblt s) (k_zwsh : zdj Dzwsh W = false → zwsh s) (k_zelc : zdj Dzelc W = false → zelc s) (k_zlea : zdj Dzlea W = false → zlea s) (k_zlse : zdj Dzlse W = false → zlse s) (k_zpriC : zdj DzpriC W = false → zpriC s) (k_zprn : zdj Dzprn W = false → zprn s) (k_ztbM : zdj DztbM W = false → ztbM s) (k_ztbC : zdj DztbC W = false → ztbC s) (k_zche : zdj Dzche W = false → zche s) (k_zsms : zdj Dzsms W = false → zsms s) (k_zyrs : zdj Dzyrs W = false → zyrs s) (k_zkpt : zdj Dzkpt W = false → zkpt s) (k_zrfs : zdj Dzrfs W = false → zrfs s) (k_zpld : zdj Dzpld W = false → zpld s) (k_zrms : zdj Dzrms W = false → zrms s) (k_zref : zdj Dzref W = false → zref s) (k_zlim : zdj Dzlim W = false → zlim s) : zinv s := by
  have key : ∀ (D : zPl) (c : zS → Prop), (zsm D s σ → c σ → c s) → c σ → (zdj D W = false → c s) → c s := by
    intro D c h1 h2 h3
    cases hd : zdj D W with
    | true => exact h1 (zfr_sm hf hd) h2
    | false => exact h3 hd
  exact ⟨key _ _ zcnow_ke (g_zcnow hi) k_zcnow, key _ _ zppl_ke (g_zppl hi) k_zppl, key _ _ zlnk_ke (g_zlnk hi) k_zlnk, key _ _ zlkw_ke (g_zlkw hi) k_zlkw, key _ _ zfnd_ke (g_zfnd hi) k_zfnd, key _ _ zdth_ke (g_zdth hi) k_zdth, key _ _ zfct_ke (g_zfct hi) k_zfct, key _ _ zshv_ke (g_zshv hi) k_zshv, key _ _ zamo_ke (g_zamo hi) k_zamo, key _ _ zamC_ke (g_zamC hi) k_zamC, key _ _ zwto_ke (g_zwto hi) k_zwto, key _ _ ztur_ke (g_ztur hi) k_ztur, key _ _ zpla_ke (g_zpla hi) k_zpla, key _ _ zplC_ke (g_zplC hi) k_zplC, key _ _ zplc_ke (g_zplc hi) k_zplc, key _ _ zpas_ke (g_zpas hi) k_zpas, key _ _ zblt_ke (g_zblt hi) k_zblt, key _ _ zwsh_ke (g_zwsh hi) k_zwsh, key _ _ zelc_ke (g_zelc hi) k_zelc, key _ _ zlea_ke (g_zlea hi) k_zlea, key _ _ zlse_ke (g_zlse hi) k_zlse, key _ _ zpriC_ke (g_zpriC hi) k_zpriC, key _ _ zprn_ke (g_zprn hi) k_zprn, key _ _ ztbM_ke (g_ztbM hi) k_ztbM, key _ _ ztbC_ke (g_ztbC hi) k_ztbC, key _ _ zche_ke (g_zche hi) k_zche, key _ _ zsms_ke (g_zsms hi) k_zsms, key _ _ zyrs_ke (g_zyrs hi) k_zyrs, key _ _ zkpt_ke (g_zkpt hi) k_zkpt, key _ _ zrfs_ke (g_zrfs hi) k_zrfs, key _ _ zpld_ke (g_zpld hi) k_zpld, key _ _ zrms_ke (g_zrms hi) k_zrms, key _ _ zref_ke (g_zref hi) k_zref, key _ _ zlim_ke (g_zlim hi) k_zlim⟩
end IV
