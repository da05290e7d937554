/-! THE LAW: its cases -/
set_option maxHeartbeats 1000000 in
theorem zl_case40 {p : Program} {l : Launch} {e : Env} {s : State} {m : MethodId} {below : List Frame} {meth : Method} {c : Code} {b L : Nat} {xs : Nat → Int32} {G : zG} {σ : zS} {H : Heap} {locs : List Loc} {ls : Array Slot} {i : Nat} (LC : zLC G l p s m meth c b L xs) (hl : lv_has ls 4 (zll G b i)) (w : zLw G s σ H locs) (hi : i + 7 ≤ L) (hz : zinv σ) (k : ∀ (σ2 : zS) (H2 : Heap) (locs2 : List Loc), zinv σ2 → zLw G s σ2 H2 locs2 → zLW p l e s m b below meth c H2 locs2 (F0 m 2299 ls [])) : zLW p l e s m b below meth c H locs (F0 m 1835 ls []) := by
  have hx := LC.1.1
  have hb := LC.1.2.1
  refine lv_aload_n hx hb dL_1835 rfl (lv_at hl 1 rfl) ?_
  refine zl_arg (k := 1) LC hl w hi (by decide) dL_1836 dL_1837 dL_1838 dL_1839 dL_1840 ?_
  refine zl_call (M' := MX11_renew) (as := [zi (zx xs (i + 1))]) (q := 0) (ci := 11) (rs := (zsh 0).2.2) LC mkX11_renew (zin_5 (List.mem_of_getElem? (i := 143) (by decide +kernel))) rfl (by decide +kernel) rfl (by decide) (Nat.le_of_ble_eq_true rfl) rfl (zkc zx_in (fun v hv => absurd hv List.not_mem_nil)) hl w dL_1841 (st_renew hz) (fun r σ1 H1 locs1 hr1 hq1 w => ?_)
  refine lv_aload_n hx hb dL_1844 rfl (lv_at hl 2 rfl) ?_
  refine zl_arg (k := 1) LC hl w hi (by decide) dL_1845 dL_1846 dL_1847 dL_1848 dL_1849 ?_
  refine zl_call (M' := MX12_renew) (as := [zi (zx xs (i + 1))]) (q := 98) (ci := 12) (rs := (zsh 98).2.2) LC mkX12_renew (zin_9 (List.mem_of_getElem? (i := 20) (by decide +kernel))) rfl (by decide +kernel) rfl (by decide) (Nat.le_of_ble_eq_true rfl) rfl (zkc zx_in (fun v hv => absurd hv List.not_mem_nil)) hl w dL_1850 hq1 (fun r2 σ2 H2 locs2 hr2 hq2 w2 => ?_)
  obtain ⟨he, hz2⟩ := hq2
  subst he
  exact zl_same hx hb dL_1853 (by decide) (k σ2 H2 locs2 hz2 w2)
set_option maxHeartbeats 1000000 in
theorem zl_case41 {p : Program} {l : Launch} {e : Env} {s : State} {m : MethodId} {below : List Frame} {meth : Method} {c : Code} {b L : Nat} {xs : Nat → Int32} {G : zG} {σ : zS} {H : Heap} {locs : List Loc} {ls : Array Slot} {i : Nat} (LC : zLC G l p s m meth c b L xs) (hl : lv_has ls 4 (zll G b i)) (w : zLw G s σ H locs) (hi : i + 7 ≤ L) (hz : zinv σ) (k : ∀ (σ2 : zS) (H2 : Heap) (locs2 : List Loc), zinv σ2 → zLw G s σ2 H2 locs2 → zLW p l e s m b below meth c H2 locs2 (F0 m 2299 ls [])) : zLW p l e s m b below meth c H locs (F0 m 1858 ls []) := by
  have hx := LC.1.1
  have hb := LC.1.2.1
  refine lv_aload_n hx hb dL_1858 rfl (lv_at hl 1 rfl) ?_
  refine zl_call (M' := MX11_rents) (as := []) (q := 0) (ci := 11) (rs := (zsh 0).2.2) LC mkX11_rents (zin_5 (List.mem_of_getElem? (i := 169) (by decide +kernel))) rfl (by decide +kernel) rfl (by decide) (Nat.le_of_ble_eq_true rfl) rfl (fun v hv => absurd hv List.not_mem_nil) hl w dL_1859 (st_rents hz) (fun r σ1 H1 locs1 hr1 hq1 w => ?_)
  refine lv_aload_n hx hb dL_1862 rfl (lv_at hl 2 rfl) ?_
  refine zl_call (M' := MX12_rents) (as := []) (q := 98) (ci := 12) (rs := (zsh 98).2.2) LC mkX12_rents (zin_9 (List.mem_of_getElem? (i := 40) (by decide +kernel))) rfl (by decide +kernel) rfl (by decide) (Nat.le_of_ble_eq_true rfl) rfl (fun v hv => absurd hv List.not_mem_nil) hl w dL_1863 hq1 (fun r2 σ2 H2 locs2 hr2 hq2 w2 => ?_)
  obtain ⟨he, hz2⟩ := hq2
  subst he
  exact zl_same hx hb dL_1866 (by decide) (k σ2 H2 locs2 hz2 w2)
set_option maxHeartbeats 1000000 in
theorem zl_case42 {p : Program} {l : Launch} {e : Env} {s : State} {m : MethodId} {below : List Frame} {meth : Method} {c : Code} {b L : Nat} {xs : Nat → Int32} {G : zG} {σ : zS} {H : Heap} {locs : List Loc} {ls : Array Slot} {i : Nat} (LC : zLC G l p s m meth c b L xs) (hl : lv_has ls 4 (zll G b i)) (w : zLw G s σ H locs) (hi : i + 7 ≤ L) (hz : zinv σ) (k : ∀ (σ2 : zS) (H2 : Heap) (locs2 : List Loc), zinv σ2 → zLw G s σ2 H2 locs2 → zLW p l e s m b below meth c H2 locs2 (F0 m 2299 ls [])) : zLW p l e s m b below meth c H locs (F0 m 1871 ls []) := by
  have hx := LC.1.1
  have hb := LC.1.2.1
  refine lv_aload_n hx hb dL_1871 rfl (lv_at hl 1 rfl) ?_
  refine zl_arg (k := 1) LC hl w hi (by decide) dL_1872 dL_1873 dL_1874 dL_1875 dL_1876 ?_
  refine zl_arg (k := 2) LC hl w hi (by decide) dL_1877 dL_1878 dL_1879 dL_1880 dL_1881 ?_
  refine zl_call (M' := MX11_kept) (as := [zi (zx xs (i + 1)), zi (zx xs (i + 2))]) (q := 0) (ci := 11) (rs := (zsh 0).2.2) LC mkX11_kept (zin_5 (List.mem_of_getElem? (i := 173) (by decide +kernel))) rfl (by decide +kernel) rfl (by decide) (Nat.le_of_ble_eq_true rfl) rfl (zkc zx_in (zkc zx_in (fun v hv => absurd hv List.not_mem_nil))) hl w dL_1882 (st_kept hz) (fun r σ1 H1 locs1 hr1 hq1 w => ?_)
  refine lv_aload_n hx hb dL_1885 rfl (lv_at hl 2 rfl) ?_
  refine zl_arg (k := 1) LC hl w hi (by decide) dL_1886 dL_1887 dL_1888 dL_1889 dL_1890 ?_
  refine zl_arg (k := 2) LC hl w hi (by decide) dL_1891 dL_1892 dL_1893 dL_1894 dL_1895 ?_
  refine zl_call (M' := MX12_kept) (as := [zi (zx xs (i + 1)), zi (zx xs (i + 2))]) (q := 98) (ci := 12) (rs := (zsh 98).2.2) LC mkX12_kept (zin_9 (List.mem_of_getElem? (i := 44) (by decide +kernel))) rfl (by decide +kernel) rfl (by decide) (Nat.le_of_ble_eq_true rfl) rfl (zkc zx_in (zkc zx_in (fun v hv => absurd hv List.not_mem_nil))) hl w dL_1896 hq1 (fun r2 σ2 H2 locs2 hr2 hq2 w2 => ?_)
  obtain ⟨he, hz2⟩ := hq2
  subst he
  exact zl_same hx hb dL_1899 (by decide) (k σ2 H2 locs2 hz2 w2)
set_option maxHeartbeats 1000000 in
theorem zl_case43 {p : Program} {l : Launch} {e : Env} {s : State} {m : MethodId} {below : List Frame} {meth : Method} {c : Code} {b L : Nat} {xs : Nat → Int32} {G : zG} {σ : zS} {H : Heap} {locs : List Loc} {ls : Array Slot} {i : Nat} (LC : zLC G l p s m meth c b L xs) (hl : lv_has ls 4 (zll G b i)) (w : zLw G s σ H locs) (hi : i + 7 ≤ L) (hz : zinv σ) (k : ∀ (σ2 : zS) (H2 : Heap) (locs2 : List Loc), zinv σ2 → zLw G s σ2 H2 locs2 → zLW p l e s m b below meth c H2 locs2 (F0 m 2299 ls [])) : zLW p l e s m b below meth c H locs (F0 m 1904 ls []) := by
  have hx := LC.1.1
  have hb := LC.1.2.1
  refine lv_aload_n hx hb dL_1904 rfl (lv_at hl 1 rfl) ?_
  refine zl_arg (k := 1) LC hl w hi (by decide) dL_1905 dL_1906 dL_1907 dL_1908 dL_1909 ?_
  refine zl_call (M' := MX11_dividend) (as := [zi (zx xs (i + 1))]) (q := 0) (ci := 11) (rs := (zsh 0).2.2) LC mkX11_dividend (zin_5 (List.mem_of_getElem? (i := 186) (by decide +kernel))) rfl (by decide +kernel) rfl (by decide) (Nat.le_of_ble_eq_true rfl) rfl (zkc zx_in (fun v hv => absurd hv List.not_mem_nil)) hl w dL_1910 (st_dividend hz) (fun r σ1 H1 locs1 hr1 hq1 w => ?_)
  refine lv_aload_n hx hb dL_1913 rfl (lv_at hl 2 rfl) ?_
  refine zl_arg (k := 1) LC hl w hi (by decide) dL_1914 dL_1915 dL_1916 dL_1917 dL_1918 ?_
  refine zl_call (M' := MX12_dividend) (as := [zi (zx xs (i + 1))]) (q := 98) (ci := 12) (rs := (zsh 98).2.2) LC mkX12_dividend (zin_9 (List.mem_of_getElem? (i := 52) (by decide +kernel))) rfl (by decide +kernel) rfl (by decide) (Nat.le_of_ble_eq_true rfl) rfl (zkc zx_in (fun v hv => absurd hv List.not_mem_nil)) hl w dL_1919 hq1 (fun r2 σ2 H2 locs2 hr2 hq2 w2 => ?_)
  obtain ⟨he, hz2⟩ := hq2
  subst he
  exact zl_same hx hb dL_1922 (by decide) (k σ2 H2 locs2 hz2 w2)
set_option maxHeartbeats 1000000 in
theorem zl_case44 {p : Program} {l : Launch} {e : Env} {s : State} {m : MethodId} {below : List Frame} {meth : Method} {c : Code} {b L : Nat} {xs : Nat → Int32} {G : zG} {σ : zS} {H : Heap} {locs : List Loc} {ls : Array Slot} {i : Nat} (LC : zLC G l p s m meth c b L xs) (hl : lv_has ls 4 (zll G b i)) (w : zLw G s σ H locs) (hi : i + 7 ≤ L) (hz : zinv σ) (k : ∀ (σ2 : zS) (H2 : Heap) (locs2 : List Loc), zinv σ2 → zLw G s σ2 H2 locs2 → zLW p l e s m b below meth c H2 locs2 (F0 m 2299 ls [])) : zLW p l e s m b below meth c H locs (F0 m 1927 ls []) := by
  have hx := LC.1.1
  have hb := LC.1.2.1
  refine lv_aload_n hx hb dL_1927 rfl (lv_at hl 1 rfl) ?_
  refine zl_arg (k := 1) LC hl w hi (by decide) dL_1928 dL_1929 dL_1930 dL_1931 dL_1932 ?_
  refine zl_call (M' := MX11_got) (as := [zi (zx xs (i + 1))]) (q := 0) (ci := 11) (rs := (zsh 0).2.2) LC mkX11_got (zin_5 (List.mem_of_getElem? (i := 196) (by decide +kernel))) rfl (by decide +kernel) rfl (by decide) (Nat.le_of_ble_eq_true rfl) rfl (zkc zx_in (fun v hv => absurd hv List.not_mem_nil)) hl w dL_1933 (st_got hz) (fun r σ1 H1 locs1 hr1 hq1 w => ?_)
  refine lv_aload_n hx hb dL_1936 rfl (lv_at hl 2 rfl) ?_
  refine zl_arg (k := 1) LC hl w hi (by decide) dL_1937 dL_1938 dL_1939 dL_1940 dL_1941 ?_
  refine zl_call (M' := MX12_got) (as := [zi (zx xs (i + 1))]) (q := 98) (ci := 12) (rs := (zsh 98).2.2) LC mkX12_got (zin_9 (List.mem_of_getElem? (i := 56) (by decide +kernel))) rfl (by decide +kernel) rfl (by decide) (Nat.le_of_ble_eq_true rfl) rfl (zkc zx_in (fun v hv => absurd hv List.not_mem_nil)) hl w dL_1942 hq1 (fun r2 σ2 H2 locs2 hr2 hq2 w2 => ?_)
  obtain ⟨he, hz2⟩ := hq2
  subst he
  exact zl_same hx hb dL_1945 (by decide) (k σ2 H2 locs2 hz2 w2)
set_option maxHeartbeats 1000000 in
theorem zl_case45 {p : Program} {l : Launch} {e : Env} {s : State} {m : MethodId} {below : List Frame} {meth : Method} {c : Code} {b L : Nat} {xs : Nat → Int32} {G : zG} {σ : zS} {H : Heap} {locs : List Loc} {ls : Array Slot} {i : Nat} (LC : zLC G l p s m meth c b L xs) (hl : lv_has ls 4 (zll G b i)) (w : zLw G s σ H locs) (hi : i + 7 ≤ L) (hz : zinv σ) (k : ∀ (σ2 : zS) (H2 : Heap) (locs2 : List Loc), zinv σ2 → zLw G s σ2 H2 locs2 → zLW p l e s m b below meth c H2 locs2 (F0 m 2299 ls [])) : zLW p l e s m b below meth c H locs (F0 m 1950 ls []) := by
  have hx := LC.1.1
  have hb := LC.1.2.1
  refine lv_aload_n hx hb dL_1950 rfl (lv_at hl 1 rfl) ?_
  refine zl_arg (k := 1) LC hl w hi (by decide) dL_1951 dL_1952 dL_1953 dL_1954 dL_1955 ?_
  refine zl_call (M' := MX11_other) (as := [zi (zx xs (i + 1))]) (q := 0) (ci := 11) (rs := (zsh 0).2.2) LC mkX11_other (zin_5 (List.mem_of_getElem? (i := 200) (by decide +kernel))) rfl (by decide +kernel) rfl (by decide) (Nat.le_of_ble_eq_true rfl) rfl (zkc zx_in (fun v hv => absurd hv List.not_mem_nil)) hl w dL_1956 (st_other hz) (fun r σ1 H1 locs1 hr1 hq1 w => ?_)
  refine lv_aload_n hx hb dL_1959 rfl (lv_at hl 2 rfl) ?_
  refine zl_arg (k := 1) LC hl w hi (by decide) dL_1960 dL_1961 dL_1962 dL_1963 dL_1964 ?_
  refine zl_call (M' := MX12_other) (as := [zi (zx xs (i + 1))]) (q := 98) (ci := 12) (rs := (zsh 98).2.2) LC mkX12_other (zin_9 (List.mem_of_getElem? (i := 60) (by decide +kernel))) rfl (by decide +kernel) rfl (by decide) (Nat.le_of_ble_eq_true rfl) rfl (zkc zx_in (fun v hv => absurd hv List.not_mem_nil)) hl w dL_1965 hq1 (fun r2 σ2 H2 locs2 hr2 hq2 w2 => ?_)
  obtain ⟨he, hz2⟩ := hq2
  subst he
  exact zl_same hx hb dL_1968 (by decide) (k σ2 H2 locs2 hz2 w2)
set_option maxHeartbeats 1000000 in
theorem zl_case46 {p : Program} {l : Launch} {e : Env} {s : State} {m : MethodId} {below : List Frame} {meth : Method} {c : Code} {b L : Nat} {xs : Nat → Int32} {G : zG} {σ : zS} {H : Heap} {locs : List Loc} {ls : Array Slot} {i : Nat} (LC : zLC G l p s m meth c b L xs) (hl : lv_has ls 4 (zll G b i)) (w : zLw G s σ H locs) (hi : i + 7 ≤ L) (hz : zinv σ) (k : ∀ (σ2 : zS) (H2 : Heap) (locs2 : List Loc), zinv σ2 → zLw G s σ2 H2 locs2 → zLW p l e s m b below meth c H2 locs2 (F0 m 2299 ls [])) : zLW p l e s m b below meth c H locs (F0 m 1973 ls []) := by
  have hx := LC.1.1
  have hb := LC.1.2.1
  refine lv_aload_n hx hb dL_1973 rfl (lv_at hl 1 rfl) ?_
  refine zl_arg (k := 1) LC hl w hi (by decide) dL_1974 dL_1975 dL_1976 dL_1977 dL_1978 ?_
  refine zl_arg (k := 2) LC hl w hi (by decide) dL_1979 dL_1980 dL_1981 dL_1982 dL_1983 ?_
  refine zl_call (M' := MX11_head) (as := [zi (zx xs (i + 1)), zi (zx xs (i + 2))]) (q := 0) (ci := 11) (rs := (zsh 0).2.2) LC mkX11_head (zin_5 (List.mem_of_getElem? (i := 206) (by decide +kernel))) rfl (by decide +kernel) rfl (by decide) (Nat.le_of_ble_eq_true rfl) rfl (zkc zx_in (zkc zx_in (fun v hv => absurd hv List.not_mem_nil))) hl w dL_1984 (st_head hz) (fun r σ1 H1 locs1 hr1 hq1 w => ?_)
  refine lv_aload_n hx hb dL_1987 rfl (lv_at hl 2 rfl) ?_
  refine zl_arg (k := 1) LC hl w hi (by decide) dL_1988 dL_1989 dL_1990 dL_1991 dL_1992 ?_
  refine zl_arg (k := 2) LC hl w hi (by decide) dL_1993 dL_1994 dL_1995 dL_1996 dL_1997 ?_
  refine zl_call (M' := MX12_head) (as := [zi (zx xs (i + 1)), zi (zx xs (i + 2))]) (q := 98) (ci := 12) (rs := (zsh 98).2.2) LC mkX12_head (zin_9 (List.mem_of_getElem? (i := 66) (by decide +kernel))) rfl (by decide +kernel) rfl (by decide) (Nat.le_of_ble_eq_true rfl) rfl (zkc zx_in (zkc zx_in (fun v hv => absurd hv List.not_mem_nil))) hl w dL_1998 hq1 (fun r2 σ2 H2 locs2 hr2 hq2 w2 => ?_)
  obtain ⟨he, hz2⟩ := hq2
  subst he
  exact zl_same hx hb dL_2001 (by decide) (k σ2 H2 locs2 hz2 w2)
set_option maxHeartbeats 1000000 in
theorem zl_case47 {p : Program} {l : Launch} {e : Env} {s : State} {m : MethodId} {below : List Frame} {meth : Method} {c : Code} {b L : Nat} {xs : Nat → Int32} {G : zG} {σ : zS} {H : Heap} {locs : List Loc} {ls : Array Slot} {i : Nat} (LC : zLC G l p s m meth c b L xs) (hl : lv_has ls 4 (zll G b i)) (w : zLw G s σ H locs) (hi : i + 7 ≤ L) (hz : zinv σ) (k : ∀ (σ2 : zS) (H2 : Heap) (locs2 : List Loc), zinv σ2 → zLw G s σ2 H2 locs2 → zLW p l e s m b below meth c H2 locs2 (F0 m 2299 ls [])) : zLW p l e s m b below meth c H locs (F0 m 2006 ls []) := by
  have hx := LC.1.1
  have hb := LC.1.2.1
  refine lv_aload_n hx hb dL_2006 rfl (lv_at hl 1 rfl) ?_
  refine zl_arg (k := 1) LC hl w hi (by decide) dL_2007 dL_2008 dL_2009 dL_2010 dL_2011 ?_
  refine zl_call (M' := MX11_audit) (as := [zi (zx xs (i + 1))]) (q := 0) (ci := 11) (rs := (zsh 0).2.2) LC mkX11_audit (zin_5 (List.mem_of_getElem? (i := 211) (by decide +kernel))) rfl (by decide +kernel) rfl (by decide) (Nat.le_of_ble_eq_true rfl) rfl (zkc zx_in (fun v hv => absurd hv List.not_mem_nil)) hl w dL_2012 (st_audit hz) (fun r σ1 H1 locs1 hr1 hq1 w => ?_)
  refine lv_aload_n hx hb dL_2015 rfl (lv_at hl 2 rfl) ?_
  refine zl_arg (k := 1) LC hl w hi (by decide) dL_2016 dL_2017 dL_2018 dL_2019 dL_2020 ?_
  refine zl_call (M' := MX12_audit) (as := [zi (zx xs (i + 1))]) (q := 98) (ci := 12) (rs := (zsh 98).2.2) LC mkX12_audit (zin_9 (List.mem_of_getElem? (i := 71) (by decide +kernel))) rfl (by decide +kernel) rfl (by decide) (Nat.le_of_ble_eq_true rfl) rfl (zkc zx_in (fun v hv => absurd hv List.not_mem_nil)) hl w dL_2021 hq1 (fun r2 σ2 H2 locs2 hr2 hq2 w2 => ?_)
  obtain ⟨he, hz2⟩ := hq2
  subst he
  exact zl_same hx hb dL_2024 (by decide) (k σ2 H2 locs2 hz2 w2)
set_option maxHeartbeats 1000000 in
theorem zl_case48 {p : Program} {l : Launch} {e : Env} {s : State} {m : MethodId} {below : List Frame} {meth : Method} {c : Code} {b L : Nat} {xs : Nat → Int32} {G : zG} {σ : zS} {H : Heap} {locs : List Loc} {ls : Array Slot} {i : Nat} (LC : zLC G l p s m meth c b L xs) (hl : lv_has ls 4 (zll G b i)) (w : zLw G s σ H locs) (hi : i + 7 ≤ L) (hz : zinv σ) (k : ∀ (σ2 : zS) (H2 : Heap) (locs2 : List Loc), zinv σ2 → zLw G s σ2 H2 locs2 → zLW p l e s m b below meth c H2 locs2 (F0 m 2299 ls [])) : zLW p l e s m b below meth c H locs (F0 m 2029 ls []) := by
  have hx := LC.1.1
  have hb := LC.1.2.1
  refine lv_aload_n hx hb dL_2029 rfl (lv_at hl 1 rfl) ?_
  refine zl_arg (k := 1) LC hl w hi (by decide) dL_2030 dL_2031 dL_2032 dL_2033 dL_2034 ?_
  refine zl_arg (k := 2) LC hl w hi (by decide) dL_2035 dL_2036 dL_2037 dL_2038 dL_2039 ?_
  refine zl_call (M' := MX11_roof) (as := [zi (zx xs (i + 1)), zi (zx xs (i + 2))]) (q := 0) (ci := 11) (rs := (zsh 0).2.2) LC mkX11_roof (zin_5 (List.mem_of_getElem? (i := 215) (by decide +kernel))) rfl (by decide +kernel) rfl (by decide) (Nat.le_of_ble_eq_true rfl) rfl (zkc zx_in (zkc zx_in (fun v hv => absurd hv List.not_mem_nil))) hl w dL_2040 (st_roof hz) (fun r σ1 H1 locs1 hr1 hq1 w => ?_)
  refine lv_aload_n hx hb dL_2043 rfl (lv_at hl 2 rfl) ?_
  refine zl_arg (k := 1) LC hl w hi (by decide) dL_2044 dL_2045 dL_2046 dL_2047 dL_2048 ?_
  refine zl_arg (k := 2) LC hl w hi (by decide) dL_2049 dL_2050 dL_2051 dL_2052 dL_2053 ?_
  refine zl_call (M' := MX12_roof) (as := [zi (zx xs (i + 1)), zi (zx xs (i + 2))]) (q := 98) (ci := 12) (rs := (zsh 98).2.2) LC mkX12_roof (zin_9 (List.mem_of_getElem? (i := 75) (by decide +kernel))) rfl (by decide +kernel) rfl (by decide) (Nat.le_of_ble_eq_true rfl) rfl (zkc zx_in (zkc zx_in (fun v hv => absurd hv List.not_mem_nil))) hl w dL_2054 hq1 (fun r2 σ2 H2 locs2 hr2 hq2 w2 => ?_)
  obtain ⟨he, hz2⟩ := hq2
  subst he
  exact zl_same hx hb dL_2057 (by decide) (k σ2 H2 locs2 hz2 w2)
set_option maxHeartbeats 1000000 in
theorem zl_case49 {p : Program} {l : Launch} {e : Env} {s : State} {m : MethodId} {below : List Frame} {meth : Method} {c : Code} {b L : Nat} {xs : Nat → Int32} {G : zG} {σ : zS} {H : Heap} {locs : List Loc} {ls : Array Slot} {i : Nat} (LC : zLC G l p s m meth c b L xs) (hl : lv_has ls 4 (zll G b i)) (w : zLw G s σ H locs) (hi : i + 7 ≤ L) (hz : zinv σ) (k : ∀ (σ2 : zS) (H2 : Heap) (locs2 : List Loc), zinv σ2 → zLw G s σ2 H2 locs2 → zLW p l e s m b below meth c H2 locs2 (F0 m 2299 ls [])) : zLW p l e s m b below meth c H locs (F0 m 2062 ls []) := by
  have hx := LC.1.1
  have hb := LC.1.2.1
  refine lv_aload_n hx hb dL_2062 rfl (lv_at hl 1 rfl) ?_
  refine zl_arg (k := 1) LC hl w hi (by decide) dL_2063 dL_2064 dL_2065 dL_2066 dL_2067 ?_
  refine zl_arg (k := 2) LC hl w hi (by decide) dL_2068 dL_2069 dL_2070 dL_2071 dL_2072 ?_
  refine zl_arg (k := 3) LC hl w hi (by decide) dL_2073 dL_2074 dL_2075 dL_2076 dL_2077 ?_
  refine zl_call (M' := MX11_plan) (as := [zi (zx xs (i + 1)), zi (zx xs (i + 2)), zi (zx xs (i + 3))]) (q := 0) (ci := 11) (rs := (zsh 0).2.2) LC mkX11_plan (zin_5 (List.mem_of_getElem? (i := 223) (by decide +kernel))) rfl (by decide +kernel) rfl (by decide) (Nat.le_of_ble_eq_true rfl) rfl (zkc zx_in (zkc zx_in (zkc zx_in (fun v hv => absurd hv List.not_mem_nil)))) hl w dL_2078 (st_plan hz) (fun r σ1 H1 locs1 hr1 hq1 w => ?_)
  refine lv_aload_n hx hb dL_2081 rfl (lv_at hl 2 rfl) ?_
  refine zl_arg (k := 1) LC hl w hi (by decide) dL_2082 dL_2083 dL_2084 dL_2085 dL_2086 ?_
  refine zl_arg (k := 2) LC hl w hi (by decide) dL_2087 dL_2088 dL_2089 dL_2090 dL_2091 ?_
  refine zl_arg (k := 3) LC hl w hi (by decide) dL_2092 dL_2093 dL_2094 dL_2095 dL_2096 ?_
  refine zl_call (M' := MX12_plan) (as := [zi (zx xs (i + 1)), zi (zx xs (i + 2)), zi (zx xs (i + 3))]) (q := 98) (ci := 12) (rs := (zsh 98).2.2) LC mkX12_plan (zin_9 (List.mem_of_getElem? (i := 79) (by decide +kernel))) rfl (by decide +kernel) rfl (by decide) (Nat.le_of_ble_eq_true rfl) rfl (zkc zx_in (zkc zx_in (zkc zx_in (fun v hv => absurd hv List.not_mem_nil)))) hl w dL_2097 hq1 (fun r2 σ2 H2 locs2 hr2 hq2 w2 => ?_)
  obtain ⟨he, hz2⟩ := hq2
  subst he
  exact zl_same hx hb dL_2100 (by decide) (k σ2 H2 locs2 hz2 w2)
set_option maxHeartbeats 1000000 in
theorem zl_case50 {p : Program} {l : Launch} {e : Env} {s : State} {m : MethodId} {below : List Frame} {meth : Method} {c : Code} {b L : Nat} {xs : Nat → Int32} {G : zG} {σ : zS} {H : Heap} {locs : List Loc} {ls : Array Slot} {i : Nat} (LC : zLC G l p s m meth c b L xs) (hl : lv_has ls 4 (zll G b i)) (w : zLw G s σ H locs) (hi : i + 7 ≤ L) (hz : zinv σ) (k : ∀ (σ2 : zS) (H2 : Heap) (locs2 : List Loc), zinv σ2 → zLw G s σ2 H2 locs2 → zLW p l e s m b below meth c H2 locs2 (F0 m 2299 ls [])) : zLW p l e s m b below meth c H locs (F0 m 2105 ls []) := by
  have hx := LC.1.1
  have hb := LC.1.2.1
  refine lv_aload_n hx hb dL_2105 rfl (lv_at hl 1 rfl) ?_
  refine zl_arg (k := 1) LC hl w hi (by decide) dL_2106 dL_2107 dL_2108 dL_2109 dL_2110 ?_
  refine zl_call (M' := MX11_planned) (as := [zi (zx xs (i + 1))]) (q := 0) (ci := 11) (rs := (zsh 0).2.2) LC mkX11_planned (zin_6 (List.mem_of_getElem? (i := 27) (by decide +kernel))) rfl (by decide +kernel) rfl (by decide) (Nat.le_of_ble_eq_true rfl) rfl (zkc zx_in (fun v hv => absurd hv List.not_mem_nil)) hl w dL_2111 (st_planned hz) (fun r σ1 H1 locs1 hr1 hq1 w => ?_)
  refine lv_aload_n hx hb dL_2114 rfl (lv_at hl 2 rfl) ?_
  refine zl_arg (k := 1) LC hl w hi (by decide) dL_2115 dL_2116 dL_2117 dL_2118 dL_2119 ?_
  refine zl_call (M' := MX12_planned) (as := [zi (zx xs (i + 1))]) (q := 98) (ci := 12) (rs := (zsh 98).2.2) LC mkX12_planned (zin_9 (List.mem_of_getElem? (i := 94) (by decide +kernel))) rfl (by decide +kernel) rfl (by decide) (Nat.le_of_ble_eq_true rfl) rfl (zkc zx_in (fun v hv => absurd hv List.not_mem_nil)) hl w dL_2120 hq1 (fun r2 σ2 H2 locs2 hr2 hq2 w2 => ?_)
  obtain ⟨he, hz2⟩ := hq2
  subst he
  exact zl_same hx hb dL_2123 (by decide) (k σ2 H2 locs2 hz2 w2)
set_option maxHeartbeats 1000000 in
theorem zl_case51 {p : Program} {l : Launch} {e : Env} {s : State} {m : MethodId} {below : List Frame} {meth : Method} {c : Code} {b L : Nat} {xs : Nat → Int32} {G : zG} {σ : zS} {H : Heap} {locs : List Loc} {ls : Array Slot} {i : Nat} (LC : zLC G l p s m meth c b L xs) (hl : lv_has ls 4 (zll G b i)) (w : zLw G s σ H locs) (hi : i + 7 ≤ L) (hz : zinv σ) (k : ∀ (σ2 : zS) (H2 : Heap) (locs2 : List Loc), zinv σ2 → zLw G s σ2 H2 locs2 → zLW p l e s m b below meth c H2 locs2 (F0 m 2299 ls [])) : zLW p l e s m b below meth c H locs (F0 m 2128 ls []) := by
  have hx := LC.1.1
  have hb := LC.1.2.1
  refine lv_aload_n hx hb dL_2128 rfl (lv_at hl 1 rfl) ?_
  refine zl_arg (k := 1) LC hl w hi (by decide) dL_2129 dL_2130 dL_2131 dL_2132 dL_2133 ?_
  refine zl_arg (k := 2) LC hl w hi (by decide) dL_2134 dL_2135 dL_2136 dL_2137 dL_2138 ?_
  refine zl_arg (k := 3) LC hl w hi (by decide) dL_2139 dL_2140 dL_2141 dL_2142 dL_2143 ?_
  refine zl_arg (k := 4) LC hl w hi (by decide) dL_2144 dL_2145 dL_2146 dL_2147 dL_2148 ?_
  refine zl_call (M' := MX11_judge) (as := [zi (zx xs (i + 1)), zi (zx xs (i + 2)), zi (zx xs (i + 3)), zi (zx xs (i + 4))]) (q := 0) (ci := 11) (rs := (zsh 0).2.2) LC mkX11_judge (zin_6 (List.mem_of_getElem? (i := 35) (by decide +kernel))) rfl (by decide +kernel) rfl (by decide) (Nat.le_of_ble_eq_true rfl) rfl (zkc zx_in (zkc zx_in (zkc zx_in (zkc zx_in (fun v hv => absurd hv List.not_mem_nil))))) hl w dL_2149 (st_judge hz) (fun r σ1 H1 locs1 hr1 hq1 w => ?_)
  refine lv_aload_n hx hb dL_2152 rfl (lv_at hl 2 rfl) ?_
  refine zl_arg (k := 1) LC hl w hi (by decide) dL_2153 dL_2154 dL_2155 dL_2156 dL_2157 ?_
  refine zl_arg (k := 2) LC hl w hi (by decide) dL_2158 dL_2159 dL_2160 dL_2161 dL_2162 ?_
  refine zl_arg (k := 3) LC hl w hi (by decide) dL_2163 dL_2164 dL_2165 dL_2166 dL_2167 ?_
  refine zl_arg (k := 4) LC hl w hi (by decide) dL_2168 dL_2169 dL_2170 dL_2171 dL_2172 ?_
  refine zl_call (M' := MX12_judge) (as := [zi (zx xs (i + 1)), zi (zx xs (i + 2)), zi (zx xs (i + 3)), zi (zx xs (i + 4))]) (q := 98) (ci := 12) (rs := (zsh 98).2.2) LC mkX12_judge (zin_9 (List.mem_of_getElem? (i := 98) (by decide +kernel))) rfl (by decide +kernel) rfl (by decide) (Nat.le_of_ble_eq_true rfl) rfl (zkc zx_in (zkc zx_in (zkc zx_in (zkc zx_in (fun v hv => absurd hv List.not_mem_nil))))) hl w dL_2173 hq1 (fun r2 σ2 H2 locs2 hr2 hq2 w2 => ?_)
  obtain ⟨he, hz2⟩ := hq2
  subst he
  exact zl_same hx hb dL_2176 (by decide) (k σ2 H2 locs2 hz2 w2)
set_option maxHeartbeats 1000000 in
theorem zl_case52 {p : Program} {l : Launch} {e : Env} {s : State} {m : MethodId} {below : List Frame} {meth : Method} {c : Code} {b L : Nat} {xs : Nat → Int32} {G : zG} {σ : zS} {H : Heap} {locs : List Loc} {ls : Array Slot} {i : Nat} (LC : zLC G l p s m meth c b L xs) (hl : lv_has ls 4 (zll G b i)) (w : zLw G s σ H locs) (hi : i + 7 ≤ L) (hz : zinv σ) (k : ∀ (σ2 : zS) (H2 : Heap) (locs2 : List Loc), zinv σ2 → zLw G s σ2 H2 locs2 → zLW p l e s m b below meth c H2 locs2 (F0 m 2299 ls [])) : zLW p l e s m b below meth c H locs (F0 m 2181 ls []) := by
  have hx := LC.1.1
  have hb := LC.1.2.1
  refine lv_aload_n hx hb dL_2181 rfl (lv_at hl 1 rfl) ?_
  refine zl_call (M' := MX11_room) (as := []) (q := 0) (ci := 11) (rs := (zsh 0).2.2) LC mkX11_room (zin_6 (List.mem_of_getElem? (i := 52) (by decide +kernel))) rfl (by decide +kernel) rfl (by decide) (Nat.le_of_ble_eq_true rfl) rfl (fun v hv => absurd hv List.not_mem_nil) hl w dL_2182 (st_room hz) (fun r σ1 H1 locs1 hr1 hq1 w => ?_)
  refine lv_aload_n hx hb dL_2185 rfl (lv_at hl 2 rfl) ?_
  refine zl_call (M' := MX12_room) (as := []) (q := 98) (ci := 12) (rs := (zsh 98).2.2) LC mkX12_room (zin_9 (List.mem_of_getElem? (i := 102) (by decide +kernel))) rfl (by decide +kernel) rfl (by decide) (Nat.le_of_ble_eq_true rfl) rfl (fun v hv => absurd hv List.not_mem_nil) hl w dL_2186 hq1 (fun r2 σ2 H2 locs2 hr2 hq2 w2 => ?_)
  obtain ⟨he, hz2⟩ := hq2
  subst he
  exact zl_same hx hb dL_2189 (by decide) (k σ2 H2 locs2 hz2 w2)
set_option maxHeartbeats 1000000 in
theorem zl_case53 {p : Program} {l : Launch} {e : Env} {s : State} {m : MethodId} {below : List Frame} {meth : Method} {c : Code} {b L : Nat} {xs : Nat → Int32} {G : zG} {σ : zS} {H : Heap} {locs : List Loc} {ls : Array Slot} {i : Nat} (LC : zLC G l p s m meth c b L xs) (hl : lv_has ls 4 (zll G b i)) (w : zLw G s σ H locs) (hi : i + 7 ≤ L) (hz : zinv σ) (k : ∀ (σ2 : zS) (H2 : Heap) (locs2 : List Loc), zinv σ2 → zLw G s σ2 H2 locs2 → zLW p l e s m b below meth c H2 locs2 (F0 m 2299 ls [])) : zLW p l e s m b below meth c H locs (F0 m 2194 ls []) := by
  have hx := LC.1.1
  have hb := LC.1.2.1
  refine lv_aload_n hx hb dL_2194 rfl (lv_at hl 1 rfl) ?_
  refine zl_arg (k := 1) LC hl w hi (by decide) dL_2195 dL_2196 dL_2197 dL_2198 dL_2199 ?_
  refine zl_arg (k := 2) LC hl w hi (by decide) dL_2200 dL_2201 dL_2202 dL_2203 dL_2204 ?_
  refine zl_call (M' := MX11_wish) (as := [zi (zx xs (i + 1)), zi (zx xs (i + 2))]) (q := 0) (ci := 11) (rs := (zsh 0).2.2) LC mkX11_wish (zin_6 (List.mem_of_getElem? (i := 56) (by decide +kernel))) rfl (by decide +kernel) rfl (by decide) (Nat.le_of_ble_eq_true rfl) rfl (zkc zx_in (zkc zx_in (fun v hv => absurd hv List.not_mem_nil))) hl w dL_2205 (st_wish hz) (fun r σ1 H1 locs1 hr1 hq1 w => ?_)
  refine lv_aload_n hx hb dL_2208 rfl (lv_at hl 2 rfl) ?_
  refine zl_arg (k := 1) LC hl w hi (by decide) dL_2209 dL_2210 dL_2211 dL_2212 dL_2213 ?_
  refine zl_arg (k := 2) LC hl w hi (by decide) dL_2214 dL_2215 dL_2216 dL_2217 dL_2218 ?_
  refine zl_call (M' := MX12_wish) (as := [zi (zx xs (i + 1)), zi (zx xs (i + 2))]) (q := 98) (ci := 12) (rs := (zsh 98).2.2) LC mkX12_wish (zin_9 (List.mem_of_getElem? (i := 106) (by decide +kernel))) rfl (by decide +kernel) rfl (by decide) (Nat.le_of_ble_eq_true rfl) rfl (zkc zx_in (zkc zx_in (fun v hv => absurd hv List.not_mem_nil))) hl w dL_2219 hq1 (fun r2 σ2 H2 locs2 hr2 hq2 w2 => ?_)
  obtain ⟨he, hz2⟩ := hq2
  subst he
  exact zl_same hx hb dL_2222 (by decide) (k σ2 H2 locs2 hz2 w2)
set_option maxHeartbeats 1000000 in
theorem zl_case54 {p : Program} {l : Launch} {e : Env} {s : State} {m : MethodId} {below : List Frame} {meth : Method} {c : Code} {b L : Nat} {xs : Nat → Int32} {G : zG} {σ : zS} {H : Heap} {locs : List Loc} {ls : Array Slot} {i : Nat} (LC : zLC G l p s m meth c b L xs) (hl : lv_has ls 4 (zll G b i)) (w : zLw G s σ H locs) (hi : i + 7 ≤ L) (hz : zinv σ) (k : ∀ (σ2 : zS) (H2 : Heap) (locs2 : List Loc), zinv σ2 → zLw G s σ2 H2 locs2 → zLW p l e s m b below meth c H2 locs2 (F0 m 2299 ls [])) : zLW p l e s m b below meth c H locs (F0 m 2227 ls []) := by
  have hx := LC.1.1
  have hb := LC.1.2.1
  refine lv_aload_n hx hb dL_2227 rfl (lv_at hl 1 rfl) ?_
  refine zl_call (M' := MX11_choose) (as := []) (q := 0) (ci := 11) (rs := (zsh 0).2.2) LC mkX11_choose (zin_6 (List.mem_of_getElem? (i := 60) (by decide +kernel))) rfl (by decide +kernel) rfl (by decide) (Nat.le_of_ble_eq_true rfl) rfl (fun v hv => absurd hv List.not_mem_nil) hl w dL_2228 (st_choose hz) (fun r σ1 H1 locs1 hr1 hq1 w => ?_)
  refine lv_aload_n hx hb dL_2231 rfl (lv_at hl 2 rfl) ?_
  refine zl_call (M' := MX12_choose) (as := []) (q := 98) (ci := 12) (rs := (zsh 98).2.2) LC mkX12_choose (zin_9 (List.mem_of_getElem? (i := 110) (by decide +kernel))) rfl (by decide +kernel) rfl (by decide) (Nat.le_of_ble_eq_true rfl) rfl (fun v hv => absurd hv List.not_mem_nil) hl w dL_2232 hq1 (fun r2 σ2 H2 locs2 hr2 hq2 w2 => ?_)
  obtain ⟨he, hz2⟩ := hq2
  subst he
  exact zl_same hx hb dL_2235 (by decide) (k σ2 H2 locs2 hz2 w2)
set_option maxHeartbeats 1000000 in
theorem zl_case55 {p : Program} {l : Launch} {e : Env} {s : State} {m : MethodId} {below : List Frame} {meth : Method} {c : Code} {b L : Nat} {xs : Nat → Int32} {G : zG} {σ : zS} {H : Heap} {locs : List Loc} {ls : Array Slot} {i : Nat} (LC : zLC G l p s m meth c b L xs) (hl : lv_has ls 4 (zll G b i)) (w : zLw G s σ H locs) (hi : i + 7 ≤ L) (hz : zinv σ) (k : ∀ (σ2 : zS) (H2 : Heap) (locs2 : List Loc), zinv σ2 → zLw G s σ2 H2 locs2 → zLW p l e s m b below meth c H2 locs2 (F0 m 2299 ls [])) : zLW p l e s m b below meth c H locs (F0 m 2240 ls []) := by
  have hx := LC.1.1
  have hb := LC.1.2.1
  refine lv_aload_n hx hb dL_2240 rfl (lv_at hl 1 rfl) ?_
  refine zl_call (M' := MX11_exchange) (as := []) (q := 0) (ci := 11) (rs := (zsh 0).2.2) LC mkX11_exchange (zin_6 (List.mem_of_getElem? (i := 70) (by decide +kernel))) rfl (by decide +kernel) rfl (by decide) (Nat.le_of_ble_eq_true rfl) rfl (fun v hv => absurd hv List.not_mem_nil) hl w dL_2241 (st_exchange hz) (fun r σ1 H1 locs1 hr1 hq1 w => ?_)
  refine lv_aload_n hx hb dL_2244 rfl (lv_at hl 2 rfl) ?_
  refine zl_call (M' := MX12_exchange) (as := []) (q := 98) (ci := 12) (rs := (zsh 98).2.2) LC mkX12_exchange (zin_9 (List.mem_of_getElem? (i := 118) (by decide +kernel))) rfl (by decide +kernel) rfl (by decide) (Nat.le_of_ble_eq_true rfl) rfl (fun v hv => absurd hv List.not_mem_nil) hl w dL_2245 hq1 (fun r2 σ2 H2 locs2 hr2 hq2 w2 => ?_)
  obtain ⟨he, hz2⟩ := hq2
  subst he
  exact zl_same hx hb dL_2248 (by decide) (k σ2 H2 locs2 hz2 w2)
set_option maxHeartbeats 1000000 in
theorem zl_case56 {p : Program} {l : Launch} {e : Env} {s : State} {m : MethodId} {below : List Frame} {meth : Method} {c : Code} {b L : Nat} {xs : Nat → Int32} {G : zG} {σ : zS} {H : Heap} {locs : List Loc} {ls : Array Slot} {i : Nat} (LC : zLC G l p s m meth c b L xs) (hl : lv_has ls 4 (zll G b i)) (w : zLw G s σ H locs) (hi : i + 7 ≤ L) (hz : zinv σ) (k : ∀ (σ2 : zS) (H2 : Heap) (locs2 : List Loc), zinv σ2 → zLw G s σ2 H2 locs2 → zLW p l e s m b below meth c H2 locs2 (F0 m 2299 ls [])) : zLW p l e s m b below meth c H locs (F0 m 2253 ls []) := by
  have hx := LC.1.1
  have hb := LC.1.2.1
  refine lv_aload_n hx hb dL_2253 rfl (lv_at hl 1 rfl) ?_
  refine zl_arg (k := 1) LC hl w hi (by decide) dL_2254 dL_2255 dL_2256 dL_2257 dL_2258 ?_
  refine zl_call (M' := MX11_roomOf) (as := [zi (zx xs (i + 1))]) (q := 0) (ci := 11) (rs := (zsh 0).2.2) LC mkX11_roomOf (zin_6 (List.mem_of_getElem? (i := 86) (by decide +kernel))) rfl (by decide +kernel) rfl (by decide) (Nat.le_of_ble_eq_true rfl) rfl (zkc zx_in (fun v hv => absurd hv List.not_mem_nil)) hl w dL_2259 (st_roomOf hz) (fun r σ1 H1 locs1 hr1 hq1 w => ?_)
  refine lv_aload_n hx hb dL_2262 rfl (lv_at hl 2 rfl) ?_
  refine zl_arg (k := 1) LC hl w hi (by decide) dL_2263 dL_2264 dL_2265 dL_2266 dL_2267 ?_
  refine zl_call (M' := MX12_roomOf) (as := [zi (zx xs (i + 1))]) (q := 98) (ci := 12) (rs := (zsh 98).2.2) LC mkX12_roomOf (zin_9 (List.mem_of_getElem? (i := 126) (by decide +kernel))) rfl (by decide +kernel) rfl (by decide) (Nat.le_of_ble_eq_true rfl) rfl (zkc zx_in (fun v hv => absurd hv List.not_mem_nil)) hl w dL_2268 hq1 (fun r2 σ2 H2 locs2 hr2 hq2 w2 => ?_)
  obtain ⟨he, hz2⟩ := hq2
  subst he
  exact zl_same hx hb dL_2271 (by decide) (k σ2 H2 locs2 hz2 w2)
set_option maxHeartbeats 1000000 in
theorem zl_case57 {p : Program} {l : Launch} {e : Env} {s : State} {m : MethodId} {below : List Frame} {meth : Method} {c : Code} {b L : Nat} {xs : Nat → Int32} {G : zG} {σ : zS} {H : Heap} {locs : List Loc} {ls : Array Slot} {i : Nat} (LC : zLC G l p s m meth c b L xs) (hl : lv_has ls 4 (zll G b i)) (w : zLw G s σ H locs) (hi : i + 7 ≤ L) (hz : zinv σ) (k : ∀ (σ2 : zS) (H2 : Heap) (locs2 : List Loc), zinv σ2 → zLw G s σ2 H2 locs2 → zLW p l e s m b below meth c H2 locs2 (F0 m 2299 ls [])) : zLW p l e s m b below meth c H locs (F0 m 2276 ls []) := by
  have hx := LC.1.1
  have hb := LC.1.2.1
  refine lv_aload_n hx hb dL_2276 rfl (lv_at hl 1 rfl) ?_
  refine zl_arg (k := 1) LC hl w hi (by decide) dL_2277 dL_2278 dL_2279 dL_2280 dL_2281 ?_
  refine zl_call (M' := MX11_status) (as := [zi (zx xs (i + 1))]) (q := 0) (ci := 11) (rs := (zsh 0).2.2) LC mkX11_status (zin_6 (List.mem_of_getElem? (i := 90) (by decide +kernel))) rfl (by decide +kernel) rfl (by decide) (Nat.le_of_ble_eq_true rfl) rfl (zkc zx_in (fun v hv => absurd hv List.not_mem_nil)) hl w dL_2282 (st_status hz) (fun r σ1 H1 locs1 hr1 hq1 w => ?_)
  refine lv_aload_n hx hb dL_2285 rfl (lv_at hl 2 rfl) ?_
  refine zl_arg (k := 1) LC hl w hi (by decide) dL_2286 dL_2287 dL_2288 dL_2289 dL_2290 ?_
  refine zl_call (M' := MX12_status) (as := [zi (zx xs (i + 1))]) (q := 98) (ci := 12) (rs := (zsh 98).2.2) LC mkX12_status (zin_9 (List.mem_of_getElem? (i := 130) (by decide +kernel))) rfl (by decide +kernel) rfl (by decide) (Nat.le_of_ble_eq_true rfl) rfl (zkc zx_in (fun v hv => absurd hv List.not_mem_nil)) hl w dL_2291 hq1 (fun r2 σ2 H2 locs2 hr2 hq2 w2 => ?_)
  obtain ⟨he, hz2⟩ := hq2
  subst he
  exact zl_same hx hb dL_2294 (by decide) (k σ2 H2 locs2 hz2 w2)
