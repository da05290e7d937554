/-! THE LAW: its cases -/
set_option maxHeartbeats 1000000 in
theorem zl_case20 {p : Program} {l : Launch} {e : Env} {s : State} {m : MethodId} {below : List Frame} {meth : Method} {c : Code} {b L : Nat} {xs : Nat → Int32} {G : zG} {σ : zS} {H : Heap} {locs : List Loc} {ls : Array Slot} {i : Nat} (LC : zLC G l p s m meth c b L xs) (hl : lv_has ls 4 (zll G b i)) (w : zLw G s σ H locs) (hi : i + 7 ≤ L) (hz : zinv σ) (k : ∀ (σ2 : zS) (H2 : Heap) (locs2 : List Loc), zinv σ2 → zLw G s σ2 H2 locs2 → zLW p l e s m b below meth c H2 locs2 (F0 m 2299 ls [])) : zLW p l e s m b below meth c H locs (F0 m 1087 ls []) := by
  have hx := LC.1.1
  have hb := LC.1.2.1
  refine lv_aload_n hx hb dL_1087 rfl (lv_at hl 1 rfl) ?_
  refine zl_arg (k := 1) LC hl w hi (by decide) dL_1088 dL_1089 dL_1090 dL_1091 dL_1092 ?_
  refine zl_arg (k := 2) LC hl w hi (by decide) dL_1093 dL_1094 dL_1095 dL_1096 dL_1097 ?_
  refine zl_arg (k := 3) LC hl w hi (by decide) dL_1098 dL_1099 dL_1100 dL_1101 dL_1102 ?_
  refine zl_call (M' := MX11_fault) (as := [zi (zx xs (i + 1)), zi (zx xs (i + 2)), zi (zx xs (i + 3))]) (q := 0) (ci := 11) (rs := (zsh 0).2.2) LC mkX11_fault (zin_4 (List.mem_of_getElem? (i := 135) (by decide +kernel))) rfl (by decide +kernel) rfl (by decide) (Nat.le_of_ble_eq_true rfl) rfl (zkc zx_in (zkc zx_in (zkc zx_in (fun v hv => absurd hv List.not_mem_nil)))) hl w dL_1103 (st_fault hz) (fun r σ1 H1 locs1 hr1 hq1 w => ?_)
  refine lv_aload_n hx hb dL_1106 rfl (lv_at hl 2 rfl) ?_
  refine zl_arg (k := 1) LC hl w hi (by decide) dL_1107 dL_1108 dL_1109 dL_1110 dL_1111 ?_
  refine zl_arg (k := 2) LC hl w hi (by decide) dL_1112 dL_1113 dL_1114 dL_1115 dL_1116 ?_
  refine zl_arg (k := 3) LC hl w hi (by decide) dL_1117 dL_1118 dL_1119 dL_1120 dL_1121 ?_
  refine zl_call (M' := MX12_fault) (as := [zi (zx xs (i + 1)), zi (zx xs (i + 2)), zi (zx xs (i + 3))]) (q := 98) (ci := 12) (rs := (zsh 98).2.2) LC mkX12_fault (zin_8 (List.mem_of_getElem? (i := 78) (by decide +kernel))) rfl (by decide +kernel) rfl (by decide) (Nat.le_of_ble_eq_true rfl) rfl (zkc zx_in (zkc zx_in (zkc zx_in (fun v hv => absurd hv List.not_mem_nil)))) hl w dL_1122 hq1 (fun r2 σ2 H2 locs2 hr2 hq2 w2 => ?_)
  obtain ⟨he, hz2⟩ := hq2
  subst he
  exact zl_same hx hb dL_1125 (by decide) (k σ2 H2 locs2 hz2 w2)
set_option maxHeartbeats 1000000 in
theorem zl_case21 {p : Program} {l : Launch} {e : Env} {s : State} {m : MethodId} {below : List Frame} {meth : Method} {c : Code} {b L : Nat} {xs : Nat → Int32} {G : zG} {σ : zS} {H : Heap} {locs : List Loc} {ls : Array Slot} {i : Nat} (LC : zLC G l p s m meth c b L xs) (hl : lv_has ls 4 (zll G b i)) (w : zLw G s σ H locs) (hi : i + 7 ≤ L) (hz : zinv σ) (k : ∀ (σ2 : zS) (H2 : Heap) (locs2 : List Loc), zinv σ2 → zLw G s σ2 H2 locs2 → zLW p l e s m b below meth c H2 locs2 (F0 m 2299 ls [])) : zLW p l e s m b below meth c H locs (F0 m 1130 ls []) := by
  have hx := LC.1.1
  have hb := LC.1.2.1
  refine lv_aload_n hx hb dL_1130 rfl (lv_at hl 1 rfl) ?_
  refine zl_arg (k := 1) LC hl w hi (by decide) dL_1131 dL_1132 dL_1133 dL_1134 dL_1135 ?_
  refine zl_arg (k := 2) LC hl w hi (by decide) dL_1136 dL_1137 dL_1138 dL_1139 dL_1140 ?_
  refine zl_arg (k := 3) LC hl w hi (by decide) dL_1141 dL_1142 dL_1143 dL_1144 dL_1145 ?_
  refine zl_arg (k := 4) LC hl w hi (by decide) dL_1146 dL_1147 dL_1148 dL_1149 dL_1150 ?_
  refine zl_call (M' := MX11_may) (as := [zi (zx xs (i + 1)), zi (zx xs (i + 2)), zi (zx xs (i + 3)), zi (zx xs (i + 4))]) (q := 0) (ci := 11) (rs := (zsh 0).2.2) LC mkX11_may (zin_4 (List.mem_of_getElem? (i := 140) (by decide +kernel))) rfl (by decide +kernel) rfl (by decide) (Nat.le_of_ble_eq_true rfl) rfl (zkc zx_in (zkc zx_in (zkc zx_in (zkc zx_in (fun v hv => absurd hv List.not_mem_nil))))) hl w dL_1151 (st_may hz) (fun r σ1 H1 locs1 hr1 hq1 w => ?_)
  refine lv_aload_n hx hb dL_1154 rfl (lv_at hl 2 rfl) ?_
  refine zl_arg (k := 1) LC hl w hi (by decide) dL_1155 dL_1156 dL_1157 dL_1158 dL_1159 ?_
  refine zl_arg (k := 2) LC hl w hi (by decide) dL_1160 dL_1161 dL_1162 dL_1163 dL_1164 ?_
  refine zl_arg (k := 3) LC hl w hi (by decide) dL_1165 dL_1166 dL_1167 dL_1168 dL_1169 ?_
  refine zl_arg (k := 4) LC hl w hi (by decide) dL_1170 dL_1171 dL_1172 dL_1173 dL_1174 ?_
  refine zl_call (M' := MX12_may) (as := [zi (zx xs (i + 1)), zi (zx xs (i + 2)), zi (zx xs (i + 3)), zi (zx xs (i + 4))]) (q := 98) (ci := 12) (rs := (zsh 98).2.2) LC mkX12_may (zin_8 (List.mem_of_getElem? (i := 102) (by decide +kernel))) rfl (by decide +kernel) rfl (by decide) (Nat.le_of_ble_eq_true rfl) rfl (zkc zx_in (zkc zx_in (zkc zx_in (zkc zx_in (fun v hv => absurd hv List.not_mem_nil))))) hl w dL_1175 hq1 (fun r2 σ2 H2 locs2 hr2 hq2 w2 => ?_)
  obtain ⟨he, hz2⟩ := hq2
  subst he
  exact zl_same hx hb dL_1178 (by decide) (k σ2 H2 locs2 hz2 w2)
set_option maxHeartbeats 1000000 in
theorem zl_case22 {p : Program} {l : Launch} {e : Env} {s : State} {m : MethodId} {below : List Frame} {meth : Method} {c : Code} {b L : Nat} {xs : Nat → Int32} {G : zG} {σ : zS} {H : Heap} {locs : List Loc} {ls : Array Slot} {i : Nat} (LC : zLC G l p s m meth c b L xs) (hl : lv_has ls 4 (zll G b i)) (w : zLw G s σ H locs) (hi : i + 7 ≤ L) (hz : zinv σ) (k : ∀ (σ2 : zS) (H2 : Heap) (locs2 : List Loc), zinv σ2 → zLw G s σ2 H2 locs2 → zLW p l e s m b below meth c H2 locs2 (F0 m 2299 ls [])) : zLW p l e s m b below meth c H locs (F0 m 1183 ls []) := by
  have hx := LC.1.1
  have hb := LC.1.2.1
  refine lv_aload_n hx hb dL_1183 rfl (lv_at hl 1 rfl) ?_
  refine zl_arg (k := 1) LC hl w hi (by decide) dL_1184 dL_1185 dL_1186 dL_1187 dL_1188 ?_
  refine zl_arg (k := 2) LC hl w hi (by decide) dL_1189 dL_1190 dL_1191 dL_1192 dL_1193 ?_
  refine zl_arg (k := 3) LC hl w hi (by decide) dL_1194 dL_1195 dL_1196 dL_1197 dL_1198 ?_
  refine zl_arg (k := 4) LC hl w hi (by decide) dL_1199 dL_1200 dL_1201 dL_1202 dL_1203 ?_
  refine zl_arg (k := 5) LC hl w hi (by decide) dL_1204 dL_1205 dL_1206 dL_1207 dL_1208 ?_
  refine zl_call (M' := MX11_test) (as := [zi (zx xs (i + 1)), zi (zx xs (i + 2)), zi (zx xs (i + 3)), zi (zx xs (i + 4)), zi (zx xs (i + 5))]) (q := 0) (ci := 11) (rs := (zsh 0).2.2) LC mkX11_test (zin_4 (List.mem_of_getElem? (i := 144) (by decide +kernel))) rfl (by decide +kernel) rfl (by decide) (Nat.le_of_ble_eq_true rfl) rfl (zkc zx_in (zkc zx_in (zkc zx_in (zkc zx_in (zkc zx_in (fun v hv => absurd hv List.not_mem_nil)))))) hl w dL_1209 (st_test hz) (fun r σ1 H1 locs1 hr1 hq1 w => ?_)
  refine lv_aload_n hx hb dL_1212 rfl (lv_at hl 2 rfl) ?_
  refine zl_arg (k := 1) LC hl w hi (by decide) dL_1213 dL_1214 dL_1215 dL_1216 dL_1217 ?_
  refine zl_arg (k := 2) LC hl w hi (by decide) dL_1218 dL_1219 dL_1220 dL_1221 dL_1222 ?_
  refine zl_arg (k := 3) LC hl w hi (by decide) dL_1223 dL_1224 dL_1225 dL_1226 dL_1227 ?_
  refine zl_arg (k := 4) LC hl w hi (by decide) dL_1228 dL_1229 dL_1230 dL_1231 dL_1232 ?_
  refine zl_arg (k := 5) LC hl w hi (by decide) dL_1233 dL_1234 dL_1235 dL_1236 dL_1237 ?_
  refine zl_call (M' := MX12_test) (as := [zi (zx xs (i + 1)), zi (zx xs (i + 2)), zi (zx xs (i + 3)), zi (zx xs (i + 4)), zi (zx xs (i + 5))]) (q := 98) (ci := 12) (rs := (zsh 98).2.2) LC mkX12_test (zin_8 (List.mem_of_getElem? (i := 121) (by decide +kernel))) rfl (by decide +kernel) rfl (by decide) (Nat.le_of_ble_eq_true rfl) rfl (zkc zx_in (zkc zx_in (zkc zx_in (zkc zx_in (zkc zx_in (fun v hv => absurd hv List.not_mem_nil)))))) hl w dL_1238 hq1 (fun r2 σ2 H2 locs2 hr2 hq2 w2 => ?_)
  obtain ⟨he, hz2⟩ := hq2
  subst he
  exact zl_same hx hb dL_1241 (by decide) (k σ2 H2 locs2 hz2 w2)
set_option maxHeartbeats 1000000 in
theorem zl_case23 {p : Program} {l : Launch} {e : Env} {s : State} {m : MethodId} {below : List Frame} {meth : Method} {c : Code} {b L : Nat} {xs : Nat → Int32} {G : zG} {σ : zS} {H : Heap} {locs : List Loc} {ls : Array Slot} {i : Nat} (LC : zLC G l p s m meth c b L xs) (hl : lv_has ls 4 (zll G b i)) (w : zLw G s σ H locs) (hi : i + 7 ≤ L) (hz : zinv σ) (k : ∀ (σ2 : zS) (H2 : Heap) (locs2 : List Loc), zinv σ2 → zLw G s σ2 H2 locs2 → zLW p l e s m b below meth c H2 locs2 (F0 m 2299 ls [])) : zLW p l e s m b below meth c H locs (F0 m 1246 ls []) := by
  have hx := LC.1.1
  have hb := LC.1.2.1
  refine lv_aload_n hx hb dL_1246 rfl (lv_at hl 1 rfl) ?_
  refine zl_arg (k := 1) LC hl w hi (by decide) dL_1247 dL_1248 dL_1249 dL_1250 dL_1251 ?_
  refine zl_call (M' := MX11_place) (as := [zi (zx xs (i + 1))]) (q := 0) (ci := 11) (rs := (zsh 0).2.2) LC mkX11_place (zin_4 (List.mem_of_getElem? (i := 148) (by decide +kernel))) rfl (by decide +kernel) rfl (by decide) (Nat.le_of_ble_eq_true rfl) rfl (zkc zx_in (fun v hv => absurd hv List.not_mem_nil)) hl w dL_1252 (st_place hz) (fun r σ1 H1 locs1 hr1 hq1 w => ?_)
  refine lv_aload_n hx hb dL_1255 rfl (lv_at hl 2 rfl) ?_
  refine zl_arg (k := 1) LC hl w hi (by decide) dL_1256 dL_1257 dL_1258 dL_1259 dL_1260 ?_
  refine zl_call (M' := MX12_place) (as := [zi (zx xs (i + 1))]) (q := 98) (ci := 12) (rs := (zsh 98).2.2) LC mkX12_place (zin_8 (List.mem_of_getElem? (i := 125) (by decide +kernel))) rfl (by decide +kernel) rfl (by decide) (Nat.le_of_ble_eq_true rfl) rfl (zkc zx_in (fun v hv => absurd hv List.not_mem_nil)) hl w dL_1261 hq1 (fun r2 σ2 H2 locs2 hr2 hq2 w2 => ?_)
  obtain ⟨he, hz2⟩ := hq2
  subst he
  exact zl_same hx hb dL_1264 (by decide) (k σ2 H2 locs2 hz2 w2)
set_option maxHeartbeats 1000000 in
theorem zl_case24 {p : Program} {l : Launch} {e : Env} {s : State} {m : MethodId} {below : List Frame} {meth : Method} {c : Code} {b L : Nat} {xs : Nat → Int32} {G : zG} {σ : zS} {H : Heap} {locs : List Loc} {ls : Array Slot} {i : Nat} (LC : zLC G l p s m meth c b L xs) (hl : lv_has ls 4 (zll G b i)) (w : zLw G s σ H locs) (hi : i + 7 ≤ L) (hz : zinv σ) (k : ∀ (σ2 : zS) (H2 : Heap) (locs2 : List Loc), zinv σ2 → zLw G s σ2 H2 locs2 → zLW p l e s m b below meth c H2 locs2 (F0 m 2299 ls [])) : zLW p l e s m b below meth c H locs (F0 m 1269 ls []) := by
  have hx := LC.1.1
  have hb := LC.1.2.1
  refine lv_aload_n hx hb dL_1269 rfl (lv_at hl 1 rfl) ?_
  refine zl_arg (k := 1) LC hl w hi (by decide) dL_1270 dL_1271 dL_1272 dL_1273 dL_1274 ?_
  refine zl_call (M' := MX11_grace) (as := [zi (zx xs (i + 1))]) (q := 0) (ci := 11) (rs := (zsh 0).2.2) LC mkX11_grace (zin_4 (List.mem_of_getElem? (i := 156) (by decide +kernel))) rfl (by decide +kernel) rfl (by decide) (Nat.le_of_ble_eq_true rfl) rfl (zkc zx_in (fun v hv => absurd hv List.not_mem_nil)) hl w dL_1275 (st_grace hz) (fun r σ1 H1 locs1 hr1 hq1 w => ?_)
  refine lv_aload_n hx hb dL_1278 rfl (lv_at hl 2 rfl) ?_
  refine zl_arg (k := 1) LC hl w hi (by decide) dL_1279 dL_1280 dL_1281 dL_1282 dL_1283 ?_
  refine zl_call (M' := MX12_grace) (as := [zi (zx xs (i + 1))]) (q := 98) (ci := 12) (rs := (zsh 98).2.2) LC mkX12_grace (zin_8 (List.mem_of_getElem? (i := 129) (by decide +kernel))) rfl (by decide +kernel) rfl (by decide) (Nat.le_of_ble_eq_true rfl) rfl (zkc zx_in (fun v hv => absurd hv List.not_mem_nil)) hl w dL_1284 hq1 (fun r2 σ2 H2 locs2 hr2 hq2 w2 => ?_)
  obtain ⟨he, hz2⟩ := hq2
  subst he
  exact zl_same hx hb dL_1287 (by decide) (k σ2 H2 locs2 hz2 w2)
set_option maxHeartbeats 1000000 in
theorem zl_case25 {p : Program} {l : Launch} {e : Env} {s : State} {m : MethodId} {below : List Frame} {meth : Method} {c : Code} {b L : Nat} {xs : Nat → Int32} {G : zG} {σ : zS} {H : Heap} {locs : List Loc} {ls : Array Slot} {i : Nat} (LC : zLC G l p s m meth c b L xs) (hl : lv_has ls 4 (zll G b i)) (w : zLw G s σ H locs) (hi : i + 7 ≤ L) (hz : zinv σ) (k : ∀ (σ2 : zS) (H2 : Heap) (locs2 : List Loc), zinv σ2 → zLw G s σ2 H2 locs2 → zLW p l e s m b below meth c H2 locs2 (F0 m 2299 ls [])) : zLW p l e s m b below meth c H locs (F0 m 1292 ls []) := by
  have hx := LC.1.1
  have hb := LC.1.2.1
  refine lv_aload_n hx hb dL_1292 rfl (lv_at hl 1 rfl) ?_
  refine zl_arg (k := 1) LC hl w hi (by decide) dL_1293 dL_1294 dL_1295 dL_1296 dL_1297 ?_
  refine zl_arg (k := 2) LC hl w hi (by decide) dL_1298 dL_1299 dL_1300 dL_1301 dL_1302 ?_
  refine zl_call (M' := MX11_hold) (as := [zi (zx xs (i + 1)), zi (zx xs (i + 2))]) (q := 0) (ci := 11) (rs := (zsh 0).2.2) LC mkX11_hold (zin_4 (List.mem_of_getElem? (i := 160) (by decide +kernel))) rfl (by decide +kernel) rfl (by decide) (Nat.le_of_ble_eq_true rfl) rfl (zkc zx_in (zkc zx_in (fun v hv => absurd hv List.not_mem_nil))) hl w dL_1303 (st_hold hz) (fun r σ1 H1 locs1 hr1 hq1 w => ?_)
  refine lv_aload_n hx hb dL_1306 rfl (lv_at hl 2 rfl) ?_
  refine zl_arg (k := 1) LC hl w hi (by decide) dL_1307 dL_1308 dL_1309 dL_1310 dL_1311 ?_
  refine zl_arg (k := 2) LC hl w hi (by decide) dL_1312 dL_1313 dL_1314 dL_1315 dL_1316 ?_
  refine zl_call (M' := MX12_hold) (as := [zi (zx xs (i + 1)), zi (zx xs (i + 2))]) (q := 98) (ci := 12) (rs := (zsh 98).2.2) LC mkX12_hold (zin_8 (List.mem_of_getElem? (i := 133) (by decide +kernel))) rfl (by decide +kernel) rfl (by decide) (Nat.le_of_ble_eq_true rfl) rfl (zkc zx_in (zkc zx_in (fun v hv => absurd hv List.not_mem_nil))) hl w dL_1317 hq1 (fun r2 σ2 H2 locs2 hr2 hq2 w2 => ?_)
  obtain ⟨he, hz2⟩ := hq2
  subst he
  exact zl_same hx hb dL_1320 (by decide) (k σ2 H2 locs2 hz2 w2)
set_option maxHeartbeats 1000000 in
theorem zl_case26 {p : Program} {l : Launch} {e : Env} {s : State} {m : MethodId} {below : List Frame} {meth : Method} {c : Code} {b L : Nat} {xs : Nat → Int32} {G : zG} {σ : zS} {H : Heap} {locs : List Loc} {ls : Array Slot} {i : Nat} (LC : zLC G l p s m meth c b L xs) (hl : lv_has ls 4 (zll G b i)) (w : zLw G s σ H locs) (hi : i + 7 ≤ L) (hz : zinv σ) (k : ∀ (σ2 : zS) (H2 : Heap) (locs2 : List Loc), zinv σ2 → zLw G s σ2 H2 locs2 → zLW p l e s m b below meth c H2 locs2 (F0 m 2299 ls [])) : zLW p l e s m b below meth c H locs (F0 m 1325 ls []) := by
  have hx := LC.1.1
  have hb := LC.1.2.1
  refine lv_aload_n hx hb dL_1325 rfl (lv_at hl 1 rfl) ?_
  refine zl_arg (k := 1) LC hl w hi (by decide) dL_1326 dL_1327 dL_1328 dL_1329 dL_1330 ?_
  refine zl_call (M' := MX11_leave) (as := [zi (zx xs (i + 1))]) (q := 0) (ci := 11) (rs := (zsh 0).2.2) LC mkX11_leave (zin_4 (List.mem_of_getElem? (i := 180) (by decide +kernel))) rfl (by decide +kernel) rfl (by decide) (Nat.le_of_ble_eq_true rfl) rfl (zkc zx_in (fun v hv => absurd hv List.not_mem_nil)) hl w dL_1331 (st_leave hz) (fun r σ1 H1 locs1 hr1 hq1 w => ?_)
  refine lv_aload_n hx hb dL_1334 rfl (lv_at hl 2 rfl) ?_
  refine zl_arg (k := 1) LC hl w hi (by decide) dL_1335 dL_1336 dL_1337 dL_1338 dL_1339 ?_
  refine zl_call (M' := MX12_leave) (as := [zi (zx xs (i + 1))]) (q := 98) (ci := 12) (rs := (zsh 98).2.2) LC mkX12_leave (zin_8 (List.mem_of_getElem? (i := 153) (by decide +kernel))) rfl (by decide +kernel) rfl (by decide) (Nat.le_of_ble_eq_true rfl) rfl (zkc zx_in (fun v hv => absurd hv List.not_mem_nil)) hl w dL_1340 hq1 (fun r2 σ2 H2 locs2 hr2 hq2 w2 => ?_)
  obtain ⟨he, hz2⟩ := hq2
  subst he
  exact zl_same hx hb dL_1343 (by decide) (k σ2 H2 locs2 hz2 w2)
set_option maxHeartbeats 1000000 in
theorem zl_case27 {p : Program} {l : Launch} {e : Env} {s : State} {m : MethodId} {below : List Frame} {meth : Method} {c : Code} {b L : Nat} {xs : Nat → Int32} {G : zG} {σ : zS} {H : Heap} {locs : List Loc} {ls : Array Slot} {i : Nat} (LC : zLC G l p s m meth c b L xs) (hl : lv_has ls 4 (zll G b i)) (w : zLw G s σ H locs) (hi : i + 7 ≤ L) (hz : zinv σ) (k : ∀ (σ2 : zS) (H2 : Heap) (locs2 : List Loc), zinv σ2 → zLw G s σ2 H2 locs2 → zLW p l e s m b below meth c H2 locs2 (F0 m 2299 ls [])) : zLW p l e s m b below meth c H locs (F0 m 1348 ls []) := by
  have hx := LC.1.1
  have hb := LC.1.2.1
  refine lv_aload_n hx hb dL_1348 rfl (lv_at hl 1 rfl) ?_
  refine zl_arg (k := 1) LC hl w hi (by decide) dL_1349 dL_1350 dL_1351 dL_1352 dL_1353 ?_
  refine zl_arg (k := 2) LC hl w hi (by decide) dL_1354 dL_1355 dL_1356 dL_1357 dL_1358 ?_
  refine zl_call (M' := MX11_about) (as := [zi (zx xs (i + 1)), zi (zx xs (i + 2))]) (q := 0) (ci := 11) (rs := (zsh 0).2.2) LC mkX11_about (zin_4 (List.mem_of_getElem? (i := 185) (by decide +kernel))) rfl (by decide +kernel) rfl (by decide) (Nat.le_of_ble_eq_true rfl) rfl (zkc zx_in (zkc zx_in (fun v hv => absurd hv List.not_mem_nil))) hl w dL_1359 (st_about hz) (fun r σ1 H1 locs1 hr1 hq1 w => ?_)
  refine lv_aload_n hx hb dL_1362 rfl (lv_at hl 2 rfl) ?_
  refine zl_arg (k := 1) LC hl w hi (by decide) dL_1363 dL_1364 dL_1365 dL_1366 dL_1367 ?_
  refine zl_arg (k := 2) LC hl w hi (by decide) dL_1368 dL_1369 dL_1370 dL_1371 dL_1372 ?_
  refine zl_call (M' := MX12_about) (as := [zi (zx xs (i + 1)), zi (zx xs (i + 2))]) (q := 98) (ci := 12) (rs := (zsh 98).2.2) LC mkX12_about (zin_8 (List.mem_of_getElem? (i := 161) (by decide +kernel))) rfl (by decide +kernel) rfl (by decide) (Nat.le_of_ble_eq_true rfl) rfl (zkc zx_in (zkc zx_in (fun v hv => absurd hv List.not_mem_nil))) hl w dL_1373 hq1 (fun r2 σ2 H2 locs2 hr2 hq2 w2 => ?_)
  obtain ⟨he, hz2⟩ := hq2
  subst he
  exact zl_same hx hb dL_1376 (by decide) (k σ2 H2 locs2 hz2 w2)
set_option maxHeartbeats 1000000 in
theorem zl_case28 {p : Program} {l : Launch} {e : Env} {s : State} {m : MethodId} {below : List Frame} {meth : Method} {c : Code} {b L : Nat} {xs : Nat → Int32} {G : zG} {σ : zS} {H : Heap} {locs : List Loc} {ls : Array Slot} {i : Nat} (LC : zLC G l p s m meth c b L xs) (hl : lv_has ls 4 (zll G b i)) (w : zLw G s σ H locs) (hi : i + 7 ≤ L) (hz : zinv σ) (k : ∀ (σ2 : zS) (H2 : Heap) (locs2 : List Loc), zinv σ2 → zLw G s σ2 H2 locs2 → zLW p l e s m b below meth c H2 locs2 (F0 m 2299 ls [])) : zLW p l e s m b below meth c H locs (F0 m 1381 ls []) := by
  have hx := LC.1.1
  have hb := LC.1.2.1
  refine lv_aload_n hx hb dL_1381 rfl (lv_at hl 1 rfl) ?_
  refine zl_arg (k := 1) LC hl w hi (by decide) dL_1382 dL_1383 dL_1384 dL_1385 dL_1386 ?_
  refine zl_arg (k := 2) LC hl w hi (by decide) dL_1387 dL_1388 dL_1389 dL_1390 dL_1391 ?_
  refine zl_call (M' := MX11_ballot) (as := [zi (zx xs (i + 1)), zi (zx xs (i + 2))]) (q := 0) (ci := 11) (rs := (zsh 0).2.2) LC mkX11_ballot (zin_4 (List.mem_of_getElem? (i := 189) (by decide +kernel))) rfl (by decide +kernel) rfl (by decide) (Nat.le_of_ble_eq_true rfl) rfl (zkc zx_in (zkc zx_in (fun v hv => absurd hv List.not_mem_nil))) hl w dL_1392 (st_ballot hz) (fun r σ1 H1 locs1 hr1 hq1 w => ?_)
  refine lv_aload_n hx hb dL_1395 rfl (lv_at hl 2 rfl) ?_
  refine zl_arg (k := 1) LC hl w hi (by decide) dL_1396 dL_1397 dL_1398 dL_1399 dL_1400 ?_
  refine zl_arg (k := 2) LC hl w hi (by decide) dL_1401 dL_1402 dL_1403 dL_1404 dL_1405 ?_
  refine zl_call (M' := MX12_ballot) (as := [zi (zx xs (i + 1)), zi (zx xs (i + 2))]) (q := 98) (ci := 12) (rs := (zsh 98).2.2) LC mkX12_ballot (zin_8 (List.mem_of_getElem? (i := 169) (by decide +kernel))) rfl (by decide +kernel) rfl (by decide) (Nat.le_of_ble_eq_true rfl) rfl (zkc zx_in (zkc zx_in (fun v hv => absurd hv List.not_mem_nil))) hl w dL_1406 hq1 (fun r2 σ2 H2 locs2 hr2 hq2 w2 => ?_)
  obtain ⟨he, hz2⟩ := hq2
  subst he
  exact zl_same hx hb dL_1409 (by decide) (k σ2 H2 locs2 hz2 w2)
set_option maxHeartbeats 1000000 in
theorem zl_case29 {p : Program} {l : Launch} {e : Env} {s : State} {m : MethodId} {below : List Frame} {meth : Method} {c : Code} {b L : Nat} {xs : Nat → Int32} {G : zG} {σ : zS} {H : Heap} {locs : List Loc} {ls : Array Slot} {i : Nat} (LC : zLC G l p s m meth c b L xs) (hl : lv_has ls 4 (zll G b i)) (w : zLw G s σ H locs) (hi : i + 7 ≤ L) (hz : zinv σ) (k : ∀ (σ2 : zS) (H2 : Heap) (locs2 : List Loc), zinv σ2 → zLw G s σ2 H2 locs2 → zLW p l e s m b below meth c H2 locs2 (F0 m 2299 ls [])) : zLW p l e s m b below meth c H locs (F0 m 1414 ls []) := by
  have hx := LC.1.1
  have hb := LC.1.2.1
  refine lv_aload_n hx hb dL_1414 rfl (lv_at hl 1 rfl) ?_
  refine zl_arg (k := 1) LC hl w hi (by decide) dL_1415 dL_1416 dL_1417 dL_1418 dL_1419 ?_
  refine zl_arg (k := 2) LC hl w hi (by decide) dL_1420 dL_1421 dL_1422 dL_1423 dL_1424 ?_
  refine zl_call (M' := MX11_elect) (as := [zi (zx xs (i + 1)), zi (zx xs (i + 2))]) (q := 0) (ci := 11) (rs := (zsh 0).2.2) LC mkX11_elect (zin_4 (List.mem_of_getElem? (i := 202) (by decide +kernel))) rfl (by decide +kernel) rfl (by decide) (Nat.le_of_ble_eq_true rfl) rfl (zkc zx_in (zkc zx_in (fun v hv => absurd hv List.not_mem_nil))) hl w dL_1425 (st_elect hz) (fun r σ1 H1 locs1 hr1 hq1 w => ?_)
  refine lv_aload_n hx hb dL_1428 rfl (lv_at hl 2 rfl) ?_
  refine zl_arg (k := 1) LC hl w hi (by decide) dL_1429 dL_1430 dL_1431 dL_1432 dL_1433 ?_
  refine zl_arg (k := 2) LC hl w hi (by decide) dL_1434 dL_1435 dL_1436 dL_1437 dL_1438 ?_
  refine zl_call (M' := MX12_elect) (as := [zi (zx xs (i + 1)), zi (zx xs (i + 2))]) (q := 98) (ci := 12) (rs := (zsh 98).2.2) LC mkX12_elect (zin_8 (List.mem_of_getElem? (i := 173) (by decide +kernel))) rfl (by decide +kernel) rfl (by decide) (Nat.le_of_ble_eq_true rfl) rfl (zkc zx_in (zkc zx_in (fun v hv => absurd hv List.not_mem_nil))) hl w dL_1439 hq1 (fun r2 σ2 H2 locs2 hr2 hq2 w2 => ?_)
  obtain ⟨he, hz2⟩ := hq2
  subst he
  exact zl_same hx hb dL_1442 (by decide) (k σ2 H2 locs2 hz2 w2)
set_option maxHeartbeats 1000000 in
theorem zl_case30 {p : Program} {l : Launch} {e : Env} {s : State} {m : MethodId} {below : List Frame} {meth : Method} {c : Code} {b L : Nat} {xs : Nat → Int32} {G : zG} {σ : zS} {H : Heap} {locs : List Loc} {ls : Array Slot} {i : Nat} (LC : zLC G l p s m meth c b L xs) (hl : lv_has ls 4 (zll G b i)) (w : zLw G s σ H locs) (hi : i + 7 ≤ L) (hz : zinv σ) (k : ∀ (σ2 : zS) (H2 : Heap) (locs2 : List Loc), zinv σ2 → zLw G s σ2 H2 locs2 → zLW p l e s m b below meth c H2 locs2 (F0 m 2299 ls [])) : zLW p l e s m b below meth c H locs (F0 m 1447 ls []) := by
  have hx := LC.1.1
  have hb := LC.1.2.1
  refine lv_aload_n hx hb dL_1447 rfl (lv_at hl 1 rfl) ?_
  refine zl_arg (k := 1) LC hl w hi (by decide) dL_1448 dL_1449 dL_1450 dL_1451 dL_1452 ?_
  refine zl_arg (k := 2) LC hl w hi (by decide) dL_1453 dL_1454 dL_1455 dL_1456 dL_1457 ?_
  refine zl_call (M' := MX11_votes) (as := [zi (zx xs (i + 1)), zi (zx xs (i + 2))]) (q := 0) (ci := 11) (rs := (zsh 0).2.2) LC mkX11_votes (zin_5 (List.mem_of_getElem? (i := 37) (by decide +kernel))) rfl (by decide +kernel) rfl (by decide) (Nat.le_of_ble_eq_true rfl) rfl (zkc zx_in (zkc zx_in (fun v hv => absurd hv List.not_mem_nil))) hl w dL_1458 (st_votes hz) (fun r σ1 H1 locs1 hr1 hq1 w => ?_)
  refine lv_aload_n hx hb dL_1461 rfl (lv_at hl 2 rfl) ?_
  refine zl_arg (k := 1) LC hl w hi (by decide) dL_1462 dL_1463 dL_1464 dL_1465 dL_1466 ?_
  refine zl_arg (k := 2) LC hl w hi (by decide) dL_1467 dL_1468 dL_1469 dL_1470 dL_1471 ?_
  refine zl_call (M' := MX12_votes) (as := [zi (zx xs (i + 1)), zi (zx xs (i + 2))]) (q := 98) (ci := 12) (rs := (zsh 98).2.2) LC mkX12_votes (zin_8 (List.mem_of_getElem? (i := 189) (by decide +kernel))) rfl (by decide +kernel) rfl (by decide) (Nat.le_of_ble_eq_true rfl) rfl (zkc zx_in (zkc zx_in (fun v hv => absurd hv List.not_mem_nil))) hl w dL_1472 hq1 (fun r2 σ2 H2 locs2 hr2 hq2 w2 => ?_)
  obtain ⟨he, hz2⟩ := hq2
  subst he
  exact zl_same hx hb dL_1475 (by decide) (k σ2 H2 locs2 hz2 w2)
set_option maxHeartbeats 1000000 in
theorem zl_case31 {p : Program} {l : Launch} {e : Env} {s : State} {m : MethodId} {below : List Frame} {meth : Method} {c : Code} {b L : Nat} {xs : Nat → Int32} {G : zG} {σ : zS} {H : Heap} {locs : List Loc} {ls : Array Slot} {i : Nat} (LC : zLC G l p s m meth c b L xs) (hl : lv_has ls 4 (zll G b i)) (w : zLw G s σ H locs) (hi : i + 7 ≤ L) (hz : zinv σ) (k : ∀ (σ2 : zS) (H2 : Heap) (locs2 : List Loc), zinv σ2 → zLw G s σ2 H2 locs2 → zLW p l e s m b below meth c H2 locs2 (F0 m 2299 ls [])) : zLW p l e s m b below meth c H locs (F0 m 1480 ls []) := by
  have hx := LC.1.1
  have hb := LC.1.2.1
  refine lv_aload_n hx hb dL_1480 rfl (lv_at hl 1 rfl) ?_
  refine zl_arg (k := 1) LC hl w hi (by decide) dL_1481 dL_1482 dL_1483 dL_1484 dL_1485 ?_
  refine zl_call (M' := MX11_without) (as := [zi (zx xs (i + 1))]) (q := 0) (ci := 11) (rs := (zsh 0).2.2) LC mkX11_without (zin_5 (List.mem_of_getElem? (i := 45) (by decide +kernel))) rfl (by decide +kernel) rfl (by decide) (Nat.le_of_ble_eq_true rfl) rfl (zkc zx_in (fun v hv => absurd hv List.not_mem_nil)) hl w dL_1486 (st_without hz) (fun r σ1 H1 locs1 hr1 hq1 w => ?_)
  refine lv_aload_n hx hb dL_1489 rfl (lv_at hl 2 rfl) ?_
  refine zl_arg (k := 1) LC hl w hi (by decide) dL_1490 dL_1491 dL_1492 dL_1493 dL_1494 ?_
  refine zl_call (M' := MX12_without) (as := [zi (zx xs (i + 1))]) (q := 98) (ci := 12) (rs := (zsh 98).2.2) LC mkX12_without (zin_8 (List.mem_of_getElem? (i := 193) (by decide +kernel))) rfl (by decide +kernel) rfl (by decide) (Nat.le_of_ble_eq_true rfl) rfl (zkc zx_in (fun v hv => absurd hv List.not_mem_nil)) hl w dL_1495 hq1 (fun r2 σ2 H2 locs2 hr2 hq2 w2 => ?_)
  obtain ⟨he, hz2⟩ := hq2
  subst he
  exact zl_same hx hb dL_1498 (by decide) (k σ2 H2 locs2 hz2 w2)
set_option maxHeartbeats 1000000 in
theorem zl_case32 {p : Program} {l : Launch} {e : Env} {s : State} {m : MethodId} {below : List Frame} {meth : Method} {c : Code} {b L : Nat} {xs : Nat → Int32} {G : zG} {σ : zS} {H : Heap} {locs : List Loc} {ls : Array Slot} {i : Nat} (LC : zLC G l p s m meth c b L xs) (hl : lv_has ls 4 (zll G b i)) (w : zLw G s σ H locs) (hi : i + 7 ≤ L) (hz : zinv σ) (k : ∀ (σ2 : zS) (H2 : Heap) (locs2 : List Loc), zinv σ2 → zLw G s σ2 H2 locs2 → zLW p l e s m b below meth c H2 locs2 (F0 m 2299 ls [])) : zLW p l e s m b below meth c H locs (F0 m 1503 ls []) := by
  have hx := LC.1.1
  have hb := LC.1.2.1
  refine lv_aload_n hx hb dL_1503 rfl (lv_at hl 1 rfl) ?_
  refine zl_arg (k := 1) LC hl w hi (by decide) dL_1504 dL_1505 dL_1506 dL_1507 dL_1508 ?_
  refine zl_call (M' := MX11_asked) (as := [zi (zx xs (i + 1))]) (q := 0) (ci := 11) (rs := (zsh 0).2.2) LC mkX11_asked (zin_5 (List.mem_of_getElem? (i := 53) (by decide +kernel))) rfl (by decide +kernel) rfl (by decide) (Nat.le_of_ble_eq_true rfl) rfl (zkc zx_in (fun v hv => absurd hv List.not_mem_nil)) hl w dL_1509 (st_asked hz) (fun r σ1 H1 locs1 hr1 hq1 w => ?_)
  refine lv_aload_n hx hb dL_1512 rfl (lv_at hl 2 rfl) ?_
  refine zl_arg (k := 1) LC hl w hi (by decide) dL_1513 dL_1514 dL_1515 dL_1516 dL_1517 ?_
  refine zl_call (M' := MX12_asked) (as := [zi (zx xs (i + 1))]) (q := 98) (ci := 12) (rs := (zsh 98).2.2) LC mkX12_asked (zin_8 (List.mem_of_getElem? (i := 197) (by decide +kernel))) rfl (by decide +kernel) rfl (by decide) (Nat.le_of_ble_eq_true rfl) rfl (zkc zx_in (fun v hv => absurd hv List.not_mem_nil)) hl w dL_1518 hq1 (fun r2 σ2 H2 locs2 hr2 hq2 w2 => ?_)
  obtain ⟨he, hz2⟩ := hq2
  subst he
  exact zl_same hx hb dL_1521 (by decide) (k σ2 H2 locs2 hz2 w2)
set_option maxHeartbeats 1000000 in
theorem zl_case33 {p : Program} {l : Launch} {e : Env} {s : State} {m : MethodId} {below : List Frame} {meth : Method} {c : Code} {b L : Nat} {xs : Nat → Int32} {G : zG} {σ : zS} {H : Heap} {locs : List Loc} {ls : Array Slot} {i : Nat} (LC : zLC G l p s m meth c b L xs) (hl : lv_has ls 4 (zll G b i)) (w : zLw G s σ H locs) (hi : i + 7 ≤ L) (hz : zinv σ) (k : ∀ (σ2 : zS) (H2 : Heap) (locs2 : List Loc), zinv σ2 → zLw G s σ2 H2 locs2 → zLW p l e s m b below meth c H2 locs2 (F0 m 2299 ls [])) : zLW p l e s m b below meth c H locs (F0 m 1526 ls []) := by
  have hx := LC.1.1
  have hb := LC.1.2.1
  refine lv_aload_n hx hb dL_1526 rfl (lv_at hl 1 rfl) ?_
  refine zl_arg (k := 1) LC hl w hi (by decide) dL_1527 dL_1528 dL_1529 dL_1530 dL_1531 ?_
  refine zl_arg (k := 2) LC hl w hi (by decide) dL_1532 dL_1533 dL_1534 dL_1535 dL_1536 ?_
  obtain ⟨bv, hbv⟩ : ∃ bv : Int, (bv = 1 ∧ (zx xs (i + 2)) ≠ 0) ∨ (bv = 0 ∧ (zx xs (i + 2)) = 0) := by
    by_cases h : (zx xs (i + 2)) = 0
    · exact ⟨0, Or.inr ⟨rfl, h⟩⟩
    · exact ⟨1, Or.inl ⟨rfl, h⟩⟩
  refine zl_bool (tgt := 1544) (tg2 := 1545) (bv := bv) hx hb zx_in hbv dL_1537 (by decide) dL_1540 dL_1541 (by decide) dL_1544 (by decide) ?_
  have hbi : zIn bv := by unfold zIn; omega
  refine zl_call (M' := MX11_answer) (as := [zi (zx xs (i + 1)), zi bv]) (q := 0) (ci := 11) (rs := (zsh 0).2.2) LC mkX11_answer (zin_5 (List.mem_of_getElem? (i := 70) (by decide +kernel))) rfl (by decide +kernel) rfl (by decide) (Nat.le_of_ble_eq_true rfl) rfl (zkc zx_in (zkc hbi (fun v hv => absurd hv List.not_mem_nil))) hl w dL_1545 (st_answer hz) (fun r σ1 H1 locs1 hr1 hq1 w => ?_)
  refine lv_aload_n hx hb dL_1548 rfl (lv_at hl 2 rfl) ?_
  refine zl_arg (k := 1) LC hl w hi (by decide) dL_1549 dL_1550 dL_1551 dL_1552 dL_1553 ?_
  refine zl_arg (k := 2) LC hl w hi (by decide) dL_1554 dL_1555 dL_1556 dL_1557 dL_1558 ?_
  refine zl_bool (tgt := 1566) (tg2 := 1567) (bv := bv) hx hb zx_in hbv dL_1559 (by decide) dL_1562 dL_1563 (by decide) dL_1566 (by decide) ?_
  refine zl_call (M' := MX12_answer) (as := [zi (zx xs (i + 1)), zi bv]) (q := 98) (ci := 12) (rs := (zsh 98).2.2) LC mkX12_answer (zin_8 (List.mem_of_getElem? (i := 209) (by decide +kernel))) rfl (by decide +kernel) rfl (by decide) (Nat.le_of_ble_eq_true rfl) rfl (zkc zx_in (zkc hbi (fun v hv => absurd hv List.not_mem_nil))) hl w dL_1567 hq1 (fun r2 σ2 H2 locs2 hr2 hq2 w2 => ?_)
  obtain ⟨he, hz2⟩ := hq2
  subst he
  exact zl_same hx hb dL_1570 (by decide) (k σ2 H2 locs2 hz2 w2)
set_option maxHeartbeats 1000000 in
theorem zl_case34 {p : Program} {l : Launch} {e : Env} {s : State} {m : MethodId} {below : List Frame} {meth : Method} {c : Code} {b L : Nat} {xs : Nat → Int32} {G : zG} {σ : zS} {H : Heap} {locs : List Loc} {ls : Array Slot} {i : Nat} (LC : zLC G l p s m meth c b L xs) (hl : lv_has ls 4 (zll G b i)) (w : zLw G s σ H locs) (hi : i + 7 ≤ L) (hz : zinv σ) (k : ∀ (σ2 : zS) (H2 : Heap) (locs2 : List Loc), zinv σ2 → zLw G s σ2 H2 locs2 → zLW p l e s m b below meth c H2 locs2 (F0 m 2299 ls [])) : zLW p l e s m b below meth c H locs (F0 m 1575 ls []) := by
  have hx := LC.1.1
  have hb := LC.1.2.1
  refine lv_aload_n hx hb dL_1575 rfl (lv_at hl 1 rfl) ?_
  refine zl_arg (k := 1) LC hl w hi (by decide) dL_1576 dL_1577 dL_1578 dL_1579 dL_1580 ?_
  refine zl_arg (k := 2) LC hl w hi (by decide) dL_1581 dL_1582 dL_1583 dL_1584 dL_1585 ?_
  refine zl_arg (k := 3) LC hl w hi (by decide) dL_1586 dL_1587 dL_1588 dL_1589 dL_1590 ?_
  refine zl_arg (k := 4) LC hl w hi (by decide) dL_1591 dL_1592 dL_1593 dL_1594 dL_1595 ?_
  refine zl_arg (k := 5) LC hl w hi (by decide) dL_1596 dL_1597 dL_1598 dL_1599 dL_1600 ?_
  refine zl_argb (k := 6) LC hl w hi (by decide) dL_1601 dL_1602 dL_1603 dL_1605 dL_1606 (by decide) ?_
  refine zl_call (M' := MX11_lease) (as := [zi (zx xs (i + 1)), zi (zx xs (i + 2)), zi (zx xs (i + 3)), zi (zx xs (i + 4)), zi (zx xs (i + 5)), zi (zx xs (i + 6))]) (q := 0) (ci := 11) (rs := (zsh 0).2.2) LC mkX11_lease (zin_5 (List.mem_of_getElem? (i := 74) (by decide +kernel))) rfl (by decide +kernel) rfl (by decide) (Nat.le_of_ble_eq_true rfl) rfl (zkc zx_in (zkc zx_in (zkc zx_in (zkc zx_in (zkc zx_in (zkc zx_in (fun v hv => absurd hv List.not_mem_nil))))))) hl w dL_1607 (st_lease hz) (fun r σ1 H1 locs1 hr1 hq1 w => ?_)
  refine lv_aload_n hx hb dL_1610 rfl (lv_at hl 2 rfl) ?_
  refine zl_arg (k := 1) LC hl w hi (by decide) dL_1611 dL_1612 dL_1613 dL_1614 dL_1615 ?_
  refine zl_arg (k := 2) LC hl w hi (by decide) dL_1616 dL_1617 dL_1618 dL_1619 dL_1620 ?_
  refine zl_arg (k := 3) LC hl w hi (by decide) dL_1621 dL_1622 dL_1623 dL_1624 dL_1625 ?_
  refine zl_arg (k := 4) LC hl w hi (by decide) dL_1626 dL_1627 dL_1628 dL_1629 dL_1630 ?_
  refine zl_arg (k := 5) LC hl w hi (by decide) dL_1631 dL_1632 dL_1633 dL_1634 dL_1635 ?_
  refine zl_argb (k := 6) LC hl w hi (by decide) dL_1636 dL_1637 dL_1638 dL_1640 dL_1641 (by decide) ?_
  refine zl_call (M' := MX12_lease) (as := [zi (zx xs (i + 1)), zi (zx xs (i + 2)), zi (zx xs (i + 3)), zi (zx xs (i + 4)), zi (zx xs (i + 5)), zi (zx xs (i + 6))]) (q := 98) (ci := 12) (rs := (zsh 98).2.2) LC mkX12_lease (zin_8 (List.mem_of_getElem? (i := 213) (by decide +kernel))) rfl (by decide +kernel) rfl (by decide) (Nat.le_of_ble_eq_true rfl) rfl (zkc zx_in (zkc zx_in (zkc zx_in (zkc zx_in (zkc zx_in (zkc zx_in (fun v hv => absurd hv List.not_mem_nil))))))) hl w dL_1642 hq1 (fun r2 σ2 H2 locs2 hr2 hq2 w2 => ?_)
  obtain ⟨he, hz2⟩ := hq2
  subst he
  exact zl_same hx hb dL_1645 (by decide) (k σ2 H2 locs2 hz2 w2)
set_option maxHeartbeats 1000000 in
theorem zl_case35 {p : Program} {l : Launch} {e : Env} {s : State} {m : MethodId} {below : List Frame} {meth : Method} {c : Code} {b L : Nat} {xs : Nat → Int32} {G : zG} {σ : zS} {H : Heap} {locs : List Loc} {ls : Array Slot} {i : Nat} (LC : zLC G l p s m meth c b L xs) (hl : lv_has ls 4 (zll G b i)) (w : zLw G s σ H locs) (hi : i + 7 ≤ L) (hz : zinv σ) (k : ∀ (σ2 : zS) (H2 : Heap) (locs2 : List Loc), zinv σ2 → zLw G s σ2 H2 locs2 → zLW p l e s m b below meth c H2 locs2 (F0 m 2299 ls [])) : zLW p l e s m b below meth c H locs (F0 m 1650 ls []) := by
  have hx := LC.1.1
  have hb := LC.1.2.1
  refine lv_aload_n hx hb dL_1650 rfl (lv_at hl 1 rfl) ?_
  refine zl_arg (k := 1) LC hl w hi (by decide) dL_1651 dL_1652 dL_1653 dL_1654 dL_1655 ?_
  refine zl_arg (k := 2) LC hl w hi (by decide) dL_1656 dL_1657 dL_1658 dL_1659 dL_1660 ?_
  refine zl_arg (k := 3) LC hl w hi (by decide) dL_1661 dL_1662 dL_1663 dL_1664 dL_1665 ?_
  refine zl_arg (k := 4) LC hl w hi (by decide) dL_1666 dL_1667 dL_1668 dL_1669 dL_1670 ?_
  refine zl_arg (k := 5) LC hl w hi (by decide) dL_1671 dL_1672 dL_1673 dL_1674 dL_1675 ?_
  refine zl_call (M' := MX11_lives) (as := [zi (zx xs (i + 1)), zi (zx xs (i + 2)), zi (zx xs (i + 3)), zi (zx xs (i + 4)), zi (zx xs (i + 5))]) (q := 0) (ci := 11) (rs := (zsh 0).2.2) LC mkX11_lives (zin_5 (List.mem_of_getElem? (i := 85) (by decide +kernel))) rfl (by decide +kernel) rfl (by decide) (Nat.le_of_ble_eq_true rfl) rfl (zkc zx_in (zkc zx_in (zkc zx_in (zkc zx_in (zkc zx_in (fun v hv => absurd hv List.not_mem_nil)))))) hl w dL_1676 (st_lives hz) (fun r σ1 H1 locs1 hr1 hq1 w => ?_)
  refine lv_aload_n hx hb dL_1679 rfl (lv_at hl 2 rfl) ?_
  refine zl_arg (k := 1) LC hl w hi (by decide) dL_1680 dL_1681 dL_1682 dL_1683 dL_1684 ?_
  refine zl_arg (k := 2) LC hl w hi (by decide) dL_1685 dL_1686 dL_1687 dL_1688 dL_1689 ?_
  refine zl_arg (k := 3) LC hl w hi (by decide) dL_1690 dL_1691 dL_1692 dL_1693 dL_1694 ?_
  refine zl_arg (k := 4) LC hl w hi (by decide) dL_1695 dL_1696 dL_1697 dL_1698 dL_1699 ?_
  refine zl_arg (k := 5) LC hl w hi (by decide) dL_1700 dL_1701 dL_1702 dL_1703 dL_1704 ?_
  refine zl_call (M' := MX12_lives) (as := [zi (zx xs (i + 1)), zi (zx xs (i + 2)), zi (zx xs (i + 3)), zi (zx xs (i + 4)), zi (zx xs (i + 5))]) (q := 98) (ci := 12) (rs := (zsh 98).2.2) LC mkX12_lives (zin_8 (List.mem_of_getElem? (i := 224) (by decide +kernel))) rfl (by decide +kernel) rfl (by decide) (Nat.le_of_ble_eq_true rfl) rfl (zkc zx_in (zkc zx_in (zkc zx_in (zkc zx_in (zkc zx_in (fun v hv => absurd hv List.not_mem_nil)))))) hl w dL_1705 hq1 (fun r2 σ2 H2 locs2 hr2 hq2 w2 => ?_)
  obtain ⟨he, hz2⟩ := hq2
  subst he
  exact zl_same hx hb dL_1708 (by decide) (k σ2 H2 locs2 hz2 w2)
set_option maxHeartbeats 1000000 in
theorem zl_case36 {p : Program} {l : Launch} {e : Env} {s : State} {m : MethodId} {below : List Frame} {meth : Method} {c : Code} {b L : Nat} {xs : Nat → Int32} {G : zG} {σ : zS} {H : Heap} {locs : List Loc} {ls : Array Slot} {i : Nat} (LC : zLC G l p s m meth c b L xs) (hl : lv_has ls 4 (zll G b i)) (w : zLw G s σ H locs) (hi : i + 7 ≤ L) (hz : zinv σ) (k : ∀ (σ2 : zS) (H2 : Heap) (locs2 : List Loc), zinv σ2 → zLw G s σ2 H2 locs2 → zLW p l e s m b below meth c H2 locs2 (F0 m 2299 ls [])) : zLW p l e s m b below meth c H locs (F0 m 1713 ls []) := by
  have hx := LC.1.1
  have hb := LC.1.2.1
  refine lv_aload_n hx hb dL_1713 rfl (lv_at hl 1 rfl) ?_
  refine zl_arg (k := 1) LC hl w hi (by decide) dL_1714 dL_1715 dL_1716 dL_1717 dL_1718 ?_
  refine zl_arg (k := 2) LC hl w hi (by decide) dL_1719 dL_1720 dL_1721 dL_1722 dL_1723 ?_
  refine zl_arg (k := 3) LC hl w hi (by decide) dL_1724 dL_1725 dL_1726 dL_1727 dL_1728 ?_
  refine zl_call (M' := MX11_price) (as := [zi (zx xs (i + 1)), zi (zx xs (i + 2)), zi (zx xs (i + 3))]) (q := 0) (ci := 11) (rs := (zsh 0).2.2) LC mkX11_price (zin_5 (List.mem_of_getElem? (i := 90) (by decide +kernel))) rfl (by decide +kernel) rfl (by decide) (Nat.le_of_ble_eq_true rfl) rfl (zkc zx_in (zkc zx_in (zkc zx_in (fun v hv => absurd hv List.not_mem_nil)))) hl w dL_1729 (st_price hz) (fun r σ1 H1 locs1 hr1 hq1 w => ?_)
  refine lv_aload_n hx hb dL_1732 rfl (lv_at hl 2 rfl) ?_
  refine zl_arg (k := 1) LC hl w hi (by decide) dL_1733 dL_1734 dL_1735 dL_1736 dL_1737 ?_
  refine zl_arg (k := 2) LC hl w hi (by decide) dL_1738 dL_1739 dL_1740 dL_1741 dL_1742 ?_
  refine zl_arg (k := 3) LC hl w hi (by decide) dL_1743 dL_1744 dL_1745 dL_1746 dL_1747 ?_
  refine zl_call (M' := MX12_price) (as := [zi (zx xs (i + 1)), zi (zx xs (i + 2)), zi (zx xs (i + 3))]) (q := 98) (ci := 12) (rs := (zsh 98).2.2) LC mkX12_price (zin_8 (List.mem_of_getElem? (i := 231) (by decide +kernel))) rfl (by decide +kernel) rfl (by decide) (Nat.le_of_ble_eq_true rfl) rfl (zkc zx_in (zkc zx_in (zkc zx_in (fun v hv => absurd hv List.not_mem_nil)))) hl w dL_1748 hq1 (fun r2 σ2 H2 locs2 hr2 hq2 w2 => ?_)
  obtain ⟨he, hz2⟩ := hq2
  subst he
  exact zl_same hx hb dL_1751 (by decide) (k σ2 H2 locs2 hz2 w2)
set_option maxHeartbeats 1000000 in
theorem zl_case37 {p : Program} {l : Launch} {e : Env} {s : State} {m : MethodId} {below : List Frame} {meth : Method} {c : Code} {b L : Nat} {xs : Nat → Int32} {G : zG} {σ : zS} {H : Heap} {locs : List Loc} {ls : Array Slot} {i : Nat} (LC : zLC G l p s m meth c b L xs) (hl : lv_has ls 4 (zll G b i)) (w : zLw G s σ H locs) (hi : i + 7 ≤ L) (hz : zinv σ) (k : ∀ (σ2 : zS) (H2 : Heap) (locs2 : List Loc), zinv σ2 → zLw G s σ2 H2 locs2 → zLW p l e s m b below meth c H2 locs2 (F0 m 2299 ls [])) : zLW p l e s m b below meth c H locs (F0 m 1756 ls []) := by
  have hx := LC.1.1
  have hb := LC.1.2.1
  refine lv_aload_n hx hb dL_1756 rfl (lv_at hl 1 rfl) ?_
  refine zl_arg (k := 1) LC hl w hi (by decide) dL_1757 dL_1758 dL_1759 dL_1760 dL_1761 ?_
  refine zl_call (M' := MX11_ends) (as := [zi (zx xs (i + 1))]) (q := 0) (ci := 11) (rs := (zsh 0).2.2) LC mkX11_ends (zin_5 (List.mem_of_getElem? (i := 102) (by decide +kernel))) rfl (by decide +kernel) rfl (by decide) (Nat.le_of_ble_eq_true rfl) rfl (zkc zx_in (fun v hv => absurd hv List.not_mem_nil)) hl w dL_1762 (st_ends hz) (fun r σ1 H1 locs1 hr1 hq1 w => ?_)
  refine lv_aload_n hx hb dL_1765 rfl (lv_at hl 2 rfl) ?_
  refine zl_arg (k := 1) LC hl w hi (by decide) dL_1766 dL_1767 dL_1768 dL_1769 dL_1770 ?_
  refine zl_call (M' := MX12_ends_) (as := [zi (zx xs (i + 1))]) (q := 98) (ci := 12) (rs := (zsh 98).2.2) LC mkX12_ends_ (zin_8 (List.mem_of_getElem? (i := 235) (by decide +kernel))) rfl (by decide +kernel) rfl (by decide) (Nat.le_of_ble_eq_true rfl) rfl (zkc zx_in (fun v hv => absurd hv List.not_mem_nil)) hl w dL_1771 hq1 (fun r2 σ2 H2 locs2 hr2 hq2 w2 => ?_)
  obtain ⟨he, hz2⟩ := hq2
  subst he
  exact zl_same hx hb dL_1774 (by decide) (k σ2 H2 locs2 hz2 w2)
set_option maxHeartbeats 1000000 in
theorem zl_case38 {p : Program} {l : Launch} {e : Env} {s : State} {m : MethodId} {below : List Frame} {meth : Method} {c : Code} {b L : Nat} {xs : Nat → Int32} {G : zG} {σ : zS} {H : Heap} {locs : List Loc} {ls : Array Slot} {i : Nat} (LC : zLC G l p s m meth c b L xs) (hl : lv_has ls 4 (zll G b i)) (w : zLw G s σ H locs) (hi : i + 7 ≤ L) (hz : zinv σ) (k : ∀ (σ2 : zS) (H2 : Heap) (locs2 : List Loc), zinv σ2 → zLw G s σ2 H2 locs2 → zLW p l e s m b below meth c H2 locs2 (F0 m 2299 ls [])) : zLW p l e s m b below meth c H locs (F0 m 1779 ls []) := by
  have hx := LC.1.1
  have hb := LC.1.2.1
  refine lv_aload_n hx hb dL_1779 rfl (lv_at hl 1 rfl) ?_
  refine zl_arg (k := 1) LC hl w hi (by decide) dL_1780 dL_1781 dL_1782 dL_1783 dL_1784 ?_
  refine zl_arg (k := 2) LC hl w hi (by decide) dL_1785 dL_1786 dL_1787 dL_1788 dL_1789 ?_
  refine zl_call (M' := MX11_rent) (as := [zi (zx xs (i + 1)), zi (zx xs (i + 2))]) (q := 0) (ci := 11) (rs := (zsh 0).2.2) LC mkX11_rent (zin_5 (List.mem_of_getElem? (i := 120) (by decide +kernel))) rfl (by decide +kernel) rfl (by decide) (Nat.le_of_ble_eq_true rfl) rfl (zkc zx_in (zkc zx_in (fun v hv => absurd hv List.not_mem_nil))) hl w dL_1790 (st_rent hz) (fun r σ1 H1 locs1 hr1 hq1 w => ?_)
  refine lv_aload_n hx hb dL_1793 rfl (lv_at hl 2 rfl) ?_
  refine zl_arg (k := 1) LC hl w hi (by decide) dL_1794 dL_1795 dL_1796 dL_1797 dL_1798 ?_
  refine zl_arg (k := 2) LC hl w hi (by decide) dL_1799 dL_1800 dL_1801 dL_1802 dL_1803 ?_
  refine zl_call (M' := MX12_rent) (as := [zi (zx xs (i + 1)), zi (zx xs (i + 2))]) (q := 98) (ci := 12) (rs := (zsh 98).2.2) LC mkX12_rent (zin_9 (List.mem_of_getElem? (i := 4) (by decide +kernel))) rfl (by decide +kernel) rfl (by decide) (Nat.le_of_ble_eq_true rfl) rfl (zkc zx_in (zkc zx_in (fun v hv => absurd hv List.not_mem_nil))) hl w dL_1804 hq1 (fun r2 σ2 H2 locs2 hr2 hq2 w2 => ?_)
  obtain ⟨he, hz2⟩ := hq2
  subst he
  exact zl_same hx hb dL_1807 (by decide) (k σ2 H2 locs2 hz2 w2)
set_option maxHeartbeats 1000000 in
theorem zl_case39 {p : Program} {l : Launch} {e : Env} {s : State} {m : MethodId} {below : List Frame} {meth : Method} {c : Code} {b L : Nat} {xs : Nat → Int32} {G : zG} {σ : zS} {H : Heap} {locs : List Loc} {ls : Array Slot} {i : Nat} (LC : zLC G l p s m meth c b L xs) (hl : lv_has ls 4 (zll G b i)) (w : zLw G s σ H locs) (hi : i + 7 ≤ L) (hz : zinv σ) (k : ∀ (σ2 : zS) (H2 : Heap) (locs2 : List Loc), zinv σ2 → zLw G s σ2 H2 locs2 → zLW p l e s m b below meth c H2 locs2 (F0 m 2299 ls [])) : zLW p l e s m b below meth c H locs (F0 m 1812 ls []) := by
  have hx := LC.1.1
  have hb := LC.1.2.1
  refine lv_aload_n hx hb dL_1812 rfl (lv_at hl 1 rfl) ?_
  refine zl_arg (k := 1) LC hl w hi (by decide) dL_1813 dL_1814 dL_1815 dL_1816 dL_1817 ?_
  refine zl_call (M' := MX11_table) (as := [zi (zx xs (i + 1))]) (q := 0) (ci := 11) (rs := (zsh 0).2.2) LC mkX11_table (zin_5 (List.mem_of_getElem? (i := 137) (by decide +kernel))) rfl (by decide +kernel) rfl (by decide) (Nat.le_of_ble_eq_true rfl) rfl (zkc zx_in (fun v hv => absurd hv List.not_mem_nil)) hl w dL_1818 (st_table hz) (fun r σ1 H1 locs1 hr1 hq1 w => ?_)
  refine lv_aload_n hx hb dL_1821 rfl (lv_at hl 2 rfl) ?_
  refine zl_arg (k := 1) LC hl w hi (by decide) dL_1822 dL_1823 dL_1824 dL_1825 dL_1826 ?_
  refine zl_call (M' := MX12_table) (as := [zi (zx xs (i + 1))]) (q := 98) (ci := 12) (rs := (zsh 98).2.2) LC mkX12_table (zin_9 (List.mem_of_getElem? (i := 16) (by decide +kernel))) rfl (by decide +kernel) rfl (by decide) (Nat.le_of_ble_eq_true rfl) rfl (zkc zx_in (fun v hv => absurd hv List.not_mem_nil)) hl w dL_1827 hq1 (fun r2 σ2 H2 locs2 hr2 hq2 w2 => ?_)
  obtain ⟨he, hz2⟩ := hq2
  subst he
  exact zl_same hx hb dL_1830 (by decide) (k σ2 H2 locs2 hz2 w2)
