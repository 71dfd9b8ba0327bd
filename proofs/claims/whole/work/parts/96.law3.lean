/-! THE LAW: its cases -/
set_option maxHeartbeats 4000000 in
set_option maxRecDepth 100000 in
theorem lw_c32 {L : LL} {Γ : GC} {o : Nat → Nat} {q : Nat → Nat → Nat} {o2 : Nat} {u : Nat → Nat} {Z : Nat → OS} {S : OS} {b N : Nat} {xs : Nat → Int32} {i : Int32} (C : Cx L Γ cL_law RL (rmk 12 48 1334 478)) (X : Xs Γ b N xs) (h : Rel Z S) (h1 : vp_in (i + 1) N) (h2 : vp_in (i + 2) N) (h3 : vp_in (i + 3) N) (h4 : vp_in (i + 4) N) (kk : ∀ (Z' : Nat → OS) (S' : OS), Rel Z' S' → G L Γ 48 1334 (cells7 L o q Z' ++ cells8 L o2 u S') 1592 [(3, .int i), (0, .ref b), (1, .ref (o 0)), (2, .ref o2)] []) : G L Γ 48 1334 (cells7 L o q Z ++ cells8 L o2 u S) 1260 [(3, .int i), (0, .ref b), (1, .ref (o 0)), (2, .ref o2)] [] := by
  obtain ⟨r, Z', S', e7, e8, hr⟩ := q_rush h (xs (i + 1).toNatClampNeg) (xs (i + 2).toNatClampNeg)
  refine g_aload_n C 1261 2 dL_law_1260 rfl rfl ?_
  refine g_aload_n C 1262 1 dL_law_1261 rfl rfl ?_
  refine g_iload_n C 1263 0 dL_law_1262 rfl rfl ?_
  refine g_iconst C 1264 (1 : Int32) dL_law_1263 rfl rfl ?_
  refine g_iadd C 1265 dL_law_1264 rfl ?_
  refine g_sld C X 1266 h1 dL_law_1265 rfl ?_
  refine g_aload_n C 1267 1 dL_law_1266 rfl rfl ?_
  refine g_iload_n C 1268 0 dL_law_1267 rfl rfl ?_
  refine g_iconst C 1269 (2 : Int32) dL_law_1268 rfl rfl ?_
  refine g_iadd C 1270 dL_law_1269 rfl ?_
  refine g_sld C X 1271 h2 dL_law_1270 rfl ?_
  refine g_call7 (Z' := Z') C 1274 [] [.int r] (ct_X7_rush L o q Z (xs (i + 1).toNatClampNeg) (xs (i + 2).toNatClampNeg) _ e7) kX7_rush kvX7_rush wl_L_148 rfl rfl rfl rfl (Nat.le_of_ble_eq_true rfl) ⟨Nat.le_of_ble_eq_true rfl, Nat.le_of_ble_eq_true rfl⟩ ⟨Nat.le_of_ble_eq_true rfl, Nat.le_of_ble_eq_true rfl⟩ dL_law_1271 rfl ?_
  refine g_aload_n C 1275 3 dL_law_1274 rfl rfl ?_
  refine g_aload_n C 1276 1 dL_law_1275 rfl rfl ?_
  refine g_iload_n C 1277 0 dL_law_1276 rfl rfl ?_
  refine g_iconst C 1278 (1 : Int32) dL_law_1277 rfl rfl ?_
  refine g_iadd C 1279 dL_law_1278 rfl ?_
  refine g_sld C X 1280 h1 dL_law_1279 rfl ?_
  refine g_aload_n C 1281 1 dL_law_1280 rfl rfl ?_
  refine g_iload_n C 1282 0 dL_law_1281 rfl rfl ?_
  refine g_iconst C 1283 (2 : Int32) dL_law_1282 rfl rfl ?_
  refine g_iadd C 1284 dL_law_1283 rfl ?_
  refine g_sld C X 1285 h2 dL_law_1284 rfl ?_
  refine g_call8 (S' := S') C 1288 [.int r] [.int r, .int r] (ct_X8_rush L o2 u S (xs (i + 1).toNatClampNeg) (xs (i + 2).toNatClampNeg) _ e8) kX8_rush kvX8_rush wl_L_151 rfl rfl rfl rfl (Nat.le_of_ble_eq_true rfl) ⟨Nat.le_of_ble_eq_true rfl, Nat.le_of_ble_eq_true rfl⟩ ⟨Nat.le_of_ble_eq_true rfl, Nat.le_of_ble_eq_true rfl⟩ dL_law_1285 rfl ?_
  exact g_icmp_eq C 1592 1291 dL_law_1288 (by decide) rfl (fun _ => kk Z' S' hr) (fun c => absurd rfl c)
set_option maxHeartbeats 4000000 in
set_option maxRecDepth 100000 in
theorem lw_c33 {L : LL} {Γ : GC} {o : Nat → Nat} {q : Nat → Nat → Nat} {o2 : Nat} {u : Nat → Nat} {Z : Nat → OS} {S : OS} {b N : Nat} {xs : Nat → Int32} {i : Int32} (C : Cx L Γ cL_law RL (rmk 12 48 1334 478)) (X : Xs Γ b N xs) (h : Rel Z S) (h1 : vp_in (i + 1) N) (h2 : vp_in (i + 2) N) (h3 : vp_in (i + 3) N) (h4 : vp_in (i + 4) N) (kk : ∀ (Z' : Nat → OS) (S' : OS), Rel Z' S' → G L Γ 48 1334 (cells7 L o q Z' ++ cells8 L o2 u S') 1592 [(3, .int i), (0, .ref b), (1, .ref (o 0)), (2, .ref o2)] []) : G L Γ 48 1334 (cells7 L o q Z ++ cells8 L o2 u S) 1293 [(3, .int i), (0, .ref b), (1, .ref (o 0)), (2, .ref o2)] [] := by
  obtain ⟨r, Z', S', e7, e8, hr⟩ := q_newcomer h (xs (i + 1).toNatClampNeg)
  refine g_aload_n C 1294 2 dL_law_1293 rfl rfl ?_
  refine g_aload_n C 1295 1 dL_law_1294 rfl rfl ?_
  refine g_iload_n C 1296 0 dL_law_1295 rfl rfl ?_
  refine g_iconst C 1297 (1 : Int32) dL_law_1296 rfl rfl ?_
  refine g_iadd C 1298 dL_law_1297 rfl ?_
  refine g_sld C X 1299 h1 dL_law_1298 rfl ?_
  refine g_call7 (Z' := Z') C 1302 [] [.int r] (ct_X7_newcomer L o q Z (xs (i + 1).toNatClampNeg) _ e7) kX7_newcomer kvX7_newcomer wl_L_152 rfl rfl rfl rfl (Nat.le_of_ble_eq_true rfl) ⟨Nat.le_of_ble_eq_true rfl, Nat.le_of_ble_eq_true rfl⟩ ⟨Nat.le_of_ble_eq_true rfl, Nat.le_of_ble_eq_true rfl⟩ dL_law_1299 rfl ?_
  refine g_aload_n C 1303 3 dL_law_1302 rfl rfl ?_
  refine g_aload_n C 1304 1 dL_law_1303 rfl rfl ?_
  refine g_iload_n C 1305 0 dL_law_1304 rfl rfl ?_
  refine g_iconst C 1306 (1 : Int32) dL_law_1305 rfl rfl ?_
  refine g_iadd C 1307 dL_law_1306 rfl ?_
  refine g_sld C X 1308 h1 dL_law_1307 rfl ?_
  refine g_call8 (S' := S') C 1311 [.int r] [.int r, .int r] (ct_X8_newcomer L o2 u S (xs (i + 1).toNatClampNeg) _ e8) kX8_newcomer kvX8_newcomer wl_L_155 rfl rfl rfl rfl (Nat.le_of_ble_eq_true rfl) ⟨Nat.le_of_ble_eq_true rfl, Nat.le_of_ble_eq_true rfl⟩ ⟨Nat.le_of_ble_eq_true rfl, Nat.le_of_ble_eq_true rfl⟩ dL_law_1308 rfl ?_
  exact g_icmp_eq C 1592 1314 dL_law_1311 (by decide) rfl (fun _ => kk Z' S' hr) (fun c => absurd rfl c)
set_option maxHeartbeats 4000000 in
set_option maxRecDepth 100000 in
theorem lw_c34 {L : LL} {Γ : GC} {o : Nat → Nat} {q : Nat → Nat → Nat} {o2 : Nat} {u : Nat → Nat} {Z : Nat → OS} {S : OS} {b N : Nat} {xs : Nat → Int32} {i : Int32} (C : Cx L Γ cL_law RL (rmk 12 48 1334 478)) (X : Xs Γ b N xs) (h : Rel Z S) (h1 : vp_in (i + 1) N) (h2 : vp_in (i + 2) N) (h3 : vp_in (i + 3) N) (h4 : vp_in (i + 4) N) (kk : ∀ (Z' : Nat → OS) (S' : OS), Rel Z' S' → G L Γ 48 1334 (cells7 L o q Z' ++ cells8 L o2 u S') 1592 [(3, .int i), (0, .ref b), (1, .ref (o 0)), (2, .ref o2)] []) : G L Γ 48 1334 (cells7 L o q Z ++ cells8 L o2 u S) 1316 [(3, .int i), (0, .ref b), (1, .ref (o 0)), (2, .ref o2)] [] := by
  obtain ⟨r, Z', S', e7, e8, hr⟩ := q_gain h (xs (i + 1).toNatClampNeg) (xs (i + 2).toNatClampNeg)
  refine g_aload_n C 1317 2 dL_law_1316 rfl rfl ?_
  refine g_aload_n C 1318 1 dL_law_1317 rfl rfl ?_
  refine g_iload_n C 1319 0 dL_law_1318 rfl rfl ?_
  refine g_iconst C 1320 (1 : Int32) dL_law_1319 rfl rfl ?_
  refine g_iadd C 1321 dL_law_1320 rfl ?_
  refine g_sld C X 1322 h1 dL_law_1321 rfl ?_
  refine g_aload_n C 1323 1 dL_law_1322 rfl rfl ?_
  refine g_iload_n C 1324 0 dL_law_1323 rfl rfl ?_
  refine g_iconst C 1325 (2 : Int32) dL_law_1324 rfl rfl ?_
  refine g_iadd C 1326 dL_law_1325 rfl ?_
  refine g_sld C X 1327 h2 dL_law_1326 rfl ?_
  refine g_call7 (Z' := Z') C 1330 [] [.int r] (ct_X7_gain L o q Z (xs (i + 1).toNatClampNeg) (xs (i + 2).toNatClampNeg) _ e7) kX7_gain kvX7_gain wl_L_156 rfl rfl rfl rfl (Nat.le_of_ble_eq_true rfl) ⟨Nat.le_of_ble_eq_true rfl, Nat.le_of_ble_eq_true rfl⟩ ⟨Nat.le_of_ble_eq_true rfl, Nat.le_of_ble_eq_true rfl⟩ dL_law_1327 rfl ?_
  refine g_aload_n C 1331 3 dL_law_1330 rfl rfl ?_
  refine g_aload_n C 1332 1 dL_law_1331 rfl rfl ?_
  refine g_iload_n C 1333 0 dL_law_1332 rfl rfl ?_
  refine g_iconst C 1334 (1 : Int32) dL_law_1333 rfl rfl ?_
  refine g_iadd C 1335 dL_law_1334 rfl ?_
  refine g_sld C X 1336 h1 dL_law_1335 rfl ?_
  refine g_aload_n C 1337 1 dL_law_1336 rfl rfl ?_
  refine g_iload_n C 1338 0 dL_law_1337 rfl rfl ?_
  refine g_iconst C 1339 (2 : Int32) dL_law_1338 rfl rfl ?_
  refine g_iadd C 1340 dL_law_1339 rfl ?_
  refine g_sld C X 1341 h2 dL_law_1340 rfl ?_
  refine g_call8 (S' := S') C 1344 [.int r] [.int r, .int r] (ct_X8_gain L o2 u S (xs (i + 1).toNatClampNeg) (xs (i + 2).toNatClampNeg) _ e8) kX8_gain kvX8_gain wl_L_159 rfl rfl rfl rfl (Nat.le_of_ble_eq_true rfl) ⟨Nat.le_of_ble_eq_true rfl, Nat.le_of_ble_eq_true rfl⟩ ⟨Nat.le_of_ble_eq_true rfl, Nat.le_of_ble_eq_true rfl⟩ dL_law_1341 rfl ?_
  exact g_icmp_eq C 1592 1347 dL_law_1344 (by decide) rfl (fun _ => kk Z' S' hr) (fun c => absurd rfl c)
set_option maxHeartbeats 4000000 in
set_option maxRecDepth 100000 in
theorem lw_c35 {L : LL} {Γ : GC} {o : Nat → Nat} {q : Nat → Nat → Nat} {o2 : Nat} {u : Nat → Nat} {Z : Nat → OS} {S : OS} {b N : Nat} {xs : Nat → Int32} {i : Int32} (C : Cx L Γ cL_law RL (rmk 12 48 1334 478)) (X : Xs Γ b N xs) (h : Rel Z S) (h1 : vp_in (i + 1) N) (h2 : vp_in (i + 2) N) (h3 : vp_in (i + 3) N) (h4 : vp_in (i + 4) N) (kk : ∀ (Z' : Nat → OS) (S' : OS), Rel Z' S' → G L Γ 48 1334 (cells7 L o q Z' ++ cells8 L o2 u S') 1592 [(3, .int i), (0, .ref b), (1, .ref (o 0)), (2, .ref o2)] []) : G L Γ 48 1334 (cells7 L o q Z ++ cells8 L o2 u S) 1349 [(3, .int i), (0, .ref b), (1, .ref (o 0)), (2, .ref o2)] [] := by
  obtain ⟨r, Z', S', e7, e8, hr⟩ := q_career h (xs (i + 1).toNatClampNeg) (xs (i + 2).toNatClampNeg)
  refine g_aload_n C 1350 2 dL_law_1349 rfl rfl ?_
  refine g_aload_n C 1351 1 dL_law_1350 rfl rfl ?_
  refine g_iload_n C 1352 0 dL_law_1351 rfl rfl ?_
  refine g_iconst C 1353 (1 : Int32) dL_law_1352 rfl rfl ?_
  refine g_iadd C 1354 dL_law_1353 rfl ?_
  refine g_sld C X 1355 h1 dL_law_1354 rfl ?_
  refine g_aload_n C 1356 1 dL_law_1355 rfl rfl ?_
  refine g_iload_n C 1357 0 dL_law_1356 rfl rfl ?_
  refine g_iconst C 1358 (2 : Int32) dL_law_1357 rfl rfl ?_
  refine g_iadd C 1359 dL_law_1358 rfl ?_
  refine g_sld C X 1360 h2 dL_law_1359 rfl ?_
  refine g_call7 (Z' := Z') C 1363 [] [.int r] (ct_X7_career L o q Z (xs (i + 1).toNatClampNeg) (xs (i + 2).toNatClampNeg) _ e7) kX7_career kvX7_career wl_L_160 rfl rfl rfl rfl (Nat.le_of_ble_eq_true rfl) ⟨Nat.le_of_ble_eq_true rfl, Nat.le_of_ble_eq_true rfl⟩ ⟨Nat.le_of_ble_eq_true rfl, Nat.le_of_ble_eq_true rfl⟩ dL_law_1360 rfl ?_
  refine g_aload_n C 1364 3 dL_law_1363 rfl rfl ?_
  refine g_aload_n C 1365 1 dL_law_1364 rfl rfl ?_
  refine g_iload_n C 1366 0 dL_law_1365 rfl rfl ?_
  refine g_iconst C 1367 (1 : Int32) dL_law_1366 rfl rfl ?_
  refine g_iadd C 1368 dL_law_1367 rfl ?_
  refine g_sld C X 1369 h1 dL_law_1368 rfl ?_
  refine g_aload_n C 1370 1 dL_law_1369 rfl rfl ?_
  refine g_iload_n C 1371 0 dL_law_1370 rfl rfl ?_
  refine g_iconst C 1372 (2 : Int32) dL_law_1371 rfl rfl ?_
  refine g_iadd C 1373 dL_law_1372 rfl ?_
  refine g_sld C X 1374 h2 dL_law_1373 rfl ?_
  refine g_call8 (S' := S') C 1377 [.int r] [.int r, .int r] (ct_X8_career L o2 u S (xs (i + 1).toNatClampNeg) (xs (i + 2).toNatClampNeg) _ e8) kX8_career kvX8_career wl_L_163 rfl rfl rfl rfl (Nat.le_of_ble_eq_true rfl) ⟨Nat.le_of_ble_eq_true rfl, Nat.le_of_ble_eq_true rfl⟩ ⟨Nat.le_of_ble_eq_true rfl, Nat.le_of_ble_eq_true rfl⟩ dL_law_1374 rfl ?_
  exact g_icmp_eq C 1592 1380 dL_law_1377 (by decide) rfl (fun _ => kk Z' S' hr) (fun c => absurd rfl c)
set_option maxHeartbeats 4000000 in
set_option maxRecDepth 100000 in
theorem lw_c36 {L : LL} {Γ : GC} {o : Nat → Nat} {q : Nat → Nat → Nat} {o2 : Nat} {u : Nat → Nat} {Z : Nat → OS} {S : OS} {b N : Nat} {xs : Nat → Int32} {i : Int32} (C : Cx L Γ cL_law RL (rmk 12 48 1334 478)) (X : Xs Γ b N xs) (h : Rel Z S) (h1 : vp_in (i + 1) N) (h2 : vp_in (i + 2) N) (h3 : vp_in (i + 3) N) (h4 : vp_in (i + 4) N) (kk : ∀ (Z' : Nat → OS) (S' : OS), Rel Z' S' → G L Γ 48 1334 (cells7 L o q Z' ++ cells8 L o2 u S') 1592 [(3, .int i), (0, .ref b), (1, .ref (o 0)), (2, .ref o2)] []) : G L Γ 48 1334 (cells7 L o q Z ++ cells8 L o2 u S) 1382 [(3, .int i), (0, .ref b), (1, .ref (o 0)), (2, .ref o2)] [] := by
  obtain ⟨r, Z', S', e7, e8, hr⟩ := q_toughest h (xs (i + 1).toNatClampNeg)
  refine g_aload_n C 1383 2 dL_law_1382 rfl rfl ?_
  refine g_aload_n C 1384 1 dL_law_1383 rfl rfl ?_
  refine g_iload_n C 1385 0 dL_law_1384 rfl rfl ?_
  refine g_iconst C 1386 (1 : Int32) dL_law_1385 rfl rfl ?_
  refine g_iadd C 1387 dL_law_1386 rfl ?_
  refine g_sld C X 1388 h1 dL_law_1387 rfl ?_
  refine g_call7 (Z' := Z') C 1391 [] [.int r] (ct_X7_toughest L o q Z (xs (i + 1).toNatClampNeg) _ e7) kX7_toughest kvX7_toughest wl_L_164 rfl rfl rfl rfl (Nat.le_of_ble_eq_true rfl) ⟨Nat.le_of_ble_eq_true rfl, Nat.le_of_ble_eq_true rfl⟩ ⟨Nat.le_of_ble_eq_true rfl, Nat.le_of_ble_eq_true rfl⟩ dL_law_1388 rfl ?_
  refine g_aload_n C 1392 3 dL_law_1391 rfl rfl ?_
  refine g_aload_n C 1393 1 dL_law_1392 rfl rfl ?_
  refine g_iload_n C 1394 0 dL_law_1393 rfl rfl ?_
  refine g_iconst C 1395 (1 : Int32) dL_law_1394 rfl rfl ?_
  refine g_iadd C 1396 dL_law_1395 rfl ?_
  refine g_sld C X 1397 h1 dL_law_1396 rfl ?_
  refine g_call8 (S' := S') C 1400 [.int r] [.int r, .int r] (ct_X8_toughest L o2 u S (xs (i + 1).toNatClampNeg) _ e8) kX8_toughest kvX8_toughest wl_L_167 rfl rfl rfl rfl (Nat.le_of_ble_eq_true rfl) ⟨Nat.le_of_ble_eq_true rfl, Nat.le_of_ble_eq_true rfl⟩ ⟨Nat.le_of_ble_eq_true rfl, Nat.le_of_ble_eq_true rfl⟩ dL_law_1397 rfl ?_
  exact g_icmp_eq C 1592 1403 dL_law_1400 (by decide) rfl (fun _ => kk Z' S' hr) (fun c => absurd rfl c)
set_option maxHeartbeats 4000000 in
set_option maxRecDepth 100000 in
theorem lw_c37 {L : LL} {Γ : GC} {o : Nat → Nat} {q : Nat → Nat → Nat} {o2 : Nat} {u : Nat → Nat} {Z : Nat → OS} {S : OS} {b N : Nat} {xs : Nat → Int32} {i : Int32} (C : Cx L Γ cL_law RL (rmk 12 48 1334 478)) (X : Xs Γ b N xs) (h : Rel Z S) (h1 : vp_in (i + 1) N) (h2 : vp_in (i + 2) N) (h3 : vp_in (i + 3) N) (h4 : vp_in (i + 4) N) (kk : ∀ (Z' : Nat → OS) (S' : OS), Rel Z' S' → G L Γ 48 1334 (cells7 L o q Z' ++ cells8 L o2 u S') 1592 [(3, .int i), (0, .ref b), (1, .ref (o 0)), (2, .ref o2)] []) : G L Γ 48 1334 (cells7 L o q Z ++ cells8 L o2 u S) 1405 [(3, .int i), (0, .ref b), (1, .ref (o 0)), (2, .ref o2)] [] := by
  obtain ⟨r, e7, e8⟩ := q_equal h
  refine g_aload_n C 1406 2 dL_law_1405 rfl rfl ?_
  refine g_call7 (Z' := Z) C 1409 [] [.int r] (ct_X7_equal L o q Z _ e7) kX7_equal kvX7_equal wl_L_168 rfl rfl rfl rfl (Nat.le_of_ble_eq_true rfl) ⟨Nat.le_of_ble_eq_true rfl, Nat.le_of_ble_eq_true rfl⟩ ⟨Nat.le_of_ble_eq_true rfl, Nat.le_of_ble_eq_true rfl⟩ dL_law_1406 rfl ?_
  refine g_aload_n C 1410 3 dL_law_1409 rfl rfl ?_
  refine g_call8 (S' := S) C 1413 [.int r] [.int r, .int r] (ct_X8_equal L o2 u S _ e8) kX8_equal kvX8_equal wl_L_171 rfl rfl rfl rfl (Nat.le_of_ble_eq_true rfl) ⟨Nat.le_of_ble_eq_true rfl, Nat.le_of_ble_eq_true rfl⟩ ⟨Nat.le_of_ble_eq_true rfl, Nat.le_of_ble_eq_true rfl⟩ dL_law_1410 rfl ?_
  exact g_icmp_eq C 1592 1416 dL_law_1413 (by decide) rfl (fun _ => kk Z S h) (fun c => absurd rfl c)
set_option maxHeartbeats 4000000 in
set_option maxRecDepth 100000 in
theorem lw_c38 {L : LL} {Γ : GC} {o : Nat → Nat} {q : Nat → Nat → Nat} {o2 : Nat} {u : Nat → Nat} {Z : Nat → OS} {S : OS} {b N : Nat} {xs : Nat → Int32} {i : Int32} (C : Cx L Γ cL_law RL (rmk 12 48 1334 478)) (X : Xs Γ b N xs) (h : Rel Z S) (h1 : vp_in (i + 1) N) (h2 : vp_in (i + 2) N) (h3 : vp_in (i + 3) N) (h4 : vp_in (i + 4) N) (kk : ∀ (Z' : Nat → OS) (S' : OS), Rel Z' S' → G L Γ 48 1334 (cells7 L o q Z' ++ cells8 L o2 u S') 1592 [(3, .int i), (0, .ref b), (1, .ref (o 0)), (2, .ref o2)] []) : G L Γ 48 1334 (cells7 L o q Z ++ cells8 L o2 u S) 1418 [(3, .int i), (0, .ref b), (1, .ref (o 0)), (2, .ref o2)] [] := by
  obtain ⟨r, Z', S', e7, e8, hr⟩ := q_longest h (xs (i + 1).toNatClampNeg)
  refine g_aload_n C 1419 2 dL_law_1418 rfl rfl ?_
  refine g_aload_n C 1420 1 dL_law_1419 rfl rfl ?_
  refine g_iload_n C 1421 0 dL_law_1420 rfl rfl ?_
  refine g_iconst C 1422 (1 : Int32) dL_law_1421 rfl rfl ?_
  refine g_iadd C 1423 dL_law_1422 rfl ?_
  refine g_sld C X 1424 h1 dL_law_1423 rfl ?_
  refine g_call7 (Z' := Z') C 1427 [] [.int r] (ct_X7_longest L o q Z (xs (i + 1).toNatClampNeg) _ e7) kX7_longest kvX7_longest wl_L_172 rfl rfl rfl rfl (Nat.le_of_ble_eq_true rfl) ⟨Nat.le_of_ble_eq_true rfl, Nat.le_of_ble_eq_true rfl⟩ ⟨Nat.le_of_ble_eq_true rfl, Nat.le_of_ble_eq_true rfl⟩ dL_law_1424 rfl ?_
  refine g_aload_n C 1428 3 dL_law_1427 rfl rfl ?_
  refine g_aload_n C 1429 1 dL_law_1428 rfl rfl ?_
  refine g_iload_n C 1430 0 dL_law_1429 rfl rfl ?_
  refine g_iconst C 1431 (1 : Int32) dL_law_1430 rfl rfl ?_
  refine g_iadd C 1432 dL_law_1431 rfl ?_
  refine g_sld C X 1433 h1 dL_law_1432 rfl ?_
  refine g_call8 (S' := S') C 1436 [.int r] [.int r, .int r] (ct_X8_longest L o2 u S (xs (i + 1).toNatClampNeg) _ e8) kX8_longest kvX8_longest wl_L_175 rfl rfl rfl rfl (Nat.le_of_ble_eq_true rfl) ⟨Nat.le_of_ble_eq_true rfl, Nat.le_of_ble_eq_true rfl⟩ ⟨Nat.le_of_ble_eq_true rfl, Nat.le_of_ble_eq_true rfl⟩ dL_law_1433 rfl ?_
  exact g_icmp_eq C 1592 1439 dL_law_1436 (by decide) rfl (fun _ => kk Z' S' hr) (fun c => absurd rfl c)
set_option maxHeartbeats 4000000 in
set_option maxRecDepth 100000 in
theorem lw_c39 {L : LL} {Γ : GC} {o : Nat → Nat} {q : Nat → Nat → Nat} {o2 : Nat} {u : Nat → Nat} {Z : Nat → OS} {S : OS} {b N : Nat} {xs : Nat → Int32} {i : Int32} (C : Cx L Γ cL_law RL (rmk 12 48 1334 478)) (X : Xs Γ b N xs) (h : Rel Z S) (h1 : vp_in (i + 1) N) (h2 : vp_in (i + 2) N) (h3 : vp_in (i + 3) N) (h4 : vp_in (i + 4) N) (kk : ∀ (Z' : Nat → OS) (S' : OS), Rel Z' S' → G L Γ 48 1334 (cells7 L o q Z' ++ cells8 L o2 u S') 1592 [(3, .int i), (0, .ref b), (1, .ref (o 0)), (2, .ref o2)] []) : G L Γ 48 1334 (cells7 L o q Z ++ cells8 L o2 u S) 1441 [(3, .int i), (0, .ref b), (1, .ref (o 0)), (2, .ref o2)] [] := by
  obtain ⟨r, Z', S', e7, e8, hr⟩ := q_row h (xs (i + 1).toNatClampNeg)
  refine g_aload_n C 1442 2 dL_law_1441 rfl rfl ?_
  refine g_aload_n C 1443 1 dL_law_1442 rfl rfl ?_
  refine g_iload_n C 1444 0 dL_law_1443 rfl rfl ?_
  refine g_iconst C 1445 (1 : Int32) dL_law_1444 rfl rfl ?_
  refine g_iadd C 1446 dL_law_1445 rfl ?_
  refine g_sld C X 1447 h1 dL_law_1446 rfl ?_
  refine g_call7 (Z' := Z') C 1450 [] [.int r] (ct_X7_row L o q Z (xs (i + 1).toNatClampNeg) _ e7) kX7_row kvX7_row wl_L_176 rfl rfl rfl rfl (Nat.le_of_ble_eq_true rfl) ⟨Nat.le_of_ble_eq_true rfl, Nat.le_of_ble_eq_true rfl⟩ ⟨Nat.le_of_ble_eq_true rfl, Nat.le_of_ble_eq_true rfl⟩ dL_law_1447 rfl ?_
  refine g_aload_n C 1451 3 dL_law_1450 rfl rfl ?_
  refine g_aload_n C 1452 1 dL_law_1451 rfl rfl ?_
  refine g_iload_n C 1453 0 dL_law_1452 rfl rfl ?_
  refine g_iconst C 1454 (1 : Int32) dL_law_1453 rfl rfl ?_
  refine g_iadd C 1455 dL_law_1454 rfl ?_
  refine g_sld C X 1456 h1 dL_law_1455 rfl ?_
  refine g_call8 (S' := S') C 1459 [.int r] [.int r, .int r] (ct_X8_row L o2 u S (xs (i + 1).toNatClampNeg) _ e8) kX8_row kvX8_row wl_L_179 rfl rfl rfl rfl (Nat.le_of_ble_eq_true rfl) ⟨Nat.le_of_ble_eq_true rfl, Nat.le_of_ble_eq_true rfl⟩ ⟨Nat.le_of_ble_eq_true rfl, Nat.le_of_ble_eq_true rfl⟩ dL_law_1456 rfl ?_
  exact g_icmp_eq C 1592 1462 dL_law_1459 (by decide) rfl (fun _ => kk Z' S' hr) (fun c => absurd rfl c)
set_option maxHeartbeats 4000000 in
set_option maxRecDepth 100000 in
theorem lw_c40 {L : LL} {Γ : GC} {o : Nat → Nat} {q : Nat → Nat → Nat} {o2 : Nat} {u : Nat → Nat} {Z : Nat → OS} {S : OS} {b N : Nat} {xs : Nat → Int32} {i : Int32} (C : Cx L Γ cL_law RL (rmk 12 48 1334 478)) (X : Xs Γ b N xs) (h : Rel Z S) (h1 : vp_in (i + 1) N) (h2 : vp_in (i + 2) N) (h3 : vp_in (i + 3) N) (h4 : vp_in (i + 4) N) (kk : ∀ (Z' : Nat → OS) (S' : OS), Rel Z' S' → G L Γ 48 1334 (cells7 L o q Z' ++ cells8 L o2 u S') 1592 [(3, .int i), (0, .ref b), (1, .ref (o 0)), (2, .ref o2)] []) : G L Γ 48 1334 (cells7 L o q Z ++ cells8 L o2 u S) 1464 [(3, .int i), (0, .ref b), (1, .ref (o 0)), (2, .ref o2)] [] := by
  obtain ⟨r, Z', S', e7, e8, hr⟩ := q_judge h (xs (i + 1).toNatClampNeg)
  refine g_aload_n C 1465 2 dL_law_1464 rfl rfl ?_
  refine g_aload_n C 1466 1 dL_law_1465 rfl rfl ?_
  refine g_iload_n C 1467 0 dL_law_1466 rfl rfl ?_
  refine g_iconst C 1468 (1 : Int32) dL_law_1467 rfl rfl ?_
  refine g_iadd C 1469 dL_law_1468 rfl ?_
  refine g_sld C X 1470 h1 dL_law_1469 rfl ?_
  refine g_call7 (Z' := Z') C 1473 [] [.int r] (ct_X7_judge L o q Z (xs (i + 1).toNatClampNeg) _ e7) kX7_judge kvX7_judge wl_L_180 rfl rfl rfl rfl (Nat.le_of_ble_eq_true rfl) ⟨Nat.le_of_ble_eq_true rfl, Nat.le_of_ble_eq_true rfl⟩ ⟨Nat.le_of_ble_eq_true rfl, Nat.le_of_ble_eq_true rfl⟩ dL_law_1470 rfl ?_
  refine g_aload_n C 1474 3 dL_law_1473 rfl rfl ?_
  refine g_aload_n C 1475 1 dL_law_1474 rfl rfl ?_
  refine g_iload_n C 1476 0 dL_law_1475 rfl rfl ?_
  refine g_iconst C 1477 (1 : Int32) dL_law_1476 rfl rfl ?_
  refine g_iadd C 1478 dL_law_1477 rfl ?_
  refine g_sld C X 1479 h1 dL_law_1478 rfl ?_
  refine g_call8 (S' := S') C 1482 [.int r] [.int r, .int r] (ct_X8_judge L o2 u S (xs (i + 1).toNatClampNeg) _ e8) kX8_judge kvX8_judge wl_L_183 rfl rfl rfl rfl (Nat.le_of_ble_eq_true rfl) ⟨Nat.le_of_ble_eq_true rfl, Nat.le_of_ble_eq_true rfl⟩ ⟨Nat.le_of_ble_eq_true rfl, Nat.le_of_ble_eq_true rfl⟩ dL_law_1479 rfl ?_
  exact g_icmp_eq C 1592 1485 dL_law_1482 (by decide) rfl (fun _ => kk Z' S' hr) (fun c => absurd rfl c)
set_option maxHeartbeats 4000000 in
set_option maxRecDepth 100000 in
theorem lw_c41 {L : LL} {Γ : GC} {o : Nat → Nat} {q : Nat → Nat → Nat} {o2 : Nat} {u : Nat → Nat} {Z : Nat → OS} {S : OS} {b N : Nat} {xs : Nat → Int32} {i : Int32} (C : Cx L Γ cL_law RL (rmk 12 48 1334 478)) (X : Xs Γ b N xs) (h : Rel Z S) (h1 : vp_in (i + 1) N) (h2 : vp_in (i + 2) N) (h3 : vp_in (i + 3) N) (h4 : vp_in (i + 4) N) (kk : ∀ (Z' : Nat → OS) (S' : OS), Rel Z' S' → G L Γ 48 1334 (cells7 L o q Z' ++ cells8 L o2 u S') 1592 [(3, .int i), (0, .ref b), (1, .ref (o 0)), (2, .ref o2)] []) : G L Γ 48 1334 (cells7 L o q Z ++ cells8 L o2 u S) 1487 [(3, .int i), (0, .ref b), (1, .ref (o 0)), (2, .ref o2)] [] := by
  obtain ⟨r, Z', S', e7, e8, hr⟩ := q_clear h
  refine g_aload_n C 1488 2 dL_law_1487 rfl rfl ?_
  refine g_call7 (Z' := Z') C 1491 [] [.int r] (ct_X7_clear L o q Z _ e7) kX7_clear kvX7_clear wl_L_184 rfl rfl rfl rfl (Nat.le_of_ble_eq_true rfl) ⟨Nat.le_of_ble_eq_true rfl, Nat.le_of_ble_eq_true rfl⟩ ⟨Nat.le_of_ble_eq_true rfl, Nat.le_of_ble_eq_true rfl⟩ dL_law_1488 rfl ?_
  refine g_aload_n C 1492 3 dL_law_1491 rfl rfl ?_
  refine g_call8 (S' := S') C 1495 [.int r] [.int r, .int r] (ct_X8_clear L o2 u S _ e8) kX8_clear kvX8_clear wl_L_187 rfl rfl rfl rfl (Nat.le_of_ble_eq_true rfl) ⟨Nat.le_of_ble_eq_true rfl, Nat.le_of_ble_eq_true rfl⟩ ⟨Nat.le_of_ble_eq_true rfl, Nat.le_of_ble_eq_true rfl⟩ dL_law_1492 rfl ?_
  exact g_icmp_eq C 1592 1498 dL_law_1495 (by decide) rfl (fun _ => kk Z' S' hr) (fun c => absurd rfl c)
set_option maxHeartbeats 4000000 in
set_option maxRecDepth 100000 in
theorem lw_c42 {L : LL} {Γ : GC} {o : Nat → Nat} {q : Nat → Nat → Nat} {o2 : Nat} {u : Nat → Nat} {Z : Nat → OS} {S : OS} {b N : Nat} {xs : Nat → Int32} {i : Int32} (C : Cx L Γ cL_law RL (rmk 12 48 1334 478)) (X : Xs Γ b N xs) (h : Rel Z S) (h1 : vp_in (i + 1) N) (h2 : vp_in (i + 2) N) (h3 : vp_in (i + 3) N) (h4 : vp_in (i + 4) N) (kk : ∀ (Z' : Nat → OS) (S' : OS), Rel Z' S' → G L Γ 48 1334 (cells7 L o q Z' ++ cells8 L o2 u S') 1592 [(3, .int i), (0, .ref b), (1, .ref (o 0)), (2, .ref o2)] []) : G L Γ 48 1334 (cells7 L o q Z ++ cells8 L o2 u S) 1500 [(3, .int i), (0, .ref b), (1, .ref (o 0)), (2, .ref o2)] [] := by
  obtain ⟨r, Z', S', e7, e8, hr⟩ := q_lots h (xs (i + 1).toNatClampNeg) (xs (i + 2).toNatClampNeg) (xs (i + 3).toNatClampNeg)
  refine g_aload_n C 1501 2 dL_law_1500 rfl rfl ?_
  refine g_aload_n C 1502 1 dL_law_1501 rfl rfl ?_
  refine g_iload_n C 1503 0 dL_law_1502 rfl rfl ?_
  refine g_iconst C 1504 (1 : Int32) dL_law_1503 rfl rfl ?_
  refine g_iadd C 1505 dL_law_1504 rfl ?_
  refine g_sld C X 1506 h1 dL_law_1505 rfl ?_
  refine g_aload_n C 1507 1 dL_law_1506 rfl rfl ?_
  refine g_iload_n C 1508 0 dL_law_1507 rfl rfl ?_
  refine g_iconst C 1509 (2 : Int32) dL_law_1508 rfl rfl ?_
  refine g_iadd C 1510 dL_law_1509 rfl ?_
  refine g_sld C X 1511 h2 dL_law_1510 rfl ?_
  refine g_aload_n C 1512 1 dL_law_1511 rfl rfl ?_
  refine g_iload_n C 1513 0 dL_law_1512 rfl rfl ?_
  refine g_iconst C 1514 (3 : Int32) dL_law_1513 rfl rfl ?_
  refine g_iadd C 1515 dL_law_1514 rfl ?_
  refine g_sld C X 1516 h3 dL_law_1515 rfl ?_
  refine g_call7 (Z' := Z') C 1519 [] [.int r] (ct_X7_lots L o q Z (xs (i + 1).toNatClampNeg) (xs (i + 2).toNatClampNeg) (xs (i + 3).toNatClampNeg) _ e7) kX7_lots kvX7_lots wl_L_188 rfl rfl rfl rfl (Nat.le_of_ble_eq_true rfl) ⟨Nat.le_of_ble_eq_true rfl, Nat.le_of_ble_eq_true rfl⟩ ⟨Nat.le_of_ble_eq_true rfl, Nat.le_of_ble_eq_true rfl⟩ dL_law_1516 rfl ?_
  refine g_aload_n C 1520 3 dL_law_1519 rfl rfl ?_
  refine g_aload_n C 1521 1 dL_law_1520 rfl rfl ?_
  refine g_iload_n C 1522 0 dL_law_1521 rfl rfl ?_
  refine g_iconst C 1523 (1 : Int32) dL_law_1522 rfl rfl ?_
  refine g_iadd C 1524 dL_law_1523 rfl ?_
  refine g_sld C X 1525 h1 dL_law_1524 rfl ?_
  refine g_aload_n C 1526 1 dL_law_1525 rfl rfl ?_
  refine g_iload_n C 1527 0 dL_law_1526 rfl rfl ?_
  refine g_iconst C 1528 (2 : Int32) dL_law_1527 rfl rfl ?_
  refine g_iadd C 1529 dL_law_1528 rfl ?_
  refine g_sld C X 1530 h2 dL_law_1529 rfl ?_
  refine g_aload_n C 1531 1 dL_law_1530 rfl rfl ?_
  refine g_iload_n C 1532 0 dL_law_1531 rfl rfl ?_
  refine g_iconst C 1533 (3 : Int32) dL_law_1532 rfl rfl ?_
  refine g_iadd C 1534 dL_law_1533 rfl ?_
  refine g_sld C X 1535 h3 dL_law_1534 rfl ?_
  refine g_call8 (S' := S') C 1538 [.int r] [.int r, .int r] (ct_X8_lots L o2 u S (xs (i + 1).toNatClampNeg) (xs (i + 2).toNatClampNeg) (xs (i + 3).toNatClampNeg) _ e8) kX8_lots kvX8_lots wl_L_191 rfl rfl rfl rfl (Nat.le_of_ble_eq_true rfl) ⟨Nat.le_of_ble_eq_true rfl, Nat.le_of_ble_eq_true rfl⟩ ⟨Nat.le_of_ble_eq_true rfl, Nat.le_of_ble_eq_true rfl⟩ dL_law_1535 rfl ?_
  exact g_icmp_eq C 1592 1541 dL_law_1538 (by decide) rfl (fun _ => kk Z' S' hr) (fun c => absurd rfl c)
set_option maxHeartbeats 4000000 in
set_option maxRecDepth 100000 in
theorem lw_c43 {L : LL} {Γ : GC} {o : Nat → Nat} {q : Nat → Nat → Nat} {o2 : Nat} {u : Nat → Nat} {Z : Nat → OS} {S : OS} {b N : Nat} {xs : Nat → Int32} {i : Int32} (C : Cx L Γ cL_law RL (rmk 12 48 1334 478)) (X : Xs Γ b N xs) (h : Rel Z S) (h1 : vp_in (i + 1) N) (h2 : vp_in (i + 2) N) (h3 : vp_in (i + 3) N) (h4 : vp_in (i + 4) N) (kk : ∀ (Z' : Nat → OS) (S' : OS), Rel Z' S' → G L Γ 48 1334 (cells7 L o q Z' ++ cells8 L o2 u S') 1592 [(3, .int i), (0, .ref b), (1, .ref (o 0)), (2, .ref o2)] []) : G L Γ 48 1334 (cells7 L o q Z ++ cells8 L o2 u S) 1543 [(3, .int i), (0, .ref b), (1, .ref (o 0)), (2, .ref o2)] [] := by
  obtain ⟨r, Z', S', e7, e8, hr⟩ := q_image h
  refine g_aload_n C 1544 2 dL_law_1543 rfl rfl ?_
  refine g_call7 (Z' := Z') C 1547 [] [.int r] (ct_X7_image L o q Z _ e7) kX7_image kvX7_image wl_L_192 rfl rfl rfl rfl (Nat.le_of_ble_eq_true rfl) ⟨Nat.le_of_ble_eq_true rfl, Nat.le_of_ble_eq_true rfl⟩ ⟨Nat.le_of_ble_eq_true rfl, Nat.le_of_ble_eq_true rfl⟩ dL_law_1544 rfl ?_
  refine g_aload_n C 1548 3 dL_law_1547 rfl rfl ?_
  refine g_call8 (S' := S') C 1551 [.int r] [.int r, .int r] (ct_X8_image L o2 u S _ e8) kX8_image kvX8_image wl_L_195 rfl rfl rfl rfl (Nat.le_of_ble_eq_true rfl) ⟨Nat.le_of_ble_eq_true rfl, Nat.le_of_ble_eq_true rfl⟩ ⟨Nat.le_of_ble_eq_true rfl, Nat.le_of_ble_eq_true rfl⟩ dL_law_1548 rfl ?_
  exact g_icmp_eq C 1592 1554 dL_law_1551 (by decide) rfl (fun _ => kk Z' S' hr) (fun c => absurd rfl c)
set_option maxHeartbeats 4000000 in
set_option maxRecDepth 100000 in
theorem lw_c44 {L : LL} {Γ : GC} {o : Nat → Nat} {q : Nat → Nat → Nat} {o2 : Nat} {u : Nat → Nat} {Z : Nat → OS} {S : OS} {b N : Nat} {xs : Nat → Int32} {i : Int32} (C : Cx L Γ cL_law RL (rmk 12 48 1334 478)) (X : Xs Γ b N xs) (h : Rel Z S) (h1 : vp_in (i + 1) N) (h2 : vp_in (i + 2) N) (h3 : vp_in (i + 3) N) (h4 : vp_in (i + 4) N) (kk : ∀ (Z' : Nat → OS) (S' : OS), Rel Z' S' → G L Γ 48 1334 (cells7 L o q Z' ++ cells8 L o2 u S') 1592 [(3, .int i), (0, .ref b), (1, .ref (o 0)), (2, .ref o2)] []) : G L Γ 48 1334 (cells7 L o q Z ++ cells8 L o2 u S) 1556 [(3, .int i), (0, .ref b), (1, .ref (o 0)), (2, .ref o2)] [] := by
  obtain ⟨r, Z', S', e7, e8, hr⟩ := q_restore h
  refine g_aload_n C 1557 2 dL_law_1556 rfl rfl ?_
  refine g_call7 (Z' := Z') C 1560 [] [.int r] (ct_X7_restore L o q Z _ e7) kX7_restore kvX7_restore wl_L_196 rfl rfl rfl rfl (Nat.le_of_ble_eq_true rfl) ⟨Nat.le_of_ble_eq_true rfl, Nat.le_of_ble_eq_true rfl⟩ ⟨Nat.le_of_ble_eq_true rfl, Nat.le_of_ble_eq_true rfl⟩ dL_law_1557 rfl ?_
  refine g_aload_n C 1561 3 dL_law_1560 rfl rfl ?_
  refine g_call8 (S' := S') C 1564 [.int r] [.int r, .int r] (ct_X8_restore L o2 u S _ e8) kX8_restore kvX8_restore wl_L_199 rfl rfl rfl rfl (Nat.le_of_ble_eq_true rfl) ⟨Nat.le_of_ble_eq_true rfl, Nat.le_of_ble_eq_true rfl⟩ ⟨Nat.le_of_ble_eq_true rfl, Nat.le_of_ble_eq_true rfl⟩ dL_law_1561 rfl ?_
  exact g_icmp_eq C 1592 1567 dL_law_1564 (by decide) rfl (fun _ => kk Z' S' hr) (fun c => absurd rfl c)
set_option maxHeartbeats 4000000 in
set_option maxRecDepth 100000 in
theorem lw_c45 {L : LL} {Γ : GC} {o : Nat → Nat} {q : Nat → Nat → Nat} {o2 : Nat} {u : Nat → Nat} {Z : Nat → OS} {S : OS} {b N : Nat} {xs : Nat → Int32} {i : Int32} (C : Cx L Γ cL_law RL (rmk 12 48 1334 478)) (X : Xs Γ b N xs) (h : Rel Z S) (h1 : vp_in (i + 1) N) (h2 : vp_in (i + 2) N) (h3 : vp_in (i + 3) N) (h4 : vp_in (i + 4) N) (kk : ∀ (Z' : Nat → OS) (S' : OS), Rel Z' S' → G L Γ 48 1334 (cells7 L o q Z' ++ cells8 L o2 u S') 1592 [(3, .int i), (0, .ref b), (1, .ref (o 0)), (2, .ref o2)] []) : G L Γ 48 1334 (cells7 L o q Z ++ cells8 L o2 u S) 1569 [(3, .int i), (0, .ref b), (1, .ref (o 0)), (2, .ref o2)] [] := by
  obtain ⟨r, e7, e8⟩ := q_count h (xs (i + 1).toNatClampNeg)
  refine g_aload_n C 1570 2 dL_law_1569 rfl rfl ?_
  refine g_aload_n C 1571 1 dL_law_1570 rfl rfl ?_
  refine g_iload_n C 1572 0 dL_law_1571 rfl rfl ?_
  refine g_iconst C 1573 (1 : Int32) dL_law_1572 rfl rfl ?_
  refine g_iadd C 1574 dL_law_1573 rfl ?_
  refine g_sld C X 1575 h1 dL_law_1574 rfl ?_
  refine g_call7 (Z' := Z) C 1578 [] [.int r] (ct_X7_count L o q Z (xs (i + 1).toNatClampNeg) _ e7) kX7_count kvX7_count wl_L_200 rfl rfl rfl rfl (Nat.le_of_ble_eq_true rfl) ⟨Nat.le_of_ble_eq_true rfl, Nat.le_of_ble_eq_true rfl⟩ ⟨Nat.le_of_ble_eq_true rfl, Nat.le_of_ble_eq_true rfl⟩ dL_law_1575 rfl ?_
  refine g_aload_n C 1579 3 dL_law_1578 rfl rfl ?_
  refine g_aload_n C 1580 1 dL_law_1579 rfl rfl ?_
  refine g_iload_n C 1581 0 dL_law_1580 rfl rfl ?_
  refine g_iconst C 1582 (1 : Int32) dL_law_1581 rfl rfl ?_
  refine g_iadd C 1583 dL_law_1582 rfl ?_
  refine g_sld C X 1584 h1 dL_law_1583 rfl ?_
  refine g_call8 (S' := S) C 1587 [.int r] [.int r, .int r] (ct_X8_count L o2 u S (xs (i + 1).toNatClampNeg) _ e8) kX8_count kvX8_count wl_L_203 rfl rfl rfl rfl (Nat.le_of_ble_eq_true rfl) ⟨Nat.le_of_ble_eq_true rfl, Nat.le_of_ble_eq_true rfl⟩ ⟨Nat.le_of_ble_eq_true rfl, Nat.le_of_ble_eq_true rfl⟩ dL_law_1584 rfl ?_
  exact g_icmp_eq C 1592 1590 dL_law_1587 (by decide) rfl (fun _ => kk Z S h) (fun c => absurd rfl c)
