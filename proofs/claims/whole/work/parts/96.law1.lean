/-! THE LAW: its cases -/
set_option maxHeartbeats 4000000 in
set_option maxRecDepth 100000 in
theorem lw_c0 {L : LL} {Γ : GC} {o : Nat → Nat} {q : Nat → Nat → Nat} {o2 : Nat} {u : Nat → Nat} {Z : Nat → OS} {S : OS} {b N : Nat} {xs : Nat → Int32} {i : Int32} (C : Cx L Γ cL_law RL (rmk 12 48 1334 478)) (X : Xs Γ b N xs) (h : Rel Z S) (h1 : vp_in (i + 1) N) (h2 : vp_in (i + 2) N) (h3 : vp_in (i + 3) N) (h4 : vp_in (i + 4) N) (kk : ∀ (Z' : Nat → OS) (S' : OS), Rel Z' S' → G L Γ 48 1334 (cells7 L o q Z' ++ cells8 L o2 u S') 1592 [(3, .int i), (0, .ref b), (1, .ref (o 0)), (2, .ref o2)] []) : G L Γ 48 1334 (cells7 L o q Z ++ cells8 L o2 u S) 232 [(3, .int i), (0, .ref b), (1, .ref (o 0)), (2, .ref o2)] [] := by
  obtain ⟨r, Z', S', e7, e8, hr⟩ := q_feed h (xs (i + 1).toNatClampNeg)
  refine g_aload_n C 233 2 dL_law_232 rfl rfl ?_
  refine g_aload_n C 234 1 dL_law_233 rfl rfl ?_
  refine g_iload_n C 235 0 dL_law_234 rfl rfl ?_
  refine g_iconst C 236 (1 : Int32) dL_law_235 rfl rfl ?_
  refine g_iadd C 237 dL_law_236 rfl ?_
  refine g_sld C X 238 h1 dL_law_237 rfl ?_
  refine g_call7 (Z' := Z') C 241 [] [.int r] (ct_X7_feed L o q Z (xs (i + 1).toNatClampNeg) _ e7) kX7_feed kvX7_feed wl_L_13 rfl rfl rfl rfl (Nat.le_of_ble_eq_true rfl) ⟨Nat.le_of_ble_eq_true rfl, Nat.le_of_ble_eq_true rfl⟩ ⟨Nat.le_of_ble_eq_true rfl, Nat.le_of_ble_eq_true rfl⟩ dL_law_238 rfl ?_
  refine g_aload_n C 242 3 dL_law_241 rfl rfl ?_
  refine g_aload_n C 243 1 dL_law_242 rfl rfl ?_
  refine g_iload_n C 244 0 dL_law_243 rfl rfl ?_
  refine g_iconst C 245 (1 : Int32) dL_law_244 rfl rfl ?_
  refine g_iadd C 246 dL_law_245 rfl ?_
  refine g_sld C X 247 h1 dL_law_246 rfl ?_
  refine g_call8 (S' := S') C 250 [.int r] [.int r, .int r] (ct_X8_feed L o2 u S (xs (i + 1).toNatClampNeg) _ e8) kX8_feed kvX8_feed wl_L_17 rfl rfl rfl rfl (Nat.le_of_ble_eq_true rfl) ⟨Nat.le_of_ble_eq_true rfl, Nat.le_of_ble_eq_true rfl⟩ ⟨Nat.le_of_ble_eq_true rfl, Nat.le_of_ble_eq_true rfl⟩ dL_law_247 rfl ?_
  exact g_icmp_eq C 1592 253 dL_law_250 (by decide) rfl (fun _ => kk Z' S' hr) (fun c => absurd rfl c)
set_option maxHeartbeats 4000000 in
set_option maxRecDepth 100000 in
theorem lw_c1 {L : LL} {Γ : GC} {o : Nat → Nat} {q : Nat → Nat → Nat} {o2 : Nat} {u : Nat → Nat} {Z : Nat → OS} {S : OS} {b N : Nat} {xs : Nat → Int32} {i : Int32} (C : Cx L Γ cL_law RL (rmk 12 48 1334 478)) (X : Xs Γ b N xs) (h : Rel Z S) (h1 : vp_in (i + 1) N) (h2 : vp_in (i + 2) N) (h3 : vp_in (i + 3) N) (h4 : vp_in (i + 4) N) (kk : ∀ (Z' : Nat → OS) (S' : OS), Rel Z' S' → G L Γ 48 1334 (cells7 L o q Z' ++ cells8 L o2 u S') 1592 [(3, .int i), (0, .ref b), (1, .ref (o 0)), (2, .ref o2)] []) : G L Γ 48 1334 (cells7 L o q Z ++ cells8 L o2 u S) 255 [(3, .int i), (0, .ref b), (1, .ref (o 0)), (2, .ref o2)] [] := by
  obtain ⟨r, Z', S', e7, e8, hr⟩ := q_town h
  refine g_aload_n C 256 2 dL_law_255 rfl rfl ?_
  refine g_call7 (Z' := Z') C 259 [] [.int r] (ct_X7_town L o q Z _ e7) kX7_town kvX7_town wl_L_18 rfl rfl rfl rfl (Nat.le_of_ble_eq_true rfl) ⟨Nat.le_of_ble_eq_true rfl, Nat.le_of_ble_eq_true rfl⟩ ⟨Nat.le_of_ble_eq_true rfl, Nat.le_of_ble_eq_true rfl⟩ dL_law_256 rfl ?_
  refine g_aload_n C 260 3 dL_law_259 rfl rfl ?_
  refine g_call8 (S' := S') C 263 [.int r] [.int r, .int r] (ct_X8_town L o2 u S _ e8) kX8_town kvX8_town wl_L_22 rfl rfl rfl rfl (Nat.le_of_ble_eq_true rfl) ⟨Nat.le_of_ble_eq_true rfl, Nat.le_of_ble_eq_true rfl⟩ ⟨Nat.le_of_ble_eq_true rfl, Nat.le_of_ble_eq_true rfl⟩ dL_law_260 rfl ?_
  exact g_icmp_eq C 1592 266 dL_law_263 (by decide) rfl (fun _ => kk Z' S' hr) (fun c => absurd rfl c)
set_option maxHeartbeats 4000000 in
set_option maxRecDepth 100000 in
theorem lw_c2 {L : LL} {Γ : GC} {o : Nat → Nat} {q : Nat → Nat → Nat} {o2 : Nat} {u : Nat → Nat} {Z : Nat → OS} {S : OS} {b N : Nat} {xs : Nat → Int32} {i : Int32} (C : Cx L Γ cL_law RL (rmk 12 48 1334 478)) (X : Xs Γ b N xs) (h : Rel Z S) (h1 : vp_in (i + 1) N) (h2 : vp_in (i + 2) N) (h3 : vp_in (i + 3) N) (h4 : vp_in (i + 4) N) (kk : ∀ (Z' : Nat → OS) (S' : OS), Rel Z' S' → G L Γ 48 1334 (cells7 L o q Z' ++ cells8 L o2 u S') 1592 [(3, .int i), (0, .ref b), (1, .ref (o 0)), (2, .ref o2)] []) : G L Γ 48 1334 (cells7 L o q Z ++ cells8 L o2 u S) 268 [(3, .int i), (0, .ref b), (1, .ref (o 0)), (2, .ref o2)] [] := by
  obtain ⟨r, Z', S', e7, e8, hr⟩ := q_streetOf h (xs (i + 1).toNatClampNeg) (xs (i + 2).toNatClampNeg)
  refine g_aload_n C 269 2 dL_law_268 rfl rfl ?_
  refine g_aload_n C 270 1 dL_law_269 rfl rfl ?_
  refine g_iload_n C 271 0 dL_law_270 rfl rfl ?_
  refine g_iconst C 272 (1 : Int32) dL_law_271 rfl rfl ?_
  refine g_iadd C 273 dL_law_272 rfl ?_
  refine g_sld C X 274 h1 dL_law_273 rfl ?_
  refine g_aload_n C 275 1 dL_law_274 rfl rfl ?_
  refine g_iload_n C 276 0 dL_law_275 rfl rfl ?_
  refine g_iconst C 277 (2 : Int32) dL_law_276 rfl rfl ?_
  refine g_iadd C 278 dL_law_277 rfl ?_
  refine g_sld C X 279 h2 dL_law_278 rfl ?_
  refine g_call7 (Z' := Z') C 282 [] [.int r] (ct_X7_streetOf L o q Z (xs (i + 1).toNatClampNeg) (xs (i + 2).toNatClampNeg) _ e7) kX7_streetOf kvX7_streetOf wl_L_23 rfl rfl rfl rfl (Nat.le_of_ble_eq_true rfl) ⟨Nat.le_of_ble_eq_true rfl, Nat.le_of_ble_eq_true rfl⟩ ⟨Nat.le_of_ble_eq_true rfl, Nat.le_of_ble_eq_true rfl⟩ dL_law_279 rfl ?_
  refine g_aload_n C 283 3 dL_law_282 rfl rfl ?_
  refine g_aload_n C 284 1 dL_law_283 rfl rfl ?_
  refine g_iload_n C 285 0 dL_law_284 rfl rfl ?_
  refine g_iconst C 286 (1 : Int32) dL_law_285 rfl rfl ?_
  refine g_iadd C 287 dL_law_286 rfl ?_
  refine g_sld C X 288 h1 dL_law_287 rfl ?_
  refine g_aload_n C 289 1 dL_law_288 rfl rfl ?_
  refine g_iload_n C 290 0 dL_law_289 rfl rfl ?_
  refine g_iconst C 291 (2 : Int32) dL_law_290 rfl rfl ?_
  refine g_iadd C 292 dL_law_291 rfl ?_
  refine g_sld C X 293 h2 dL_law_292 rfl ?_
  refine g_call8 (S' := S') C 296 [.int r] [.int r, .int r] (ct_X8_streetOf L o2 u S (xs (i + 1).toNatClampNeg) (xs (i + 2).toNatClampNeg) _ e8) kX8_streetOf kvX8_streetOf wl_L_27 rfl rfl rfl rfl (Nat.le_of_ble_eq_true rfl) ⟨Nat.le_of_ble_eq_true rfl, Nat.le_of_ble_eq_true rfl⟩ ⟨Nat.le_of_ble_eq_true rfl, Nat.le_of_ble_eq_true rfl⟩ dL_law_293 rfl ?_
  exact g_icmp_eq C 1592 299 dL_law_296 (by decide) rfl (fun _ => kk Z' S' hr) (fun c => absurd rfl c)
set_option maxHeartbeats 4000000 in
set_option maxRecDepth 100000 in
theorem lw_c3 {L : LL} {Γ : GC} {o : Nat → Nat} {q : Nat → Nat → Nat} {o2 : Nat} {u : Nat → Nat} {Z : Nat → OS} {S : OS} {b N : Nat} {xs : Nat → Int32} {i : Int32} (C : Cx L Γ cL_law RL (rmk 12 48 1334 478)) (X : Xs Γ b N xs) (h : Rel Z S) (h1 : vp_in (i + 1) N) (h2 : vp_in (i + 2) N) (h3 : vp_in (i + 3) N) (h4 : vp_in (i + 4) N) (kk : ∀ (Z' : Nat → OS) (S' : OS), Rel Z' S' → G L Γ 48 1334 (cells7 L o q Z' ++ cells8 L o2 u S') 1592 [(3, .int i), (0, .ref b), (1, .ref (o 0)), (2, .ref o2)] []) : G L Γ 48 1334 (cells7 L o q Z ++ cells8 L o2 u S) 301 [(3, .int i), (0, .ref b), (1, .ref (o 0)), (2, .ref o2)] [] := by
  obtain ⟨r, Z', S', e7, e8, hr⟩ := q_learnerOf h (xs (i + 1).toNatClampNeg) (xs (i + 2).toNatClampNeg)
  refine g_aload_n C 302 2 dL_law_301 rfl rfl ?_
  refine g_aload_n C 303 1 dL_law_302 rfl rfl ?_
  refine g_iload_n C 304 0 dL_law_303 rfl rfl ?_
  refine g_iconst C 305 (1 : Int32) dL_law_304 rfl rfl ?_
  refine g_iadd C 306 dL_law_305 rfl ?_
  refine g_sld C X 307 h1 dL_law_306 rfl ?_
  refine g_aload_n C 308 1 dL_law_307 rfl rfl ?_
  refine g_iload_n C 309 0 dL_law_308 rfl rfl ?_
  refine g_iconst C 310 (2 : Int32) dL_law_309 rfl rfl ?_
  refine g_iadd C 311 dL_law_310 rfl ?_
  refine g_sld C X 312 h2 dL_law_311 rfl ?_
  refine g_call7 (Z' := Z') C 315 [] [.int r] (ct_X7_learnerOf L o q Z (xs (i + 1).toNatClampNeg) (xs (i + 2).toNatClampNeg) _ e7) kX7_learnerOf kvX7_learnerOf wl_L_28 rfl rfl rfl rfl (Nat.le_of_ble_eq_true rfl) ⟨Nat.le_of_ble_eq_true rfl, Nat.le_of_ble_eq_true rfl⟩ ⟨Nat.le_of_ble_eq_true rfl, Nat.le_of_ble_eq_true rfl⟩ dL_law_312 rfl ?_
  refine g_aload_n C 316 3 dL_law_315 rfl rfl ?_
  refine g_aload_n C 317 1 dL_law_316 rfl rfl ?_
  refine g_iload_n C 318 0 dL_law_317 rfl rfl ?_
  refine g_iconst C 319 (1 : Int32) dL_law_318 rfl rfl ?_
  refine g_iadd C 320 dL_law_319 rfl ?_
  refine g_sld C X 321 h1 dL_law_320 rfl ?_
  refine g_aload_n C 322 1 dL_law_321 rfl rfl ?_
  refine g_iload_n C 323 0 dL_law_322 rfl rfl ?_
  refine g_iconst C 324 (2 : Int32) dL_law_323 rfl rfl ?_
  refine g_iadd C 325 dL_law_324 rfl ?_
  refine g_sld C X 326 h2 dL_law_325 rfl ?_
  refine g_call8 (S' := S') C 329 [.int r] [.int r, .int r] (ct_X8_learnerOf L o2 u S (xs (i + 1).toNatClampNeg) (xs (i + 2).toNatClampNeg) _ e8) kX8_learnerOf kvX8_learnerOf wl_L_31 rfl rfl rfl rfl (Nat.le_of_ble_eq_true rfl) ⟨Nat.le_of_ble_eq_true rfl, Nat.le_of_ble_eq_true rfl⟩ ⟨Nat.le_of_ble_eq_true rfl, Nat.le_of_ble_eq_true rfl⟩ dL_law_326 rfl ?_
  exact g_icmp_eq C 1592 332 dL_law_329 (by decide) rfl (fun _ => kk Z' S' hr) (fun c => absurd rfl c)
set_option maxHeartbeats 4000000 in
set_option maxRecDepth 100000 in
theorem lw_c4 {L : LL} {Γ : GC} {o : Nat → Nat} {q : Nat → Nat → Nat} {o2 : Nat} {u : Nat → Nat} {Z : Nat → OS} {S : OS} {b N : Nat} {xs : Nat → Int32} {i : Int32} (C : Cx L Γ cL_law RL (rmk 12 48 1334 478)) (X : Xs Γ b N xs) (h : Rel Z S) (h1 : vp_in (i + 1) N) (h2 : vp_in (i + 2) N) (h3 : vp_in (i + 3) N) (h4 : vp_in (i + 4) N) (kk : ∀ (Z' : Nat → OS) (S' : OS), Rel Z' S' → G L Γ 48 1334 (cells7 L o q Z' ++ cells8 L o2 u S') 1592 [(3, .int i), (0, .ref b), (1, .ref (o 0)), (2, .ref o2)] []) : G L Γ 48 1334 (cells7 L o q Z ++ cells8 L o2 u S) 334 [(3, .int i), (0, .ref b), (1, .ref (o 0)), (2, .ref o2)] [] := by
  obtain ⟨r, Z', S', e7, e8, hr⟩ := q_street h (xs (i + 1).toNatClampNeg) (xs (i + 2).toNatClampNeg) (xs (i + 3).toNatClampNeg)
  refine g_aload_n C 335 2 dL_law_334 rfl rfl ?_
  refine g_aload_n C 336 1 dL_law_335 rfl rfl ?_
  refine g_iload_n C 337 0 dL_law_336 rfl rfl ?_
  refine g_iconst C 338 (1 : Int32) dL_law_337 rfl rfl ?_
  refine g_iadd C 339 dL_law_338 rfl ?_
  refine g_sld C X 340 h1 dL_law_339 rfl ?_
  refine g_aload_n C 341 1 dL_law_340 rfl rfl ?_
  refine g_iload_n C 342 0 dL_law_341 rfl rfl ?_
  refine g_iconst C 343 (2 : Int32) dL_law_342 rfl rfl ?_
  refine g_iadd C 344 dL_law_343 rfl ?_
  refine g_sld C X 345 h2 dL_law_344 rfl ?_
  refine g_aload_n C 346 1 dL_law_345 rfl rfl ?_
  refine g_iload_n C 347 0 dL_law_346 rfl rfl ?_
  refine g_iconst C 348 (3 : Int32) dL_law_347 rfl rfl ?_
  refine g_iadd C 349 dL_law_348 rfl ?_
  refine g_sld C X 350 h3 dL_law_349 rfl ?_
  refine g_call7 (Z' := Z') C 353 [] [.int r] (ct_X7_street L o q Z (xs (i + 1).toNatClampNeg) (xs (i + 2).toNatClampNeg) (xs (i + 3).toNatClampNeg) _ e7) kX7_street kvX7_street wl_L_32 rfl rfl rfl rfl (Nat.le_of_ble_eq_true rfl) ⟨Nat.le_of_ble_eq_true rfl, Nat.le_of_ble_eq_true rfl⟩ ⟨Nat.le_of_ble_eq_true rfl, Nat.le_of_ble_eq_true rfl⟩ dL_law_350 rfl ?_
  refine g_aload_n C 354 3 dL_law_353 rfl rfl ?_
  refine g_aload_n C 355 1 dL_law_354 rfl rfl ?_
  refine g_iload_n C 356 0 dL_law_355 rfl rfl ?_
  refine g_iconst C 357 (1 : Int32) dL_law_356 rfl rfl ?_
  refine g_iadd C 358 dL_law_357 rfl ?_
  refine g_sld C X 359 h1 dL_law_358 rfl ?_
  refine g_aload_n C 360 1 dL_law_359 rfl rfl ?_
  refine g_iload_n C 361 0 dL_law_360 rfl rfl ?_
  refine g_iconst C 362 (2 : Int32) dL_law_361 rfl rfl ?_
  refine g_iadd C 363 dL_law_362 rfl ?_
  refine g_sld C X 364 h2 dL_law_363 rfl ?_
  refine g_aload_n C 365 1 dL_law_364 rfl rfl ?_
  refine g_iload_n C 366 0 dL_law_365 rfl rfl ?_
  refine g_iconst C 367 (3 : Int32) dL_law_366 rfl rfl ?_
  refine g_iadd C 368 dL_law_367 rfl ?_
  refine g_sld C X 369 h3 dL_law_368 rfl ?_
  refine g_call8 (S' := S') C 372 [.int r] [.int r, .int r] (ct_X8_street L o2 u S (xs (i + 1).toNatClampNeg) (xs (i + 2).toNatClampNeg) (xs (i + 3).toNatClampNeg) _ e8) kX8_street kvX8_street wl_L_36 rfl rfl rfl rfl (Nat.le_of_ble_eq_true rfl) ⟨Nat.le_of_ble_eq_true rfl, Nat.le_of_ble_eq_true rfl⟩ ⟨Nat.le_of_ble_eq_true rfl, Nat.le_of_ble_eq_true rfl⟩ dL_law_369 rfl ?_
  exact g_icmp_eq C 1592 375 dL_law_372 (by decide) rfl (fun _ => kk Z' S' hr) (fun c => absurd rfl c)
set_option maxHeartbeats 4000000 in
set_option maxRecDepth 100000 in
theorem lw_c5 {L : LL} {Γ : GC} {o : Nat → Nat} {q : Nat → Nat → Nat} {o2 : Nat} {u : Nat → Nat} {Z : Nat → OS} {S : OS} {b N : Nat} {xs : Nat → Int32} {i : Int32} (C : Cx L Γ cL_law RL (rmk 12 48 1334 478)) (X : Xs Γ b N xs) (h : Rel Z S) (h1 : vp_in (i + 1) N) (h2 : vp_in (i + 2) N) (h3 : vp_in (i + 3) N) (h4 : vp_in (i + 4) N) (kk : ∀ (Z' : Nat → OS) (S' : OS), Rel Z' S' → G L Γ 48 1334 (cells7 L o q Z' ++ cells8 L o2 u S') 1592 [(3, .int i), (0, .ref b), (1, .ref (o 0)), (2, .ref o2)] []) : G L Γ 48 1334 (cells7 L o q Z ++ cells8 L o2 u S) 377 [(3, .int i), (0, .ref b), (1, .ref (o 0)), (2, .ref o2)] [] := by
  obtain ⟨r, Z', S', e7, e8, hr⟩ := q_way h (xs (i + 1).toNatClampNeg)
  refine g_aload_n C 378 2 dL_law_377 rfl rfl ?_
  refine g_aload_n C 379 1 dL_law_378 rfl rfl ?_
  refine g_iload_n C 380 0 dL_law_379 rfl rfl ?_
  refine g_iconst C 381 (1 : Int32) dL_law_380 rfl rfl ?_
  refine g_iadd C 382 dL_law_381 rfl ?_
  refine g_sld C X 383 h1 dL_law_382 rfl ?_
  refine g_call7 (Z' := Z') C 386 [] [.int r] (ct_X7_way L o q Z (xs (i + 1).toNatClampNeg) _ e7) kX7_way kvX7_way wl_L_37 rfl rfl rfl rfl (Nat.le_of_ble_eq_true rfl) ⟨Nat.le_of_ble_eq_true rfl, Nat.le_of_ble_eq_true rfl⟩ ⟨Nat.le_of_ble_eq_true rfl, Nat.le_of_ble_eq_true rfl⟩ dL_law_383 rfl ?_
  refine g_aload_n C 387 3 dL_law_386 rfl rfl ?_
  refine g_aload_n C 388 1 dL_law_387 rfl rfl ?_
  refine g_iload_n C 389 0 dL_law_388 rfl rfl ?_
  refine g_iconst C 390 (1 : Int32) dL_law_389 rfl rfl ?_
  refine g_iadd C 391 dL_law_390 rfl ?_
  refine g_sld C X 392 h1 dL_law_391 rfl ?_
  refine g_call8 (S' := S') C 395 [.int r] [.int r, .int r] (ct_X8_way L o2 u S (xs (i + 1).toNatClampNeg) _ e8) kX8_way kvX8_way wl_L_40 rfl rfl rfl rfl (Nat.le_of_ble_eq_true rfl) ⟨Nat.le_of_ble_eq_true rfl, Nat.le_of_ble_eq_true rfl⟩ ⟨Nat.le_of_ble_eq_true rfl, Nat.le_of_ble_eq_true rfl⟩ dL_law_392 rfl ?_
  exact g_icmp_eq C 1592 398 dL_law_395 (by decide) rfl (fun _ => kk Z' S' hr) (fun c => absurd rfl c)
set_option maxHeartbeats 4000000 in
set_option maxRecDepth 100000 in
theorem lw_c6 {L : LL} {Γ : GC} {o : Nat → Nat} {q : Nat → Nat → Nat} {o2 : Nat} {u : Nat → Nat} {Z : Nat → OS} {S : OS} {b N : Nat} {xs : Nat → Int32} {i : Int32} (C : Cx L Γ cL_law RL (rmk 12 48 1334 478)) (X : Xs Γ b N xs) (h : Rel Z S) (h1 : vp_in (i + 1) N) (h2 : vp_in (i + 2) N) (h3 : vp_in (i + 3) N) (h4 : vp_in (i + 4) N) (kk : ∀ (Z' : Nat → OS) (S' : OS), Rel Z' S' → G L Γ 48 1334 (cells7 L o q Z' ++ cells8 L o2 u S') 1592 [(3, .int i), (0, .ref b), (1, .ref (o 0)), (2, .ref o2)] []) : G L Γ 48 1334 (cells7 L o q Z ++ cells8 L o2 u S) 400 [(3, .int i), (0, .ref b), (1, .ref (o 0)), (2, .ref o2)] [] := by
  obtain ⟨r, Z', S', e7, e8, hr⟩ := q_learner h (xs (i + 1).toNatClampNeg)
  refine g_aload_n C 401 2 dL_law_400 rfl rfl ?_
  refine g_aload_n C 402 1 dL_law_401 rfl rfl ?_
  refine g_iload_n C 403 0 dL_law_402 rfl rfl ?_
  refine g_iconst C 404 (1 : Int32) dL_law_403 rfl rfl ?_
  refine g_iadd C 405 dL_law_404 rfl ?_
  refine g_sld C X 406 h1 dL_law_405 rfl ?_
  refine g_call7 (Z' := Z') C 409 [] [.int r] (ct_X7_learner L o q Z (xs (i + 1).toNatClampNeg) _ e7) kX7_learner kvX7_learner wl_L_41 rfl rfl rfl rfl (Nat.le_of_ble_eq_true rfl) ⟨Nat.le_of_ble_eq_true rfl, Nat.le_of_ble_eq_true rfl⟩ ⟨Nat.le_of_ble_eq_true rfl, Nat.le_of_ble_eq_true rfl⟩ dL_law_406 rfl ?_
  refine g_aload_n C 410 3 dL_law_409 rfl rfl ?_
  refine g_aload_n C 411 1 dL_law_410 rfl rfl ?_
  refine g_iload_n C 412 0 dL_law_411 rfl rfl ?_
  refine g_iconst C 413 (1 : Int32) dL_law_412 rfl rfl ?_
  refine g_iadd C 414 dL_law_413 rfl ?_
  refine g_sld C X 415 h1 dL_law_414 rfl ?_
  refine g_call8 (S' := S') C 418 [.int r] [.int r, .int r] (ct_X8_learner L o2 u S (xs (i + 1).toNatClampNeg) _ e8) kX8_learner kvX8_learner wl_L_44 rfl rfl rfl rfl (Nat.le_of_ble_eq_true rfl) ⟨Nat.le_of_ble_eq_true rfl, Nat.le_of_ble_eq_true rfl⟩ ⟨Nat.le_of_ble_eq_true rfl, Nat.le_of_ble_eq_true rfl⟩ dL_law_415 rfl ?_
  exact g_icmp_eq C 1592 421 dL_law_418 (by decide) rfl (fun _ => kk Z' S' hr) (fun c => absurd rfl c)
set_option maxHeartbeats 4000000 in
set_option maxRecDepth 100000 in
theorem lw_c7 {L : LL} {Γ : GC} {o : Nat → Nat} {q : Nat → Nat → Nat} {o2 : Nat} {u : Nat → Nat} {Z : Nat → OS} {S : OS} {b N : Nat} {xs : Nat → Int32} {i : Int32} (C : Cx L Γ cL_law RL (rmk 12 48 1334 478)) (X : Xs Γ b N xs) (h : Rel Z S) (h1 : vp_in (i + 1) N) (h2 : vp_in (i + 2) N) (h3 : vp_in (i + 3) N) (h4 : vp_in (i + 4) N) (kk : ∀ (Z' : Nat → OS) (S' : OS), Rel Z' S' → G L Γ 48 1334 (cells7 L o q Z' ++ cells8 L o2 u S') 1592 [(3, .int i), (0, .ref b), (1, .ref (o 0)), (2, .ref o2)] []) : G L Γ 48 1334 (cells7 L o q Z ++ cells8 L o2 u S) 423 [(3, .int i), (0, .ref b), (1, .ref (o 0)), (2, .ref o2)] [] := by
  obtain ⟨r, Z', S', e7, e8, hr⟩ := q_tests h (xs (i + 1).toNatClampNeg) (xs (i + 2).toNatClampNeg)
  refine g_aload_n C 424 2 dL_law_423 rfl rfl ?_
  refine g_aload_n C 425 1 dL_law_424 rfl rfl ?_
  refine g_iload_n C 426 0 dL_law_425 rfl rfl ?_
  refine g_iconst C 427 (1 : Int32) dL_law_426 rfl rfl ?_
  refine g_iadd C 428 dL_law_427 rfl ?_
  refine g_sld C X 429 h1 dL_law_428 rfl ?_
  refine g_aload_n C 430 1 dL_law_429 rfl rfl ?_
  refine g_iload_n C 431 0 dL_law_430 rfl rfl ?_
  refine g_iconst C 432 (2 : Int32) dL_law_431 rfl rfl ?_
  refine g_iadd C 433 dL_law_432 rfl ?_
  refine g_sld C X 434 h2 dL_law_433 rfl ?_
  refine g_call7 (Z' := Z') C 437 [] [.int r] (ct_X7_tests L o q Z (xs (i + 1).toNatClampNeg) (xs (i + 2).toNatClampNeg) _ e7) kX7_tests kvX7_tests wl_L_45 rfl rfl rfl rfl (Nat.le_of_ble_eq_true rfl) ⟨Nat.le_of_ble_eq_true rfl, Nat.le_of_ble_eq_true rfl⟩ ⟨Nat.le_of_ble_eq_true rfl, Nat.le_of_ble_eq_true rfl⟩ dL_law_434 rfl ?_
  refine g_aload_n C 438 3 dL_law_437 rfl rfl ?_
  refine g_aload_n C 439 1 dL_law_438 rfl rfl ?_
  refine g_iload_n C 440 0 dL_law_439 rfl rfl ?_
  refine g_iconst C 441 (1 : Int32) dL_law_440 rfl rfl ?_
  refine g_iadd C 442 dL_law_441 rfl ?_
  refine g_sld C X 443 h1 dL_law_442 rfl ?_
  refine g_aload_n C 444 1 dL_law_443 rfl rfl ?_
  refine g_iload_n C 445 0 dL_law_444 rfl rfl ?_
  refine g_iconst C 446 (2 : Int32) dL_law_445 rfl rfl ?_
  refine g_iadd C 447 dL_law_446 rfl ?_
  refine g_sld C X 448 h2 dL_law_447 rfl ?_
  refine g_call8 (S' := S') C 451 [.int r] [.int r, .int r] (ct_X8_tests L o2 u S (xs (i + 1).toNatClampNeg) (xs (i + 2).toNatClampNeg) _ e8) kX8_tests kvX8_tests wl_L_48 rfl rfl rfl rfl (Nat.le_of_ble_eq_true rfl) ⟨Nat.le_of_ble_eq_true rfl, Nat.le_of_ble_eq_true rfl⟩ ⟨Nat.le_of_ble_eq_true rfl, Nat.le_of_ble_eq_true rfl⟩ dL_law_448 rfl ?_
  exact g_icmp_eq C 1592 454 dL_law_451 (by decide) rfl (fun _ => kk Z' S' hr) (fun c => absurd rfl c)
set_option maxHeartbeats 4000000 in
set_option maxRecDepth 100000 in
theorem lw_c8 {L : LL} {Γ : GC} {o : Nat → Nat} {q : Nat → Nat → Nat} {o2 : Nat} {u : Nat → Nat} {Z : Nat → OS} {S : OS} {b N : Nat} {xs : Nat → Int32} {i : Int32} (C : Cx L Γ cL_law RL (rmk 12 48 1334 478)) (X : Xs Γ b N xs) (h : Rel Z S) (h1 : vp_in (i + 1) N) (h2 : vp_in (i + 2) N) (h3 : vp_in (i + 3) N) (h4 : vp_in (i + 4) N) (kk : ∀ (Z' : Nat → OS) (S' : OS), Rel Z' S' → G L Γ 48 1334 (cells7 L o q Z' ++ cells8 L o2 u S') 1592 [(3, .int i), (0, .ref b), (1, .ref (o 0)), (2, .ref o2)] []) : G L Γ 48 1334 (cells7 L o q Z ++ cells8 L o2 u S) 456 [(3, .int i), (0, .ref b), (1, .ref (o 0)), (2, .ref o2)] [] := by
  obtain ⟨r, Z', S', e7, e8, hr⟩ := q_knows h (xs (i + 1).toNatClampNeg) (xs (i + 2).toNatClampNeg)
  refine g_aload_n C 457 2 dL_law_456 rfl rfl ?_
  refine g_aload_n C 458 1 dL_law_457 rfl rfl ?_
  refine g_iload_n C 459 0 dL_law_458 rfl rfl ?_
  refine g_iconst C 460 (1 : Int32) dL_law_459 rfl rfl ?_
  refine g_iadd C 461 dL_law_460 rfl ?_
  refine g_sld C X 462 h1 dL_law_461 rfl ?_
  refine g_aload_n C 463 1 dL_law_462 rfl rfl ?_
  refine g_iload_n C 464 0 dL_law_463 rfl rfl ?_
  refine g_iconst C 465 (2 : Int32) dL_law_464 rfl rfl ?_
  refine g_iadd C 466 dL_law_465 rfl ?_
  refine g_sld C X 467 h2 dL_law_466 rfl ?_
  refine g_call7 (Z' := Z') C 470 [] [.int r] (ct_X7_knows L o q Z (xs (i + 1).toNatClampNeg) (xs (i + 2).toNatClampNeg) _ e7) kX7_knows kvX7_knows wl_L_49 rfl rfl rfl rfl (Nat.le_of_ble_eq_true rfl) ⟨Nat.le_of_ble_eq_true rfl, Nat.le_of_ble_eq_true rfl⟩ ⟨Nat.le_of_ble_eq_true rfl, Nat.le_of_ble_eq_true rfl⟩ dL_law_467 rfl ?_
  refine g_aload_n C 471 3 dL_law_470 rfl rfl ?_
  refine g_aload_n C 472 1 dL_law_471 rfl rfl ?_
  refine g_iload_n C 473 0 dL_law_472 rfl rfl ?_
  refine g_iconst C 474 (1 : Int32) dL_law_473 rfl rfl ?_
  refine g_iadd C 475 dL_law_474 rfl ?_
  refine g_sld C X 476 h1 dL_law_475 rfl ?_
  refine g_aload_n C 477 1 dL_law_476 rfl rfl ?_
  refine g_iload_n C 478 0 dL_law_477 rfl rfl ?_
  refine g_iconst C 479 (2 : Int32) dL_law_478 rfl rfl ?_
  refine g_iadd C 480 dL_law_479 rfl ?_
  refine g_sld C X 481 h2 dL_law_480 rfl ?_
  refine g_call8 (S' := S') C 484 [.int r] [.int r, .int r] (ct_X8_knows L o2 u S (xs (i + 1).toNatClampNeg) (xs (i + 2).toNatClampNeg) _ e8) kX8_knows kvX8_knows wl_L_52 rfl rfl rfl rfl (Nat.le_of_ble_eq_true rfl) ⟨Nat.le_of_ble_eq_true rfl, Nat.le_of_ble_eq_true rfl⟩ ⟨Nat.le_of_ble_eq_true rfl, Nat.le_of_ble_eq_true rfl⟩ dL_law_481 rfl ?_
  exact g_icmp_eq C 1592 487 dL_law_484 (by decide) rfl (fun _ => kk Z' S' hr) (fun c => absurd rfl c)
set_option maxHeartbeats 4000000 in
set_option maxRecDepth 100000 in
theorem lw_c9 {L : LL} {Γ : GC} {o : Nat → Nat} {q : Nat → Nat → Nat} {o2 : Nat} {u : Nat → Nat} {Z : Nat → OS} {S : OS} {b N : Nat} {xs : Nat → Int32} {i : Int32} (C : Cx L Γ cL_law RL (rmk 12 48 1334 478)) (X : Xs Γ b N xs) (h : Rel Z S) (h1 : vp_in (i + 1) N) (h2 : vp_in (i + 2) N) (h3 : vp_in (i + 3) N) (h4 : vp_in (i + 4) N) (kk : ∀ (Z' : Nat → OS) (S' : OS), Rel Z' S' → G L Γ 48 1334 (cells7 L o q Z' ++ cells8 L o2 u S') 1592 [(3, .int i), (0, .ref b), (1, .ref (o 0)), (2, .ref o2)] []) : G L Γ 48 1334 (cells7 L o q Z ++ cells8 L o2 u S) 489 [(3, .int i), (0, .ref b), (1, .ref (o 0)), (2, .ref o2)] [] := by
  obtain ⟨r, Z', S', e7, e8, hr⟩ := q_sets h (xs (i + 1).toNatClampNeg) (xs (i + 2).toNatClampNeg)
  refine g_aload_n C 490 2 dL_law_489 rfl rfl ?_
  refine g_aload_n C 491 1 dL_law_490 rfl rfl ?_
  refine g_iload_n C 492 0 dL_law_491 rfl rfl ?_
  refine g_iconst C 493 (1 : Int32) dL_law_492 rfl rfl ?_
  refine g_iadd C 494 dL_law_493 rfl ?_
  refine g_sld C X 495 h1 dL_law_494 rfl ?_
  refine g_aload_n C 496 1 dL_law_495 rfl rfl ?_
  refine g_iload_n C 497 0 dL_law_496 rfl rfl ?_
  refine g_iconst C 498 (2 : Int32) dL_law_497 rfl rfl ?_
  refine g_iadd C 499 dL_law_498 rfl ?_
  refine g_sld C X 500 h2 dL_law_499 rfl ?_
  refine g_call7 (Z' := Z') C 503 [] [.int r] (ct_X7_sets L o q Z (xs (i + 1).toNatClampNeg) (xs (i + 2).toNatClampNeg) _ e7) kX7_sets kvX7_sets wl_L_53 rfl rfl rfl rfl (Nat.le_of_ble_eq_true rfl) ⟨Nat.le_of_ble_eq_true rfl, Nat.le_of_ble_eq_true rfl⟩ ⟨Nat.le_of_ble_eq_true rfl, Nat.le_of_ble_eq_true rfl⟩ dL_law_500 rfl ?_
  refine g_aload_n C 504 3 dL_law_503 rfl rfl ?_
  refine g_aload_n C 505 1 dL_law_504 rfl rfl ?_
  refine g_iload_n C 506 0 dL_law_505 rfl rfl ?_
  refine g_iconst C 507 (1 : Int32) dL_law_506 rfl rfl ?_
  refine g_iadd C 508 dL_law_507 rfl ?_
  refine g_sld C X 509 h1 dL_law_508 rfl ?_
  refine g_aload_n C 510 1 dL_law_509 rfl rfl ?_
  refine g_iload_n C 511 0 dL_law_510 rfl rfl ?_
  refine g_iconst C 512 (2 : Int32) dL_law_511 rfl rfl ?_
  refine g_iadd C 513 dL_law_512 rfl ?_
  refine g_sld C X 514 h2 dL_law_513 rfl ?_
  refine g_call8 (S' := S') C 517 [.int r] [.int r, .int r] (ct_X8_sets L o2 u S (xs (i + 1).toNatClampNeg) (xs (i + 2).toNatClampNeg) _ e8) kX8_sets kvX8_sets wl_L_56 rfl rfl rfl rfl (Nat.le_of_ble_eq_true rfl) ⟨Nat.le_of_ble_eq_true rfl, Nat.le_of_ble_eq_true rfl⟩ ⟨Nat.le_of_ble_eq_true rfl, Nat.le_of_ble_eq_true rfl⟩ dL_law_514 rfl ?_
  exact g_icmp_eq C 1592 520 dL_law_517 (by decide) rfl (fun _ => kk Z' S' hr) (fun c => absurd rfl c)
set_option maxHeartbeats 4000000 in
set_option maxRecDepth 100000 in
theorem lw_c10 {L : LL} {Γ : GC} {o : Nat → Nat} {q : Nat → Nat → Nat} {o2 : Nat} {u : Nat → Nat} {Z : Nat → OS} {S : OS} {b N : Nat} {xs : Nat → Int32} {i : Int32} (C : Cx L Γ cL_law RL (rmk 12 48 1334 478)) (X : Xs Γ b N xs) (h : Rel Z S) (h1 : vp_in (i + 1) N) (h2 : vp_in (i + 2) N) (h3 : vp_in (i + 3) N) (h4 : vp_in (i + 4) N) (kk : ∀ (Z' : Nat → OS) (S' : OS), Rel Z' S' → G L Γ 48 1334 (cells7 L o q Z' ++ cells8 L o2 u S') 1592 [(3, .int i), (0, .ref b), (1, .ref (o 0)), (2, .ref o2)] []) : G L Γ 48 1334 (cells7 L o q Z ++ cells8 L o2 u S) 522 [(3, .int i), (0, .ref b), (1, .ref (o 0)), (2, .ref o2)] [] := by
  obtain ⟨r, Z', S', e7, e8, hr⟩ := q_day h
  refine g_aload_n C 523 2 dL_law_522 rfl rfl ?_
  refine g_call7 (Z' := Z') C 526 [] [.int r] (ct_X7_day L o q Z _ e7) kX7_day kvX7_day wl_L_57 rfl rfl rfl rfl (Nat.le_of_ble_eq_true rfl) ⟨Nat.le_of_ble_eq_true rfl, Nat.le_of_ble_eq_true rfl⟩ ⟨Nat.le_of_ble_eq_true rfl, Nat.le_of_ble_eq_true rfl⟩ dL_law_523 rfl ?_
  refine g_aload_n C 527 3 dL_law_526 rfl rfl ?_
  refine g_call8 (S' := S') C 530 [.int r] [.int r, .int r] (ct_X8_day L o2 u S _ e8) kX8_day kvX8_day wl_L_60 rfl rfl rfl rfl (Nat.le_of_ble_eq_true rfl) ⟨Nat.le_of_ble_eq_true rfl, Nat.le_of_ble_eq_true rfl⟩ ⟨Nat.le_of_ble_eq_true rfl, Nat.le_of_ble_eq_true rfl⟩ dL_law_527 rfl ?_
  exact g_icmp_eq C 1592 533 dL_law_530 (by decide) rfl (fun _ => kk Z' S' hr) (fun c => absurd rfl c)
set_option maxHeartbeats 4000000 in
set_option maxRecDepth 100000 in
theorem lw_c11 {L : LL} {Γ : GC} {o : Nat → Nat} {q : Nat → Nat → Nat} {o2 : Nat} {u : Nat → Nat} {Z : Nat → OS} {S : OS} {b N : Nat} {xs : Nat → Int32} {i : Int32} (C : Cx L Γ cL_law RL (rmk 12 48 1334 478)) (X : Xs Γ b N xs) (h : Rel Z S) (h1 : vp_in (i + 1) N) (h2 : vp_in (i + 2) N) (h3 : vp_in (i + 3) N) (h4 : vp_in (i + 4) N) (kk : ∀ (Z' : Nat → OS) (S' : OS), Rel Z' S' → G L Γ 48 1334 (cells7 L o q Z' ++ cells8 L o2 u S') 1592 [(3, .int i), (0, .ref b), (1, .ref (o 0)), (2, .ref o2)] []) : G L Γ 48 1334 (cells7 L o q Z ++ cells8 L o2 u S) 535 [(3, .int i), (0, .ref b), (1, .ref (o 0)), (2, .ref o2)] [] := by
  obtain ⟨r, Z', S', e7, e8, hr⟩ := q_back h
  refine g_aload_n C 536 2 dL_law_535 rfl rfl ?_
  refine g_call7 (Z' := Z') C 539 [] [.int r] (ct_X7_back L o q Z _ e7) kX7_back kvX7_back wl_L_61 rfl rfl rfl rfl (Nat.le_of_ble_eq_true rfl) ⟨Nat.le_of_ble_eq_true rfl, Nat.le_of_ble_eq_true rfl⟩ ⟨Nat.le_of_ble_eq_true rfl, Nat.le_of_ble_eq_true rfl⟩ dL_law_536 rfl ?_
  refine g_aload_n C 540 3 dL_law_539 rfl rfl ?_
  refine g_call8 (S' := S') C 543 [.int r] [.int r, .int r] (ct_X8_back L o2 u S _ e8) kX8_back kvX8_back wl_L_64 rfl rfl rfl rfl (Nat.le_of_ble_eq_true rfl) ⟨Nat.le_of_ble_eq_true rfl, Nat.le_of_ble_eq_true rfl⟩ ⟨Nat.le_of_ble_eq_true rfl, Nat.le_of_ble_eq_true rfl⟩ dL_law_540 rfl ?_
  exact g_icmp_eq C 1592 546 dL_law_543 (by decide) rfl (fun _ => kk Z' S' hr) (fun c => absurd rfl c)
set_option maxHeartbeats 4000000 in
set_option maxRecDepth 100000 in
theorem lw_c12 {L : LL} {Γ : GC} {o : Nat → Nat} {q : Nat → Nat → Nat} {o2 : Nat} {u : Nat → Nat} {Z : Nat → OS} {S : OS} {b N : Nat} {xs : Nat → Int32} {i : Int32} (C : Cx L Γ cL_law RL (rmk 12 48 1334 478)) (X : Xs Γ b N xs) (h : Rel Z S) (h1 : vp_in (i + 1) N) (h2 : vp_in (i + 2) N) (h3 : vp_in (i + 3) N) (h4 : vp_in (i + 4) N) (kk : ∀ (Z' : Nat → OS) (S' : OS), Rel Z' S' → G L Γ 48 1334 (cells7 L o q Z' ++ cells8 L o2 u S') 1592 [(3, .int i), (0, .ref b), (1, .ref (o 0)), (2, .ref o2)] []) : G L Γ 48 1334 (cells7 L o q Z ++ cells8 L o2 u S) 548 [(3, .int i), (0, .ref b), (1, .ref (o 0)), (2, .ref o2)] [] := by
  obtain ⟨r, Z', S', e7, e8, hr⟩ := q_wayOf h (xs (i + 1).toNatClampNeg) (xs (i + 2).toNatClampNeg) (xs (i + 3).toNatClampNeg)
  refine g_aload_n C 549 2 dL_law_548 rfl rfl ?_
  refine g_aload_n C 550 1 dL_law_549 rfl rfl ?_
  refine g_iload_n C 551 0 dL_law_550 rfl rfl ?_
  refine g_iconst C 552 (1 : Int32) dL_law_551 rfl rfl ?_
  refine g_iadd C 553 dL_law_552 rfl ?_
  refine g_sld C X 554 h1 dL_law_553 rfl ?_
  refine g_aload_n C 555 1 dL_law_554 rfl rfl ?_
  refine g_iload_n C 556 0 dL_law_555 rfl rfl ?_
  refine g_iconst C 557 (2 : Int32) dL_law_556 rfl rfl ?_
  refine g_iadd C 558 dL_law_557 rfl ?_
  refine g_sld C X 559 h2 dL_law_558 rfl ?_
  refine g_aload_n C 560 1 dL_law_559 rfl rfl ?_
  refine g_iload_n C 561 0 dL_law_560 rfl rfl ?_
  refine g_iconst C 562 (3 : Int32) dL_law_561 rfl rfl ?_
  refine g_iadd C 563 dL_law_562 rfl ?_
  refine g_sld C X 564 h3 dL_law_563 rfl ?_
  refine g_call7 (Z' := Z') C 567 [] [.int r] (ct_X7_wayOf L o q Z (xs (i + 1).toNatClampNeg) (xs (i + 2).toNatClampNeg) (xs (i + 3).toNatClampNeg) _ e7) kX7_wayOf kvX7_wayOf wl_L_65 rfl rfl rfl rfl (Nat.le_of_ble_eq_true rfl) ⟨Nat.le_of_ble_eq_true rfl, Nat.le_of_ble_eq_true rfl⟩ ⟨Nat.le_of_ble_eq_true rfl, Nat.le_of_ble_eq_true rfl⟩ dL_law_564 rfl ?_
  refine g_aload_n C 568 3 dL_law_567 rfl rfl ?_
  refine g_aload_n C 569 1 dL_law_568 rfl rfl ?_
  refine g_iload_n C 570 0 dL_law_569 rfl rfl ?_
  refine g_iconst C 571 (1 : Int32) dL_law_570 rfl rfl ?_
  refine g_iadd C 572 dL_law_571 rfl ?_
  refine g_sld C X 573 h1 dL_law_572 rfl ?_
  refine g_aload_n C 574 1 dL_law_573 rfl rfl ?_
  refine g_iload_n C 575 0 dL_law_574 rfl rfl ?_
  refine g_iconst C 576 (2 : Int32) dL_law_575 rfl rfl ?_
  refine g_iadd C 577 dL_law_576 rfl ?_
  refine g_sld C X 578 h2 dL_law_577 rfl ?_
  refine g_aload_n C 579 1 dL_law_578 rfl rfl ?_
  refine g_iload_n C 580 0 dL_law_579 rfl rfl ?_
  refine g_iconst C 581 (3 : Int32) dL_law_580 rfl rfl ?_
  refine g_iadd C 582 dL_law_581 rfl ?_
  refine g_sld C X 583 h3 dL_law_582 rfl ?_
  refine g_call8 (S' := S') C 586 [.int r] [.int r, .int r] (ct_X8_wayOf L o2 u S (xs (i + 1).toNatClampNeg) (xs (i + 2).toNatClampNeg) (xs (i + 3).toNatClampNeg) _ e8) kX8_wayOf kvX8_wayOf wl_L_68 rfl rfl rfl rfl (Nat.le_of_ble_eq_true rfl) ⟨Nat.le_of_ble_eq_true rfl, Nat.le_of_ble_eq_true rfl⟩ ⟨Nat.le_of_ble_eq_true rfl, Nat.le_of_ble_eq_true rfl⟩ dL_law_583 rfl ?_
  exact g_icmp_eq C 1592 589 dL_law_586 (by decide) rfl (fun _ => kk Z' S' hr) (fun c => absurd rfl c)
set_option maxHeartbeats 4000000 in
set_option maxRecDepth 100000 in
theorem lw_c13 {L : LL} {Γ : GC} {o : Nat → Nat} {q : Nat → Nat → Nat} {o2 : Nat} {u : Nat → Nat} {Z : Nat → OS} {S : OS} {b N : Nat} {xs : Nat → Int32} {i : Int32} (C : Cx L Γ cL_law RL (rmk 12 48 1334 478)) (X : Xs Γ b N xs) (h : Rel Z S) (h1 : vp_in (i + 1) N) (h2 : vp_in (i + 2) N) (h3 : vp_in (i + 3) N) (h4 : vp_in (i + 4) N) (kk : ∀ (Z' : Nat → OS) (S' : OS), Rel Z' S' → G L Γ 48 1334 (cells7 L o q Z' ++ cells8 L o2 u S') 1592 [(3, .int i), (0, .ref b), (1, .ref (o 0)), (2, .ref o2)] []) : G L Γ 48 1334 (cells7 L o q Z ++ cells8 L o2 u S) 591 [(3, .int i), (0, .ref b), (1, .ref (o 0)), (2, .ref o2)] [] := by
  obtain ⟨r, Z', S', e7, e8, hr⟩ := q_faults h (xs (i + 1).toNatClampNeg) (xs (i + 2).toNatClampNeg) (xs (i + 3).toNatClampNeg) (xs (i + 4).toNatClampNeg)
  refine g_aload_n C 592 2 dL_law_591 rfl rfl ?_
  refine g_aload_n C 593 1 dL_law_592 rfl rfl ?_
  refine g_iload_n C 594 0 dL_law_593 rfl rfl ?_
  refine g_iconst C 595 (1 : Int32) dL_law_594 rfl rfl ?_
  refine g_iadd C 596 dL_law_595 rfl ?_
  refine g_sld C X 597 h1 dL_law_596 rfl ?_
  refine g_aload_n C 598 1 dL_law_597 rfl rfl ?_
  refine g_iload_n C 599 0 dL_law_598 rfl rfl ?_
  refine g_iconst C 600 (2 : Int32) dL_law_599 rfl rfl ?_
  refine g_iadd C 601 dL_law_600 rfl ?_
  refine g_sld C X 602 h2 dL_law_601 rfl ?_
  refine g_aload_n C 603 1 dL_law_602 rfl rfl ?_
  refine g_iload_n C 604 0 dL_law_603 rfl rfl ?_
  refine g_iconst C 605 (3 : Int32) dL_law_604 rfl rfl ?_
  refine g_iadd C 606 dL_law_605 rfl ?_
  refine g_sld C X 607 h3 dL_law_606 rfl ?_
  refine g_aload_n C 608 1 dL_law_607 rfl rfl ?_
  refine g_iload_n C 609 0 dL_law_608 rfl rfl ?_
  refine g_iconst C 610 (4 : Int32) dL_law_609 rfl rfl ?_
  refine g_iadd C 611 dL_law_610 rfl ?_
  refine g_sld C X 612 h4 dL_law_611 rfl ?_
  refine g_call7 (Z' := Z') C 615 [] [.int r] (ct_X7_faults L o q Z (xs (i + 1).toNatClampNeg) (xs (i + 2).toNatClampNeg) (xs (i + 3).toNatClampNeg) (xs (i + 4).toNatClampNeg) _ e7) kX7_faults kvX7_faults wl_L_69 rfl rfl rfl rfl (Nat.le_of_ble_eq_true rfl) ⟨Nat.le_of_ble_eq_true rfl, Nat.le_of_ble_eq_true rfl⟩ ⟨Nat.le_of_ble_eq_true rfl, Nat.le_of_ble_eq_true rfl⟩ dL_law_612 rfl ?_
  refine g_aload_n C 616 3 dL_law_615 rfl rfl ?_
  refine g_aload_n C 617 1 dL_law_616 rfl rfl ?_
  refine g_iload_n C 618 0 dL_law_617 rfl rfl ?_
  refine g_iconst C 619 (1 : Int32) dL_law_618 rfl rfl ?_
  refine g_iadd C 620 dL_law_619 rfl ?_
  refine g_sld C X 621 h1 dL_law_620 rfl ?_
  refine g_aload_n C 622 1 dL_law_621 rfl rfl ?_
  refine g_iload_n C 623 0 dL_law_622 rfl rfl ?_
  refine g_iconst C 624 (2 : Int32) dL_law_623 rfl rfl ?_
  refine g_iadd C 625 dL_law_624 rfl ?_
  refine g_sld C X 626 h2 dL_law_625 rfl ?_
  refine g_aload_n C 627 1 dL_law_626 rfl rfl ?_
  refine g_iload_n C 628 0 dL_law_627 rfl rfl ?_
  refine g_iconst C 629 (3 : Int32) dL_law_628 rfl rfl ?_
  refine g_iadd C 630 dL_law_629 rfl ?_
  refine g_sld C X 631 h3 dL_law_630 rfl ?_
  refine g_aload_n C 632 1 dL_law_631 rfl rfl ?_
  refine g_iload_n C 633 0 dL_law_632 rfl rfl ?_
  refine g_iconst C 634 (4 : Int32) dL_law_633 rfl rfl ?_
  refine g_iadd C 635 dL_law_634 rfl ?_
  refine g_sld C X 636 h4 dL_law_635 rfl ?_
  refine g_call8 (S' := S') C 639 [.int r] [.int r, .int r] (ct_X8_faults L o2 u S (xs (i + 1).toNatClampNeg) (xs (i + 2).toNatClampNeg) (xs (i + 3).toNatClampNeg) (xs (i + 4).toNatClampNeg) _ e8) kX8_faults kvX8_faults wl_L_73 rfl rfl rfl rfl (Nat.le_of_ble_eq_true rfl) ⟨Nat.le_of_ble_eq_true rfl, Nat.le_of_ble_eq_true rfl⟩ ⟨Nat.le_of_ble_eq_true rfl, Nat.le_of_ble_eq_true rfl⟩ dL_law_636 rfl ?_
  exact g_icmp_eq C 1592 642 dL_law_639 (by decide) rfl (fun _ => kk Z' S' hr) (fun c => absurd rfl c)
set_option maxHeartbeats 4000000 in
set_option maxRecDepth 100000 in
theorem lw_c14 {L : LL} {Γ : GC} {o : Nat → Nat} {q : Nat → Nat → Nat} {o2 : Nat} {u : Nat → Nat} {Z : Nat → OS} {S : OS} {b N : Nat} {xs : Nat → Int32} {i : Int32} (C : Cx L Γ cL_law RL (rmk 12 48 1334 478)) (X : Xs Γ b N xs) (h : Rel Z S) (h1 : vp_in (i + 1) N) (h2 : vp_in (i + 2) N) (h3 : vp_in (i + 3) N) (h4 : vp_in (i + 4) N) (kk : ∀ (Z' : Nat → OS) (S' : OS), Rel Z' S' → G L Γ 48 1334 (cells7 L o q Z' ++ cells8 L o2 u S') 1592 [(3, .int i), (0, .ref b), (1, .ref (o 0)), (2, .ref o2)] []) : G L Γ 48 1334 (cells7 L o q Z ++ cells8 L o2 u S) 644 [(3, .int i), (0, .ref b), (1, .ref (o 0)), (2, .ref o2)] [] := by
  obtain ⟨r, Z', S', e7, e8, hr⟩ := q_bestHour h (xs (i + 1).toNatClampNeg) (xs (i + 2).toNatClampNeg) (xs (i + 3).toNatClampNeg)
  refine g_aload_n C 645 2 dL_law_644 rfl rfl ?_
  refine g_aload_n C 646 1 dL_law_645 rfl rfl ?_
  refine g_iload_n C 647 0 dL_law_646 rfl rfl ?_
  refine g_iconst C 648 (1 : Int32) dL_law_647 rfl rfl ?_
  refine g_iadd C 649 dL_law_648 rfl ?_
  refine g_sld C X 650 h1 dL_law_649 rfl ?_
  refine g_aload_n C 651 1 dL_law_650 rfl rfl ?_
  refine g_iload_n C 652 0 dL_law_651 rfl rfl ?_
  refine g_iconst C 653 (2 : Int32) dL_law_652 rfl rfl ?_
  refine g_iadd C 654 dL_law_653 rfl ?_
  refine g_sld C X 655 h2 dL_law_654 rfl ?_
  refine g_aload_n C 656 1 dL_law_655 rfl rfl ?_
  refine g_iload_n C 657 0 dL_law_656 rfl rfl ?_
  refine g_iconst C 658 (3 : Int32) dL_law_657 rfl rfl ?_
  refine g_iadd C 659 dL_law_658 rfl ?_
  refine g_sld C X 660 h3 dL_law_659 rfl ?_
  refine g_call7 (Z' := Z') C 663 [] [.int r] (ct_X7_bestHour L o q Z (xs (i + 1).toNatClampNeg) (xs (i + 2).toNatClampNeg) (xs (i + 3).toNatClampNeg) _ e7) kX7_bestHour kvX7_bestHour wl_L_74 rfl rfl rfl rfl (Nat.le_of_ble_eq_true rfl) ⟨Nat.le_of_ble_eq_true rfl, Nat.le_of_ble_eq_true rfl⟩ ⟨Nat.le_of_ble_eq_true rfl, Nat.le_of_ble_eq_true rfl⟩ dL_law_660 rfl ?_
  refine g_aload_n C 664 3 dL_law_663 rfl rfl ?_
  refine g_aload_n C 665 1 dL_law_664 rfl rfl ?_
  refine g_iload_n C 666 0 dL_law_665 rfl rfl ?_
  refine g_iconst C 667 (1 : Int32) dL_law_666 rfl rfl ?_
  refine g_iadd C 668 dL_law_667 rfl ?_
  refine g_sld C X 669 h1 dL_law_668 rfl ?_
  refine g_aload_n C 670 1 dL_law_669 rfl rfl ?_
  refine g_iload_n C 671 0 dL_law_670 rfl rfl ?_
  refine g_iconst C 672 (2 : Int32) dL_law_671 rfl rfl ?_
  refine g_iadd C 673 dL_law_672 rfl ?_
  refine g_sld C X 674 h2 dL_law_673 rfl ?_
  refine g_aload_n C 675 1 dL_law_674 rfl rfl ?_
  refine g_iload_n C 676 0 dL_law_675 rfl rfl ?_
  refine g_iconst C 677 (3 : Int32) dL_law_676 rfl rfl ?_
  refine g_iadd C 678 dL_law_677 rfl ?_
  refine g_sld C X 679 h3 dL_law_678 rfl ?_
  refine g_call8 (S' := S') C 682 [.int r] [.int r, .int r] (ct_X8_bestHour L o2 u S (xs (i + 1).toNatClampNeg) (xs (i + 2).toNatClampNeg) (xs (i + 3).toNatClampNeg) _ e8) kX8_bestHour kvX8_bestHour wl_L_77 rfl rfl rfl rfl (Nat.le_of_ble_eq_true rfl) ⟨Nat.le_of_ble_eq_true rfl, Nat.le_of_ble_eq_true rfl⟩ ⟨Nat.le_of_ble_eq_true rfl, Nat.le_of_ble_eq_true rfl⟩ dL_law_679 rfl ?_
  exact g_icmp_eq C 1592 685 dL_law_682 (by decide) rfl (fun _ => kk Z' S' hr) (fun c => absurd rfl c)
set_option maxHeartbeats 4000000 in
set_option maxRecDepth 100000 in
theorem lw_c15 {L : LL} {Γ : GC} {o : Nat → Nat} {q : Nat → Nat → Nat} {o2 : Nat} {u : Nat → Nat} {Z : Nat → OS} {S : OS} {b N : Nat} {xs : Nat → Int32} {i : Int32} (C : Cx L Γ cL_law RL (rmk 12 48 1334 478)) (X : Xs Γ b N xs) (h : Rel Z S) (h1 : vp_in (i + 1) N) (h2 : vp_in (i + 2) N) (h3 : vp_in (i + 3) N) (h4 : vp_in (i + 4) N) (kk : ∀ (Z' : Nat → OS) (S' : OS), Rel Z' S' → G L Γ 48 1334 (cells7 L o q Z' ++ cells8 L o2 u S') 1592 [(3, .int i), (0, .ref b), (1, .ref (o 0)), (2, .ref o2)] []) : G L Γ 48 1334 (cells7 L o q Z ++ cells8 L o2 u S) 687 [(3, .int i), (0, .ref b), (1, .ref (o 0)), (2, .ref o2)] [] := by
  obtain ⟨r, Z', S', e7, e8, hr⟩ := q_easiest h (xs (i + 1).toNatClampNeg) (xs (i + 2).toNatClampNeg) (xs (i + 3).toNatClampNeg)
  refine g_aload_n C 688 2 dL_law_687 rfl rfl ?_
  refine g_aload_n C 689 1 dL_law_688 rfl rfl ?_
  refine g_iload_n C 690 0 dL_law_689 rfl rfl ?_
  refine g_iconst C 691 (1 : Int32) dL_law_690 rfl rfl ?_
  refine g_iadd C 692 dL_law_691 rfl ?_
  refine g_sld C X 693 h1 dL_law_692 rfl ?_
  refine g_aload_n C 694 1 dL_law_693 rfl rfl ?_
  refine g_iload_n C 695 0 dL_law_694 rfl rfl ?_
  refine g_iconst C 696 (2 : Int32) dL_law_695 rfl rfl ?_
  refine g_iadd C 697 dL_law_696 rfl ?_
  refine g_sld C X 698 h2 dL_law_697 rfl ?_
  refine g_aload_n C 699 1 dL_law_698 rfl rfl ?_
  refine g_iload_n C 700 0 dL_law_699 rfl rfl ?_
  refine g_iconst C 701 (3 : Int32) dL_law_700 rfl rfl ?_
  refine g_iadd C 702 dL_law_701 rfl ?_
  refine g_sld C X 703 h3 dL_law_702 rfl ?_
  refine g_call7 (Z' := Z') C 706 [] [.int r] (ct_X7_easiest L o q Z (xs (i + 1).toNatClampNeg) (xs (i + 2).toNatClampNeg) (xs (i + 3).toNatClampNeg) _ e7) kX7_easiest kvX7_easiest wl_L_78 rfl rfl rfl rfl (Nat.le_of_ble_eq_true rfl) ⟨Nat.le_of_ble_eq_true rfl, Nat.le_of_ble_eq_true rfl⟩ ⟨Nat.le_of_ble_eq_true rfl, Nat.le_of_ble_eq_true rfl⟩ dL_law_703 rfl ?_
  refine g_aload_n C 707 3 dL_law_706 rfl rfl ?_
  refine g_aload_n C 708 1 dL_law_707 rfl rfl ?_
  refine g_iload_n C 709 0 dL_law_708 rfl rfl ?_
  refine g_iconst C 710 (1 : Int32) dL_law_709 rfl rfl ?_
  refine g_iadd C 711 dL_law_710 rfl ?_
  refine g_sld C X 712 h1 dL_law_711 rfl ?_
  refine g_aload_n C 713 1 dL_law_712 rfl rfl ?_
  refine g_iload_n C 714 0 dL_law_713 rfl rfl ?_
  refine g_iconst C 715 (2 : Int32) dL_law_714 rfl rfl ?_
  refine g_iadd C 716 dL_law_715 rfl ?_
  refine g_sld C X 717 h2 dL_law_716 rfl ?_
  refine g_aload_n C 718 1 dL_law_717 rfl rfl ?_
  refine g_iload_n C 719 0 dL_law_718 rfl rfl ?_
  refine g_iconst C 720 (3 : Int32) dL_law_719 rfl rfl ?_
  refine g_iadd C 721 dL_law_720 rfl ?_
  refine g_sld C X 722 h3 dL_law_721 rfl ?_
  refine g_call8 (S' := S') C 725 [.int r] [.int r, .int r] (ct_X8_easiest L o2 u S (xs (i + 1).toNatClampNeg) (xs (i + 2).toNatClampNeg) (xs (i + 3).toNatClampNeg) _ e8) kX8_easiest kvX8_easiest wl_L_81 rfl rfl rfl rfl (Nat.le_of_ble_eq_true rfl) ⟨Nat.le_of_ble_eq_true rfl, Nat.le_of_ble_eq_true rfl⟩ ⟨Nat.le_of_ble_eq_true rfl, Nat.le_of_ble_eq_true rfl⟩ dL_law_722 rfl ?_
  exact g_icmp_eq C 1592 728 dL_law_725 (by decide) rfl (fun _ => kk Z' S' hr) (fun c => absurd rfl c)
