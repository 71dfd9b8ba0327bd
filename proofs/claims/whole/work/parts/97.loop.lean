/-! THE LAW: its switch, its loop -/
set_option maxHeartbeats 4000000 in
set_option maxRecDepth 100000 in
theorem lw_switch {L : LL} {Γ : GC} {o : Nat → Nat} {q : Nat → Nat → Nat} {o2 : Nat} {u : Nat → Nat} {Z : Nat → OS} {S : OS} {b N : Nat} {xs : Nat → Int32} {i : Int32} (C : Cx L Γ cL_law RL (rmk 12 48 1334 478)) (X : Xs Γ b N xs) (h : Rel Z S) (h1 : vp_in (i + 1) N) (h2 : vp_in (i + 2) N) (h3 : vp_in (i + 3) N) (h4 : vp_in (i + 4) N) (x : Int32) (kk : ∀ (Z' : Nat → OS) (S' : OS), Rel Z' S' → G L Γ 48 1334 (cells7 L o q Z' ++ cells8 L o2 u S') 1592 [(3, .int i), (0, .ref b), (1, .ref (o 0)), (2, .ref o2)] []) : G L Γ 48 1334 (cells7 L o q Z ++ cells8 L o2 u S) 32 [(3, .int i), (0, .ref b), (1, .ref (o 0)), (2, .ref o2)] [.int x] := by
  by_cases cr : x.toInt < 0 ∨ 45 < x.toInt
  · exact g_tabOut C 1592 dL_law_32 cr (by decide) (kk Z S h)
  · obtain ⟨m, hm, e⟩ : ∃ m : Nat, m < 46 ∧ x.toInt = (m : Int) := ⟨x.toInt.toNat, by omega, by omega⟩
    match m, hm, e with
    | 0, _, e => exact g_tabIn C 232 200 dL_law_32 (by omega) (by omega) (by rw [e]; rfl) (by decide) (lw_c0 C X h h1 h2 h3 h4 kk)
    | 1, _, e => exact g_tabIn C 255 223 dL_law_32 (by omega) (by omega) (by rw [e]; rfl) (by decide) (lw_c1 C X h h1 h2 h3 h4 kk)
    | 2, _, e => exact g_tabIn C 268 236 dL_law_32 (by omega) (by omega) (by rw [e]; rfl) (by decide) (lw_c2 C X h h1 h2 h3 h4 kk)
    | 3, _, e => exact g_tabIn C 301 269 dL_law_32 (by omega) (by omega) (by rw [e]; rfl) (by decide) (lw_c3 C X h h1 h2 h3 h4 kk)
    | 4, _, e => exact g_tabIn C 334 302 dL_law_32 (by omega) (by omega) (by rw [e]; rfl) (by decide) (lw_c4 C X h h1 h2 h3 h4 kk)
    | 5, _, e => exact g_tabIn C 377 345 dL_law_32 (by omega) (by omega) (by rw [e]; rfl) (by decide) (lw_c5 C X h h1 h2 h3 h4 kk)
    | 6, _, e => exact g_tabIn C 400 368 dL_law_32 (by omega) (by omega) (by rw [e]; rfl) (by decide) (lw_c6 C X h h1 h2 h3 h4 kk)
    | 7, _, e => exact g_tabIn C 423 391 dL_law_32 (by omega) (by omega) (by rw [e]; rfl) (by decide) (lw_c7 C X h h1 h2 h3 h4 kk)
    | 8, _, e => exact g_tabIn C 456 424 dL_law_32 (by omega) (by omega) (by rw [e]; rfl) (by decide) (lw_c8 C X h h1 h2 h3 h4 kk)
    | 9, _, e => exact g_tabIn C 489 457 dL_law_32 (by omega) (by omega) (by rw [e]; rfl) (by decide) (lw_c9 C X h h1 h2 h3 h4 kk)
    | 10, _, e => exact g_tabIn C 522 490 dL_law_32 (by omega) (by omega) (by rw [e]; rfl) (by decide) (lw_c10 C X h h1 h2 h3 h4 kk)
    | 11, _, e => exact g_tabIn C 535 503 dL_law_32 (by omega) (by omega) (by rw [e]; rfl) (by decide) (lw_c11 C X h h1 h2 h3 h4 kk)
    | 12, _, e => exact g_tabIn C 548 516 dL_law_32 (by omega) (by omega) (by rw [e]; rfl) (by decide) (lw_c12 C X h h1 h2 h3 h4 kk)
    | 13, _, e => exact g_tabIn C 591 559 dL_law_32 (by omega) (by omega) (by rw [e]; rfl) (by decide) (lw_c13 C X h h1 h2 h3 h4 kk)
    | 14, _, e => exact g_tabIn C 644 612 dL_law_32 (by omega) (by omega) (by rw [e]; rfl) (by decide) (lw_c14 C X h h1 h2 h3 h4 kk)
    | 15, _, e => exact g_tabIn C 687 655 dL_law_32 (by omega) (by omega) (by rw [e]; rfl) (by decide) (lw_c15 C X h h1 h2 h3 h4 kk)
    | 16, _, e => exact g_tabIn C 730 698 dL_law_32 (by omega) (by omega) (by rw [e]; rfl) (by decide) (lw_c16 C X h h1 h2 h3 h4 kk)
    | 17, _, e => exact g_tabIn C 773 741 dL_law_32 (by omega) (by omega) (by rw [e]; rfl) (by decide) (lw_c17 C X h h1 h2 h3 h4 kk)
    | 18, _, e => exact g_tabIn C 817 785 dL_law_32 (by omega) (by omega) (by rw [e]; rfl) (by decide) (lw_c18 C X h h1 h2 h3 h4 kk)
    | 19, _, e => exact g_tabIn C 850 818 dL_law_32 (by omega) (by omega) (by rw [e]; rfl) (by decide) (lw_c19 C X h h1 h2 h3 h4 kk)
    | 20, _, e => exact g_tabIn C 863 831 dL_law_32 (by omega) (by omega) (by rw [e]; rfl) (by decide) (lw_c20 C X h h1 h2 h3 h4 kk)
    | 21, _, e => exact g_tabIn C 896 864 dL_law_32 (by omega) (by omega) (by rw [e]; rfl) (by decide) (lw_c21 C X h h1 h2 h3 h4 kk)
    | 22, _, e => exact g_tabIn C 929 897 dL_law_32 (by omega) (by omega) (by rw [e]; rfl) (by decide) (lw_c22 C X h h1 h2 h3 h4 kk)
    | 23, _, e => exact g_tabIn C 972 940 dL_law_32 (by omega) (by omega) (by rw [e]; rfl) (by decide) (lw_c23 C X h h1 h2 h3 h4 kk)
    | 24, _, e => exact g_tabIn C 985 953 dL_law_32 (by omega) (by omega) (by rw [e]; rfl) (by decide) (lw_c24 C X h h1 h2 h3 h4 kk)
    | 25, _, e => exact g_tabIn C 1018 986 dL_law_32 (by omega) (by omega) (by rw [e]; rfl) (by decide) (lw_c25 C X h h1 h2 h3 h4 kk)
    | 26, _, e => exact g_tabIn C 1051 1019 dL_law_32 (by omega) (by omega) (by rw [e]; rfl) (by decide) (lw_c26 C X h h1 h2 h3 h4 kk)
    | 27, _, e => exact g_tabIn C 1094 1062 dL_law_32 (by omega) (by omega) (by rw [e]; rfl) (by decide) (lw_c27 C X h h1 h2 h3 h4 kk)
    | 28, _, e => exact g_tabIn C 1148 1116 dL_law_32 (by omega) (by omega) (by rw [e]; rfl) (by decide) (lw_c28 C X h h1 h2 h3 h4 kk)
    | 29, _, e => exact g_tabIn C 1171 1139 dL_law_32 (by omega) (by omega) (by rw [e]; rfl) (by decide) (lw_c29 C X h h1 h2 h3 h4 kk)
    | 30, _, e => exact g_tabIn C 1204 1172 dL_law_32 (by omega) (by omega) (by rw [e]; rfl) (by decide) (lw_c30 C X h h1 h2 h3 h4 kk)
    | 31, _, e => exact g_tabIn C 1247 1215 dL_law_32 (by omega) (by omega) (by rw [e]; rfl) (by decide) (lw_c31 C X h h1 h2 h3 h4 kk)
    | 32, _, e => exact g_tabIn C 1260 1228 dL_law_32 (by omega) (by omega) (by rw [e]; rfl) (by decide) (lw_c32 C X h h1 h2 h3 h4 kk)
    | 33, _, e => exact g_tabIn C 1293 1261 dL_law_32 (by omega) (by omega) (by rw [e]; rfl) (by decide) (lw_c33 C X h h1 h2 h3 h4 kk)
    | 34, _, e => exact g_tabIn C 1316 1284 dL_law_32 (by omega) (by omega) (by rw [e]; rfl) (by decide) (lw_c34 C X h h1 h2 h3 h4 kk)
    | 35, _, e => exact g_tabIn C 1349 1317 dL_law_32 (by omega) (by omega) (by rw [e]; rfl) (by decide) (lw_c35 C X h h1 h2 h3 h4 kk)
    | 36, _, e => exact g_tabIn C 1382 1350 dL_law_32 (by omega) (by omega) (by rw [e]; rfl) (by decide) (lw_c36 C X h h1 h2 h3 h4 kk)
    | 37, _, e => exact g_tabIn C 1405 1373 dL_law_32 (by omega) (by omega) (by rw [e]; rfl) (by decide) (lw_c37 C X h h1 h2 h3 h4 kk)
    | 38, _, e => exact g_tabIn C 1418 1386 dL_law_32 (by omega) (by omega) (by rw [e]; rfl) (by decide) (lw_c38 C X h h1 h2 h3 h4 kk)
    | 39, _, e => exact g_tabIn C 1441 1409 dL_law_32 (by omega) (by omega) (by rw [e]; rfl) (by decide) (lw_c39 C X h h1 h2 h3 h4 kk)
    | 40, _, e => exact g_tabIn C 1464 1432 dL_law_32 (by omega) (by omega) (by rw [e]; rfl) (by decide) (lw_c40 C X h h1 h2 h3 h4 kk)
    | 41, _, e => exact g_tabIn C 1487 1455 dL_law_32 (by omega) (by omega) (by rw [e]; rfl) (by decide) (lw_c41 C X h h1 h2 h3 h4 kk)
    | 42, _, e => exact g_tabIn C 1500 1468 dL_law_32 (by omega) (by omega) (by rw [e]; rfl) (by decide) (lw_c42 C X h h1 h2 h3 h4 kk)
    | 43, _, e => exact g_tabIn C 1543 1511 dL_law_32 (by omega) (by omega) (by rw [e]; rfl) (by decide) (lw_c43 C X h h1 h2 h3 h4 kk)
    | 44, _, e => exact g_tabIn C 1556 1524 dL_law_32 (by omega) (by omega) (by rw [e]; rfl) (by decide) (lw_c44 C X h h1 h2 h3 h4 kk)
    | 45, _, e => exact g_tabIn C 1569 1537 dL_law_32 (by omega) (by omega) (by rw [e]; rfl) (by decide) (lw_c45 C X h h1 h2 h3 h4 kk)
    | m + 46, hm, _ => exact absurd hm (by omega)
theorem lw_five {N j : Nat} (hN : N ≤ 2560) (hj : j ≤ N + 4) (c : ¬ (nI N - 5 < nI j)) : j + 5 ≤ N := by
  rcases Nat.lt_or_ge N (j + 5) with h | h
  · refine absurd ?_ c
    rw [Int32.lt_iff_toInt_lt, Int32.toInt_sub, nI_toInt (by omega), nI_toInt (by omega), show (5 : Int32).toInt = 5 from by decide, Int.bmod_eq_of_le (by omega) (by omega)]
    omega
  · exact h
theorem lw_vp {N j a : Nat} {i : Int32} (hi : i = nI j) (hN : N ≤ 2560) (h : j + 5 ≤ N) (ha : a < 5) : vp_in (i + nI a) N := by
  rw [hi, nI_add]
  exact vp_in_nI (by omega) (by omega)
set_option maxHeartbeats 4000000 in
set_option maxRecDepth 100000 in
theorem lw_loop {L : LL} {Γ : GC} {o : Nat → Nat} {q : Nat → Nat → Nat} {o2 : Nat} {u : Nat → Nat} {b N : Nat} {xs : Nat → Int32} (C : Cx L Γ cL_law RL (rmk 12 48 1334 478)) (X : Xs Γ b N xs) (hNL : gNL Γ = 4) (hN : N ≤ 2560) (E : ∀ (Z : Nat → OS) (S : OS) (lv : List (Nat × Value)), G L Γ 48 1334 (cells7 L o q Z ++ cells8 L o2 u S) 1598 lv []) : ∀ (m j : Nat) (i : Int32) (Z : Nat → OS) (S : OS), i = nI j → j ≤ N + 4 → N + 5 ≤ j + m → Rel Z S → G L Γ 48 1334 (cells7 L o q Z ++ cells8 L o2 u S) 18 [(3, .int i), (0, .ref b), (1, .ref (o 0)), (2, .ref o2)] [] := by
  intro m
  induction m with
  | zero => intro j i Z S _ h1 h2; exact absurd h2 (by omega)
  | succ m ih =>
    intro j i Z S hi hj hm h
    refine g_iload_n C 19 0 dL_law_18 rfl rfl ?_
    refine g_aload_n C 20 1 dL_law_19 rfl rfl ?_
    refine g_slen C X 21 dL_law_20 rfl ?_
    refine g_iconst C 22 (5 : Int32) dL_law_21 rfl rfl ?_
    refine g_isub C 23 dL_law_22 rfl ?_
    refine g_icmp_gt C 1598 26 dL_law_23 (by decide) rfl (fun _ => E Z S _) (fun c => ?_)
    rw [hi] at c
    have h5 := lw_five hN hj c
    have h0 : vp_in i N := by rw [hi]; exact vp_in_nI (by omega) (by omega)
    refine g_aload_n C 27 1 dL_law_26 rfl rfl ?_
    refine g_iload_n C 28 0 dL_law_27 rfl rfl ?_
    refine g_sld C X 29 h0 dL_law_28 rfl ?_
    refine g_bipush C 31 (63 : Int32) dL_law_29 rfl rfl ?_
    refine g_iand C 32 dL_law_31 rfl ?_
    refine lw_switch C X h (lw_vp (a := 1) hi hN h5 (by decide)) (lw_vp (a := 2) hi hN h5 (by decide)) (lw_vp (a := 3) hi hN h5 (by decide)) (lw_vp (a := 4) hi hN h5 (by decide)) _ (fun Z' S' hr => ?_)
    refine g_iinc C 1595 (5 : Int32) 0 [(3, .int (i + 5)), (0, .ref b), (1, .ref (o 0)), (2, .ref o2)] dL_law_1592 rfl rfl 4 hNL (by decide) rfl rfl ?_
    refine g_goto C 18 dL_law_1595 (by decide) ?_
    exact ih (j + 5) (i + 5) Z' S' (by rw [hi]; exact nI_add j 5) (by omega) (by omega) hr
