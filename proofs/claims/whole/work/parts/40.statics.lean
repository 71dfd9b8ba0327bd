set_option maxHeartbeats 4000000 in
set_option maxRecDepth 100000 in
theorem ct_X7_store (L : LL) (a0 : Nat) (N0 : Nat) (f0 : Nat → Int32) (v1 : Int32) (v2 : Int32) (x : (Nat → Int32)) (h : f_X7_store N0 f0 v1 v2 = some x) : Ct L yX7_store cX7_store 3 none (rmk 0 0 0 0) 0 0 [.ref a0, .int v1, .int v2] [(a0, .inl (L.2.2, N0, .inl f0))] (Pv none [(a0, .inl (L.2.2, N0, .inl x))]) := by
  refine g_enter (lv := [(0, .ref a0), (1, .int v1), (2, .int v2)]) kX7_store rfl rfl (Nat.le_of_ble_eq_true rfl) (fun Γ C E hNL => ?_)
  unfold f_X7_store at h
  refine g_aload_n C 1 0 dX7_store_0 rfl rfl ?_
  refine g_ifnull C 4 dX7_store_1 rfl ?_
  refine g_iload_n C 5 1 dX7_store_4 rfl rfl ?_
  refine g_if_lt C 18 8 dX7_store_5 (by decide) rfl (fun c => ?_) (fun c => ?_)
  · have h := ifT c h
    exact g_vret (st := []) C E dX7_store_18 (by obtain rfl := Option.some.inj h; exact ⟨rfl, rfl⟩)
  · have h := ifF c h
    refine g_iload_n C 9 1 dX7_store_8 rfl rfl ?_
    refine g_aload_n C 10 0 dX7_store_9 rfl rfl ?_
    refine g_alen (f := f0) C 11 0 rfl dX7_store_10 rfl ?_
    refine g_icmp_ge C 18 14 dX7_store_11 (by decide) rfl (fun c => ?_) (fun c => ?_)
    · have h := ifT c h
      exact g_vret (st := []) C E dX7_store_18 (by obtain rfl := Option.some.inj h; exact ⟨rfl, rfl⟩)
    · have h := ifF c h
      refine g_aload_n C 15 0 dX7_store_14 rfl rfl ?_
      refine g_iload_n C 16 1 dX7_store_15 rfl rfl ?_
      refine g_iload_n C 17 2 dX7_store_16 rfl rfl ?_
      refine grdE h (fun hb h => ?_)
      refine g_iast (f := f0) (w' := [(a0, .inl (L.2.2, N0, .inl (upd f0 (v1).toNatClampNeg v2)))]) C 18 0 rfl hb dX7_store_17 rfl rfl ?_
      exact g_vret (st := []) C E dX7_store_18 (by obtain rfl := Option.some.inj h; exact ⟨rfl, rfl⟩)
set_option maxHeartbeats 4000000 in
set_option maxRecDepth 100000 in
theorem ct_X7_at (L : LL) (a0 : Nat) (N0 : Nat) (f0 : Nat → Int32) (v1 : Int32) (x : Int32) (h : f_X7_at N0 f0 v1 = some x) : Ct L yX7_at cX7_at 2 (some .int) (rmk 0 0 0 0) 0 0 [.ref a0, .int v1] [(a0, .inl (L.2.2, N0, .inl f0))] (Pv (some (.int x)) [(a0, .inl (L.2.2, N0, .inl f0))]) := by
  refine g_enter (lv := [(0, .ref a0), (1, .int v1)]) kX7_at rfl rfl (Nat.le_of_ble_eq_true rfl) (fun Γ C E hNL => ?_)
  unfold f_X7_at at h
  refine g_aload_n C 1 0 dX7_at_0 rfl rfl ?_
  refine g_ifnull C 4 dX7_at_1 rfl ?_
  refine g_iload_n C 5 1 dX7_at_4 rfl rfl ?_
  refine g_if_lt C 20 8 dX7_at_5 (by decide) rfl (fun c => ?_) (fun c => ?_)
  · have h := ifT c h
    refine g_iconst C 21 (0 : Int32) dX7_at_20 rfl rfl ?_
    exact g_iret (st := []) C E dX7_at_21 (by obtain rfl := Option.some.inj h; exact ⟨rfl, rfl⟩)
  · have h := ifF c h
    refine g_iload_n C 9 1 dX7_at_8 rfl rfl ?_
    refine g_aload_n C 10 0 dX7_at_9 rfl rfl ?_
    refine g_alen (f := f0) C 11 0 rfl dX7_at_10 rfl ?_
    refine g_icmp_ge C 20 14 dX7_at_11 (by decide) rfl (fun c => ?_) (fun c => ?_)
    · have h := ifT c h
      refine g_iconst C 21 (0 : Int32) dX7_at_20 rfl rfl ?_
      exact g_iret (st := []) C E dX7_at_21 (by obtain rfl := Option.some.inj h; exact ⟨rfl, rfl⟩)
    · have h := ifF c h
      refine g_aload_n C 15 0 dX7_at_14 rfl rfl ?_
      refine g_iload_n C 16 1 dX7_at_15 rfl rfl ?_
      refine grdE h (fun hb h => ?_)
      refine g_iald (f := f0) C 17 0 rfl hb dX7_at_16 rfl ?_
      refine g_goto C 21 dX7_at_17 (by decide) ?_
      exact g_iret (st := []) C E dX7_at_21 (by obtain rfl := Option.some.inj h; exact ⟨rfl, rfl⟩)
set_option maxHeartbeats 4000000 in
set_option maxRecDepth 100000 in
theorem ct_X7_has (L : LL) (v0 : Int32) (v1 : Int32) (x : Int32) (h : f_X7_has v0 v1 = some x) : Ct L yX7_has cX7_has 2 (some .boolean) (rmk 0 0 0 0) 0 0 [.int v0, .int v1] [] (Pv (some (.int x)) []) := by
  refine g_enter (lv := [(0, .int v0), (1, .int v1)]) kX7_has rfl rfl (Nat.le_of_ble_eq_true rfl) (fun Γ C E hNL => ?_)
  unfold f_X7_has at h
  refine g_iload_n C 1 0 dX7_has_0 rfl rfl ?_
  refine g_iload_n C 2 1 dX7_has_1 rfl rfl ?_
  refine g_ishr C 3 dX7_has_2 rfl ?_
  refine g_iconst C 4 (1 : Int32) dX7_has_3 rfl rfl ?_
  refine g_iand C 5 dX7_has_4 rfl ?_
  refine g_iconst C 6 (1 : Int32) dX7_has_5 rfl rfl ?_
  refine g_icmp_ne C 13 9 dX7_has_6 (by decide) rfl (fun c => ?_) (fun c => ?_)
  · have h := ifF c h
    refine g_iconst C 14 (0 : Int32) dX7_has_13 rfl rfl ?_
    exact g_zret (st := []) C E dX7_has_14 rfl (by obtain rfl := Option.some.inj h; exact ⟨rfl, rfl⟩)
  · have h := ifT c h
    refine g_iconst C 10 (1 : Int32) dX7_has_9 rfl rfl ?_
    refine g_goto C 14 dX7_has_10 (by decide) ?_
    exact g_zret (st := []) C E dX7_has_14 rfl (by obtain rfl := Option.some.inj h; exact ⟨rfl, rfl⟩)
set_option maxHeartbeats 4000000 in
set_option maxRecDepth 100000 in
theorem ct_X7_isEither (L : LL) (v0 : Int32) (x : Int32) (h : f_X7_isEither v0 = some x) : Ct L yX7_isEither cX7_isEither 1 (some .boolean) (rmk 0 0 0 0) 0 0 [.int v0] [] (Pv (some (.int x)) []) := by
  refine g_enter (lv := [(0, .int v0)]) kX7_isEither rfl rfl (Nat.le_of_ble_eq_true rfl) (fun Γ C E hNL => ?_)
  unfold f_X7_isEither at h
  refine g_iload_n C 1 0 dX7_isEither_0 rfl rfl ?_
  refine g_if_eq C 9 4 dX7_isEither_1 (by decide) rfl (fun c => ?_) (fun c => ?_)
  · have h := ifT c h
    refine g_iconst C 10 (1 : Int32) dX7_isEither_9 rfl rfl ?_
    refine g_goto C 14 dX7_isEither_10 (by decide) ?_
    exact g_zret (st := []) C E dX7_isEither_14 rfl (by obtain rfl := Option.some.inj h; exact ⟨rfl, rfl⟩)
  · have h := ifF c h
    refine g_iload_n C 5 0 dX7_isEither_4 rfl rfl ?_
    refine g_iconst C 6 (1 : Int32) dX7_isEither_5 rfl rfl ?_
    refine g_icmp_ne C 13 9 dX7_isEither_6 (by decide) rfl (fun c => ?_) (fun c => ?_)
    · have h := ifF c h
      refine g_iconst C 14 (0 : Int32) dX7_isEither_13 rfl rfl ?_
      exact g_zret (st := []) C E dX7_isEither_14 rfl (by obtain rfl := Option.some.inj h; exact ⟨rfl, rfl⟩)
    · have h := ifT c h
      refine g_iconst C 10 (1 : Int32) dX7_isEither_9 rfl rfl ?_
      refine g_goto C 14 dX7_isEither_10 (by decide) ?_
      exact g_zret (st := []) C E dX7_isEither_14 rfl (by obtain rfl := Option.some.inj h; exact ⟨rfl, rfl⟩)
set_option maxHeartbeats 4000000 in
set_option maxRecDepth 100000 in
theorem ct_J6_bitCount_0f7a4 (L : LL) (v0 : Int32) (x : Int32) (h : f_J6_bitCount_0f7a4 v0 = some x) : Ct L yJ6_bitCount_0f7a4 cJ6_bitCount_0f7a4 1 (some .int) (rmk 0 0 0 0) 0 0 [.int v0] [] (Pv (some (.int x)) []) := by
  refine g_enter (lv := [(0, .int v0)]) kJ6_bitCount_0f7a4 rfl rfl (Nat.le_of_ble_eq_true rfl) (fun Γ C E hNL => ?_)
  unfold f_J6_bitCount_0f7a4 at h
  refine g_iload_n C 1 0 dJ6_bitCount_0f7a4_0 rfl rfl ?_
  refine g_iload_n C 2 0 dJ6_bitCount_0f7a4_1 rfl rfl ?_
  refine g_iconst C 3 (1 : Int32) dJ6_bitCount_0f7a4_2 rfl rfl ?_
  refine g_iushr C 4 dJ6_bitCount_0f7a4_3 rfl ?_
  refine g_ldcw (v := (1431655765 : Int32)) C 7 dJ6_bitCount_0f7a4_4 rfl wc_J6_265 ?_
  refine g_iand C 8 dJ6_bitCount_0f7a4_7 rfl ?_
  refine g_isub C 9 dJ6_bitCount_0f7a4_8 rfl ?_
  refine g_istore_n C 10 0 [(0, .int (v0 - ((ushr v0 (1 : Int32)) &&& (1431655765 : Int32))))] dJ6_bitCount_0f7a4_9 rfl rfl 1 hNL (by decide) rfl ?_
  refine g_iload_n C 11 0 dJ6_bitCount_0f7a4_10 rfl rfl ?_
  refine g_ldcw (v := (858993459 : Int32)) C 14 dJ6_bitCount_0f7a4_11 rfl wc_J6_266 ?_
  refine g_iand C 15 dJ6_bitCount_0f7a4_14 rfl ?_
  refine g_iload_n C 16 0 dJ6_bitCount_0f7a4_15 rfl rfl ?_
  refine g_iconst C 17 (2 : Int32) dJ6_bitCount_0f7a4_16 rfl rfl ?_
  refine g_iushr C 18 dJ6_bitCount_0f7a4_17 rfl ?_
  refine g_ldcw (v := (858993459 : Int32)) C 21 dJ6_bitCount_0f7a4_18 rfl wc_J6_266 ?_
  refine g_iand C 22 dJ6_bitCount_0f7a4_21 rfl ?_
  refine g_iadd C 23 dJ6_bitCount_0f7a4_22 rfl ?_
  refine g_istore_n C 24 0 [(0, .int (((v0 - ((ushr v0 (1 : Int32)) &&& (1431655765 : Int32))) &&& (858993459 : Int32)) + ((ushr (v0 - ((ushr v0 (1 : Int32)) &&& (1431655765 : Int32))) (2 : Int32)) &&& (858993459 : Int32))))] dJ6_bitCount_0f7a4_23 rfl rfl 1 hNL (by decide) rfl ?_
  refine g_iload_n C 25 0 dJ6_bitCount_0f7a4_24 rfl rfl ?_
  refine g_iload_n C 26 0 dJ6_bitCount_0f7a4_25 rfl rfl ?_
  refine g_iconst C 27 (4 : Int32) dJ6_bitCount_0f7a4_26 rfl rfl ?_
  refine g_iushr C 28 dJ6_bitCount_0f7a4_27 rfl ?_
  refine g_iadd C 29 dJ6_bitCount_0f7a4_28 rfl ?_
  refine g_ldcw (v := (252645135 : Int32)) C 32 dJ6_bitCount_0f7a4_29 rfl wc_J6_267 ?_
  refine g_iand C 33 dJ6_bitCount_0f7a4_32 rfl ?_
  refine g_istore_n C 34 0 [(0, .int (((((v0 - ((ushr v0 (1 : Int32)) &&& (1431655765 : Int32))) &&& (858993459 : Int32)) + ((ushr (v0 - ((ushr v0 (1 : Int32)) &&& (1431655765 : Int32))) (2 : Int32)) &&& (858993459 : Int32))) + (ushr (((v0 - ((ushr v0 (1 : Int32)) &&& (1431655765 : Int32))) &&& (858993459 : Int32)) + ((ushr (v0 - ((ushr v0 (1 : Int32)) &&& (1431655765 : Int32))) (2 : Int32)) &&& (858993459 : Int32))) (4 : Int32))) &&& (252645135 : Int32)))] dJ6_bitCount_0f7a4_33 rfl rfl 1 hNL (by decide) rfl ?_
  refine g_iload_n C 35 0 dJ6_bitCount_0f7a4_34 rfl rfl ?_
  refine g_iload_n C 36 0 dJ6_bitCount_0f7a4_35 rfl rfl ?_
  refine g_bipush C 38 (8 : Int32) dJ6_bitCount_0f7a4_36 rfl rfl ?_
  refine g_iushr C 39 dJ6_bitCount_0f7a4_38 rfl ?_
  refine g_iadd C 40 dJ6_bitCount_0f7a4_39 rfl ?_
  refine g_istore_n C 41 0 [(0, .int ((((((v0 - ((ushr v0 (1 : Int32)) &&& (1431655765 : Int32))) &&& (858993459 : Int32)) + ((ushr (v0 - ((ushr v0 (1 : Int32)) &&& (1431655765 : Int32))) (2 : Int32)) &&& (858993459 : Int32))) + (ushr (((v0 - ((ushr v0 (1 : Int32)) &&& (1431655765 : Int32))) &&& (858993459 : Int32)) + ((ushr (v0 - ((ushr v0 (1 : Int32)) &&& (1431655765 : Int32))) (2 : Int32)) &&& (858993459 : Int32))) (4 : Int32))) &&& (252645135 : Int32)) + (ushr (((((v0 - ((ushr v0 (1 : Int32)) &&& (1431655765 : Int32))) &&& (858993459 : Int32)) + ((ushr (v0 - ((ushr v0 (1 : Int32)) &&& (1431655765 : Int32))) (2 : Int32)) &&& (858993459 : Int32))) + (ushr (((v0 - ((ushr v0 (1 : Int32)) &&& (1431655765 : Int32))) &&& (858993459 : Int32)) + ((ushr (v0 - ((ushr v0 (1 : Int32)) &&& (1431655765 : Int32))) (2 : Int32)) &&& (858993459 : Int32))) (4 : Int32))) &&& (252645135 : Int32)) (8 : Int32))))] dJ6_bitCount_0f7a4_40 rfl rfl 1 hNL (by decide) rfl ?_
  refine g_iload_n C 42 0 dJ6_bitCount_0f7a4_41 rfl rfl ?_
  refine g_iload_n C 43 0 dJ6_bitCount_0f7a4_42 rfl rfl ?_
  refine g_bipush C 45 (16 : Int32) dJ6_bitCount_0f7a4_43 rfl rfl ?_
  refine g_iushr C 46 dJ6_bitCount_0f7a4_45 rfl ?_
  refine g_iadd C 47 dJ6_bitCount_0f7a4_46 rfl ?_
  refine g_istore_n C 48 0 [(0, .int (((((((v0 - ((ushr v0 (1 : Int32)) &&& (1431655765 : Int32))) &&& (858993459 : Int32)) + ((ushr (v0 - ((ushr v0 (1 : Int32)) &&& (1431655765 : Int32))) (2 : Int32)) &&& (858993459 : Int32))) + (ushr (((v0 - ((ushr v0 (1 : Int32)) &&& (1431655765 : Int32))) &&& (858993459 : Int32)) + ((ushr (v0 - ((ushr v0 (1 : Int32)) &&& (1431655765 : Int32))) (2 : Int32)) &&& (858993459 : Int32))) (4 : Int32))) &&& (252645135 : Int32)) + (ushr (((((v0 - ((ushr v0 (1 : Int32)) &&& (1431655765 : Int32))) &&& (858993459 : Int32)) + ((ushr (v0 - ((ushr v0 (1 : Int32)) &&& (1431655765 : Int32))) (2 : Int32)) &&& (858993459 : Int32))) + (ushr (((v0 - ((ushr v0 (1 : Int32)) &&& (1431655765 : Int32))) &&& (858993459 : Int32)) + ((ushr (v0 - ((ushr v0 (1 : Int32)) &&& (1431655765 : Int32))) (2 : Int32)) &&& (858993459 : Int32))) (4 : Int32))) &&& (252645135 : Int32)) (8 : Int32))) + (ushr ((((((v0 - ((ushr v0 (1 : Int32)) &&& (1431655765 : Int32))) &&& (858993459 : Int32)) + ((ushr (v0 - ((ushr v0 (1 : Int32)) &&& (1431655765 : Int32))) (2 : Int32)) &&& (858993459 : Int32))) + (ushr (((v0 - ((ushr v0 (1 : Int32)) &&& (1431655765 : Int32))) &&& (858993459 : Int32)) + ((ushr (v0 - ((ushr v0 (1 : Int32)) &&& (1431655765 : Int32))) (2 : Int32)) &&& (858993459 : Int32))) (4 : Int32))) &&& (252645135 : Int32)) + (ushr (((((v0 - ((ushr v0 (1 : Int32)) &&& (1431655765 : Int32))) &&& (858993459 : Int32)) + ((ushr (v0 - ((ushr v0 (1 : Int32)) &&& (1431655765 : Int32))) (2 : Int32)) &&& (858993459 : Int32))) + (ushr (((v0 - ((ushr v0 (1 : Int32)) &&& (1431655765 : Int32))) &&& (858993459 : Int32)) + ((ushr (v0 - ((ushr v0 (1 : Int32)) &&& (1431655765 : Int32))) (2 : Int32)) &&& (858993459 : Int32))) (4 : Int32))) &&& (252645135 : Int32)) (8 : Int32))) (16 : Int32))))] dJ6_bitCount_0f7a4_47 rfl rfl 1 hNL (by decide) rfl ?_
  refine g_iload_n C 49 0 dJ6_bitCount_0f7a4_48 rfl rfl ?_
  refine g_bipush C 51 (63 : Int32) dJ6_bitCount_0f7a4_49 rfl rfl ?_
  refine g_iand C 52 dJ6_bitCount_0f7a4_51 rfl ?_
  exact g_iret (st := []) C E dJ6_bitCount_0f7a4_52 (by obtain rfl := Option.some.inj h; exact ⟨rfl, rfl⟩)
set_option maxHeartbeats 4000000 in
set_option maxRecDepth 100000 in
theorem ct_X7_remainder (L : LL) (v0 : Int32) (v1 : Int32) (x : Int32) (h : f_X7_remainder v0 v1 = some x) : Ct L yX7_remainder cX7_remainder 2 (some .int) (rmk 0 0 0 0) 0 0 [.int v0, .int v1] [] (Pv (some (.int x)) []) := by
  refine g_enter (lv := [(0, .int v0), (1, .int v1)]) kX7_remainder rfl rfl (Nat.le_of_ble_eq_true rfl) (fun Γ C E hNL => ?_)
  unfold f_X7_remainder at h
  refine g_iload_n C 1 1 dX7_remainder_0 rfl rfl ?_
  refine g_iconst C 2 (1 : Int32) dX7_remainder_1 rfl rfl ?_
  refine g_icmp_ge C 9 5 dX7_remainder_2 (by decide) rfl (fun c => ?_) (fun c => ?_)
  · have h := ifT c h
    refine g_iload_n C 10 0 dX7_remainder_9 rfl rfl ?_
    refine g_iload_n C 11 1 dX7_remainder_10 rfl rfl ?_
    refine grdN h (fun hne h => ?_)
    refine g_irem C 12 dX7_remainder_11 rfl hne ?_
    exact g_iret (st := []) C E dX7_remainder_12 (by obtain rfl := Option.some.inj h; exact ⟨rfl, rfl⟩)
  · have h := ifF c h
    refine g_iconst C 6 (0 : Int32) dX7_remainder_5 rfl rfl ?_
    refine g_goto C 12 dX7_remainder_6 (by decide) ?_
    exact g_iret (st := []) C E dX7_remainder_12 (by obtain rfl := Option.some.inj h; exact ⟨rfl, rfl⟩)
set_option maxHeartbeats 4000000 in
set_option maxRecDepth 100000 in
theorem ct_X7_power (L : LL) (v0 : Int32) (v1 : Int32) (x : Int64) (h : f_X7_power v0 v1 = some x) : Ct L yX7_power cX7_power 5 (some .long) (rmk 0 0 0 0) 0 0 [.int v0, .int v1] [] (Pv (some (.long x)) []) := by
  refine g_enter (lv := [(0, .int v0), (1, .int v1)]) kX7_power rfl rfl (Nat.le_of_ble_eq_true rfl) (fun Γ C E hNL => ?_)
  have J_5 : ∀ (n : Nat) (v0 : Int32) (v1 : Int32) (v2 : Int64) (v4 : Int32), Lp2 (b_X7_power_5   v0 v1) n v2 v4 = some x → G L Γ 0 0 [] 5 [(0, .int v0), (1, .int v1), (2, .long v2), (4, .int v4)] [] := by
    intro n v0 v1
    refine lp_ok2 (fun v2 v4 => G L Γ 0 0 [] 5 [(0, .int v0), (1, .int v1), (2, .long v2), (4, .int v4)] []) (fun k_5 hk_5 => ?_) n
    intro v2 v4 h
    unfold b_X7_power_5 at h
    refine g_iload C 7 3 dX7_power_5 rfl rfl ?_
    refine g_iload_n C 8 1 dX7_power_7 rfl rfl ?_
    refine g_icmp_ge C 22 11 dX7_power_8 (by decide) rfl (fun c => ?_) (fun c => ?_)
    · have h := ifT c h
      refine g_lload_n C 23 2 dX7_power_22 rfl rfl ?_
      exact g_lret (st := []) C E dX7_power_23 (by obtain rfl := Option.some.inj h; exact ⟨rfl, rfl⟩)
    · have h := ifF c h
      refine g_lload_n C 12 2 dX7_power_11 rfl rfl ?_
      refine g_iload_n C 13 0 dX7_power_12 rfl rfl ?_
      refine g_i2l C 14 dX7_power_13 rfl ?_
      refine g_lmul C 15 dX7_power_14 rfl ?_
      refine g_lstore_n C 16 2 [(2, .long (v2 * (v0).toInt64)), (0, .int v0), (1, .int v1), (4, .int v4)] dX7_power_15 rfl rfl 5 hNL (by decide) rfl ?_
      refine g_iinc C 19 (1 : Int32) 3 [(4, .int (v4 + (1 : Int32))), (2, .long (v2 * (v0).toInt64)), (0, .int v0), (1, .int v1)] dX7_power_16 rfl rfl 5 hNL (by decide) rfl rfl ?_
      refine g_goto C 5 dX7_power_19 (by decide) ?_
      refine g_lv (lv' := [(0, .int v0), (1, .int v1), (2, .long (v2 * (v0).toInt64)), (4, .int (v4 + (1 : Int32)))]) [2, 3, 1, 0] rfl ?_
      exact hk_5 _ _ h
  unfold f_X7_power at h
  refine g_lconst C 1 (1 : Int64) dX7_power_0 rfl rfl ?_
  refine g_lstore_n C 2 2 [(2, .long (1 : Int64)), (0, .int v0), (1, .int v1)] dX7_power_1 rfl rfl 5 hNL (by decide) rfl ?_
  refine g_iconst C 3 (0 : Int32) dX7_power_2 rfl rfl ?_
  refine g_istore C 5 4 [(4, .int (0 : Int32)), (2, .long (1 : Int64)), (0, .int v0), (1, .int v1)] dX7_power_3 rfl 5 hNL (by decide) rfl ?_
  refine g_lv (lv' := [(0, .int v0), (1, .int v1), (2, .long (1 : Int64)), (4, .int (0 : Int32))]) [2, 3, 1, 0] rfl ?_
  exact J_5 _ _ _ _ _ h
set_option maxHeartbeats 4000000 in
set_option maxRecDepth 100000 in
theorem ct_X7_copyRow (L : LL) (a0 : Nat) (N0 : Nat) (f0 : Nat → Int32) (a1 : Nat) (N1 : Nat) (f1 : Nat → Int32) (v2 : Int32) (x : (Nat → Int32)) (h : f_X7_copyRow N0 f0 N1 f1 v2 = some x) : Ct L yX7_copyRow cX7_copyRow 4 none (rmk 1 0 0 22) 0 0 [.ref a0, .ref a1, .int v2] [(a0, .inl (L.2.2, N0, .inl f0)), (a1, .inl (L.2.2, N1, .inl f1))] (Pv none [(a0, .inl (L.2.2, N0, .inl f0)), (a1, .inl (L.2.2, N1, .inl x))]) := by
  refine g_enter (lv := [(0, .ref a0), (1, .ref a1), (2, .int v2)]) kX7_copyRow rfl rfl (Nat.le_of_ble_eq_true rfl) (fun Γ C E hNL => ?_)
  have J_2 : ∀ (n : Nat) (v2 : Int32) (v3 : Int32) (f1 : (Nat → Int32)), Lp2 (b_X7_copyRow_2 N0 f0 N1  v2) n v3 f1 = some x → G L Γ 0 0 [(a0, .inl (L.2.2, N0, .inl f0)), (a1, .inl (L.2.2, N1, .inl f1))] 2 [(0, .ref a0), (1, .ref a1), (2, .int v2), (3, .int v3)] [] := by
    intro n v2
    refine lp_ok2 (fun v3 f1 => G L Γ 0 0 [(a0, .inl (L.2.2, N0, .inl f0)), (a1, .inl (L.2.2, N1, .inl f1))] 2 [(0, .ref a0), (1, .ref a1), (2, .int v2), (3, .int v3)] []) (fun k_2 hk_2 => ?_) n
    intro v3 f1 h
    unfold b_X7_copyRow_2 at h
    refine g_iload_n C 3 3 dX7_copyRow_2 rfl rfl ?_
    refine g_iload_n C 4 2 dX7_copyRow_3 rfl rfl ?_
    refine g_icmp_ge C 23 7 dX7_copyRow_4 (by decide) rfl (fun c => ?_) (fun c => ?_)
    · have h := ifT c h
      exact g_vret (st := []) C E dX7_copyRow_23 (by obtain rfl := Option.some.inj h; exact ⟨rfl, rfl⟩)
    · have h := ifF c h
      refine g_aload_n C 8 1 dX7_copyRow_7 rfl rfl ?_
      refine g_iload_n C 9 3 dX7_copyRow_8 rfl rfl ?_
      refine g_aload_n C 10 0 dX7_copyRow_9 rfl rfl ?_
      refine g_iload_n C 11 3 dX7_copyRow_10 rfl rfl ?_
      refine bnd h (fun x1 e1 h => ?_)
      refine g_callSr C 14 [.int v3, .ref a1] [.int x1, .int v3, .ref a1] (ct_X7_at L a0 N0 f0 v3 x1 e1) kX7_at kvX7_at wl_X7_100 [0] rfl rfl rfl rfl rfl (Nat.le_of_ble_eq_true rfl) ⟨Nat.le_of_ble_eq_true rfl, Nat.le_of_ble_eq_true rfl⟩ ⟨Nat.zero_le _, Nat.zero_le _⟩ dX7_copyRow_11 rfl ?_
      refine bnd h (fun x2 e2 h => ?_)
      refine g_callSw (w' := [(a0, .inl (L.2.2, N0, .inl f0)), (a1, .inl (L.2.2, N1, .inl x2))]) C 17 [] [] (ct_X7_store L a1 N1 f1 v3 x1 x2 e2) kX7_store kvX7_store wl_X7_345 [1] rfl rfl rfl rfl rfl rfl rfl (Nat.le_of_ble_eq_true rfl) ⟨Nat.le_of_ble_eq_true rfl, Nat.le_of_ble_eq_true rfl⟩ ⟨Nat.zero_le _, Nat.zero_le _⟩ dX7_copyRow_14 rfl ?_
      refine g_iinc C 20 (1 : Int32) 3 [(3, .int (v3 + (1 : Int32))), (0, .ref a0), (1, .ref a1), (2, .int v2)] dX7_copyRow_17 rfl rfl 4 hNL (by decide) rfl rfl ?_
      refine g_goto C 2 dX7_copyRow_20 (by decide) ?_
      refine g_lv (lv' := [(0, .ref a0), (1, .ref a1), (2, .int v2), (3, .int (v3 + (1 : Int32)))]) [1, 2, 3, 0] rfl ?_
      exact hk_2 _ _ h
  unfold f_X7_copyRow at h
  refine g_iconst C 1 (0 : Int32) dX7_copyRow_0 rfl rfl ?_
  refine g_istore_n C 2 3 [(3, .int (0 : Int32)), (0, .ref a0), (1, .ref a1), (2, .int v2)] dX7_copyRow_1 rfl rfl 4 hNL (by decide) rfl ?_
  refine g_lv (lv' := [(0, .ref a0), (1, .ref a1), (2, .int v2), (3, .int (0 : Int32))]) [1, 2, 3, 0] rfl ?_
  exact J_2 _ _ _ _ h
set_option maxHeartbeats 4000000 in
set_option maxRecDepth 100000 in
theorem ct_X7_isHour (L : LL) (v0 : Int32) (x : Int32) (h : f_X7_isHour v0 = some x) : Ct L yX7_isHour cX7_isHour 1 (some .boolean) (rmk 0 0 0 0) 0 0 [.int v0] [] (Pv (some (.int x)) []) := by
  refine g_enter (lv := [(0, .int v0)]) kX7_isHour rfl rfl (Nat.le_of_ble_eq_true rfl) (fun Γ C E hNL => ?_)
  unfold f_X7_isHour at h
  refine g_iload_n C 1 0 dX7_isHour_0 rfl rfl ?_
  refine g_if_lt C 14 4 dX7_isHour_1 (by decide) rfl (fun c => ?_) (fun c => ?_)
  · have h := ifT c h
    refine g_iconst C 15 (0 : Int32) dX7_isHour_14 rfl rfl ?_
    exact g_zret (st := []) C E dX7_isHour_15 rfl (by obtain rfl := Option.some.inj h; exact ⟨rfl, rfl⟩)
  · have h := ifF c h
    refine g_iload_n C 5 0 dX7_isHour_4 rfl rfl ?_
    refine g_bipush C 7 (24 : Int32) dX7_isHour_5 rfl rfl ?_
    refine g_icmp_ge C 14 10 dX7_isHour_7 (by decide) rfl (fun c => ?_) (fun c => ?_)
    · have h := ifT c h
      refine g_iconst C 15 (0 : Int32) dX7_isHour_14 rfl rfl ?_
      exact g_zret (st := []) C E dX7_isHour_15 rfl (by obtain rfl := Option.some.inj h; exact ⟨rfl, rfl⟩)
    · have h := ifF c h
      refine g_iconst C 11 (1 : Int32) dX7_isHour_10 rfl rfl ?_
      refine g_goto C 15 dX7_isHour_11 (by decide) ?_
      exact g_zret (st := []) C E dX7_isHour_15 rfl (by obtain rfl := Option.some.inj h; exact ⟨rfl, rfl⟩)
set_option maxHeartbeats 4000000 in
set_option maxRecDepth 100000 in
theorem ct_X7_greatestDivisor (L : LL) (v0 : Int64) (v2 : Int64) (x : Int64) (h : f_X7_greatestDivisor v0 v2 = some x) : Ct L yX7_greatestDivisor cX7_greatestDivisor 11 (some .long) (rmk 0 0 0 0) 0 0 [.long v0, .long v2] [] (Pv (some (.long x)) []) := by
  refine g_enter (lv := [(0, .long v0), (2, .long v2)]) kX7_greatestDivisor rfl rfl (Nat.le_of_ble_eq_true rfl) (fun Γ C E hNL => ?_)
  have J_9 : ∀ (n : Nat)  (v4 : Int64) (v6 : Int64) (v8 : Int32), Lp3 (b_X7_greatestDivisor_9   ) n v4 v6 v8 = some x → G L Γ 0 0 [] 9 [(4, .long v4), (6, .long v6), (8, .int v8)] [] := by
    intro n 
    refine lp_ok3 (fun v4 v6 v8 => G L Γ 0 0 [] 9 [(4, .long v4), (6, .long v6), (8, .int v8)] []) (fun k_9 hk_9 => ?_) n
    intro v4 v6 v8 h
    unfold b_X7_greatestDivisor_9 at h
    refine g_iload C 11 2 dX7_greatestDivisor_9 rfl rfl ?_
    refine g_sipush C 14 (200 : Int32) dX7_greatestDivisor_11 rfl rfl ?_
    refine g_icmp_ge C 45 17 dX7_greatestDivisor_14 (by decide) rfl (fun c => ?_) (fun c => ?_)
    · have h := ifT c h
      refine g_lload C 47 0 dX7_greatestDivisor_45 rfl rfl ?_
      exact g_lret (st := []) C E dX7_greatestDivisor_47 (by obtain rfl := Option.some.inj h; exact ⟨rfl, rfl⟩)
    · have h := ifF c h
      refine g_lload C 19 1 dX7_greatestDivisor_17 rfl rfl ?_
      refine g_lconst C 20 (0 : Int64) dX7_greatestDivisor_19 rfl rfl ?_
      refine g_lcmp C 21 dX7_greatestDivisor_20 rfl ?_
      refine g_if_eq C 45 24 dX7_greatestDivisor_21 (by decide) rfl (fun c => ?_) (fun c => ?_)
      · have h := ifT c h
        refine g_lload C 47 0 dX7_greatestDivisor_45 rfl rfl ?_
        exact g_lret (st := []) C E dX7_greatestDivisor_47 (by obtain rfl := Option.some.inj h; exact ⟨rfl, rfl⟩)
      · have h := ifF c h
        refine g_lload C 26 0 dX7_greatestDivisor_24 rfl rfl ?_
        refine g_lload C 28 1 dX7_greatestDivisor_26 rfl rfl ?_
        refine grdL h (fun hne h => ?_)
        refine g_lrem C 29 dX7_greatestDivisor_28 rfl hne ?_
        refine g_lstore C 31 9 [(9, .long (remL v4 v6)), (4, .long v4), (6, .long v6), (8, .int v8)] dX7_greatestDivisor_29 rfl 11 hNL (by decide) rfl ?_
        refine g_lload C 33 2 dX7_greatestDivisor_31 rfl rfl ?_
        refine g_lstore C 35 4 [(4, .long v6), (9, .long (remL v4 v6)), (6, .long v6), (8, .int v8)] dX7_greatestDivisor_33 rfl 11 hNL (by decide) rfl ?_
        refine g_lload C 37 1 dX7_greatestDivisor_35 rfl rfl ?_
        refine g_lstore C 39 6 [(6, .long (remL v4 v6)), (4, .long v6), (9, .long (remL v4 v6)), (8, .int v8)] dX7_greatestDivisor_37 rfl 11 hNL (by decide) rfl ?_
        refine g_iinc C 42 (1 : Int32) 3 [(8, .int (v8 + (1 : Int32))), (6, .long (remL v4 v6)), (4, .long v6), (9, .long (remL v4 v6))] dX7_greatestDivisor_39 rfl rfl 11 hNL (by decide) rfl rfl ?_
        refine g_goto C 9 dX7_greatestDivisor_42 (by decide) ?_
        refine g_lv (lv' := [(4, .long v6), (6, .long (remL v4 v6)), (8, .int (v8 + (1 : Int32)))]) [2, 1, 0] rfl ?_
        exact hk_9 _ _ _ h
  unfold f_X7_greatestDivisor at h
  refine g_lload_n C 1 0 dX7_greatestDivisor_0 rfl rfl ?_
  refine g_lstore C 3 4 [(4, .long v0), (0, .long v0), (2, .long v2)] dX7_greatestDivisor_1 rfl 11 hNL (by decide) rfl ?_
  refine g_lload_n C 4 2 dX7_greatestDivisor_3 rfl rfl ?_
  refine g_lstore C 6 6 [(6, .long v2), (4, .long v0), (0, .long v0), (2, .long v2)] dX7_greatestDivisor_4 rfl 11 hNL (by decide) rfl ?_
  refine g_iconst C 7 (0 : Int32) dX7_greatestDivisor_6 rfl rfl ?_
  refine g_istore C 9 8 [(8, .int (0 : Int32)), (6, .long v2), (4, .long v0), (0, .long v0), (2, .long v2)] dX7_greatestDivisor_7 rfl 11 hNL (by decide) rfl ?_
  refine g_lv (lv' := [(4, .long v0), (6, .long v2), (8, .int (0 : Int32))]) [2, 1, 0] rfl ?_
  exact J_9 _ _ _ _ h
set_option maxHeartbeats 4000000 in
set_option maxRecDepth 100000 in
theorem ct_X7_partOf (L : LL) (v0 : Int64) (v2 : Int64) (v4 : Int32) (x : Int64) (h : f_X7_partOf v0 v2 v4 = some x) : Ct L yX7_partOf cX7_partOf 7 (some .long) (rmk 1 0 0 30) 0 0 [.long v0, .long v2, .int v4] [] (Pv (some (.long x)) []) := by
  refine g_enter (lv := [(0, .long v0), (2, .long v2), (4, .int v4)]) kX7_partOf rfl rfl (Nat.le_of_ble_eq_true rfl) (fun Γ C E hNL => ?_)
  unfold f_X7_partOf at h
  refine g_lload_n C 1 0 dX7_partOf_0 rfl rfl ?_
  refine g_lload_n C 2 1 dX7_partOf_1 rfl rfl ?_
  refine bnd h (fun x1 e1 h => ?_)
  refine g_callSr C 5 [] [.long x1] (ct_X7_greatestDivisor L v0 v2 x1 e1) kX7_greatestDivisor kvX7_greatestDivisor wl_X7_354 [] rfl rfl rfl rfl rfl (Nat.le_of_ble_eq_true rfl) ⟨Nat.le_of_ble_eq_true rfl, Nat.le_of_ble_eq_true rfl⟩ ⟨Nat.zero_le _, Nat.zero_le _⟩ dX7_partOf_2 rfl ?_
  refine g_lstore C 7 5 [(5, .long x1), (0, .long v0), (2, .long v2), (4, .int v4)] dX7_partOf_5 rfl 7 hNL (by decide) rfl ?_
  refine g_lload C 9 0 dX7_partOf_7 rfl rfl ?_
  refine g_lconst C 10 (1 : Int64) dX7_partOf_9 rfl rfl ?_
  refine g_lcmp C 11 dX7_partOf_10 rfl ?_
  refine g_if_ge C 25 14 dX7_partOf_11 (by decide) rfl (fun c => ?_) (fun c => ?_)
  · have h := ifT c h
    refine g_iload C 27 3 dX7_partOf_25 rfl rfl ?_
    refine g_if_ne C 34 30 dX7_partOf_27 (by decide) rfl (fun c => ?_) (fun c => ?_)
    · have h := ifF c h
      refine g_lload_n C 35 2 dX7_partOf_34 rfl rfl ?_
      refine g_lload C 37 0 dX7_partOf_35 rfl rfl ?_
      refine grdL h (fun hne h => ?_)
      refine g_ldiv C 38 dX7_partOf_37 rfl hne ?_
      exact g_lret (st := []) C E dX7_partOf_38 (by obtain rfl := Option.some.inj h; exact ⟨rfl, rfl⟩)
    · have h := ifT c h
      refine g_lload_n C 31 1 dX7_partOf_30 rfl rfl ?_
      refine g_goto C 35 dX7_partOf_31 (by decide) ?_
      refine g_lload C 37 0 dX7_partOf_35 rfl rfl ?_
      refine grdL h (fun hne h => ?_)
      refine g_ldiv C 38 dX7_partOf_37 rfl hne ?_
      exact g_lret (st := []) C E dX7_partOf_38 (by obtain rfl := Option.some.inj h; exact ⟨rfl, rfl⟩)
  · have h := ifF c h
    refine g_iload C 16 3 dX7_partOf_14 rfl rfl ?_
    refine g_if_ne C 23 19 dX7_partOf_16 (by decide) rfl (fun c => ?_) (fun c => ?_)
    · have h := ifF c h
      refine g_lconst C 24 (1 : Int64) dX7_partOf_23 rfl rfl ?_
      exact g_lret (st := []) C E dX7_partOf_24 (by obtain rfl := Option.some.inj h; exact ⟨rfl, rfl⟩)
    · have h := ifT c h
      refine g_lconst C 20 (0 : Int64) dX7_partOf_19 rfl rfl ?_
      refine g_goto C 24 dX7_partOf_20 (by decide) ?_
      exact g_lret (st := []) C E dX7_partOf_24 (by obtain rfl := Option.some.inj h; exact ⟨rfl, rfl⟩)
